/-! days with more told -/
theorem crossM_pre {o : Om} {cs cs' : Log2} {su : Sup} {d : Nat} {m : Mu} : ∀ k, (∀ i, i < k → cs'.getD i (0, 0) = cs.getD i (0, 0)) → crossM o cs' su d k m = crossM o cs su d k m
  | 0, _ => rfl
  | k + 1, h => by
    have ih := crossM_pre (o := o) (su := su) (d := d) (m := m) k (fun i hi => h i (by omega))
    have e : crosses1 o cs' su d k = crosses1 o cs su d k := by unfold crosses1; rw [h k (by omega)]
    show (if crosses1 o cs' su d k then _ else _) = (if crosses1 o cs su d k then _ else _)
    rw [e, h k (by omega), ih]
theorem catchM_pre {ca ca' : Log2} {d : Nat} {m : Mu} : ∀ k, (∀ i, i < k → ca'.getD i (0, 0) = ca.getD i (0, 0)) → catchM ca' d k m = catchM ca d k m
  | 0, _ => rfl
  | k + 1, h => by
    have ih := catchM_pre (d := d) (m := m) k (fun i hi => h i (by omega))
    show (if (ca'.getD k (0, 0)).1 = (d : Int) then _ else _) = (if (ca.getD k (0, 0)).1 = (d : Int) then _ else _)
    rw [h k (by omega), ih]
theorem sno_pre {α : Type} (l : List α) (x z : α) : ∀ i, i < l.length → (l ++ [x]).getD i z = l.getD i z := fun i hi => by rw [sno_at, if_pos hi]
theorem crossM_sno {o : Om} {cs : Log2} {su : Sup} {d a p : Nat} {m : Mu} (hs : su.1 ≠ some cs.length) (hp : p < nP o.2) : crossM o (cs ++ [((a : Int), (p : Int))]) su d (cs ++ [((a : Int), (p : Int))]).length m = if a = d then (exchM p (su.2 p) (crossM o cs su d cs.length m)).1 else crossM o cs su d cs.length m := by
  have e := crossM_pre (o := o) (su := su) (d := d) (m := m) cs.length (sno_pre cs ((a : Int), (p : Int)) (0, 0))
  have hg : (cs ++ [((a : Int), (p : Int))]).getD cs.length (0, 0) = ((a : Int), (p : Int)) := by rw [sno_at, if_neg (Nat.lt_irrefl _), if_pos rfl]
  rw [sno_len]
  by_cases q : a = d
  · rw [if_pos q]
    have h1 : crosses1 o (cs ++ [((a : Int), (p : Int))]) su d cs.length = true := (crosses1_iff _ _ _ _ _).mpr (by rw [hg]; exact ⟨by show (a : Int) = d; omega, hs, by show (p : Int) < nP o.2; omega⟩)
    rw [(crossM_yes h1).1, hg, e]
    simp
  · rw [if_neg q]
    have h1 : crosses1 o (cs ++ [((a : Int), (p : Int))]) su d cs.length = false := by
      cases z : crosses1 o (cs ++ [((a : Int), (p : Int))]) su d cs.length with
      | false => rfl
      | true =>
        have := ((crosses1_iff _ _ _ _ _).mp z).1
        rw [hg] at this
        have : (a : Int) = d := this
        omega
    rw [(crossM_no h1).1, e]
theorem dayM_sno {o : Om} {cs ca : Log2} {su : Sup} {fl : Nat → Bool} {d a p : Nat} {m : Mu} (hs : su.1 ≠ some cs.length) (hp : p < nP o.2) : dayM o (cs ++ [((a : Int), (p : Int))]) su ca fl d m = if a = d then oneM o cs su ca fl d p m else dayM o cs su ca fl d m := by
  unfold dayM oneM
  rw [crossM_sno hs hp]
  by_cases q : a = d
  · rw [if_pos q, if_pos q]
  · rw [if_neg q, if_neg q]
theorem goM_sno {o : Om} {cs ca : Log2} {su : Sup} {fl : Nat → Bool} {f a p : Nat} {m : Mu} (hs : su.1 ≠ some cs.length) (hp : p < nP o.2) (hf : a < f) : ∀ n, goM o (cs ++ [((a : Int), (p : Int))]) su ca fl f n m = goM o cs su ca fl f n m
  | 0 => rfl
  | n + 1 => by
    show dayM o (cs ++ [((a : Int), (p : Int))]) su ca fl (f + n) (goM o (cs ++ [((a : Int), (p : Int))]) su ca fl f n m) = dayM o cs su ca fl (f + n) (goM o cs su ca fl f n m)
    rw [goM_sno hs hp hf n, dayM_sno hs hp, if_neg (by omega)]
theorem ahead_sno {o : Om} {cs ca : Log2} {su : Sup} {fl : Nat → Bool} {a p : Nat} (hs : su.1 ≠ some cs.length) (hp : p < nP o.2) : ∀ n, aheadM o (cs ++ [((a : Int), (p : Int))]) su ca fl n = if n ≤ a then aheadM o cs su ca fl n else goM o cs su ca fl (a + 1) (n - (a + 1)) (oneM o cs su ca fl a p (aheadM o cs su ca fl a))
  | 0 => by rw [if_pos (Nat.zero_le _)]; rfl
  | n + 1 => by
    have ih := ahead_sno (ca := ca) (fl := fl) (a := a) hs hp n
    show dayM o (cs ++ [((a : Int), (p : Int))]) su ca fl n (aheadM o (cs ++ [((a : Int), (p : Int))]) su ca fl n) = _
    rw [dayM_sno hs hp, ih]
    rcases Nat.lt_trichotomy n a with q | q | q
    · rw [if_neg (by omega), if_pos (by omega), if_pos (by omega)]; rfl
    · subst q
      rw [if_pos rfl, if_pos (Nat.le_refl _), if_neg (by omega), Nat.sub_self]; rfl
    · rw [if_neg (by omega), if_neg (by omega), if_neg (by omega), show n + 1 - (a + 1) = (n - (a + 1)) + 1 by omega]
      show _ = dayM o cs su ca fl (a + 1 + (n - (a + 1))) _
      rw [show a + 1 + (n - (a + 1)) = n by omega]
theorem ahead_sno2 {o : Om} {cs ca : Log2} {su : Sup} {fl : Nat → Bool} {a b p : Nat} (hs : su.1 = none) (hp : p < nP o.2) (hab : a < b) {n : Nat} (hn : b < n) : aheadM o ((cs ++ [((a : Int), (p : Int))]) ++ [((b : Int), (p : Int))]) su ca fl n = goM o cs su ca fl (b + 1) (n - (b + 1)) (oneM o cs su ca fl b p (goM o cs su ca fl (a + 1) (b - (a + 1)) (oneM o cs su ca fl a p (aheadM o cs su ca fl a)))) := by
  have hs1 : su.1 ≠ some cs.length := by rw [hs]; simp
  rw [ahead_sno (by rw [hs]; simp) hp, if_neg (by omega), goM_sno hs1 hp (by omega), ahead_sno hs1 hp, if_neg (by omega)]
  have : ∀ m, oneM o (cs ++ [((a : Int), (p : Int))]) su ca fl b p m = oneM o cs su ca fl b p m := fun m => by
    unfold oneM; rw [crossM_sno hs1 hp, if_neg (by omega)]
  rw [this]
/-- one who crosses once more, twice more: is he called so -/
def rt0 (T : TT) (p : Nat) (l : Int) (n : Nat) : Prop := calM T.1.1 T.2.1 (ahS T.1 n) p = l
def rt1 (T : TT) (p : Nat) (l : Int) (n a : Nat) : Prop := calM T.1.1 T.2.1 (aheadM T.1.1 (T.1.2.1 ++ [((a : Int), (p : Int))]) (toldS T.1.1.2) T.1.2.2.1 (floodB T.1.2.2.2.1) n) p = l
def rt2 (T : TT) (p : Nat) (l : Int) (n a b : Nat) : Prop := calM T.1.1 T.2.1 (aheadM T.1.1 ((T.1.2.1 ++ [((a : Int), (p : Int))]) ++ [((b : Int), (p : Int))]) (toldS T.1.1.2) T.1.2.2.1 (floodB T.1.2.2.2.1) n) p = l
/-- how many, which day, which later day; n is the day behind -/
def RV (T : TT) (p : Nat) (l : Int) (n : Nat) (c x y : Int) : Prop :=
  (rt0 T p l n ∧ c = 0 ∧ x = -1 ∧ y = -1) ∨
  (¬ rt0 T p l n ∧ ∃ a, a < n ∧ rt1 T p l n a ∧ (∀ a', a' < a → ¬ rt1 T p l n a') ∧ c = 1 ∧ x = (a : Int) ∧ y = -1) ∨
  (¬ rt0 T p l n ∧ (∀ a, a < n → ¬ rt1 T p l n a) ∧ ∃ a b, a < b ∧ b < n ∧ rt2 T p l n a b ∧ (∀ b', a < b' → b' < b → ¬ rt2 T p l n a b') ∧ (∀ a' b', a' < a → a' < b' → b' < n → ¬ rt2 T p l n a' b') ∧ c = 2 ∧ x = (a : Int) ∧ y = (b : Int)) ∨
  (¬ rt0 T p l n ∧ (∀ a, a < n → ¬ rt1 T p l n a) ∧ (∀ a b, a < b → b < n → ¬ rt2 T p l n a b) ∧ c = -1 ∧ x = -1 ∧ y = -1)
theorem RV.one {T : TT} {p : Nat} {l : Int} {n : Nat} {c x y c' x' y' : Int} (h : RV T p l n c x y) (h' : RV T p l n c' x' y') : c = c' ∧ x = x' ∧ y = y' := by
  rcases h with ⟨r, e1, e2, e3⟩ | ⟨r, a, ha, ra, ma, e1, e2, e3⟩ | ⟨r, na, a, b, hab, hb, rb, mb, mab, e1, e2, e3⟩ | ⟨r, na, nb, e1, e2, e3⟩ <;> rcases h' with ⟨r', e1', e2', e3'⟩ | ⟨r', a', ha', ra', ma', e1', e2', e3'⟩ | ⟨r', na', a', b', hab', hb', rb', mb', mab', e1', e2', e3'⟩ | ⟨r', na', nb', e1', e2', e3'⟩
  · rw [e1, e2, e3, e1', e2', e3']; exact ⟨rfl, rfl, rfl⟩
  · exact absurd r r'
  · exact absurd r r'
  · exact absurd r r'
  · exact absurd r' r
  · have : a = a' := by
      rcases Nat.lt_trichotomy a a' with q | q | q
      · exact absurd ra (ma' a q)
      · exact q
      · exact absurd ra' (ma a' q)
    subst this
    rw [e1, e2, e3, e1', e2', e3']; exact ⟨rfl, rfl, rfl⟩
  · exact absurd ra (na' a ha)
  · exact absurd ra (na' a ha)
  · exact absurd r' r
  · exact absurd ra' (na a' ha')
  · have : a = a' := by
      rcases Nat.lt_trichotomy a a' with q | q | q
      · exact absurd rb (mab' a b q hab hb)
      · exact q
      · exact absurd rb' (mab a' b' q hab' hb')
    subst this
    have : b = b' := by
      rcases Nat.lt_trichotomy b b' with q | q | q
      · exact absurd rb (mb' b hab q)
      · exact q
      · exact absurd rb' (mb b' hab' q)
    subst this
    rw [e1, e2, e3, e1', e2', e3']; exact ⟨rfl, rfl, rfl⟩
  · exact absurd rb (nb' a b hab hb)
  · exact absurd r' r
  · exact absurd ra' (na a' ha')
  · exact absurd rb' (nb a' b' hab' hb')
  · rw [e1, e2, e3, e1', e2', e3']; exact ⟨rfl, rfl, rfl⟩
def Vret (T : TT) (p l d i z : Int) : Prop := (¬ ((0 ≤ p ∧ p < (nP T.1.1.2 : Int)) ∧ (0 ≤ l ∧ l < 26) ∧ (0 ≤ d ∧ d < 20) ∧ (-1 ≤ i ∧ i ≤ 1)) ∧ z = -2) ∨ (((0 ≤ p ∧ p < (nP T.1.1.2 : Int)) ∧ (0 ≤ l ∧ l < 26) ∧ (0 ≤ d ∧ d < 20) ∧ (-1 ≤ i ∧ i ≤ 1)) ∧ ∃ c x y, RV T p.toNat l (d.toNat + 1) c x y ∧ z = if i = -1 then c else if i = 0 then x else y)
theorem Vret.one {T : TT} {p l d i z z' : Int} (h : Vret T p l d i z) (h' : Vret T p l d i z') : z = z' := by
  rcases h with ⟨q, e⟩ | ⟨q, c, x, y, hr, e⟩ <;> rcases h' with ⟨q', e'⟩ | ⟨q', c', x', y', hr', e'⟩
  · rw [e, e']
  · exact absurd q' q
  · exact absurd q q'
  · obtain ⟨h1, h2, h3⟩ := hr.one hr'
    rw [e, e', h1, h2, h3]
section BK
variable {w : GX} {d : Nat} {P : PN} {g : GI} {T : TT}
theorem IS.En (h : IS g T) : En g T.1.1 T.1.2.1 T.1.2.2.1 := ⟨h.2.2.1, h.1.1.2.2.1, h.1.1.2.2.2.1⟩
theorem FrW.Q {g g' : GI} {a : Nat} (h : FrW g g' a) (h1 : 136 ≤ a) (h2 : a ≤ 210) : FrQ g g' := fun b hb => h b (by omega)
theorem FrQ.up {g g' : GI} {a j : Nat} {z : Int} (h : FrQ g g') (h1 : 136 ≤ a) (h2 : a ≤ 214) : FrQ g (up2 g' a j z) := fun b hb => by rw [up2_ne _ _ _ (by omega)]; exact h b hb
theorem c_keepBack {x1 x2 x3 : Int} (k : ∀ g', FrQ g g' → (∀ b, b ≠ 136 → b ≠ 147 → g' b = g b) → g' 136 5 = x1 → g' 147 0 = x2 → g' 147 1 = x3 → P none g') : Zm w d mX5_keepBack 0 [some (aR (some 136)), some (aI x1), some (aI x2), some (aI x3)] [] g P := by
  have n0 : (nm 0).toNat = 0 := by decide
  have n1 : (nm 1).toNat = 1 := by decide
  refine s_X5_keepBack_0 _ _ _ (fun g1 e1 g2 e2 g3 e3 => ?_)
  rw [n0] at e2
  rw [n1] at e3
  subst e1; subst e2; subst e3
  refine k _ (fun b hb => ?_) (fun b z1 z2 => ?_) ?_ ?_ ?_
  · rw [up2_ne _ _ _ (by omega), up2_ne _ _ _ (by omega), up2_ne _ _ _ (by omega)]
  · rw [up2_ne _ _ _ z2, up2_ne _ _ _ z2, up2_ne _ _ _ z1]
  · simp [up2_ap]
  · simp [up2_ap]
  · simp [up2_ap]
/-- the soonest later day -/
theorem c_nextBack {p a n : Nat} {l zn : Int} (hT : GT T) (h : IS g T) (hp : p < nP T.1.1.2) (el : nm l = l) (ha : a < n) (hn : n ≤ 20) (hz : zn = (n : Int) - 1)
    (k : ∀ g' z, IS g' T → FrQ g g' → ((z = -1 ∧ ∀ b, a < b → b < n → ¬ rt2 T p l n a b) ∨ ∃ b, a < b ∧ b < n ∧ z = (b : Int) ∧ rt2 T p l n a b ∧ ∀ b', a < b' → b' < b → ¬ rt2 T p l n a b') → P (some (aI z)) g') : Zm w (d + 3) mX5_nextForBack 0 [some (aR (some 136)), some (aI (p : Int)), some (aI l), some (aI (a : Int)), some (aI zn), none] [] g P := by
  have hB := hT.1.BO
  have hE := hT.1.EB
  have h0 := hT.1.h0
  have hSB := hT.1.SB
  have ea : nm (a : Int) = a := nm_id (by omega) (by omega)
  have ez : nm zn = (n : Int) - 1 := by rw [hz]; exact nm_id (by omega) (by omega)
  refine s_X5_nextForBack_0 _ _ _ _ ?_
  rw [ea, Int.toNat_natCast]
  refine ⟨by omega, by omega, ?_⟩
  have wfa := hT.1.wf a
  refine c_become isW_137 (isW_ahead a (by omega)) (Or.inr (by omega)) hB (h.2.2.2.2.2.1 a (by omega)) (wfa.len hB) (fun g1 w1 f1 => ⟨rfl, ?_⟩)
  have h1 := h.keep (f1.Q (by omega) (by omega))
  refine c_oneMore isW_137 hE h1.En h1.2.2.2.2.1 h1.2.2.2.1 hSB w1 wfa (by omega) hp (fun g2 w2 f2 => ⟨rfl, fun v8 e8 => ?_⟩)
  have f12 := (f1.Q (by omega) (by omega)).trans (f2.Q (by omega) (by omega))
  have wf2 := Wf.one (ca := T.1.2.2.1) (su := toldS T.1.1.2) (fl := floodB T.1.2.2.2.1) (d := a) hB h0 hp wfa
  have := loopN (σ := GI) (fun i s => Zm w (d + 3) mX5_nextForBack 34 [some (aR (some 136)), some (aI (p : Int)), some (aI l), none, some (aI zn), some (aI ((a + 1 + i : Nat) : Int))] [] s P) (fun i s => FrQ g s ∧ WR s 137 T.1.1 (goM T.1.1 T.1.2.1 (toldS T.1.1.2) T.1.2.2.1 (floodB T.1.2.2.2.1) (a + 1) i (oneM T.1.1 T.1.2.1 (toldS T.1.1.2) T.1.2.2.1 (floodB T.1.2.2.2.1) a p (ahS T.1 a))) ∧ ∀ b, a < b → b < a + 1 + i → ¬ rt2 T p l n a b) (n - (a + 1)) ?_ ?_ 0 g2 (Nat.zero_le _) ⟨f12, w2, fun b z1 z2 => by omega⟩
  · rw [e8]; exact this
  · intro g3 ⟨r1, r2, r3⟩
    have e1 : nm ((a + 1 + (n - (a + 1)) : Nat) : Int) = n := by rw [nm_id (by omega) (by omega)]; omega
    refine s_X5_nextForBack_34 _ _ _ _ ?_
    rw [ez, e1]
    exact ⟨fun _ => k g3 _ (h.keep r1) r1 (Or.inl ⟨rfl, fun b z1 z2 => r3 b z1 (by omega)⟩), fun z => absurd z (by omega)⟩
  · intro i g3 hi ⟨r1, r2, r3⟩ ih
    have h3 := h.keep r1
    have wf3 := wf2.go (su := toldS T.1.1.2) (ca := T.1.2.2.1) (fl := floodB T.1.2.2.2.1) (f := a + 1) hB h0 i
    have e1 : nm ((a + 1 + i : Nat) : Int) = ((a + 1 + i : Nat) : Int) := nm_id (by omega) (by omega)
    refine s_X5_nextForBack_34 _ _ _ _ ?_
    rw [ez, e1]
    refine ⟨fun z => absurd z (by omega), fun _ => ?_⟩
    refine c_become isW_142 isW_137 (Or.inr (by omega)) hB r2 (wf3.len hB) (fun g4 w4 f4 => ⟨rfl, ?_⟩)
    have h4 := h3.keep (f4.Q (by omega) (by omega))
    refine c_oneMore isW_142 hE h4.En h4.2.2.2.2.1 h4.2.2.2.1 hSB w4 wf3 (by omega) hp (fun g5 w5 f5 => ⟨rfl, ?_⟩)
    have h5 := h4.keep (f5.Q (by omega) (by omega))
    have wf5 := Wf.one (ca := T.1.2.2.1) (su := toldS T.1.1.2) (fl := floodB T.1.2.2.2.1) (d := a + 1 + i) hB h0 hp wf3
    rw [show ((a + 1 + i : Nat) : Int) + 1 = ((a + 1 + i + 1 : Nat) : Int) by omega]
    refine c_go isW_142 isC_28 hE h5.En h5.2.2.2.2.1 h5.2.2.2.1 hSB w5 wf5 hz (by omega) hn (fun g6 w6 f6 => ⟨rfl, ?_⟩)
    have h6 := h5.keep (f6.Q (by omega) (by omega))
    have wf6 := wf5.go (su := toldS T.1.1.2) (ca := T.1.2.2.1) (fl := floodB T.1.2.2.2.1) (f := a + 1 + i + 1) hB h0 (n - (a + 1 + i + 1))
    refine c_letterOf isW_142 hB h6.2.2.1 w6 wf6 hp ⟨_, rfl, ?_⟩
    rw [h6.1.2.2.1, nm_calM hT.1 _ wf6 hp, el]
    have hr2 : rt2 T p l n a (a + 1 + i) ↔ calM T.1.1 T.2.1 (goM T.1.1 T.1.2.1 (toldS T.1.1.2) T.1.2.2.1 (floodB T.1.2.2.2.1) (a + 1 + i + 1) (n - (a + 1 + i + 1)) (oneM T.1.1 T.1.2.1 (toldS T.1.1.2) T.1.2.2.1 (floodB T.1.2.2.2.1) (a + 1 + i) p (goM T.1.1 T.1.2.1 (toldS T.1.1.2) T.1.2.2.1 (floodB T.1.2.2.2.1) (a + 1) i (oneM T.1.1 T.1.2.1 (toldS T.1.1.2) T.1.2.2.1 (floodB T.1.2.2.2.1) a p (ahS T.1 a))))) p = l := by
      unfold rt2
      rw [ahead_sno2 (by rfl) hp (by omega) (by omega), show a + 1 + i - (a + 1) = i by omega]
    rw [← hr2]
    have f36 : FrQ g3 g6 := ((f4.Q (by omega) (by omega)).trans (f5.Q (by omega) (by omega))).trans (f6.Q (by omega) (by omega))
    have w36 : WR g6 137 T.1.1 (goM T.1.1 T.1.2.1 (toldS T.1.1.2) T.1.2.2.1 (floodB T.1.2.2.2.1) (a + 1) i (oneM T.1.1 T.1.2.1 (toldS T.1.1.2) T.1.2.2.1 (floodB T.1.2.2.2.1) a p (ahS T.1 a))) := ((r2.frame f4 (Or.inl (by omega))).frame f5 (Or.inl (by omega))).frame f6 (Or.inl (by omega))
    refine ⟨fun q => ?_, fun q => ?_⟩
    · refine c_go (f := a + 1 + i) (t := a + 1 + i + 1) isW_137 isC_28 hE h6.En h6.2.2.2.2.1 h6.2.2.2.1 hSB w36 wf3 (by omega) (by omega) (by omega) (fun g7 w7 f7 => ⟨rfl, ?_⟩)
      refine ih g7 ⟨(r1.trans f36).trans (f7.Q (by omega) (by omega)), ?_, fun b z1 z2 => ?_⟩
      · rw [show a + 1 + i + 1 - (a + 1 + i) = 1 by omega] at w7
        exact w7
      · by_cases y : b = a + 1 + i
        · rw [y]; exact q
        · exact r3 b z1 (by omega)
    · exact k g6 _ h6 (r1.trans f36) (Or.inr ⟨a + 1 + i, by omega, by omega, rfl, q, fun b' z1 z2 => r3 b' z1 z2⟩)
theorem c_findBack {p n : Nat} {l zn : Int} (hT : GT T) (h : IS g T) (hp : p < nP T.1.1.2) (el : nm l = l) (hn0 : 0 < n) (hn : n ≤ 20) (hz : zn = (n : Int) - 1)
    (k : ∀ g', IS g' T → FrQ g g' → RV T p l n (g' 136 5) (g' 147 0) (g' 147 1) → P none g') : Zm w (d + 4) mX5_findBack 0 [some (aR (some 136)), some (aI (p : Int)), some (aI l), some (aI zn), none, none] [] g P := by
  have hB := hT.1.BO
  have hE := hT.1.EB
  have h0 := hT.1.h0
  have hSB := hT.1.SB
  have ez : nm zn = (n : Int) - 1 := by rw [hz]; exact nm_id (by omega) (by omega)
  have ez1 : nm (zn + 1) = (n : Int) := by rw [hz, nm_id (by omega) (by omega)]; omega
  have m1 : nm (-1) = -1 := by decide
  refine s_X5_findBack_0 _ _ _ ?_
  refine c_keepBack (fun g1 f1 _ k1 k2 k3 => ⟨rfl, ?_⟩)
  have h1 := h.keep f1
  rw [ez1, Int.toNat_natCast]
  refine ⟨by omega, by omega, ?_⟩
  refine c_letterOf (isW_ahead n (by omega)) hB h1.2.2.1 (h1.2.2.2.2.2.1 n hn) (hT.1.wf n) hp ⟨_, rfl, ?_⟩
  rw [h1.1.2.2.1, nm_calM hT.1 _ (hT.1.wf n) hp, el]
  refine ⟨fun q0 => ?_, fun q0 => k g1 h1 f1 (by rw [k1, k2, k3]; exact Or.inl ⟨q0, rfl, rfl, rfl⟩)⟩
  -- two
  have L2 : ∀ g2 : GI, FrQ g g2 → (∀ a, a < n → ¬ rt1 T p l n a) → Zm w (d + 4) mX5_findBack 134 [some (aR (some 136)), some (aI (p : Int)), some (aI l), some (aI zn), some (aI 0), none] [] g2 P := by
    intro g2 f2 n1
    refine loopN (σ := GI) (fun i s => Zm w (d + 4) mX5_findBack 134 [some (aR (some 136)), some (aI (p : Int)), some (aI l), some (aI zn), some (aI (i : Int)), none] [] s P) (fun i s => FrQ g s ∧ ∀ a b, a < i → a < b → b < n → ¬ rt2 T p l n a b) (n - 1) ?_ ?_ 0 g2 (Nat.zero_le _) ⟨f2, fun a b z => absurd z (Nat.not_lt_zero a)⟩
    · intro g3 ⟨r1, r2⟩
      have e1 : nm ((n - 1 : Nat) : Int) = (n : Int) - 1 := by rw [nm_id (by omega) (by omega)]; omega
      refine s_X5_findBack_134 _ _ _ _ ?_
      rw [ez, e1]
      refine ⟨fun _ => ?_, fun z => absurd z (by omega)⟩
      refine c_keepBack (fun g4 f4 _ y1 y2 y3 => ⟨rfl, ?_⟩)
      refine k g4 (h.keep (r1.trans f4)) (r1.trans f4) ?_
      rw [y1, y2, y3]
      exact Or.inr (Or.inr (Or.inr ⟨q0, n1, fun a b z1 z2 => r2 a b (by omega) z1 z2, rfl, rfl, rfl⟩))
    · intro i g3 hi ⟨r1, r2⟩ ih
      have ei : nm (i : Int) = i := nm_id (by omega) (by omega)
      refine s_X5_findBack_134 _ _ _ _ ?_
      rw [ez, ei, m1]
      refine ⟨fun z => absurd z (by omega), fun _ => ?_⟩
      refine c_nextBack hT (h.keep r1) hp el (by omega) hn hz (fun g4 z h4 f4 hz4 => ⟨z, rfl, ?_⟩)
      rcases hz4 with ⟨e, hnone⟩ | ⟨b, hb1, hb2, e, hb3, hb4⟩
      · rw [e, m1]
        refine ⟨fun _ => ih g4 ⟨r1.trans f4, fun a b z1 z2 z3 => ?_⟩, fun y => absurd rfl y⟩
        by_cases y : a = i
        · subst y; exact hnone b z2 z3
        · exact r2 a b (by omega) z2 z3
      · have eb : nm z = (b : Int) := by rw [e]; exact nm_id (by omega) (by omega)
        rw [eb]
        refine ⟨fun y => absurd y (by omega), fun _ => ?_⟩
        refine c_keepBack (fun g5 f5 _ y1 y2 y3 => ⟨rfl, ?_⟩)
        refine k g5 (h4.keep f5) ((r1.trans f4).trans f5) ?_
        rw [y1, y2, y3, e]
        exact Or.inr (Or.inr (Or.inl ⟨q0, n1, i, b, hb1, hb2, hb3, hb4, fun a' b' z1 z2 z3 => r2 a' b' z1 z2 z3, rfl, rfl, rfl⟩))
  refine loopN (σ := GI) (fun i s => Zm w (d + 4) mX5_findBack 37 [some (aR (some 136)), some (aI (p : Int)), some (aI l), some (aI zn), some (aI (i : Int)), none] [] s P) (fun i s => FrQ g s ∧ ∀ a, a < i → ¬ rt1 T p l n a) n ?_ ?_ 0 g1 (Nat.zero_le _) ⟨f1, fun a z => absurd z (Nat.not_lt_zero a)⟩
  · intro g3 ⟨r1, r2⟩
    have e1 : nm (n : Int) = n := nm_id (by omega) (by omega)
    refine s_X5_findBack_37 _ _ _ _ ?_
    rw [ez, e1]
    exact ⟨fun _ => L2 g3 r1 r2, fun z => absurd z (by omega)⟩
  · intro i g3 hi ⟨r1, r2⟩ ih
    have h3 := h.keep r1
    have ei : nm (i : Int) = i := nm_id (by omega) (by omega)
    have wfi := hT.1.wf i
    refine s_X5_findBack_37 _ _ _ _ ?_
    rw [ez, ei, Int.toNat_natCast]
    refine ⟨fun z => absurd z (by omega), fun _ => ⟨by omega, by omega, ?_⟩⟩
    refine c_become isW_137 (isW_ahead i (by omega)) (Or.inr (by omega)) hB (h3.2.2.2.2.2.1 i (by omega)) (wfi.len hB) (fun g4 w4 f4 => ⟨rfl, ?_⟩)
    have h4 := h3.keep (f4.Q (by omega) (by omega))
    refine c_oneMore isW_137 hE h4.En h4.2.2.2.2.1 h4.2.2.2.1 hSB w4 wfi (by omega) hp (fun g5 w5 f5 => ⟨rfl, ?_⟩)
    have h5 := h4.keep (f5.Q (by omega) (by omega))
    have wf5 := Wf.one (ca := T.1.2.2.1) (su := toldS T.1.1.2) (fl := floodB T.1.2.2.2.1) (d := i) hB h0 hp wfi
    rw [show (i : Int) + 1 = ((i + 1 : Nat) : Int) by omega]
    refine c_go isW_137 isC_28 hE h5.En h5.2.2.2.2.1 h5.2.2.2.1 hSB w5 wf5 hz (by omega) hn (fun g6 w6 f6 => ⟨rfl, ?_⟩)
    have h6 := h5.keep (f6.Q (by omega) (by omega))
    have wf6 := wf5.go (su := toldS T.1.1.2) (ca := T.1.2.2.1) (fl := floodB T.1.2.2.2.1) (f := i + 1) hB h0 (n - (i + 1))
    refine c_letterOf isW_137 hB h6.2.2.1 w6 wf6 hp ⟨_, rfl, ?_⟩
    rw [h6.1.2.2.1, nm_calM hT.1 _ wf6 hp, el]
    have hr1 : rt1 T p l n i ↔ calM T.1.1 T.2.1 (goM T.1.1 T.1.2.1 (toldS T.1.1.2) T.1.2.2.1 (floodB T.1.2.2.2.1) (i + 1) (n - (i + 1)) (oneM T.1.1 T.1.2.1 (toldS T.1.1.2) T.1.2.2.1 (floodB T.1.2.2.2.1) i p (ahS T.1 i))) p = l := by
      unfold rt1
      rw [ahead_sno (by simp [toldS]) hp, if_neg (by omega)]
    rw [← hr1]
    have f36 : FrQ g3 g6 := ((f4.Q (by omega) (by omega)).trans (f5.Q (by omega) (by omega))).trans (f6.Q (by omega) (by omega))
    refine ⟨fun q => ih g6 ⟨r1.trans f36, fun a z => ?_⟩, fun q => ?_⟩
    · by_cases y : a = i
      · rw [y]; exact q
      · exact r2 a (by omega)
    · refine c_keepBack (fun g7 f7 _ y1 y2 y3 => ⟨rfl, ?_⟩)
      refine k g7 (h6.keep f7) ((r1.trans f36).trans f7) ?_
      rw [y1, y2, y3]
      exact Or.inr (Or.inl ⟨q0, i, hi, q, r2, rfl, rfl, rfl⟩)
theorem k_returns {x1 x2 x3 x4 : Int} (hT : GT T) (h : IC g T) (e1 : nm x1 = x1) (e2 : nm x2 = x2) (e3 : nm x3 = x3) (e4 : nm x4 = x4) (k : ∀ g' z, Vret T x1 x2 x3 x4 z → IS g' T → FrL g g' → P (some (aI z)) g') : Zm w (d + 5) mX10_returns 0 [some (aR (some 0)), some (aI x1), some (aI x2), some (aI x3), some (aI x4)] [] g P := by
  have n26 : nm 26 = 26 := by decide
  have n20 : nm 20 = 20 := by decide
  have m1 : nm (-1) = -1 := by decide
  refine s_X10_returns_0 _ _ _ _ ?_
  refine k_settle hT h (fun g1 s1 f1 => ⟨rfl, ?_⟩)
  rw [s1.2.2.1.2.1, wi_x e1 (nmP hT), wi_x e2 n26, wi_x e3 n20, nm_n12, n12_0, e4, m1]
  have NO : ¬ ((0 ≤ x1 ∧ x1 < (nP T.1.1.2 : Int)) ∧ (0 ≤ x2 ∧ x2 < 26) ∧ (0 ≤ x3 ∧ x3 < 20) ∧ (-1 ≤ x4 ∧ x4 ≤ 1)) → P (some (aI (-2))) g1 := fun q => k g1 _ (Or.inl ⟨q, rfl⟩) s1 f1
  refine ⟨fun q => NO (fun z => q z.1), fun q1 => ⟨fun q => NO (fun z => q z.2.1), fun q2 => ⟨fun q => NO (fun z => q z.2.2.1), fun q3 => ⟨fun q4 => ?_, fun q => NO (fun z => q (by omega))⟩⟩⟩⟩
  have q1 := nn q1
  have q2 := nn q2
  have q3 := nn q3
  have q4 := nn q4
  rw [show x1 = ((x1.toNat : Nat) : Int) by omega]
  refine c_findBack (n := x3.toNat + 1) hT s1 (by omega) e2 (by omega) (by omega) (by omega) (fun g2 s2 f2 hrv => ⟨rfl, ?_⟩)
  have V : ∀ z, z = (if x4 = -1 then g2 136 5 else if x4 = 0 then g2 147 0 else g2 147 1) → P (some (aI z)) g2 := fun z hz => k g2 z (Or.inr ⟨⟨q1, q2, q3, by omega⟩, _, _, _, hrv, hz⟩) s2 (f1.trans f2.L)
  refine ⟨fun y => ⟨by omega, by omega, V _ ?_⟩, fun y => V _ (by rw [if_pos y])⟩
  rw [if_neg y]
  by_cases z : x4 = 0
  · rw [if_pos z, z]; rfl
  · rw [if_neg z, show x4 = 1 by omega]; rfl
/-! the model -/
theorem c_isCalled {o : Om} {wear : Int} {cs ca : Log2} {su : Sup} {fs : List Int} {fl : Nat → Bool} {n p : Nat} {l z : Int} (hE : EBM o wear cs su ca) (hM : EM g o wear cs su ca fs fl) (hL : ∀ m x, x < nN o → nm (letM o wear m x) = letM o wear m x) (hp : p < nP o.2) (el : nm l = l) (hz : z = (n : Int) - 1) (hn : n ≤ 20)
    (k : ∀ g', (∀ b, b < 241 ∨ 247 < b → g' b = g b) → P (some (aI (bI (decide (calM o wear (aheadM o cs su ca fl n) p = l))))) g') : Zm w (d + 4) mX11_isCalled 0 [some (aR (some 228)), some (aI (p : Int)), some (aI l), some (aI z)] [] g P := by
  have hB := hE.1
  have hN := nN_le hB
  have hP := hB.2
  have ep : nm (p : Int) = p := nm_id (by omega) (by omega)
  refine s_X11_isCalled_0 _ _ _ ?_
  refine c_lives hz hn hE hM (fun g1 m1 _ f1 => ⟨rfl, ?_⟩)
  have wf := Wf.ahead (su := su) (ca := ca) (fl := fl) hB hE.h0 n
  have hh := (wf.2.2.2.2.1 p hp).1
  have k := k g1 f1
  unfold calM at k
  generalize aheadM o cs su ca fl n = m at m1 wf hh k
  have eh : nm ((m.2.2.1 p : Nat) : Int) = ((m.2.2.1 p : Nat) : Int) := nm_id (by omega) (by omega)
  rw [ep, Int.toNat_natCast, m1.2.2.2 p hp, eh, Int.toNat_natCast, (m1.2.2.1 _ hh).2.2, hL m _ hh, el]
  refine ⟨by omega, by omega, by omega, by omega, fun q => ?_, fun q => ?_⟩
  · rw [decide_eq_false q] at k; exact k
  · rw [decide_eq_true q] at k; exact k
theorem GT.L {T : TT} (hT : GT T) : ∀ m x, x < nN T.1.1 → nm (letM T.1.1 T.2.1 m x) = letM T.1.1 T.2.1 m x := fun m _ hx => nm_letM hT.1 T.2.1 m hx
theorem EBM.sno {o : Om} {wear : Int} {cs ca : Log2} {su : Sup} {a p : Nat} (h : EBM o wear cs su ca) (hl : cs.length < 36) (ha : a < 20) (hp : p < 8) : EBM o wear (cs ++ [((a : Int), (p : Int))]) su ca :=
  ⟨h.1, h.2.1.sno hl (by omega) (by omega), h.2.2⟩
theorem EM.sno {g g' : GI} {o : Om} {wear : Int} {cs ca : Log2} {su : Sup} {fs : List Int} {fl : Nat → Bool} {x1 x2 : Int} (h : EM g o wear cs su ca fs fl) (f : ∀ b, b ≠ 228 → b ≠ 238 → g' b = g b) (f8 : ∀ j, j ≠ 14 → g' 228 j = g 228 j) (w1 : g' 228 14 = (cs.length : Int) + 1) (w2 : ∀ j, j < 2 * cs.length → g' 238 j = g 238 j) (w3 : g' 238 (2 * cs.length) = x1) (w4 : g' 238 (2 * cs.length + 1) = x2) : EM g' o wear (cs ++ [(x1, x2)]) su ca fs fl := by
  obtain ⟨⟨⟨a1, a2, a3⟩, b1, b2⟩, c, ⟨d1, d2, d3⟩, e, f13⟩ := h
  refine ⟨⟨⟨by rw [f8 7 (by omega)]; exact a1, by rw [f8 12 (by omega)]; exact a2, by rw [f 235 (by omega) (by omega), f 236 (by omega) (by omega)]; exact a3⟩, by rw [f8 10 (by omega)]; exact b1, by rw [f 237 (by omega) (by omega)]; exact b2⟩, ⟨by rw [w1, sno_len]; omega, lm_sno c.2.1 w2 w3 w4, by rw [f8 16 (by omega)]; exact c.2.2.1, by rw [f 239 (by omega) (by omega)]; exact c.2.2.2⟩, ⟨d1, d2.same (f8 18 (by omega)) (f 240 (by omega) (by omega)), by rw [f8 30 (by omega)]; exact d3⟩, ⟨by rw [f8 27 (by omega)]; exact e.1, by rw [f8 28 (by omega)]; exact e.2.1, fun p hp => by rw [f8 28 (by omega), f8 29 (by omega), f 237 (by omega) (by omega)]; exact e.2.2 p hp⟩, by rw [f8 13 (by omega)]; exact f13⟩
/-- back to what was told: the crossings' number is set again -/
theorem RM.back {g g' : GI} {T : TT} (h : RM g T) (f : ∀ b, b < 228 ∨ (228 < b ∧ b < 238) ∨ b = 239 ∨ b = 240 ∨ b = 248 → g' b = g b) (f8 : ∀ j, g' 228 j = g 228 j) (f238 : ∀ j, j < 2 * T.1.2.1.length → g' 238 j = g 238 j) : RM g' T := by
  have e8 : g' 228 = g 228 := funext f8
  refine ⟨h.1.keep (fun b _ _ _ => f b (by omega)) (fun j _ => f8 j) f238 (fun j _ => by rw [f 239 (by omega)]) (f 240 (by omega)) (f 248 (by omega)), ?_⟩
  obtain ⟨⟨⟨a1, a2, a3⟩, b1, b2⟩, c, ⟨d1, d2, d3⟩, e, f13⟩ := h.2
  refine ⟨⟨⟨by rw [e8]; exact a1, by rw [e8]; exact a2, by rw [f 235 (by omega), f 236 (by omega)]; exact a3⟩, by rw [e8]; exact b1, by rw [f 237 (by omega)]; exact b2⟩, ⟨by rw [e8]; exact c.1, fun k hk => by rw [f238 _ (by omega), f238 _ (by omega)]; exact c.2.1 k hk, by rw [e8]; exact c.2.2.1, by rw [f 239 (by omega)]; exact c.2.2.2⟩, ⟨d1, d2.same (f8 18) (f 240 (by omega)), by rw [e8]; exact d3⟩, ⟨by rw [e8]; exact e.1, by rw [e8]; exact e.2.1, fun p hp => by rw [e8, f 237 (by omega)]; exact e.2.2 p hp⟩, by rw [e8]; exact f13⟩
theorem j_returnsOf {p n : Nat} {l zn i : Int} (hT : GT T) (h : RM g T) (hp : p < nP T.1.1.2) (el : nm l = l) (hn0 : 0 < n) (hn : n ≤ 20) (hz : zn = (n : Int) - 1) (ei : nm i = i) (hi : -1 ≤ i ∧ i ≤ 1)
    (k : ∀ g' z, (∃ c x y, RV T p l n c x y ∧ z = if i = -1 then c else if i = 0 then x else y) → RM g' T → FrH g g' → P (some (aI z)) g') : Zm w (d + 5) mX11_returnsOf 0 [some (aR (some 228)), some (aI (p : Int)), some (aI l), some (aI zn), some (aI i), none, none, none, none] [] g P := by
  have hE := hT.EBM
  have hP := hT.1.BO.2
  have hl := hT.1.2.2.2.2.1.1
  have m1 : nm (-1) = -1 := by decide
  have ez : nm zn = (n : Int) - 1 := by rw [hz]; exact nm_id (by omega) (by omega)
  refine s_X11_returnsOf_0 _ _ _ _ ?_
  refine c_isCalled hE h.2 hT.L hp el hz hn (fun g1 f1 => ⟨_, rfl, ?_⟩)
  have h1 : RM g1 T := h.keep2 (fun b _ => f1 b (by omega))
  have fr1 : FrH g g1 := fun b hb => f1 b (by omega)
  rw [nbI_0, decide_eq_false_iff_not, ei, m1]
  refine ⟨fun q0 v4 e4 => ?_, fun q0 => ?_⟩
  · have q0 : ¬ rt0 T p l n := q0
    rw [h1.2.2.1.1] at e4
    subst e4
    -- two more
    have L2 : ∀ g2 : GI, RM g2 T → FrH g g2 → (∀ a, a < n → ¬ rt1 T p l n a) → Zm w (d + 5) mX11_returnsOf 95 [some (aR (some 228)), some (aI (p : Int)), some (aI l), some (aI zn), some (aI i), some (aI (T.1.2.1.length : Int)), some (aI 0), none, none] [] g2 P := by
      intro g2 h2 f2 n1
      refine loopN (σ := GI) (fun a s => Zm w (d + 5) mX11_returnsOf 95 [some (aR (some 228)), some (aI (p : Int)), some (aI l), some (aI zn), some (aI i), some (aI (T.1.2.1.length : Int)), some (aI (a : Int)), none, none] [] s P) (fun a s => RM s T ∧ FrH g s ∧ ∀ a' b', a' < a → a' < b' → b' < n → ¬ rt2 T p l n a' b') n ?_ ?_ 0 g2 (Nat.zero_le _) ⟨h2, f2, fun a b z => absurd z (Nat.not_lt_zero a)⟩
      · intro g3 ⟨r1, r2, r3⟩
        have e1 : nm (n : Int) = n := nm_id (by omega) (by omega)
        refine s_X11_returnsOf_95 _ _ _ _ _ _ ?_
        rw [ez, e1]
        refine ⟨fun _ => k g3 _ ⟨-1, -1, -1, Or.inr (Or.inr (Or.inr ⟨q0, n1, fun a b z1 z2 => r3 a b (by omega) z1 z2, rfl, rfl, rfl⟩)), ?_⟩ r1 r2, fun z => absurd z (by omega)⟩
        (repeat' split) <;> rfl
      · intro a g3 ha ⟨r1, r2, r3⟩ ih
        have ea : nm (a : Int) = a := nm_id (by omega) (by omega)
        refine s_X11_returnsOf_95 _ _ _ _ _ _ ?_
        rw [ez, ea]
        refine ⟨fun z => absurd z (by omega), fun _ v2 e2 => ?_⟩
        have := loopN (σ := GI) (fun b s => Zm w (d + 5) mX11_returnsOf 107 [some (aR (some 228)), some (aI (p : Int)), some (aI l), some (aI zn), some (aI i), some (aI (T.1.2.1.length : Int)), some (aI (a : Int)), some (aI ((a + 1 + b : Nat) : Int)), none] [] s P) (fun b s => RM s T ∧ FrH g s ∧ ∀ b', a < b' → b' < a + 1 + b → ¬ rt2 T p l n a b') (n - (a + 1)) ?_ ?_ 0 g3 (Nat.zero_le _) ⟨r1, r2, fun b z1 z2 => by omega⟩
        · rw [e2]; exact this
        · intro g4 ⟨t1, t2, t3⟩
          have e1 : nm ((a + 1 + (n - (a + 1)) : Nat) : Int) = n := by rw [nm_id (by omega) (by omega)]; omega
          refine s_X11_returnsOf_107 _ _ _ _ _ _ _ ?_
          rw [ez, e1]
          refine ⟨fun _ => ih g4 ⟨t1, t2, fun a' b' z1 z2 z3 => ?_⟩, fun z => absurd z (by omega)⟩
          by_cases y : a' = a
          · subst y; exact t3 b' z2 (by omega)
          · exact r3 a' b' (by omega) z2 z3
        · intro b g4 hb ⟨t1, t2, t3⟩ ih2
          have eb : nm ((a + 1 + b : Nat) : Int) = ((a + 1 + b : Nat) : Int) := nm_id (by omega) (by omega)
          refine s_X11_returnsOf_107 _ _ _ _ _ _ _ ?_
          rw [ez, eb]
          refine ⟨fun z => absurd z (by omega), fun _ => ?_⟩
          refine c_crosses t1.2.2.1.1 (by omega) (fun g5 p1 p2 p3 p4 p5 p6 => ⟨rfl, ?_⟩)
          have em5 := t1.2.sno p1 p2 p3 p4 p5 p6
          have el5 : ((T.1.2.1 ++ [((a : Int), (p : Int))]).length : Int) = (T.1.2.1.length : Int) + 1 := by rw [sno_len]; omega
          refine c_crosses (n := (T.1.2.1 ++ [((a : Int), (p : Int))]).length) em5.2.1.1 (by rw [sno_len]; omega) (fun g6 q1 q2 q3 q4 q5 q6 => ⟨rfl, ?_⟩)
          have em6 := em5.sno q1 q2 q3 q4 q5 q6
          have hE6 := (hE.sno (a := a) (p := p) (by omega) (by omega) (by omega)).sno (a := a + 1 + b) (p := p) (by rw [sno_len]; omega) (by omega) (by omega)
          refine c_isCalled hE6 em6 hT.L hp el hz hn (fun g7 f7 => ⟨_, rfl, fun g8 e8 => ?_⟩)
          have f78 : ∀ b, b ≠ 228 → g8 b = g7 b := fun b hb => by rw [e8, up2_ne _ _ _ hb]
          have h8 : RM g8 T := by
            refine t1.back (fun b hb => by rw [f78 b (by omega), f7 b (by omega), q1 b (by omega) (by omega), p1 b (by omega) (by omega)]) (fun j => ?_) (fun j hj => ?_)
            · rw [e8]; simp only [up2_ap, if_true]
              by_cases y : j = 14
              · rw [if_pos y, y, t1.2.2.1.1]
              · rw [if_neg y, f7 228 (by omega), q2 j y, p2 j y]
            · rw [f78 _ (by omega), f7 238 (by omega), q4 j (by rw [sno_len]; omega), p4 j hj]
          have fr8 : FrH g g8 := fun b hb => by rw [f78 b (by omega), f7 b (by omega), q1 b (by omega) (by omega), p1 b (by omega) (by omega)]; exact t2 b hb
          rw [nbI_0, decide_eq_false_iff_not]
          refine ⟨fun y => ?_, fun y => ?_⟩
          · refine ih2 g8 ⟨h8, fr8, fun b' z1 z2 => ?_⟩
            by_cases u : b' = a + 1 + b
            · rw [u]; exact y
            · exact t3 b' z1 (by omega)
          · have y : rt2 T p l n a (a + 1 + b) := nn y
            have hRV : RV T p l n 2 (a : Int) ((a + 1 + b : Nat) : Int) := Or.inr (Or.inr (Or.inl ⟨q0, n1, a, a + 1 + b, by omega, by omega, y, fun b' z1 z2 => t3 b' z1 z2, fun a' b' z1 z2 z3 => r3 a' b' z1 z2 z3, rfl, rfl, rfl⟩))
            rw [ei, m1]
            refine ⟨fun u => ⟨fun v => k g8 _ ⟨_, _, _, hRV, by rw [if_neg u, if_neg v]⟩ h8 fr8, fun v => k g8 _ ⟨_, _, _, hRV, by rw [if_neg u, if_pos v]⟩ h8 fr8⟩, fun u => k g8 _ ⟨_, _, _, hRV, by rw [if_pos u]⟩ h8 fr8⟩
    refine loopN (σ := GI) (fun a s => Zm w (d + 5) mX11_returnsOf 31 [some (aR (some 228)), some (aI (p : Int)), some (aI l), some (aI zn), some (aI i), some (aI (T.1.2.1.length : Int)), some (aI (a : Int)), none, none] [] s P) (fun a s => RM s T ∧ FrH g s ∧ ∀ a', a' < a → ¬ rt1 T p l n a') n ?_ ?_ 0 g1 (Nat.zero_le _) ⟨h1, fr1, fun a z => absurd z (Nat.not_lt_zero a)⟩
    · intro g3 ⟨r1, r2, r3⟩
      have e1 : nm (n : Int) = n := nm_id (by omega) (by omega)
      refine s_X11_returnsOf_31 _ _ _ _ _ _ ?_
      rw [ez, e1]
      exact ⟨fun _ => L2 g3 r1 r2 r3, fun z => absurd z (by omega)⟩
    · intro a g3 ha ⟨r1, r2, r3⟩ ih
      have ea : nm (a : Int) = a := nm_id (by omega) (by omega)
      refine s_X11_returnsOf_31 _ _ _ _ _ _ ?_
      rw [ez, ea]
      refine ⟨fun z => absurd z (by omega), fun _ => ?_⟩
      refine c_crosses r1.2.2.1.1 (by omega) (fun g5 p1 p2 p3 p4 p5 p6 => ⟨rfl, ?_⟩)
      have em5 := r1.2.sno p1 p2 p3 p4 p5 p6
      have hE5 := hE.sno (a := a) (p := p) (by omega) (by omega) (by omega)
      refine c_isCalled hE5 em5 hT.L hp el hz hn (fun g7 f7 => ⟨_, rfl, fun g8 e8 => ?_⟩)
      have f78 : ∀ b, b ≠ 228 → g8 b = g7 b := fun b hb => by rw [e8, up2_ne _ _ _ hb]
      have h8 : RM g8 T := by
        refine r1.back (fun b hb => by rw [f78 b (by omega), f7 b (by omega), p1 b (by omega) (by omega)]) (fun j => ?_) (fun j hj => ?_)
        · rw [e8]; simp only [up2_ap, if_true]
          by_cases y : j = 14
          · rw [if_pos y, y, r1.2.2.1.1]
          · rw [if_neg y, f7 228 (by omega), p2 j y]
        · rw [f78 _ (by omega), f7 238 (by omega), p4 j hj]
      have fr8 : FrH g g8 := fun b hb => by rw [f78 b (by omega), f7 b (by omega), p1 b (by omega) (by omega)]; exact r2 b hb
      rw [nbI_0, decide_eq_false_iff_not]
      refine ⟨fun y => ?_, fun y => ?_⟩
      · refine ih g8 ⟨h8, fr8, fun a' z => ?_⟩
        by_cases u : a' = a
        · rw [u]; exact y
        · exact r3 a' (by omega)
      · have y : rt1 T p l n a := nn y
        have hRV : RV T p l n 1 (a : Int) (-1) := Or.inr (Or.inl ⟨q0, a, ha, y, r3, rfl, rfl, rfl⟩)
        rw [ei, m1]
        refine ⟨fun u => ⟨fun v => k g8 _ ⟨_, _, _, hRV, by rw [if_neg u, if_neg v]⟩ h8 fr8, fun v => k g8 _ ⟨_, _, _, hRV, by rw [if_neg u, if_pos v]⟩ h8 fr8⟩, fun u => k g8 _ ⟨_, _, _, hRV, by rw [if_pos u]⟩ h8 fr8⟩
  · have q0 : rt0 T p l n := nn q0
    have hRV : RV T p l n 0 (-1) (-1) := Or.inl ⟨q0, rfl, rfl, rfl⟩
    refine ⟨fun u => k g1 _ ⟨_, _, _, hRV, by rw [if_neg u]; split <;> rfl⟩ h1 fr1, fun u => k g1 _ ⟨_, _, _, hRV, by rw [if_pos u]⟩ h1 fr1⟩
theorem j_returns {x1 x2 x3 x4 : Int} (hT : GT T) (h : IM g T) (e1 : nm x1 = x1) (e2 : nm x2 = x2) (e3 : nm x3 = x3) (e4 : nm x4 = x4) (k : ∀ g' z, Vret T x1 x2 x3 x4 z → IM g' T → FrH g g' → P (some (aI z)) g') : Zm w (d + 6) mX11_returns 0 [some (aR (some 228)), some (aI x1), some (aI x2), some (aI x3), some (aI x4)] [] g P := by
  refine s_X11_returns_0 _ _ _ _ ?_
  refine j_reads hT h (fun g1 s1 f1 => ⟨rfl, ?_⟩)
  rw [s1.2.1.2.1, nmP1 hT, inn_x e1, lin_x e2 (by decide) (by decide), inn_x e3, lin_x e4 (by decide) (by decide)]
  have NO : ¬ ((0 ≤ x1 ∧ x1 < (nP T.1.1.2 : Int)) ∧ (0 ≤ x2 ∧ x2 < 26) ∧ (0 ≤ x3 ∧ x3 < 20) ∧ (-1 ≤ x4 ∧ x4 ≤ 1)) → P (some (aI (-2))) g1 := fun q => k g1 _ (Or.inl ⟨q, rfl⟩) s1.1 f1
  refine ⟨fun q => NO (by omega), fun q1 => ⟨fun q => NO (by omega), fun q2 => ⟨fun q => NO (by omega), fun q3 => ⟨fun q => NO (by omega), fun q4 => ?_⟩⟩⟩⟩
  rw [show x1 = ((x1.toNat : Nat) : Int) by omega]
  refine j_returnsOf (n := x3.toNat + 1) hT s1 (by omega) e2 (by omega) (by omega) (by omega) e4 (by omega) (fun g2 z hz s2 f2 => ⟨z, rfl, k g2 z (Or.inr ⟨by omega, ?_⟩) s2.1 (f1.trans f2)⟩)
  exact hz
end BK
