/-! the class: days -/
theorem rv_spec (t0 : List Int) : ∀ c, (∀ x, x < ((List.range c).filter (isNm t0)).length → ((List.range c).filter (isNm t0)).getD x 0 < c ∧ isNm t0 (((List.range c).filter (isNm t0)).getD x 0) = true) ∧ (∀ x y, x < y → y < ((List.range c).filter (isNm t0)).length → ((List.range c).filter (isNm t0)).getD x 0 < ((List.range c).filter (isNm t0)).getD y 0)
  | 0 => ⟨fun x hx => absurd hx (Nat.not_lt_zero x), fun x y _ hy => absurd hy (Nat.not_lt_zero y)⟩
  | c + 1 => by
    obtain ⟨h1, h2⟩ := rv_spec t0 c
    rw [rvN_succ]
    by_cases q : isNm t0 c = true
    · rw [if_pos q]
      refine ⟨fun x hx => ?_, fun x y hxy hy => ?_⟩
      · have hx : x < ((List.range c).filter (isNm t0)).length + 1 := by simpa using hx
        rw [getD_snoc]
        by_cases e : x < ((List.range c).filter (isNm t0)).length
        · rw [if_pos e]; have := h1 x e; exact ⟨by omega, this.2⟩
        · rw [if_neg e, if_pos (by omega)]; exact ⟨by omega, q⟩
      · have hy : y < ((List.range c).filter (isNm t0)).length + 1 := by simpa using hy
        rw [getD_snoc, getD_snoc, if_pos (show x < ((List.range c).filter (isNm t0)).length by omega)]
        by_cases e : y < ((List.range c).filter (isNm t0)).length
        · rw [if_pos e]; exact h2 x y hxy e
        · rw [if_neg e, if_pos (by omega)]; exact (h1 x (by omega)).1
    · rw [if_neg q, List.append_nil]
      exact ⟨fun x hx => ⟨by have := (h1 x hx).1; omega, (h1 x hx).2⟩, h2⟩
theorem cofF_spec {t0 : List Int} {x : Nat} (hx : x < nR t0) : cofF t0 x < nC t0 ∧ isNm t0 (cofF t0 x) = true := (rv_spec t0 (nC t0)).1 x hx
theorem cofF_mono {t0 : List Int} {x y : Nat} (h : x < y) (hy : y < nR t0) : cofF t0 x < cofF t0 y := (rv_spec t0 (nC t0)).2 x y h hy
theorem rev_at {n i : Nat} (h : i < n) : (List.range n).reverse.getD i 0 = n - 1 - i := by
  rw [List.getD_eq_getElem?_getD, List.getElem?_reverse (by simpa using h)]
  simp
  rw [List.getElem?_range (by omega)]
  rfl
theorem Wf.begin {o : Om} (hB : BO o) : Wf o (beginM o) := by
  have hR := nR_le o.1
  have hC := hB.1
  have hP := hB.2
  have hlen : (List.range (nR o.1)).reverse.length = nR o.1 := by simp
  have hwh : ∀ i, i < nR o.1 → (beginM o).1 ((List.range (nR o.1)).reverse.getD i 0) = cofF o.1 (nR o.1 - 1 - i) := fun i hi => by
    rw [rev_at hi]
    show (if nR o.1 - 1 - i < nR o.1 then cofF o.1 (nR o.1 - 1 - i) else _) = _
    rw [if_pos (by omega)]
  refine ⟨fun i j hi hj e => ?_, fun i hi => ?_, ?_, fun i j hij hj => ?_, fun p hp => ?_, fun i hi hz => ?_, fun x hx => ?_⟩
  · have hi : i < nR o.1 := by rw [← hlen]; exact hi
    have hj : j < nR o.1 := by rw [← hlen]; exact hj
    have e : (List.range (nR o.1)).reverse.getD i 0 = (List.range (nR o.1)).reverse.getD j 0 := e
    rw [rev_at hi, rev_at hj] at e
    omega
  · have hi : i < nR o.1 := by rw [← hlen]; exact hi
    show (List.range (nR o.1)).reverse.getD i 0 < nN o ∧ _
    refine ⟨by rw [rev_at hi]; unfold nN; omega, ?_⟩
    rw [show (beginM o).2.2.2 = (List.range (nR o.1)).reverse from rfl, hwh i hi]
    exact (cofF_spec (by omega)).1
  · show (List.range (nR o.1)).reverse.length ≤ _; omega
  · have hj : j < nR o.1 := by rw [← hlen]; exact hj
    rw [show (beginM o).2.2.2 = (List.range (nR o.1)).reverse from rfl, hwh i (by omega), hwh j hj]
    by_cases e : i = j
    · subst e; exact Nat.le_refl _
    · exact Nat.le_of_lt (cofF_mono (by omega) (by omega))
  · show nR o.1 + p < nN o ∧ (if nR o.1 + p < nR o.1 then cofF o.1 (nR o.1 + p) else 22 + (nR o.1 + p - nR o.1)) = 22 + p
    rw [if_neg (by omega)]
    exact ⟨by unfold nN; omega, by omega⟩
  · have hi : i < nR o.1 := by rw [← hlen]; exact hi
    rw [show (beginM o).2.2.2 = (List.range (nR o.1)).reverse from rfl, hwh i hi] at hz
    have := (cofF_spec (show nR o.1 - 1 - i < nR o.1 by omega)).2
    rw [hz] at this
    exact this
  · show (if x < nR o.1 then cofF o.1 x else 22 + (x - nR o.1)) < 30
    have hx : x < nR o.1 + nP o.2 := hx
    split
    · rename_i q; have := (cofF_spec q).1; omega
    · omega
/-- a log's two columns -/
def LG (g : GI) (a : Nat) (l : Log2) : Prop := g a 3 = (l.length : Int) ∧ ∀ k, k < l.length → g (a + 1) k = (l.getD k (0, 0)).1 ∧ g (a + 2) k = (l.getD k (0, 0)).2
def LB (l : Log2) (n b : Nat) : Prop := l.length ≤ n ∧ ∀ k, k < l.length → 0 ≤ (l.getD k (0, 0)).1 ∧ (l.getD k (0, 0)).1 < 20 ∧ 0 ≤ (l.getD k (0, 0)).2 ∧ (l.getD k (0, 0)).2 < (b : Int)
def EB (o : Om) (cs ca : Log2) : Prop := BO o ∧ LB cs 16 8 ∧ LB ca 8 20
def En (g : GI) (o : Om) (cs ca : Log2) : Prop := WW g o ∧ LG g 2 cs ∧ LG g 6 ca
def wix (su : Sup) : Int := match su.1 with
  | none => -1
  | some k => (k : Int)
def CR (g : GI) (c : Nat) (o : Om) (su : Sup) : Prop := g c 1 = wix su ∧ ∀ p, p < nP o.2 → g (c + 1) p = (su.2 p : Int)
def SB (o : Om) (su : Sup) : Prop := (∀ k, su.1 = some k → k < 1000) ∧ ∀ p, p < nP o.2 → su.2 p < 1000
theorem En.frame {g g' : GI} {a : Nat} {o : Om} {cs ca : Log2} (h : En g o cs ca) (hf : FrW g g' a) (ha : 31 ≤ a) : En g' o cs ca := by
  refine ⟨h.1.frame hf ha, ?_, ?_⟩
  · unfold LG; rw [hf 2 (by omega), hf 3 (by omega), hf 4 (by omega)]; exact h.2.1
  · unfold LG; rw [hf 6 (by omega), hf 7 (by omega), hf 8 (by omega)]; exact h.2.2
theorem isW_C {a c : Nat} (hW : isW a) (hC : isC c) : (c < a ∨ a + 4 < c) ∧ (c + 1 < a ∨ a + 4 < c + 1) := by
  obtain ⟨h0, h1, h2, h3, h4, -⟩ := hW
  obtain ⟨k0, -, k1⟩ := hC
  have n0 : c ≠ a := fun e => by rw [e, h0] at k0; exact absurd k0 (by decide)
  have n1 : c ≠ a + 1 := fun e => by rw [e, h1] at k0; exact absurd k0 (by decide)
  have n2 : c ≠ a + 2 := fun e => by rw [e, h2] at k0; exact absurd k0 (by decide)
  have n3 : c ≠ a + 3 := fun e => by rw [e, h3] at k0; exact absurd k0 (by decide)
  have n4 : c ≠ a + 4 := fun e => by rw [e, h4] at k0; exact absurd k0 (by decide)
  have m0 : c + 1 ≠ a := fun e => by rw [e, h0] at k1; exact absurd k1 (by decide)
  omega
theorem CR.frame {g g' : GI} {a c : Nat} {o : Om} {su : Sup} (h : CR g c o su) (hW : isW a) (hC : isC c) (hf : FrW g g' a) : CR g' c o su := by
  have := isW_C hW hC
  unfold CR
  rw [hf c this.1, hf (c + 1) this.2]
  exact h
theorem crosses1_iff (o : Om) (cs : Log2) (su : Sup) (d k : Nat) : crosses1 o cs su d k = true ↔ (cs.getD k (0, 0)).1 = (d : Int) ∧ su.1 ≠ some k ∧ (cs.getD k (0, 0)).2 < (nP o.2 : Int) := by unfold crosses1; exact decide_eq_true_iff
theorem crossM_no {o : Om} {cs : Log2} {su : Sup} {d k : Nat} {m : Mu} (h : crosses1 o cs su d k = false) : crossM o cs su d (k + 1) m = crossM o cs su d k m ∧ chgM o cs su d k m = false := by
  unfold chgM
  rw [h]
  exact ⟨by show (if crosses1 o cs su d k then _ else _) = _; rw [h]; rfl, rfl⟩
theorem crossM_yes {o : Om} {cs : Log2} {su : Sup} {d k : Nat} {m : Mu} (h : crosses1 o cs su d k = true) : crossM o cs su d (k + 1) m = (exchM (cs.getD k (0, 0)).2.toNat (su.2 (cs.getD k (0, 0)).2.toNat) (crossM o cs su d k m)).1 ∧ chgM o cs su d k m = (exchM (cs.getD k (0, 0)).2.toNat (su.2 (cs.getD k (0, 0)).2.toNat) (crossM o cs su d k m)).2 := by
  unfold chgM
  rw [h]
  exact ⟨by show (if crosses1 o cs su d k then _ else _) = _; rw [h]; rfl, rfl⟩
theorem Wf.cross {o : Om} {cs : Log2} {su : Sup} {d : Nat} {m : Mu} (hB : BO o) (h0 : ∀ k, k < cs.length → 0 ≤ (cs.getD k (0, 0)).2) (h : Wf o m) : ∀ k, k ≤ cs.length → Wf o (crossM o cs su d k m)
  | 0, _ => h
  | k + 1, hk => by
    have ih := Wf.cross (su := su) (d := d) hB h0 h k (by omega)
    cases q : crosses1 o cs su d k with
    | false => rw [(crossM_no q).1]; exact ih
    | true =>
      rw [(crossM_yes q).1]
      have := ((crosses1_iff o cs su d k).mp q).2.2
      have := h0 k (by omega)
      exact ih.exch hB (by omega)
theorem Wf.catch {o : Om} {ca : Log2} {d : Nat} {m : Mu} (hB : BO o) (h : Wf o m) : ∀ k, Wf o (catchM ca d k m)
  | 0 => h
  | k + 1 => by
    have ih := Wf.catch (ca := ca) (d := d) hB h k
    show Wf o (if _ then _ else _)
    split
    · exact ih.sell hB _
    · exact ih
theorem Wf.drifts {o : Om} {fl : Nat → Bool} {d : Nat} {m : Mu} (hB : BO o) (h : Wf o m) : Wf o (driftsM o.1 fl d m) := by
  unfold driftsM
  split
  · exact (h.drift hB d).drift hB d
  · exact h.drift hB d
theorem Wf.day {o : Om} {cs ca : Log2} {su : Sup} {fl : Nat → Bool} {d : Nat} {m : Mu} (hB : BO o) (h0 : ∀ k, k < cs.length → 0 ≤ (cs.getD k (0, 0)).2) (h : Wf o m) : Wf o (dayM o cs su ca fl d m) :=
  ((h.cross hB h0 _ (Nat.le_refl _)).catch hB _).drifts hB
theorem Wf.ahead {o : Om} {cs ca : Log2} {su : Sup} {fl : Nat → Bool} (hB : BO o) (h0 : ∀ k, k < cs.length → 0 ≤ (cs.getD k (0, 0)).2) : ∀ d, Wf o (aheadM o cs su ca fl d)
  | 0 => Wf.begin hB
  | d + 1 => (Wf.ahead hB h0 d).day hB h0
theorem Wf.len {o : Om} {m : Mu} (hB : BO o) (h : Wf o m) : m.2.2.2.length ≤ 20 := by have := h.2.2.1; have := nR_le o.1; have := hB.1; omega
section DC
variable {w : GX} {d : Nat} {P : PN} {g : GI}
set_option maxHeartbeats 1000000 in
theorem c_crossTold {a c day : Nat} {o : Om} {cs ca : Log2} {su : Sup} {m : Mu} (hW : isW a) (hC : isC c) (hE : EB o cs ca) (hn : En g o cs ca) (hc : CR g c o su) (hs : SB o su) (hw : WR g a o m) (hf : Wf o m) (hd : day < 1000)
    (k : ∀ (g' : GI) (z : Int), WR g' a o (crossM o cs su day cs.length m) → FrW g g' a → Bt z (fun i => decide (i < cs.length) && chgM o cs su day i m) → P (some (aI z)) g') : Zm w (d + 1) mX2_crossTold 0 [some (aR (some 27)), some (aR (some a)), some (aI (day : Int)), some (aR (some c)), none, none, none] [] g P := by
  obtain ⟨hB, ⟨hl1, hl2⟩, -⟩ := hE
  have h31 : 31 ≤ a := hW.2.2.2.2.2.2.2.2.2.1
  have hP := hB.2
  have wfk : ∀ k, k ≤ cs.length → Wf o (crossM o cs su day k m) := hf.cross hB (fun k hk => (hl2 k hk).2.2.1)
  refine s_X2_crossTold_0 hW _ hC ?_
  refine loopN (σ := Int × GI) (fun i s => Zm w (d + 1) mX2_crossTold 6 [some (aR (some 27)), some (aR (some a)), some (aI (day : Int)), some (aR (some c)), some (aI s.1), some (aI (i : Int)), none] [] s.2 P) (fun i s => FrW g s.2 a ∧ WR s.2 a o (crossM o cs su day i m) ∧ Bt s.1 (fun j => decide (j < i) && chgM o cs su day j m)) cs.length ?_ ?_ 0 (0, g) (Nat.zero_le _) ⟨FrW.rfl, hw, Bt.zero.congr (fun i _ => by simp)⟩
  · intro ⟨b, g3⟩ ⟨r1, r2, r3⟩
    have hn3 := hn.frame r1 h31
    have e1 : nm (cs.length : Int) = cs.length := nm_id (by omega) (by omega)
    refine s_X2_crossTold_6 hW _ hC _ _ ?_
    rw [hn3.2.1.1, e1]
    exact ⟨fun _ => k g3 b r2 r1 r3, fun q => absurd q (by omega)⟩
  · intro i ⟨b, g3⟩ hi ⟨r1, r2, r3⟩ ih
    dsimp only at r1 r2 r3
    have hn3 := hn.frame r1 h31
    have hc3 := hc.frame hW hC r1
    have hb := hl2 i hi
    have hr := hn3.2.1.2 i hi
    generalize hD : (cs.getD i (0, 0)).1 = D at hb hr
    generalize hW' : (cs.getD i (0, 0)).2 = W at hb hr
    have e0 : nm (i : Int) = i := nm_id (by omega) (by omega)
    have e1 : nm (cs.length : Int) = cs.length := nm_id (by omega) (by omega)
    have e2 : nm D = D := nm_id (by omega) (by omega)
    have e3 : nm (day : Int) = day := nm_id (by omega) (by omega)
    have e4 : nm W = W := nm_id (by omega) (by omega)
    have e5 : nm (nP o.2 : Int) = nP o.2 := nm_id (by omega) (by omega)
    have e6 : nm (wix su) = wix su := by
      unfold wix
      have := hs.1
      cases q : su.1 with
      | none => decide
      | some k => have := this k q; show nm (k : Int) = (k : Int); exact nm_id (by omega) (by omega)
    have e7 : (i : Int) = wix su ↔ su.1 = some i := by
      unfold wix
      cases q : su.1 with
      | none => simp
      | some k => simp; omega
    have NO : ∀ b' : Int, b' = b → crosses1 o cs su day i = false → Zm w (d + 1) mX2_crossTold 6 [some (aR (some 27)), some (aR (some a)), some (aI (day : Int)), some (aR (some c)), some (aI b'), some (aI ((i : Int) + 1)), none] [] g3 P := by
      intro b' eb q
      subst eb
      have q2 := crossM_no (m := m) q
      refine ih (b', g3) ⟨r1, by rw [q2.1]; exact r2, r3.congr (fun j _ => ?_)⟩
      by_cases e : j = i
      · subst e; simp [q2.2]
      · rw [show decide (j < i + 1) = decide (j < i) by apply decide_eq_decide.mpr; omega]
    have cf : ∀ h : ¬ ((cs.getD i (0, 0)).1 = (day : Int) ∧ su.1 ≠ some i ∧ (cs.getD i (0, 0)).2 < (nP o.2 : Int)), crosses1 o cs su day i = false := fun h => by
      cases q : crosses1 o cs su day i with
      | false => rfl
      | true => exact absurd ((crosses1_iff _ _ _ _ _).mp q) h
    refine s_X2_crossTold_6 hW _ hC _ _ ?_
    dsimp only
    rw [hn3.2.1.1, e1, e0, Int.toNat_natCast, hr.1, hr.2, hc3.1, hn3.1.2.1, e6, e2, e3, e5]
    refine ⟨fun q => absurd q (by omega), fun _ => ⟨by omega, by omega, fun v hv => ?_⟩⟩
    subst hv
    rw [e4]
    refine ⟨fun q => NO b rfl (cf (by rw [hD]; exact fun z => q z.1)), fun q => ⟨fun q2 => NO b rfl (cf (fun z => z.2.1 (e7.mp q2))), fun q2 => ⟨fun q3 => NO b rfl (cf (by rw [hW']; exact fun z => q3 z.2.2)), fun q3 => ⟨by omega, by omega, ?_⟩⟩⟩⟩
    have q4 : crosses1 o cs su day i = true := (crosses1_iff _ _ _ _ _).mpr ⟨by rw [hD]; exact q, fun z => q2 (e7.mpr z), by rw [hW']; exact q3⟩
    obtain ⟨c1, c2⟩ := crossM_yes (m := m) q4
    rw [hW'] at c1 c2
    have hp : v.toNat < nP o.2 := by omega
    rw [show v = ((v.toNat : Nat) : Int) by omega, Int.toNat_natCast, hc3.2 _ hp]
    refine c_exch hW hB r2 (wfk i (by omega)) hp (hs.2 _ hp) (fun g4 w4 f4 => ⟨_, rfl, ?_⟩)
    rw [nm_bI, bI_0, ← c2]
    refine ⟨fun z => ?_, fun z v9 e9 => ?_⟩
    · refine ih (b, g4) ⟨r1.trans f4, by rw [c1]; exact w4, r3.congr (fun j _ => ?_)⟩
      by_cases e : j = i
      · subst e; simp [z]
      · rw [show decide (j < i + 1) = decide (j < i) by apply decide_eq_decide.mpr; omega]
    · subst e9
      refine ih (_, g4) ⟨r1.trans f4, by rw [c1]; exact w4, (r3.set (show i < 30 by omega)).congr (fun j _ => ?_)⟩
      by_cases e : j = i
      · subst e
        simp at z
        simp [z]
      · rw [show decide (j < i + 1) = decide (j < i) by apply decide_eq_decide.mpr; omega]
        simp [e]
theorem c_catchTold {a day : Nat} {o : Om} {cs ca : Log2} {m : Mu} (hW : isW a) (hE : EB o cs ca) (hn : En g o cs ca) (hw : WR g a o m) (hf : Wf o m) (hd : day < 1000)
    (k : ∀ (g' : GI), WR g' a o (catchM ca day ca.length m) → FrW g g' a → P none g') : Zm w (d + 1) mX2_catchTold 0 [some (aR (some 27)), some (aR (some a)), some (aI (day : Int)), none] [] g P := by
  obtain ⟨hB, -, ⟨hl1, hl2⟩⟩ := hE
  have h31 : 31 ≤ a := hW.2.2.2.2.2.2.2.2.2.1
  refine s_X2_catchTold_0 hW _ ?_
  refine loopN (σ := GI) (fun i s => Zm w (d + 1) mX2_catchTold 2 [some (aR (some 27)), some (aR (some a)), some (aI (day : Int)), some (aI (i : Int))] [] s P) (fun i s => FrW g s a ∧ WR s a o (catchM ca day i m)) ca.length ?_ ?_ 0 g (Nat.zero_le _) ⟨FrW.rfl, hw⟩
  · intro g3 ⟨r1, r2⟩
    have hn3 := hn.frame r1 h31
    have e1 : nm (ca.length : Int) = ca.length := nm_id (by omega) (by omega)
    refine s_X2_catchTold_2 hW _ _ ?_
    rw [hn3.2.2.1, e1]
    exact ⟨fun _ => k g3 r2 r1, fun q => absurd q (by omega)⟩
  · intro i g3 hi ⟨r1, r2⟩ ih
    have hn3 := hn.frame r1 h31
    have hb := hl2 i hi
    have hr := hn3.2.2.2 i hi
    have hst : catchM ca day (i + 1) m = if (ca.getD i (0, 0)).1 = (day : Int) then sellM (ca.getD i (0, 0)).2.toNat (catchM ca day i m) else catchM ca day i m := rfl
    generalize hD : (ca.getD i (0, 0)).1 = D at hb hr hst
    generalize hW' : (ca.getD i (0, 0)).2 = W at hb hr hst
    have e0 : nm (i : Int) = i := nm_id (by omega) (by omega)
    have e1 : nm (ca.length : Int) = ca.length := nm_id (by omega) (by omega)
    have e2 : nm D = D := nm_id (by omega) (by omega)
    have e3 : nm (day : Int) = day := nm_id (by omega) (by omega)
    refine s_X2_catchTold_2 hW _ _ ?_
    rw [hn3.2.2.1, e1, e0, Int.toNat_natCast, hr.1, hr.2, e2, e3]
    refine ⟨fun q => absurd q (by omega), fun _ => ⟨by omega, by omega, fun q => ?_, fun q => ?_⟩⟩
    · exact ih g3 ⟨r1, by rw [hst, if_neg q]; exact r2⟩
    · rw [show W = ((W.toNat : Nat) : Int) by omega]
      refine c_sell hW hB r2 (hf.catch hB _) (by omega) (fun g4 w4 f4 => ⟨rfl, ?_⟩)
      exact ih g4 ⟨r1.trans f4, by rw [hst, if_pos q]; exact w4⟩
theorem c_driftTold {a day : Nat} {o : Om} {fl : Nat → Bool} {m : Mu} (hW : isW a) (hB : BO o) (hn : WW g o) (hfl : Bt (g 27 6) fl) (hw : WR g a o m) (hf : Wf o m) (hd : day < 30)
    (k : ∀ (g' : GI), WR g' a o (driftsM o.1 fl day m) → FrW g g' a → P none g') : Zm w (d + 1) mX2_driftTold 0 [some (aR (some 27)), some (aR (some a)), some (aI (day : Int))] [] g P := by
  have h31 : 31 ≤ a := hW.2.2.2.2.2.2.2.2.2.1
  refine s_X2_driftTold_0 hW _ ?_
  refine c_drift hW hB hn hw hf (by omega) (fun g1 w1 f1 => ⟨rfl, ?_⟩)
  rw [f1 27 (by omega), hfl.test0 hd]
  refine ⟨fun q => k g1 (by unfold driftsM; rw [q]; exact w1) f1, fun q => ?_⟩
  refine c_drift hW hB (hn.frame f1 h31) w1 (hf.drift hB _) (by omega) (fun g2 w2 f2 => ⟨rfl, ?_⟩)
  refine k g2 ?_ (f1.trans f2)
  unfold driftsM
  rw [if_pos (by simpa using q)]
  exact w2
/-- days from f on, n of them -/
def goM (o : Om) (cs : Log2) (su : Sup) (ca : Log2) (fl : Nat → Bool) (f : Nat) : Nat → Mu → Mu
  | 0, m => m
  | n + 1, m => dayM o cs su ca fl (f + n) (goM o cs su ca fl f n m)
theorem Wf.go {o : Om} {cs ca : Log2} {su : Sup} {fl : Nat → Bool} {f : Nat} {m : Mu} (hB : BO o) (h0 : ∀ k, k < cs.length → 0 ≤ (cs.getD k (0, 0)).2) (h : Wf o m) : ∀ n, Wf o (goM o cs su ca fl f n m)
  | 0 => h
  | n + 1 => (Wf.go hB h0 h n).day hB h0
theorem c_go {a c f t : Nat} {o : Om} {cs ca : Log2} {su : Sup} {fl : Nat → Bool} {m : Mu} (hW : isW a) (hC : isC c) (hE : EB o cs ca) (hn : En g o cs ca) (hfl : Bt (g 27 6) fl) (hc : CR g c o su) (hs : SB o su) (hw : WR g a o m) (hf : Wf o m) {z : Int} (hz : z = (t : Int) - 1) (hft : f ≤ t) (ht : t ≤ 20)
    (k : ∀ (g' : GI), WR g' a o (goM o cs su ca fl f (t - f) m) → FrW g g' a → P none g') : Zm w (d + 2) mX2_go 0 [some (aR (some 27)), some (aR (some a)), some (aI (f : Int)), some (aI z), some (aR (some c)), none] [] g P := by
  subst hz
  have h31 : 31 ≤ a := hW.2.2.2.2.2.2.2.2.2.1
  have hB := hE.1
  have h0 : ∀ k, k < cs.length → 0 ≤ (cs.getD k (0, 0)).2 := fun k hk => (hE.2.1.2 k hk).2.2.1
  have et : nm ((t : Int) - 1) = (t : Int) - 1 := nm_id (by omega) (by omega)
  have e20 : nm 20 = 20 := by decide
  refine s_X2_go_0 hW _ _ hC ?_
  have := loopN (σ := GI) (fun i s => Zm w (d + 2) mX2_go 3 [some (aR (some 27)), some (aR (some a)), none, some (aI ((t : Int) - 1)), some (aR (some c)), some (aI ((f + i : Nat) : Int))] [] s P) (fun i s => FrW g s a ∧ WR s a o (goM o cs su ca fl f i m)) (t - f) ?_ ?_ 0 g (Nat.zero_le _) ⟨FrW.rfl, hw⟩
  · exact this
  · intro g3 ⟨r1, r2⟩
    have ef : nm ((f + (t - f) : Nat) : Int) = t := by rw [nm_id (by omega) (by omega)]; omega
    refine s_X2_go_3 hW _ hC _ ?_
    rw [ef, et]
    exact ⟨fun _ => k g3 r2 r1, fun q => absurd q (by omega)⟩
  · intro i g3 hi ⟨r1, r2⟩ ih
    have hn3 := hn.frame r1 h31
    have hc3 := hc.frame hW hC r1
    have ef : nm ((f + i : Nat) : Int) = ((f + i : Nat) : Int) := nm_id (by omega) (by omega)
    have wf3 := hf.go (su := su) (ca := ca) (fl := fl) (f := f) hB h0 i
    refine s_X2_go_3 hW _ hC _ ?_
    rw [ef, et, e20]
    refine ⟨fun q => absurd q (by omega), fun _ => ⟨fun q => absurd q (by omega), fun _ => ?_⟩⟩
    refine c_crossTold hW hC hE hn3 hc3 hs r2 wf3 (by omega) (fun g4 z w4 f4 _ => ⟨z, rfl, ?_⟩)
    have wf4 := wf3.cross (su := su) (d := f + i) hB h0 _ (Nat.le_refl _)
    refine c_catchTold hW hE (hn3.frame f4 h31) w4 wf4 (by omega) (fun g5 w5 f5 => ⟨rfl, ?_⟩)
    have f45 := (r1.trans f4).trans f5
    refine c_driftTold hW hB (hn.frame f45 h31).1 (by rw [f45 27 (by omega)]; exact hfl) w5 (wf4.catch hB _) (by omega) (fun g6 w6 f6 => ⟨rfl, ?_⟩)
    exact ih g6 ⟨f45.trans f6, w6⟩
/-- a day with one who crosses behind all others -/
def oneM (o : Om) (cs : Log2) (su : Sup) (ca : Log2) (fl : Nat → Bool) (d p : Nat) (m : Mu) : Mu := driftsM o.1 fl d (catchM ca d ca.length (exchM p (su.2 p) (crossM o cs su d cs.length m)).1)
theorem Wf.one {o : Om} {cs ca : Log2} {su : Sup} {fl : Nat → Bool} {d p : Nat} {m : Mu} (hB : BO o) (h0 : ∀ k, k < cs.length → 0 ≤ (cs.getD k (0, 0)).2) (hp : p < nP o.2) (h : Wf o m) : Wf o (oneM o cs su ca fl d p m) :=
  (((h.cross hB h0 _ (Nat.le_refl _)).exch hB hp).catch hB _).drifts hB
theorem c_oneMore {a day p : Nat} {o : Om} {cs ca : Log2} {su : Sup} {fl : Nat → Bool} {m : Mu} (hW : isW a) (hE : EB o cs ca) (hn : En g o cs ca) (hfl : Bt (g 27 6) fl) (hc : CR g 28 o su) (hs : SB o su) (hw : WR g a o m) (hf : Wf o m) (hd : day < 30) (hp : p < nP o.2)
    (k : ∀ (g' : GI), WR g' a o (oneM o cs su ca fl day p m) → FrW g g' a → P none g') : Zm w (d + 2) mX2_goWithOneMore 0 [some (aR (some 27)), some (aR (some a)), some (aI (day : Int)), some (aI (p : Int))] [] g P := by
  have h31 : 31 ≤ a := hW.2.2.2.2.2.2.2.2.2.1
  have hB := hE.1
  have hP := hB.2
  have h0 : ∀ k, k < cs.length → 0 ≤ (cs.getD k (0, 0)).2 := fun k hk => (hE.2.1.2 k hk).2.2.1
  have ep : nm (p : Int) = p := nm_id (by omega) (by omega)
  refine s_X2_goWithOneMore_0 hW _ _ ?_
  refine c_crossTold hW isC_28 hE hn hc hs hw hf (by omega) (fun g1 z w1 f1 _ => ⟨z, rfl, ?_⟩)
  have wf1 := hf.cross (su := su) (d := day) hB h0 _ (Nat.le_refl _)
  have hc1 := hc.frame hW isC_28 f1
  rw [ep, Int.toNat_natCast, hc1.2 p hp]
  refine ⟨by omega, by omega, ?_⟩
  refine c_exch hW hB w1 wf1 hp (hs.2 p hp) (fun g2 w2 f2 => ⟨_, rfl, ?_⟩)
  have wf2 := wf1.exch (luck := su.2 p) hB hp
  have f12 := f1.trans f2
  refine c_catchTold hW hE (hn.frame f12 h31) w2 wf2 (by omega) (fun g3 w3 f3 => ⟨rfl, ?_⟩)
  have f13 := f12.trans f3
  refine c_driftTold hW hB (hn.frame f13 h31).1 (by rw [f13 27 (by omega)]; exact hfl) w3 (wf2.catch hB _) hd (fun g4 w4 f4 => ⟨rfl, ?_⟩)
  exact k g4 w4 (f13.trans f4)
end DC
