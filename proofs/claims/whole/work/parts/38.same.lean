/-! those who are called the same; what is written -/
def cntK (f : Nat → Bool) : Nat → Nat
  | 0 => 0
  | n + 1 => if f n then cntK f n + 1 else cntK f n
def fsK (f : Nat → Bool) : Nat → Int
  | 0 => -1
  | n + 1 => if f n ∧ cntK f n = 0 then (n : Int) else fsK f n
theorem cntK_le (f : Nat → Bool) : ∀ n, cntK f n ≤ n
  | 0 => Nat.le_refl 0
  | n + 1 => by have := cntK_le f n; unfold cntK; split <;> omega
theorem cntK_no {f : Nat → Bool} {a : Nat} : ∀ b, a ≤ b → (∀ i, a ≤ i → i < b → f i = false) → cntK f b = cntK f a ∧ fsK f b = fsK f a
  | 0, h, _ => by rw [show a = 0 by omega]; exact ⟨rfl, rfl⟩
  | b + 1, h, hn => by
    by_cases e : a = b + 1
    · rw [e]; exact ⟨rfl, rfl⟩
    · have ih := cntK_no b (by omega) (fun i h1 h2 => hn i h1 (by omega))
      have hb := hn b (by omega) (by omega)
      refine ⟨?_, ?_⟩
      · show (if f b then _ else _) = _
        rw [hb]; exact ih.1
      · show (if f b ∧ _ then _ else _) = _
        rw [hb, if_neg (by simp)]; exact ih.2
theorem fsK_neg (f : Nat → Bool) : ∀ n, (cntK f n = 0 ↔ fsK f n = -1) ∧ -1 ≤ fsK f n ∧ fsK f n < n
  | 0 => ⟨⟨fun _ => rfl, fun _ => rfl⟩, by show (-1 : Int) ≤ -1; decide, by show (-1 : Int) < ((0 : Nat) : Int); decide⟩
  | n + 1 => by
    obtain ⟨h1, h2, h3⟩ := fsK_neg f n
    unfold cntK fsK
    cases hf : f n with
    | false =>
      rw [if_neg (by simp), if_neg (by simp)]
      exact ⟨h1, h2, by omega⟩
    | true =>
      rw [if_pos rfl]
      by_cases q : cntK f n = 0
      · rw [if_pos ⟨rfl, q⟩]; exact ⟨⟨fun z => by omega, fun z => by omega⟩, by omega, by omega⟩
      · rw [if_neg (fun z => q z.2)]; exact ⟨⟨fun z => by omega, fun z => absurd (h1.mpr z) q⟩, h2, by omega⟩
theorem fsK_first (f : Nat → Bool) : ∀ n i, i < n → f i = true → (∀ j, j < i → f j = false) → fsK f n = (i : Int)
  | 0, i, h, _, _ => absurd h (Nat.not_lt_zero i)
  | n + 1, i, h, hi, hj => by
    by_cases e : i = n
    · subst e
      have := (cntK_no (f := f) (a := 0) i (Nat.zero_le _) (fun j _ h2 => hj j h2)).1
      unfold fsK
      rw [if_pos ⟨hi, this⟩]
    · have ih := fsK_first f n i (by omega) hi hj
      have hc : cntK f n ≠ 0 := fun z => by
        have := (fsK_neg f n).1.mp z
        omega
      unfold fsK
      rw [if_neg (fun z => hc z.2)]; exact ih
/-- a pair called the same: 8 times the lesser and the greater -/
def alk (T : TT) (m : Mu) (i : Nat) : Bool := decide (i / 8 < i % 8 ∧ i % 8 < nP T.1.1.2 ∧ calM T.1.1 T.2.1 m (i / 8) = calM T.1.1 T.2.1 m (i % 8))
def smV (T : TT) (m : Mu) : Int := (cntK (alk T m) 64 : Int)
def smF (T : TT) (m : Mu) : Int := fsK (alk T m) 64
section QS
variable {w : GX} {d : Nat} {P : PN} {g : GI} {T : TT}
theorem c_alike {n i : Nat} {x1 : Int} (hT : GT T) (h : IS g T) (hn : n < 20) (e1 : x1 = (n : Int)) (hi : i < 64) (k : P (some (aI (bI (alk T (ahS T.1 (n + 1)) i)))) g) : Zm w (d + 2) mX10_areAlike 0 [some (aR (some 0)), some (aI x1), some (aI (i : Int)), none, none, none] [] g P := by
  have hB := hT.1.BO
  have hP := hB.2
  have hw := h.2.2.1
  have hWa := isW_ahead (n + 1) (by omega)
  have hwr := h.2.2.2.2.2.1 (n + 1) (by omega)
  have hf := hT.1.wf (n + 1)
  unfold alk at k
  generalize ahS T.1 (n + 1) = m at hwr hf k
  have ed : nm (x1 + 1) = ((n + 1 : Nat) : Int) := by rw [e1, nm_id (by omega) (by omega)]; omega
  have d8 : iDiv (i : Int) 8 = ((i / 8 : Nat) : Int) := by rw [show (8 : Int) = ((8 : Nat) : Int) from rfl, iDiv_nat (by omega) (by omega) (by omega)]
  have r8 : iRem (i : Int) 8 = ((i % 8 : Nat) : Int) := by rw [show (8 : Int) = ((8 : Nat) : Int) from rfl, iRem_nat (by omega) (by omega) (by omega)]
  have ea : nm ((i / 8 : Nat) : Int) = ((i / 8 : Nat) : Int) := nm_id (by omega) (by omega)
  have eb : nm ((i % 8 : Nat) : Int) = ((i % 8 : Nat) : Int) := nm_id (by omega) (by omega)
  refine s_X10_areAlike_0 _ _ ?_
  rw [ed, d8, r8, hw.2.1]
  refine ⟨by omega, by omega, fun v4 e4 v5 e5 => ?_⟩
  subst e4; subst e5
  rw [wi_x eb (nmP hT), ea, eb, Int.toNat_natCast]
  refine ⟨fun q => ?_, fun q => ⟨fun q2 => ?_, fun q2 => ?_⟩⟩
  · rw [decide_eq_false (by omega)] at k; exact k
  · rw [decide_eq_false (by omega)] at k; exact k
  · have q2 := nn q2
    refine c_letterOf hWa hB hw hwr hf (by omega) ⟨_, rfl, ?_⟩
    refine c_letterOf hWa hB hw hwr hf (by omega) ⟨_, rfl, ?_⟩
    rw [h.1.2.2.1, nm_calM hT.1 _ hf (by omega), nm_calM hT.1 _ hf (by omega)]
    refine ⟨fun q3 => ?_, fun q3 => ?_⟩
    · rw [decide_eq_false (fun z => q3 z.2.2)] at k; exact k
    · rw [decide_eq_true ⟨by omega, by omega, q3⟩] at k; exact k
def opSame (T : TT) (d : Int) : Int := if 0 ≤ d ∧ d < 20 then smV T (ahS T.1 (d.toNat + 1)) else -2
theorem k_same {x1 : Int} (hT : GT T) (h : IC g T) (e1 : nm x1 = x1) (k : ∀ g', IS g' T → FrL g g' → P (some (aI (opSame T x1))) g') : Zm w (d + 5) mX10_same 0 [some (aR (some 0)), some (aI x1), none, none] [] g P := by
  have n20 : nm 20 = 20 := by decide
  have n64 : nm 64 = 64 := by decide
  refine s_X10_same_0 _ ?_
  refine k_settle hT h (fun g1 s1 f1 => ⟨rfl, ?_⟩)
  rw [wi_x e1 n20]
  have k := k g1 s1 f1
  unfold opSame at k
  refine ⟨fun q => ?_, fun q => ?_⟩
  · have q := nn q
    rw [if_pos q] at k
    refine loopN (σ := Unit) (fun i _ => Zm w (d + 5) mX10_same 20 [some (aR (some 0)), some (aI x1), some (aI (cntK (alk T (ahS T.1 (x1.toNat + 1))) i : Int)), some (aI (i : Int))] [] g1 P) (fun _ _ => True) 64 ?_ ?_ 0 () (Nat.zero_le _) trivial
    · intro _ _
      have e64 : nm ((64 : Nat) : Int) = 64 := by decide
      refine s_X10_same_20 _ _ _ ?_
      rw [e64, n64]
      exact ⟨fun _ => k, fun z => absurd z (by omega)⟩
    · intro i _ hi _ ih
      have ei : nm (i : Int) = i := nm_id (by omega) (by omega)
      have ih := ih () trivial
      refine s_X10_same_20 _ _ _ ?_
      rw [ei, n64]
      refine ⟨fun z => absurd z (by omega), fun _ => ?_⟩
      refine c_alike (n := x1.toNat) hT s1 (by omega) (by omega) hi ⟨_, rfl, ?_⟩
      rw [nbI_0]
      have un : cntK (alk T (ahS T.1 (x1.toNat + 1))) (i + 1) = if alk T (ahS T.1 (x1.toNat + 1)) i then cntK (alk T (ahS T.1 (x1.toNat + 1))) i + 1 else cntK (alk T (ahS T.1 (x1.toNat + 1))) i := rfl
      rw [un] at ih
      refine ⟨fun z => ?_, fun z => ?_⟩
      · rw [if_neg (by rw [z]; decide)] at ih; exact ih
      · rw [if_pos (by simpa using z)] at ih; exact ih
  · rw [if_neg q] at k; exact k
/-- how many, or the first of them, in the model -/
theorem c_sameNow {m : Mu} {x : Int} (hT : GT T) (hw : WM g T.1.1) (hm : MW g T.1.1 T.2.1 m) (hf : Wf T.1.1 m) (ex : nm x = x) (k : P (some (aI (if x = 0 then smV T m else smF T m))) g) : Zm w d mX11_sameNow 0 [some (aR (some 228)), some (aI x), none, none, none, none] [] g P := by
  have hP := hT.1.BO.2
  have hN := nN_le hT.1.BO
  generalize hal : alk T m = f
  have hout : ∀ i, ¬ (i / 8 < i % 8 ∧ i % 8 < nP T.1.1.2) → f i = false := fun i q => by rw [← hal]; exact decide_eq_false (fun z => q ⟨z.1, z.2.1⟩)
  have hin : ∀ i, i / 8 < i % 8 → i % 8 < nP T.1.1.2 → f i = decide (calM T.1.1 T.2.1 m (i / 8) = calM T.1.1 T.2.1 m (i % 8)) := fun i q1 q2 => by
    rw [← hal]; unfold alk
    by_cases z : calM T.1.1 T.2.1 m (i / 8) = calM T.1.1 T.2.1 m (i % 8)
    · rw [decide_eq_true ⟨q1, q2, z⟩, decide_eq_true z]
    · rw [decide_eq_false (fun y => z y.2.2), decide_eq_false z]
  have he : ∀ p, p < nP T.1.1.2 → nm ((m.2.2.1 p : Nat) : Int) = ((m.2.2.1 p : Nat) : Int) ∧ m.2.2.1 p < nN T.1.1 := fun p hp => by
    have := (hf.2.2.2.2.1 p hp).1
    exact ⟨nm_id (by omega) (by omega), this⟩
  refine s_X11_sameNow_0 _ (fun v1 e1 => ?_)
  subst e1
  have := loopN (σ := Unit) (fun a _ => Zm w d mX11_sameNow 7 [some (aR (some 228)), some (aI x), some (aI (cntK f (8 * a) : Int)), some (aI (fsK f (8 * a))), some (aI (a : Int)), none] [] g P) (fun _ _ => True) (nP T.1.1.2) ?_ ?_ 0 () (Nat.zero_le _) trivial
  · exact this
  · intro _ _
    have hend := cntK_no (f := f) (a := 8 * nP T.1.1.2) 64 (by omega) (fun i h1 h2 => hout i (by omega))
    refine s_X11_sameNow_7 _ _ _ _ ?_
    rw [hw.2.1, nmP hT, ex, ← hend.1, ← hend.2]
    refine ⟨fun _ => ⟨fun q => ?_, fun q => ?_⟩, fun z => absurd z (by omega)⟩
    · rw [if_neg q] at k; unfold smF at k; rw [hal] at k; exact k
    · rw [if_pos q] at k; unfold smV at k; rw [hal] at k; exact k
  · intro a _ ha _ ih
    have ea : nm (a : Int) = a := nm_id (by omega) (by omega)
    have ih := ih () trivial
    refine s_X11_sameNow_7 _ _ _ _ ?_
    rw [hw.2.1, nmP hT, ea]
    refine ⟨fun z => absurd z (by omega), fun _ v3 e3 => ?_⟩
    have hst := cntK_no (f := f) (a := 8 * a) (8 * a + (a + 1)) (by omega) (fun i h1 h2 => hout i (by omega))
    rw [e3, ← hst.1, ← hst.2]
    have := loopN (σ := Unit) (fun b _ => Zm w d mX11_sameNow 22 [some (aR (some 228)), some (aI x), some (aI (cntK f (8 * a + (a + 1 + b)) : Int)), some (aI (fsK f (8 * a + (a + 1 + b)))), some (aI (a : Int)), some (aI ((a + 1 + b : Nat) : Int))] [] g P) (fun _ _ => True) (nP T.1.1.2 - (a + 1)) ?_ ?_ 0 () (Nat.zero_le _) trivial
    · exact this
    · intro _ _
      have eb : nm ((a + 1 + (nP T.1.1.2 - (a + 1)) : Nat) : Int) = nP T.1.1.2 := by rw [nm_id (by omega) (by omega)]; omega
      have hend := cntK_no (f := f) (a := 8 * a + (a + 1 + (nP T.1.1.2 - (a + 1)))) (8 * (a + 1)) (by omega) (fun i h1 h2 => hout i (by omega))
      refine s_X11_sameNow_22 _ _ _ _ _ ?_
      rw [hw.2.1, nmP hT, eb]
      refine ⟨fun _ => ?_, fun z => absurd z (by omega)⟩
      rw [hend.1, hend.2] at ih
      exact ih
    · intro b _ hb _ ih2
      have ih2 := ih2 () trivial
      have eb : nm ((a + 1 + b : Nat) : Int) = ((a + 1 + b : Nat) : Int) := nm_id (by omega) (by omega)
      have hbP : a + 1 + b < nP T.1.1.2 := by omega
      have hxa := he a ha
      have hxb := he (a + 1 + b) hbP
      have h8 : a + 1 + b < 8 := by omega
      have hd8 : (8 * a + (a + 1 + b)) / 8 = a := by clear eb ih2; omega
      have hm8 : (8 * a + (a + 1 + b)) % 8 = a + 1 + b := by clear eb ih2; omega
      have hfi := hin (8 * a + (a + 1 + b)) (by rw [hd8, hm8]; omega) (by rw [hm8]; exact hbP)
      rw [hd8, hm8] at hfi
      have uc : cntK f (8 * a + (a + 1 + (b + 1))) = if f (8 * a + (a + 1 + b)) then cntK f (8 * a + (a + 1 + b)) + 1 else cntK f (8 * a + (a + 1 + b)) := rfl
      have uf : fsK f (8 * a + (a + 1 + (b + 1))) = if f (8 * a + (a + 1 + b)) ∧ cntK f (8 * a + (a + 1 + b)) = 0 then ((8 * a + (a + 1 + b) : Nat) : Int) else fsK f (8 * a + (a + 1 + b)) := rfl
      rw [uc, uf, hfi] at ih2
      have hcl := cntK_le f (8 * a + (a + 1 + b))
      have ecn : nm ((cntK f (8 * a + (a + 1 + b)) : Nat) : Int) = ((cntK f (8 * a + (a + 1 + b)) : Nat) : Int) := nm_id (by omega) (by omega)
      have la : g 245 (m.2.2.1 a) = calM T.1.1 T.2.1 m a := (hm.2.2.1 _ hxa.2).2.2
      have lb : g 245 (m.2.2.1 (a + 1 + b)) = calM T.1.1 T.2.1 m (a + 1 + b) := (hm.2.2.1 _ hxb.2).2.2
      refine s_X11_sameNow_22 _ _ _ _ _ ?_
      rw [hw.2.1, nmP hT, eb, ea, Int.toNat_natCast, Int.toNat_natCast, hm.2.2.2 a ha, hm.2.2.2 _ hbP, hxa.1, hxb.1, Int.toNat_natCast, Int.toNat_natCast, la, lb, nm_calM hT.1 _ hf ha, nm_calM hT.1 _ hf hbP, ecn]
      have hxa2 := hxa.2
      have hxb2 := hxb.2
      refine ⟨fun z => absurd z (by omega), fun _ => ⟨by omega, by omega, by omega, by omega, by omega, by omega, by omega, by omega, fun q => ?_, fun q => ⟨fun q2 => ?_, fun q2 v20 e20 => ?_⟩⟩⟩
      · rw [decide_eq_false q, if_neg (by simp), if_neg (by simp)] at ih2
        exact ih2
      · rw [decide_eq_true q, if_pos rfl, if_neg (fun z => q2 (by omega))] at ih2
        exact ih2
      · rw [decide_eq_true q, if_pos rfl, if_pos ⟨rfl, by omega⟩] at ih2
        rw [e20, show 8 * (a : Int) + ((a + 1 + b : Nat) : Int) = ((8 * a + (a + 1 + b) : Nat) : Int) by omega]
        exact ih2
theorem j_sameOf {n : Nat} {x1 : Int} (hT : GT T) (h : RM g T) (hn : n < 20) (e1 : x1 = (n : Int)) (k : ∀ g', RM g' T → FrH g g' → P (some (aI (smV T (ahS T.1 (n + 1))))) g') : Zm w (d + 4) mX11_sameOf 0 [some (aR (some 228)), some (aI x1)] [] g P := by
  refine s_X11_sameOf_0 _ ?_
  refine j_lives (n := n + 1) hT h (by omega) (by omega) (fun g1 r1 m1 _ f1 => ⟨rfl, ?_⟩)
  refine c_sameNow hT r1.2.1 m1 (hT.1.wf _) (by decide) ⟨_, rfl, ?_⟩
  rw [if_pos rfl]
  exact k g1 r1 f1
theorem j_same {x1 : Int} (hT : GT T) (h : IM g T) (e1 : nm x1 = x1) (k : ∀ g', IM g' T → FrH g g' → P (some (aI (opSame T x1))) g') : Zm w (d + 5) mX11_same 0 [some (aR (some 228)), some (aI x1)] [] g P := by
  refine s_X11_same_0 _ ?_
  refine j_reads hT h (fun g1 s1 f1 => ⟨rfl, ?_⟩)
  rw [inn_x e1]
  unfold opSame at k
  refine ⟨fun q => ?_, fun q => ?_⟩
  · rw [if_neg (by omega)] at k; exact k g1 s1.1 f1
  · rw [if_pos (by omega)] at k
    exact j_sameOf (n := x1.toNat) hT s1 (by omega) (by omega) (fun g2 s2 f2 => ⟨_, rfl, k g2 s2.1 (f1.trans f2)⟩)
/-! the first day on which two are called the same -/
def frV (T : TT) (x z : Int) : Prop := ∃ y, FP (fun e => smF T (ahS T.1 (e + 1)) ≠ -1) 20 y ∧ z = if y = -1 then -1 else if x = 0 then y else smF T (ahS T.1 (y.toNat + 1))
theorem frV.one {T : TT} {x z z' : Int} (h : frV T x z) (h' : frV T x z') : z = z' := by
  obtain ⟨y, h1, h2⟩ := h
  obtain ⟨y', h1', h2'⟩ := h'
  have := h1.one h1'
  subst this
  rw [h2, h2']
def Vfirst (T : TT) (x z : Int) : Prop := (¬ (0 ≤ x ∧ x < 2) ∧ z = -2) ∨ ((0 ≤ x ∧ x < 2) ∧ frV T x z)
theorem Vfirst.one {T : TT} {x z z' : Int} (h : Vfirst T x z) (h' : Vfirst T x z') : z = z' := by
  rcases h with ⟨q, e⟩ | ⟨q, e⟩ <;> rcases h' with ⟨q', e'⟩ | ⟨q', e'⟩
  · rw [e, e']
  · exact absurd q' q
  · exact absurd q q'
  · exact e.one e'
theorem fsK_all {f : Nat → Bool} {n : Nat} (h : ∀ j, j < n → f j = false) : fsK f n = -1 := (fsK_neg f n).1.mp (cntK_no (f := f) (a := 0) n (Nat.zero_le _) (fun i _ h2 => h i h2)).1
theorem k_first {x1 : Int} (hT : GT T) (h : IC g T) (e1 : nm x1 = x1) (k : ∀ g' z, Vfirst T x1 z → IS g' T → FrL g g' → P (some (aI z)) g') : Zm w (d + 5) mX10_first 0 [some (aR (some 0)), some (aI x1), none, none] [] g P := by
  have n2 : nm 2 = 2 := by decide
  have n20 : nm 20 = 20 := by decide
  have n64 : nm 64 = 64 := by decide
  refine s_X10_first_0 _ ?_
  refine k_settle hT h (fun g1 s1 f1 => ⟨rfl, ?_⟩)
  rw [wi_x e1 n2]
  refine ⟨fun q => ?_, fun q => k g1 _ (Or.inl ⟨q, rfl⟩) s1 f1⟩
  have q := nn q
  refine loopN (σ := Unit) (fun i _ => Zm w (d + 5) mX10_first 17 [some (aR (some 0)), some (aI x1), some (aI (i : Int)), none] [] g1 P) (fun i _ => ∀ e, e < i → smF T (ahS T.1 (e + 1)) = -1) 20 ?_ ?_ 0 () (Nat.zero_le _) (fun e he => absurd he (Nat.not_lt_zero e))
  · intro _ hI
    have e20 : nm ((20 : Nat) : Int) = 20 := by decide
    refine s_X10_first_17 _ _ ?_
    rw [e20, n20]
    exact ⟨fun _ => k g1 _ (Or.inr ⟨q, -1, Or.inl ⟨rfl, fun j hj z => z (hI j hj)⟩, by rw [if_pos rfl]⟩) s1 f1, fun z => absurd z (by omega)⟩
  · intro i _ hi hI ih
    have ei : nm (i : Int) = i := nm_id (by omega) (by omega)
    refine s_X10_first_17 _ _ ?_
    rw [ei, n20]
    refine ⟨fun z => absurd z (by omega), fun _ => ?_⟩
    refine loopN (σ := Unit) (fun j _ => Zm w (d + 5) mX10_first 25 [some (aR (some 0)), some (aI x1), some (aI (i : Int)), some (aI (j : Int))] [] g1 P) (fun j _ => ∀ e, e < j → alk T (ahS T.1 (i + 1)) e = false) 64 ?_ ?_ 0 () (Nat.zero_le _) (fun e he => absurd he (Nat.not_lt_zero e))
    · intro _ hJ
      have e64 : nm ((64 : Nat) : Int) = 64 := by decide
      refine s_X10_first_25 _ _ _ ?_
      rw [e64, n64]
      refine ⟨fun _ => ih () (fun e he => ?_), fun z => absurd z (by omega)⟩
      by_cases z : e = i
      · subst z; exact fsK_all hJ
      · exact hI e (by omega)
    · intro j _ hj hJ ih2
      have ej : nm (j : Int) = j := nm_id (by omega) (by omega)
      refine s_X10_first_25 _ _ _ ?_
      rw [ej, n64]
      refine ⟨fun z => absurd z (by omega), fun _ => ?_⟩
      refine c_alike (n := i) hT s1 hi rfl hj ⟨_, rfl, ?_⟩
      rw [nbI_0, e1]
      refine ⟨fun z => ih2 () (fun e he => ?_), fun z => ?_⟩
      · by_cases y : e = j
        · subst y; exact z
        · exact hJ e (by omega)
      · have z : alk T (ahS T.1 (i + 1)) j = true := by simpa using z
        have hfs : smF T (ahS T.1 (i + 1)) = (j : Int) := fsK_first _ 64 j hj z hJ
        have hFP : FP (fun e => smF T (ahS T.1 (e + 1)) ≠ -1) 20 (i : Int) := Or.inr ⟨i, hi, rfl, by show smF T (ahS T.1 (i + 1)) ≠ -1; omega, fun e he y => y (hI e he)⟩
        refine ⟨fun y => ?_, fun y => ?_⟩
        · refine k g1 _ (Or.inr ⟨q, i, hFP, ?_⟩) s1 f1
          rw [if_neg (by omega), if_neg y, Int.toNat_natCast, hfs]
        · refine k g1 _ (Or.inr ⟨q, i, hFP, ?_⟩) s1 f1
          rw [if_neg (by omega), if_pos y]
theorem j_firstOf {x1 : Int} (hT : GT T) (h : RM g T) (e1 : nm x1 = x1) (k : ∀ g' z, frV T x1 z → RM g' T → FrH g g' → P (some (aI z)) g') : Zm w (d + 3) mX11_firstOf 0 [some (aR (some 228)), some (aI x1), none] [] g P := by
  have n20 : nm 20 = 20 := by decide
  have hB := hT.1.BO
  have hE := hT.EBM
  refine s_X11_firstOf_0 _ ?_
  refine c_begins hB h.2.1 h.2.2.1.1 hE.2.1.1 hE.2.2.2.2.1 hE.2.2.2.2.2 (fun g1 m1 c1 f1 => ⟨rfl, ?_⟩)
  refine loopN (σ := GI) (fun i s => Zm w (d + 3) mX11_firstOf 6 [some (aR (some 228)), some (aI x1), some (aI (i : Int))] [] s P) (fun i s => MW s T.1.1 T.2.1 (ahS T.1 i) ∧ (∀ j, j < T.1.2.1.length → s 247 j = bI (chgN T.1.1 T.1.2.1 (toldS T.1.1.2) T.1.2.2.1 (floodB T.1.2.2.2.1) i j)) ∧ (∀ b, b < 241 ∨ 247 < b → s b = g b) ∧ ∀ e, e < i → smF T (ahS T.1 (e + 1)) = -1) 20 ?_ ?_ 0 g1 (Nat.zero_le _) ⟨m1, c1, f1, fun e he => absurd he (Nat.not_lt_zero e)⟩
  · intro g4 ⟨r1, r2, r3, r4⟩
    have e20 : nm ((20 : Nat) : Int) = 20 := by decide
    refine s_X11_firstOf_6 _ _ ?_
    rw [e20, n20]
    exact ⟨fun _ => k g4 _ ⟨-1, Or.inl ⟨rfl, fun j hj z => z (r4 j hj)⟩, by rw [if_pos rfl]⟩ (h.keep2 (fun b _ => r3 b (by omega))) (fun b hb => r3 b (by omega)), fun z => absurd z (by omega)⟩
  · intro i g4 hi ⟨r1, r2, r3, r4⟩ ih
    have ei : nm (i : Int) = i := nm_id (by omega) (by omega)
    refine s_X11_firstOf_6 _ _ ?_
    rw [ei, n20]
    refine ⟨fun z => absurd z (by omega), fun _ => ?_⟩
    refine c_mday hE (h.2.same (fun b hb => r3 b (by omega))) r1 (hT.1.wf i) ((Wo.ahead hB hT.1.h0 i).mono (by omega)) (by omega) r2 (fun g5 m5 c5 f5 => ⟨rfl, ?_⟩)
    have fr : ∀ b, b < 241 ∨ 247 < b → g5 b = g b := fun b hb => by rw [f5 b hb]; exact r3 b hb
    have hr5 : RM g5 T := h.keep2 (fun b _ => fr b (by omega))
    have m5 : MW g5 T.1.1 T.2.1 (ahS T.1 (i + 1)) := m5
    refine c_sameNow hT hr5.2.1 m5 (hT.1.wf _) (by decide) ⟨_, rfl, ?_⟩
    rw [if_pos rfl, e1]
    have hc := cntK_le (alk T (ahS T.1 (i + 1))) 64
    have hng := fsK_neg (alk T (ahS T.1 (i + 1))) 64
    have es : nm (smV T (ahS T.1 (i + 1))) = smV T (ahS T.1 (i + 1)) := nm_id (by unfold smV; omega) (by unfold smV; omega)
    rw [es]
    refine ⟨fun z => ih g5 ⟨m5, c5, fr, fun e he => ?_⟩, fun z => ?_⟩
    · by_cases y : e = i
      · subst y; exact hng.1.mp (by unfold smV at z; omega)
      · exact r4 e (by omega)
    · have hne : smF T (ahS T.1 (i + 1)) ≠ -1 := fun y => by have := hng.1.mpr y; unfold smV at z; omega
      have hFP : FP (fun e => smF T (ahS T.1 (e + 1)) ≠ -1) 20 (i : Int) := Or.inr ⟨i, hi, rfl, hne, fun e he y => y (r4 e he)⟩
      refine ⟨fun y => ?_, fun y => ?_⟩
      · refine c_sameNow hT hr5.2.1 m5 (hT.1.wf _) (by decide) ⟨_, rfl, ?_⟩
        rw [if_neg (by decide)]
        refine k g5 _ ⟨i, hFP, ?_⟩ hr5 (fun b hb => fr b (by omega))
        rw [if_neg (by omega), if_neg y, Int.toNat_natCast]
      · refine k g5 _ ⟨i, hFP, ?_⟩ hr5 (fun b hb => fr b (by omega))
        rw [if_neg (by omega), if_pos y]
theorem j_first {x1 : Int} (hT : GT T) (h : IM g T) (e1 : nm x1 = x1) (k : ∀ g' z, Vfirst T x1 z → IM g' T → FrH g g' → P (some (aI z)) g') : Zm w (d + 5) mX11_first 0 [some (aR (some 228)), some (aI x1)] [] g P := by
  refine s_X11_first_0 _ ?_
  refine j_reads hT h (fun g1 s1 f1 => ⟨rfl, ?_⟩)
  rw [inn_x e1]
  refine ⟨fun q => k g1 _ (Or.inl ⟨by omega, rfl⟩) s1.1 f1, fun q => ?_⟩
  exact j_firstOf hT s1 e1 (fun g2 z hz s2 f2 => ⟨_, rfl, k g2 z (Or.inr ⟨by omega, hz⟩) s2.1 (f1.trans f2)⟩)
/-! written -/
def wrN (T : TT) (s : Nat) : Nat := if shN T s < (nN T.1.1 : Int) then (shN T s).toNat else nN T.1.1
def wrF (T : TT) (m : Mu) (s n : Nat) : Nat → Int := fun i => if i < n then cutI (shF T s) (m.1 i : Int) else shI T s i
def opWrite (T : TT) (d s : Int) : TT × Int :=
  if (0 ≤ d ∧ d < 20) ∧ (0 ≤ s ∧ s < 4) then
    (if shN T s.toNat < 0 then (setL T 1, -11) else (setSh T s.toNat (shF T s.toNat, shN T s.toNat, wrF T (ahS T.1 (d.toNat + 1)) s.toNat (wrN T s.toNat)), (wrN T s.toNat : Int)))
  else (T, -2)
theorem wrN_le (T : TT) {s : Nat} (h : 0 ≤ shN T s) : (wrN T s : Int) ≤ shN T s ∧ wrN T s ≤ nN T.1.1 := by unfold wrN; split <;> omega
theorem GT.write {T : TT} (h : GT T) (d s : Int) : GT (opWrite T d s).1 := by
  unfold opWrite
  by_cases q : (0 ≤ d ∧ d < 20) ∧ (0 ≤ s ∧ s < 4)
  · rw [if_pos q]
    by_cases q2 : shN T s.toNat < 0
    · rw [if_pos q2]; exact h
    · rw [if_neg q2]
      have hs := h.2.2 s.toNat (by omega)
      have hw := wrN_le T (s := s.toNat) (by omega)
      refine ⟨h.1, h.2.1, h.2.2.set ⟨hs.1, hs.2.1, hs.2.2.1, fun i hi => ?_⟩⟩
      show nm (wrF T (ahS T.1 (d.toNat + 1)) s.toNat (wrN T s.toNat) i) = wrF T (ahS T.1 (d.toNat + 1)) s.toNat (wrN T s.toNat) i
      unfold wrF
      split
      · have := (h.1.wf (d.toNat + 1)).2.2.2.2.2.2 i (by omega)
        exact nm_cutI (nm_id (by omega) (by omega))
      · exact hs.2.2.2 i hi
  · rw [if_neg q]; exact h
theorem k_write {x1 x2 : Int} (hT : GT T) (h : IC g T) (e1 : nm x1 = x1) (e2 : nm x2 = x2) (k : ∀ g', IC g' (opWrite T x1 x2).1 → FrL g g' → P (some (aI (opWrite T x1 x2).2)) g') : Zm w (d + 5) mX10_write 0 [some (aR (some 0)), some (aI x1), some (aI x2), none, none] [] g P := by
  have n4 : nm 4 = 4 := by decide
  have n20 : nm 20 = 20 := by decide
  have hN := nN_le hT.1.BO
  refine s_X10_write_0 _ _ ?_
  refine k_settle hT h (fun g1 s1 f1 => ⟨rfl, ?_⟩)
  have hw := s1.2.2.1
  rw [wi_x e1 n20, wi_x e2 n4, e2, hw.1.2.1, hw.2.1, nN_int]
  have NO : ¬ ((0 ≤ x1 ∧ x1 < 20) ∧ (0 ≤ x2 ∧ x2 < 4)) → P (some (aI (-2))) g1 := fun q => by
    have e : opWrite T x1 x2 = (T, -2) := by unfold opWrite; rw [if_neg q]
    rw [e] at k; exact k g1 s1.1 f1
  refine ⟨fun q => NO (fun z => q z.1), fun q1 => ⟨fun q2 => ⟨(nn q2).1, (nn q2).2, ?_⟩, fun q => NO (fun z => q z.2)⟩⟩
  have q1 := nn q1
  have q2 := nn q2
  have hs := s1.1.2.2.2.2 x2.toNat (by omega)
  have hb60 : shN T x2.toNat ≤ 60 := (hT.2.2 x2.toNat (by omega)).2.1
  rw [hs.1, isNeg_x (nm_sh hT (by omega))]
  refine ⟨fun q3 v10 e10 => ?_, fun q3 g2 eg => ?_⟩
  · have h0 : 0 ≤ shN T x2.toNat := by omega
    have hle := wrN_le T h0
    have ev : v10 = (wrN T x2.toNat : Int) := by
      have hh : shN T x2.toNat = (T.2.2.2 x2.toNat).2.1 := rfl
      rw [e10]
      unfold iMin wrN
      rw [show nm (T.2.2.2 x2.toNat).2.1 = shN T x2.toNat from nm_sh hT (by omega), nmN hT]
      (repeat' split) <;> omega
    subst ev
    have e : opWrite T x1 x2 = (setSh T x2.toNat (shF T x2.toNat, shN T x2.toNat, wrF T (ahS T.1 (x1.toNat + 1)) x2.toNat (wrN T x2.toNat)), (wrN T x2.toNat : Int)) := by unfold opWrite; rw [if_pos ⟨q1, q2⟩, if_neg q3]
    rw [e] at k
    have en : nm (wrN T x2.toNat : Int) = wrN T x2.toNat := nm_id (by omega) (by omega)
    have ed : nm (x1 + 1) = ((x1.toNat + 1 : Nat) : Int) := by rw [nm_id (by omega) (by omega)]; omega
    refine loopN (σ := GI) (fun i s => Zm w (d + 5) mX10_write 65 [some (aR (some 0)), some (aI x1), some (aI x2), some (aI (wrN T x2.toNat : Int)), some (aI (i : Int))] [] s P) (fun i s => (∀ b, b ≠ 221 + 2 * x2.toNat → s b = g1 b) ∧ ∀ j : Nat, (j : Int) < shN T x2.toNat → s (221 + 2 * x2.toNat) j = wrF T (ahS T.1 (x1.toNat + 1)) x2.toNat i j) (wrN T x2.toNat) ?_ ?_ 0 g1 (Nat.zero_le _) ⟨fun _ _ => rfl, fun j hj => by unfold wrF; rw [if_neg (Nat.not_lt_zero j)]; exact hs.2.2 j hj⟩
    · intro g3 ⟨r1, r2⟩
      refine s_X10_write_65 _ _ _ _ ?_
      rw [en]
      refine ⟨fun _ => ?_, fun z => absurd z (by omega)⟩
      have := s1.1.setSh (g' := g3) (s := x2.toNat) (x := (shF T x2.toNat, shN T x2.toNat, wrF T (ahS T.1 (x1.toNat + 1)) x2.toNat (wrN T x2.toNat))) (by omega) (fun b z1 z2 => r1 b z2) (by rw [r1 _ (by omega)]; exact hs.1) (fun z => by rw [r1 _ (by omega)]; exact hs.2.1 z) r2
      exact k g3 this.1 (f1.trans this.2)
    · intro i g3 hi ⟨r1, r2⟩ ih
      have ei : nm (i : Int) = i := nm_id (by omega) (by omega)
      have hwr := s1.2.2.2.2.2.1 (x1.toNat + 1) (by omega)
      have hx := (hwr.1 i (by omega)).1
      refine s_X10_write_65 _ _ _ _ ?_
      rw [ei, en, e2, ed, Int.toNat_natCast, Int.toNat_natCast, r1 _ (by omega), hx]
      refine ⟨fun z => absurd z (by omega), fun _ => ⟨by omega, by omega, by omega, by omega, by omega, by omega, ?_⟩⟩
      refine c_put6 (T := T) hT (by omega) (by rw [r1 _ (by omega)]; exact hs.1) (by rw [r1 _ (by omega)]; exact hs.2.1 h0) h0 ei ⟨by omega, by omega⟩ ⟨rfl, ?_⟩
      refine ih _ ⟨fun b hb => by rw [up2_ne _ _ _ hb]; exact r1 b hb, fun j hj => ?_⟩
      rw [Int.toNat_natCast]
      simp only [up2_ap, if_true]
      have := r2 j hj
      unfold wrF at this ⊢
      by_cases z : j = i
      · rw [if_pos z, if_pos (by omega), z]
      · rw [if_neg z, this]
        by_cases y : j < i
        · rw [if_pos y, if_pos (by omega)]
        · rw [if_neg y, if_neg (by omega)]
  · have e : opWrite T x1 x2 = (setL T 1, -11) := by unfold opWrite; rw [if_pos ⟨q1, q2⟩, if_pos (nn q3)]
    rw [e] at k
    subst eg
    exact k _ (s1.1.lat 1).1 (f1.trans (s1.1.lat 1).2)
theorem j_write {x1 x2 : Int} (hT : GT T) (h : IM g T) (e1 : nm x1 = x1) (e2 : nm x2 = x2) (k : ∀ g', IM g' (opWrite T x1 x2).1 → FrH g g' → P (some (aI (opWrite T x1 x2).2)) g') : Zm w (d + 5) mX11_write 0 [some (aR (some 228)), some (aI x1), some (aI x2), none, none] [] g P := by
  have hN := nN_le hT.1.BO
  refine s_X11_write_0 _ _ ?_
  rw [inn_x e1, inn_x e2, e2]
  have NO : ¬ ((0 ≤ x1 ∧ x1 < 20) ∧ (0 ≤ x2 ∧ x2 < 4)) → P (some (aI (-2))) g := fun q => by
    have e : opWrite T x1 x2 = (T, -2) := by unfold opWrite; rw [if_neg q]
    rw [e] at k; exact k g h FrH.rfl
  refine ⟨fun q => NO (by omega), fun q1 => ⟨fun q2 => ⟨by omega, by omega, ?_⟩, fun q => NO (by omega)⟩⟩
  rw [shm_neg hT h (by omega)]
  refine ⟨fun q3 => ?_, fun q3 g2 eg => ?_⟩
  · refine j_reads hT h (fun g1 s1 f1 => ⟨rfl, ?_⟩)
    refine j_lives (n := x1.toNat + 1) hT s1 (by omega) (by omega) (fun g2 s2 m2 _ f2 => ⟨rfl, fun v14 e14 => ?_⟩)
    have hs := s2.1.2.2.2.2.2 x2.toNat (by omega)
    have h0 : 0 ≤ shN T x2.toNat := by omega
    have hb60 : shN T x2.toNat ≤ 60 := (hT.2.2 x2.toNat (by omega)).2.1
    have hle := wrN_le T h0
    rw [s2.2.1.1.2.1, s2.2.1.2.1, nN_int, (hs.2.1 h0).2] at e14
    have ev : v14 = (wrN T x2.toNat : Int) := by
      have hh : shN T x2.toNat = (T.2.2.2 x2.toNat).2.1 := rfl
      rw [e14]
      unfold lss wrN
      rw [show nm (T.2.2.2 x2.toNat).2.1 = shN T x2.toNat from nm_sh hT (by omega), nmN hT]
      split
      · show (T.2.2.2 x2.toNat).2.1 = _; omega
      · rfl
    subst ev
    have e : opWrite T x1 x2 = (setSh T x2.toNat (shF T x2.toNat, shN T x2.toNat, wrF T (ahS T.1 (x1.toNat + 1)) x2.toNat (wrN T x2.toNat)), (wrN T x2.toNat : Int)) := by unfold opWrite; rw [if_pos (by omega), if_neg q3]
    rw [e] at k
    have en : nm (wrN T x2.toNat : Int) = wrN T x2.toNat := nm_id (by omega) (by omega)
    refine loopN (σ := GI) (fun i s => Zm w (d + 5) mX11_write 58 [some (aR (some 228)), none, some (aI x2), some (aI (wrN T x2.toNat : Int)), some (aI (i : Int))] [] s P) (fun i s => (∀ b, b ≠ 231 → s b = g2 b) ∧ (∀ p, p < 60 * x2.toNat ∨ 60 * x2.toNat + 60 ≤ p → s 231 p = g2 231 p) ∧ ∀ j : Nat, (j : Int) < shN T x2.toNat → s 231 (60 * x2.toNat + j) = wrF T (ahS T.1 (x1.toNat + 1)) x2.toNat i j) (wrN T x2.toNat) ?_ ?_ 0 g2 (Nat.zero_le _) ⟨fun _ _ => rfl, fun _ _ => rfl, fun j hj => by unfold wrF; rw [if_neg (Nat.not_lt_zero j)]; exact hs.2.2 j hj⟩
    · intro g3 ⟨r1, r2, r3⟩
      refine s_X11_write_58 _ _ _ ?_
      rw [en]
      refine ⟨fun _ => ?_, fun z => absurd z (by omega)⟩
      have := s2.1.setSh (g' := g3) (s := x2.toNat) (x := (shF T x2.toNat, shN T x2.toNat, wrF T (ahS T.1 (x1.toNat + 1)) x2.toNat (wrN T x2.toNat))) hT.2.2 (by omega) hb60 (fun b z1 z2 z3 _ => r1 b z3) (fun t _ => ⟨by rw [r1 _ (by omega)], by rw [r1 _ (by omega)]⟩) r2 (fun z => absurd z (by show ¬ shN T x2.toNat < 0; omega)) (fun z => by rw [r1 _ (by omega), r1 _ (by omega)]; exact hs.2.1 z) r3
      exact k g3 this.1 ((f1.trans f2).trans this.2)
    · intro i g3 hi ⟨r1, r2, r3⟩ ih
      have ei : nm (i : Int) = i := nm_id (by omega) (by omega)
      have ej : nm (60 * x2 + (i : Int)) = ((60 * x2.toNat + i : Nat) : Int) := by rw [nm_id (by omega) (by omega)]; omega
      have hx := (m2.2.2.1 i (by omega)).1
      refine s_X11_write_58 _ _ _ ?_
      rw [ei, en, e2, ej, Int.toNat_natCast, Int.toNat_natCast, r1 229 (by omega), r1 243 (by omega), (hs.2.1 h0).1, hx]
      refine ⟨fun z => absurd z (by omega), fun _ => ⟨by omega, by omega, by omega, by omega, by omega, by omega, fun g4 eg4 => ?_⟩⟩
      refine ih g4 ⟨fun b hb => by rw [eg4, up2_ne _ _ _ hb]; exact r1 b hb, fun p hp => ?_, fun j hj => ?_⟩
      · rw [eg4]; simp only [up2_ap, if_true]; rw [if_neg (by omega)]; exact r2 p hp
      · rw [eg4]; simp only [up2_ap, if_true]
        have := r3 j hj
        unfold wrF at this ⊢
        by_cases z : j = i
        · rw [if_pos (by omega), if_pos (by omega), z]
        · rw [if_neg (by omega), this]
          by_cases y : j < i
          · rw [if_pos y, if_pos (by omega)]
          · rw [if_neg y, if_neg (by omega)]
  · have e : opWrite T x1 x2 = (setL T 1, -11) := by unfold opWrite; rw [if_pos (by omega), if_pos q3]
    rw [e] at k
    subst eg
    exact k _ (h.lat 1).1 (h.lat 1).2
end QS
