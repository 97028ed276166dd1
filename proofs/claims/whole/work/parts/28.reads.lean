/-! the model: texts read -/
def TM (g : GI) (o : Om) : Prop := g 234 0 = (o.1.length : Int) ∧ (∀ i, i < o.1.length → g 233 i = by_ o.1 i) ∧ g 234 1 = (o.2.length : Int) ∧ ∀ i, i < o.2.length → g 233 (48 + i) = by_ o.2 i
def WRM (g : GI) (t0 : List Int) : Prop := g 228 7 = (nC t0 : Int) ∧ g 228 12 = (nR t0 : Int) ∧ ∀ c, c < nC t0 → g 235 c = kob (by_ t0 c) ∧ g 236 c = by_ t0 c - 97
def WPM (g : GI) (t1 : List Int) : Prop := g 228 10 = (nP t1 : Int) ∧ ∀ p, p < nP t1 → g 237 (4 * p) = by_ t1 (6 * p) - 97 ∧ g 237 (4 * p + 1) = oweP t1 p ∧ g 237 (4 * p + 2) = wedF t1 p ∧ g 237 (4 * p + 3) = lukF t1 p
theorem rvOk_of {t : List Int} (h : ∀ j, j < t.length → ¬ kob (by_ t j) = -1) : rvOk t = true := rvOk_iff.mpr h
theorem rvOk_no {t : List Int} {j : Nat} (hj : j < t.length) (h : kob (by_ t j) = -1) : rvOk t = false := by
  cases q : rvOk t with
  | false => rfl
  | true => exact absurd h (rvOk_iff.mp q j hj)
theorem ppOk_no {t : List Int} {j : Nat} (hj : j < t.length) (h : fitP ((j % 6 : Nat) : Int) (by_ t j) = 0) : ppOk t = false := by
  cases q : ppOk t with
  | false => rfl
  | true => exact absurd h ((ppOk_iff.mp q).1 j hj)
theorem tof_fit {k : Nat} {b : Int} (hk : k < 6) (h0 : 0 ≤ b) (h1 : b < 256) : nm (tof (k : Int) b) = -9 ↔ fitP (k : Int) b = 0 := by
  have eb : nm b = b := nm_id (by omega) (by omega)
  have ek : nm (k : Int) = k := nm_id (by omega) (by omega)
  have e1 : nm (b - 97) = b - 97 := nm_id (by omega) (by omega)
  have e2 : nm (b - 48) = b - 48 := nm_id (by omega) (by omega)
  have e3 : nm (-9) = -9 := by decide
  have e4 : nm (-1) = -1 := by decide
  have e5 : nm 0 = 0 := by decide
  unfold tof fitP
  rw [eb, ek, bI_0, decide_eq_false_iff_not]
  rcases (by omega : k = 0 ∨ k = 1 ∨ k = 2 ∨ k = 3 ∨ k = 4 ∨ k = 5) with q | q | q | q | q | q <;> subst q <;> simp <;> (repeat' split) <;> simp_all <;> omega
theorem tof_val {k : Nat} {b : Int} (hk : k < 6) (h0 : 0 ≤ b) (h1 : b < 256) (h : fitP (k : Int) b ≠ 0) : tof (k : Int) b = if k = 0 then b - 97 else if k = 3 then (if b = 46 then -1 else b - 48) else if k = 5 then 0 else b - 48 := by
  have eb : nm b = b := nm_id (by omega) (by omega)
  have ek : nm (k : Int) = k := nm_id (by omega) (by omega)
  have h := fitP_n0 h
  rw [eb, ek] at h
  unfold tof
  rw [eb, ek]
  rcases (by omega : k = 0 ∨ k = 1 ∨ k = 2 ∨ k = 3 ∨ k = 4 ∨ k = 5) with q | q | q | q | q | q <;> subst q <;> simp at h ⊢ <;> (repeat' split) <;> first | rfl | omega
def tlW (g : GI) (q r : Nat) (v : Int) : GI := if r = 0 then up2 g 237 (4 * q) v else if r = 1 then up2 g 237 (4 * q + 1) (10 * v) else if r = 2 then up2 g 237 (4 * q + 1) (g 237 (4 * q + 1) + v) else if r = 3 then up2 g 237 (4 * q + 2) v else if r = 4 then up2 g 237 (4 * q + 3) v else g
section MR
variable {w : GX} {d : Nat} {P : PN} {g : GI}
theorem c_tells {q r : Nat} {v at_ : Int} (hq : q < 8) (hr : r < 6) (ha : at_ = ((4 * q : Nat) : Int)) (k : P none (tlW g q r v)) : Zm w d mX11_tells 0 [some (aR (some 228)), some (aI at_), some (aI (r : Int)), some (aI v)] [] g P := by
  subst ha
  have er : nm (r : Int) = r := nm_id (by omega) (by omega)
  have e0 : nm ((4 * q : Nat) : Int) = ((4 * q : Nat) : Int) := nm_id (by omega) (by omega)
  have e1 : nm (((4 * q : Nat) : Int) + 1) = ((4 * q + 1 : Nat) : Int) := by rw [nm_id (by omega) (by omega)]; omega
  have e2 : nm (((4 * q : Nat) : Int) + 2) = ((4 * q + 2 : Nat) : Int) := by rw [nm_id (by omega) (by omega)]; omega
  have e3 : nm (((4 * q : Nat) : Int) + 3) = ((4 * q + 3 : Nat) : Int) := by rw [nm_id (by omega) (by omega)]; omega
  refine s_X11_tells_0 _ _ _ ?_
  rw [er, e0, e1, e2, e3, Int.toNat_natCast, Int.toNat_natCast, Int.toNat_natCast, Int.toNat_natCast]
  unfold tlW at k
  refine ⟨fun z => ⟨by omega, by omega, fun g2 e => ?_⟩, fun z => ⟨by omega, by omega, fun g2 e => ?_⟩, fun z => ⟨by omega, by omega, fun g2 e => ?_⟩, fun z => ⟨by omega, by omega, fun g2 e => ?_⟩, fun z => ⟨by omega, by omega, fun g2 e => ?_⟩, fun z1 z2 z3 z4 z5 => ?_⟩
  · subst e; rw [if_pos (by omega)] at k; exact k
  · subst e; rw [if_neg (by omega), if_pos (by omega)] at k; exact k
  · subst e; rw [if_neg (by omega), if_neg (by omega), if_pos (by omega)] at k; exact k
  · subst e; rw [if_neg (by omega), if_neg (by omega), if_neg (by omega), if_pos (by omega)] at k; exact k
  · subst e; rw [if_neg (by omega), if_neg (by omega), if_neg (by omega), if_neg (by omega), if_pos (by omega)] at k; exact k
  · rw [if_neg (by omega), if_neg (by omega), if_neg (by omega), if_neg (by omega), if_neg (by omega)] at k; exact k
set_option maxHeartbeats 1000000 in
theorem c_readsRiver {o : Om} (hT : TM g o) (hl : o.1.length ≤ 20) (hb : TB o.1) (k : ∀ (g' : GI) (z : Int), FP (fun i => kob (by_ o.1 i) = -1) o.1.length z → WRM g' o.1 → (∀ b, b ≠ 228 → b ≠ 235 → b ≠ 236 → g' b = g b) → (∀ j, j ≠ 7 → j ≠ 12 → g' 228 j = g 228 j) → P (some (aI z)) g') : Zm w (d + 2) mX11_readsRiver 0 [some (aR (some 228)), none, none, none] [] g P := by
  have n0 : (nm 0).toNat = 0 := by decide
  have m9 : nm (-9) = -9 := by decide
  have n3 : nm 3 = 3 := by decide
  have n46 : nm 46 = 46 := by decide
  have n126 : nm 126 = 126 := by decide
  have n61 : nm 61 = 61 := by decide
  have eL : nm (o.1.length : Int) = o.1.length := nm_id (by omega) (by omega)
  refine s_X11_readsRiver_0 (fun g1 e1 g2 e2 => ?_)
  refine loopN (σ := GI) (fun i s => Zm w (d + 2) mX11_readsRiver 12 [some (aR (some 228)), some (aI (i : Int)), none, none] [] s P) (fun i s => (∀ b, b ≠ 228 → b ≠ 235 → b ≠ 236 → s b = g b) ∧ (∀ j, j ≠ 7 → j ≠ 12 → s 228 j = g 228 j) ∧ s 228 7 = (i : Int) ∧ s 228 12 = (cntN o.1 i : Int) ∧ (∀ j, j < i → ¬ kob (by_ o.1 j) = -1) ∧ (∀ j, j < i → s 235 j = kob (by_ o.1 j) ∧ s 236 j = by_ o.1 j - 97)) o.1.length ?_ ?_ 0 g2 (Nat.zero_le _) ?_
  · intro g3 ⟨r1, r2, r3, r4, r5, r6⟩
    refine s_X11_readsRiver_12 _ ?_
    rw [n0, r1 234 (by omega) (by omega) (by omega), hT.1]
    have hC : nC o.1 = o.1.length := by unfold nC; rw [rvOk_of r5]; rfl
    refine ⟨fun _ => k g3 _ (Or.inl ⟨rfl, r5⟩) ⟨by rw [hC]; exact r3, ?_, by rw [hC]; exact r6⟩ r1 r2, fun q => absurd q (by omega)⟩
    rw [r4]; show _ = (((rvN o.1).length : Nat) : Int); unfold rvN; rw [hC]
  · intro i g3 hi ⟨r1, r2, r3, r4, r5, r6⟩ ih
    have ei : nm (i : Int) = i := nm_id (by omega) (by omega)
    have hv := hb i hi
    have eb : g3 233 i = by_ o.1 i := by rw [r1 233 (by omega) (by omega) (by omega)]; exact hT.2.1 i hi
    generalize hB : by_ o.1 i = B at hv eb
    have en : nm B = B := nm_id (by omega) (by omega)
    have GO : ∀ y : Int, y = kob B → y ≠ -1 → Zm w (d + 2) mX11_readsRiver 72 [some (aR (some 228)), some (aI (i : Int)), some (aI B), none] [aI y] g3 P := by
      intro y hy hy1
      have hr := kob_rng B
      have ey : nm y = y := nm_id (by omega) (by omega)
      refine s_X11_readsRiver_72 _ _ _ ?_
      rw [ey, m9, ei, n3, Int.toNat_natCast]
      refine ⟨fun _ => ⟨by omega, by omega, fun g4 e4 g5 e5 g6 e6 => ?_⟩, fun q => absurd q (by omega)⟩
      have c7 : g5 228 7 = (i : Int) := by rw [e5, up2_ne _ _ _ (by omega), e4, up2_ne _ _ _ (by omega)]; exact r3
      rw [c7] at e6
      have c12 : g6 228 12 = (cntN o.1 i : Int) := by rw [e6]; simp only [up2_ap, if_true]; rw [if_neg (by omega), e5, up2_ne _ _ _ (by omega), e4, up2_ne _ _ _ (by omega)]; exact r4
      rw [c12]
      have FIN : ∀ g7 : GI, ∀ z : Int, z = ((cntN o.1 (i + 1) : Nat) : Int) → g7 = up2 g6 228 12 z → Zm w (d + 2) mX11_readsRiver 12 [some (aR (some 228)), some (aI ((i : Int) + 1)), none, none] [] g7 P := by
        intro g7 z hz e7
        refine ih g7 ⟨fun b h1 h2 h3 => ?_, fun j h1 h2 => ?_, ?_, ?_, fun j hj => ?_, fun j hj => ?_⟩
        · rw [e7, up2_ne _ _ _ h1, e6, up2_ne _ _ _ h1, e5, up2_ne _ _ _ h3, e4, up2_ne _ _ _ h2]; exact r1 b h1 h2 h3
        · rw [e7]; simp only [up2_ap, if_true]; rw [if_neg h2, e6]; simp only [up2_ap, if_true]; rw [if_neg h1, e5, up2_ne _ _ _ (by omega), e4, up2_ne _ _ _ (by omega)]; exact r2 j h1 h2
        · rw [e7]; simp only [up2_ap, if_true]; rw [if_neg (by omega), e6]; simp only [up2_ap, if_true]; omega
        · rw [e7]; simp only [up2_ap, if_true]; exact hz
        · by_cases e : j = i
          · subst e; rw [hB, ← hy]; exact hy1
          · exact r5 j (by omega)
        · rw [e7, up2_ne _ _ _ (by omega), up2_ne _ _ _ (by omega), e6, up2_ne _ _ _ (by omega), up2_ne _ _ _ (by omega), e5, e4]
          by_cases e : j = i
          · subst e; simp [up2_ap, hB, hy]
          · simp [up2_ap, e, r6 j (by omega)]
      have hs := cntN_s o.1 i
      have hN : isNm o.1 i = decide (kob B = 3) := by unfold isNm; rw [hB]
      refine ⟨fun q g7 e7 => FIN g7 _ ?_ e7, fun q g7 e7 => FIN g7 _ ?_ e7⟩
      · rw [hs, hN, decide_eq_false (by omega)]; simp
      · rw [hs, hN, decide_eq_true (by omega)]; simp
    refine s_X11_readsRiver_12 _ ?_
    rw [n0, r1 234 (by omega) (by omega) (by omega), hT.1, ei, eL, Int.toNat_natCast, eb]
    refine ⟨fun q => absurd q (by omega), fun _ => ⟨by omega, by omega, fun v ev => ?_⟩⟩
    subst ev
    rw [nm_inn, inn_0, en, n46, n126, n61]
    have hk : kob v = if v = 46 then 0 else if v = 61 then 2 else if v = 126 then 1 else if 97 ≤ v ∧ v ≤ 122 then 3 else -1 := by unfold kob; rw [en]
    refine ⟨fun q1 => ⟨fun q2 => ⟨fun q3 => ⟨fun q4 => ?_, fun q4 => GO 2 ?_ (by omega)⟩, fun q3 => GO 1 ?_ (by omega)⟩, fun q2 => GO 0 ?_ (by omega)⟩, fun q1 => GO 3 ?_ (by omega)⟩
    · have hk1 : kob v = -1 := by rw [hk, if_neg q2, if_neg q4, if_neg q3, if_neg q1]
      refine s_X11_readsRiver_72 _ _ _ ?_
      rw [m9]
      refine ⟨fun q => absurd rfl q, fun _ g4 e4 g5 e5 => ?_⟩
      have hno := rvOk_no hi (by rw [hB]; exact hk1)
      have hC : nC o.1 = 0 := by unfold nC; rw [hno]; rfl
      have hR : nR o.1 = 0 := by have := nR_le o.1; omega
      refine k g5 _ (Or.inr ⟨i, hi, rfl, by show kob (by_ o.1 i) = -1; rw [hB]; exact hk1, r5⟩) ⟨?_, ?_, fun c hc => by omega⟩ (fun b h1 h2 h3 => ?_) (fun j h1 h2 => ?_)
      · rw [hC, e5]; simp only [up2_ap, if_true]; rw [if_neg (by omega), e4]; simp [up2_ap]
      · rw [hR, e5]; simp [up2_ap]
      · rw [e5, up2_ne _ _ _ h1, e4, up2_ne _ _ _ h1]; exact r1 b h1 h2 h3
      · rw [e5]; simp only [up2_ap, if_true]; rw [if_neg h2, e4]; simp only [up2_ap, if_true]; rw [if_neg h1]; exact r2 j h1 h2
    · rw [hk, if_neg q2, if_pos q4]
    · rw [hk, if_neg q2, if_neg (by omega), if_pos q3]
    · rw [hk, if_pos q2]
    · have q1 : 97 ≤ v ∧ v ≤ 122 := by
        by_cases z : 97 ≤ v ∧ v ≤ 122
        · exact z
        · exact absurd z q1
      rw [hk, if_neg (by omega), if_neg (by omega), if_neg (by omega), if_pos q1]
  · refine ⟨fun b h1 h2 h3 => ?_, fun j h1 h2 => ?_, ?_, ?_, fun j hj => absurd hj (Nat.not_lt_zero j), fun j hj => absurd hj (Nat.not_lt_zero j)⟩
    · rw [e2, up2_ne _ _ _ h1, e1, up2_ne _ _ _ h1]
    · rw [e2]; simp only [up2_ap, if_true]; rw [if_neg h2, e1]; simp only [up2_ap, if_true]; rw [if_neg h1]
    · rw [e2]; simp only [up2_ap, if_true]; rw [if_neg (by omega), e1]; simp [up2_ap]
    · rw [e2]; simp only [up2_ap, if_true]; rfl
set_option maxHeartbeats 2000000 in
theorem c_readsPeople {o : Om} (hT : TM g o) (hl : o.2.length ≤ 47) (hb : TB o.2) (k : ∀ (g' : GI) (z : Int), FPp (fun i => fitP ((i % 6 : Nat) : Int) (by_ o.2 i) = 0) o.2.length z → WPM g' o.2 → (∀ b, b ≠ 228 → b ≠ 237 → g' b = g b) → (∀ j, j ≠ 10 → g' 228 j = g 228 j) → P (some (aI z)) g') : Zm w (d + 3) mX11_readsPeople 0 [some (aR (some 228)), none, none, none, none] [] g P := by
  have n1 : (nm 1).toNat = 1 := by decide
  have m9 : nm (-9) = -9 := by decide
  have n5 : nm 5 = 5 := by decide
  have n4 : nm 4 = 4 := by decide
  have eL : nm (o.2.length : Int) = o.2.length := nm_id (by omega) (by omega)
  refine s_X11_readsPeople_0 (fun g1 e1 v4 e4 => ?_)
  rw [n1, e1, up2_ne _ _ _ (by omega), hT.2.2.1] at e4
  subst e4
  have ZERO : ∀ g5 g6 : GI, (∀ b, b ≠ 228 → b ≠ 237 → g5 b = g b) → (∀ j, j ≠ 10 → g5 228 j = g 228 j) → g6 = up2 g5 228 10 0 → nP o.2 = 0 → WPM g6 o.2 ∧ (∀ b, b ≠ 228 → b ≠ 237 → g6 b = g b) ∧ (∀ j, j ≠ 10 → g6 228 j = g 228 j) := by
    intro g5 g6 f1 f2 e6 hz
    refine ⟨⟨?_, fun p hp => by omega⟩, fun b h1 h2 => ?_, fun j hj => ?_⟩
    · rw [e6, hz]; simp [up2_ap]
    · rw [e6, up2_ne _ _ _ h1]; exact f1 b h1 h2
    · rw [e6]; simp only [up2_ap, if_true]; rw [if_neg hj]; exact f2 j hj
  refine loopN (σ := GI) (fun i s => Zm w (d + 3) mX11_readsPeople 14 [some (aR (some 228)), some (aI (o.2.length : Int)), some (aI (i : Int)), none, none] [] s P) (fun i s => (∀ b, b ≠ 228 → b ≠ 237 → s b = g b) ∧ (∀ j, j ≠ 10 → s 228 j = g 228 j) ∧ s 228 10 = (((i + 1) / 6 : Nat) : Int) ∧ (∀ j, j < i → ¬ fitP ((j % 6 : Nat) : Int) (by_ o.2 j) = 0) ∧ ∀ p, (6 * p < i → s 237 (4 * p) = by_ o.2 (6 * p) - 97) ∧ (6 * p + 1 < i → i ≤ 6 * p + 2 → s 237 (4 * p + 1) = 10 * (by_ o.2 (6 * p + 1) - 48)) ∧ (6 * p + 2 < i → s 237 (4 * p + 1) = oweP o.2 p) ∧ (6 * p + 3 < i → s 237 (4 * p + 2) = wedF o.2 p) ∧ (6 * p + 4 < i → s 237 (4 * p + 3) = lukF o.2 p)) o.2.length ?_ ?_ 0 g1 (Nat.zero_le _) ?_
  · intro g3 ⟨r1, r2, r3, r4, r5⟩
    have e6 : iRem (o.2.length : Int) 6 = ((o.2.length % 6 : Nat) : Int) := by
      rw [show (6 : Int) = ((6 : Nat) : Int) from rfl, iRem_nat (by omega) (by omega) (by omega)]
    have e6' : nm ((o.2.length % 6 : Nat) : Int) = ((o.2.length % 6 : Nat) : Int) := nm_id (by omega) (by omega)
    refine s_X11_readsPeople_14 _ _ ?_
    rw [eL, e6, e6', n5]
    have OK : (o.2.length = 0 ∨ o.2.length % 6 = 5) → P (some (aI (-1))) g3 := by
      intro h
      have hok : ppOk o.2 = true := ppOk_iff.mpr ⟨r4, h⟩
      have hP : nP o.2 = (o.2.length + 1) / 6 := by unfold nP; rw [hok]; rfl
      refine k g3 _ (Or.inr ⟨r4, by rw [if_pos h]⟩) ⟨by rw [hP]; exact r3, fun p hp => ?_⟩ r1 r2
      have hp2 : 6 * p + 5 ≤ o.2.length := by omega
      have := r5 p
      exact ⟨this.1 (by omega), this.2.2.1 (by omega), this.2.2.2.1 (by omega), this.2.2.2.2 (by omega)⟩
    refine ⟨fun _ => ⟨fun q => OK (Or.inl (by omega)), fun q => ⟨fun q2 => OK (Or.inr (by omega)), fun q2 g4 e4 => ?_⟩⟩, fun q => absurd q (by omega)⟩
    have hno : ¬ (o.2.length = 0 ∨ o.2.length % 6 = 5) := by omega
    have hP : nP o.2 = 0 := by
      unfold nP
      cases z : ppOk o.2 with
      | false => rfl
      | true => exact absurd (ppOk_iff.mp z).2 hno
    obtain ⟨z1, z2, z3⟩ := ZERO g3 g4 r1 r2 e4 hP
    exact k g4 _ (Or.inr ⟨r4, by rw [if_neg hno]⟩) z1 z2 z3
  · intro i g3 hi ⟨r1, r2, r3, r4, r5⟩ ih
    have ei : nm (i : Int) = i := nm_id (by omega) (by omega)
    have hv := hb i hi
    have er : iRem (i : Int) 6 = ((i % 6 : Nat) : Int) := by
      rw [show (6 : Int) = ((6 : Nat) : Int) from rfl, iRem_nat (by omega) (by omega) (by omega)]
    have ed : iDiv (i : Int) 6 = ((i / 6 : Nat) : Int) := by
      rw [show (6 : Int) = ((6 : Nat) : Int) from rfl, iDiv_nat (by omega) (by omega) (by omega)]
    have e48 : nm (48 + (i : Int)) = ((48 + i : Nat) : Int) := by rw [nm_id (by omega) (by omega)]; omega
    have eb : g3 233 (48 + i) = by_ o.2 i := by rw [r1 233 (by omega) (by omega)]; exact hT.2.2.2 i hi
    refine s_X11_readsPeople_14 _ _ ?_
    rw [ei, eL, er, ed, e48, Int.toNat_natCast, eb]
    refine ⟨fun q => absurd q (by omega), fun _ v5 e5 => ⟨by omega, by omega, fun v10 e10 => ?_⟩⟩
    subst e5
    have hfit := tof_fit (k := i % 6) (b := by_ o.2 i) (by omega) hv.1 (by omega)
    rw [← e10] at hfit
    rw [m9, hfit]
    refine ⟨fun q => ?_, fun q g4 e4 => ?_⟩
    · have hval := tof_val (k := i % 6) (by omega) hv.1 (by omega) q
      rw [← e10] at hval
      have hlt : i / 6 < 8 := by omega
      refine c_tells hlt (by omega) (by omega) ⟨rfl, ?_⟩
      have er' : nm ((i % 6 : Nat) : Int) = ((i % 6 : Nat) : Int) := nm_id (by omega) (by omega)
      rw [er', n4]
      generalize hg4 : tlW g3 (i / 6) (i % 6) v10 = g4
      have t228 : g4 228 = g3 228 := by
        rw [← hg4]; unfold tlW; (repeat' split) <;> first | rfl | exact up2_ne _ _ _ (by omega)
      have tfr : ∀ b, b ≠ 237 → g4 b = g3 b := fun b h => by
        rw [← hg4]; unfold tlW; (repeat' split) <;> first | rfl | exact up2_ne _ _ _ h
      have BODY : ∀ p, (6 * p < i + 1 → g4 237 (4 * p) = by_ o.2 (6 * p) - 97) ∧ (6 * p + 1 < i + 1 → i + 1 ≤ 6 * p + 2 → g4 237 (4 * p + 1) = 10 * (by_ o.2 (6 * p + 1) - 48)) ∧ (6 * p + 2 < i + 1 → g4 237 (4 * p + 1) = oweP o.2 p) ∧ (6 * p + 3 < i + 1 → g4 237 (4 * p + 2) = wedF o.2 p) ∧ (6 * p + 4 < i + 1 → g4 237 (4 * p + 3) = lukF o.2 p) := by
        intro p
        have R := r5 p
        obtain ⟨i6, ir, hir, hi6⟩ : ∃ a r, r < 6 ∧ i = 6 * a + r := ⟨i / 6, i % 6, by omega, by omega⟩
        have d1 : i / 6 = i6 := by omega
        have d2 : i % 6 = ir := by omega
        rw [d1, d2] at hg4
        rw [d2] at hval
        rcases (by omega : ir = 0 ∨ ir = 1 ∨ ir = 2 ∨ ir = 3 ∨ ir = 4 ∨ ir = 5) with z | z | z | z | z | z
        · subst z
          have up : ∀ e, g4 237 e = if e = 4 * i6 then v10 else g3 237 e := fun e => by rw [← hg4]; unfold tlW; simp [up2_ap]
          refine ⟨fun h => ?_, fun h h' => ?_, fun h => ?_, fun h => ?_, fun h => ?_⟩
          · rw [up]
            by_cases e : p = i6
            · subst e
              rw [if_pos rfl, hval]
              simp only [if_true, hi6]; simp
            · rw [if_neg (by omega)]; exact R.1 (by omega)
          · rw [up, if_neg (by omega)]; exact R.2.1 (by omega) (by omega)
          · rw [up, if_neg (by omega)]; exact R.2.2.1 (by omega)
          · rw [up, if_neg (by omega)]; exact R.2.2.2.1 (by omega)
          · rw [up, if_neg (by omega)]; exact R.2.2.2.2 (by omega)
        · subst z
          have up : ∀ e, g4 237 e = if e = 4 * i6 + 1 then 10 * v10 else g3 237 e := fun e => by rw [← hg4]; unfold tlW; simp [up2_ap]
          refine ⟨fun h => ?_, fun h h' => ?_, fun h => ?_, fun h => ?_, fun h => ?_⟩
          · rw [up, if_neg (by omega)]; exact R.1 (by omega)
          · rw [up]
            by_cases e : p = i6
            · subst e
              rw [if_pos rfl, hval]
              simp [hi6]
            · rw [if_neg (by omega)]; exact R.2.1 (by omega) (by omega)
          · rw [up, if_neg (by omega)]; exact R.2.2.1 (by omega)
          · rw [up, if_neg (by omega)]; exact R.2.2.2.1 (by omega)
          · rw [up, if_neg (by omega)]; exact R.2.2.2.2 (by omega)
        · subst z
          have up : ∀ e, g4 237 e = if e = 4 * i6 + 1 then g3 237 (4 * i6 + 1) + v10 else g3 237 e := fun e => by rw [← hg4]; unfold tlW; simp [up2_ap]
          refine ⟨fun h => ?_, fun h h' => ?_, fun h => ?_, fun h => ?_, fun h => ?_⟩
          · rw [up, if_neg (by omega)]; exact R.1 (by omega)
          · rw [up, if_neg (by omega)]; exact R.2.1 (by omega) (by omega)
          · rw [up]
            by_cases e : p = i6
            · subst e
              rw [if_pos rfl, hval]
              rw [R.2.1 (by omega) (by omega)]; simp [hi6, oweP]
            · rw [if_neg (by omega)]; exact R.2.2.1 (by omega)
          · rw [up, if_neg (by omega)]; exact R.2.2.2.1 (by omega)
          · rw [up, if_neg (by omega)]; exact R.2.2.2.2 (by omega)
        · subst z
          have up : ∀ e, g4 237 e = if e = 4 * i6 + 2 then v10 else g3 237 e := fun e => by rw [← hg4]; unfold tlW; simp [up2_ap]
          refine ⟨fun h => ?_, fun h h' => ?_, fun h => ?_, fun h => ?_, fun h => ?_⟩
          · rw [up, if_neg (by omega)]; exact R.1 (by omega)
          · rw [up, if_neg (by omega)]; exact R.2.1 (by omega) (by omega)
          · rw [up, if_neg (by omega)]; exact R.2.2.1 (by omega)
          · rw [up]
            by_cases e : p = i6
            · subst e
              rw [if_pos rfl, hval]
              simp only [hi6, wedF]; simp
            · rw [if_neg (by omega)]; exact R.2.2.2.1 (by omega)
          · rw [up, if_neg (by omega)]; exact R.2.2.2.2 (by omega)
        · subst z
          have up : ∀ e, g4 237 e = if e = 4 * i6 + 3 then v10 else g3 237 e := fun e => by rw [← hg4]; unfold tlW; simp [up2_ap]
          refine ⟨fun h => ?_, fun h h' => ?_, fun h => ?_, fun h => ?_, fun h => ?_⟩
          · rw [up, if_neg (by omega)]; exact R.1 (by omega)
          · rw [up, if_neg (by omega)]; exact R.2.1 (by omega) (by omega)
          · rw [up, if_neg (by omega)]; exact R.2.2.1 (by omega)
          · rw [up, if_neg (by omega)]; exact R.2.2.2.1 (by omega)
          · rw [up]
            by_cases e : p = i6
            · subst e
              rw [if_pos rfl, hval]
              simp [hi6, lukF]
            · rw [if_neg (by omega)]; exact R.2.2.2.2 (by omega)
        · subst z
          have up : ∀ e, g4 237 e = g3 237 e := fun e => by rw [← hg4]; unfold tlW; simp
          refine ⟨fun h => ?_, fun h h' => ?_, fun h => ?_, fun h => ?_, fun h => ?_⟩
          · rw [up]; exact R.1 (by omega)
          · rw [up]; exact R.2.1 (by omega) (by omega)
          · rw [up]; exact R.2.2.1 (by omega)
          · rw [up]; exact R.2.2.2.1 (by omega)
          · rw [up]; exact R.2.2.2.2 (by omega)
      have FIN : ∀ g7 : GI, ∀ y : Int, y = (((i + 2) / 6 : Nat) : Int) → g7 = up2 g4 228 10 y → Zm w (d + 3) mX11_readsPeople 14 [some (aR (some 228)), some (aI (o.2.length : Int)), some (aI ((i : Int) + 1)), none, none] [] g7 P := by
        intro g7 y hy e7
        refine ih g7 ⟨fun b h1 h2 => ?_, fun j hj => ?_, ?_, fun j hj => ?_, ?_⟩
        · rw [e7, up2_ne _ _ _ h1, tfr b h2]; exact r1 b h1 h2
        · rw [e7]; simp only [up2_ap, if_true]; rw [if_neg hj, t228]; exact r2 j hj
        · rw [e7]; simp only [up2_ap, if_true]; exact hy
        · by_cases e : j = i
          · subst e; exact q
          · exact r4 j (by omega)
        · rw [e7, up2_ne _ _ _ (by omega)]; exact BODY
      rw [t228, r3]
      exact ⟨fun z g7 e7 => FIN g7 _ (by omega) e7, fun z g7 e7 => FIN g7 _ (by omega) e7⟩
    · have hno := ppOk_no hi q
      have hP : nP o.2 = 0 := by unfold nP; rw [hno]; rfl
      obtain ⟨z1, z2, z3⟩ := ZERO g3 g4 r1 r2 e4 hP
      exact k g4 _ (Or.inl ⟨i, hi, rfl, q, r4⟩) z1 z2 z3
  · refine ⟨fun b h1 h2 => by rw [e1, up2_ne _ _ _ h1], fun j hj => by rw [e1]; simp only [up2_ap, if_true]; rw [if_neg hj], by rw [e1]; simp [up2_ap], fun j hj => absurd hj (Nat.not_lt_zero j), fun p => ⟨fun h => by omega, fun h => by omega, fun h => by omega, fun h => by omega, fun h => by omega⟩⟩
theorem c_reads {o : Om} (hT : TM g o) (hl : o.1.length ≤ 20) (hb : TB o.1) (hl2 : o.2.length ≤ 47) (hb2 : TB o.2) (k : ∀ (g' : GI), WRM g' o.1 → WPM g' o.2 → (∀ b, b ≠ 228 → b ≠ 235 → b ≠ 236 → b ≠ 237 → g' b = g b) → (∀ j, j ≠ 7 → j ≠ 10 → j ≠ 12 → g' 228 j = g 228 j) → P none g') : Zm w (d + 4) mX11_reads 0 [some (aR (some 228))] [] g P := by
  refine s_X11_reads_0 ?_
  refine c_readsRiver hT hl hb (fun g1 z1 _ w1 f1 h1 => ⟨z1, rfl, ?_⟩)
  have hT1 : TM g1 o := by unfold TM; rw [f1 234 (by omega) (by omega) (by omega), f1 233 (by omega) (by omega) (by omega)]; exact hT
  refine c_readsPeople hT1 hl2 hb2 (fun g2 z2 _ w2 f2 h2 => ⟨z2, rfl, ?_⟩)
  refine k g2 ?_ w2 (fun b b1 b2 b3 b4 => by rw [f2 b b1 b4, f1 b b1 b2 b3]) (fun j j1 j2 j3 => by rw [h2 j j2, h1 j j1 j3])
  unfold WRM
  rw [h2 7 (by omega), h2 12 (by omega), f2 235 (by omega) (by omega), f2 236 (by omega) (by omega)]
  exact w1
end MR
