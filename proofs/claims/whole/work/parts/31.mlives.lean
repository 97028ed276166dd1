/-! the model: days lived -/
def LM (g : GI) (cs ca : Log2) : Prop := g 228 14 = (cs.length : Int) ∧ (∀ k, k < cs.length → g 238 (2 * k) = (cs.getD k (0, 0)).1 ∧ g 238 (2 * k + 1) = (cs.getD k (0, 0)).2) ∧ g 228 16 = (ca.length : Int) ∧ ∀ k, k < ca.length → g 239 (2 * k) = (ca.getD k (0, 0)).1 ∧ g 239 (2 * k + 1) = (ca.getD k (0, 0)).2
def LFM (g : GI) (fs : List Int) : Prop := g 228 18 = (fs.length : Int) ∧ ∀ k, k < fs.length → g 240 k = fs.getD k 0
def FM (g : GI) (fs : List Int) (fl : Nat → Bool) : Prop := FB fs ∧ LFM g fs ∧ ((g 228 30 = -1 ∧ fl = floodB fs) ∨ Bt (g 228 30) fl)
def SM (g : GI) (o : Om) (su : Sup) : Prop := g 228 27 = wix su ∧ (-1 ≤ g 228 28 ∧ g 228 28 < 1000) ∧ ∀ p, p < nP o.2 → (if (p : Int) = g 228 28 then g 228 29 else g 237 (4 * p + 3)) = (su.2 p : Int)
def EM (g : GI) (o : Om) (wear : Int) (cs : Log2) (su : Sup) (ca : Log2) (fs : List Int) (fl : Nat → Bool) : Prop := WM g o ∧ LM g cs ca ∧ FM g fs fl ∧ SM g o su ∧ g 228 13 = wear
def EBM (o : Om) (wear : Int) (cs : Log2) (su : Sup) (ca : Log2) : Prop := BO o ∧ LB cs 36 8 ∧ LB ca 10 20 ∧ SB o su ∧ 1 ≤ wear ∧ wear ≤ 20
theorem EM.same {g g' : GI} {o : Om} {wear : Int} {cs ca : Log2} {su : Sup} {fs : List Int} {fl : Nat → Bool} (h : EM g o wear cs su ca fs fl) (hf : ∀ b, b < 241 → g' b = g b) : EM g' o wear cs su ca fs fl := by
  unfold EM LM FM LFM SM at *
  rw [hf 228 (by omega), hf 238 (by omega), hf 239 (by omega), hf 240 (by omega), hf 237 (by omega)]
  exact ⟨h.1.same hf, h.2⟩
theorem EBM.h0 {o : Om} {wear : Int} {cs ca : Log2} {su : Sup} (h : EBM o wear cs su ca) : ∀ k, k < cs.length → 0 ≤ (cs.getD k (0, 0)).2 := fun k hk => (h.2.1.2 k hk).2.2.1
theorem Bt.ne {z : Int} {f : Nat → Bool} (h : Bt z f) : nm z ≠ -1 := by
  intro e
  have h31 := h.2 31 (by omega)
  have : Int32.ofInt z = Int32.ofInt (-1) := (eq_nm z (-1)).mpr (by rw [e]; decide)
  rw [this] at h31
  revert h31
  have : bt (Int32.ofInt (-1)) 31 = true := by decide
  rw [this]
  simp
theorem wix_at {su : Sup} (h : ∀ k, su.1 = some k → k < 1000) (i : Nat) : nm (wix su) = wix su ∧ ((i : Int) = wix su ↔ su.1 = some i) := by
  unfold wix
  cases q : su.1 with
  | none => exact ⟨by decide, by simp⟩
  | some k => exact ⟨nm_id (by have := h k q; show -2147483648 ≤ (k : Int); omega) (by have := h k q; show (k : Int) < 2147483648; omega), by simp; omega⟩
section ML
variable {w : GX} {d : Nat} {P : PN} {g : GI}
theorem c_isFlood {fs : List Int} {fl : Nat → Bool} {day : Nat} (hF : FM g fs fl) (hd : day < 30) (k : P (some (aI (bI (fl day)))) g) : Zm w (d + 1) mX11_isFlood 0 [some (aR (some 228)), some (aI (day : Int)), none, none] [] g P := by
  obtain ⟨⟨hf1, hf2⟩, ⟨hl1, hl2⟩, hs⟩ := hF
  have eL : nm (fs.length : Int) = fs.length := nm_id (by omega) (by omega)
  have ed : nm (day : Int) = day := nm_id (by omega) (by omega)
  have m1 : nm (-1) = -1 := by decide
  refine s_X11_isFlood_0 _ ?_
  refine loopN (σ := Unit) (fun i _ => Zm w (d + 1) mX11_isFlood 4 [some (aR (some 228)), some (aI (day : Int)), some (aI (bI (flP fs i day))), some (aI (i : Int))] [] g P) (fun _ _ => True) fs.length ?_ ?_ 0 () (Nat.zero_le _) trivial
  · intro _ _
    refine s_X11_isFlood_4 _ _ _ ?_
    rw [hl1, eL, m1]
    refine ⟨fun _ => ?_, fun q => absurd q (by omega)⟩
    rcases hs with ⟨s1, s2⟩ | hs
    · rw [s1, m1]
      refine ⟨fun q => absurd rfl q, fun _ => ⟨bI_01 _, ?_⟩⟩
      rw [s2] at k; exact k
    · refine ⟨fun _ => ⟨bI_01 _, ?_⟩, fun q => absurd q hs.ne⟩
      have e : isB (g 228 30) (day : Int) = bI (fl day) := by
        unfold isB
        rw [hs.test hd, nm_bI]
        cases fl day <;> rfl
      rw [e]; exact k
  · intro i _ hi _ ih
    have ei : nm (i : Int) = i := nm_id (by omega) (by omega)
    have hv := hf2 i hi
    have ev : nm (fs.getD i 0) = fs.getD i 0 := nm_id (by omega) (by omega)
    have hsu := flP_succ fs i day
    have ih := ih () trivial
    rw [hsu] at ih
    refine s_X11_isFlood_4 _ _ _ ?_
    rw [hl1, eL, ei, nbI_0, Int.toNat_natCast, hl2 i hi, ev, ed]
    refine ⟨fun q => absurd q (by omega), fun _ => ⟨fun q => ?_, fun q => ⟨by omega, by omega, fun q2 => ?_, fun q2 => ?_⟩⟩⟩
    · have q : flP fs i day = true := by simpa using q
      rw [q] at ih; exact ih
    · rw [q, decide_eq_false q2] at ih; exact ih
    · rw [q, decide_eq_true q2] at ih; exact ih
set_option maxHeartbeats 2000000 in
theorem c_begins {o : Om} {wear : Int} {n : Nat} (hB : BO o) (hwm : WM g o) (hn : g 228 14 = (n : Int)) (hn2 : n ≤ 36) (hw1 : 1 ≤ wear) (hw2 : wear ≤ 20) (k : ∀ g' : GI, MW g' o wear (beginM o) → (∀ j, j < n → g' 247 j = 0) → (∀ b, b < 241 ∨ 247 < b → g' b = g b) → P none g') : Zm w (d + 1) mX11_begins 0 [some (aR (some 228)), none, none] [] g P := by
  have hC := hB.1
  have hP := hB.2
  have hN := nN_le hB
  have hR := nR_le o.1
  have hNe : nN o = nR o.1 + nP o.2 := rfl
  have hRe : nR o.1 = cntN o.1 (nC o.1) := rfl
  have n20 : nm 20 = 20 := by decide
  have n3 : nm 3 = 3 := by decide
  have eC : nm (nC o.1 : Int) = nC o.1 := nm_id (by omega) (by omega)
  have eP : nm (nP o.2 : Int) = nP o.2 := nm_id (by omega) (by omega)
  have en : nm (n : Int) = n := nm_id (by omega) (by omega)
  -- changed
  have L4 : ∀ g3 : GI, MW g3 o wear (beginM o) → (∀ b, b < 241 ∨ 247 < b → g3 b = g b) → Zm w (d + 1) mX11_begins 153 [some (aR (some 228)), none, some (aI 0)] [] g3 P := by
    intro g3 m3 f3
    refine loopN (σ := GI) (fun i s => Zm w (d + 1) mX11_begins 153 [some (aR (some 228)), none, some (aI (i : Int))] [] s P) (fun i s => MW s o wear (beginM o) ∧ (∀ b, b < 241 ∨ 247 < b → s b = g b) ∧ ∀ j, j < i → s 247 j = 0) n ?_ ?_ 0 g3 (Nat.zero_le _) ⟨m3, f3, fun j hj => absurd hj (Nat.not_lt_zero j)⟩
    · intro g4 ⟨r1, r2, r3⟩
      refine s_X11_begins_153 _ ?_
      rw [r2 228 (by omega), hn, en]
      exact ⟨fun _ => k g4 r1 r3 r2, fun q => absurd q (by omega)⟩
    · intro i g4 hi ⟨r1, r2, r3⟩ ih
      have ei : nm (i : Int) = i := nm_id (by omega) (by omega)
      refine s_X11_begins_153 _ ?_
      rw [r2 228 (by omega), hn, en, ei, Int.toNat_natCast]
      refine ⟨fun q => absurd q (by omega), fun _ => ⟨by omega, by omega, fun g5 e5 => ?_⟩⟩
      refine ih g5 ⟨r1.same (fun b _ _ => by rw [e5, up2_ne _ _ _ (by omega)]), fun b hb => by rw [e5, up2_ne _ _ _ (by omega)]; exact r2 b hb, fun j hj => ?_⟩
      rw [e5]; simp only [up2_ap, if_true]
      split
      · rfl
      · exact r3 j (by omega)
  -- the people
  have L3 : ∀ g3 : GI, (∀ b, b < 241 ∨ 246 < b → g3 b = g b) → (∀ e, e < 20 → g3 242 e = if e < nC o.1 ∧ isNm o.1 e = true then 1 else 0) → (∀ e, e < nC o.1 → isNm o.1 e = true → g3 241 (28 * e) = (cntN o.1 e : Int)) → (∀ x, x < nR o.1 → g3 243 x = (cofF o.1 x : Int) ∧ g3 244 x = 0 ∧ g3 245 x = by_ o.1 (cofF o.1 x) - 97) → Zm w (d + 1) mX11_begins 79 [some (aR (some 228)), none, some (aI 0)] [] g3 P := by
    intro g3 f3 a3 b3 c3
    refine loopN (σ := GI) (fun i s => Zm w (d + 1) mX11_begins 79 [some (aR (some 228)), none, some (aI (i : Int))] [] s P) (fun i s => (∀ b, b < 243 ∨ 246 < b → s b = g3 b) ∧ (∀ x, x < nR o.1 → s 243 x = (cofF o.1 x : Int) ∧ s 244 x = 0 ∧ s 245 x = by_ o.1 (cofF o.1 x) - 97) ∧ ∀ p, p < i → s 243 (nR o.1 + p) = ((22 + p : Nat) : Int) ∧ s 244 (nR o.1 + p) = 0 ∧ s 245 (nR o.1 + p) = by_ o.2 (6 * p) - 97 ∧ s 246 p = ((nR o.1 + p : Nat) : Int)) (nP o.2) ?_ ?_ 0 g3 (Nat.zero_le _) ⟨fun _ _ => rfl, c3, fun j hj => absurd hj (Nat.not_lt_zero j)⟩
    · intro g4 ⟨r1, r2, r3⟩
      refine s_X11_begins_79 _ ?_
      rw [r1 228 (by omega), f3 228 (by omega), hwm.2.1, eP]
      refine ⟨fun _ => L4 g4 ⟨⟨fun c => nR o.1 - cntN o.1 c, ⟨?_, ?_, fun e he1 he2 => ⟨?_, fun j j1 j2 => ?_⟩⟩, fun e he1 he2 => ⟨?_, fun i hi => ?_⟩⟩, fun c c1 c2 => ?_, fun x hx => ?_, fun p hp => (r3 p hp).2.2.2⟩ (fun b hb => by rw [r1 b (by omega), f3 b (by omega)]), fun q => absurd q (by omega)⟩
      · show nR o.1 - cntN o.1 (nC o.1) = 0
        omega
      · show nR o.1 - cntN o.1 0 = (List.range (nR o.1)).reverse.length
        rw [List.length_reverse, List.length_range]
        show nR o.1 - 0 = nR o.1
        omega
      · show nR o.1 - cntN o.1 (e + 1) ≤ nR o.1 - cntN o.1 e
        have := cnt_mono o.1 e (e + 1) (by omega)
        omega
      · have j1 : nR o.1 - cntN o.1 (e + 1) ≤ j := j1
        have j2 : j < nR o.1 - cntN o.1 e := j2
        have hcs := cntN_s o.1 e
        have hcm := cnt_mono o.1 (e + 1) (nC o.1) (by omega)
        by_cases q : isNm o.1 e = true
        · rw [if_pos q] at hcs
          show (if (List.range (nR o.1)).reverse.getD j 0 < nR o.1 then cofF o.1 ((List.range (nR o.1)).reverse.getD j 0) else _) = e
          rw [rev_at (by omega), if_pos (by omega), show nR o.1 - 1 - j = cntN o.1 e by omega]
          exact cofF_at q he2
        · rw [if_neg q] at hcs; omega
      · show g4 242 e = ((nR o.1 - cntN o.1 e - (nR o.1 - cntN o.1 (e + 1)) : Nat) : Int)
        have hcs := cntN_s o.1 e
        have hcm := cnt_mono o.1 (e + 1) (nC o.1) (by omega)
        rw [r1 242 (by omega), a3 e (by omega)]
        by_cases q : isNm o.1 e = true
        · rw [if_pos q] at hcs; rw [if_pos ⟨he2, q⟩]; omega
        · rw [if_neg q] at hcs; rw [if_neg (fun z => q z.2)]; omega
      · have hi : i < nR o.1 - cntN o.1 e - (nR o.1 - cntN o.1 (e + 1)) := hi
        show g4 241 (28 * e + i) = ((List.range (nR o.1)).reverse.getD (nR o.1 - cntN o.1 (e + 1) + i) 0 : Int)
        have hcs := cntN_s o.1 e
        have hcm := cnt_mono o.1 (e + 1) (nC o.1) (by omega)
        by_cases q : isNm o.1 e = true
        · rw [if_pos q] at hcs
          rw [rev_at (by omega), show i = 0 by omega, r1 241 (by omega)]
          rw [show 28 * e + 0 = 28 * e by omega, b3 e he2 q]
          omega
        · rw [if_neg q] at hcs; omega
      · rw [r1 242 (by omega), a3 c c2, if_neg (by omega)]
      · have hwr : ∀ f : Int, lwh f ((0 : Nat) : Int) wear = f := fun f => by
          unfold lwh
          rw [if_pos (by rw [show nm ((0 : Nat) : Int) = 0 by decide, nm_id (z := wear) (by omega) (by omega)]; omega)]
        show g4 243 x = ((if x < nR o.1 then cofF o.1 x else 22 + (x - nR o.1) : Nat) : Int) ∧ g4 244 x = ((0 : Nat) : Int) ∧ g4 245 x = lwh (letF o x) ((0 : Nat) : Int) wear
        rw [hwr]
        unfold letF
        by_cases q : x < nR o.1
        · rw [if_pos q, if_pos q]; exact r2 x q
        · rw [if_neg q, if_neg q]
          have := r3 (x - nR o.1) (by omega)
          rw [show nR o.1 + (x - nR o.1) = x by omega] at this
          exact ⟨this.1, this.2.1, this.2.2.1⟩
    · intro i g4 hi ⟨r1, r2, r3⟩ ih
      have ei : nm (i : Int) = i := nm_id (by omega) (by omega)
      have e4 : nm (4 * (i : Int)) = ((4 * i : Nat) : Int) := by rw [nm_id (by omega) (by omega)]; omega
      have eR : nm ((nR o.1 : Int) + i) = ((nR o.1 + i : Nat) : Int) := by rw [nm_id (by omega) (by omega)]; omega
      have f4 : ∀ b, b < 241 → g4 b = g b := fun b hb => by rw [r1 b (by omega), f3 b (by omega)]
      have e12 : g4 228 12 = (nR o.1 : Int) := by rw [f4 228 (by omega)]; exact hwm.1.2.1
      refine s_X11_begins_79 _ ?_
      rw [e12, f4 228 (by omega), hwm.2.1, eP, ei, e4, eR, Int.toNat_natCast, Int.toNat_natCast, Int.toNat_natCast]
      refine ⟨fun q => absurd q (by omega), fun _ => ⟨by omega, by omega, by omega, by omega, fun g5 e5 => ?_⟩⟩
      have h5 : g5 228 12 = (nR o.1 : Int) := by rw [e5, up2_ne _ _ _ (by omega)]; exact e12
      rw [h5, eR, Int.toNat_natCast]
      refine ⟨by omega, by omega, fun g6 e6 => ?_⟩
      have h6 : g6 228 12 = (nR o.1 : Int) := by rw [e6, up2_ne _ _ _ (by omega)]; exact h5
      rw [h6, eR, Int.toNat_natCast]
      refine ⟨by omega, by omega, fun g7 e7 => ?_⟩
      have h7 : g7 228 12 = (nR o.1 : Int) := by rw [e7, up2_ne _ _ _ (by omega)]; exact h6
      rw [h7]
      refine ⟨by omega, by omega, fun g8 e8 => ?_⟩
      rw [f4 237 (by omega), (hwm.2.2 i hi).1] at e5
      have t243 : ∀ x, g8 243 x = if x = nR o.1 + i then 22 + (i : Int) else g4 243 x := fun x => by
        rw [e8, up2_ne _ _ _ (by omega), e7]; simp only [up2_ap, if_true]; rw [e6, up2_ne _ _ _ (by omega), e5, up2_ne _ _ _ (by omega)]
      have t244 : ∀ x, g8 244 x = if x = nR o.1 + i then 0 else g4 244 x := fun x => by
        rw [e8, up2_ne _ _ _ (by omega), e7, up2_ne _ _ _ (by omega), e6]; simp only [up2_ap, if_true]; rw [e5, up2_ne _ _ _ (by omega)]
      have t245 : ∀ x, g8 245 x = if x = nR o.1 + i then by_ o.2 (6 * i) - 97 else g4 245 x := fun x => by
        rw [e8, up2_ne _ _ _ (by omega), e7, up2_ne _ _ _ (by omega), e6, up2_ne _ _ _ (by omega), e5]; simp only [up2_ap, if_true]
      have t246 : ∀ x, g8 246 x = if x = i then (nR o.1 : Int) + i else g4 246 x := fun x => by
        rw [e8]; simp only [up2_ap, if_true]; rw [e7, up2_ne _ _ _ (by omega), e6, up2_ne _ _ _ (by omega), e5, up2_ne _ _ _ (by omega)]
      refine ih g8 ⟨fun b hb => by rw [e8, up2_ne _ _ _ (by omega), e7, up2_ne _ _ _ (by omega), e6, up2_ne _ _ _ (by omega), e5, up2_ne _ _ _ (by omega)]; exact r1 b hb, fun x hx => ?_, fun p hp => ?_⟩
      · rw [t243, t244, t245, if_neg (by omega), if_neg (by omega), if_neg (by omega)]; exact r2 x hx
      · rw [t243, t244, t245, t246]
        by_cases q : p = i
        · subst q; rw [if_pos rfl, if_pos rfl, if_pos rfl, if_pos rfl]; exact ⟨by omega, rfl, rfl, by omega⟩
        · rw [if_neg (by omega), if_neg (by omega), if_neg (by omega), if_neg (by omega)]; exact r3 p (by omega)
  -- the cells
  have L2 : ∀ g3 : GI, (∀ b, b ≠ 242 → g3 b = g b) → (∀ e, e < 20 → g3 242 e = 0) → Zm w (d + 1) mX11_begins 25 [some (aR (some 228)), some (aI 0), some (aI 0)] [] g3 P := by
    intro g3 f3 a3
    refine loopN (σ := GI) (fun i s => Zm w (d + 1) mX11_begins 25 [some (aR (some 228)), some (aI (cntN o.1 i : Int)), some (aI (i : Int))] [] s P) (fun i s => (∀ b, b < 241 ∨ 245 < b → s b = g b) ∧ (∀ e, e < 20 → s 242 e = if e < i ∧ isNm o.1 e = true then 1 else 0) ∧ (∀ e, e < i → isNm o.1 e = true → s 241 (28 * e) = (cntN o.1 e : Int)) ∧ (∀ x, x < cntN o.1 i → s 243 x = (cofF o.1 x : Int) ∧ s 244 x = 0 ∧ s 245 x = by_ o.1 (cofF o.1 x) - 97)) (nC o.1) ?_ ?_ 0 g3 (Nat.zero_le _) ⟨fun b hb => f3 b (by omega), fun e he => by rw [a3 e he, if_neg (by omega)], fun e he => absurd he (Nat.not_lt_zero e), fun x hx => absurd hx (Nat.not_lt_zero x)⟩
    · intro g4 ⟨r1, r2, r3, r4⟩
      refine s_X11_begins_25 _ _ ?_
      rw [r1 228 (by omega), hwm.1.1, eC]
      exact ⟨fun _ => L3 g4 (fun b hb => r1 b (by omega)) r2 r3 r4, fun q => absurd q (by omega)⟩
    · intro i g4 hi ⟨r1, r2, r3, r4⟩ ih
      have ei : nm (i : Int) = i := nm_id (by omega) (by omega)
      have hcs := cntN_s o.1 i
      have hcm := cnt_mono o.1 i (nC o.1) (by omega)
      have hcm2 := cnt_mono o.1 (i + 1) (nC o.1) (by omega)
      have ec : nm (cntN o.1 i : Int) = cntN o.1 i := nm_id (by omega) (by omega)
      have hN' : isNm o.1 i = true ↔ kob (by_ o.1 i) = 3 := by unfold isNm; exact decide_eq_true_iff
      refine s_X11_begins_25 _ _ ?_
      rw [r1 228 (by omega), r1 235 (by omega), r1 236 (by omega), hwm.1.1, eC, ei, Int.toNat_natCast, (hwm.1.2.2 i hi).1, (hwm.1.2.2 i hi).2, nm_kob, n3, ec, Int.toNat_natCast]
      refine ⟨fun q => absurd q (by omega), fun _ => ⟨by omega, by omega, fun q => ?_, fun q => ⟨by omega, by omega, fun g5 e5 g6 e6 => ?_⟩⟩⟩
      · have q' : ¬ isNm o.1 i = true := fun z => q (hN'.mp z)
        rw [if_neg q'] at hcs
        have hcs : cntN o.1 (i + 1) = cntN o.1 i := hcs
        rw [show (cntN o.1 i : Int) = ((cntN o.1 (i + 1) : Nat) : Int) by rw [hcs]]
        refine ih g4 ⟨r1, fun e he => ?_, fun e he hne => ?_, fun x hx => r4 x (by omega)⟩
        · rw [r2 e he]
          by_cases z : e = i
          · rw [z, if_neg (fun y => q' y.2), if_neg (fun y => q' y.2)]
          · by_cases y : e < i ∧ isNm o.1 e = true
            · rw [if_pos y, if_pos ⟨by omega, y.2⟩]
            · rw [if_neg y, if_neg (fun v => y ⟨by omega, v.2⟩)]
        · have : e ≠ i := fun z => q' (z ▸ hne)
          exact r3 e (by omega) hne
      · have q' : isNm o.1 i = true := hN'.mpr q
        rw [if_pos q'] at hcs
        have h62 : g6 242 i = ((0 : Nat) : Int) := by
          rw [e6, up2_ne _ _ _ (by omega), e5, up2_ne _ _ _ (by omega), r2 i (by omega), if_neg (by omega)]; rfl
        refine c_comesInto (x := cntN o.1 i) (c := i) (K := 0) (by omega) (by omega) h62 (by omega) ⟨rfl, ?_⟩
        rw [show (cntN o.1 i : Int) + 1 = ((cntN o.1 (i + 1) : Nat) : Int) by omega]
        generalize hg7 : up2 (up2 (up2 g6 241 (28 * i + 0) (cntN o.1 i : Int)) 242 i (((0 : Nat) : Int) + 1)) 243 (cntN o.1 i) (i : Int) = g7
        have t241 : ∀ e, g7 241 e = if e = 28 * i then (cntN o.1 i : Int) else g4 241 e := fun e => by
          rw [← hg7, up2_ne _ _ _ (by omega), up2_ne _ _ _ (by omega)]; simp only [up2_ap, if_true, Nat.add_zero]; rw [e6, up2_ne _ _ _ (by omega), e5, up2_ne _ _ _ (by omega)]
        have t242 : ∀ e, g7 242 e = if e = i then 1 else g4 242 e := fun e => by
          rw [← hg7, up2_ne _ _ _ (by omega)]; simp only [up2_ap, if_true]; rw [if_neg (show ¬ 242 = 241 by omega), e6, up2_ne _ _ _ (by omega), e5, up2_ne _ _ _ (by omega)]; rfl
        have t243 : ∀ e, g7 243 e = if e = cntN o.1 i then (i : Int) else g4 243 e := fun e => by
          rw [← hg7]; simp only [up2_ap, if_true]; rw [if_neg (show ¬ 243 = 242 by omega), if_neg (show ¬ 243 = 241 by omega), e6, up2_ne _ _ _ (by omega), e5, up2_ne _ _ _ (by omega)]
        have t244 : ∀ e, g7 244 e = if e = cntN o.1 i then 0 else g4 244 e := fun e => by
          rw [← hg7, up2_ne _ _ _ (by omega), up2_ne _ _ _ (by omega), up2_ne _ _ _ (by omega), e6]; simp only [up2_ap, if_true]; rw [e5, up2_ne _ _ _ (by omega)]
        have t245 : ∀ e, g7 245 e = if e = cntN o.1 i then by_ o.1 i - 97 else g4 245 e := fun e => by
          rw [← hg7, up2_ne _ _ _ (by omega), up2_ne _ _ _ (by omega), up2_ne _ _ _ (by omega), e6, up2_ne _ _ _ (by omega), e5]; simp only [up2_ap, if_true]
        refine ih g7 ⟨fun b hb => ?_, fun e he => ?_, fun e he hne => ?_, fun x hx => ?_⟩
        · rw [← hg7, up2_ne _ _ _ (by omega), up2_ne _ _ _ (by omega), up2_ne _ _ _ (by omega), e6, up2_ne _ _ _ (by omega), e5, up2_ne _ _ _ (by omega)]; exact r1 b hb
        · rw [t242]
          by_cases z : e = i
          · rw [if_pos z, if_pos ⟨by omega, by rw [z]; exact q'⟩]
          · rw [if_neg z, r2 e he]
            by_cases y : e < i ∧ isNm o.1 e = true
            · rw [if_pos y, if_pos ⟨by omega, y.2⟩]
            · rw [if_neg y, if_neg (fun v => y ⟨by omega, v.2⟩)]
        · rw [t241]
          by_cases z : e = i
          · rw [if_pos (by omega), z]
          · rw [if_neg (by omega)]; exact r3 e (by omega) hne
        · rw [t243, t244, t245]
          by_cases z : x = cntN o.1 i
          · rw [if_pos z, if_pos z, if_pos z, z, cofF_at q' hi]; exact ⟨rfl, rfl, rfl⟩
          · rw [if_neg z, if_neg z, if_neg z]; exact r4 x (by omega)
  refine s_X11_begins_0 ?_
  refine loopN (σ := GI) (fun i s => Zm w (d + 1) mX11_begins 4 [some (aR (some 228)), some (aI 0), some (aI (i : Int))] [] s P) (fun i s => (∀ b, b ≠ 242 → s b = g b) ∧ ∀ e, e < i → s 242 e = 0) 20 ?_ ?_ 0 g (Nat.zero_le _) ⟨fun _ _ => rfl, fun e he => absurd he (Nat.not_lt_zero e)⟩
  · intro g3 ⟨r1, r2⟩
    have e20 : nm ((20 : Nat) : Int) = 20 := by decide
    refine s_X11_begins_4 _ _ ?_
    rw [e20, n20]
    exact ⟨fun _ => L2 g3 r1 r2, fun q => absurd q (by omega)⟩
  · intro i g3 hi ⟨r1, r2⟩ ih
    have ei : nm (i : Int) = i := nm_id (by omega) (by omega)
    refine s_X11_begins_4 _ _ ?_
    rw [ei, n20, Int.toNat_natCast]
    refine ⟨fun q => absurd q (by omega), fun _ => ⟨by omega, by omega, fun g4 e4 => ?_⟩⟩
    refine ih g4 ⟨fun b hb => by rw [e4, up2_ne _ _ _ hb]; exact r1 b hb, fun e he => ?_⟩
    rw [e4]; simp only [up2_ap, if_true]
    split
    · rfl
    · exact r2 e (by omega)
set_option maxHeartbeats 2000000 in
theorem c_mday {o : Om} {wear : Int} {cs ca : Log2} {su : Sup} {fs : List Int} {fl : Nat → Bool} {m : Mu} {day : Nat} {f : Nat → Bool} (hE : EBM o wear cs su ca) (hM : EM g o wear cs su ca fs fl) (hw : MW g o wear m) (hf : Wf o m) (hwo : Wo m 800) (hd : day < 30) (hch : ∀ j, j < cs.length → g 247 j = bI (f j))
    (k : ∀ g' : GI, MW g' o wear (dayM o cs su ca fl day m) → (∀ j, j < cs.length → g' 247 j = bI (f j || chgM o cs su day j m)) → (∀ b, b < 241 ∨ 247 < b → g' b = g b) → P none g') : Zm w (d + 2) mX11_day 0 [some (aR (some 228)), some (aI (day : Int)), none, none] [] g P := by
  obtain ⟨hB, ⟨hl1, hl2⟩, ⟨hc1, hc2⟩, hs, hw1, hw2⟩ := id hE
  have h0 := hE.h0
  have hP := hB.2
  have hC := hB.1
  have hN := nN_le hB
  have ed : nm (day : Int) = day := nm_id (by omega) (by omega)
  have eP : nm ((nP o.2 : Int) - 1) = (nP o.2 : Int) - 1 := nm_id (by omega) (by omega)
  have wfx := hf.cross (su := su) (d := day) hB h0
  have wox := hwo.cross (o := o) (cs := cs) (su := su) (d := day)
  -- the rest of the day
  have L3 : ∀ g3 : GI, MW g3 o wear (catchM ca day ca.length (crossM o cs su day cs.length m)) → (∀ j, j < cs.length → g3 247 j = bI (f j || chgM o cs su day j m)) → (∀ b, b < 241 ∨ 247 < b → g3 b = g b) → Zm w (d + 1) mX11_drift 0 [some (aR (some 228)), some (aI (day : Int)), none, none, none, none, none] [] g3 (fun r g2 => r = none ∧ Zm w (d + 1) mX11_isFlood 0 [some (aR (some 228)), some (aI (day : Int)), none, none] [] g2 (fun r g4 => ∃ z5 : Int, r = some (aI z5) ∧ ((nm z5 = 0 → P none g4) ∧ (¬ nm z5 = 0 → Zm w (d + 1) mX11_drift 0 [some (aR (some 228)), some (aI (day : Int)), none, none, none, none, none] [] g4 (fun r g7 => r = none ∧ P none g7))))) := by
    intro g3 m3 c3 f3
    have hM3 := hM.same (g' := g3) (fun b hb => f3 b (by omega))
    have wf3 := (wfx cs.length (Nat.le_refl _)).catch (ca := ca) (d := day) hB ca.length
    have wo3 := (wox cs.length).catch (ca := ca) (d := day) ca.length
    refine c_mdrift hB hM3.1 m3 wf3 (wo3.mono (by omega)) hM3.2.2.2.2 hw1 hw2 (by omega) (fun g4 m4 f4 => ⟨rfl, ?_⟩)
    have hM4 := hM3.same (g' := g4) (fun b hb => f4 b (by omega))
    refine c_isFlood hM4.2.2.1 hd ⟨_, rfl, ?_⟩
    rw [nbI_0]
    refine ⟨fun q => ?_, fun q => ?_⟩
    · refine k g4 ?_ (fun j hj => by rw [f4 247 (by omega)]; exact c3 j hj) (fun b hb => by rw [f4 b (by omega)]; exact f3 b hb)
      unfold dayM driftsM; rw [if_neg (by rw [q]; decide)]; exact m4
    · refine c_mdrift hB hM4.1 m4 (wf3.drift hB day) ((wo3.drift wf3 day).mono (by omega)) hM4.2.2.2.2 hw1 hw2 (by omega) (fun g5 m5 f5 => ⟨rfl, ?_⟩)
      refine k g5 ?_ (fun j hj => by rw [f5 247 (by omega), f4 247 (by omega)]; exact c3 j hj) (fun b hb => by rw [f5 b (by omega), f4 b (by omega)]; exact f3 b hb)
      unfold dayM driftsM; rw [if_pos (by simpa using q)]; exact m5
  -- catches
  have L2 : ∀ g3 : GI, MW g3 o wear (crossM o cs su day cs.length m) → (∀ j, j < cs.length → g3 247 j = bI (f j || chgM o cs su day j m)) → (∀ b, b < 241 ∨ 247 < b → g3 b = g b) → Zm w (d + 2) mX11_day 70 [some (aR (some 228)), some (aI (day : Int)), some (aI 0), none] [] g3 P := by
    intro g3 m3 c3 f3
    refine loopN (σ := GI) (fun i s => Zm w (d + 2) mX11_day 70 [some (aR (some 228)), some (aI (day : Int)), some (aI (i : Int)), none] [] s P) (fun i s => MW s o wear (catchM ca day i (crossM o cs su day cs.length m)) ∧ (∀ j, j < cs.length → s 247 j = bI (f j || chgM o cs su day j m)) ∧ (∀ b, b < 241 ∨ 247 < b → s b = g b)) ca.length ?_ ?_ 0 g3 (Nat.zero_le _) ⟨m3, c3, f3⟩
    · intro g4 ⟨r1, r2, r3⟩
      have hM4 := hM.same (g' := g4) (fun b hb => r3 b (by omega))
      have eL : nm (ca.length : Int) = ca.length := nm_id (by omega) (by omega)
      refine s_X11_day_70 _ _ ?_
      rw [hM4.2.1.2.2.1, eL]
      exact ⟨fun _ => L3 g4 r1 r2 r3, fun q => absurd q (by omega)⟩
    · intro i g4 hi ⟨r1, r2, r3⟩ ih
      have hM4 := hM.same (g' := g4) (fun b hb => r3 b (by omega))
      have hb := hc2 i hi
      have hr := hM4.2.1.2.2.2 i hi
      have wf4 := (wfx cs.length (Nat.le_refl _)).catch (ca := ca) (d := day) hB i
      have hst : catchM ca day (i + 1) (crossM o cs su day cs.length m) = if (ca.getD i (0, 0)).1 = (day : Int) then sellM (ca.getD i (0, 0)).2.toNat (catchM ca day i (crossM o cs su day cs.length m)) else catchM ca day i (crossM o cs su day cs.length m) := rfl
      rw [hst] at ih
      generalize hD : (ca.getD i (0, 0)).1 = D at hb hr ih
      generalize hV : (ca.getD i (0, 0)).2 = V at hb hr ih
      generalize hKm : catchM ca day i (crossM o cs su day cs.length m) = K at r1 wf4 ih
      have eL : nm (ca.length : Int) = ca.length := nm_id (by omega) (by omega)
      have ei : nm (i : Int) = i := nm_id (by omega) (by omega)
      have e2 : nm (2 * (i : Int)) = ((2 * i : Nat) : Int) := by rw [nm_id (by omega) (by omega)]; omega
      have e21 : nm (2 * (i : Int) + 1) = ((2 * i + 1 : Nat) : Int) := by rw [nm_id (by omega) (by omega)]; omega
      have eDn : nm D = D := nm_id (by omega) (by omega)
      have eVn : nm V = V := nm_id (by omega) (by omega)
      refine s_X11_day_70 _ _ ?_
      rw [hM4.2.1.2.2.1, eL, ei, e2, e21, Int.toNat_natCast, Int.toNat_natCast, hr.1, hr.2, eDn, ed]
      refine ⟨fun q => absurd q (by omega), fun _ => ⟨by omega, by omega, fun v ev => ⟨by omega, by omega, fun q => ?_, fun q => ?_⟩⟩⟩
      · rw [if_neg q] at ih
        exact ih g4 ⟨r1, r2, r3⟩
      · subst ev
        rw [eVn]
        rw [if_pos q] at ih
        obtain ⟨⟨h, hs', hr'⟩, hz', hn'⟩ := id r1
        by_cases hVC : v.toNat < nC o.1
        · have hrv := hr' v.toNat (Nat.zero_le _) hVC
          have hvl := hs'.le (c := v.toNat) (by omega)
          have hkl := wf4.len hB
          have hvm := (hs'.2.2 v.toNat (Nat.zero_le _) hVC).1
          have eK : nm ((h v.toNat - h (v.toNat + 1) : Nat) : Int) = ((h v.toNat - h (v.toNat + 1) : Nat) : Int) := nm_id (by omega) (by omega)
          rw [hrv.1, eK]
          refine ⟨by omega, by omega, fun q2 => ?_, fun q2 => ?_⟩
          · have : sellM v.toNat K = K := by
              unfold sellM
              rw [hs'.se hVC, if_neg (show ¬ h (v.toNat + 1) < h v.toNat by omega), if_neg (Nat.lt_irrefl _)]
            rw [this] at ih
            exact ih g4 ⟨r1, r2, r3⟩
          · have hT := hrv.2 0 (by omega)
            have hKK : h (v.toNat + 1) < h v.toNat := by omega
            rw [show v = ((v.toNat : Nat) : Int) by omega]
            try rw [Int.toNat_natCast]
            refine c_taken (c := v.toNat) (i := 0) (K := h v.toNat - h (v.toNat + 1)) (by omega) (by omega) (by omega) hrv.1 rfl (fun g5 f5 a5 b5 c5 => ⟨_, rfl, ?_⟩)
            rw [hT, Nat.add_zero]
            have hTn := (wf4.2.1 (h (v.toNat + 1)) (by omega)).1
            have eT : nm ((K.2.2.2.getD (h (v.toNat + 1)) 0 : Nat) : Int) = ((K.2.2.2.getD (h (v.toNat + 1)) 0 : Nat) : Int) := nm_id (by omega) (by omega)
            rw [eT, Int.toNat_natCast]
            refine ⟨by omega, by omega, fun g6 e6 => ?_⟩
            refine ih g6 ⟨MW.sell hB wf4 hs' hr' hz' hn' hVC hKK f5 a5 b5 (fun j hj => by rw [c5 j hj, if_neg (Nat.not_lt_zero j)]) e6, fun j hj => ?_, fun b hb => ?_⟩
            · rw [e6, up2_ne _ _ _ (by omega), f5 247 (by omega) (by omega)]; exact r2 j hj
            · rw [e6, up2_ne _ _ _ (by omega), f5 b (by omega) (by omega)]; exact r3 b hb
        · have hz0 := hz' v.toNat (by omega) (by omega)
          rw [hz0, show nm 0 = 0 by decide]
          refine ⟨by omega, by omega, fun q2 => ?_, fun q2 => absurd q2 (by omega)⟩
          have : sellM v.toNat K = K := by
            unfold sellM
            rw [se_out wf4 (by omega), if_neg (Nat.lt_irrefl _)]
          rw [this] at ih
          exact ih g4 ⟨r1, r2, r3⟩
  -- crossings
  refine s_X11_day_0 _ ?_
  refine loopN (σ := GI) (fun i s => Zm w (d + 2) mX11_day 2 [some (aR (some 228)), some (aI (day : Int)), some (aI (i : Int)), none] [] s P) (fun i s => MW s o wear (crossM o cs su day i m) ∧ (∀ j, j < cs.length → s 247 j = bI (f j || (decide (j < i) && chgM o cs su day j m))) ∧ (∀ b, b < 241 ∨ 247 < b → s b = g b)) cs.length ?_ ?_ 0 g (Nat.zero_le _) ⟨hw, fun j hj => by rw [hch j hj]; simp, fun _ _ => rfl⟩
  · intro g4 ⟨r1, r2, r3⟩
    have hM4 := hM.same (g' := g4) (fun b hb => r3 b (by omega))
    have eL : nm (cs.length : Int) = cs.length := nm_id (by omega) (by omega)
    refine s_X11_day_2 _ _ ?_
    rw [hM4.2.1.1, eL]
    exact ⟨fun _ => L2 g4 r1 (fun j hj => by rw [r2 j hj, decide_eq_true hj, Bool.true_and]) r3, fun q => absurd q (by omega)⟩
  · intro i g4 hi ⟨r1, r2, r3⟩ ih
    have hM4 := hM.same (g' := g4) (fun b hb => r3 b (by omega))
    have hb := hl2 i hi
    have hr := hM4.2.1.2.1 i hi
    have wf4 := wfx i (by omega)
    obtain ⟨e6, e7⟩ := wix_at hs.1 i
    generalize hD : (cs.getD i (0, 0)).1 = D at hb hr
    generalize hV : (cs.getD i (0, 0)).2 = V at hb hr
    have eL : nm (cs.length : Int) = cs.length := nm_id (by omega) (by omega)
    have ei : nm (i : Int) = i := nm_id (by omega) (by omega)
    have e2 : nm (2 * (i : Int)) = ((2 * i : Nat) : Int) := by rw [nm_id (by omega) (by omega)]; omega
    have e21 : nm (2 * (i : Int) + 1) = ((2 * i + 1 : Nat) : Int) := by rw [nm_id (by omega) (by omega)]; omega
    have eDn : nm D = D := nm_id (by omega) (by omega)
    have eVn : nm V = V := nm_id (by omega) (by omega)
    have NO : ¬ ((cs.getD i (0, 0)).1 = (day : Int) ∧ su.1 ≠ some i ∧ (cs.getD i (0, 0)).2 < (nP o.2 : Int)) → Zm w (d + 2) mX11_day 2 [some (aR (some 228)), some (aI (day : Int)), some (aI ((i : Int) + 1)), none] [] g4 P := by
      intro hno
      have q : crosses1 o cs su day i = false := by
        cases q : crosses1 o cs su day i with
        | false => rfl
        | true => exact absurd ((crosses1_iff _ _ _ _ _).mp q) hno
      have q2 := crossM_no (m := m) q
      refine ih g4 ⟨by rw [q2.1]; exact r1, fun j hj => ?_, r3⟩
      rw [r2 j hj]
      by_cases e : j = i
      · subst e; rw [q2.2]; simp
      · rw [show decide (j < i + 1) = decide (j < i) by apply decide_eq_decide.mpr; omega]
    refine s_X11_day_2 _ _ ?_
    rw [hM4.2.1.1, eL, ei, hM4.2.2.2.1.1, e6, e2, e21, Int.toNat_natCast, Int.toNat_natCast, hr.1, hr.2, eDn, ed, hM4.1.2.1, eP, nm_inn, inn_0, eVn]
    refine ⟨fun q => absurd q (by omega), fun _ => ⟨fun q => NO (fun z => z.2.1 (e7.mp q)), fun q => ⟨by omega, by omega, fun q2 => NO (by rw [hD]; exact fun z => q2 z.1), fun q2 => ⟨by omega, by omega, fun q3 => NO (by rw [hV]; exact fun z => q3 ⟨by omega, by have := z.2.2; omega⟩), fun q3 => ?_⟩⟩⟩⟩
    have q3 : 0 ≤ V ∧ V ≤ (nP o.2 : Int) - 1 := by
      by_cases z : 0 ≤ V ∧ V ≤ (nP o.2 : Int) - 1
      · exact z
      · exact absurd z q3
    have q4 : crosses1 o cs su day i = true := (crosses1_iff _ _ _ _ _).mpr ⟨by rw [hD]; exact q2, fun z => q (e7.mpr z), by rw [hV]; omega⟩
    obtain ⟨c1, c2⟩ := crossM_yes (m := m) q4
    rw [hV] at c1 c2
    have hp : V.toNat < nP o.2 := by omega
    have hlk := hM4.2.2.2.1.2.2 V.toNat hp
    rw [show V = ((V.toNat : Nat) : Int) by omega]
    refine c_trades hB hM4.1 r1 wf4 hp (by omega) (hs.2 _ hp) hM4.2.2.2.1.2.1 hlk (fun g5 m5 f5 h5 => ⟨rfl, ?_⟩)
    rw [← c1] at m5
    rw [← c2] at h5
    refine ih g5 ⟨m5, fun j hj => ?_, fun b hb => by rw [f5 b hb]; exact r3 b hb⟩
    rw [h5]
    by_cases e : j = i
    · subst e
      rw [if_pos rfl, r2 j hj]
      cases chgM o cs su day j m <;> simp [bI]
    · rw [if_neg e, r2 j hj, show decide (j < i + 1) = decide (j < i) by apply decide_eq_decide.mpr; omega]
theorem c_lives {o : Om} {wear : Int} {cs ca : Log2} {su : Sup} {fs : List Int} {fl : Nat → Bool} {n : Nat} {z : Int} (hz : z = (n : Int) - 1) (hn : n ≤ 20) (hE : EBM o wear cs su ca) (hM : EM g o wear cs su ca fs fl)
    (k : ∀ g' : GI, MW g' o wear (aheadM o cs su ca fl n) → (∀ j, j < cs.length → g' 247 j = bI (chgN o cs su ca fl n j)) → (∀ b, b < 241 ∨ 247 < b → g' b = g b) → P none g') : Zm w (d + 3) mX11_lives 0 [some (aR (some 228)), some (aI z), none] [] g P := by
  obtain ⟨hB, ⟨hl1, hl2⟩, -, hs, hw1, hw2⟩ := id hE
  have h0 := hE.h0
  have ez : nm z = (n : Int) - 1 := by rw [hz]; exact nm_id (by omega) (by omega)
  refine s_X11_lives_0 _ ?_
  refine c_begins hB hM.1 hM.2.1.1 hl1 hw1 hw2 (fun g1 m1 c1 f1 => ⟨rfl, ?_⟩)
  refine loopN (σ := GI) (fun i s => Zm w (d + 3) mX11_lives 6 [some (aR (some 228)), some (aI z), some (aI (i : Int))] [] s P) (fun i s => MW s o wear (aheadM o cs su ca fl i) ∧ (∀ j, j < cs.length → s 247 j = bI (chgN o cs su ca fl i j)) ∧ (∀ b, b < 241 ∨ 247 < b → s b = g b)) n ?_ ?_ 0 g1 (Nat.zero_le _) ⟨m1, c1, f1⟩
  · intro g4 ⟨r1, r2, r3⟩
    have en : nm (n : Int) = n := nm_id (by omega) (by omega)
    refine s_X11_lives_6 _ _ ?_
    rw [ez, en]
    exact ⟨fun _ => k g4 r1 r2 r3, fun q => absurd q (by omega)⟩
  · intro i g4 hi ⟨r1, r2, r3⟩ ih
    have ei : nm (i : Int) = i := nm_id (by omega) (by omega)
    refine s_X11_lives_6 _ _ ?_
    rw [ez, ei]
    refine ⟨fun q => absurd q (by omega), fun _ => ?_⟩
    refine c_mday hE (hM.same (fun b hb => r3 b (by omega))) r1 (Wf.ahead hB h0 i) ((Wo.ahead hB h0 i).mono (by omega)) (by omega) r2 (fun g5 m5 c5 f5 => ⟨rfl, ?_⟩)
    exact ih g5 ⟨m5, c5, fun b hb => by rw [f5 b hb]; exact r3 b hb⟩
end ML
