/-! the class: the texts are told to the world -/
theorem getD_snoc (L : List Nat) (c x : Nat) : (L ++ [c]).getD x 0 = if x < L.length then L.getD x 0 else if x = L.length then c else 0 := by
  rw [List.getD_eq_getElem?_getD, List.getD_eq_getElem?_getD]
  by_cases h : x < L.length
  · rw [if_pos h, List.getElem?_append_left h]
  · rw [if_neg h, List.getElem?_append_right (by omega)]
    by_cases e : x = L.length
    · subst e; simp
    · rw [if_neg e, List.getElem?_eq_none (by simp; omega)]; rfl
theorem rvOk_FP {g : GI} {n : Nat} {z : Int} (h : FP (fun i => kob (g 217 i) = -1) n z) : (z = -1 ↔ rvOk (lst (g 217) n) = true) := by
  rw [rvOk_iff, lst_len]
  rcases h with ⟨e, h⟩ | ⟨r, hr, e, hb, h⟩
  · refine ⟨fun _ i hi => ?_, fun _ => e⟩
    rw [by_at hi]; exact h i hi
  · refine ⟨fun q => by omega, fun q => ?_⟩
    have := q r hr
    rw [by_at hr] at this
    exact absurd hb this
section TL
variable {w : GX} {d : Nat} {P : PN} {g : GI}
set_option maxHeartbeats 4000000 in
theorem c_tellRiver {n : Nat} (hn : g 216 1 = (n : Int)) (hl : n ≤ 20)
    (k : ∀ g' : GI, WRv g' (lst (g 217) n) → (∀ a, a < 18 ∨ 24 < a → g' a = g a) → (∀ j, j ≠ 8 → j ≠ 9 → g' 18 j = g 18 j) → P none g') : Zm w (d + 3) mX9_tellRiver 0 [some (aR (some 18)), some (aR (some 216)), none] [] g P := by
  have hT := isT_216
  have hkd : (kd0 (216 + 1)).2 = 20 := by decide +kernel
  refine s_X9_tellRiver_0 hT (fun g1 e1 => ?_)
  subst e1
  refine c_rvF (n := n) hT (by rw [up2_ap]; simpa using hn) (by rw [hkd]; exact hl) (by omega) (fun z hz => ⟨z, rfl, ?_⟩)
  have hz : FP (fun i => kob (g 217 i) = -1) n z := by
    refine hz.congr (fun j _ => ?_)
    rw [up2_ap]; simp
  have hok := rvOk_FP hz
  have hzr : nm z = z := by
    rcases hz with ⟨e, -⟩ | ⟨r, hr, e, -⟩
    · rw [e]; decide
    · rw [e]; exact nm_id (by omega) (by omega)
  generalize ht0 : lst (g 217) n = t0 at hok k
  have hlen : t0.length = n := by rw [← ht0, lst_len]
  have hby : ∀ i, i < n → by_ t0 i = g 217 i := fun i hi => by rw [← ht0]; exact by_at hi
  -- behind the first choice
  suffices H : ∀ g1 : GI, g1 18 8 = (nC t0 : Int) → g1 18 9 = 0 → (∀ a, a < 18 ∨ 24 < a → g1 a = g a) → (∀ j, j ≠ 8 → j ≠ 9 → g1 18 j = g 18 j) → Zm w (d + 3) mX9_tellRiver 32 [some (aR (some 18)), some (aR (some 216)), some (aI (0 : Int))] [] g1 P by
    rw [hzr, nm_m1]
    refine ⟨fun c => ?_, fun c => ?_⟩
    · refine s_X9_tellRiver_27 hT _ (fun g2 e2 => ?_)
      subst e2
      refine H _ ?_ ?_ ?_ ?_
      · have : nC t0 = 0 := by unfold nC; rw [if_neg (fun q => c (hok.mpr q))]
        rw [this]; simp [up2_ap]
      · simp [up2_ap]
      · intro a ha
        rw [up2_ne _ _ _ (by omega), up2_ne _ _ _ (by omega)]
      · intro j h8 h9
        simp [up2_ap, h8, h9]
    · refine s_X9_tellRiver_27 hT _ (fun g2 e2 => ?_)
      subst e2
      have en : nC t0 = n := by unfold nC; rw [if_pos (hok.mp c), hlen]
      refine H _ ?_ ?_ ?_ ?_
      · have e3 : nm (n : Int) = n := nm_id (by omega) (by omega)
        have e4 : nm 20 = 20 := by decide
        simp only [up2_ap, if_true, if_false, Nat.reduceEqDiff, hn, en, iMin, e3, e4]
        split <;> omega
      · simp [up2_ap]
      · intro a ha
        rw [up2_ne _ _ _ (by omega), up2_ne _ _ _ (by omega)]
      · intro j h8 h9
        simp [up2_ap, h8, h9]
  intro g1 hc hr hf hf18
  have hnC : nC t0 ≤ n := by have := nC_le t0; omega
  -- the second loop
  have L2 : ∀ g2 : GI, g2 18 8 = (nC t0 : Int) → g2 18 9 = (nR t0 : Int) → (∀ c, c < nC t0 → g2 19 c = kob (by_ t0 c)) → (∀ x, x < nR t0 → g2 22 x = (cofF t0 x : Int) ∧ g2 23 x = by_ t0 (cofF t0 x) - 97 ∧ g2 24 x = 0) → (∀ a, a < 18 ∨ 24 < a → g2 a = g a) → (∀ j, j ≠ 8 → j ≠ 9 → g2 18 j = g 18 j) → Zm w (d + 3) mX9_tellRiver 121 [some (aR (some 18)), none, some (aI (0 : Int))] [] g2 P := by
    intro g2 b1 b2 b3 b4 b5 b6
    refine loopN (σ := GI) (fun i g3 => Zm w (d + 3) mX9_tellRiver 121 [some (aR (some 18)), none, some (aI (i : Int))] [] g3 P) (fun i g3 => (∀ a, a ≠ 20 → a ≠ 21 → g3 a = g2 a) ∧ ∀ c, c < i → g3 20 c = bI (evD t0 c) ∧ g3 21 c = bI (odD t0 c)) (nC t0) ?_ ?_ 0 g2 (Nat.zero_le _) ⟨fun _ _ _ => rfl, fun c hc => absurd hc (Nat.not_lt_zero c)⟩
    · intro g3 ⟨f1, f2⟩
      have e1 : nm ((nC t0 : Nat) : Int) = nC t0 := nm_id (by omega) (by omega)
      have e2 : g3 18 8 = (nC t0 : Int) := by rw [f1 18 (by decide) (by decide)]; exact b1
      refine s_X9_tellRiver_121 _ ?_
      rw [e2, e1]
      refine ⟨fun _ => k g3 ⟨e2, by rw [f1 18 (by decide) (by decide)]; exact b2, fun c hc => ⟨by rw [f1 19 (by decide) (by decide)]; exact b3 c hc, f2 c hc⟩, fun x hx => by rw [f1 22 (by decide) (by decide), f1 23 (by decide) (by decide), f1 24 (by decide) (by decide)]; exact b4 x hx⟩ (fun a ha => by rw [f1 a (by omega) (by omega)]; exact b5 a ha) (fun j h8 h9 => by rw [f1 18 (by decide) (by decide)]; exact b6 j h8 h9), fun c => absurd c (by omega)⟩
    · intro i g3 hi ⟨f1, f2⟩ ih
      have e0 : nm (i : Int) = i := nm_id (by omega) (by omega)
      have e1 : nm ((i : Int) + 1) = (i : Int) + 1 := nm_id (by omega) (by omega)
      have e1' : ((i : Int) + 1).toNat = i + 1 := by omega
      have e2 : g3 18 8 = (nC t0 : Int) := by rw [f1 18 (by decide) (by decide)]; exact b1
      have e3 : nm ((nC t0 : Nat) : Int) = nC t0 := nm_id (by omega) (by omega)
      have e19 : g3 19 = g2 19 := f1 19 (by decide) (by decide)
      have n2 : nm 2 = 2 := by decide
      -- the end of the body, with what comes into the first row
      have B : ∀ v : Int, v = bI (evD t0 i) → Zm w (d + 3) mX9_tellRiver 161 [some (aR (some 18)), none, some (aI (i : Int))] [aI v, aI (i : Int), aR (some 20)] g3 P := by
        intro v hv
        have hv1 : nm v = v := by rw [hv]; exact nm_bI _
        have n1 : nm 1 = 1 := by decide
        refine s_X9_tellRiver_161 _ _ _ ⟨by omega, by omega, by rw [hv]; exact bI_01 _, fun g4 e4 => ?_⟩
        subst e4
        rw [e0, Int.toNat_natCast]
        have fin : ∀ u : Int, u = bI (odD t0 i) → Zm w (d + 3) mX9_tellRiver 121 [some (aR (some 18)), none, some (aI ((i : Int) + 1))] [] (up2 (up2 g3 20 i v) 21 i u) P := by
          intro u hu
          refine ih _ ⟨fun a h20 h21 => by rw [up2_ne _ _ _ h21, up2_ne _ _ _ h20]; exact f1 a h20 h21, fun c hc => ?_⟩
          by_cases e : c = i
          · subst e
            simp [up2_ap, hv, hu]
          · have := f2 c (by omega)
            simp [up2_ap, e, this.1, this.2]
        refine ⟨by omega, by omega, ?_⟩
        have r1 : up2 g3 20 i v 20 i = v := by simp [up2_ap]
        have r2 : up2 g3 20 i v 19 i = kob (by_ t0 i) := by rw [up2_ne _ _ _ (by decide), e19]; exact b3 i hi
        rw [r1, r2, hv1, nm_kob, n1]
        refine ⟨fun c g5 e5 => ?_, fun c => ⟨fun c2 g5 e5 => ?_, fun c2 g5 e5 => ?_⟩⟩
        · subst e5
          refine fin _ ?_
          have : evD t0 i = false := by rw [hv, bI_0] at c; exact c
          simp [odD, this, bI]
        · subst e5
          refine fin _ ?_
          simp [odD, c2, bI]
        · subst e5
          refine fin _ ?_
          have : evD t0 i = true := by
            cases h : evD t0 i with
            | true => rfl
            | false => exact absurd (by rw [hv, h]; rfl) c
          simp [odD, this, c2, bI]
      refine s_X9_tellRiver_121 _ ?_
      rw [e2, e3, e0, e1, e1', e19, n2]
      refine ⟨fun c => absurd c (by omega), fun c => ⟨fun c2 => ?_, fun c2 => ⟨by omega, by omega, fun c3 => ?_, fun c3 => ?_⟩⟩⟩
      · refine s_X9_tellRiver_156 _ _ (B 1 ?_)
        have : evD t0 i = true := by unfold evD; rw [decide_eq_true_eq]; left; omega
        rw [this]; rfl
      · refine B 0 ?_
        rw [b3 (i + 1) (by omega), nm_kob] at c3
        have : evD t0 i = false := by
          unfold evD
          rw [decide_eq_false_iff_not]
          rintro (q | q)
          · omega
          · exact q c3
        rw [this]; rfl
      · refine s_X9_tellRiver_156 _ _ (B 1 ?_)
        rw [b3 (i + 1) (by omega), nm_kob] at c3
        have : evD t0 i = true := by unfold evD; rw [decide_eq_true_eq]; right; exact c3
        rw [this]; rfl
  -- the first loop
  refine loopN (σ := GI) (fun i g3 => Zm w (d + 3) mX9_tellRiver 32 [some (aR (some 18)), some (aR (some 216)), some (aI (i : Int))] [] g3 P)
    (fun i g3 => g3 18 8 = (nC t0 : Int) ∧ g3 18 9 = (((List.range i).filter (isNm t0)).length : Int) ∧ (∀ c, c < i → g3 19 c = kob (by_ t0 c)) ∧ (∀ x, x < ((List.range i).filter (isNm t0)).length → g3 22 x = ((((List.range i).filter (isNm t0)).getD x 0 : Nat) : Int) ∧ g3 23 x = by_ t0 (((List.range i).filter (isNm t0)).getD x 0) - 97 ∧ g3 24 x = 0) ∧ (∀ a, a < 18 ∨ 24 < a → g3 a = g a) ∧ (∀ j, j ≠ 8 → j ≠ 9 → g3 18 j = g 18 j)) (nC t0) ?_ ?_ 0 g1 (Nat.zero_le _) ⟨hc, by simpa using hr, fun c hc => absurd hc (Nat.not_lt_zero c), fun x hx => absurd hx (by simp), hf, hf18⟩
  · intro g3 ⟨f1, f2, f3, f4, f5, f6⟩
    have e1 : nm ((nC t0 : Nat) : Int) = nC t0 := nm_id (by omega) (by omega)
    refine s_X9_tellRiver_32 hT _ ?_
    rw [f1, e1]
    exact ⟨fun _ => L2 g3 f1 f2 f3 f4 f5 f6, fun c => absurd c (by omega)⟩
  · intro i g3 hi ⟨f1, f2, f3, f4, f5, f6⟩ ih
    have e0 : nm (i : Int) = i := nm_id (by omega) (by omega)
    have e3 : nm ((nC t0 : Nat) : Int) = nC t0 := nm_id (by omega) (by omega)
    have e217 : g3 217 i = by_ t0 i := by rw [f5 217 (by omega)]; exact (hby i (by omega)).symm
    have hcn := cnt_le t0 i
    generalize hL : (List.range i).filter (isNm t0) = Lc at f2 f4 hcn
    have ecn : nm ((Lc.length : Nat) : Int) = Lc.length := nm_id (by omega) (by omega)
    have n3 : nm 3 = 3 := by decide
    refine s_X9_tellRiver_32 hT _ ?_
    rw [f1, e3, e0, Int.toNat_natCast, hkd]
    refine ⟨fun c => absurd c (by omega), fun c => ⟨by omega, by omega, by omega, by omega, fun g4 e4 => ?_⟩⟩
    rw [show g3 (216 + 1) i = by_ t0 i from e217] at e4
    subst e4
    have r1 : up2 g3 19 i (kob (by_ t0 i)) 19 i = kob (by_ t0 i) := by simp [up2_ap]
    have r2 : up2 g3 19 i (kob (by_ t0 i)) 18 9 = (Lc.length : Int) := by rw [up2_ne _ _ _ (by decide)]; exact f2
    rw [r1, nm_kob, n3, r2, ecn, Int.toNat_natCast]
    refine ⟨fun c2 => ?_, fun c2 => ⟨by omega, by omega, fun g5 e5 => ?_⟩⟩
    · have hnm : isNm t0 i = false := by unfold isNm; rw [decide_eq_false_iff_not]; exact c2
      refine ih _ ?_
      rw [rvN_succ, hnm, hL]
      refine ⟨by rw [up2_ne _ _ _ (by decide)]; exact f1, by rw [up2_ne _ _ _ (by decide)]; simpa using f2, fun c hc => ?_, fun x hx => ?_, fun a ha => by rw [up2_ne _ _ _ (by omega)]; exact f5 a ha, fun j h8 h9 => by rw [up2_ne _ _ _ (by decide)]; exact f6 j h8 h9⟩
      · by_cases e : c = i
        · subst e; exact r1
        · rw [up2_ap]; simp [e, f3 c (by omega)]
      · simp only [Bool.false_eq_true, if_false, List.append_nil] at hx ⊢
        rw [up2_ne _ _ _ (by decide), up2_ne _ _ _ (by decide), up2_ne _ _ _ (by decide)]
        exact f4 x hx
    · rw [show (up2 g3 19 i (kob (by_ t0 i))) (216 + 1) i = by_ t0 i by rw [up2_ne _ _ _ (by decide)]; exact e217] at e5
      subst e5
      have hnm : isNm t0 i = true := by unfold isNm; rw [decide_eq_true_eq]; exact c2
      rw [up2_ne (b := 18) _ _ _ (by decide), r2, ecn, Int.toNat_natCast]
      refine ⟨by omega, by omega, fun g6 e6 => ?_⟩
      subst e6
      rw [up2_ne (b := 18) _ _ _ (by decide), up2_ne (b := 18) _ _ _ (by decide), r2, ecn, Int.toNat_natCast]
      refine ⟨by omega, by omega, fun g7 e7 g8 e8 => ?_⟩
      subst e8; subst e7
      rw [up2_ne (b := 18) _ _ _ (by decide), up2_ne (b := 18) _ _ _ (by decide), up2_ne (b := 18) _ _ _ (by decide), r2]
      refine ih _ ?_
      rw [rvN_succ, hnm, hL]
      refine ⟨?_, ?_, fun c hc => ?_, fun x hx => ?_, fun a ha => ?_, fun j h8 h9 => ?_⟩
      · simp [up2_ap, f1]
      · simp [up2_ap]
      · by_cases e : c = i
        · subst e; simp [up2_ap]
        · simp [up2_ap, e, f3 c (by omega)]
      · simp only [if_true] at hx ⊢
        rw [getD_snoc]
        have hx2 : x < Lc.length + 1 := by simpa using hx
        by_cases e : x = Lc.length
        · subst e
          simp [up2_ap]
        · have hx3 : x < Lc.length := by omega
          have := f4 x hx3
          simp [up2_ap, e, hx3, this.1, this.2.1, this.2.2]
      · rw [up2_ne _ _ _ (by omega), up2_ne _ _ _ (by omega), up2_ne _ _ _ (by omega), up2_ne _ _ _ (by omega), up2_ne _ _ _ (by omega)]
        exact f5 a ha
      · simp [up2_ap, h9, f6 j h8 h9]
end TL
