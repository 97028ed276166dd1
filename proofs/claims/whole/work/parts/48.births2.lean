/-! the constructors of days, plans, guesses and chances -/
theorem rjn {a m L : Nat} (h1 : (rfL.getD a []).length ≤ L) (h2 : ∀ j, j < L → m ≤ j → rf0 a j = none) : ∀ j, m ≤ j → rf0 a j = none := fun j h => by
  rcases Nat.lt_or_ge j L with q | q
  · exact h2 j q h
  · exact rf0_big (Nat.le_trans h1 q)
theorem wz_ahead : ∀ e, e < 21 → ∀ i, i < 5 → 0 < i → rfL.getD (31 + 5 * e + i) [] = [] := by decide +kernel
theorem wl_ahead : ∀ e, e < 21 → (rfL.getD (31 + 5 * e) []).length ≤ 5 ∧ ∀ j, j < 5 → 4 ≤ j → rf0 (31 + 5 * e) j = none := by decide +kernel
theorem wz_chance : ∀ e, e < 11 → ∀ i, i < 5 → 0 < i → rfL.getD (160 + 5 * e + i) [] = [] := by decide +kernel
theorem wl_chance : ∀ e, e < 11 → (rfL.getD (160 + 5 * e) []).length ≤ 5 ∧ ∀ j, j < 5 → 4 ≤ j → rf0 (160 + 5 * e) j = none := by decide +kernel
theorem wl_sheets : ∀ e, e < 4 → rfL.getD (220 + 2 * e + 1) [] = [] ∧ (rfL.getD (220 + 2 * e) []).length ≤ 3 ∧ ∀ j, j < 3 → 1 ≤ j → rf0 (220 + 2 * e) j = none := by decide +kernel
theorem n_Wa {w : GX} {d e : Nat} (he : e < 21) : Ct w (d + 1) 4 84 mX8_init (31 + 5 * e) (31 + 5 * (e + 1)) [some (aR (some (31 + 5 * e)))] (fun _ => True) := by
  rw [show 31 + 5 * (e + 1) = 31 + 5 * e + 5 by omega]
  exact n_X8 (isW_ahead e he) (by omega) (fun i h1 h2 => wz_ahead e he i h2 h1) (rjn (wl_ahead e he).1 (wl_ahead e he).2)
theorem n_Wc {w : GX} {d e : Nat} (he : e < 11) : Ct w (d + 1) 4 84 mX8_init (160 + 5 * e) (160 + 5 * (e + 1)) [some (aR (some (160 + 5 * e)))] (fun _ => True) := by
  rw [show 160 + 5 * (e + 1) = 160 + 5 * e + 5 by omega]
  exact n_X8 (isW_chance e he) (by omega) (fun i h1 h2 => wz_chance e he i h2 h1) (rjn (wl_chance e he).1 (wl_chance e he).2)
theorem n_Sh {w : GX} {d e : Nat} (he : e < 4) : Ct w (d + 1) 1 60 mX6_init (220 + 2 * e) (220 + 2 * (e + 1)) [some (aR (some (220 + 2 * e)))] (fun g => g (220 + 2 * e) 2 = -1) := by
  rw [show 220 + 2 * (e + 1) = 220 + 2 * e + 2 by omega]
  exact n_X6 (isS_at e he) (by omega) (wl_sheets e he).1 (rjn (wl_sheets e he).2.1 (wl_sheets e he).2.2)
theorem dX2_init_0 : decode cX2_init 0 = .ok (.aload_n 0, 1) := by decide +kernel
theorem dX2_init_1 : decode cX2_init 1 = .ok (.invokespecial 3, 3) := by decide +kernel
theorem dX2_init_4 : decode cX2_init 4 = .ok (.aload_n 0, 1) := by decide +kernel
theorem dX2_init_5 : decode cX2_init 5 = .ok (.new 9, 3) := by decide +kernel
theorem dX2_init_8 : decode cX2_init 8 = .ok (.dup, 1) := by decide +kernel
theorem dX2_init_9 : decode cX2_init 9 = .ok (.invokespecial 11, 3) := by decide +kernel
theorem dX2_init_12 : decode cX2_init 12 = .ok (.putfield 12, 3) := by decide +kernel
theorem dX2_init_15 : decode cX2_init 15 = .ok (.aload_n 0, 1) := by decide +kernel
theorem dX2_init_16 : decode cX2_init 16 = .ok (.bipush 21, 2) := by decide +kernel
theorem dX2_init_18 : decode cX2_init 18 = .ok (.anewarray 18, 3) := by decide +kernel
theorem dX2_init_21 : decode cX2_init 21 = .ok (.putfield 20, 3) := by decide +kernel
theorem dX2_init_24 : decode cX2_init 24 = .ok (.aload_n 0, 1) := by decide +kernel
theorem dX2_init_25 : decode cX2_init 25 = .ok (.iconst 0, 1) := by decide +kernel
theorem dX2_init_26 : decode cX2_init 26 = .ok (.putfield 24, 3) := by decide +kernel
theorem dX2_init_29 : decode cX2_init 29 = .ok (.aload_n 0, 1) := by decide +kernel
theorem dX2_init_30 : decode cX2_init 30 = .ok (.iconst 0, 1) := by decide +kernel
theorem dX2_init_31 : decode cX2_init 31 = .ok (.putfield 28, 3) := by decide +kernel
theorem dX2_init_34 : decode cX2_init 34 = .ok (.aload_n 0, 1) := by decide +kernel
theorem dX2_init_35 : decode cX2_init 35 = .ok (.aload_n 1, 1) := by decide +kernel
theorem dX2_init_36 : decode cX2_init 36 = .ok (.putfield 31, 3) := by decide +kernel
theorem dX2_init_39 : decode cX2_init 39 = .ok (.aload_n 0, 1) := by decide +kernel
theorem dX2_init_40 : decode cX2_init 40 = .ok (.aload_n 2, 1) := by decide +kernel
theorem dX2_init_41 : decode cX2_init 41 = .ok (.putfield 35, 3) := by decide +kernel
theorem dX2_init_44 : decode cX2_init 44 = .ok (.aload_n 0, 1) := by decide +kernel
theorem dX2_init_45 : decode cX2_init 45 = .ok (.aload_n 3, 1) := by decide +kernel
theorem dX2_init_46 : decode cX2_init 46 = .ok (.putfield 39, 3) := by decide +kernel
theorem dX2_init_49 : decode cX2_init 49 = .ok (.aload_n 0, 1) := by decide +kernel
theorem dX2_init_50 : decode cX2_init 50 = .ok (.aload 4, 2) := by decide +kernel
theorem dX2_init_52 : decode cX2_init 52 = .ok (.putfield 42, 3) := by decide +kernel
theorem dX2_init_55 : decode cX2_init 55 = .ok (.iconst 0, 1) := by decide +kernel
theorem dX2_init_56 : decode cX2_init 56 = .ok (.istore 5, 2) := by decide +kernel
theorem dX2_init_58 : decode cX2_init 58 = .ok (.iload 5, 2) := by decide +kernel
theorem dX2_init_60 : decode cX2_init 60 = .ok (.bipush 20, 2) := by decide +kernel
theorem dX2_init_62 : decode cX2_init 62 = .ok (.if_icmp .gt 23, 3) := by decide +kernel
theorem dX2_init_65 : decode cX2_init 65 = .ok (.aload_n 0, 1) := by decide +kernel
theorem dX2_init_66 : decode cX2_init 66 = .ok (.getfield 20, 3) := by decide +kernel
theorem dX2_init_69 : decode cX2_init 69 = .ok (.iload 5, 2) := by decide +kernel
theorem dX2_init_71 : decode cX2_init 71 = .ok (.new 18, 3) := by decide +kernel
theorem dX2_init_74 : decode cX2_init 74 = .ok (.dup, 1) := by decide +kernel
theorem dX2_init_75 : decode cX2_init 75 = .ok (.invokespecial 45, 3) := by decide +kernel
theorem dX2_init_78 : decode cX2_init 78 = .ok (.aastore, 1) := by decide +kernel
theorem dX2_init_79 : decode cX2_init 79 = .ok (.iinc 5 1, 3) := by decide +kernel
theorem dX2_init_82 : decode cX2_init 82 = .ok (.goto (-24), 3) := by decide +kernel
theorem dX2_init_85 : decode cX2_init 85 = .ok (.return_, 1) := by decide +kernel
theorem n_X2 {w : GX} {d : Nat} : Ct w (d + 2) 108 1900 mX2_init 27 136 [some (aR (some 27)), some (aR (some 18)), some (aR (some 2)), some (aR (some 6)), some (aR (some 10)), none] (fun _ => True) := by
  intro rf g Q hz0 hg0 k
  have hr : Rin 27 (27 + 1) (fun b j => (b = 27 ∧ j = 4) ∨ (b = 27 ∧ j = 5) ∨ (b = 27 ∧ j = 0) ∨ (b = 27 ∧ j = 1) ∨ (b = 27 ∧ j = 2) ∨ (b = 27 ∧ j = 3)) rf rf := Rin.start hz0 (fun j => by rcases Nat.lt_or_ge j 6 with h | h; exact Or.inl (by omega); exact Or.inr (rjn (L := 8) (by decide +kernel) (by decide +kernel) j h))
  have hf : ∀ b, b < 27 → g b = g b := fun _ _ => rfl
  refine z_aload_n dX2_init_0 rfl rfl ?_
  refine z_oinit dX2_init_1 lk_X2_3 w_oin w_oco (Nat.le_of_ble_eq_true rfl) ?_
  refine z_aload_n dX2_init_4 rfl rfl ?_
  refine n_new (ci := 0) (q := (RX0, TX0, 2)) (N := 2) (U := (fun b j => (b = 27 ∧ j = 4) ∨ (b = 27 ∧ j = 5) ∨ (b = 27 ∧ j = 0) ∨ (b = 27 ∧ j = 1) ∨ (b = 27 ∧ j = 2) ∨ (b = 27 ∧ j = 3))) dX2_init_5 rfl cl_X2_9 ib_X0 ii_X0 rfl (by decide +kernel) (by omega) (by omega) hr (fun r1 g1 hr1 y1 f1 z1 => ?_)
  have hf1 : ∀ b, b < 27 → g1 b = g b := fun b hb => (f1 b (by omega)).trans (hf b hb)
  refine z_dup dX2_init_8 rfl ?_
  refine n_callN (M' := mX0_init) (c := 27 + 1) (n' := 30) (as := []) (kc := 106) (ks := 1890) (kc' := 1) (ks' := 8) (U := (fun b j => (b = 27 ∧ j = 4) ∨ (b = 27 ∧ j = 5) ∨ (b = 27 ∧ j = 0) ∨ (b = 27 ∧ j = 1) ∨ (b = 27 ∧ j = 2) ∨ (b = 27 ∧ j = 3))) dX2_init_9 lk_X2_11 mok_X0_init in_X0_init rfl rfl rfl (Nat.le_of_ble_eq_true rfl) rfl (Nat.le_of_ble_eq_true rfl) rfl (by omega) (n_X0 (a := 28) (by unfold isC; decide +kernel) (by omega) (by decide +kernel) (rjn (L := 2) (by decide +kernel) (by decide +kernel))) hr1 y1 z1 (fun r2 g2 hr2 f2 G2 => ?_)
  have hf2 : ∀ b, b < 27 → g2 b = g b := fun b hb => (f2 b (by omega)).trans (hf1 b hb)
  refine n_put (l := 0) (U := (fun b j => (b = 27 ∧ j = 4) ∨ (b = 27 ∧ j = 5) ∨ (b = 27 ∧ j = 0) ∨ (b = 27 ∧ j = 1) ∨ (b = 27 ∧ j = 2) ∨ (b = 27 ∧ j = 3))) (U' := (fun b j => (b = 27 ∧ j = 5) ∨ (b = 27 ∧ j = 0) ∨ (b = 27 ∧ j = 1) ∨ (b = 27 ∧ j = 2) ∨ (b = 27 ∧ j = 3))) dX2_init_12 ff_X2_12 (by decide) rfl (by decide +kernel) (by omega) (by omega) (by decide +kernel) (by intro c j h; (try dsimp only at h ⊢); omega) hr2 (fun r3 hr3 => ?_)
  refine z_aload_n dX2_init_15 rfl rfl ?_
  refine z_bipush dX2_init_16 rfl ?_
  refine n_arq (t := 16) (CC := RX8) (L := 21) (U := (fun b j => (b = 27 ∧ j = 5) ∨ (b = 27 ∧ j = 0) ∨ (b = 27 ∧ j = 1) ∨ (b = 27 ∧ j = 2) ∨ (b = 27 ∧ j = 3))) (U' := (fun b j => (b = 27 ∧ j = 5) ∨ (b = 27 ∧ j = 0) ∨ (b = 27 ∧ j = 1) ∨ (b = 27 ∧ j = 2) ∨ (b = 27 ∧ j = 3) ∨ (b = 30 ∧ j < 21))) dX2_init_18 cl_X2_18 (by decide) (by decide) (by decide) (by decide +kernel) (by omega) (by omega) (by decide +kernel) (by intro b j _ h; (try dsimp only at h ⊢); omega) (by intro j h; (try dsimp only at h ⊢); omega) hr3 (fun r4 g4 hr4 f4 => ?_)
  have hf4 : ∀ b, b < 27 → g4 b = g b := fun b hb => (f4 b (by omega)).trans (hf2 b hb)
  refine n_put (l := 0) (U := (fun b j => (b = 27 ∧ j = 5) ∨ (b = 27 ∧ j = 0) ∨ (b = 27 ∧ j = 1) ∨ (b = 27 ∧ j = 2) ∨ (b = 27 ∧ j = 3) ∨ (b = 30 ∧ j < 21))) (U' := (fun b j => (b = 27 ∧ j = 0) ∨ (b = 27 ∧ j = 1) ∨ (b = 27 ∧ j = 2) ∨ (b = 27 ∧ j = 3) ∨ (b = 30 ∧ j < 21))) dX2_init_21 ff_X2_20 (by decide) rfl (by decide +kernel) (by omega) (by omega) (by decide +kernel) (by intro c j h; (try dsimp only at h ⊢); omega) hr4 (fun r5 hr5 => ?_)
  refine z_aload_n dX2_init_24 rfl rfl ?_
  refine z_iconst dX2_init_25 ?_
  refine n_putI (l := 0) dX2_init_26 fw_X2_24 (by decide) (by decide +kernel) (by omega) (fun g6 f6 o6 e6 => ?_)
  have hf6 : ∀ b, b < 27 → g6 b = g b := fun b hb => (f6 b (by omega)).trans (hf4 b hb)
  refine z_aload_n dX2_init_29 rfl rfl ?_
  refine z_iconst dX2_init_30 ?_
  refine n_putI (l := 0) dX2_init_31 fw_X2_28 (by decide) (by decide +kernel) (by omega) (fun g7 f7 o7 e7 => ?_)
  have hf7 : ∀ b, b < 27 → g7 b = g b := fun b hb => (f7 b (by omega)).trans (hf6 b hb)
  refine z_aload_n dX2_init_34 rfl rfl ?_
  refine z_aload_n dX2_init_35 rfl rfl ?_
  refine n_put (l := 0) (U := (fun b j => (b = 27 ∧ j = 0) ∨ (b = 27 ∧ j = 1) ∨ (b = 27 ∧ j = 2) ∨ (b = 27 ∧ j = 3) ∨ (b = 30 ∧ j < 21))) (U' := (fun b j => (b = 27 ∧ j = 1) ∨ (b = 27 ∧ j = 2) ∨ (b = 27 ∧ j = 3) ∨ (b = 30 ∧ j < 21))) dX2_init_36 ff_X2_31 (by decide) rfl (by decide +kernel) (by omega) (by omega) (by decide +kernel) (by intro c j h; (try dsimp only at h ⊢); omega) hr5 (fun r8 hr8 => ?_)
  refine z_aload_n dX2_init_39 rfl rfl ?_
  refine z_aload_n dX2_init_40 rfl rfl ?_
  refine n_put (l := 0) (U := (fun b j => (b = 27 ∧ j = 1) ∨ (b = 27 ∧ j = 2) ∨ (b = 27 ∧ j = 3) ∨ (b = 30 ∧ j < 21))) (U' := (fun b j => (b = 27 ∧ j = 2) ∨ (b = 27 ∧ j = 3) ∨ (b = 30 ∧ j < 21))) dX2_init_41 ff_X2_35 (by decide) rfl (by decide +kernel) (by omega) (by omega) (by decide +kernel) (by intro c j h; (try dsimp only at h ⊢); omega) hr8 (fun r9 hr9 => ?_)
  refine z_aload_n dX2_init_44 rfl rfl ?_
  refine z_aload_n dX2_init_45 rfl rfl ?_
  refine n_put (l := 0) (U := (fun b j => (b = 27 ∧ j = 2) ∨ (b = 27 ∧ j = 3) ∨ (b = 30 ∧ j < 21))) (U' := (fun b j => (b = 27 ∧ j = 3) ∨ (b = 30 ∧ j < 21))) dX2_init_46 ff_X2_39 (by decide) rfl (by decide +kernel) (by omega) (by omega) (by decide +kernel) (by intro c j h; (try dsimp only at h ⊢); omega) hr9 (fun r10 hr10 => ?_)
  refine z_aload_n dX2_init_49 rfl rfl ?_
  refine z_aload dX2_init_50 rfl ?_
  refine n_put (l := 0) (U := (fun b j => (b = 27 ∧ j = 3) ∨ (b = 30 ∧ j < 21))) (U' := (fun b j => (b = 30 ∧ j < 21))) dX2_init_52 ff_X2_42 (by decide) rfl (by decide +kernel) (by omega) (by omega) (by decide +kernel) (by intro c j h; (try dsimp only at h ⊢); omega) hr10 (fun r11 hr11 => ?_)
  refine z_iconst dX2_init_55 ?_
  refine z_istore dX2_init_56 (by decide) rfl ?_
  refine loopN (σ := RF × GI) (fun i s => Zj w (d + 2) (5 * (21 - i)) (89 * (21 - i)) mX2_init 58 [some (aR (some 27)), some (aR (some 18)), some (aR (some 2)), some (aR (some 6)), some (aR (some 10)), some (aI (i : Int))] [] (kdn (31 + 5 * i)) s.1 (31 + 5 * i) s.2 Q) (fun i s => Rin 27 (31 + 5 * i) (fun b j => b = 30 ∧ i ≤ j ∧ j < 21) rf s.1 ∧ ∀ b, b < 27 → s.2 b = g b) 21 ?_ ?_ 0 (r11, g7) (Nat.zero_le _) ⟨⟨hr11.1, fun b j h1 h2 => (hr11.2 b j h1 h2).imp_left (fun h => by (try dsimp only at h ⊢); omega)⟩, hf7⟩
  · intro ⟨r, g1⟩ ⟨h1, h2⟩
    dsimp only at h1 h2 ⊢
    refine z_iload dX2_init_58 rfl ?_
    refine z_bipush dX2_init_60 rfl ?_
    refine z_icmp_gt (tgt := 85) dX2_init_62 (by decide) (fun _ => ?_) (fun q => absurd (by decide) q)
    refine z_vret dX2_init_85 rfl ?_
    exact k _ _ h1.1 (fun b j q1 q2 => (h1.2 b j q1 q2).resolve_left (by omega)) h2 trivial
  · intro i ⟨r, g1⟩ hi ⟨h1, h2⟩ ih
    dsimp only at h1 h2 ⊢
    have ei : nm (i : Int) = i := nm_id (by omega) (by omega)
    have e20 : nm 20 = 20 := by decide
    rw [show 5 * (21 - i) = 5 * (21 - (i + 1)) + 4 + 1 by omega, show 89 * (21 - i) = 89 * (21 - (i + 1)) + 84 + 5 by omega]
    refine z_iload dX2_init_58 rfl ?_
    refine z_bipush dX2_init_60 rfl ?_
    refine z_icmp_gt (tgt := 85) dX2_init_62 (by decide) (fun q => absurd q (by rw [e20, ei]; omega)) (fun _ => ?_)
    refine z_aload_n dX2_init_65 rfl rfl ?_
    refine n_getR (l := 0) (r := 30) (U := (fun b j => b = 30 ∧ i ≤ j ∧ j < 21)) dX2_init_66 fl_X2_20 (by decide) (by decide +kernel) (by omega) (by omega) (by decide +kernel) (by (try dsimp only); omega) h1 ?_
    refine z_iload dX2_init_69 rfl ?_
    refine n_new (ci := 8) (q := (RX8, TX8, 5)) (N := 5) (U := (fun b j => b = 30 ∧ i ≤ j ∧ j < 21)) dX2_init_71 rfl cl_X2_18 ib_X8 ii_X8 rfl (isW_ahead i hi).1 (by omega) (by omega) h1 (fun r201 g201 hr201 y201 f201 z201 => ?_)
    have hf201 : ∀ b, b < 27 → g201 b = g b := fun b hb => (f201 b (by omega)).trans (h2 b hb)
    refine z_dup dX2_init_74 rfl ?_
    refine n_callN (M' := mX8_init) (c := 31 + 5 * i) (n' := 31 + 5 * (i + 1)) (as := []) (kc := 5 * (21 - (i + 1))) (ks := 89 * (21 - (i + 1))) (kc' := 4) (ks' := 84) (U := (fun b j => b = 30 ∧ i ≤ j ∧ j < 21)) dX2_init_75 lk_X2_45 mok_X8_init in_X8_init rfl rfl rfl (Nat.le_of_ble_eq_true rfl) rfl (Nat.le_of_ble_eq_true rfl) rfl (by omega) (n_Wa hi) hr201 y201 z201 (fun r202 g202 hr202 f202 G202 => ?_)
    have hf202 : ∀ b, b < 27 → g202 b = g b := fun b hb => (f202 b (by omega)).trans (hf201 b hb)
    refine n_aast (ci := 8) (q := (RX8, TX8, 5)) (t := 16) (L := 21) (iN := i) (U := (fun b j => b = 30 ∧ i ≤ j ∧ j < 21)) (U' := (fun b j => b = 30 ∧ i + 1 ≤ j ∧ j < 21)) dX2_init_78 (by decide +kernel) (by omega) (by omega) rfl (by decide) (isW_ahead i hi).1 (by omega) ei (by omega) (w_ahead i hi) (by intro c j h; (try dsimp only at h ⊢); omega) hr202 (fun r203 hr203 => ?_)
    refine z_iinc dX2_init_79 rfl (by decide) rfl ?_
    refine z_goto (tgt := 58) dX2_init_82 (by decide) ?_
    exact ih (r203, g202) ⟨hr203, hf202⟩
theorem dX5_init_0 : decode cX5_init 0 = .ok (.aload_n 0, 1) := by decide +kernel
theorem dX5_init_1 : decode cX5_init 1 = .ok (.invokespecial 3, 3) := by decide +kernel
theorem dX5_init_4 : decode cX5_init 4 = .ok (.aload_n 0, 1) := by decide +kernel
theorem dX5_init_5 : decode cX5_init 5 = .ok (.new 9, 3) := by decide +kernel
theorem dX5_init_8 : decode cX5_init 8 = .ok (.dup, 1) := by decide +kernel
theorem dX5_init_9 : decode cX5_init 9 = .ok (.invokespecial 11, 3) := by decide +kernel
theorem dX5_init_12 : decode cX5_init 12 = .ok (.putfield 12, 3) := by decide +kernel
theorem dX5_init_15 : decode cX5_init 15 = .ok (.aload_n 0, 1) := by decide +kernel
theorem dX5_init_16 : decode cX5_init 16 = .ok (.new 9, 3) := by decide +kernel
theorem dX5_init_19 : decode cX5_init 19 = .ok (.dup, 1) := by decide +kernel
theorem dX5_init_20 : decode cX5_init 20 = .ok (.invokespecial 11, 3) := by decide +kernel
theorem dX5_init_23 : decode cX5_init 23 = .ok (.putfield 18, 3) := by decide +kernel
theorem dX5_init_26 : decode cX5_init 26 = .ok (.aload_n 0, 1) := by decide +kernel
theorem dX5_init_27 : decode cX5_init 27 = .ok (.iconst 2, 1) := by decide +kernel
theorem dX5_init_28 : decode cX5_init 28 = .ok (.newarray .int, 2) := by decide +kernel
theorem dX5_init_30 : decode cX5_init 30 = .ok (.putfield 21, 3) := by decide +kernel
theorem dX5_init_33 : decode cX5_init 33 = .ok (.aload_n 0, 1) := by decide +kernel
theorem dX5_init_34 : decode cX5_init 34 = .ok (.iconst 2, 1) := by decide +kernel
theorem dX5_init_35 : decode cX5_init 35 = .ok (.newarray .int, 2) := by decide +kernel
theorem dX5_init_37 : decode cX5_init 37 = .ok (.putfield 25, 3) := by decide +kernel
theorem dX5_init_40 : decode cX5_init 40 = .ok (.aload_n 0, 1) := by decide +kernel
theorem dX5_init_41 : decode cX5_init 41 = .ok (.iconst (-1), 1) := by decide +kernel
theorem dX5_init_42 : decode cX5_init 42 = .ok (.putfield 28, 3) := by decide +kernel
theorem dX5_init_45 : decode cX5_init 45 = .ok (.aload_n 0, 1) := by decide +kernel
theorem dX5_init_46 : decode cX5_init 46 = .ok (.iconst (-1), 1) := by decide +kernel
theorem dX5_init_47 : decode cX5_init 47 = .ok (.putfield 32, 3) := by decide +kernel
theorem dX5_init_50 : decode cX5_init 50 = .ok (.aload_n 0, 1) := by decide +kernel
theorem dX5_init_51 : decode cX5_init 51 = .ok (.aload_n 1, 1) := by decide +kernel
theorem dX5_init_52 : decode cX5_init 52 = .ok (.putfield 35, 3) := by decide +kernel
theorem dX5_init_55 : decode cX5_init 55 = .ok (.return_, 1) := by decide +kernel
theorem n_X5 {w : GX} {d : Nat} : Ct w (d + 2) 12 182 mX5_init 136 149 [some (aR (some 136)), some (aR (some 27))] (fun _ => True) := by
  intro rf g Q hz0 hg0 k
  have hr : Rin 136 (136 + 1) (fun b j => (b = 136 ∧ j = 1) ∨ (b = 136 ∧ j = 2) ∨ (b = 136 ∧ j = 3) ∨ (b = 136 ∧ j = 4) ∨ (b = 136 ∧ j = 0)) rf rf := Rin.start hz0 (fun j => by rcases Nat.lt_or_ge j 5 with h | h; exact Or.inl (by omega); exact Or.inr (rjn (L := 7) (by decide +kernel) (by decide +kernel) j h))
  have hf : ∀ b, b < 136 → g b = g b := fun _ _ => rfl
  refine z_aload_n dX5_init_0 rfl rfl ?_
  refine z_oinit dX5_init_1 lk_X5_3 w_oin w_oco (Nat.le_of_ble_eq_true rfl) ?_
  refine z_aload_n dX5_init_4 rfl rfl ?_
  refine n_new (ci := 8) (q := (RX8, TX8, 5)) (N := 5) (U := (fun b j => (b = 136 ∧ j = 1) ∨ (b = 136 ∧ j = 2) ∨ (b = 136 ∧ j = 3) ∨ (b = 136 ∧ j = 4) ∨ (b = 136 ∧ j = 0))) dX5_init_5 rfl cl_X5_9 ib_X8 ii_X8 rfl (by decide +kernel) (by omega) (by omega) hr (fun r1 g1 hr1 y1 f1 z1 => ?_)
  have hf1 : ∀ b, b < 136 → g1 b = g b := fun b hb => (f1 b (by omega)).trans (hf b hb)
  refine z_dup dX5_init_8 rfl ?_
  refine n_callN (M' := mX8_init) (c := 136 + 1) (n' := 142) (as := []) (kc := 7) (ks := 93) (kc' := 4) (ks' := 84) (U := (fun b j => (b = 136 ∧ j = 1) ∨ (b = 136 ∧ j = 2) ∨ (b = 136 ∧ j = 3) ∨ (b = 136 ∧ j = 4) ∨ (b = 136 ∧ j = 0))) dX5_init_9 lk_X5_11 mok_X8_init in_X8_init rfl rfl rfl (Nat.le_of_ble_eq_true rfl) rfl (Nat.le_of_ble_eq_true rfl) rfl (by omega) (n_X8 (a := 137) (by unfold isW; decide +kernel) (by omega) (fun i h1 h2 => (by decide +kernel : ∀ i, i < 5 → 0 < i → rfL.getD (137 + i) [] = []) i h2 h1) (rjn (L := 5) (by decide +kernel) (by decide +kernel))) hr1 y1 z1 (fun r2 g2 hr2 f2 G2 => ?_)
  have hf2 : ∀ b, b < 136 → g2 b = g b := fun b hb => (f2 b (by omega)).trans (hf1 b hb)
  refine n_put (l := 0) (U := (fun b j => (b = 136 ∧ j = 1) ∨ (b = 136 ∧ j = 2) ∨ (b = 136 ∧ j = 3) ∨ (b = 136 ∧ j = 4) ∨ (b = 136 ∧ j = 0))) (U' := (fun b j => (b = 136 ∧ j = 2) ∨ (b = 136 ∧ j = 3) ∨ (b = 136 ∧ j = 4) ∨ (b = 136 ∧ j = 0))) dX5_init_12 ff_X5_12 (by decide) rfl (by decide +kernel) (by omega) (by omega) (by decide +kernel) (by intro c j h; (try dsimp only at h ⊢); omega) hr2 (fun r3 hr3 => ?_)
  refine z_aload_n dX5_init_15 rfl rfl ?_
  refine n_new (ci := 8) (q := (RX8, TX8, 5)) (N := 5) (U := (fun b j => (b = 136 ∧ j = 2) ∨ (b = 136 ∧ j = 3) ∨ (b = 136 ∧ j = 4) ∨ (b = 136 ∧ j = 0))) dX5_init_16 rfl cl_X5_9 ib_X8 ii_X8 rfl (by decide +kernel) (by omega) (by omega) hr3 (fun r4 g4 hr4 y4 f4 z4 => ?_)
  have hf4 : ∀ b, b < 136 → g4 b = g b := fun b hb => (f4 b (by omega)).trans (hf2 b hb)
  refine z_dup dX5_init_19 rfl ?_
  refine n_callN (M' := mX8_init) (c := 142) (n' := 147) (as := []) (kc := 2) (ks := 4) (kc' := 4) (ks' := 84) (U := (fun b j => (b = 136 ∧ j = 2) ∨ (b = 136 ∧ j = 3) ∨ (b = 136 ∧ j = 4) ∨ (b = 136 ∧ j = 0))) dX5_init_20 lk_X5_11 mok_X8_init in_X8_init rfl rfl rfl (Nat.le_of_ble_eq_true rfl) rfl (Nat.le_of_ble_eq_true rfl) rfl (by omega) (n_X8 (a := 142) (by unfold isW; decide +kernel) (by omega) (fun i h1 h2 => (by decide +kernel : ∀ i, i < 5 → 0 < i → rfL.getD (142 + i) [] = []) i h2 h1) (rjn (L := 5) (by decide +kernel) (by decide +kernel))) hr4 y4 z4 (fun r5 g5 hr5 f5 G5 => ?_)
  have hf5 : ∀ b, b < 136 → g5 b = g b := fun b hb => (f5 b (by omega)).trans (hf4 b hb)
  refine n_put (l := 0) (U := (fun b j => (b = 136 ∧ j = 2) ∨ (b = 136 ∧ j = 3) ∨ (b = 136 ∧ j = 4) ∨ (b = 136 ∧ j = 0))) (U' := (fun b j => (b = 136 ∧ j = 3) ∨ (b = 136 ∧ j = 4) ∨ (b = 136 ∧ j = 0))) dX5_init_23 ff_X5_18 (by decide) rfl (by decide +kernel) (by omega) (by omega) (by decide +kernel) (by intro c j h; (try dsimp only at h ⊢); omega) hr5 (fun r6 hr6 => ?_)
  refine z_aload_n dX5_init_26 rfl rfl ?_
  refine z_iconst dX5_init_27 ?_
  refine n_arr (ty := .int) (t := 12) (L := 2) (U := (fun b j => (b = 136 ∧ j = 3) ∨ (b = 136 ∧ j = 4) ∨ (b = 136 ∧ j = 0))) dX5_init_28 rfl (Or.inl ⟨rfl, rfl⟩) w_aI (by decide) (by decide) (by decide +kernel) (by omega) (by omega) (by decide +kernel) hr6 (fun r7 g7 hr7 f7 z7 => ?_)
  have hf7 : ∀ b, b < 136 → g7 b = g b := fun b hb => (f7 b (by omega)).trans (hf5 b hb)
  refine n_put (l := 0) (U := (fun b j => (b = 136 ∧ j = 3) ∨ (b = 136 ∧ j = 4) ∨ (b = 136 ∧ j = 0))) (U' := (fun b j => (b = 136 ∧ j = 4) ∨ (b = 136 ∧ j = 0))) dX5_init_30 ff_X5_21 (by decide) rfl (by decide +kernel) (by omega) (by omega) (by decide +kernel) (by intro c j h; (try dsimp only at h ⊢); omega) hr7 (fun r8 hr8 => ?_)
  refine z_aload_n dX5_init_33 rfl rfl ?_
  refine z_iconst dX5_init_34 ?_
  refine n_arr (ty := .int) (t := 12) (L := 2) (U := (fun b j => (b = 136 ∧ j = 4) ∨ (b = 136 ∧ j = 0))) dX5_init_35 rfl (Or.inl ⟨rfl, rfl⟩) w_aI (by decide) (by decide) (by decide +kernel) (by omega) (by omega) (by decide +kernel) hr8 (fun r9 g9 hr9 f9 z9 => ?_)
  have hf9 : ∀ b, b < 136 → g9 b = g b := fun b hb => (f9 b (by omega)).trans (hf7 b hb)
  refine n_put (l := 0) (U := (fun b j => (b = 136 ∧ j = 4) ∨ (b = 136 ∧ j = 0))) (U' := (fun b j => (b = 136 ∧ j = 0))) dX5_init_37 ff_X5_25 (by decide) rfl (by decide +kernel) (by omega) (by omega) (by decide +kernel) (by intro c j h; (try dsimp only at h ⊢); omega) hr9 (fun r10 hr10 => ?_)
  refine z_aload_n dX5_init_40 rfl rfl ?_
  refine z_iconst dX5_init_41 ?_
  refine n_putI (l := 0) dX5_init_42 fw_X5_28 (by decide) (by decide +kernel) (by omega) (fun g11 f11 o11 e11 => ?_)
  have hf11 : ∀ b, b < 136 → g11 b = g b := fun b hb => (f11 b (by omega)).trans (hf9 b hb)
  refine z_aload_n dX5_init_45 rfl rfl ?_
  refine z_iconst dX5_init_46 ?_
  refine n_putI (l := 0) dX5_init_47 fw_X5_32 (by decide) (by decide +kernel) (by omega) (fun g12 f12 o12 e12 => ?_)
  have hf12 : ∀ b, b < 136 → g12 b = g b := fun b hb => (f12 b (by omega)).trans (hf11 b hb)
  refine z_aload_n dX5_init_50 rfl rfl ?_
  refine z_aload_n dX5_init_51 rfl rfl ?_
  refine n_put (l := 0) (U := (fun b j => (b = 136 ∧ j = 0))) (U' := (fun b j => j < 0 ∧ b < 0)) dX5_init_52 ff_X5_35 (by decide) rfl (by decide +kernel) (by omega) (by omega) (by decide +kernel) (by intro c j h; (try dsimp only at h ⊢); omega) hr10 (fun r13 hr13 => ?_)
  refine z_vret dX5_init_55 rfl ?_
  exact k _ _ hr13.1 (hr13.all (fun b j h => absurd h.1 (Nat.not_lt_zero _))) hf12 trivial
theorem dX3_init_0 : decode cX3_init 0 = .ok (.aload_n 0, 1) := by decide +kernel
theorem dX3_init_1 : decode cX3_init 1 = .ok (.invokespecial 3, 3) := by decide +kernel
theorem dX3_init_4 : decode cX3_init 4 = .ok (.aload_n 0, 1) := by decide +kernel
theorem dX3_init_5 : decode cX3_init 5 = .ok (.new 9, 3) := by decide +kernel
theorem dX3_init_8 : decode cX3_init 8 = .ok (.dup, 1) := by decide +kernel
theorem dX3_init_9 : decode cX3_init 9 = .ok (.invokespecial 11, 3) := by decide +kernel
theorem dX3_init_12 : decode cX3_init 12 = .ok (.putfield 12, 3) := by decide +kernel
theorem dX3_init_15 : decode cX3_init 15 = .ok (.aload_n 0, 1) := by decide +kernel
theorem dX3_init_16 : decode cX3_init 16 = .ok (.new 18, 3) := by decide +kernel
theorem dX3_init_19 : decode cX3_init 19 = .ok (.dup, 1) := by decide +kernel
theorem dX3_init_20 : decode cX3_init 20 = .ok (.invokespecial 20, 3) := by decide +kernel
theorem dX3_init_23 : decode cX3_init 23 = .ok (.putfield 21, 3) := by decide +kernel
theorem dX3_init_26 : decode cX3_init 26 = .ok (.aload_n 0, 1) := by decide +kernel
theorem dX3_init_27 : decode cX3_init 27 = .ok (.sipush 208, 3) := by decide +kernel
theorem dX3_init_30 : decode cX3_init 30 = .ok (.newarray .int, 2) := by decide +kernel
theorem dX3_init_32 : decode cX3_init 32 = .ok (.putfield 25, 3) := by decide +kernel
theorem dX3_init_35 : decode cX3_init 35 = .ok (.aload_n 0, 1) := by decide +kernel
theorem dX3_init_36 : decode cX3_init 36 = .ok (.aload_n 1, 1) := by decide +kernel
theorem dX3_init_37 : decode cX3_init 37 = .ok (.putfield 29, 3) := by decide +kernel
theorem dX3_init_40 : decode cX3_init 40 = .ok (.aload_n 0, 1) := by decide +kernel
theorem dX3_init_41 : decode cX3_init 41 = .ok (.aload_n 2, 1) := by decide +kernel
theorem dX3_init_42 : decode cX3_init 42 = .ok (.putfield 33, 3) := by decide +kernel
theorem dX3_init_45 : decode cX3_init 45 = .ok (.return_, 1) := by decide +kernel
theorem n_X3 {w : GX} {d : Nat} : Ct w (d + 2) 8 307 mX3_init 149 158 [some (aR (some 149)), some (aR (some 27)), some (aR (some 14))] (fun _ => True) := by
  intro rf g Q hz0 hg0 k
  have hr : Rin 149 (149 + 1) (fun b j => (b = 149 ∧ j = 2) ∨ (b = 149 ∧ j = 3) ∨ (b = 149 ∧ j = 4) ∨ (b = 149 ∧ j = 0) ∨ (b = 149 ∧ j = 1)) rf rf := Rin.start hz0 (fun j => by rcases Nat.lt_or_ge j 5 with h | h; exact Or.inl (by omega); exact Or.inr (rjn (L := 5) (by decide +kernel) (by decide +kernel) j h))
  have hf : ∀ b, b < 149 → g b = g b := fun _ _ => rfl
  refine z_aload_n dX3_init_0 rfl rfl ?_
  refine z_oinit dX3_init_1 lk_X3_3 w_oin w_oco (Nat.le_of_ble_eq_true rfl) ?_
  refine z_aload_n dX3_init_4 rfl rfl ?_
  refine n_new (ci := 0) (q := (RX0, TX0, 2)) (N := 2) (U := (fun b j => (b = 149 ∧ j = 2) ∨ (b = 149 ∧ j = 3) ∨ (b = 149 ∧ j = 4) ∨ (b = 149 ∧ j = 0) ∨ (b = 149 ∧ j = 1))) dX3_init_5 rfl cl_X3_9 ib_X0 ii_X0 rfl (by decide +kernel) (by omega) (by omega) hr (fun r1 g1 hr1 y1 f1 z1 => ?_)
  have hf1 : ∀ b, b < 149 → g1 b = g b := fun b hb => (f1 b (by omega)).trans (hf b hb)
  refine z_dup dX3_init_8 rfl ?_
  refine n_callN (M' := mX0_init) (c := 149 + 1) (n' := 152) (as := []) (kc := 6) (ks := 297) (kc' := 1) (ks' := 8) (U := (fun b j => (b = 149 ∧ j = 2) ∨ (b = 149 ∧ j = 3) ∨ (b = 149 ∧ j = 4) ∨ (b = 149 ∧ j = 0) ∨ (b = 149 ∧ j = 1))) dX3_init_9 lk_X3_11 mok_X0_init in_X0_init rfl rfl rfl (Nat.le_of_ble_eq_true rfl) rfl (Nat.le_of_ble_eq_true rfl) rfl (by omega) (n_X0 (a := 150) (by unfold isC; decide +kernel) (by omega) (by decide +kernel) (rjn (L := 2) (by decide +kernel) (by decide +kernel))) hr1 y1 z1 (fun r2 g2 hr2 f2 G2 => ?_)
  have hf2 : ∀ b, b < 149 → g2 b = g b := fun b hb => (f2 b (by omega)).trans (hf1 b hb)
  refine n_put (l := 0) (U := (fun b j => (b = 149 ∧ j = 2) ∨ (b = 149 ∧ j = 3) ∨ (b = 149 ∧ j = 4) ∨ (b = 149 ∧ j = 0) ∨ (b = 149 ∧ j = 1))) (U' := (fun b j => (b = 149 ∧ j = 3) ∨ (b = 149 ∧ j = 4) ∨ (b = 149 ∧ j = 0) ∨ (b = 149 ∧ j = 1))) dX3_init_12 ff_X3_12 (by decide) rfl (by decide +kernel) (by omega) (by omega) (by decide +kernel) (by intro c j h; (try dsimp only at h ⊢); omega) hr2 (fun r3 hr3 => ?_)
  refine z_aload_n dX3_init_15 rfl rfl ?_
  refine n_new (ci := 8) (q := (RX8, TX8, 5)) (N := 5) (U := (fun b j => (b = 149 ∧ j = 3) ∨ (b = 149 ∧ j = 4) ∨ (b = 149 ∧ j = 0) ∨ (b = 149 ∧ j = 1))) dX3_init_16 rfl cl_X3_18 ib_X8 ii_X8 rfl (by decide +kernel) (by omega) (by omega) hr3 (fun r4 g4 hr4 y4 f4 z4 => ?_)
  have hf4 : ∀ b, b < 149 → g4 b = g b := fun b hb => (f4 b (by omega)).trans (hf2 b hb)
  refine z_dup dX3_init_19 rfl ?_
  refine n_callN (M' := mX8_init) (c := 152) (n' := 157) (as := []) (kc := 1) (ks := 208) (kc' := 4) (ks' := 84) (U := (fun b j => (b = 149 ∧ j = 3) ∨ (b = 149 ∧ j = 4) ∨ (b = 149 ∧ j = 0) ∨ (b = 149 ∧ j = 1))) dX3_init_20 lk_X3_20 mok_X8_init in_X8_init rfl rfl rfl (Nat.le_of_ble_eq_true rfl) rfl (Nat.le_of_ble_eq_true rfl) rfl (by omega) (n_X8 (a := 152) (by unfold isW; decide +kernel) (by omega) (fun i h1 h2 => (by decide +kernel : ∀ i, i < 5 → 0 < i → rfL.getD (152 + i) [] = []) i h2 h1) (rjn (L := 5) (by decide +kernel) (by decide +kernel))) hr4 y4 z4 (fun r5 g5 hr5 f5 G5 => ?_)
  have hf5 : ∀ b, b < 149 → g5 b = g b := fun b hb => (f5 b (by omega)).trans (hf4 b hb)
  refine n_put (l := 0) (U := (fun b j => (b = 149 ∧ j = 3) ∨ (b = 149 ∧ j = 4) ∨ (b = 149 ∧ j = 0) ∨ (b = 149 ∧ j = 1))) (U' := (fun b j => (b = 149 ∧ j = 4) ∨ (b = 149 ∧ j = 0) ∨ (b = 149 ∧ j = 1))) dX3_init_23 ff_X3_21 (by decide) rfl (by decide +kernel) (by omega) (by omega) (by decide +kernel) (by intro c j h; (try dsimp only at h ⊢); omega) hr5 (fun r6 hr6 => ?_)
  refine z_aload_n dX3_init_26 rfl rfl ?_
  refine z_sipush dX3_init_27 rfl ?_
  refine n_arr (ty := .int) (t := 12) (L := 208) (U := (fun b j => (b = 149 ∧ j = 4) ∨ (b = 149 ∧ j = 0) ∨ (b = 149 ∧ j = 1))) dX3_init_30 rfl (Or.inl ⟨rfl, rfl⟩) w_aI (by decide) (by decide) (by decide +kernel) (by omega) (by omega) (by decide +kernel) hr6 (fun r7 g7 hr7 f7 z7 => ?_)
  have hf7 : ∀ b, b < 149 → g7 b = g b := fun b hb => (f7 b (by omega)).trans (hf5 b hb)
  refine n_put (l := 0) (U := (fun b j => (b = 149 ∧ j = 4) ∨ (b = 149 ∧ j = 0) ∨ (b = 149 ∧ j = 1))) (U' := (fun b j => (b = 149 ∧ j = 0) ∨ (b = 149 ∧ j = 1))) dX3_init_32 ff_X3_25 (by decide) rfl (by decide +kernel) (by omega) (by omega) (by decide +kernel) (by intro c j h; (try dsimp only at h ⊢); omega) hr7 (fun r8 hr8 => ?_)
  refine z_aload_n dX3_init_35 rfl rfl ?_
  refine z_aload_n dX3_init_36 rfl rfl ?_
  refine n_put (l := 0) (U := (fun b j => (b = 149 ∧ j = 0) ∨ (b = 149 ∧ j = 1))) (U' := (fun b j => (b = 149 ∧ j = 1))) dX3_init_37 ff_X3_29 (by decide) rfl (by decide +kernel) (by omega) (by omega) (by decide +kernel) (by intro c j h; (try dsimp only at h ⊢); omega) hr8 (fun r9 hr9 => ?_)
  refine z_aload_n dX3_init_40 rfl rfl ?_
  refine z_aload_n dX3_init_41 rfl rfl ?_
  refine n_put (l := 0) (U := (fun b j => (b = 149 ∧ j = 1))) (U' := (fun b j => j < 0 ∧ b < 0)) dX3_init_42 ff_X3_33 (by decide) rfl (by decide +kernel) (by omega) (by omega) (by decide +kernel) (by intro c j h; (try dsimp only at h ⊢); omega) hr9 (fun r10 hr10 => ?_)
  refine z_vret dX3_init_45 rfl ?_
  exact k _ _ hr10.1 (hr10.all (fun b j h => absurd h.1 (Nat.not_lt_zero _))) hf7 trivial
theorem dX1_init_0 : decode cX1_init 0 = .ok (.aload_n 0, 1) := by decide +kernel
theorem dX1_init_1 : decode cX1_init 1 = .ok (.invokespecial 3, 3) := by decide +kernel
theorem dX1_init_4 : decode cX1_init 4 = .ok (.aload_n 0, 1) := by decide +kernel
theorem dX1_init_5 : decode cX1_init 5 = .ok (.bipush 11, 2) := by decide +kernel
theorem dX1_init_7 : decode cX1_init 7 = .ok (.anewarray 9, 3) := by decide +kernel
theorem dX1_init_10 : decode cX1_init 10 = .ok (.putfield 11, 3) := by decide +kernel
theorem dX1_init_13 : decode cX1_init 13 = .ok (.aload_n 0, 1) := by decide +kernel
theorem dX1_init_14 : decode cX1_init 14 = .ok (.iconst 0, 1) := by decide +kernel
theorem dX1_init_15 : decode cX1_init 15 = .ok (.putfield 17, 3) := by decide +kernel
theorem dX1_init_18 : decode cX1_init 18 = .ok (.aload_n 0, 1) := by decide +kernel
theorem dX1_init_19 : decode cX1_init 19 = .ok (.iconst 0, 1) := by decide +kernel
theorem dX1_init_20 : decode cX1_init 20 = .ok (.putfield 21, 3) := by decide +kernel
theorem dX1_init_23 : decode cX1_init 23 = .ok (.aload_n 0, 1) := by decide +kernel
theorem dX1_init_24 : decode cX1_init 24 = .ok (.iconst 0, 1) := by decide +kernel
theorem dX1_init_25 : decode cX1_init 25 = .ok (.putfield 24, 3) := by decide +kernel
theorem dX1_init_28 : decode cX1_init 28 = .ok (.aload_n 0, 1) := by decide +kernel
theorem dX1_init_29 : decode cX1_init 29 = .ok (.iconst 0, 1) := by decide +kernel
theorem dX1_init_30 : decode cX1_init 30 = .ok (.putfield 27, 3) := by decide +kernel
theorem dX1_init_33 : decode cX1_init 33 = .ok (.aload_n 0, 1) := by decide +kernel
theorem dX1_init_34 : decode cX1_init 34 = .ok (.lconst 0, 1) := by decide +kernel
theorem dX1_init_35 : decode cX1_init 35 = .ok (.putfield 30, 3) := by decide +kernel
theorem dX1_init_38 : decode cX1_init 38 = .ok (.aload_n 0, 1) := by decide +kernel
theorem dX1_init_39 : decode cX1_init 39 = .ok (.lconst 1, 1) := by decide +kernel
theorem dX1_init_40 : decode cX1_init 40 = .ok (.putfield 34, 3) := by decide +kernel
theorem dX1_init_43 : decode cX1_init 43 = .ok (.aload_n 0, 1) := by decide +kernel
theorem dX1_init_44 : decode cX1_init 44 = .ok (.aload_n 1, 1) := by decide +kernel
theorem dX1_init_45 : decode cX1_init 45 = .ok (.putfield 37, 3) := by decide +kernel
theorem dX1_init_48 : decode cX1_init 48 = .ok (.iconst 0, 1) := by decide +kernel
theorem dX1_init_49 : decode cX1_init 49 = .ok (.istore_n 2, 1) := by decide +kernel
theorem dX1_init_50 : decode cX1_init 50 = .ok (.iload_n 2, 1) := by decide +kernel
theorem dX1_init_51 : decode cX1_init 51 = .ok (.bipush 10, 2) := by decide +kernel
theorem dX1_init_53 : decode cX1_init 53 = .ok (.if_icmp .gt 22, 3) := by decide +kernel
theorem dX1_init_56 : decode cX1_init 56 = .ok (.aload_n 0, 1) := by decide +kernel
theorem dX1_init_57 : decode cX1_init 57 = .ok (.getfield 11, 3) := by decide +kernel
theorem dX1_init_60 : decode cX1_init 60 = .ok (.iload_n 2, 1) := by decide +kernel
theorem dX1_init_61 : decode cX1_init 61 = .ok (.new 9, 3) := by decide +kernel
theorem dX1_init_64 : decode cX1_init 64 = .ok (.dup, 1) := by decide +kernel
theorem dX1_init_65 : decode cX1_init 65 = .ok (.invokespecial 41, 3) := by decide +kernel
theorem dX1_init_68 : decode cX1_init 68 = .ok (.aastore, 1) := by decide +kernel
theorem dX1_init_69 : decode cX1_init 69 = .ok (.iinc 2 1, 3) := by decide +kernel
theorem dX1_init_72 : decode cX1_init 72 = .ok (.goto (-22), 3) := by decide +kernel
theorem dX1_init_75 : decode cX1_init 75 = .ok (.return_, 1) := by decide +kernel
theorem n_X1 {w : GX} {d : Nat} : Ct w (d + 2) 56 990 mX1_init 158 215 [some (aR (some 158)), some (aR (some 27)), none] (fun _ => True) := by
  intro rf g Q hz0 hg0 k
  have hr : Rin 158 (158 + 1) (fun b j => (b = 158 ∧ j = 1) ∨ (b = 158 ∧ j = 0)) rf rf := Rin.start hz0 (fun j => by rcases Nat.lt_or_ge j 2 with h | h; exact Or.inl (by omega); exact Or.inr (rjn (L := 8) (by decide +kernel) (by decide +kernel) j h))
  have hf : ∀ b, b < 158 → g b = g b := fun _ _ => rfl
  refine z_aload_n dX1_init_0 rfl rfl ?_
  refine z_oinit dX1_init_1 lk_X1_3 w_oin w_oco (Nat.le_of_ble_eq_true rfl) ?_
  refine z_aload_n dX1_init_4 rfl rfl ?_
  refine z_bipush dX1_init_5 rfl ?_
  refine n_arq (t := 16) (CC := RX8) (L := 11) (U := (fun b j => (b = 158 ∧ j = 1) ∨ (b = 158 ∧ j = 0))) (U' := (fun b j => (b = 158 ∧ j = 1) ∨ (b = 158 ∧ j = 0) ∨ (b = 159 ∧ j < 11))) dX1_init_7 cl_X1_9 (by decide) (by decide) (by decide) (by decide +kernel) (by omega) (by omega) (by decide +kernel) (by intro b j _ h; (try dsimp only at h ⊢); omega) (by intro j h; (try dsimp only at h ⊢); omega) hr (fun r1 g1 hr1 f1 => ?_)
  have hf1 : ∀ b, b < 158 → g1 b = g b := fun b hb => (f1 b (by omega)).trans (hf b hb)
  refine n_put (l := 0) (U := (fun b j => (b = 158 ∧ j = 1) ∨ (b = 158 ∧ j = 0) ∨ (b = 159 ∧ j < 11))) (U' := (fun b j => (b = 158 ∧ j = 0) ∨ (b = 159 ∧ j < 11))) dX1_init_10 ff_X1_11 (by decide) rfl (by decide +kernel) (by omega) (by omega) (by decide +kernel) (by intro c j h; (try dsimp only at h ⊢); omega) hr1 (fun r2 hr2 => ?_)
  refine z_aload_n dX1_init_13 rfl rfl ?_
  refine z_iconst dX1_init_14 ?_
  refine n_putI (l := 0) dX1_init_15 fw_X1_17 (by decide) (by decide +kernel) (by omega) (fun g3 f3 o3 e3 => ?_)
  have hf3 : ∀ b, b < 158 → g3 b = g b := fun b hb => (f3 b (by omega)).trans (hf1 b hb)
  refine z_aload_n dX1_init_18 rfl rfl ?_
  refine z_iconst dX1_init_19 ?_
  refine n_putI (l := 0) dX1_init_20 fw_X1_21 (by decide) (by decide +kernel) (by omega) (fun g4 f4 o4 e4 => ?_)
  have hf4 : ∀ b, b < 158 → g4 b = g b := fun b hb => (f4 b (by omega)).trans (hf3 b hb)
  refine z_aload_n dX1_init_23 rfl rfl ?_
  refine z_iconst dX1_init_24 ?_
  refine n_putI (l := 0) dX1_init_25 fw_X1_24 (by decide) (by decide +kernel) (by omega) (fun g5 f5 o5 e5 => ?_)
  have hf5 : ∀ b, b < 158 → g5 b = g b := fun b hb => (f5 b (by omega)).trans (hf4 b hb)
  refine z_aload_n dX1_init_28 rfl rfl ?_
  refine z_iconst dX1_init_29 ?_
  refine n_putI (l := 0) dX1_init_30 fw_X1_27 (by decide) (by decide +kernel) (by omega) (fun g6 f6 o6 e6 => ?_)
  have hf6 : ∀ b, b < 158 → g6 b = g b := fun b hb => (f6 b (by omega)).trans (hf5 b hb)
  refine z_aload_n dX1_init_33 rfl rfl ?_
  refine z_lconst (z := 0) dX1_init_34 rfl ?_
  refine n_putL (l := 0) dX1_init_35 fw_X1_30 (by decide) (by decide +kernel) (by omega) (fun g7 f7 o7 e7 => ?_)
  have hf7 : ∀ b, b < 158 → g7 b = g b := fun b hb => (f7 b (by omega)).trans (hf6 b hb)
  refine z_aload_n dX1_init_38 rfl rfl ?_
  refine z_lconst (z := 1) dX1_init_39 rfl ?_
  refine n_putL (l := 0) dX1_init_40 fw_X1_34 (by decide) (by decide +kernel) (by omega) (fun g8 f8 o8 e8 => ?_)
  have hf8 : ∀ b, b < 158 → g8 b = g b := fun b hb => (f8 b (by omega)).trans (hf7 b hb)
  refine z_aload_n dX1_init_43 rfl rfl ?_
  refine z_aload_n dX1_init_44 rfl rfl ?_
  refine n_put (l := 0) (U := (fun b j => (b = 158 ∧ j = 0) ∨ (b = 159 ∧ j < 11))) (U' := (fun b j => (b = 159 ∧ j < 11))) dX1_init_45 ff_X1_37 (by decide) rfl (by decide +kernel) (by omega) (by omega) (by decide +kernel) (by intro c j h; (try dsimp only at h ⊢); omega) hr2 (fun r9 hr9 => ?_)
  refine z_iconst dX1_init_48 ?_
  refine z_istore_n dX1_init_49 rfl (by decide) rfl ?_
  refine loopN (σ := RF × GI) (fun i s => Zj w (d + 2) (5 * (11 - i)) (89 * (11 - i)) mX1_init 50 [some (aR (some 158)), some (aR (some 27)), some (aI (i : Int))] [] (kdn (160 + 5 * i)) s.1 (160 + 5 * i) s.2 Q) (fun i s => Rin 158 (160 + 5 * i) (fun b j => b = 159 ∧ i ≤ j ∧ j < 11) rf s.1 ∧ ∀ b, b < 158 → s.2 b = g b) 11 ?_ ?_ 0 (r9, g8) (Nat.zero_le _) ⟨⟨hr9.1, fun b j h1 h2 => (hr9.2 b j h1 h2).imp_left (fun h => by (try dsimp only at h ⊢); omega)⟩, hf8⟩
  · intro ⟨r, g1⟩ ⟨h1, h2⟩
    dsimp only at h1 h2 ⊢
    refine z_iload_n dX1_init_50 rfl rfl ?_
    refine z_bipush dX1_init_51 rfl ?_
    refine z_icmp_gt (tgt := 75) dX1_init_53 (by decide) (fun _ => ?_) (fun q => absurd (by decide) q)
    refine z_vret dX1_init_75 rfl ?_
    exact k _ _ h1.1 (fun b j q1 q2 => (h1.2 b j q1 q2).resolve_left (by omega)) h2 trivial
  · intro i ⟨r, g1⟩ hi ⟨h1, h2⟩ ih
    dsimp only at h1 h2 ⊢
    have ei : nm (i : Int) = i := nm_id (by omega) (by omega)
    have e20 : nm 10 = 10 := by decide
    rw [show 5 * (11 - i) = 5 * (11 - (i + 1)) + 4 + 1 by omega, show 89 * (11 - i) = 89 * (11 - (i + 1)) + 84 + 5 by omega]
    refine z_iload_n dX1_init_50 rfl rfl ?_
    refine z_bipush dX1_init_51 rfl ?_
    refine z_icmp_gt (tgt := 75) dX1_init_53 (by decide) (fun q => absurd q (by rw [e20, ei]; omega)) (fun _ => ?_)
    refine z_aload_n dX1_init_56 rfl rfl ?_
    refine n_getR (l := 0) (r := 159) (U := (fun b j => b = 159 ∧ i ≤ j ∧ j < 11)) dX1_init_57 fl_X1_11 (by decide) (by decide +kernel) (by omega) (by omega) (by decide +kernel) (by (try dsimp only); omega) h1 ?_
    refine z_iload_n dX1_init_60 rfl rfl ?_
    refine n_new (ci := 8) (q := (RX8, TX8, 5)) (N := 5) (U := (fun b j => b = 159 ∧ i ≤ j ∧ j < 11)) dX1_init_61 rfl cl_X1_9 ib_X8 ii_X8 rfl (isW_chance i hi).1 (by omega) (by omega) h1 (fun r201 g201 hr201 y201 f201 z201 => ?_)
    have hf201 : ∀ b, b < 158 → g201 b = g b := fun b hb => (f201 b (by omega)).trans (h2 b hb)
    refine z_dup dX1_init_64 rfl ?_
    refine n_callN (M' := mX8_init) (c := 160 + 5 * i) (n' := 160 + 5 * (i + 1)) (as := []) (kc := 5 * (11 - (i + 1))) (ks := 89 * (11 - (i + 1))) (kc' := 4) (ks' := 84) (U := (fun b j => b = 159 ∧ i ≤ j ∧ j < 11)) dX1_init_65 lk_X1_41 mok_X8_init in_X8_init rfl rfl rfl (Nat.le_of_ble_eq_true rfl) rfl (Nat.le_of_ble_eq_true rfl) rfl (by omega) (n_Wc hi) hr201 y201 z201 (fun r202 g202 hr202 f202 G202 => ?_)
    have hf202 : ∀ b, b < 158 → g202 b = g b := fun b hb => (f202 b (by omega)).trans (hf201 b hb)
    refine n_aast (ci := 8) (q := (RX8, TX8, 5)) (t := 16) (L := 11) (iN := i) (U := (fun b j => b = 159 ∧ i ≤ j ∧ j < 11)) (U' := (fun b j => b = 159 ∧ i + 1 ≤ j ∧ j < 11)) dX1_init_68 (by decide +kernel) (by omega) (by omega) rfl (by decide) (isW_chance i hi).1 (by omega) ei (by omega) (w_chance i hi) (by intro c j h; (try dsimp only at h ⊢); omega) hr202 (fun r203 hr203 => ?_)
    refine z_iinc dX1_init_69 rfl (by decide) rfl ?_
    refine z_goto (tgt := 50) dX1_init_72 (by decide) ?_
    exact ih (r203, g202) ⟨hr203, hf202⟩
