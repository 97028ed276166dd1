/-! the class's own constructor -/
theorem dX10_init_0 : decode cX10_init 0 = .ok (.aload_n 0, 1) := by decide +kernel
theorem dX10_init_1 : decode cX10_init 1 = .ok (.invokespecial 1, 3) := by decide +kernel
theorem dX10_init_4 : decode cX10_init 4 = .ok (.aload_n 0, 1) := by decide +kernel
theorem dX10_init_5 : decode cX10_init 5 = .ok (.iconst 2, 1) := by decide +kernel
theorem dX10_init_6 : decode cX10_init 6 = .ok (.anewarray 9, 3) := by decide +kernel
theorem dX10_init_9 : decode cX10_init 9 = .ok (.putfield 11, 3) := by decide +kernel
theorem dX10_init_12 : decode cX10_init 12 = .ok (.aload_n 0, 1) := by decide +kernel
theorem dX10_init_13 : decode cX10_init 13 = .ok (.new 15, 3) := by decide +kernel
theorem dX10_init_16 : decode cX10_init 16 = .ok (.dup, 1) := by decide +kernel
theorem dX10_init_17 : decode cX10_init 17 = .ok (.bipush 16, 2) := by decide +kernel
theorem dX10_init_19 : decode cX10_init 19 = .ok (.invokespecial 17, 3) := by decide +kernel
theorem dX10_init_22 : decode cX10_init 22 = .ok (.putfield 20, 3) := by decide +kernel
theorem dX10_init_25 : decode cX10_init 25 = .ok (.aload_n 0, 1) := by decide +kernel
theorem dX10_init_26 : decode cX10_init 26 = .ok (.new 15, 3) := by decide +kernel
theorem dX10_init_29 : decode cX10_init 29 = .ok (.dup, 1) := by decide +kernel
theorem dX10_init_30 : decode cX10_init 30 = .ok (.bipush 8, 2) := by decide +kernel
theorem dX10_init_32 : decode cX10_init 32 = .ok (.invokespecial 17, 3) := by decide +kernel
theorem dX10_init_35 : decode cX10_init 35 = .ok (.putfield 24, 3) := by decide +kernel
theorem dX10_init_38 : decode cX10_init 38 = .ok (.aload_n 0, 1) := by decide +kernel
theorem dX10_init_39 : decode cX10_init 39 = .ok (.new 15, 3) := by decide +kernel
theorem dX10_init_42 : decode cX10_init 42 = .ok (.dup, 1) := by decide +kernel
theorem dX10_init_43 : decode cX10_init 43 = .ok (.bipush 6, 2) := by decide +kernel
theorem dX10_init_45 : decode cX10_init 45 = .ok (.invokespecial 17, 3) := by decide +kernel
theorem dX10_init_48 : decode cX10_init 48 = .ok (.putfield 27, 3) := by decide +kernel
theorem dX10_init_51 : decode cX10_init 51 = .ok (.aload_n 0, 1) := by decide +kernel
theorem dX10_init_52 : decode cX10_init 52 = .ok (.new 15, 3) := by decide +kernel
theorem dX10_init_55 : decode cX10_init 55 = .ok (.dup, 1) := by decide +kernel
theorem dX10_init_56 : decode cX10_init 56 = .ok (.bipush 8, 2) := by decide +kernel
theorem dX10_init_58 : decode cX10_init 58 = .ok (.invokespecial 17, 3) := by decide +kernel
theorem dX10_init_61 : decode cX10_init 61 = .ok (.putfield 30, 3) := by decide +kernel
theorem dX10_init_64 : decode cX10_init 64 = .ok (.aload_n 0, 1) := by decide +kernel
theorem dX10_init_65 : decode cX10_init 65 = .ok (.new 33, 3) := by decide +kernel
theorem dX10_init_68 : decode cX10_init 68 = .ok (.dup, 1) := by decide +kernel
theorem dX10_init_69 : decode cX10_init 69 = .ok (.invokespecial 35, 3) := by decide +kernel
theorem dX10_init_72 : decode cX10_init 72 = .ok (.putfield 36, 3) := by decide +kernel
theorem dX10_init_75 : decode cX10_init 75 = .ok (.aload_n 0, 1) := by decide +kernel
theorem dX10_init_76 : decode cX10_init 76 = .ok (.new 40, 3) := by decide +kernel
theorem dX10_init_79 : decode cX10_init 79 = .ok (.dup, 1) := by decide +kernel
theorem dX10_init_80 : decode cX10_init 80 = .ok (.aload_n 0, 1) := by decide +kernel
theorem dX10_init_81 : decode cX10_init 81 = .ok (.getfield 36, 3) := by decide +kernel
theorem dX10_init_84 : decode cX10_init 84 = .ok (.aload_n 0, 1) := by decide +kernel
theorem dX10_init_85 : decode cX10_init 85 = .ok (.getfield 20, 3) := by decide +kernel
theorem dX10_init_88 : decode cX10_init 88 = .ok (.aload_n 0, 1) := by decide +kernel
theorem dX10_init_89 : decode cX10_init 89 = .ok (.getfield 24, 3) := by decide +kernel
theorem dX10_init_92 : decode cX10_init 92 = .ok (.aload_n 0, 1) := by decide +kernel
theorem dX10_init_93 : decode cX10_init 93 = .ok (.getfield 27, 3) := by decide +kernel
theorem dX10_init_96 : decode cX10_init 96 = .ok (.invokespecial 42, 3) := by decide +kernel
theorem dX10_init_99 : decode cX10_init 99 = .ok (.putfield 45, 3) := by decide +kernel
theorem dX10_init_102 : decode cX10_init 102 = .ok (.aload_n 0, 1) := by decide +kernel
theorem dX10_init_103 : decode cX10_init 103 = .ok (.new 49, 3) := by decide +kernel
theorem dX10_init_106 : decode cX10_init 106 = .ok (.dup, 1) := by decide +kernel
theorem dX10_init_107 : decode cX10_init 107 = .ok (.aload_n 0, 1) := by decide +kernel
theorem dX10_init_108 : decode cX10_init 108 = .ok (.getfield 45, 3) := by decide +kernel
theorem dX10_init_111 : decode cX10_init 111 = .ok (.invokespecial 51, 3) := by decide +kernel
theorem dX10_init_114 : decode cX10_init 114 = .ok (.putfield 54, 3) := by decide +kernel
theorem dX10_init_117 : decode cX10_init 117 = .ok (.aload_n 0, 1) := by decide +kernel
theorem dX10_init_118 : decode cX10_init 118 = .ok (.new 58, 3) := by decide +kernel
theorem dX10_init_121 : decode cX10_init 121 = .ok (.dup, 1) := by decide +kernel
theorem dX10_init_122 : decode cX10_init 122 = .ok (.aload_n 0, 1) := by decide +kernel
theorem dX10_init_123 : decode cX10_init 123 = .ok (.getfield 45, 3) := by decide +kernel
theorem dX10_init_126 : decode cX10_init 126 = .ok (.aload_n 0, 1) := by decide +kernel
theorem dX10_init_127 : decode cX10_init 127 = .ok (.getfield 30, 3) := by decide +kernel
theorem dX10_init_130 : decode cX10_init 130 = .ok (.invokespecial 60, 3) := by decide +kernel
theorem dX10_init_133 : decode cX10_init 133 = .ok (.putfield 63, 3) := by decide +kernel
theorem dX10_init_136 : decode cX10_init 136 = .ok (.aload_n 0, 1) := by decide +kernel
theorem dX10_init_137 : decode cX10_init 137 = .ok (.new 67, 3) := by decide +kernel
theorem dX10_init_140 : decode cX10_init 140 = .ok (.dup, 1) := by decide +kernel
theorem dX10_init_141 : decode cX10_init 141 = .ok (.aload_n 0, 1) := by decide +kernel
theorem dX10_init_142 : decode cX10_init 142 = .ok (.getfield 45, 3) := by decide +kernel
theorem dX10_init_145 : decode cX10_init 145 = .ok (.invokespecial 69, 3) := by decide +kernel
theorem dX10_init_148 : decode cX10_init 148 = .ok (.putfield 70, 3) := by decide +kernel
theorem dX10_init_151 : decode cX10_init 151 = .ok (.aload_n 0, 1) := by decide +kernel
theorem dX10_init_152 : decode cX10_init 152 = .ok (.iconst 4, 1) := by decide +kernel
theorem dX10_init_153 : decode cX10_init 153 = .ok (.anewarray 74, 3) := by decide +kernel
theorem dX10_init_156 : decode cX10_init 156 = .ok (.putfield 76, 3) := by decide +kernel
theorem dX10_init_159 : decode cX10_init 159 = .ok (.aload_n 0, 1) := by decide +kernel
theorem dX10_init_160 : decode cX10_init 160 = .ok (.iconst 0, 1) := by decide +kernel
theorem dX10_init_161 : decode cX10_init 161 = .ok (.putfield 80, 3) := by decide +kernel
theorem dX10_init_164 : decode cX10_init 164 = .ok (.aload_n 0, 1) := by decide +kernel
theorem dX10_init_165 : decode cX10_init 165 = .ok (.iconst 1, 1) := by decide +kernel
theorem dX10_init_166 : decode cX10_init 166 = .ok (.putfield 84, 3) := by decide +kernel
theorem dX10_init_169 : decode cX10_init 169 = .ok (.aload_n 0, 1) := by decide +kernel
theorem dX10_init_170 : decode cX10_init 170 = .ok (.getfield 11, 3) := by decide +kernel
theorem dX10_init_173 : decode cX10_init 173 = .ok (.iconst 0, 1) := by decide +kernel
theorem dX10_init_174 : decode cX10_init 174 = .ok (.new 9, 3) := by decide +kernel
theorem dX10_init_177 : decode cX10_init 177 = .ok (.dup, 1) := by decide +kernel
theorem dX10_init_178 : decode cX10_init 178 = .ok (.bipush 20, 2) := by decide +kernel
theorem dX10_init_180 : decode cX10_init 180 = .ok (.invokespecial 88, 3) := by decide +kernel
theorem dX10_init_183 : decode cX10_init 183 = .ok (.aastore, 1) := by decide +kernel
theorem dX10_init_184 : decode cX10_init 184 = .ok (.aload_n 0, 1) := by decide +kernel
theorem dX10_init_185 : decode cX10_init 185 = .ok (.getfield 11, 3) := by decide +kernel
theorem dX10_init_188 : decode cX10_init 188 = .ok (.iconst 1, 1) := by decide +kernel
theorem dX10_init_189 : decode cX10_init 189 = .ok (.new 9, 3) := by decide +kernel
theorem dX10_init_192 : decode cX10_init 192 = .ok (.dup, 1) := by decide +kernel
theorem dX10_init_193 : decode cX10_init 193 = .ok (.bipush 47, 2) := by decide +kernel
theorem dX10_init_195 : decode cX10_init 195 = .ok (.invokespecial 88, 3) := by decide +kernel
theorem dX10_init_198 : decode cX10_init 198 = .ok (.aastore, 1) := by decide +kernel
theorem dX10_init_199 : decode cX10_init 199 = .ok (.iconst 0, 1) := by decide +kernel
theorem dX10_init_200 : decode cX10_init 200 = .ok (.istore_n 1, 1) := by decide +kernel
theorem dX10_init_201 : decode cX10_init 201 = .ok (.iload_n 1, 1) := by decide +kernel
theorem dX10_init_202 : decode cX10_init 202 = .ok (.iconst 4, 1) := by decide +kernel
theorem dX10_init_203 : decode cX10_init 203 = .ok (.if_icmp .ge 22, 3) := by decide +kernel
theorem dX10_init_206 : decode cX10_init 206 = .ok (.aload_n 0, 1) := by decide +kernel
theorem dX10_init_207 : decode cX10_init 207 = .ok (.getfield 76, 3) := by decide +kernel
theorem dX10_init_210 : decode cX10_init 210 = .ok (.iload_n 1, 1) := by decide +kernel
theorem dX10_init_211 : decode cX10_init 211 = .ok (.new 74, 3) := by decide +kernel
theorem dX10_init_214 : decode cX10_init 214 = .ok (.dup, 1) := by decide +kernel
theorem dX10_init_215 : decode cX10_init 215 = .ok (.invokespecial 89, 3) := by decide +kernel
theorem dX10_init_218 : decode cX10_init 218 = .ok (.aastore, 1) := by decide +kernel
theorem dX10_init_219 : decode cX10_init 219 = .ok (.iinc 1 1, 3) := by decide +kernel
theorem dX10_init_222 : decode cX10_init 222 = .ok (.goto (-21), 3) := by decide +kernel
theorem dX10_init_225 : decode cX10_init 225 = .ok (.return_, 1) := by decide +kernel
theorem x10_4 {w : GX} {d : Nat} {Q : Post} {rf rfi : RF} {g : GI} (hr : Rin 0 (0 + 1) (fun b j => (b = 0 ∧ 0 ≤ j ∧ j < 11)) rfi rf) (k : ∀ rf' g', Rin 0 (0 + 1 + 1) (fun b j => (b = 0 ∧ 1 ≤ j ∧ j < 11) ∨ (b = 1 ∧ j < 2)) rfi rf' → Zj w (d + 3) 226 4028 mX10_init 12 [some (aR (some 0)), none] [] (kdn (0 + 1 + 1)) rf' (0 + 1 + 1) g' Q) : Zj w (d + 3) 227 4030 mX10_init 4 [some (aR (some 0)), none] [] (kdn (0 + 1)) rf (0 + 1) g Q := by
  refine z_aload_n dX10_init_4 rfl rfl ?_
  refine z_iconst dX10_init_5 ?_
  refine n_arq (t := 15) (CC := RX7) (L := 2) (U := (fun b j => (b = 0 ∧ 0 ≤ j ∧ j < 11))) (U' := (fun b j => (b = 0 ∧ 0 ≤ j ∧ j < 11) ∨ (b = 1 ∧ j < 2))) dX10_init_6 cl_X10_9 (by decide) (by decide) (by decide) (by decide +kernel) (Nat.le_of_ble_eq_true rfl) (Nat.le_of_ble_eq_true rfl) (by decide +kernel) (by intro b j _ h; (try dsimp only at h ⊢); omega) (by intro j h; (try dsimp only at h ⊢); omega) hr (fun r1 g1 hr1 f1 => ?_)
  clear f1
  refine n_put (l := 0) (U := (fun b j => (b = 0 ∧ 0 ≤ j ∧ j < 11) ∨ (b = 1 ∧ j < 2))) (U' := (fun b j => (b = 0 ∧ 1 ≤ j ∧ j < 11) ∨ (b = 1 ∧ j < 2))) dX10_init_9 ff_X10_11 (by decide) rfl (by decide +kernel) (Nat.le_of_ble_eq_true rfl) (Nat.le_of_ble_eq_true rfl) (by decide +kernel) (by intro c j h; (try dsimp only at h ⊢); omega) hr1 (fun r2 hr2 => ?_)
  clear hr1
  exact k r2 g1 hr2
theorem x10_12 {w : GX} {d : Nat} {Q : Post} {rf rfi : RF} {g : GI} (hr : Rin 0 (0 + 1 + 1) (fun b j => (b = 0 ∧ 1 ≤ j ∧ j < 11) ∨ (b = 1 ∧ j < 2)) rfi rf) (k : ∀ rf' g', Rin 0 (6) (fun b j => (b = 0 ∧ 2 ≤ j ∧ j < 11) ∨ (b = 1 ∧ j < 2)) rfi rf' → g' 2 3 = 0 → Zj w (d + 3) 222 3976 mX10_init 25 [some (aR (some 0)), none] [] (kdn (6)) rf' (6) g' Q) : Zj w (d + 3) 226 4028 mX10_init 12 [some (aR (some 0)), none] [] (kdn (0 + 1 + 1)) rf (0 + 1 + 1) g Q := by
  refine z_aload_n dX10_init_12 rfl rfl ?_
  refine n_new (ci := 4) (q := (RX4, TX4, 4)) (N := 4) (U := (fun b j => (b = 0 ∧ 1 ≤ j ∧ j < 11) ∨ (b = 1 ∧ j < 2))) dX10_init_13 rfl cl_X10_15 ib_X4 ii_X4 rfl (by decide +kernel) (Nat.le_of_ble_eq_true rfl) (Nat.le_of_ble_eq_true rfl) hr (fun r1 g1 hr1 y1 f1 z1 => ?_)
  clear f1
  refine z_dup dX10_init_16 rfl ?_
  refine z_bipush dX10_init_17 rfl ?_
  refine n_call (M' := mX4_init) (c := 0 + 1 + 1) (n' := 6) (as := [aI 16]) (kc := 222) (ks := 3976) (kc' := 3) (ks' := (0 + 16 + 16 + 16)) (U := (fun b j => (b = 0 ∧ 1 ≤ j ∧ j < 11) ∨ (b = 1 ∧ j < 2))) dX10_init_19 lk_X10_17 mok_X4_init in_X4_init rfl rfl rfl (Nat.le_of_ble_eq_true rfl) rfl (Nat.le_of_ble_eq_true rfl) rfl (Nat.le_of_ble_eq_true rfl) (n_X4 (a := 2) (L := 16) (by unfold isLo; decide +kernel) (by decide) (by decide +kernel) (by decide +kernel) (by decide +kernel) (by decide) (fun i h1 h2 => (by decide +kernel : ∀ i, i < 4 → 0 < i → rfL.getD (2 + i) [] = []) i h2 h1) (rjn (L := 4) (by decide +kernel) (by decide +kernel))) hr1 y1 z1 (fun r2 g2 hr2 f2 G2 => ?_)
  have q3 : g2 2 3 = 0 := G2
  clear f2 G2 hr1 y1 z1
  refine n_put (l := 0) (U := (fun b j => (b = 0 ∧ 1 ≤ j ∧ j < 11) ∨ (b = 1 ∧ j < 2))) (U' := (fun b j => (b = 0 ∧ 2 ≤ j ∧ j < 11) ∨ (b = 1 ∧ j < 2))) dX10_init_22 ff_X10_20 (by decide) rfl (by decide +kernel) (Nat.le_of_ble_eq_true rfl) (Nat.le_of_ble_eq_true rfl) (by decide +kernel) (by intro c j h; (try dsimp only at h ⊢); omega) hr2 (fun r4 hr4 => ?_)
  clear hr2
  exact k r4 g2 hr4 q3
theorem x10_25 {w : GX} {d : Nat} {Q : Post} {rf rfi : RF} {g : GI} (p_2_3 : g 2 3 = 0) (hr : Rin 0 (6) (fun b j => (b = 0 ∧ 2 ≤ j ∧ j < 11) ∨ (b = 1 ∧ j < 2)) rfi rf) (k : ∀ rf' g', Rin 0 (10) (fun b j => (b = 0 ∧ 3 ≤ j ∧ j < 11) ∨ (b = 1 ∧ j < 2)) rfi rf' → g' 2 3 = 0 → g' 6 3 = 0 → Zj w (d + 3) 218 3948 mX10_init 38 [some (aR (some 0)), none] [] (kdn (10)) rf' (10) g' Q) : Zj w (d + 3) 222 3976 mX10_init 25 [some (aR (some 0)), none] [] (kdn (6)) rf (6) g Q := by
  refine z_aload_n dX10_init_25 rfl rfl ?_
  refine n_new (ci := 4) (q := (RX4, TX4, 4)) (N := 4) (U := (fun b j => (b = 0 ∧ 2 ≤ j ∧ j < 11) ∨ (b = 1 ∧ j < 2))) dX10_init_26 rfl cl_X10_15 ib_X4 ii_X4 rfl (by decide +kernel) (Nat.le_of_ble_eq_true rfl) (Nat.le_of_ble_eq_true rfl) hr (fun r1 g1 hr1 y1 f1 z1 => ?_)
  have q2 : g1 2 3 = 0 := (congrFun (f1 2 (by decide)) 3).trans p_2_3
  clear f1
  refine z_dup dX10_init_29 rfl ?_
  refine z_bipush dX10_init_30 rfl ?_
  refine n_call (M' := mX4_init) (c := 6) (n' := 10) (as := [aI 8]) (kc := 218) (ks := 3948) (kc' := 3) (ks' := (0 + 8 + 8 + 8)) (U := (fun b j => (b = 0 ∧ 2 ≤ j ∧ j < 11) ∨ (b = 1 ∧ j < 2))) dX10_init_32 lk_X10_17 mok_X4_init in_X4_init rfl rfl rfl (Nat.le_of_ble_eq_true rfl) rfl (Nat.le_of_ble_eq_true rfl) rfl (Nat.le_of_ble_eq_true rfl) (n_X4 (a := 6) (L := 8) (by unfold isLo; decide +kernel) (by decide) (by decide +kernel) (by decide +kernel) (by decide +kernel) (by decide) (fun i h1 h2 => (by decide +kernel : ∀ i, i < 4 → 0 < i → rfL.getD (6 + i) [] = []) i h2 h1) (rjn (L := 4) (by decide +kernel) (by decide +kernel))) hr1 y1 z1 (fun r3 g3 hr3 f3 G3 => ?_)
  have q4 : g3 2 3 = 0 := (congrFun (f3 2 (by decide)) 3).trans q2
  have q5 : g3 6 3 = 0 := G3
  clear f3 G3 hr1 y1 z1 q2
  refine n_put (l := 0) (U := (fun b j => (b = 0 ∧ 2 ≤ j ∧ j < 11) ∨ (b = 1 ∧ j < 2))) (U' := (fun b j => (b = 0 ∧ 3 ≤ j ∧ j < 11) ∨ (b = 1 ∧ j < 2))) dX10_init_35 ff_X10_24 (by decide) rfl (by decide +kernel) (Nat.le_of_ble_eq_true rfl) (Nat.le_of_ble_eq_true rfl) (by decide +kernel) (by intro c j h; (try dsimp only at h ⊢); omega) hr3 (fun r6 hr6 => ?_)
  clear hr3
  exact k r6 g3 hr6 q4 q5
theorem x10_38 {w : GX} {d : Nat} {Q : Post} {rf rfi : RF} {g : GI} (p_2_3 : g 2 3 = 0) (p_6_3 : g 6 3 = 0) (hr : Rin 0 (10) (fun b j => (b = 0 ∧ 3 ≤ j ∧ j < 11) ∨ (b = 1 ∧ j < 2)) rfi rf) (k : ∀ rf' g', Rin 0 (14) (fun b j => (b = 0 ∧ 4 ≤ j ∧ j < 11) ∨ (b = 1 ∧ j < 2)) rfi rf' → g' 2 3 = 0 → g' 6 3 = 0 → g' 10 3 = 0 → Zj w (d + 3) 214 3926 mX10_init 51 [some (aR (some 0)), none] [] (kdn (14)) rf' (14) g' Q) : Zj w (d + 3) 218 3948 mX10_init 38 [some (aR (some 0)), none] [] (kdn (10)) rf (10) g Q := by
  refine z_aload_n dX10_init_38 rfl rfl ?_
  refine n_new (ci := 4) (q := (RX4, TX4, 4)) (N := 4) (U := (fun b j => (b = 0 ∧ 3 ≤ j ∧ j < 11) ∨ (b = 1 ∧ j < 2))) dX10_init_39 rfl cl_X10_15 ib_X4 ii_X4 rfl (by decide +kernel) (Nat.le_of_ble_eq_true rfl) (Nat.le_of_ble_eq_true rfl) hr (fun r1 g1 hr1 y1 f1 z1 => ?_)
  have q2 : g1 2 3 = 0 := (congrFun (f1 2 (by decide)) 3).trans p_2_3
  have q3 : g1 6 3 = 0 := (congrFun (f1 6 (by decide)) 3).trans p_6_3
  clear f1
  refine z_dup dX10_init_42 rfl ?_
  refine z_bipush dX10_init_43 rfl ?_
  refine n_call (M' := mX4_init) (c := 10) (n' := 14) (as := [aI 6]) (kc := 214) (ks := 3926) (kc' := 3) (ks' := (0 + 6 + 6 + 6)) (U := (fun b j => (b = 0 ∧ 3 ≤ j ∧ j < 11) ∨ (b = 1 ∧ j < 2))) dX10_init_45 lk_X10_17 mok_X4_init in_X4_init rfl rfl rfl (Nat.le_of_ble_eq_true rfl) rfl (Nat.le_of_ble_eq_true rfl) rfl (Nat.le_of_ble_eq_true rfl) (n_X4 (a := 10) (L := 6) (by unfold isLo; decide +kernel) (by decide) (by decide +kernel) (by decide +kernel) (by decide +kernel) (by decide) (fun i h1 h2 => (by decide +kernel : ∀ i, i < 4 → 0 < i → rfL.getD (10 + i) [] = []) i h2 h1) (rjn (L := 4) (by decide +kernel) (by decide +kernel))) hr1 y1 z1 (fun r4 g4 hr4 f4 G4 => ?_)
  have q5 : g4 2 3 = 0 := (congrFun (f4 2 (by decide)) 3).trans q2
  have q6 : g4 6 3 = 0 := (congrFun (f4 6 (by decide)) 3).trans q3
  have q7 : g4 10 3 = 0 := G4
  clear f4 G4 hr1 y1 z1 q2 q3
  refine n_put (l := 0) (U := (fun b j => (b = 0 ∧ 3 ≤ j ∧ j < 11) ∨ (b = 1 ∧ j < 2))) (U' := (fun b j => (b = 0 ∧ 4 ≤ j ∧ j < 11) ∨ (b = 1 ∧ j < 2))) dX10_init_48 ff_X10_27 (by decide) rfl (by decide +kernel) (Nat.le_of_ble_eq_true rfl) (Nat.le_of_ble_eq_true rfl) (by decide +kernel) (by intro c j h; (try dsimp only at h ⊢); omega) hr4 (fun r8 hr8 => ?_)
  clear hr4
  exact k r8 g4 hr8 q5 q6 q7
theorem x10_51 {w : GX} {d : Nat} {Q : Post} {rf rfi : RF} {g : GI} (p_2_3 : g 2 3 = 0) (p_6_3 : g 6 3 = 0) (p_10_3 : g 10 3 = 0) (hr : Rin 0 (14) (fun b j => (b = 0 ∧ 4 ≤ j ∧ j < 11) ∨ (b = 1 ∧ j < 2)) rfi rf) (k : ∀ rf' g', Rin 0 (18) (fun b j => (b = 0 ∧ 5 ≤ j ∧ j < 11) ∨ (b = 1 ∧ j < 2)) rfi rf' → g' 2 3 = 0 → g' 6 3 = 0 → g' 10 3 = 0 → g' 14 3 = 0 → Zj w (d + 3) 210 3898 mX10_init 64 [some (aR (some 0)), none] [] (kdn (18)) rf' (18) g' Q) : Zj w (d + 3) 214 3926 mX10_init 51 [some (aR (some 0)), none] [] (kdn (14)) rf (14) g Q := by
  refine z_aload_n dX10_init_51 rfl rfl ?_
  refine n_new (ci := 4) (q := (RX4, TX4, 4)) (N := 4) (U := (fun b j => (b = 0 ∧ 4 ≤ j ∧ j < 11) ∨ (b = 1 ∧ j < 2))) dX10_init_52 rfl cl_X10_15 ib_X4 ii_X4 rfl (by decide +kernel) (Nat.le_of_ble_eq_true rfl) (Nat.le_of_ble_eq_true rfl) hr (fun r1 g1 hr1 y1 f1 z1 => ?_)
  have q2 : g1 2 3 = 0 := (congrFun (f1 2 (by decide)) 3).trans p_2_3
  have q3 : g1 6 3 = 0 := (congrFun (f1 6 (by decide)) 3).trans p_6_3
  have q4 : g1 10 3 = 0 := (congrFun (f1 10 (by decide)) 3).trans p_10_3
  clear f1
  refine z_dup dX10_init_55 rfl ?_
  refine z_bipush dX10_init_56 rfl ?_
  refine n_call (M' := mX4_init) (c := 14) (n' := 18) (as := [aI 8]) (kc := 210) (ks := 3898) (kc' := 3) (ks' := (0 + 8 + 8 + 8)) (U := (fun b j => (b = 0 ∧ 4 ≤ j ∧ j < 11) ∨ (b = 1 ∧ j < 2))) dX10_init_58 lk_X10_17 mok_X4_init in_X4_init rfl rfl rfl (Nat.le_of_ble_eq_true rfl) rfl (Nat.le_of_ble_eq_true rfl) rfl (Nat.le_of_ble_eq_true rfl) (n_X4 (a := 14) (L := 8) (by unfold isLo; decide +kernel) (by decide) (by decide +kernel) (by decide +kernel) (by decide +kernel) (by decide) (fun i h1 h2 => (by decide +kernel : ∀ i, i < 4 → 0 < i → rfL.getD (14 + i) [] = []) i h2 h1) (rjn (L := 4) (by decide +kernel) (by decide +kernel))) hr1 y1 z1 (fun r5 g5 hr5 f5 G5 => ?_)
  have q6 : g5 2 3 = 0 := (congrFun (f5 2 (by decide)) 3).trans q2
  have q7 : g5 6 3 = 0 := (congrFun (f5 6 (by decide)) 3).trans q3
  have q8 : g5 10 3 = 0 := (congrFun (f5 10 (by decide)) 3).trans q4
  have q9 : g5 14 3 = 0 := G5
  clear f5 G5 hr1 y1 z1 q2 q3 q4
  refine n_put (l := 0) (U := (fun b j => (b = 0 ∧ 4 ≤ j ∧ j < 11) ∨ (b = 1 ∧ j < 2))) (U' := (fun b j => (b = 0 ∧ 5 ≤ j ∧ j < 11) ∨ (b = 1 ∧ j < 2))) dX10_init_61 ff_X10_30 (by decide) rfl (by decide +kernel) (Nat.le_of_ble_eq_true rfl) (Nat.le_of_ble_eq_true rfl) (by decide +kernel) (by intro c j h; (try dsimp only at h ⊢); omega) hr5 (fun r10 hr10 => ?_)
  clear hr5
  exact k r10 g5 hr10 q6 q7 q8 q9
theorem x10_64 {w : GX} {d : Nat} {Q : Post} {rf rfi : RF} {g : GI} (p_2_3 : g 2 3 = 0) (p_6_3 : g 6 3 = 0) (p_10_3 : g 10 3 = 0) (p_14_3 : g 14 3 = 0) (hr : Rin 0 (18) (fun b j => (b = 0 ∧ 5 ≤ j ∧ j < 11) ∨ (b = 1 ∧ j < 2)) rfi rf) (k : ∀ rf' g', Rin 0 (27) (fun b j => (b = 0 ∧ 6 ≤ j ∧ j < 11) ∨ (b = 1 ∧ j < 2)) rfi rf' → g' 2 3 = 0 → g' 6 3 = 0 → g' 10 3 = 0 → g' 14 3 = 0 → g' 18 11 = 8 → Zj w (d + 3) 201 3734 mX10_init 75 [some (aR (some 0)), none] [] (kdn (27)) rf' (27) g' Q) : Zj w (d + 3) 210 3898 mX10_init 64 [some (aR (some 0)), none] [] (kdn (18)) rf (18) g Q := by
  refine z_aload_n dX10_init_64 rfl rfl ?_
  refine n_new (ci := 9) (q := (RX9, TX9, 12)) (N := 12) (U := (fun b j => (b = 0 ∧ 5 ≤ j ∧ j < 11) ∨ (b = 1 ∧ j < 2))) dX10_init_65 rfl cl_X10_33 ib_X9 ii_X9 rfl (by decide +kernel) (Nat.le_of_ble_eq_true rfl) (Nat.le_of_ble_eq_true rfl) hr (fun r1 g1 hr1 y1 f1 z1 => ?_)
  have q2 : g1 2 3 = 0 := (congrFun (f1 2 (by decide)) 3).trans p_2_3
  have q3 : g1 6 3 = 0 := (congrFun (f1 6 (by decide)) 3).trans p_6_3
  have q4 : g1 10 3 = 0 := (congrFun (f1 10 (by decide)) 3).trans p_10_3
  have q5 : g1 14 3 = 0 := (congrFun (f1 14 (by decide)) 3).trans p_14_3
  clear f1
  refine z_dup dX10_init_68 rfl ?_
  refine n_callN (M' := mX9_init) (c := 18) (n' := 27) (as := []) (kc := 201) (ks := 3734) (kc' := 8) (ks' := 152) (U := (fun b j => (b = 0 ∧ 5 ≤ j ∧ j < 11) ∨ (b = 1 ∧ j < 2))) dX10_init_69 lk_X10_35 mok_X9_init in_X9_init rfl rfl rfl (Nat.le_of_ble_eq_true rfl) rfl (Nat.le_of_ble_eq_true rfl) rfl (Nat.le_of_ble_eq_true rfl) (n_X9) hr1 y1 z1 (fun r6 g6 hr6 f6 G6 => ?_)
  have q7 : g6 2 3 = 0 := (congrFun (f6 2 (by decide)) 3).trans q2
  have q8 : g6 6 3 = 0 := (congrFun (f6 6 (by decide)) 3).trans q3
  have q9 : g6 10 3 = 0 := (congrFun (f6 10 (by decide)) 3).trans q4
  have q10 : g6 14 3 = 0 := (congrFun (f6 14 (by decide)) 3).trans q5
  have q11 : g6 18 11 = 8 := G6
  clear f6 G6 hr1 y1 z1 q2 q3 q4 q5
  refine n_put (l := 0) (U := (fun b j => (b = 0 ∧ 5 ≤ j ∧ j < 11) ∨ (b = 1 ∧ j < 2))) (U' := (fun b j => (b = 0 ∧ 6 ≤ j ∧ j < 11) ∨ (b = 1 ∧ j < 2))) dX10_init_72 ff_X10_36 (by decide) rfl (by decide +kernel) (Nat.le_of_ble_eq_true rfl) (Nat.le_of_ble_eq_true rfl) (by decide +kernel) (by intro c j h; (try dsimp only at h ⊢); omega) hr6 (fun r12 hr12 => ?_)
  clear hr6
  exact k r12 g6 hr12 q7 q8 q9 q10 q11
theorem x10_75 {w : GX} {d : Nat} {Q : Post} {rf rfi : RF} {g : GI} (p_2_3 : g 2 3 = 0) (p_6_3 : g 6 3 = 0) (p_10_3 : g 10 3 = 0) (p_14_3 : g 14 3 = 0) (p_18_11 : g 18 11 = 8) (hr : Rin 0 (27) (fun b j => (b = 0 ∧ 6 ≤ j ∧ j < 11) ∨ (b = 1 ∧ j < 2)) rfi rf) (k : ∀ rf' g', Rin 0 (136) (fun b j => (b = 0 ∧ 7 ≤ j ∧ j < 11) ∨ (b = 1 ∧ j < 2)) rfi rf' → g' 2 3 = 0 → g' 6 3 = 0 → g' 10 3 = 0 → g' 14 3 = 0 → g' 18 11 = 8 → Zj w (d + 3) 92 1826 mX10_init 102 [some (aR (some 0)), none] [] (kdn (136)) rf' (136) g' Q) : Zj w (d + 3) 201 3734 mX10_init 75 [some (aR (some 0)), none] [] (kdn (27)) rf (27) g Q := by
  refine z_aload_n dX10_init_75 rfl rfl ?_
  refine n_new (ci := 2) (q := (RX2, TX2, 8)) (N := 8) (U := (fun b j => (b = 0 ∧ 6 ≤ j ∧ j < 11) ∨ (b = 1 ∧ j < 2))) dX10_init_76 rfl cl_X10_40 ib_X2 ii_X2 rfl (by decide +kernel) (Nat.le_of_ble_eq_true rfl) (Nat.le_of_ble_eq_true rfl) hr (fun r1 g1 hr1 y1 f1 z1 => ?_)
  have q2 : g1 2 3 = 0 := (congrFun (f1 2 (by decide)) 3).trans p_2_3
  have q3 : g1 6 3 = 0 := (congrFun (f1 6 (by decide)) 3).trans p_6_3
  have q4 : g1 10 3 = 0 := (congrFun (f1 10 (by decide)) 3).trans p_10_3
  have q5 : g1 14 3 = 0 := (congrFun (f1 14 (by decide)) 3).trans p_14_3
  have q6 : g1 18 11 = 8 := (congrFun (f1 18 (by decide)) 11).trans p_18_11
  clear f1
  refine z_dup dX10_init_79 rfl ?_
  refine z_aload_n dX10_init_80 rfl rfl ?_
  refine n_getR (l := 0) (r := 18) (U := (fun b j => ((b = 0 ∧ 6 ≤ j ∧ j < 11) ∨ (b = 1 ∧ j < 2)) ∨ b = 27)) dX10_init_81 fl_X10_36 (by decide) (by decide +kernel) (Nat.le_of_ble_eq_true rfl) (Nat.le_of_ble_eq_true rfl) (by decide +kernel) (by (try dsimp only); omega) hr1 ?_
  refine z_aload_n dX10_init_84 rfl rfl ?_
  refine n_getR (l := 0) (r := 2) (U := (fun b j => ((b = 0 ∧ 6 ≤ j ∧ j < 11) ∨ (b = 1 ∧ j < 2)) ∨ b = 27)) dX10_init_85 fl_X10_20 (by decide) (by decide +kernel) (Nat.le_of_ble_eq_true rfl) (Nat.le_of_ble_eq_true rfl) (by decide +kernel) (by (try dsimp only); omega) hr1 ?_
  refine z_aload_n dX10_init_88 rfl rfl ?_
  refine n_getR (l := 0) (r := 6) (U := (fun b j => ((b = 0 ∧ 6 ≤ j ∧ j < 11) ∨ (b = 1 ∧ j < 2)) ∨ b = 27)) dX10_init_89 fl_X10_24 (by decide) (by decide +kernel) (Nat.le_of_ble_eq_true rfl) (Nat.le_of_ble_eq_true rfl) (by decide +kernel) (by (try dsimp only); omega) hr1 ?_
  refine z_aload_n dX10_init_92 rfl rfl ?_
  refine n_getR (l := 0) (r := 10) (U := (fun b j => ((b = 0 ∧ 6 ≤ j ∧ j < 11) ∨ (b = 1 ∧ j < 2)) ∨ b = 27)) dX10_init_93 fl_X10_27 (by decide) (by decide +kernel) (Nat.le_of_ble_eq_true rfl) (Nat.le_of_ble_eq_true rfl) (by decide +kernel) (by (try dsimp only); omega) hr1 ?_
  refine n_call (M' := mX2_init) (c := 27) (n' := 136) (as := [aR (some 18), aR (some 2), aR (some 6), aR (some 10)]) (kc := 92) (ks := 1826) (kc' := 108) (ks' := 1900) (U := (fun b j => (b = 0 ∧ 6 ≤ j ∧ j < 11) ∨ (b = 1 ∧ j < 2))) dX10_init_96 lk_X10_42 mok_X2_init in_X2_init rfl rfl rfl (Nat.le_of_ble_eq_true rfl) rfl (Nat.le_of_ble_eq_true rfl) rfl (Nat.le_of_ble_eq_true rfl) (n_X2) hr1 y1 z1 (fun r7 g7 hr7 f7 G7 => ?_)
  have q8 : g7 2 3 = 0 := (congrFun (f7 2 (by decide)) 3).trans q2
  have q9 : g7 6 3 = 0 := (congrFun (f7 6 (by decide)) 3).trans q3
  have q10 : g7 10 3 = 0 := (congrFun (f7 10 (by decide)) 3).trans q4
  have q11 : g7 14 3 = 0 := (congrFun (f7 14 (by decide)) 3).trans q5
  have q12 : g7 18 11 = 8 := (congrFun (f7 18 (by decide)) 11).trans q6
  clear f7 G7 hr1 y1 z1 q2 q3 q4 q5 q6
  refine n_put (l := 0) (U := (fun b j => (b = 0 ∧ 6 ≤ j ∧ j < 11) ∨ (b = 1 ∧ j < 2))) (U' := (fun b j => (b = 0 ∧ 7 ≤ j ∧ j < 11) ∨ (b = 1 ∧ j < 2))) dX10_init_99 ff_X10_45 (by decide) rfl (by decide +kernel) (Nat.le_of_ble_eq_true rfl) (Nat.le_of_ble_eq_true rfl) (by decide +kernel) (by intro c j h; (try dsimp only at h ⊢); omega) hr7 (fun r13 hr13 => ?_)
  clear hr7
  exact k r13 g7 hr13 q8 q9 q10 q11 q12
theorem x10_102 {w : GX} {d : Nat} {Q : Post} {rf rfi : RF} {g : GI} (p_2_3 : g 2 3 = 0) (p_6_3 : g 6 3 = 0) (p_10_3 : g 10 3 = 0) (p_14_3 : g 14 3 = 0) (p_18_11 : g 18 11 = 8) (hr : Rin 0 (136) (fun b j => (b = 0 ∧ 7 ≤ j ∧ j < 11) ∨ (b = 1 ∧ j < 2)) rfi rf) (k : ∀ rf' g', Rin 0 (149) (fun b j => (b = 0 ∧ 8 ≤ j ∧ j < 11) ∨ (b = 1 ∧ j < 2)) rfi rf' → g' 2 3 = 0 → g' 6 3 = 0 → g' 10 3 = 0 → g' 14 3 = 0 → g' 18 11 = 8 → Zj w (d + 3) 79 1637 mX10_init 117 [some (aR (some 0)), none] [] (kdn (149)) rf' (149) g' Q) : Zj w (d + 3) 92 1826 mX10_init 102 [some (aR (some 0)), none] [] (kdn (136)) rf (136) g Q := by
  refine z_aload_n dX10_init_102 rfl rfl ?_
  refine n_new (ci := 5) (q := (RX5, TX5, 7)) (N := 7) (U := (fun b j => (b = 0 ∧ 7 ≤ j ∧ j < 11) ∨ (b = 1 ∧ j < 2))) dX10_init_103 rfl cl_X10_49 ib_X5 ii_X5 rfl (by decide +kernel) (Nat.le_of_ble_eq_true rfl) (Nat.le_of_ble_eq_true rfl) hr (fun r1 g1 hr1 y1 f1 z1 => ?_)
  have q2 : g1 2 3 = 0 := (congrFun (f1 2 (by decide)) 3).trans p_2_3
  have q3 : g1 6 3 = 0 := (congrFun (f1 6 (by decide)) 3).trans p_6_3
  have q4 : g1 10 3 = 0 := (congrFun (f1 10 (by decide)) 3).trans p_10_3
  have q5 : g1 14 3 = 0 := (congrFun (f1 14 (by decide)) 3).trans p_14_3
  have q6 : g1 18 11 = 8 := (congrFun (f1 18 (by decide)) 11).trans p_18_11
  clear f1
  refine z_dup dX10_init_106 rfl ?_
  refine z_aload_n dX10_init_107 rfl rfl ?_
  refine n_getR (l := 0) (r := 27) (U := (fun b j => ((b = 0 ∧ 7 ≤ j ∧ j < 11) ∨ (b = 1 ∧ j < 2)) ∨ b = 136)) dX10_init_108 fl_X10_45 (by decide) (by decide +kernel) (Nat.le_of_ble_eq_true rfl) (Nat.le_of_ble_eq_true rfl) (by decide +kernel) (by (try dsimp only); omega) hr1 ?_
  refine n_call (M' := mX5_init) (c := 136) (n' := 149) (as := [aR (some 27)]) (kc := 79) (ks := 1637) (kc' := 12) (ks' := 182) (U := (fun b j => (b = 0 ∧ 7 ≤ j ∧ j < 11) ∨ (b = 1 ∧ j < 2))) dX10_init_111 lk_X10_51 mok_X5_init in_X5_init rfl rfl rfl (Nat.le_of_ble_eq_true rfl) rfl (Nat.le_of_ble_eq_true rfl) rfl (Nat.le_of_ble_eq_true rfl) (n_X5) hr1 y1 z1 (fun r7 g7 hr7 f7 G7 => ?_)
  have q8 : g7 2 3 = 0 := (congrFun (f7 2 (by decide)) 3).trans q2
  have q9 : g7 6 3 = 0 := (congrFun (f7 6 (by decide)) 3).trans q3
  have q10 : g7 10 3 = 0 := (congrFun (f7 10 (by decide)) 3).trans q4
  have q11 : g7 14 3 = 0 := (congrFun (f7 14 (by decide)) 3).trans q5
  have q12 : g7 18 11 = 8 := (congrFun (f7 18 (by decide)) 11).trans q6
  clear f7 G7 hr1 y1 z1 q2 q3 q4 q5 q6
  refine n_put (l := 0) (U := (fun b j => (b = 0 ∧ 7 ≤ j ∧ j < 11) ∨ (b = 1 ∧ j < 2))) (U' := (fun b j => (b = 0 ∧ 8 ≤ j ∧ j < 11) ∨ (b = 1 ∧ j < 2))) dX10_init_114 ff_X10_54 (by decide) rfl (by decide +kernel) (Nat.le_of_ble_eq_true rfl) (Nat.le_of_ble_eq_true rfl) (by decide +kernel) (by intro c j h; (try dsimp only at h ⊢); omega) hr7 (fun r13 hr13 => ?_)
  clear hr7
  exact k r13 g7 hr13 q8 q9 q10 q11 q12
theorem x10_117 {w : GX} {d : Nat} {Q : Post} {rf rfi : RF} {g : GI} (p_2_3 : g 2 3 = 0) (p_6_3 : g 6 3 = 0) (p_10_3 : g 10 3 = 0) (p_14_3 : g 14 3 = 0) (p_18_11 : g 18 11 = 8) (hr : Rin 0 (149) (fun b j => (b = 0 ∧ 8 ≤ j ∧ j < 11) ∨ (b = 1 ∧ j < 2)) rfi rf) (k : ∀ rf' g', Rin 0 (158) (fun b j => (b = 0 ∧ 9 ≤ j ∧ j < 11) ∨ (b = 1 ∧ j < 2)) rfi rf' → g' 2 3 = 0 → g' 6 3 = 0 → g' 10 3 = 0 → g' 14 3 = 0 → g' 18 11 = 8 → Zj w (d + 3) 70 1325 mX10_init 136 [some (aR (some 0)), none] [] (kdn (158)) rf' (158) g' Q) : Zj w (d + 3) 79 1637 mX10_init 117 [some (aR (some 0)), none] [] (kdn (149)) rf (149) g Q := by
  refine z_aload_n dX10_init_117 rfl rfl ?_
  refine n_new (ci := 3) (q := (RX3, TX3, 5)) (N := 5) (U := (fun b j => (b = 0 ∧ 8 ≤ j ∧ j < 11) ∨ (b = 1 ∧ j < 2))) dX10_init_118 rfl cl_X10_58 ib_X3 ii_X3 rfl (by decide +kernel) (Nat.le_of_ble_eq_true rfl) (Nat.le_of_ble_eq_true rfl) hr (fun r1 g1 hr1 y1 f1 z1 => ?_)
  have q2 : g1 2 3 = 0 := (congrFun (f1 2 (by decide)) 3).trans p_2_3
  have q3 : g1 6 3 = 0 := (congrFun (f1 6 (by decide)) 3).trans p_6_3
  have q4 : g1 10 3 = 0 := (congrFun (f1 10 (by decide)) 3).trans p_10_3
  have q5 : g1 14 3 = 0 := (congrFun (f1 14 (by decide)) 3).trans p_14_3
  have q6 : g1 18 11 = 8 := (congrFun (f1 18 (by decide)) 11).trans p_18_11
  clear f1
  refine z_dup dX10_init_121 rfl ?_
  refine z_aload_n dX10_init_122 rfl rfl ?_
  refine n_getR (l := 0) (r := 27) (U := (fun b j => ((b = 0 ∧ 8 ≤ j ∧ j < 11) ∨ (b = 1 ∧ j < 2)) ∨ b = 149)) dX10_init_123 fl_X10_45 (by decide) (by decide +kernel) (Nat.le_of_ble_eq_true rfl) (Nat.le_of_ble_eq_true rfl) (by decide +kernel) (by (try dsimp only); omega) hr1 ?_
  refine z_aload_n dX10_init_126 rfl rfl ?_
  refine n_getR (l := 0) (r := 14) (U := (fun b j => ((b = 0 ∧ 8 ≤ j ∧ j < 11) ∨ (b = 1 ∧ j < 2)) ∨ b = 149)) dX10_init_127 fl_X10_30 (by decide) (by decide +kernel) (Nat.le_of_ble_eq_true rfl) (Nat.le_of_ble_eq_true rfl) (by decide +kernel) (by (try dsimp only); omega) hr1 ?_
  refine n_call (M' := mX3_init) (c := 149) (n' := 158) (as := [aR (some 27), aR (some 14)]) (kc := 70) (ks := 1325) (kc' := 8) (ks' := 307) (U := (fun b j => (b = 0 ∧ 8 ≤ j ∧ j < 11) ∨ (b = 1 ∧ j < 2))) dX10_init_130 lk_X10_60 mok_X3_init in_X3_init rfl rfl rfl (Nat.le_of_ble_eq_true rfl) rfl (Nat.le_of_ble_eq_true rfl) rfl (Nat.le_of_ble_eq_true rfl) (n_X3) hr1 y1 z1 (fun r7 g7 hr7 f7 G7 => ?_)
  have q8 : g7 2 3 = 0 := (congrFun (f7 2 (by decide)) 3).trans q2
  have q9 : g7 6 3 = 0 := (congrFun (f7 6 (by decide)) 3).trans q3
  have q10 : g7 10 3 = 0 := (congrFun (f7 10 (by decide)) 3).trans q4
  have q11 : g7 14 3 = 0 := (congrFun (f7 14 (by decide)) 3).trans q5
  have q12 : g7 18 11 = 8 := (congrFun (f7 18 (by decide)) 11).trans q6
  clear f7 G7 hr1 y1 z1 q2 q3 q4 q5 q6
  refine n_put (l := 0) (U := (fun b j => (b = 0 ∧ 8 ≤ j ∧ j < 11) ∨ (b = 1 ∧ j < 2))) (U' := (fun b j => (b = 0 ∧ 9 ≤ j ∧ j < 11) ∨ (b = 1 ∧ j < 2))) dX10_init_133 ff_X10_63 (by decide) rfl (by decide +kernel) (Nat.le_of_ble_eq_true rfl) (Nat.le_of_ble_eq_true rfl) (by decide +kernel) (by intro c j h; (try dsimp only at h ⊢); omega) hr7 (fun r13 hr13 => ?_)
  clear hr7
  exact k r13 g7 hr13 q8 q9 q10 q11 q12
theorem x10_136 {w : GX} {d : Nat} {Q : Post} {rf rfi : RF} {g : GI} (p_2_3 : g 2 3 = 0) (p_6_3 : g 6 3 = 0) (p_10_3 : g 10 3 = 0) (p_14_3 : g 14 3 = 0) (p_18_11 : g 18 11 = 8) (hr : Rin 0 (158) (fun b j => (b = 0 ∧ 9 ≤ j ∧ j < 11) ∨ (b = 1 ∧ j < 2)) rfi rf) (k : ∀ rf' g', Rin 0 (215) (fun b j => (b = 0 ∧ 10 ≤ j ∧ j < 11) ∨ (b = 1 ∧ j < 2)) rfi rf' → g' 2 3 = 0 → g' 6 3 = 0 → g' 10 3 = 0 → g' 14 3 = 0 → g' 18 11 = 8 → Zj w (d + 3) 13 327 mX10_init 151 [some (aR (some 0)), none] [] (kdn (215)) rf' (215) g' Q) : Zj w (d + 3) 70 1325 mX10_init 136 [some (aR (some 0)), none] [] (kdn (158)) rf (158) g Q := by
  refine z_aload_n dX10_init_136 rfl rfl ?_
  refine n_new (ci := 1) (q := (RX1, TX1, 8)) (N := 8) (U := (fun b j => (b = 0 ∧ 9 ≤ j ∧ j < 11) ∨ (b = 1 ∧ j < 2))) dX10_init_137 rfl cl_X10_67 ib_X1 ii_X1 rfl (by decide +kernel) (Nat.le_of_ble_eq_true rfl) (Nat.le_of_ble_eq_true rfl) hr (fun r1 g1 hr1 y1 f1 z1 => ?_)
  have q2 : g1 2 3 = 0 := (congrFun (f1 2 (by decide)) 3).trans p_2_3
  have q3 : g1 6 3 = 0 := (congrFun (f1 6 (by decide)) 3).trans p_6_3
  have q4 : g1 10 3 = 0 := (congrFun (f1 10 (by decide)) 3).trans p_10_3
  have q5 : g1 14 3 = 0 := (congrFun (f1 14 (by decide)) 3).trans p_14_3
  have q6 : g1 18 11 = 8 := (congrFun (f1 18 (by decide)) 11).trans p_18_11
  clear f1
  refine z_dup dX10_init_140 rfl ?_
  refine z_aload_n dX10_init_141 rfl rfl ?_
  refine n_getR (l := 0) (r := 27) (U := (fun b j => ((b = 0 ∧ 9 ≤ j ∧ j < 11) ∨ (b = 1 ∧ j < 2)) ∨ b = 158)) dX10_init_142 fl_X10_45 (by decide) (by decide +kernel) (Nat.le_of_ble_eq_true rfl) (Nat.le_of_ble_eq_true rfl) (by decide +kernel) (by (try dsimp only); omega) hr1 ?_
  refine n_call (M' := mX1_init) (c := 158) (n' := 215) (as := [aR (some 27)]) (kc := 13) (ks := 327) (kc' := 56) (ks' := 990) (U := (fun b j => (b = 0 ∧ 9 ≤ j ∧ j < 11) ∨ (b = 1 ∧ j < 2))) dX10_init_145 lk_X10_69 mok_X1_init in_X1_init rfl rfl rfl (Nat.le_of_ble_eq_true rfl) rfl (Nat.le_of_ble_eq_true rfl) rfl (Nat.le_of_ble_eq_true rfl) (n_X1) hr1 y1 z1 (fun r7 g7 hr7 f7 G7 => ?_)
  have q8 : g7 2 3 = 0 := (congrFun (f7 2 (by decide)) 3).trans q2
  have q9 : g7 6 3 = 0 := (congrFun (f7 6 (by decide)) 3).trans q3
  have q10 : g7 10 3 = 0 := (congrFun (f7 10 (by decide)) 3).trans q4
  have q11 : g7 14 3 = 0 := (congrFun (f7 14 (by decide)) 3).trans q5
  have q12 : g7 18 11 = 8 := (congrFun (f7 18 (by decide)) 11).trans q6
  clear f7 G7 hr1 y1 z1 q2 q3 q4 q5 q6
  refine n_put (l := 0) (U := (fun b j => (b = 0 ∧ 9 ≤ j ∧ j < 11) ∨ (b = 1 ∧ j < 2))) (U' := (fun b j => (b = 0 ∧ 10 ≤ j ∧ j < 11) ∨ (b = 1 ∧ j < 2))) dX10_init_148 ff_X10_70 (by decide) rfl (by decide +kernel) (Nat.le_of_ble_eq_true rfl) (Nat.le_of_ble_eq_true rfl) (by decide +kernel) (by intro c j h; (try dsimp only at h ⊢); omega) hr7 (fun r13 hr13 => ?_)
  clear hr7
  exact k r13 g7 hr13 q8 q9 q10 q11 q12
theorem x10_151 {w : GX} {d : Nat} {Q : Post} {rf rfi : RF} {g : GI} (p_2_3 : g 2 3 = 0) (p_6_3 : g 6 3 = 0) (p_10_3 : g 10 3 = 0) (p_14_3 : g 14 3 = 0) (p_18_11 : g 18 11 = 8) (hr : Rin 0 (215) (fun b j => (b = 0 ∧ 10 ≤ j ∧ j < 11) ∨ (b = 1 ∧ j < 2)) rfi rf) (k : ∀ rf' g', Rin 0 (215 + 1) (fun b j => (b = 1 ∧ j < 2) ∨ (b = 215 ∧ j < 4)) rfi rf' → g' 2 3 = 0 → g' 6 3 = 0 → g' 10 3 = 0 → g' 14 3 = 0 → g' 18 11 = 8 → g' 0 11 = 0 → g' 0 12 = 1 → Zj w (d + 3) 12 323 mX10_init 169 [some (aR (some 0)), none] [] (kdn (215 + 1)) rf' (215 + 1) g' Q) : Zj w (d + 3) 13 327 mX10_init 151 [some (aR (some 0)), none] [] (kdn (215)) rf (215) g Q := by
  refine z_aload_n dX10_init_151 rfl rfl ?_
  refine z_iconst dX10_init_152 ?_
  refine n_arq (t := 14) (CC := RX6) (L := 4) (U := (fun b j => (b = 0 ∧ 10 ≤ j ∧ j < 11) ∨ (b = 1 ∧ j < 2))) (U' := (fun b j => (b = 0 ∧ 10 ≤ j ∧ j < 11) ∨ (b = 1 ∧ j < 2) ∨ (b = 215 ∧ j < 4))) dX10_init_153 cl_X10_74 (by decide) (by decide) (by decide) (by decide +kernel) (Nat.le_of_ble_eq_true rfl) (Nat.le_of_ble_eq_true rfl) (by decide +kernel) (by intro b j _ h; (try dsimp only at h ⊢); omega) (by intro j h; (try dsimp only at h ⊢); omega) hr (fun r1 g1 hr1 f1 => ?_)
  have q2 : g1 2 3 = 0 := (congrFun (f1 2 (by decide)) 3).trans p_2_3
  have q3 : g1 6 3 = 0 := (congrFun (f1 6 (by decide)) 3).trans p_6_3
  have q4 : g1 10 3 = 0 := (congrFun (f1 10 (by decide)) 3).trans p_10_3
  have q5 : g1 14 3 = 0 := (congrFun (f1 14 (by decide)) 3).trans p_14_3
  have q6 : g1 18 11 = 8 := (congrFun (f1 18 (by decide)) 11).trans p_18_11
  clear f1
  refine n_put (l := 0) (U := (fun b j => (b = 0 ∧ 10 ≤ j ∧ j < 11) ∨ (b = 1 ∧ j < 2) ∨ (b = 215 ∧ j < 4))) (U' := (fun b j => (b = 1 ∧ j < 2) ∨ (b = 215 ∧ j < 4))) dX10_init_156 ff_X10_76 (by decide) rfl (by decide +kernel) (Nat.le_of_ble_eq_true rfl) (Nat.le_of_ble_eq_true rfl) (by decide +kernel) (by intro c j h; (try dsimp only at h ⊢); omega) hr1 (fun r7 hr7 => ?_)
  clear hr1
  refine z_aload_n dX10_init_159 rfl rfl ?_
  refine z_iconst dX10_init_160 ?_
  refine n_putI (l := 0) dX10_init_161 fw_X10_80 (by decide) (by decide +kernel) (Nat.le_of_ble_eq_true rfl) (fun g8 f8 o8 e8 => ?_)
  have q9 : g8 2 3 = 0 := (congrFun (f8 2 (by decide)) 3).trans q2
  have q10 : g8 6 3 = 0 := (congrFun (f8 6 (by decide)) 3).trans q3
  have q11 : g8 10 3 = 0 := (congrFun (f8 10 (by decide)) 3).trans q4
  have q12 : g8 14 3 = 0 := (congrFun (f8 14 (by decide)) 3).trans q5
  have q13 : g8 18 11 = 8 := (congrFun (f8 18 (by decide)) 11).trans q6
  clear f8 o8 q2 q3 q4 q5 q6
  refine z_aload_n dX10_init_164 rfl rfl ?_
  refine z_iconst dX10_init_165 ?_
  refine n_putZ (l := 0) dX10_init_166 fw_X10_84 (by decide) (by decide +kernel) (Nat.le_of_ble_eq_true rfl) (by decide) (fun g14 f14 o14 e14 => ?_)
  have q15 : g14 2 3 = 0 := (congrFun (f14 2 (by decide)) 3).trans q9
  have q16 : g14 6 3 = 0 := (congrFun (f14 6 (by decide)) 3).trans q10
  have q17 : g14 10 3 = 0 := (congrFun (f14 10 (by decide)) 3).trans q11
  have q18 : g14 14 3 = 0 := (congrFun (f14 14 (by decide)) 3).trans q12
  have q19 : g14 18 11 = 8 := (congrFun (f14 18 (by decide)) 11).trans q13
  have q20 : g14 0 11 = 0 := (o14 11 (by decide)).trans e8
  clear f14 o14 q9 q10 q11 q12 q13
  exact k r7 g14 hr7 q15 q16 q17 q18 q19 q20 e14
theorem x10_169 {w : GX} {d : Nat} {Q : Post} {rf rfi : RF} {g : GI} (p_2_3 : g 2 3 = 0) (p_6_3 : g 6 3 = 0) (p_10_3 : g 10 3 = 0) (p_14_3 : g 14 3 = 0) (p_18_11 : g 18 11 = 8) (p_0_11 : g 0 11 = 0) (p_0_12 : g 0 12 = 1) (hr : Rin 0 (215 + 1) (fun b j => (b = 1 ∧ j < 2) ∨ (b = 215 ∧ j < 4)) rfi rf) (k : ∀ rf' g', Rin 0 (220) (fun b j => (b = 215 ∧ j < 4)) rfi rf' → g' 2 3 = 0 → g' 6 3 = 0 → g' 10 3 = 0 → g' 14 3 = 0 → g' 18 11 = 8 → g' 0 11 = 0 → g' 0 12 = 1 → g' 216 1 = 0 → g' 218 1 = 0 → Zj w (d + 3) 8 252 mX10_init 199 [some (aR (some 0)), none] [] (kdn (220)) rf' (220) g' Q) : Zj w (d + 3) 12 323 mX10_init 169 [some (aR (some 0)), none] [] (kdn (215 + 1)) rf (215 + 1) g Q := by
  refine z_aload_n dX10_init_169 rfl rfl ?_
  refine n_getR (l := 0) (r := 1) (U := (fun b j => (b = 1 ∧ j < 2) ∨ (b = 215 ∧ j < 4))) dX10_init_170 fl_X10_11 (by decide) (by decide +kernel) (Nat.le_of_ble_eq_true rfl) (Nat.le_of_ble_eq_true rfl) (by decide +kernel) (by (try dsimp only); omega) hr ?_
  refine z_iconst dX10_init_173 ?_
  refine n_new (ci := 7) (q := (RX7, TX7, 2)) (N := 2) (U := (fun b j => (b = 1 ∧ j < 2) ∨ (b = 215 ∧ j < 4))) dX10_init_174 rfl cl_X10_9 ib_X7 ii_X7 rfl (by decide +kernel) (Nat.le_of_ble_eq_true rfl) (Nat.le_of_ble_eq_true rfl) hr (fun r1 g1 hr1 y1 f1 z1 => ?_)
  have q2 : g1 2 3 = 0 := (congrFun (f1 2 (by decide)) 3).trans p_2_3
  have q3 : g1 6 3 = 0 := (congrFun (f1 6 (by decide)) 3).trans p_6_3
  have q4 : g1 10 3 = 0 := (congrFun (f1 10 (by decide)) 3).trans p_10_3
  have q5 : g1 14 3 = 0 := (congrFun (f1 14 (by decide)) 3).trans p_14_3
  have q6 : g1 18 11 = 8 := (congrFun (f1 18 (by decide)) 11).trans p_18_11
  have q7 : g1 0 11 = 0 := (congrFun (f1 0 (by decide)) 11).trans p_0_11
  have q8 : g1 0 12 = 1 := (congrFun (f1 0 (by decide)) 12).trans p_0_12
  clear f1
  refine z_dup dX10_init_177 rfl ?_
  refine z_bipush dX10_init_178 rfl ?_
  refine n_call (M' := mX7_init) (c := 215 + 1) (n' := 218) (as := [aI 20]) (kc := 10) (ks := 301) (kc' := 1) (ks' := (0 + 20)) (U := (fun b j => (b = 1 ∧ j < 2) ∨ (b = 215 ∧ j < 4))) dX10_init_180 lk_X10_88 mok_X7_init in_X7_init rfl rfl rfl (Nat.le_of_ble_eq_true rfl) rfl (Nat.le_of_ble_eq_true rfl) rfl (Nat.le_of_ble_eq_true rfl) (n_X7 (a := 216) (L := 20) (by unfold isT; decide +kernel) (by decide) (by decide +kernel) (by decide) (by decide +kernel) (rjn (L := 2) (by decide +kernel) (by decide +kernel))) hr1 y1 z1 (fun r9 g9 hr9 f9 G9 => ?_)
  have q10 : g9 2 3 = 0 := (congrFun (f9 2 (by decide)) 3).trans q2
  have q11 : g9 6 3 = 0 := (congrFun (f9 6 (by decide)) 3).trans q3
  have q12 : g9 10 3 = 0 := (congrFun (f9 10 (by decide)) 3).trans q4
  have q13 : g9 14 3 = 0 := (congrFun (f9 14 (by decide)) 3).trans q5
  have q14 : g9 18 11 = 8 := (congrFun (f9 18 (by decide)) 11).trans q6
  have q15 : g9 0 11 = 0 := (congrFun (f9 0 (by decide)) 11).trans q7
  have q16 : g9 0 12 = 1 := (congrFun (f9 0 (by decide)) 12).trans q8
  have q17 : g9 216 1 = 0 := G9
  clear f9 G9 hr1 y1 z1 q2 q3 q4 q5 q6 q7 q8
  refine n_aast (ci := 7) (q := (RX7, TX7, 2)) (t := 15) (L := 2) (iN := 0) (U := (fun b j => (b = 1 ∧ j < 2) ∨ (b = 215 ∧ j < 4))) (U' := (fun b j => (b = 1 ∧ j = 1) ∨ (b = 215 ∧ j < 4))) dX10_init_183 (by decide +kernel) (Nat.le_of_ble_eq_true rfl) (Nat.le_of_ble_eq_true rfl) rfl (by decide) (by decide +kernel) (Nat.le_of_ble_eq_true rfl) (by decide) (by decide) (by decide +kernel) (by intro c j h; (try dsimp only at h ⊢); omega) hr9 (fun r18 hr18 => ?_)
  clear hr9
  refine z_aload_n dX10_init_184 rfl rfl ?_
  refine n_getR (l := 0) (r := 1) (U := (fun b j => (b = 1 ∧ j = 1) ∨ (b = 215 ∧ j < 4))) dX10_init_185 fl_X10_11 (by decide) (by decide +kernel) (Nat.le_of_ble_eq_true rfl) (Nat.le_of_ble_eq_true rfl) (by decide +kernel) (by (try dsimp only); omega) hr18 ?_
  refine z_iconst dX10_init_188 ?_
  refine n_new (ci := 7) (q := (RX7, TX7, 2)) (N := 2) (U := (fun b j => (b = 1 ∧ j = 1) ∨ (b = 215 ∧ j < 4))) dX10_init_189 rfl cl_X10_9 ib_X7 ii_X7 rfl (by decide +kernel) (Nat.le_of_ble_eq_true rfl) (Nat.le_of_ble_eq_true rfl) hr18 (fun r19 g19 hr19 y19 f19 z19 => ?_)
  have q20 : g19 2 3 = 0 := (congrFun (f19 2 (by decide)) 3).trans q10
  have q21 : g19 6 3 = 0 := (congrFun (f19 6 (by decide)) 3).trans q11
  have q22 : g19 10 3 = 0 := (congrFun (f19 10 (by decide)) 3).trans q12
  have q23 : g19 14 3 = 0 := (congrFun (f19 14 (by decide)) 3).trans q13
  have q24 : g19 18 11 = 8 := (congrFun (f19 18 (by decide)) 11).trans q14
  have q25 : g19 0 11 = 0 := (congrFun (f19 0 (by decide)) 11).trans q15
  have q26 : g19 0 12 = 1 := (congrFun (f19 0 (by decide)) 12).trans q16
  have q27 : g19 216 1 = 0 := (congrFun (f19 216 (by decide)) 1).trans q17
  clear f19 hr18 q10 q11 q12 q13 q14 q15 q16 q17
  refine z_dup dX10_init_192 rfl ?_
  refine z_bipush dX10_init_193 rfl ?_
  refine n_call (M' := mX7_init) (c := 218) (n' := 220) (as := [aI 47]) (kc := 8) (ks := 252) (kc' := 1) (ks' := (0 + 47)) (U := (fun b j => (b = 1 ∧ j = 1) ∨ (b = 215 ∧ j < 4))) dX10_init_195 lk_X10_88 mok_X7_init in_X7_init rfl rfl rfl (Nat.le_of_ble_eq_true rfl) rfl (Nat.le_of_ble_eq_true rfl) rfl (Nat.le_of_ble_eq_true rfl) (n_X7 (a := 218) (L := 47) (by unfold isT; decide +kernel) (by decide) (by decide +kernel) (by decide) (by decide +kernel) (rjn (L := 2) (by decide +kernel) (by decide +kernel))) hr19 y19 z19 (fun r28 g28 hr28 f28 G28 => ?_)
  have q29 : g28 2 3 = 0 := (congrFun (f28 2 (by decide)) 3).trans q20
  have q30 : g28 6 3 = 0 := (congrFun (f28 6 (by decide)) 3).trans q21
  have q31 : g28 10 3 = 0 := (congrFun (f28 10 (by decide)) 3).trans q22
  have q32 : g28 14 3 = 0 := (congrFun (f28 14 (by decide)) 3).trans q23
  have q33 : g28 18 11 = 8 := (congrFun (f28 18 (by decide)) 11).trans q24
  have q34 : g28 0 11 = 0 := (congrFun (f28 0 (by decide)) 11).trans q25
  have q35 : g28 0 12 = 1 := (congrFun (f28 0 (by decide)) 12).trans q26
  have q36 : g28 216 1 = 0 := (congrFun (f28 216 (by decide)) 1).trans q27
  have q37 : g28 218 1 = 0 := G28
  clear f28 G28 hr19 y19 z19 q20 q21 q22 q23 q24 q25 q26 q27
  refine n_aast (ci := 7) (q := (RX7, TX7, 2)) (t := 15) (L := 2) (iN := 1) (U := (fun b j => (b = 1 ∧ j = 1) ∨ (b = 215 ∧ j < 4))) (U' := (fun b j => (b = 215 ∧ j < 4))) dX10_init_198 (by decide +kernel) (Nat.le_of_ble_eq_true rfl) (Nat.le_of_ble_eq_true rfl) rfl (by decide) (by decide +kernel) (Nat.le_of_ble_eq_true rfl) (by decide) (by decide) (by decide +kernel) (by intro c j h; (try dsimp only at h ⊢); omega) hr28 (fun r38 hr38 => ?_)
  clear hr28
  exact k r38 g28 hr38 q29 q30 q31 q32 q33 q34 q35 q36 q37
theorem x10_199 {w : GX} {d : Nat} {Q : Post} {rf rfi : RF} {g : GI} (p_2_3 : g 2 3 = 0) (p_6_3 : g 6 3 = 0) (p_10_3 : g 10 3 = 0) (p_14_3 : g 14 3 = 0) (p_18_11 : g 18 11 = 8) (p_0_11 : g 0 11 = 0) (p_0_12 : g 0 12 = 1) (p_216_1 : g 216 1 = 0) (p_218_1 : g 218 1 = 0) (hr : Rin 0 220 (fun b j => (b = 215 ∧ j < 4)) rfi rf) (k : ∀ rf' g', (∀ b j, 0 ≤ b → b < 228 → rf' b j = rf0 b j) → (g' 2 3 = 0 ∧ g' 6 3 = 0 ∧ g' 10 3 = 0 ∧ g' 14 3 = 0 ∧ g' 18 11 = 8 ∧ g' 0 11 = 0 ∧ g' 0 12 = 1 ∧ g' 216 1 = 0 ∧ g' 218 1 = 0 ∧ ∀ s, s < 4 → g' (220 + 2 * s) 2 = -1) → Q none (kdn 228) rf' 228 g') : Zj w (d + 3) 8 252 mX10_init 199 [some (aR (some 0)), none] [] (kdn 220) rf 220 g Q := by
  refine z_iconst dX10_init_199 ?_
  refine z_istore_n dX10_init_200 rfl (by decide) rfl ?_
  refine loopN (σ := RF × GI) (fun i s => Zj w (d + 3) (2 * (4 - i)) (63 * (4 - i)) mX10_init 201 [some (aR (some 0)), some (aI (i : Int))] [] (kdn (220 + 2 * i)) s.1 (220 + 2 * i) s.2 Q) (fun i s => Rin 0 (220 + 2 * i) (fun b j => b = 215 ∧ i ≤ j ∧ j < 4) rfi s.1 ∧ (s.2 2 3 = 0 ∧ s.2 6 3 = 0 ∧ s.2 10 3 = 0 ∧ s.2 14 3 = 0 ∧ s.2 18 11 = 8 ∧ s.2 0 11 = 0 ∧ s.2 0 12 = 1 ∧ s.2 216 1 = 0 ∧ s.2 218 1 = 0) ∧ ∀ t, t < i → s.2 (220 + 2 * t) 2 = -1) 4 ?_ ?_ 0 (rf, g) (Nat.zero_le _) ⟨⟨hr.1, fun b j h1 h2 => (hr.2 b j h1 h2).imp_left (fun h => ⟨h.1, Nat.zero_le _, h.2⟩)⟩, ⟨p_2_3, p_6_3, p_10_3, p_14_3, p_18_11, p_0_11, p_0_12, p_216_1, p_218_1⟩, fun t h => absurd h (Nat.not_lt_zero t)⟩
  · intro ⟨r, g1⟩ ⟨h1, h2, h3⟩
    dsimp only at h1 h2 h3 ⊢
    refine z_iload_n dX10_init_201 rfl rfl ?_
    refine z_iconst dX10_init_202 ?_
    refine z_icmp_ge (tgt := 225) dX10_init_203 (by decide) (fun _ => ?_) (fun q => absurd (by decide) q)
    refine z_vret dX10_init_225 rfl ?_
    exact k _ _ (fun b j q1 q2 => (h1.2 b j q1 q2).resolve_left (by omega)) ⟨h2.1, h2.2.1, h2.2.2.1, h2.2.2.2.1, h2.2.2.2.2.1, h2.2.2.2.2.2.1, h2.2.2.2.2.2.2.1, h2.2.2.2.2.2.2.2.1, h2.2.2.2.2.2.2.2.2, h3⟩
  · intro i ⟨r, g1⟩ hi ⟨h1, h2, h3⟩ ih
    dsimp only at h1 h2 h3 ⊢
    have ei : nm (i : Int) = i := nm_id (by omega) (by omega)
    have e4 : nm 4 = 4 := by decide
    have h0 : ∀ b, b < 0 → g1 b = g b := fun b hb => absurd hb (Nat.not_lt_zero b)
    rw [show 2 * (4 - i) = 2 * (4 - (i + 1)) + 1 + 1 by omega, show 63 * (4 - i) = 63 * (4 - (i + 1)) + 60 + 3 by omega]
    refine z_iload_n dX10_init_201 rfl rfl ?_
    refine z_iconst dX10_init_202 ?_
    refine z_icmp_ge (tgt := 225) dX10_init_203 (by decide) (fun q => absurd q (by rw [e4, ei]; omega)) (fun _ => ?_)
    refine z_aload_n dX10_init_206 rfl rfl ?_
    refine n_getR (l := 0) (r := 215) (U := (fun b j => b = 215 ∧ i ≤ j ∧ j < 4)) dX10_init_207 fl_X10_76 (by decide) (by decide +kernel) (by omega) (by omega) (by decide +kernel) (by (try dsimp only); omega) h1 ?_
    refine z_iload_n dX10_init_210 rfl rfl ?_
    refine n_new (ci := 6) (q := (RX6, TX6, 3)) (N := 3) (U := (fun b j => b = 215 ∧ i ≤ j ∧ j < 4)) dX10_init_211 rfl cl_X10_74 ib_X6 ii_X6 rfl (isS_at i hi).1 (by omega) (by omega) h1 (fun r201 g201 hr201 y201 f201 z201 => ?_)
    have hf201 : ∀ b, b < 0 → g201 b = g b := fun b hb => (f201 b (by omega)).trans (h0 b hb)
    refine z_dup dX10_init_214 rfl ?_
    refine n_callN (M' := mX6_init) (c := 220 + 2 * i) (n' := 220 + 2 * (i + 1)) (as := []) (kc := 2 * (4 - (i + 1))) (ks := 63 * (4 - (i + 1))) (kc' := 1) (ks' := 60) (U := (fun b j => b = 215 ∧ i ≤ j ∧ j < 4)) dX10_init_215 lk_X10_89 mok_X6_init in_X6_init rfl rfl rfl (Nat.le_of_ble_eq_true rfl) rfl (Nat.le_of_ble_eq_true rfl) rfl (by omega) (n_Sh hi) hr201 y201 z201 (fun r202 g202 hr202 f202 G202 => ?_)
    have hf202 : ∀ b, b < 0 → g202 b = g b := fun b hb => (f202 b (by omega)).trans (hf201 b hb)
    refine n_aast (ci := 6) (q := (RX6, TX6, 3)) (t := 14) (L := 4) (iN := i) (U := (fun b j => b = 215 ∧ i ≤ j ∧ j < 4)) (U' := (fun b j => b = 215 ∧ i + 1 ≤ j ∧ j < 4)) dX10_init_218 (by decide +kernel) (by omega) (by omega) rfl (by decide) (isS_at i hi).1 (by omega) ei (by omega) (w_sheets i hi) (by intro c j h; (try dsimp only at h ⊢); omega) hr202 (fun r203 hr203 => ?_)
    refine z_iinc dX10_init_219 rfl (by decide) rfl ?_
    refine z_goto (tgt := 201) dX10_init_222 (by decide) ?_
    have fr : ∀ b, b < 220 + 2 * i → g202 b = g1 b := fun b hb => (f202 b hb).trans (f201 b (by omega))
    refine ih (r203, g202) ⟨hr203, ⟨(congrFun (fr 2 (by omega)) 3).trans h2.1, (congrFun (fr 6 (by omega)) 3).trans h2.2.1, (congrFun (fr 10 (by omega)) 3).trans h2.2.2.1, (congrFun (fr 14 (by omega)) 3).trans h2.2.2.2.1, (congrFun (fr 18 (by omega)) 11).trans h2.2.2.2.2.1, (congrFun (fr 0 (by omega)) 11).trans h2.2.2.2.2.2.1, (congrFun (fr 0 (by omega)) 12).trans h2.2.2.2.2.2.2.1, (congrFun (fr 216 (by omega)) 1).trans h2.2.2.2.2.2.2.2.1, (congrFun (fr 218 (by omega)) 1).trans h2.2.2.2.2.2.2.2.2⟩, fun t ht => ?_⟩
    dsimp only
    by_cases e : t = i
    · subst e; exact G202
    · exact (congrFun (fr (220 + 2 * t) (by omega)) 2).trans (h3 t (by omega))
theorem n_X10 {w : GX} {d : Nat} : Ct w (d + 3) 227 4030 mX10_init 0 228 [some (aR (some 0)), none] (fun g' => g' 2 3 = 0 ∧ g' 6 3 = 0 ∧ g' 10 3 = 0 ∧ g' 14 3 = 0 ∧ g' 18 11 = 8 ∧ g' 0 11 = 0 ∧ g' 0 12 = 1 ∧ g' 216 1 = 0 ∧ g' 218 1 = 0 ∧ ∀ s, s < 4 → g' (220 + 2 * s) 2 = -1) := by
  intro rf g Q hz0 hg0 k
  have hr : Rin 0 (0 + 1) (fun b j => (b = 0 ∧ 0 ≤ j ∧ j < 11)) rf rf := Rin.start hz0 (fun j => by rcases Nat.lt_or_ge j 11 with h | h; exact Or.inl ⟨rfl, Nat.zero_le _, h⟩; exact Or.inr (rjn (L := 13) (by decide +kernel) (by decide +kernel) j h))
  refine z_aload_n dX10_init_0 rfl rfl ?_
  refine z_oinit dX10_init_1 lk_X10_1 w_oin w_oco (Nat.le_of_ble_eq_true rfl) ?_
  refine x10_4  hr (fun r1 g1 hr1 => ?_)
  refine x10_12  hr1 (fun r2 g2 hr2 a2_2_3 => ?_)
  refine x10_25 a2_2_3 hr2 (fun r3 g3 hr3 a3_2_3 a3_6_3 => ?_)
  refine x10_38 a3_2_3 a3_6_3 hr3 (fun r4 g4 hr4 a4_2_3 a4_6_3 a4_10_3 => ?_)
  refine x10_51 a4_2_3 a4_6_3 a4_10_3 hr4 (fun r5 g5 hr5 a5_2_3 a5_6_3 a5_10_3 a5_14_3 => ?_)
  refine x10_64 a5_2_3 a5_6_3 a5_10_3 a5_14_3 hr5 (fun r6 g6 hr6 a6_2_3 a6_6_3 a6_10_3 a6_14_3 a6_18_11 => ?_)
  refine x10_75 a6_2_3 a6_6_3 a6_10_3 a6_14_3 a6_18_11 hr6 (fun r7 g7 hr7 a7_2_3 a7_6_3 a7_10_3 a7_14_3 a7_18_11 => ?_)
  refine x10_102 a7_2_3 a7_6_3 a7_10_3 a7_14_3 a7_18_11 hr7 (fun r8 g8 hr8 a8_2_3 a8_6_3 a8_10_3 a8_14_3 a8_18_11 => ?_)
  refine x10_117 a8_2_3 a8_6_3 a8_10_3 a8_14_3 a8_18_11 hr8 (fun r9 g9 hr9 a9_2_3 a9_6_3 a9_10_3 a9_14_3 a9_18_11 => ?_)
  refine x10_136 a9_2_3 a9_6_3 a9_10_3 a9_14_3 a9_18_11 hr9 (fun r10 g10 hr10 a10_2_3 a10_6_3 a10_10_3 a10_14_3 a10_18_11 => ?_)
  refine x10_151 a10_2_3 a10_6_3 a10_10_3 a10_14_3 a10_18_11 hr10 (fun r11 g11 hr11 a11_2_3 a11_6_3 a11_10_3 a11_14_3 a11_18_11 a11_0_11 a11_0_12 => ?_)
  refine x10_169 a11_2_3 a11_6_3 a11_10_3 a11_14_3 a11_18_11 a11_0_11 a11_0_12 hr11 (fun r12 g12 hr12 a12_2_3 a12_6_3 a12_10_3 a12_14_3 a12_18_11 a12_0_11 a12_0_12 a12_216_1 a12_218_1 => ?_)
  refine x10_199 a12_2_3 a12_6_3 a12_10_3 a12_14_3 a12_18_11 a12_0_11 a12_0_12 a12_216_1 a12_218_1 hr12 (fun r' g' h1 h2 => k r' g' (fun b hb => absurd hb (Nat.not_lt_zero b)) h1 (fun b hb => absurd hb (Nat.not_lt_zero b)) h2)
