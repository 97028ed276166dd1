/-! the model's constructor -/
theorem dX11_init_0 : decode cX11_init 0 = .ok (.aload_n 0, 1) := by decide +kernel
theorem dX11_init_1 : decode cX11_init 1 = .ok (.invokespecial 1, 3) := by decide +kernel
theorem dX11_init_4 : decode cX11_init 4 = .ok (.aload_n 0, 1) := by decide +kernel
theorem dX11_init_5 : decode cX11_init 5 = .ok (.iconst 4, 1) := by decide +kernel
theorem dX11_init_6 : decode cX11_init 6 = .ok (.newarray .int, 2) := by decide +kernel
theorem dX11_init_8 : decode cX11_init 8 = .ok (.putfield 7, 3) := by decide +kernel
theorem dX11_init_11 : decode cX11_init 11 = .ok (.aload_n 0, 1) := by decide +kernel
theorem dX11_init_12 : decode cX11_init 12 = .ok (.iconst 4, 1) := by decide +kernel
theorem dX11_init_13 : decode cX11_init 13 = .ok (.newarray .int, 2) := by decide +kernel
theorem dX11_init_15 : decode cX11_init 15 = .ok (.putfield 13, 3) := by decide +kernel
theorem dX11_init_18 : decode cX11_init 18 = .ok (.aload_n 0, 1) := by decide +kernel
theorem dX11_init_19 : decode cX11_init 19 = .ok (.sipush 240, 3) := by decide +kernel
theorem dX11_init_22 : decode cX11_init 22 = .ok (.newarray .int, 2) := by decide +kernel
theorem dX11_init_24 : decode cX11_init 24 = .ok (.putfield 16, 3) := by decide +kernel
theorem dX11_init_27 : decode cX11_init 27 = .ok (.aload_n 0, 1) := by decide +kernel
theorem dX11_init_28 : decode cX11_init 28 = .ok (.bipush 60, 2) := by decide +kernel
theorem dX11_init_30 : decode cX11_init 30 = .ok (.newarray .int, 2) := by decide +kernel
theorem dX11_init_32 : decode cX11_init 32 = .ok (.putfield 19, 3) := by decide +kernel
theorem dX11_init_35 : decode cX11_init 35 = .ok (.aload_n 0, 1) := by decide +kernel
theorem dX11_init_36 : decode cX11_init 36 = .ok (.bipush 96, 2) := by decide +kernel
theorem dX11_init_38 : decode cX11_init 38 = .ok (.newarray .int, 2) := by decide +kernel
theorem dX11_init_40 : decode cX11_init 40 = .ok (.putfield 22, 3) := by decide +kernel
theorem dX11_init_43 : decode cX11_init 43 = .ok (.aload_n 0, 1) := by decide +kernel
theorem dX11_init_44 : decode cX11_init 44 = .ok (.iconst 2, 1) := by decide +kernel
theorem dX11_init_45 : decode cX11_init 45 = .ok (.newarray .int, 2) := by decide +kernel
theorem dX11_init_47 : decode cX11_init 47 = .ok (.putfield 25, 3) := by decide +kernel
theorem dX11_init_50 : decode cX11_init 50 = .ok (.aload_n 0, 1) := by decide +kernel
theorem dX11_init_51 : decode cX11_init 51 = .ok (.bipush 20, 2) := by decide +kernel
theorem dX11_init_53 : decode cX11_init 53 = .ok (.newarray .int, 2) := by decide +kernel
theorem dX11_init_55 : decode cX11_init 55 = .ok (.putfield 28, 3) := by decide +kernel
theorem dX11_init_58 : decode cX11_init 58 = .ok (.aload_n 0, 1) := by decide +kernel
theorem dX11_init_59 : decode cX11_init 59 = .ok (.bipush 20, 2) := by decide +kernel
theorem dX11_init_61 : decode cX11_init 61 = .ok (.newarray .int, 2) := by decide +kernel
theorem dX11_init_63 : decode cX11_init 63 = .ok (.putfield 31, 3) := by decide +kernel
theorem dX11_init_66 : decode cX11_init 66 = .ok (.aload_n 0, 1) := by decide +kernel
theorem dX11_init_67 : decode cX11_init 67 = .ok (.bipush 32, 2) := by decide +kernel
theorem dX11_init_69 : decode cX11_init 69 = .ok (.newarray .int, 2) := by decide +kernel
theorem dX11_init_71 : decode cX11_init 71 = .ok (.putfield 34, 3) := by decide +kernel
theorem dX11_init_74 : decode cX11_init 74 = .ok (.aload_n 0, 1) := by decide +kernel
theorem dX11_init_75 : decode cX11_init 75 = .ok (.bipush 72, 2) := by decide +kernel
theorem dX11_init_77 : decode cX11_init 77 = .ok (.newarray .int, 2) := by decide +kernel
theorem dX11_init_79 : decode cX11_init 79 = .ok (.putfield 37, 3) := by decide +kernel
theorem dX11_init_82 : decode cX11_init 82 = .ok (.aload_n 0, 1) := by decide +kernel
theorem dX11_init_83 : decode cX11_init 83 = .ok (.bipush 20, 2) := by decide +kernel
theorem dX11_init_85 : decode cX11_init 85 = .ok (.newarray .int, 2) := by decide +kernel
theorem dX11_init_87 : decode cX11_init 87 = .ok (.putfield 40, 3) := by decide +kernel
theorem dX11_init_90 : decode cX11_init 90 = .ok (.aload_n 0, 1) := by decide +kernel
theorem dX11_init_91 : decode cX11_init 91 = .ok (.bipush 6, 2) := by decide +kernel
theorem dX11_init_93 : decode cX11_init 93 = .ok (.newarray .int, 2) := by decide +kernel
theorem dX11_init_95 : decode cX11_init 95 = .ok (.putfield 43, 3) := by decide +kernel
theorem dX11_init_98 : decode cX11_init 98 = .ok (.aload_n 0, 1) := by decide +kernel
theorem dX11_init_99 : decode cX11_init 99 = .ok (.sipush 560, 3) := by decide +kernel
theorem dX11_init_102 : decode cX11_init 102 = .ok (.newarray .int, 2) := by decide +kernel
theorem dX11_init_104 : decode cX11_init 104 = .ok (.putfield 46, 3) := by decide +kernel
theorem dX11_init_107 : decode cX11_init 107 = .ok (.aload_n 0, 1) := by decide +kernel
theorem dX11_init_108 : decode cX11_init 108 = .ok (.bipush 20, 2) := by decide +kernel
theorem dX11_init_110 : decode cX11_init 110 = .ok (.newarray .int, 2) := by decide +kernel
theorem dX11_init_112 : decode cX11_init 112 = .ok (.putfield 49, 3) := by decide +kernel
theorem dX11_init_115 : decode cX11_init 115 = .ok (.aload_n 0, 1) := by decide +kernel
theorem dX11_init_116 : decode cX11_init 116 = .ok (.bipush 28, 2) := by decide +kernel
theorem dX11_init_118 : decode cX11_init 118 = .ok (.newarray .int, 2) := by decide +kernel
theorem dX11_init_120 : decode cX11_init 120 = .ok (.putfield 52, 3) := by decide +kernel
theorem dX11_init_123 : decode cX11_init 123 = .ok (.aload_n 0, 1) := by decide +kernel
theorem dX11_init_124 : decode cX11_init 124 = .ok (.bipush 28, 2) := by decide +kernel
theorem dX11_init_126 : decode cX11_init 126 = .ok (.newarray .int, 2) := by decide +kernel
theorem dX11_init_128 : decode cX11_init 128 = .ok (.putfield 55, 3) := by decide +kernel
theorem dX11_init_131 : decode cX11_init 131 = .ok (.aload_n 0, 1) := by decide +kernel
theorem dX11_init_132 : decode cX11_init 132 = .ok (.bipush 28, 2) := by decide +kernel
theorem dX11_init_134 : decode cX11_init 134 = .ok (.newarray .int, 2) := by decide +kernel
theorem dX11_init_136 : decode cX11_init 136 = .ok (.putfield 58, 3) := by decide +kernel
theorem dX11_init_139 : decode cX11_init 139 = .ok (.aload_n 0, 1) := by decide +kernel
theorem dX11_init_140 : decode cX11_init 140 = .ok (.bipush 8, 2) := by decide +kernel
theorem dX11_init_142 : decode cX11_init 142 = .ok (.newarray .int, 2) := by decide +kernel
theorem dX11_init_144 : decode cX11_init 144 = .ok (.putfield 61, 3) := by decide +kernel
theorem dX11_init_147 : decode cX11_init 147 = .ok (.aload_n 0, 1) := by decide +kernel
theorem dX11_init_148 : decode cX11_init 148 = .ok (.bipush 36, 2) := by decide +kernel
theorem dX11_init_150 : decode cX11_init 150 = .ok (.newarray .int, 2) := by decide +kernel
theorem dX11_init_152 : decode cX11_init 152 = .ok (.putfield 64, 3) := by decide +kernel
theorem dX11_init_155 : decode cX11_init 155 = .ok (.aload_n 0, 1) := by decide +kernel
theorem dX11_init_156 : decode cX11_init 156 = .ok (.bipush 24, 2) := by decide +kernel
theorem dX11_init_158 : decode cX11_init 158 = .ok (.newarray .int, 2) := by decide +kernel
theorem dX11_init_160 : decode cX11_init 160 = .ok (.putfield 67, 3) := by decide +kernel
theorem dX11_init_163 : decode cX11_init 163 = .ok (.aload_n 0, 1) := by decide +kernel
theorem dX11_init_164 : decode cX11_init 164 = .ok (.sipush 208, 3) := by decide +kernel
theorem dX11_init_167 : decode cX11_init 167 = .ok (.newarray .int, 2) := by decide +kernel
theorem dX11_init_169 : decode cX11_init 169 = .ok (.putfield 70, 3) := by decide +kernel
theorem dX11_init_172 : decode cX11_init 172 = .ok (.iconst 0, 1) := by decide +kernel
theorem dX11_init_173 : decode cX11_init 173 = .ok (.istore_n 1, 1) := by decide +kernel
theorem dX11_init_174 : decode cX11_init 174 = .ok (.iload_n 1, 1) := by decide +kernel
theorem dX11_init_175 : decode cX11_init 175 = .ok (.iconst 4, 1) := by decide +kernel
theorem dX11_init_176 : decode cX11_init 176 = .ok (.if_icmp .ge 16, 3) := by decide +kernel
theorem dX11_init_179 : decode cX11_init 179 = .ok (.aload_n 0, 1) := by decide +kernel
theorem dX11_init_180 : decode cX11_init 180 = .ok (.getfield 7, 3) := by decide +kernel
theorem dX11_init_183 : decode cX11_init 183 = .ok (.iload_n 1, 1) := by decide +kernel
theorem dX11_init_184 : decode cX11_init 184 = .ok (.iconst (-1), 1) := by decide +kernel
theorem dX11_init_185 : decode cX11_init 185 = .ok (.iastore, 1) := by decide +kernel
theorem dX11_init_186 : decode cX11_init 186 = .ok (.iinc 1 1, 3) := by decide +kernel
theorem dX11_init_189 : decode cX11_init 189 = .ok (.goto (-15), 3) := by decide +kernel
theorem dX11_init_192 : decode cX11_init 192 = .ok (.aload_n 0, 1) := by decide +kernel
theorem dX11_init_193 : decode cX11_init 193 = .ok (.bipush 8, 2) := by decide +kernel
theorem dX11_init_195 : decode cX11_init 195 = .ok (.putfield 73, 3) := by decide +kernel
theorem dX11_init_198 : decode cX11_init 198 = .ok (.aload_n 0, 1) := by decide +kernel
theorem dX11_init_199 : decode cX11_init 199 = .ok (.iconst (-1), 1) := by decide +kernel
theorem dX11_init_200 : decode cX11_init 200 = .ok (.putfield 77, 3) := by decide +kernel
theorem dX11_init_203 : decode cX11_init 203 = .ok (.aload_n 0, 1) := by decide +kernel
theorem dX11_init_204 : decode cX11_init 204 = .ok (.iconst (-1), 1) := by decide +kernel
theorem dX11_init_205 : decode cX11_init 205 = .ok (.putfield 80, 3) := by decide +kernel
theorem dX11_init_208 : decode cX11_init 208 = .ok (.aload_n 0, 1) := by decide +kernel
theorem dX11_init_209 : decode cX11_init 209 = .ok (.iconst (-1), 1) := by decide +kernel
theorem dX11_init_210 : decode cX11_init 210 = .ok (.putfield 83, 3) := by decide +kernel
theorem dX11_init_213 : decode cX11_init 213 = .ok (.return_, 1) := by decide +kernel
theorem x11_4 {w : GX} {d : Nat} {Q : Post} {rf rfi : RF} {g gi : GI} (p_228_4 : g 228 4 = 0) (p_228_14 : g 228 14 = 0) (p_228_16 : g 228 16 = 0) (p_228_18 : g 228 18 = 0) (p_228_31 : g 228 31 = 0) (hf : ∀ b, b < 228 → g b = gi b) (hr : Rin 228 (228 + 1) (fun b j => (b = 228 ∧ 0 ≤ j ∧ rf0 228 j ≠ none)) rfi rf) (k : ∀ rf' g', Rin 228 (228 + 1 + 1) (fun b j => (b = 228 ∧ 1 ≤ j ∧ rf0 228 j ≠ none)) rfi rf' → (∀ b, b < 228 → g' b = gi b) → g' 228 4 = 0 → g' 228 14 = 0 → g' 228 16 = 0 → g' 228 18 = 0 → g' 228 31 = 0 → Zj w (d + 1) 20 1512 mX11_init 11 [some (aR (some 228)), none] [] (kdn 230) rf' (228 + 1 + 1) g' Q) : Zj w (d + 1) 21 1516 mX11_init 4 [some (aR (some 228)), none] [] (kdn (228 + 1)) rf (228 + 1) g Q := by
  refine z_aload_n dX11_init_4 rfl rfl ?_
  refine z_iconst dX11_init_5 ?_
  refine n_arr (ty := .int) (t := 12) (L := 4) (U := (fun b j => (b = 228 ∧ 0 ≤ j ∧ rf0 228 j ≠ none))) dX11_init_6 rfl (Or.inl ⟨rfl, rfl⟩) w_aI (by decide) (by decide) (by decide +kernel) (Nat.le_of_ble_eq_true rfl) (Nat.le_of_ble_eq_true rfl) (by decide +kernel) hr (fun r1 g1 hr1 f1 z1 => ?_)
  have hf1 : ∀ b, b < 228 → g1 b = gi b := fun b hb => (f1 b (by omega)).trans (hf b hb)
  have q2 : g1 228 4 = 0 := (congrFun (f1 228 (by decide)) 4).trans p_228_4
  have q3 : g1 228 14 = 0 := (congrFun (f1 228 (by decide)) 14).trans p_228_14
  have q4 : g1 228 16 = 0 := (congrFun (f1 228 (by decide)) 16).trans p_228_16
  have q5 : g1 228 18 = 0 := (congrFun (f1 228 (by decide)) 18).trans p_228_18
  have q6 : g1 228 31 = 0 := (congrFun (f1 228 (by decide)) 31).trans p_228_31
  clear f1 z1
  refine n_put (l := 0) (U := (fun b j => (b = 228 ∧ 0 ≤ j ∧ rf0 228 j ≠ none))) (U' := (fun b j => (b = 228 ∧ 1 ≤ j ∧ rf0 228 j ≠ none))) dX11_init_8 ff_X11_7 (by decide) rfl (by decide +kernel) (Nat.le_of_ble_eq_true rfl) (Nat.le_of_ble_eq_true rfl) (by decide +kernel) (fun c j h => by
    rcases h with ⟨h1, h2, h3⟩
    by_cases e : j = 0
    · exact Or.inr ⟨h1, e⟩
    · by_cases e2 : 1 ≤ j
      · exact Or.inl ⟨h1, e2, h3⟩
      · exact absurd ((by decide +kernel : ∀ j, j < 1 → 0 < j → rf0 228 j = none) j (by omega) (by omega)) h3) hr1 (fun r7 hr7 => ?_)
  clear hr1
  exact k r7 g1 hr7 hf1 q2 q3 q4 q5 q6
theorem x11_11 {w : GX} {d : Nat} {Q : Post} {rf rfi : RF} {g gi : GI} (p_228_4 : g 228 4 = 0) (p_228_14 : g 228 14 = 0) (p_228_16 : g 228 16 = 0) (p_228_18 : g 228 18 = 0) (p_228_31 : g 228 31 = 0) (hf : ∀ b, b < 228 → g b = gi b) (hr : Rin 228 (230) (fun b j => (b = 228 ∧ 1 ≤ j ∧ rf0 228 j ≠ none)) rfi rf) (k : ∀ rf' g', Rin 228 (230 + 1) (fun b j => (b = 228 ∧ 2 ≤ j ∧ rf0 228 j ≠ none)) rfi rf' → (∀ b, b < 228 → g' b = gi b) → g' 228 4 = 0 → g' 228 14 = 0 → g' 228 16 = 0 → g' 228 18 = 0 → g' 228 31 = 0 → Zj w (d + 1) 19 1508 mX11_init 18 [some (aR (some 228)), none] [] (kdn 231) rf' (230 + 1) g' Q) : Zj w (d + 1) 20 1512 mX11_init 11 [some (aR (some 228)), none] [] (kdn (230)) rf (230) g Q := by
  refine z_aload_n dX11_init_11 rfl rfl ?_
  refine z_iconst dX11_init_12 ?_
  refine n_arr (ty := .int) (t := 12) (L := 4) (U := (fun b j => (b = 228 ∧ 1 ≤ j ∧ rf0 228 j ≠ none))) dX11_init_13 rfl (Or.inl ⟨rfl, rfl⟩) w_aI (by decide) (by decide) (by decide +kernel) (Nat.le_of_ble_eq_true rfl) (Nat.le_of_ble_eq_true rfl) (by decide +kernel) hr (fun r1 g1 hr1 f1 z1 => ?_)
  have hf1 : ∀ b, b < 228 → g1 b = gi b := fun b hb => (f1 b (by omega)).trans (hf b hb)
  have q2 : g1 228 4 = 0 := (congrFun (f1 228 (by decide)) 4).trans p_228_4
  have q3 : g1 228 14 = 0 := (congrFun (f1 228 (by decide)) 14).trans p_228_14
  have q4 : g1 228 16 = 0 := (congrFun (f1 228 (by decide)) 16).trans p_228_16
  have q5 : g1 228 18 = 0 := (congrFun (f1 228 (by decide)) 18).trans p_228_18
  have q6 : g1 228 31 = 0 := (congrFun (f1 228 (by decide)) 31).trans p_228_31
  clear f1 z1
  refine n_put (l := 0) (U := (fun b j => (b = 228 ∧ 1 ≤ j ∧ rf0 228 j ≠ none))) (U' := (fun b j => (b = 228 ∧ 2 ≤ j ∧ rf0 228 j ≠ none))) dX11_init_15 ff_X11_13 (by decide) rfl (by decide +kernel) (Nat.le_of_ble_eq_true rfl) (Nat.le_of_ble_eq_true rfl) (by decide +kernel) (fun c j h => by
    rcases h with ⟨h1, h2, h3⟩
    by_cases e : j = 1
    · exact Or.inr ⟨h1, e⟩
    · by_cases e2 : 2 ≤ j
      · exact Or.inl ⟨h1, e2, h3⟩
      · exact absurd ((by decide +kernel : ∀ j, j < 2 → 1 < j → rf0 228 j = none) j (by omega) (by omega)) h3) hr1 (fun r7 hr7 => ?_)
  clear hr1
  exact k r7 g1 hr7 hf1 q2 q3 q4 q5 q6
theorem x11_18 {w : GX} {d : Nat} {Q : Post} {rf rfi : RF} {g gi : GI} (p_228_4 : g 228 4 = 0) (p_228_14 : g 228 14 = 0) (p_228_16 : g 228 16 = 0) (p_228_18 : g 228 18 = 0) (p_228_31 : g 228 31 = 0) (hf : ∀ b, b < 228 → g b = gi b) (hr : Rin 228 (231) (fun b j => (b = 228 ∧ 2 ≤ j ∧ rf0 228 j ≠ none)) rfi rf) (k : ∀ rf' g', Rin 228 (231 + 1) (fun b j => (b = 228 ∧ 3 ≤ j ∧ rf0 228 j ≠ none)) rfi rf' → (∀ b, b < 228 → g' b = gi b) → g' 228 4 = 0 → g' 228 14 = 0 → g' 228 16 = 0 → g' 228 18 = 0 → g' 228 31 = 0 → Zj w (d + 1) 18 1268 mX11_init 27 [some (aR (some 228)), none] [] (kdn 232) rf' (231 + 1) g' Q) : Zj w (d + 1) 19 1508 mX11_init 18 [some (aR (some 228)), none] [] (kdn (231)) rf (231) g Q := by
  refine z_aload_n dX11_init_18 rfl rfl ?_
  refine z_sipush dX11_init_19 rfl ?_
  refine n_arr (ty := .int) (t := 12) (L := 240) (U := (fun b j => (b = 228 ∧ 2 ≤ j ∧ rf0 228 j ≠ none))) dX11_init_22 rfl (Or.inl ⟨rfl, rfl⟩) w_aI (by decide) (by decide) (by decide +kernel) (Nat.le_of_ble_eq_true rfl) (Nat.le_of_ble_eq_true rfl) (by decide +kernel) hr (fun r1 g1 hr1 f1 z1 => ?_)
  have hf1 : ∀ b, b < 228 → g1 b = gi b := fun b hb => (f1 b (by omega)).trans (hf b hb)
  have q2 : g1 228 4 = 0 := (congrFun (f1 228 (by decide)) 4).trans p_228_4
  have q3 : g1 228 14 = 0 := (congrFun (f1 228 (by decide)) 14).trans p_228_14
  have q4 : g1 228 16 = 0 := (congrFun (f1 228 (by decide)) 16).trans p_228_16
  have q5 : g1 228 18 = 0 := (congrFun (f1 228 (by decide)) 18).trans p_228_18
  have q6 : g1 228 31 = 0 := (congrFun (f1 228 (by decide)) 31).trans p_228_31
  clear f1 z1
  refine n_put (l := 0) (U := (fun b j => (b = 228 ∧ 2 ≤ j ∧ rf0 228 j ≠ none))) (U' := (fun b j => (b = 228 ∧ 3 ≤ j ∧ rf0 228 j ≠ none))) dX11_init_24 ff_X11_16 (by decide) rfl (by decide +kernel) (Nat.le_of_ble_eq_true rfl) (Nat.le_of_ble_eq_true rfl) (by decide +kernel) (fun c j h => by
    rcases h with ⟨h1, h2, h3⟩
    by_cases e : j = 2
    · exact Or.inr ⟨h1, e⟩
    · by_cases e2 : 3 ≤ j
      · exact Or.inl ⟨h1, e2, h3⟩
      · exact absurd ((by decide +kernel : ∀ j, j < 3 → 2 < j → rf0 228 j = none) j (by omega) (by omega)) h3) hr1 (fun r7 hr7 => ?_)
  clear hr1
  exact k r7 g1 hr7 hf1 q2 q3 q4 q5 q6
theorem x11_27 {w : GX} {d : Nat} {Q : Post} {rf rfi : RF} {g gi : GI} (p_228_4 : g 228 4 = 0) (p_228_14 : g 228 14 = 0) (p_228_16 : g 228 16 = 0) (p_228_18 : g 228 18 = 0) (p_228_31 : g 228 31 = 0) (hf : ∀ b, b < 228 → g b = gi b) (hr : Rin 228 (232) (fun b j => (b = 228 ∧ 3 ≤ j ∧ rf0 228 j ≠ none)) rfi rf) (k : ∀ rf' g', Rin 228 (232 + 1) (fun b j => (b = 228 ∧ 5 ≤ j ∧ rf0 228 j ≠ none)) rfi rf' → (∀ b, b < 228 → g' b = gi b) → g' 228 4 = 0 → g' 228 14 = 0 → g' 228 16 = 0 → g' 228 18 = 0 → g' 228 31 = 0 → Zj w (d + 1) 17 1208 mX11_init 35 [some (aR (some 228)), none] [] (kdn 233) rf' (232 + 1) g' Q) : Zj w (d + 1) 18 1268 mX11_init 27 [some (aR (some 228)), none] [] (kdn (232)) rf (232) g Q := by
  refine z_aload_n dX11_init_27 rfl rfl ?_
  refine z_bipush dX11_init_28 rfl ?_
  refine n_arr (ty := .int) (t := 12) (L := 60) (U := (fun b j => (b = 228 ∧ 3 ≤ j ∧ rf0 228 j ≠ none))) dX11_init_30 rfl (Or.inl ⟨rfl, rfl⟩) w_aI (by decide) (by decide) (by decide +kernel) (Nat.le_of_ble_eq_true rfl) (Nat.le_of_ble_eq_true rfl) (by decide +kernel) hr (fun r1 g1 hr1 f1 z1 => ?_)
  have hf1 : ∀ b, b < 228 → g1 b = gi b := fun b hb => (f1 b (by omega)).trans (hf b hb)
  have q2 : g1 228 4 = 0 := (congrFun (f1 228 (by decide)) 4).trans p_228_4
  have q3 : g1 228 14 = 0 := (congrFun (f1 228 (by decide)) 14).trans p_228_14
  have q4 : g1 228 16 = 0 := (congrFun (f1 228 (by decide)) 16).trans p_228_16
  have q5 : g1 228 18 = 0 := (congrFun (f1 228 (by decide)) 18).trans p_228_18
  have q6 : g1 228 31 = 0 := (congrFun (f1 228 (by decide)) 31).trans p_228_31
  clear f1 z1
  refine n_put (l := 0) (U := (fun b j => (b = 228 ∧ 3 ≤ j ∧ rf0 228 j ≠ none))) (U' := (fun b j => (b = 228 ∧ 5 ≤ j ∧ rf0 228 j ≠ none))) dX11_init_32 ff_X11_19 (by decide) rfl (by decide +kernel) (Nat.le_of_ble_eq_true rfl) (Nat.le_of_ble_eq_true rfl) (by decide +kernel) (fun c j h => by
    rcases h with ⟨h1, h2, h3⟩
    by_cases e : j = 3
    · exact Or.inr ⟨h1, e⟩
    · by_cases e2 : 5 ≤ j
      · exact Or.inl ⟨h1, e2, h3⟩
      · exact absurd ((by decide +kernel : ∀ j, j < 5 → 3 < j → rf0 228 j = none) j (by omega) (by omega)) h3) hr1 (fun r7 hr7 => ?_)
  clear hr1
  exact k r7 g1 hr7 hf1 q2 q3 q4 q5 q6
theorem x11_35 {w : GX} {d : Nat} {Q : Post} {rf rfi : RF} {g gi : GI} (p_228_4 : g 228 4 = 0) (p_228_14 : g 228 14 = 0) (p_228_16 : g 228 16 = 0) (p_228_18 : g 228 18 = 0) (p_228_31 : g 228 31 = 0) (hf : ∀ b, b < 228 → g b = gi b) (hr : Rin 228 (233) (fun b j => (b = 228 ∧ 5 ≤ j ∧ rf0 228 j ≠ none)) rfi rf) (k : ∀ rf' g', Rin 228 (233 + 1) (fun b j => (b = 228 ∧ 6 ≤ j ∧ rf0 228 j ≠ none)) rfi rf' → (∀ b, b < 228 → g' b = gi b) → g' 228 4 = 0 → g' 228 14 = 0 → g' 228 16 = 0 → g' 228 18 = 0 → g' 228 31 = 0 → Zj w (d + 1) 16 1112 mX11_init 43 [some (aR (some 228)), none] [] (kdn 234) rf' (233 + 1) g' Q) : Zj w (d + 1) 17 1208 mX11_init 35 [some (aR (some 228)), none] [] (kdn (233)) rf (233) g Q := by
  refine z_aload_n dX11_init_35 rfl rfl ?_
  refine z_bipush dX11_init_36 rfl ?_
  refine n_arr (ty := .int) (t := 12) (L := 96) (U := (fun b j => (b = 228 ∧ 5 ≤ j ∧ rf0 228 j ≠ none))) dX11_init_38 rfl (Or.inl ⟨rfl, rfl⟩) w_aI (by decide) (by decide) (by decide +kernel) (Nat.le_of_ble_eq_true rfl) (Nat.le_of_ble_eq_true rfl) (by decide +kernel) hr (fun r1 g1 hr1 f1 z1 => ?_)
  have hf1 : ∀ b, b < 228 → g1 b = gi b := fun b hb => (f1 b (by omega)).trans (hf b hb)
  have q2 : g1 228 4 = 0 := (congrFun (f1 228 (by decide)) 4).trans p_228_4
  have q3 : g1 228 14 = 0 := (congrFun (f1 228 (by decide)) 14).trans p_228_14
  have q4 : g1 228 16 = 0 := (congrFun (f1 228 (by decide)) 16).trans p_228_16
  have q5 : g1 228 18 = 0 := (congrFun (f1 228 (by decide)) 18).trans p_228_18
  have q6 : g1 228 31 = 0 := (congrFun (f1 228 (by decide)) 31).trans p_228_31
  clear f1 z1
  refine n_put (l := 0) (U := (fun b j => (b = 228 ∧ 5 ≤ j ∧ rf0 228 j ≠ none))) (U' := (fun b j => (b = 228 ∧ 6 ≤ j ∧ rf0 228 j ≠ none))) dX11_init_40 ff_X11_22 (by decide) rfl (by decide +kernel) (Nat.le_of_ble_eq_true rfl) (Nat.le_of_ble_eq_true rfl) (by decide +kernel) (fun c j h => by
    rcases h with ⟨h1, h2, h3⟩
    by_cases e : j = 5
    · exact Or.inr ⟨h1, e⟩
    · by_cases e2 : 6 ≤ j
      · exact Or.inl ⟨h1, e2, h3⟩
      · exact absurd ((by decide +kernel : ∀ j, j < 6 → 5 < j → rf0 228 j = none) j (by omega) (by omega)) h3) hr1 (fun r7 hr7 => ?_)
  clear hr1
  exact k r7 g1 hr7 hf1 q2 q3 q4 q5 q6
theorem x11_43 {w : GX} {d : Nat} {Q : Post} {rf rfi : RF} {g gi : GI} (p_228_4 : g 228 4 = 0) (p_228_14 : g 228 14 = 0) (p_228_16 : g 228 16 = 0) (p_228_18 : g 228 18 = 0) (p_228_31 : g 228 31 = 0) (hf : ∀ b, b < 228 → g b = gi b) (hr : Rin 228 (234) (fun b j => (b = 228 ∧ 6 ≤ j ∧ rf0 228 j ≠ none)) rfi rf) (k : ∀ rf' g', Rin 228 (234 + 1) (fun b j => (b = 228 ∧ 8 ≤ j ∧ rf0 228 j ≠ none)) rfi rf' → (∀ b, b < 228 → g' b = gi b) → g' 228 4 = 0 → g' 228 14 = 0 → g' 228 16 = 0 → g' 228 18 = 0 → g' 228 31 = 0 → g' 234 0 = 0 → g' 234 1 = 0 → Zj w (d + 1) 15 1110 mX11_init 50 [some (aR (some 228)), none] [] (kdn 235) rf' (234 + 1) g' Q) : Zj w (d + 1) 16 1112 mX11_init 43 [some (aR (some 228)), none] [] (kdn (234)) rf (234) g Q := by
  refine z_aload_n dX11_init_43 rfl rfl ?_
  refine z_iconst dX11_init_44 ?_
  refine n_arr (ty := .int) (t := 12) (L := 2) (U := (fun b j => (b = 228 ∧ 6 ≤ j ∧ rf0 228 j ≠ none))) dX11_init_45 rfl (Or.inl ⟨rfl, rfl⟩) w_aI (by decide) (by decide) (by decide +kernel) (Nat.le_of_ble_eq_true rfl) (Nat.le_of_ble_eq_true rfl) (by decide +kernel) hr (fun r1 g1 hr1 f1 z1 => ?_)
  have hf1 : ∀ b, b < 228 → g1 b = gi b := fun b hb => (f1 b (by omega)).trans (hf b hb)
  have q2 : g1 228 4 = 0 := (congrFun (f1 228 (by decide)) 4).trans p_228_4
  have q3 : g1 228 14 = 0 := (congrFun (f1 228 (by decide)) 14).trans p_228_14
  have q4 : g1 228 16 = 0 := (congrFun (f1 228 (by decide)) 16).trans p_228_16
  have q5 : g1 228 18 = 0 := (congrFun (f1 228 (by decide)) 18).trans p_228_18
  have q6 : g1 228 31 = 0 := (congrFun (f1 228 (by decide)) 31).trans p_228_31
  have q7 : g1 (234) 0 = 0 := z1 0
  have q8 : g1 (234) 1 = 0 := z1 1
  clear f1 z1
  refine n_put (l := 0) (U := (fun b j => (b = 228 ∧ 6 ≤ j ∧ rf0 228 j ≠ none))) (U' := (fun b j => (b = 228 ∧ 8 ≤ j ∧ rf0 228 j ≠ none))) dX11_init_47 ff_X11_25 (by decide) rfl (by decide +kernel) (Nat.le_of_ble_eq_true rfl) (Nat.le_of_ble_eq_true rfl) (by decide +kernel) (fun c j h => by
    rcases h with ⟨h1, h2, h3⟩
    by_cases e : j = 6
    · exact Or.inr ⟨h1, e⟩
    · by_cases e2 : 8 ≤ j
      · exact Or.inl ⟨h1, e2, h3⟩
      · exact absurd ((by decide +kernel : ∀ j, j < 8 → 6 < j → rf0 228 j = none) j (by omega) (by omega)) h3) hr1 (fun r9 hr9 => ?_)
  clear hr1
  exact k r9 g1 hr9 hf1 q2 q3 q4 q5 q6 q7 q8
theorem x11_50 {w : GX} {d : Nat} {Q : Post} {rf rfi : RF} {g gi : GI} (p_228_4 : g 228 4 = 0) (p_228_14 : g 228 14 = 0) (p_228_16 : g 228 16 = 0) (p_228_18 : g 228 18 = 0) (p_228_31 : g 228 31 = 0) (p_234_0 : g 234 0 = 0) (p_234_1 : g 234 1 = 0) (hf : ∀ b, b < 228 → g b = gi b) (hr : Rin 228 (235) (fun b j => (b = 228 ∧ 8 ≤ j ∧ rf0 228 j ≠ none)) rfi rf) (k : ∀ rf' g', Rin 228 (235 + 1) (fun b j => (b = 228 ∧ 9 ≤ j ∧ rf0 228 j ≠ none)) rfi rf' → (∀ b, b < 228 → g' b = gi b) → g' 228 4 = 0 → g' 228 14 = 0 → g' 228 16 = 0 → g' 228 18 = 0 → g' 228 31 = 0 → g' 234 0 = 0 → g' 234 1 = 0 → Zj w (d + 1) 14 1090 mX11_init 58 [some (aR (some 228)), none] [] (kdn 236) rf' (235 + 1) g' Q) : Zj w (d + 1) 15 1110 mX11_init 50 [some (aR (some 228)), none] [] (kdn (235)) rf (235) g Q := by
  refine z_aload_n dX11_init_50 rfl rfl ?_
  refine z_bipush dX11_init_51 rfl ?_
  refine n_arr (ty := .int) (t := 12) (L := 20) (U := (fun b j => (b = 228 ∧ 8 ≤ j ∧ rf0 228 j ≠ none))) dX11_init_53 rfl (Or.inl ⟨rfl, rfl⟩) w_aI (by decide) (by decide) (by decide +kernel) (Nat.le_of_ble_eq_true rfl) (Nat.le_of_ble_eq_true rfl) (by decide +kernel) hr (fun r1 g1 hr1 f1 z1 => ?_)
  have hf1 : ∀ b, b < 228 → g1 b = gi b := fun b hb => (f1 b (by omega)).trans (hf b hb)
  have q2 : g1 228 4 = 0 := (congrFun (f1 228 (by decide)) 4).trans p_228_4
  have q3 : g1 228 14 = 0 := (congrFun (f1 228 (by decide)) 14).trans p_228_14
  have q4 : g1 228 16 = 0 := (congrFun (f1 228 (by decide)) 16).trans p_228_16
  have q5 : g1 228 18 = 0 := (congrFun (f1 228 (by decide)) 18).trans p_228_18
  have q6 : g1 228 31 = 0 := (congrFun (f1 228 (by decide)) 31).trans p_228_31
  have q7 : g1 234 0 = 0 := (congrFun (f1 234 (by decide)) 0).trans p_234_0
  have q8 : g1 234 1 = 0 := (congrFun (f1 234 (by decide)) 1).trans p_234_1
  clear f1 z1
  refine n_put (l := 0) (U := (fun b j => (b = 228 ∧ 8 ≤ j ∧ rf0 228 j ≠ none))) (U' := (fun b j => (b = 228 ∧ 9 ≤ j ∧ rf0 228 j ≠ none))) dX11_init_55 ff_X11_28 (by decide) rfl (by decide +kernel) (Nat.le_of_ble_eq_true rfl) (Nat.le_of_ble_eq_true rfl) (by decide +kernel) (fun c j h => by
    rcases h with ⟨h1, h2, h3⟩
    by_cases e : j = 8
    · exact Or.inr ⟨h1, e⟩
    · by_cases e2 : 9 ≤ j
      · exact Or.inl ⟨h1, e2, h3⟩
      · exact absurd ((by decide +kernel : ∀ j, j < 9 → 8 < j → rf0 228 j = none) j (by omega) (by omega)) h3) hr1 (fun r9 hr9 => ?_)
  clear hr1
  exact k r9 g1 hr9 hf1 q2 q3 q4 q5 q6 q7 q8
theorem x11_58 {w : GX} {d : Nat} {Q : Post} {rf rfi : RF} {g gi : GI} (p_228_4 : g 228 4 = 0) (p_228_14 : g 228 14 = 0) (p_228_16 : g 228 16 = 0) (p_228_18 : g 228 18 = 0) (p_228_31 : g 228 31 = 0) (p_234_0 : g 234 0 = 0) (p_234_1 : g 234 1 = 0) (hf : ∀ b, b < 228 → g b = gi b) (hr : Rin 228 (236) (fun b j => (b = 228 ∧ 9 ≤ j ∧ rf0 228 j ≠ none)) rfi rf) (k : ∀ rf' g', Rin 228 (236 + 1) (fun b j => (b = 228 ∧ 11 ≤ j ∧ rf0 228 j ≠ none)) rfi rf' → (∀ b, b < 228 → g' b = gi b) → g' 228 4 = 0 → g' 228 14 = 0 → g' 228 16 = 0 → g' 228 18 = 0 → g' 228 31 = 0 → g' 234 0 = 0 → g' 234 1 = 0 → Zj w (d + 1) 13 1070 mX11_init 66 [some (aR (some 228)), none] [] (kdn 237) rf' (236 + 1) g' Q) : Zj w (d + 1) 14 1090 mX11_init 58 [some (aR (some 228)), none] [] (kdn (236)) rf (236) g Q := by
  refine z_aload_n dX11_init_58 rfl rfl ?_
  refine z_bipush dX11_init_59 rfl ?_
  refine n_arr (ty := .int) (t := 12) (L := 20) (U := (fun b j => (b = 228 ∧ 9 ≤ j ∧ rf0 228 j ≠ none))) dX11_init_61 rfl (Or.inl ⟨rfl, rfl⟩) w_aI (by decide) (by decide) (by decide +kernel) (Nat.le_of_ble_eq_true rfl) (Nat.le_of_ble_eq_true rfl) (by decide +kernel) hr (fun r1 g1 hr1 f1 z1 => ?_)
  have hf1 : ∀ b, b < 228 → g1 b = gi b := fun b hb => (f1 b (by omega)).trans (hf b hb)
  have q2 : g1 228 4 = 0 := (congrFun (f1 228 (by decide)) 4).trans p_228_4
  have q3 : g1 228 14 = 0 := (congrFun (f1 228 (by decide)) 14).trans p_228_14
  have q4 : g1 228 16 = 0 := (congrFun (f1 228 (by decide)) 16).trans p_228_16
  have q5 : g1 228 18 = 0 := (congrFun (f1 228 (by decide)) 18).trans p_228_18
  have q6 : g1 228 31 = 0 := (congrFun (f1 228 (by decide)) 31).trans p_228_31
  have q7 : g1 234 0 = 0 := (congrFun (f1 234 (by decide)) 0).trans p_234_0
  have q8 : g1 234 1 = 0 := (congrFun (f1 234 (by decide)) 1).trans p_234_1
  clear f1 z1
  refine n_put (l := 0) (U := (fun b j => (b = 228 ∧ 9 ≤ j ∧ rf0 228 j ≠ none))) (U' := (fun b j => (b = 228 ∧ 11 ≤ j ∧ rf0 228 j ≠ none))) dX11_init_63 ff_X11_31 (by decide) rfl (by decide +kernel) (Nat.le_of_ble_eq_true rfl) (Nat.le_of_ble_eq_true rfl) (by decide +kernel) (fun c j h => by
    rcases h with ⟨h1, h2, h3⟩
    by_cases e : j = 9
    · exact Or.inr ⟨h1, e⟩
    · by_cases e2 : 11 ≤ j
      · exact Or.inl ⟨h1, e2, h3⟩
      · exact absurd ((by decide +kernel : ∀ j, j < 11 → 9 < j → rf0 228 j = none) j (by omega) (by omega)) h3) hr1 (fun r9 hr9 => ?_)
  clear hr1
  exact k r9 g1 hr9 hf1 q2 q3 q4 q5 q6 q7 q8
theorem x11_66 {w : GX} {d : Nat} {Q : Post} {rf rfi : RF} {g gi : GI} (p_228_4 : g 228 4 = 0) (p_228_14 : g 228 14 = 0) (p_228_16 : g 228 16 = 0) (p_228_18 : g 228 18 = 0) (p_228_31 : g 228 31 = 0) (p_234_0 : g 234 0 = 0) (p_234_1 : g 234 1 = 0) (hf : ∀ b, b < 228 → g b = gi b) (hr : Rin 228 (237) (fun b j => (b = 228 ∧ 11 ≤ j ∧ rf0 228 j ≠ none)) rfi rf) (k : ∀ rf' g', Rin 228 (237 + 1) (fun b j => (b = 228 ∧ 15 ≤ j ∧ rf0 228 j ≠ none)) rfi rf' → (∀ b, b < 228 → g' b = gi b) → g' 228 4 = 0 → g' 228 14 = 0 → g' 228 16 = 0 → g' 228 18 = 0 → g' 228 31 = 0 → g' 234 0 = 0 → g' 234 1 = 0 → Zj w (d + 1) 12 1038 mX11_init 74 [some (aR (some 228)), none] [] (kdn 238) rf' (237 + 1) g' Q) : Zj w (d + 1) 13 1070 mX11_init 66 [some (aR (some 228)), none] [] (kdn (237)) rf (237) g Q := by
  refine z_aload_n dX11_init_66 rfl rfl ?_
  refine z_bipush dX11_init_67 rfl ?_
  refine n_arr (ty := .int) (t := 12) (L := 32) (U := (fun b j => (b = 228 ∧ 11 ≤ j ∧ rf0 228 j ≠ none))) dX11_init_69 rfl (Or.inl ⟨rfl, rfl⟩) w_aI (by decide) (by decide) (by decide +kernel) (Nat.le_of_ble_eq_true rfl) (Nat.le_of_ble_eq_true rfl) (by decide +kernel) hr (fun r1 g1 hr1 f1 z1 => ?_)
  have hf1 : ∀ b, b < 228 → g1 b = gi b := fun b hb => (f1 b (by omega)).trans (hf b hb)
  have q2 : g1 228 4 = 0 := (congrFun (f1 228 (by decide)) 4).trans p_228_4
  have q3 : g1 228 14 = 0 := (congrFun (f1 228 (by decide)) 14).trans p_228_14
  have q4 : g1 228 16 = 0 := (congrFun (f1 228 (by decide)) 16).trans p_228_16
  have q5 : g1 228 18 = 0 := (congrFun (f1 228 (by decide)) 18).trans p_228_18
  have q6 : g1 228 31 = 0 := (congrFun (f1 228 (by decide)) 31).trans p_228_31
  have q7 : g1 234 0 = 0 := (congrFun (f1 234 (by decide)) 0).trans p_234_0
  have q8 : g1 234 1 = 0 := (congrFun (f1 234 (by decide)) 1).trans p_234_1
  clear f1 z1
  refine n_put (l := 0) (U := (fun b j => (b = 228 ∧ 11 ≤ j ∧ rf0 228 j ≠ none))) (U' := (fun b j => (b = 228 ∧ 15 ≤ j ∧ rf0 228 j ≠ none))) dX11_init_71 ff_X11_34 (by decide) rfl (by decide +kernel) (Nat.le_of_ble_eq_true rfl) (Nat.le_of_ble_eq_true rfl) (by decide +kernel) (fun c j h => by
    rcases h with ⟨h1, h2, h3⟩
    by_cases e : j = 11
    · exact Or.inr ⟨h1, e⟩
    · by_cases e2 : 15 ≤ j
      · exact Or.inl ⟨h1, e2, h3⟩
      · exact absurd ((by decide +kernel : ∀ j, j < 15 → 11 < j → rf0 228 j = none) j (by omega) (by omega)) h3) hr1 (fun r9 hr9 => ?_)
  clear hr1
  exact k r9 g1 hr9 hf1 q2 q3 q4 q5 q6 q7 q8
theorem x11_74 {w : GX} {d : Nat} {Q : Post} {rf rfi : RF} {g gi : GI} (p_228_4 : g 228 4 = 0) (p_228_14 : g 228 14 = 0) (p_228_16 : g 228 16 = 0) (p_228_18 : g 228 18 = 0) (p_228_31 : g 228 31 = 0) (p_234_0 : g 234 0 = 0) (p_234_1 : g 234 1 = 0) (hf : ∀ b, b < 228 → g b = gi b) (hr : Rin 228 (238) (fun b j => (b = 228 ∧ 15 ≤ j ∧ rf0 228 j ≠ none)) rfi rf) (k : ∀ rf' g', Rin 228 (238 + 1) (fun b j => (b = 228 ∧ 17 ≤ j ∧ rf0 228 j ≠ none)) rfi rf' → (∀ b, b < 228 → g' b = gi b) → g' 228 4 = 0 → g' 228 14 = 0 → g' 228 16 = 0 → g' 228 18 = 0 → g' 228 31 = 0 → g' 234 0 = 0 → g' 234 1 = 0 → Zj w (d + 1) 11 966 mX11_init 82 [some (aR (some 228)), none] [] (kdn 239) rf' (238 + 1) g' Q) : Zj w (d + 1) 12 1038 mX11_init 74 [some (aR (some 228)), none] [] (kdn (238)) rf (238) g Q := by
  refine z_aload_n dX11_init_74 rfl rfl ?_
  refine z_bipush dX11_init_75 rfl ?_
  refine n_arr (ty := .int) (t := 12) (L := 72) (U := (fun b j => (b = 228 ∧ 15 ≤ j ∧ rf0 228 j ≠ none))) dX11_init_77 rfl (Or.inl ⟨rfl, rfl⟩) w_aI (by decide) (by decide) (by decide +kernel) (Nat.le_of_ble_eq_true rfl) (Nat.le_of_ble_eq_true rfl) (by decide +kernel) hr (fun r1 g1 hr1 f1 z1 => ?_)
  have hf1 : ∀ b, b < 228 → g1 b = gi b := fun b hb => (f1 b (by omega)).trans (hf b hb)
  have q2 : g1 228 4 = 0 := (congrFun (f1 228 (by decide)) 4).trans p_228_4
  have q3 : g1 228 14 = 0 := (congrFun (f1 228 (by decide)) 14).trans p_228_14
  have q4 : g1 228 16 = 0 := (congrFun (f1 228 (by decide)) 16).trans p_228_16
  have q5 : g1 228 18 = 0 := (congrFun (f1 228 (by decide)) 18).trans p_228_18
  have q6 : g1 228 31 = 0 := (congrFun (f1 228 (by decide)) 31).trans p_228_31
  have q7 : g1 234 0 = 0 := (congrFun (f1 234 (by decide)) 0).trans p_234_0
  have q8 : g1 234 1 = 0 := (congrFun (f1 234 (by decide)) 1).trans p_234_1
  clear f1 z1
  refine n_put (l := 0) (U := (fun b j => (b = 228 ∧ 15 ≤ j ∧ rf0 228 j ≠ none))) (U' := (fun b j => (b = 228 ∧ 17 ≤ j ∧ rf0 228 j ≠ none))) dX11_init_79 ff_X11_37 (by decide) rfl (by decide +kernel) (Nat.le_of_ble_eq_true rfl) (Nat.le_of_ble_eq_true rfl) (by decide +kernel) (fun c j h => by
    rcases h with ⟨h1, h2, h3⟩
    by_cases e : j = 15
    · exact Or.inr ⟨h1, e⟩
    · by_cases e2 : 17 ≤ j
      · exact Or.inl ⟨h1, e2, h3⟩
      · exact absurd ((by decide +kernel : ∀ j, j < 17 → 15 < j → rf0 228 j = none) j (by omega) (by omega)) h3) hr1 (fun r9 hr9 => ?_)
  clear hr1
  exact k r9 g1 hr9 hf1 q2 q3 q4 q5 q6 q7 q8
theorem x11_82 {w : GX} {d : Nat} {Q : Post} {rf rfi : RF} {g gi : GI} (p_228_4 : g 228 4 = 0) (p_228_14 : g 228 14 = 0) (p_228_16 : g 228 16 = 0) (p_228_18 : g 228 18 = 0) (p_228_31 : g 228 31 = 0) (p_234_0 : g 234 0 = 0) (p_234_1 : g 234 1 = 0) (hf : ∀ b, b < 228 → g b = gi b) (hr : Rin 228 (239) (fun b j => (b = 228 ∧ 17 ≤ j ∧ rf0 228 j ≠ none)) rfi rf) (k : ∀ rf' g', Rin 228 (239 + 1) (fun b j => (b = 228 ∧ 19 ≤ j ∧ rf0 228 j ≠ none)) rfi rf' → (∀ b, b < 228 → g' b = gi b) → g' 228 4 = 0 → g' 228 14 = 0 → g' 228 16 = 0 → g' 228 18 = 0 → g' 228 31 = 0 → g' 234 0 = 0 → g' 234 1 = 0 → Zj w (d + 1) 10 946 mX11_init 90 [some (aR (some 228)), none] [] (kdn 240) rf' (239 + 1) g' Q) : Zj w (d + 1) 11 966 mX11_init 82 [some (aR (some 228)), none] [] (kdn (239)) rf (239) g Q := by
  refine z_aload_n dX11_init_82 rfl rfl ?_
  refine z_bipush dX11_init_83 rfl ?_
  refine n_arr (ty := .int) (t := 12) (L := 20) (U := (fun b j => (b = 228 ∧ 17 ≤ j ∧ rf0 228 j ≠ none))) dX11_init_85 rfl (Or.inl ⟨rfl, rfl⟩) w_aI (by decide) (by decide) (by decide +kernel) (Nat.le_of_ble_eq_true rfl) (Nat.le_of_ble_eq_true rfl) (by decide +kernel) hr (fun r1 g1 hr1 f1 z1 => ?_)
  have hf1 : ∀ b, b < 228 → g1 b = gi b := fun b hb => (f1 b (by omega)).trans (hf b hb)
  have q2 : g1 228 4 = 0 := (congrFun (f1 228 (by decide)) 4).trans p_228_4
  have q3 : g1 228 14 = 0 := (congrFun (f1 228 (by decide)) 14).trans p_228_14
  have q4 : g1 228 16 = 0 := (congrFun (f1 228 (by decide)) 16).trans p_228_16
  have q5 : g1 228 18 = 0 := (congrFun (f1 228 (by decide)) 18).trans p_228_18
  have q6 : g1 228 31 = 0 := (congrFun (f1 228 (by decide)) 31).trans p_228_31
  have q7 : g1 234 0 = 0 := (congrFun (f1 234 (by decide)) 0).trans p_234_0
  have q8 : g1 234 1 = 0 := (congrFun (f1 234 (by decide)) 1).trans p_234_1
  clear f1 z1
  refine n_put (l := 0) (U := (fun b j => (b = 228 ∧ 17 ≤ j ∧ rf0 228 j ≠ none))) (U' := (fun b j => (b = 228 ∧ 19 ≤ j ∧ rf0 228 j ≠ none))) dX11_init_87 ff_X11_40 (by decide) rfl (by decide +kernel) (Nat.le_of_ble_eq_true rfl) (Nat.le_of_ble_eq_true rfl) (by decide +kernel) (fun c j h => by
    rcases h with ⟨h1, h2, h3⟩
    by_cases e : j = 17
    · exact Or.inr ⟨h1, e⟩
    · by_cases e2 : 19 ≤ j
      · exact Or.inl ⟨h1, e2, h3⟩
      · exact absurd ((by decide +kernel : ∀ j, j < 19 → 17 < j → rf0 228 j = none) j (by omega) (by omega)) h3) hr1 (fun r9 hr9 => ?_)
  clear hr1
  exact k r9 g1 hr9 hf1 q2 q3 q4 q5 q6 q7 q8
theorem x11_90 {w : GX} {d : Nat} {Q : Post} {rf rfi : RF} {g gi : GI} (p_228_4 : g 228 4 = 0) (p_228_14 : g 228 14 = 0) (p_228_16 : g 228 16 = 0) (p_228_18 : g 228 18 = 0) (p_228_31 : g 228 31 = 0) (p_234_0 : g 234 0 = 0) (p_234_1 : g 234 1 = 0) (hf : ∀ b, b < 228 → g b = gi b) (hr : Rin 228 (240) (fun b j => (b = 228 ∧ 19 ≤ j ∧ rf0 228 j ≠ none)) rfi rf) (k : ∀ rf' g', Rin 228 (240 + 1) (fun b j => (b = 228 ∧ 20 ≤ j ∧ rf0 228 j ≠ none)) rfi rf' → (∀ b, b < 228 → g' b = gi b) → g' 228 4 = 0 → g' 228 14 = 0 → g' 228 16 = 0 → g' 228 18 = 0 → g' 228 31 = 0 → g' 234 0 = 0 → g' 234 1 = 0 → Zj w (d + 1) 9 940 mX11_init 98 [some (aR (some 228)), none] [] (kdn 241) rf' (240 + 1) g' Q) : Zj w (d + 1) 10 946 mX11_init 90 [some (aR (some 228)), none] [] (kdn (240)) rf (240) g Q := by
  refine z_aload_n dX11_init_90 rfl rfl ?_
  refine z_bipush dX11_init_91 rfl ?_
  refine n_arr (ty := .int) (t := 12) (L := 6) (U := (fun b j => (b = 228 ∧ 19 ≤ j ∧ rf0 228 j ≠ none))) dX11_init_93 rfl (Or.inl ⟨rfl, rfl⟩) w_aI (by decide) (by decide) (by decide +kernel) (Nat.le_of_ble_eq_true rfl) (Nat.le_of_ble_eq_true rfl) (by decide +kernel) hr (fun r1 g1 hr1 f1 z1 => ?_)
  have hf1 : ∀ b, b < 228 → g1 b = gi b := fun b hb => (f1 b (by omega)).trans (hf b hb)
  have q2 : g1 228 4 = 0 := (congrFun (f1 228 (by decide)) 4).trans p_228_4
  have q3 : g1 228 14 = 0 := (congrFun (f1 228 (by decide)) 14).trans p_228_14
  have q4 : g1 228 16 = 0 := (congrFun (f1 228 (by decide)) 16).trans p_228_16
  have q5 : g1 228 18 = 0 := (congrFun (f1 228 (by decide)) 18).trans p_228_18
  have q6 : g1 228 31 = 0 := (congrFun (f1 228 (by decide)) 31).trans p_228_31
  have q7 : g1 234 0 = 0 := (congrFun (f1 234 (by decide)) 0).trans p_234_0
  have q8 : g1 234 1 = 0 := (congrFun (f1 234 (by decide)) 1).trans p_234_1
  clear f1 z1
  refine n_put (l := 0) (U := (fun b j => (b = 228 ∧ 19 ≤ j ∧ rf0 228 j ≠ none))) (U' := (fun b j => (b = 228 ∧ 20 ≤ j ∧ rf0 228 j ≠ none))) dX11_init_95 ff_X11_43 (by decide) rfl (by decide +kernel) (Nat.le_of_ble_eq_true rfl) (Nat.le_of_ble_eq_true rfl) (by decide +kernel) (fun c j h => by
    rcases h with ⟨h1, h2, h3⟩
    by_cases e : j = 19
    · exact Or.inr ⟨h1, e⟩
    · by_cases e2 : 20 ≤ j
      · exact Or.inl ⟨h1, e2, h3⟩
      · exact absurd ((by decide +kernel : ∀ j, j < 20 → 19 < j → rf0 228 j = none) j (by omega) (by omega)) h3) hr1 (fun r9 hr9 => ?_)
  clear hr1
  exact k r9 g1 hr9 hf1 q2 q3 q4 q5 q6 q7 q8
theorem x11_98 {w : GX} {d : Nat} {Q : Post} {rf rfi : RF} {g gi : GI} (p_228_4 : g 228 4 = 0) (p_228_14 : g 228 14 = 0) (p_228_16 : g 228 16 = 0) (p_228_18 : g 228 18 = 0) (p_228_31 : g 228 31 = 0) (p_234_0 : g 234 0 = 0) (p_234_1 : g 234 1 = 0) (hf : ∀ b, b < 228 → g b = gi b) (hr : Rin 228 (241) (fun b j => (b = 228 ∧ 20 ≤ j ∧ rf0 228 j ≠ none)) rfi rf) (k : ∀ rf' g', Rin 228 (241 + 1) (fun b j => (b = 228 ∧ 21 ≤ j ∧ rf0 228 j ≠ none)) rfi rf' → (∀ b, b < 228 → g' b = gi b) → g' 228 4 = 0 → g' 228 14 = 0 → g' 228 16 = 0 → g' 228 18 = 0 → g' 228 31 = 0 → g' 234 0 = 0 → g' 234 1 = 0 → Zj w (d + 1) 8 380 mX11_init 107 [some (aR (some 228)), none] [] (kdn 242) rf' (241 + 1) g' Q) : Zj w (d + 1) 9 940 mX11_init 98 [some (aR (some 228)), none] [] (kdn (241)) rf (241) g Q := by
  refine z_aload_n dX11_init_98 rfl rfl ?_
  refine z_sipush dX11_init_99 rfl ?_
  refine n_arr (ty := .int) (t := 12) (L := 560) (U := (fun b j => (b = 228 ∧ 20 ≤ j ∧ rf0 228 j ≠ none))) dX11_init_102 rfl (Or.inl ⟨rfl, rfl⟩) w_aI (by decide) (by decide) (by decide +kernel) (Nat.le_of_ble_eq_true rfl) (Nat.le_of_ble_eq_true rfl) (by decide +kernel) hr (fun r1 g1 hr1 f1 z1 => ?_)
  have hf1 : ∀ b, b < 228 → g1 b = gi b := fun b hb => (f1 b (by omega)).trans (hf b hb)
  have q2 : g1 228 4 = 0 := (congrFun (f1 228 (by decide)) 4).trans p_228_4
  have q3 : g1 228 14 = 0 := (congrFun (f1 228 (by decide)) 14).trans p_228_14
  have q4 : g1 228 16 = 0 := (congrFun (f1 228 (by decide)) 16).trans p_228_16
  have q5 : g1 228 18 = 0 := (congrFun (f1 228 (by decide)) 18).trans p_228_18
  have q6 : g1 228 31 = 0 := (congrFun (f1 228 (by decide)) 31).trans p_228_31
  have q7 : g1 234 0 = 0 := (congrFun (f1 234 (by decide)) 0).trans p_234_0
  have q8 : g1 234 1 = 0 := (congrFun (f1 234 (by decide)) 1).trans p_234_1
  clear f1 z1
  refine n_put (l := 0) (U := (fun b j => (b = 228 ∧ 20 ≤ j ∧ rf0 228 j ≠ none))) (U' := (fun b j => (b = 228 ∧ 21 ≤ j ∧ rf0 228 j ≠ none))) dX11_init_104 ff_X11_46 (by decide) rfl (by decide +kernel) (Nat.le_of_ble_eq_true rfl) (Nat.le_of_ble_eq_true rfl) (by decide +kernel) (fun c j h => by
    rcases h with ⟨h1, h2, h3⟩
    by_cases e : j = 20
    · exact Or.inr ⟨h1, e⟩
    · by_cases e2 : 21 ≤ j
      · exact Or.inl ⟨h1, e2, h3⟩
      · exact absurd ((by decide +kernel : ∀ j, j < 21 → 20 < j → rf0 228 j = none) j (by omega) (by omega)) h3) hr1 (fun r9 hr9 => ?_)
  clear hr1
  exact k r9 g1 hr9 hf1 q2 q3 q4 q5 q6 q7 q8
theorem x11_107 {w : GX} {d : Nat} {Q : Post} {rf rfi : RF} {g gi : GI} (p_228_4 : g 228 4 = 0) (p_228_14 : g 228 14 = 0) (p_228_16 : g 228 16 = 0) (p_228_18 : g 228 18 = 0) (p_228_31 : g 228 31 = 0) (p_234_0 : g 234 0 = 0) (p_234_1 : g 234 1 = 0) (hf : ∀ b, b < 228 → g b = gi b) (hr : Rin 228 (242) (fun b j => (b = 228 ∧ 21 ≤ j ∧ rf0 228 j ≠ none)) rfi rf) (k : ∀ rf' g', Rin 228 (242 + 1) (fun b j => (b = 228 ∧ 22 ≤ j ∧ rf0 228 j ≠ none)) rfi rf' → (∀ b, b < 228 → g' b = gi b) → g' 228 4 = 0 → g' 228 14 = 0 → g' 228 16 = 0 → g' 228 18 = 0 → g' 228 31 = 0 → g' 234 0 = 0 → g' 234 1 = 0 → Zj w (d + 1) 7 360 mX11_init 115 [some (aR (some 228)), none] [] (kdn 243) rf' (242 + 1) g' Q) : Zj w (d + 1) 8 380 mX11_init 107 [some (aR (some 228)), none] [] (kdn (242)) rf (242) g Q := by
  refine z_aload_n dX11_init_107 rfl rfl ?_
  refine z_bipush dX11_init_108 rfl ?_
  refine n_arr (ty := .int) (t := 12) (L := 20) (U := (fun b j => (b = 228 ∧ 21 ≤ j ∧ rf0 228 j ≠ none))) dX11_init_110 rfl (Or.inl ⟨rfl, rfl⟩) w_aI (by decide) (by decide) (by decide +kernel) (Nat.le_of_ble_eq_true rfl) (Nat.le_of_ble_eq_true rfl) (by decide +kernel) hr (fun r1 g1 hr1 f1 z1 => ?_)
  have hf1 : ∀ b, b < 228 → g1 b = gi b := fun b hb => (f1 b (by omega)).trans (hf b hb)
  have q2 : g1 228 4 = 0 := (congrFun (f1 228 (by decide)) 4).trans p_228_4
  have q3 : g1 228 14 = 0 := (congrFun (f1 228 (by decide)) 14).trans p_228_14
  have q4 : g1 228 16 = 0 := (congrFun (f1 228 (by decide)) 16).trans p_228_16
  have q5 : g1 228 18 = 0 := (congrFun (f1 228 (by decide)) 18).trans p_228_18
  have q6 : g1 228 31 = 0 := (congrFun (f1 228 (by decide)) 31).trans p_228_31
  have q7 : g1 234 0 = 0 := (congrFun (f1 234 (by decide)) 0).trans p_234_0
  have q8 : g1 234 1 = 0 := (congrFun (f1 234 (by decide)) 1).trans p_234_1
  clear f1 z1
  refine n_put (l := 0) (U := (fun b j => (b = 228 ∧ 21 ≤ j ∧ rf0 228 j ≠ none))) (U' := (fun b j => (b = 228 ∧ 22 ≤ j ∧ rf0 228 j ≠ none))) dX11_init_112 ff_X11_49 (by decide) rfl (by decide +kernel) (Nat.le_of_ble_eq_true rfl) (Nat.le_of_ble_eq_true rfl) (by decide +kernel) (fun c j h => by
    rcases h with ⟨h1, h2, h3⟩
    by_cases e : j = 21
    · exact Or.inr ⟨h1, e⟩
    · by_cases e2 : 22 ≤ j
      · exact Or.inl ⟨h1, e2, h3⟩
      · exact absurd ((by decide +kernel : ∀ j, j < 22 → 21 < j → rf0 228 j = none) j (by omega) (by omega)) h3) hr1 (fun r9 hr9 => ?_)
  clear hr1
  exact k r9 g1 hr9 hf1 q2 q3 q4 q5 q6 q7 q8
theorem x11_115 {w : GX} {d : Nat} {Q : Post} {rf rfi : RF} {g gi : GI} (p_228_4 : g 228 4 = 0) (p_228_14 : g 228 14 = 0) (p_228_16 : g 228 16 = 0) (p_228_18 : g 228 18 = 0) (p_228_31 : g 228 31 = 0) (p_234_0 : g 234 0 = 0) (p_234_1 : g 234 1 = 0) (hf : ∀ b, b < 228 → g b = gi b) (hr : Rin 228 (243) (fun b j => (b = 228 ∧ 22 ≤ j ∧ rf0 228 j ≠ none)) rfi rf) (k : ∀ rf' g', Rin 228 (243 + 1) (fun b j => (b = 228 ∧ 23 ≤ j ∧ rf0 228 j ≠ none)) rfi rf' → (∀ b, b < 228 → g' b = gi b) → g' 228 4 = 0 → g' 228 14 = 0 → g' 228 16 = 0 → g' 228 18 = 0 → g' 228 31 = 0 → g' 234 0 = 0 → g' 234 1 = 0 → Zj w (d + 1) 6 332 mX11_init 123 [some (aR (some 228)), none] [] (kdn 244) rf' (243 + 1) g' Q) : Zj w (d + 1) 7 360 mX11_init 115 [some (aR (some 228)), none] [] (kdn (243)) rf (243) g Q := by
  refine z_aload_n dX11_init_115 rfl rfl ?_
  refine z_bipush dX11_init_116 rfl ?_
  refine n_arr (ty := .int) (t := 12) (L := 28) (U := (fun b j => (b = 228 ∧ 22 ≤ j ∧ rf0 228 j ≠ none))) dX11_init_118 rfl (Or.inl ⟨rfl, rfl⟩) w_aI (by decide) (by decide) (by decide +kernel) (Nat.le_of_ble_eq_true rfl) (Nat.le_of_ble_eq_true rfl) (by decide +kernel) hr (fun r1 g1 hr1 f1 z1 => ?_)
  have hf1 : ∀ b, b < 228 → g1 b = gi b := fun b hb => (f1 b (by omega)).trans (hf b hb)
  have q2 : g1 228 4 = 0 := (congrFun (f1 228 (by decide)) 4).trans p_228_4
  have q3 : g1 228 14 = 0 := (congrFun (f1 228 (by decide)) 14).trans p_228_14
  have q4 : g1 228 16 = 0 := (congrFun (f1 228 (by decide)) 16).trans p_228_16
  have q5 : g1 228 18 = 0 := (congrFun (f1 228 (by decide)) 18).trans p_228_18
  have q6 : g1 228 31 = 0 := (congrFun (f1 228 (by decide)) 31).trans p_228_31
  have q7 : g1 234 0 = 0 := (congrFun (f1 234 (by decide)) 0).trans p_234_0
  have q8 : g1 234 1 = 0 := (congrFun (f1 234 (by decide)) 1).trans p_234_1
  clear f1 z1
  refine n_put (l := 0) (U := (fun b j => (b = 228 ∧ 22 ≤ j ∧ rf0 228 j ≠ none))) (U' := (fun b j => (b = 228 ∧ 23 ≤ j ∧ rf0 228 j ≠ none))) dX11_init_120 ff_X11_52 (by decide) rfl (by decide +kernel) (Nat.le_of_ble_eq_true rfl) (Nat.le_of_ble_eq_true rfl) (by decide +kernel) (fun c j h => by
    rcases h with ⟨h1, h2, h3⟩
    by_cases e : j = 22
    · exact Or.inr ⟨h1, e⟩
    · by_cases e2 : 23 ≤ j
      · exact Or.inl ⟨h1, e2, h3⟩
      · exact absurd ((by decide +kernel : ∀ j, j < 23 → 22 < j → rf0 228 j = none) j (by omega) (by omega)) h3) hr1 (fun r9 hr9 => ?_)
  clear hr1
  exact k r9 g1 hr9 hf1 q2 q3 q4 q5 q6 q7 q8
theorem x11_123 {w : GX} {d : Nat} {Q : Post} {rf rfi : RF} {g gi : GI} (p_228_4 : g 228 4 = 0) (p_228_14 : g 228 14 = 0) (p_228_16 : g 228 16 = 0) (p_228_18 : g 228 18 = 0) (p_228_31 : g 228 31 = 0) (p_234_0 : g 234 0 = 0) (p_234_1 : g 234 1 = 0) (hf : ∀ b, b < 228 → g b = gi b) (hr : Rin 228 (244) (fun b j => (b = 228 ∧ 23 ≤ j ∧ rf0 228 j ≠ none)) rfi rf) (k : ∀ rf' g', Rin 228 (244 + 1) (fun b j => (b = 228 ∧ 24 ≤ j ∧ rf0 228 j ≠ none)) rfi rf' → (∀ b, b < 228 → g' b = gi b) → g' 228 4 = 0 → g' 228 14 = 0 → g' 228 16 = 0 → g' 228 18 = 0 → g' 228 31 = 0 → g' 234 0 = 0 → g' 234 1 = 0 → Zj w (d + 1) 5 304 mX11_init 131 [some (aR (some 228)), none] [] (kdn 245) rf' (244 + 1) g' Q) : Zj w (d + 1) 6 332 mX11_init 123 [some (aR (some 228)), none] [] (kdn (244)) rf (244) g Q := by
  refine z_aload_n dX11_init_123 rfl rfl ?_
  refine z_bipush dX11_init_124 rfl ?_
  refine n_arr (ty := .int) (t := 12) (L := 28) (U := (fun b j => (b = 228 ∧ 23 ≤ j ∧ rf0 228 j ≠ none))) dX11_init_126 rfl (Or.inl ⟨rfl, rfl⟩) w_aI (by decide) (by decide) (by decide +kernel) (Nat.le_of_ble_eq_true rfl) (Nat.le_of_ble_eq_true rfl) (by decide +kernel) hr (fun r1 g1 hr1 f1 z1 => ?_)
  have hf1 : ∀ b, b < 228 → g1 b = gi b := fun b hb => (f1 b (by omega)).trans (hf b hb)
  have q2 : g1 228 4 = 0 := (congrFun (f1 228 (by decide)) 4).trans p_228_4
  have q3 : g1 228 14 = 0 := (congrFun (f1 228 (by decide)) 14).trans p_228_14
  have q4 : g1 228 16 = 0 := (congrFun (f1 228 (by decide)) 16).trans p_228_16
  have q5 : g1 228 18 = 0 := (congrFun (f1 228 (by decide)) 18).trans p_228_18
  have q6 : g1 228 31 = 0 := (congrFun (f1 228 (by decide)) 31).trans p_228_31
  have q7 : g1 234 0 = 0 := (congrFun (f1 234 (by decide)) 0).trans p_234_0
  have q8 : g1 234 1 = 0 := (congrFun (f1 234 (by decide)) 1).trans p_234_1
  clear f1 z1
  refine n_put (l := 0) (U := (fun b j => (b = 228 ∧ 23 ≤ j ∧ rf0 228 j ≠ none))) (U' := (fun b j => (b = 228 ∧ 24 ≤ j ∧ rf0 228 j ≠ none))) dX11_init_128 ff_X11_55 (by decide) rfl (by decide +kernel) (Nat.le_of_ble_eq_true rfl) (Nat.le_of_ble_eq_true rfl) (by decide +kernel) (fun c j h => by
    rcases h with ⟨h1, h2, h3⟩
    by_cases e : j = 23
    · exact Or.inr ⟨h1, e⟩
    · by_cases e2 : 24 ≤ j
      · exact Or.inl ⟨h1, e2, h3⟩
      · exact absurd ((by decide +kernel : ∀ j, j < 24 → 23 < j → rf0 228 j = none) j (by omega) (by omega)) h3) hr1 (fun r9 hr9 => ?_)
  clear hr1
  exact k r9 g1 hr9 hf1 q2 q3 q4 q5 q6 q7 q8
theorem x11_131 {w : GX} {d : Nat} {Q : Post} {rf rfi : RF} {g gi : GI} (p_228_4 : g 228 4 = 0) (p_228_14 : g 228 14 = 0) (p_228_16 : g 228 16 = 0) (p_228_18 : g 228 18 = 0) (p_228_31 : g 228 31 = 0) (p_234_0 : g 234 0 = 0) (p_234_1 : g 234 1 = 0) (hf : ∀ b, b < 228 → g b = gi b) (hr : Rin 228 (245) (fun b j => (b = 228 ∧ 24 ≤ j ∧ rf0 228 j ≠ none)) rfi rf) (k : ∀ rf' g', Rin 228 (245 + 1) (fun b j => (b = 228 ∧ 25 ≤ j ∧ rf0 228 j ≠ none)) rfi rf' → (∀ b, b < 228 → g' b = gi b) → g' 228 4 = 0 → g' 228 14 = 0 → g' 228 16 = 0 → g' 228 18 = 0 → g' 228 31 = 0 → g' 234 0 = 0 → g' 234 1 = 0 → Zj w (d + 1) 4 276 mX11_init 139 [some (aR (some 228)), none] [] (kdn 246) rf' (245 + 1) g' Q) : Zj w (d + 1) 5 304 mX11_init 131 [some (aR (some 228)), none] [] (kdn (245)) rf (245) g Q := by
  refine z_aload_n dX11_init_131 rfl rfl ?_
  refine z_bipush dX11_init_132 rfl ?_
  refine n_arr (ty := .int) (t := 12) (L := 28) (U := (fun b j => (b = 228 ∧ 24 ≤ j ∧ rf0 228 j ≠ none))) dX11_init_134 rfl (Or.inl ⟨rfl, rfl⟩) w_aI (by decide) (by decide) (by decide +kernel) (Nat.le_of_ble_eq_true rfl) (Nat.le_of_ble_eq_true rfl) (by decide +kernel) hr (fun r1 g1 hr1 f1 z1 => ?_)
  have hf1 : ∀ b, b < 228 → g1 b = gi b := fun b hb => (f1 b (by omega)).trans (hf b hb)
  have q2 : g1 228 4 = 0 := (congrFun (f1 228 (by decide)) 4).trans p_228_4
  have q3 : g1 228 14 = 0 := (congrFun (f1 228 (by decide)) 14).trans p_228_14
  have q4 : g1 228 16 = 0 := (congrFun (f1 228 (by decide)) 16).trans p_228_16
  have q5 : g1 228 18 = 0 := (congrFun (f1 228 (by decide)) 18).trans p_228_18
  have q6 : g1 228 31 = 0 := (congrFun (f1 228 (by decide)) 31).trans p_228_31
  have q7 : g1 234 0 = 0 := (congrFun (f1 234 (by decide)) 0).trans p_234_0
  have q8 : g1 234 1 = 0 := (congrFun (f1 234 (by decide)) 1).trans p_234_1
  clear f1 z1
  refine n_put (l := 0) (U := (fun b j => (b = 228 ∧ 24 ≤ j ∧ rf0 228 j ≠ none))) (U' := (fun b j => (b = 228 ∧ 25 ≤ j ∧ rf0 228 j ≠ none))) dX11_init_136 ff_X11_58 (by decide) rfl (by decide +kernel) (Nat.le_of_ble_eq_true rfl) (Nat.le_of_ble_eq_true rfl) (by decide +kernel) (fun c j h => by
    rcases h with ⟨h1, h2, h3⟩
    by_cases e : j = 24
    · exact Or.inr ⟨h1, e⟩
    · by_cases e2 : 25 ≤ j
      · exact Or.inl ⟨h1, e2, h3⟩
      · exact absurd ((by decide +kernel : ∀ j, j < 25 → 24 < j → rf0 228 j = none) j (by omega) (by omega)) h3) hr1 (fun r9 hr9 => ?_)
  clear hr1
  exact k r9 g1 hr9 hf1 q2 q3 q4 q5 q6 q7 q8
theorem x11_139 {w : GX} {d : Nat} {Q : Post} {rf rfi : RF} {g gi : GI} (p_228_4 : g 228 4 = 0) (p_228_14 : g 228 14 = 0) (p_228_16 : g 228 16 = 0) (p_228_18 : g 228 18 = 0) (p_228_31 : g 228 31 = 0) (p_234_0 : g 234 0 = 0) (p_234_1 : g 234 1 = 0) (hf : ∀ b, b < 228 → g b = gi b) (hr : Rin 228 (246) (fun b j => (b = 228 ∧ 25 ≤ j ∧ rf0 228 j ≠ none)) rfi rf) (k : ∀ rf' g', Rin 228 (246 + 1) (fun b j => (b = 228 ∧ 26 ≤ j ∧ rf0 228 j ≠ none)) rfi rf' → (∀ b, b < 228 → g' b = gi b) → g' 228 4 = 0 → g' 228 14 = 0 → g' 228 16 = 0 → g' 228 18 = 0 → g' 228 31 = 0 → g' 234 0 = 0 → g' 234 1 = 0 → Zj w (d + 1) 3 268 mX11_init 147 [some (aR (some 228)), none] [] (kdn 247) rf' (246 + 1) g' Q) : Zj w (d + 1) 4 276 mX11_init 139 [some (aR (some 228)), none] [] (kdn (246)) rf (246) g Q := by
  refine z_aload_n dX11_init_139 rfl rfl ?_
  refine z_bipush dX11_init_140 rfl ?_
  refine n_arr (ty := .int) (t := 12) (L := 8) (U := (fun b j => (b = 228 ∧ 25 ≤ j ∧ rf0 228 j ≠ none))) dX11_init_142 rfl (Or.inl ⟨rfl, rfl⟩) w_aI (by decide) (by decide) (by decide +kernel) (Nat.le_of_ble_eq_true rfl) (Nat.le_of_ble_eq_true rfl) (by decide +kernel) hr (fun r1 g1 hr1 f1 z1 => ?_)
  have hf1 : ∀ b, b < 228 → g1 b = gi b := fun b hb => (f1 b (by omega)).trans (hf b hb)
  have q2 : g1 228 4 = 0 := (congrFun (f1 228 (by decide)) 4).trans p_228_4
  have q3 : g1 228 14 = 0 := (congrFun (f1 228 (by decide)) 14).trans p_228_14
  have q4 : g1 228 16 = 0 := (congrFun (f1 228 (by decide)) 16).trans p_228_16
  have q5 : g1 228 18 = 0 := (congrFun (f1 228 (by decide)) 18).trans p_228_18
  have q6 : g1 228 31 = 0 := (congrFun (f1 228 (by decide)) 31).trans p_228_31
  have q7 : g1 234 0 = 0 := (congrFun (f1 234 (by decide)) 0).trans p_234_0
  have q8 : g1 234 1 = 0 := (congrFun (f1 234 (by decide)) 1).trans p_234_1
  clear f1 z1
  refine n_put (l := 0) (U := (fun b j => (b = 228 ∧ 25 ≤ j ∧ rf0 228 j ≠ none))) (U' := (fun b j => (b = 228 ∧ 26 ≤ j ∧ rf0 228 j ≠ none))) dX11_init_144 ff_X11_61 (by decide) rfl (by decide +kernel) (Nat.le_of_ble_eq_true rfl) (Nat.le_of_ble_eq_true rfl) (by decide +kernel) (fun c j h => by
    rcases h with ⟨h1, h2, h3⟩
    by_cases e : j = 25
    · exact Or.inr ⟨h1, e⟩
    · by_cases e2 : 26 ≤ j
      · exact Or.inl ⟨h1, e2, h3⟩
      · exact absurd ((by decide +kernel : ∀ j, j < 26 → 25 < j → rf0 228 j = none) j (by omega) (by omega)) h3) hr1 (fun r9 hr9 => ?_)
  clear hr1
  exact k r9 g1 hr9 hf1 q2 q3 q4 q5 q6 q7 q8
theorem x11_147 {w : GX} {d : Nat} {Q : Post} {rf rfi : RF} {g gi : GI} (p_228_4 : g 228 4 = 0) (p_228_14 : g 228 14 = 0) (p_228_16 : g 228 16 = 0) (p_228_18 : g 228 18 = 0) (p_228_31 : g 228 31 = 0) (p_234_0 : g 234 0 = 0) (p_234_1 : g 234 1 = 0) (hf : ∀ b, b < 228 → g b = gi b) (hr : Rin 228 (247) (fun b j => (b = 228 ∧ 26 ≤ j ∧ rf0 228 j ≠ none)) rfi rf) (k : ∀ rf' g', Rin 228 (247 + 1) (fun b j => (b = 228 ∧ 32 ≤ j ∧ rf0 228 j ≠ none)) rfi rf' → (∀ b, b < 228 → g' b = gi b) → g' 228 4 = 0 → g' 228 14 = 0 → g' 228 16 = 0 → g' 228 18 = 0 → g' 228 31 = 0 → g' 234 0 = 0 → g' 234 1 = 0 → Zj w (d + 1) 2 232 mX11_init 155 [some (aR (some 228)), none] [] (kdn 248) rf' (247 + 1) g' Q) : Zj w (d + 1) 3 268 mX11_init 147 [some (aR (some 228)), none] [] (kdn (247)) rf (247) g Q := by
  refine z_aload_n dX11_init_147 rfl rfl ?_
  refine z_bipush dX11_init_148 rfl ?_
  refine n_arr (ty := .int) (t := 12) (L := 36) (U := (fun b j => (b = 228 ∧ 26 ≤ j ∧ rf0 228 j ≠ none))) dX11_init_150 rfl (Or.inl ⟨rfl, rfl⟩) w_aI (by decide) (by decide) (by decide +kernel) (Nat.le_of_ble_eq_true rfl) (Nat.le_of_ble_eq_true rfl) (by decide +kernel) hr (fun r1 g1 hr1 f1 z1 => ?_)
  have hf1 : ∀ b, b < 228 → g1 b = gi b := fun b hb => (f1 b (by omega)).trans (hf b hb)
  have q2 : g1 228 4 = 0 := (congrFun (f1 228 (by decide)) 4).trans p_228_4
  have q3 : g1 228 14 = 0 := (congrFun (f1 228 (by decide)) 14).trans p_228_14
  have q4 : g1 228 16 = 0 := (congrFun (f1 228 (by decide)) 16).trans p_228_16
  have q5 : g1 228 18 = 0 := (congrFun (f1 228 (by decide)) 18).trans p_228_18
  have q6 : g1 228 31 = 0 := (congrFun (f1 228 (by decide)) 31).trans p_228_31
  have q7 : g1 234 0 = 0 := (congrFun (f1 234 (by decide)) 0).trans p_234_0
  have q8 : g1 234 1 = 0 := (congrFun (f1 234 (by decide)) 1).trans p_234_1
  clear f1 z1
  refine n_put (l := 0) (U := (fun b j => (b = 228 ∧ 26 ≤ j ∧ rf0 228 j ≠ none))) (U' := (fun b j => (b = 228 ∧ 32 ≤ j ∧ rf0 228 j ≠ none))) dX11_init_152 ff_X11_64 (by decide) rfl (by decide +kernel) (Nat.le_of_ble_eq_true rfl) (Nat.le_of_ble_eq_true rfl) (by decide +kernel) (fun c j h => by
    rcases h with ⟨h1, h2, h3⟩
    by_cases e : j = 26
    · exact Or.inr ⟨h1, e⟩
    · by_cases e2 : 32 ≤ j
      · exact Or.inl ⟨h1, e2, h3⟩
      · exact absurd ((by decide +kernel : ∀ j, j < 32 → 26 < j → rf0 228 j = none) j (by omega) (by omega)) h3) hr1 (fun r9 hr9 => ?_)
  clear hr1
  exact k r9 g1 hr9 hf1 q2 q3 q4 q5 q6 q7 q8
theorem x11_155 {w : GX} {d : Nat} {Q : Post} {rf rfi : RF} {g gi : GI} (p_228_4 : g 228 4 = 0) (p_228_14 : g 228 14 = 0) (p_228_16 : g 228 16 = 0) (p_228_18 : g 228 18 = 0) (p_228_31 : g 228 31 = 0) (p_234_0 : g 234 0 = 0) (p_234_1 : g 234 1 = 0) (hf : ∀ b, b < 228 → g b = gi b) (hr : Rin 228 (248) (fun b j => (b = 228 ∧ 32 ≤ j ∧ rf0 228 j ≠ none)) rfi rf) (k : ∀ rf' g', Rin 228 (248 + 1) (fun b j => (b = 228 ∧ 33 ≤ j ∧ rf0 228 j ≠ none)) rfi rf' → (∀ b, b < 228 → g' b = gi b) → g' 228 4 = 0 → g' 228 14 = 0 → g' 228 16 = 0 → g' 228 18 = 0 → g' 228 31 = 0 → g' 234 0 = 0 → g' 234 1 = 0 → Zj w (d + 1) 1 208 mX11_init 163 [some (aR (some 228)), none] [] (kdn 249) rf' (248 + 1) g' Q) : Zj w (d + 1) 2 232 mX11_init 155 [some (aR (some 228)), none] [] (kdn (248)) rf (248) g Q := by
  refine z_aload_n dX11_init_155 rfl rfl ?_
  refine z_bipush dX11_init_156 rfl ?_
  refine n_arr (ty := .int) (t := 12) (L := 24) (U := (fun b j => (b = 228 ∧ 32 ≤ j ∧ rf0 228 j ≠ none))) dX11_init_158 rfl (Or.inl ⟨rfl, rfl⟩) w_aI (by decide) (by decide) (by decide +kernel) (Nat.le_of_ble_eq_true rfl) (Nat.le_of_ble_eq_true rfl) (by decide +kernel) hr (fun r1 g1 hr1 f1 z1 => ?_)
  have hf1 : ∀ b, b < 228 → g1 b = gi b := fun b hb => (f1 b (by omega)).trans (hf b hb)
  have q2 : g1 228 4 = 0 := (congrFun (f1 228 (by decide)) 4).trans p_228_4
  have q3 : g1 228 14 = 0 := (congrFun (f1 228 (by decide)) 14).trans p_228_14
  have q4 : g1 228 16 = 0 := (congrFun (f1 228 (by decide)) 16).trans p_228_16
  have q5 : g1 228 18 = 0 := (congrFun (f1 228 (by decide)) 18).trans p_228_18
  have q6 : g1 228 31 = 0 := (congrFun (f1 228 (by decide)) 31).trans p_228_31
  have q7 : g1 234 0 = 0 := (congrFun (f1 234 (by decide)) 0).trans p_234_0
  have q8 : g1 234 1 = 0 := (congrFun (f1 234 (by decide)) 1).trans p_234_1
  clear f1 z1
  refine n_put (l := 0) (U := (fun b j => (b = 228 ∧ 32 ≤ j ∧ rf0 228 j ≠ none))) (U' := (fun b j => (b = 228 ∧ 33 ≤ j ∧ rf0 228 j ≠ none))) dX11_init_160 ff_X11_67 (by decide) rfl (by decide +kernel) (Nat.le_of_ble_eq_true rfl) (Nat.le_of_ble_eq_true rfl) (by decide +kernel) (fun c j h => by
    rcases h with ⟨h1, h2, h3⟩
    by_cases e : j = 32
    · exact Or.inr ⟨h1, e⟩
    · by_cases e2 : 33 ≤ j
      · exact Or.inl ⟨h1, e2, h3⟩
      · exact absurd ((by decide +kernel : ∀ j, j < 33 → 32 < j → rf0 228 j = none) j (by omega) (by omega)) h3) hr1 (fun r9 hr9 => ?_)
  clear hr1
  exact k r9 g1 hr9 hf1 q2 q3 q4 q5 q6 q7 q8
theorem x11_163 {w : GX} {d : Nat} {Q : Post} {rf rfi : RF} {g gi : GI} (p_228_4 : g 228 4 = 0) (p_228_14 : g 228 14 = 0) (p_228_16 : g 228 16 = 0) (p_228_18 : g 228 18 = 0) (p_228_31 : g 228 31 = 0) (p_234_0 : g 234 0 = 0) (p_234_1 : g 234 1 = 0) (hf : ∀ b, b < 228 → g b = gi b) (hr : Rin 228 (249) (fun b j => (b = 228 ∧ 33 ≤ j ∧ rf0 228 j ≠ none)) rfi rf) (k : ∀ rf' g', Rin 228 (249 + 1) (fun b j => (b = 228 ∧ 35 ≤ j ∧ rf0 228 j ≠ none)) rfi rf' → (∀ b, b < 228 → g' b = gi b) → g' 228 4 = 0 → g' 228 14 = 0 → g' 228 16 = 0 → g' 228 18 = 0 → g' 228 31 = 0 → g' 234 0 = 0 → g' 234 1 = 0 → Zj w (d + 1) 0 0 mX11_init 172 [some (aR (some 228)), none] [] (kdn 250) rf' (249 + 1) g' Q) : Zj w (d + 1) 1 208 mX11_init 163 [some (aR (some 228)), none] [] (kdn (249)) rf (249) g Q := by
  refine z_aload_n dX11_init_163 rfl rfl ?_
  refine z_sipush dX11_init_164 rfl ?_
  refine n_arr (ty := .int) (t := 12) (L := 208) (U := (fun b j => (b = 228 ∧ 33 ≤ j ∧ rf0 228 j ≠ none))) dX11_init_167 rfl (Or.inl ⟨rfl, rfl⟩) w_aI (by decide) (by decide) (by decide +kernel) (Nat.le_of_ble_eq_true rfl) (Nat.le_of_ble_eq_true rfl) (by decide +kernel) hr (fun r1 g1 hr1 f1 z1 => ?_)
  have hf1 : ∀ b, b < 228 → g1 b = gi b := fun b hb => (f1 b (by omega)).trans (hf b hb)
  have q2 : g1 228 4 = 0 := (congrFun (f1 228 (by decide)) 4).trans p_228_4
  have q3 : g1 228 14 = 0 := (congrFun (f1 228 (by decide)) 14).trans p_228_14
  have q4 : g1 228 16 = 0 := (congrFun (f1 228 (by decide)) 16).trans p_228_16
  have q5 : g1 228 18 = 0 := (congrFun (f1 228 (by decide)) 18).trans p_228_18
  have q6 : g1 228 31 = 0 := (congrFun (f1 228 (by decide)) 31).trans p_228_31
  have q7 : g1 234 0 = 0 := (congrFun (f1 234 (by decide)) 0).trans p_234_0
  have q8 : g1 234 1 = 0 := (congrFun (f1 234 (by decide)) 1).trans p_234_1
  clear f1 z1
  refine n_put (l := 0) (U := (fun b j => (b = 228 ∧ 33 ≤ j ∧ rf0 228 j ≠ none))) (U' := (fun b j => (b = 228 ∧ 35 ≤ j ∧ rf0 228 j ≠ none))) dX11_init_169 ff_X11_70 (by decide) rfl (by decide +kernel) (Nat.le_of_ble_eq_true rfl) (Nat.le_of_ble_eq_true rfl) (by decide +kernel) (fun c j h => by
    rcases h with ⟨h1, h2, h3⟩
    by_cases e : j = 33
    · exact Or.inr ⟨h1, e⟩
    · by_cases e2 : 35 ≤ j
      · exact Or.inl ⟨h1, e2, h3⟩
      · exact absurd ((by decide +kernel : ∀ j, j < 35 → 33 < j → rf0 228 j = none) j (by omega) (by omega)) h3) hr1 (fun r9 hr9 => ?_)
  clear hr1
  exact k r9 g1 hr9 hf1 q2 q3 q4 q5 q6 q7 q8
theorem x11_172 {w : GX} {d : Nat} {Q : Post} {rf rfi : RF} {g gi : GI} (p_228_4 : g 228 4 = 0) (p_228_14 : g 228 14 = 0) (p_228_16 : g 228 16 = 0) (p_228_18 : g 228 18 = 0) (p_228_31 : g 228 31 = 0) (p_234_0 : g 234 0 = 0) (p_234_1 : g 234 1 = 0) (hf : ∀ b, b < 228 → g b = gi b) (hr : (∀ b, b < 228 → rf b = rfi b) ∧ ∀ b j, 228 ≤ b → b < 250 → rf b j = rf0 b j) (k : ∀ rf' g', (∀ b, b < 228 → rf' b = rfi b) → (∀ b j, 228 ≤ b → b < 250 → rf' b j = rf0 b j) → (∀ b, b < 228 → g' b = gi b) → (g' 228 4 = 0 ∧ g' 228 14 = 0 ∧ g' 228 16 = 0 ∧ g' 228 18 = 0 ∧ g' 228 31 = 0 ∧ g' 234 0 = 0 ∧ g' 234 1 = 0 ∧ g' 228 13 = 8 ∧ g' 228 27 = -1 ∧ g' 228 28 = -1 ∧ g' 228 30 = -1 ∧ g' 229 0 = -1 ∧ g' 229 1 = -1 ∧ g' 229 2 = -1 ∧ g' 229 3 = -1) → Q none (kdn 250) rf' 250 g') : Zj w (d + 1) 0 0 mX11_init 172 [some (aR (some 228)), none] [] (kdn 250) rf 250 g Q := by
  refine z_iconst dX11_init_172 ?_
  refine z_istore_n dX11_init_173 rfl (by decide) rfl ?_
  refine loopN (σ := GI) (fun i s => Zj w (d + 1) 0 0 mX11_init 174 [some (aR (some 228)), some (aI (i : Int))] [] (kdn 250) rf 250 s Q) (fun i s => (∀ b, b < 228 → s b = gi b) ∧ (s 228 4 = 0 ∧ s 228 14 = 0 ∧ s 228 16 = 0 ∧ s 228 18 = 0 ∧ s 228 31 = 0 ∧ s 234 0 = 0 ∧ s 234 1 = 0) ∧ ∀ t, t < i → s 229 t = -1) 4 ?_ ?_ 0 g (Nat.zero_le _) ⟨hf, ⟨p_228_4, p_228_14, p_228_16, p_228_18, p_228_31, p_234_0, p_234_1⟩, fun t h => absurd h (Nat.not_lt_zero t)⟩
  · intro g1 ⟨h1, h2, h3⟩
    refine z_iload_n dX11_init_174 rfl rfl ?_
    refine z_iconst dX11_init_175 ?_
    refine z_icmp_ge (tgt := 192) dX11_init_176 (by decide) (fun _ => ?_) (fun q => absurd (by decide) q)
    refine z_aload_n dX11_init_192 rfl rfl ?_
    refine z_bipush dX11_init_193 rfl ?_
    refine n_putI (l := 0) dX11_init_195 fw_X11_73 (by decide) (by decide +kernel) (Nat.le_of_ble_eq_true rfl) (fun g301 f301 o301 e301 => ?_)
    have hf301 : ∀ b, b < 228 → g301 b = gi b := fun b hb => (f301 b (by omega)).trans (h1 b hb)
    have q302 : g301 228 4 = 0 := (o301 4 (by decide)).trans h2.1
    have q303 : g301 228 14 = 0 := (o301 14 (by decide)).trans h2.2.1
    have q304 : g301 228 16 = 0 := (o301 16 (by decide)).trans h2.2.2.1
    have q305 : g301 228 18 = 0 := (o301 18 (by decide)).trans h2.2.2.2.1
    have q306 : g301 228 31 = 0 := (o301 31 (by decide)).trans h2.2.2.2.2.1
    have q307 : g301 234 0 = 0 := (congrFun (f301 234 (by decide)) 0).trans h2.2.2.2.2.2.1
    have q308 : g301 234 1 = 0 := (congrFun (f301 234 (by decide)) 1).trans h2.2.2.2.2.2.2
    have q309 : g301 229 0 = -1 := (congrFun (f301 229 (by decide)) 0).trans (h3 0 (by decide))
    have q310 : g301 229 1 = -1 := (congrFun (f301 229 (by decide)) 1).trans (h3 1 (by decide))
    have q311 : g301 229 2 = -1 := (congrFun (f301 229 (by decide)) 2).trans (h3 2 (by decide))
    have q312 : g301 229 3 = -1 := (congrFun (f301 229 (by decide)) 3).trans (h3 3 (by decide))
    clear f301 o301 h1
    refine z_aload_n dX11_init_198 rfl rfl ?_
    refine z_iconst dX11_init_199 ?_
    refine n_putI (l := 0) dX11_init_200 fw_X11_77 (by decide) (by decide +kernel) (Nat.le_of_ble_eq_true rfl) (fun g313 f313 o313 e313 => ?_)
    have hf313 : ∀ b, b < 228 → g313 b = gi b := fun b hb => (f313 b (by omega)).trans (hf301 b hb)
    have q314 : g313 228 4 = 0 := (o313 4 (by decide)).trans q302
    have q315 : g313 228 14 = 0 := (o313 14 (by decide)).trans q303
    have q316 : g313 228 16 = 0 := (o313 16 (by decide)).trans q304
    have q317 : g313 228 18 = 0 := (o313 18 (by decide)).trans q305
    have q318 : g313 228 31 = 0 := (o313 31 (by decide)).trans q306
    have q319 : g313 234 0 = 0 := (congrFun (f313 234 (by decide)) 0).trans q307
    have q320 : g313 234 1 = 0 := (congrFun (f313 234 (by decide)) 1).trans q308
    have q321 : g313 229 0 = -1 := (congrFun (f313 229 (by decide)) 0).trans q309
    have q322 : g313 229 1 = -1 := (congrFun (f313 229 (by decide)) 1).trans q310
    have q323 : g313 229 2 = -1 := (congrFun (f313 229 (by decide)) 2).trans q311
    have q324 : g313 229 3 = -1 := (congrFun (f313 229 (by decide)) 3).trans q312
    have q325 : g313 228 13 = 8 := (o313 13 (by decide)).trans e301
    clear f313 o313 hf301 q302 q303 q304 q305 q306 q307 q308 q309 q310 q311 q312
    refine z_aload_n dX11_init_203 rfl rfl ?_
    refine z_iconst dX11_init_204 ?_
    refine n_putI (l := 0) dX11_init_205 fw_X11_80 (by decide) (by decide +kernel) (Nat.le_of_ble_eq_true rfl) (fun g326 f326 o326 e326 => ?_)
    have hf326 : ∀ b, b < 228 → g326 b = gi b := fun b hb => (f326 b (by omega)).trans (hf313 b hb)
    have q327 : g326 228 4 = 0 := (o326 4 (by decide)).trans q314
    have q328 : g326 228 14 = 0 := (o326 14 (by decide)).trans q315
    have q329 : g326 228 16 = 0 := (o326 16 (by decide)).trans q316
    have q330 : g326 228 18 = 0 := (o326 18 (by decide)).trans q317
    have q331 : g326 228 31 = 0 := (o326 31 (by decide)).trans q318
    have q332 : g326 234 0 = 0 := (congrFun (f326 234 (by decide)) 0).trans q319
    have q333 : g326 234 1 = 0 := (congrFun (f326 234 (by decide)) 1).trans q320
    have q334 : g326 229 0 = -1 := (congrFun (f326 229 (by decide)) 0).trans q321
    have q335 : g326 229 1 = -1 := (congrFun (f326 229 (by decide)) 1).trans q322
    have q336 : g326 229 2 = -1 := (congrFun (f326 229 (by decide)) 2).trans q323
    have q337 : g326 229 3 = -1 := (congrFun (f326 229 (by decide)) 3).trans q324
    have q338 : g326 228 13 = 8 := (o326 13 (by decide)).trans q325
    have q339 : g326 228 27 = (-1) := (o326 27 (by decide)).trans e313
    clear f326 o326 hf313 q314 q315 q316 q317 q318 q319 q320 q321 q322 q323 q324 q325
    refine z_aload_n dX11_init_208 rfl rfl ?_
    refine z_iconst dX11_init_209 ?_
    refine n_putI (l := 0) dX11_init_210 fw_X11_83 (by decide) (by decide +kernel) (Nat.le_of_ble_eq_true rfl) (fun g340 f340 o340 e340 => ?_)
    have hf340 : ∀ b, b < 228 → g340 b = gi b := fun b hb => (f340 b (by omega)).trans (hf326 b hb)
    have q341 : g340 228 4 = 0 := (o340 4 (by decide)).trans q327
    have q342 : g340 228 14 = 0 := (o340 14 (by decide)).trans q328
    have q343 : g340 228 16 = 0 := (o340 16 (by decide)).trans q329
    have q344 : g340 228 18 = 0 := (o340 18 (by decide)).trans q330
    have q345 : g340 228 31 = 0 := (o340 31 (by decide)).trans q331
    have q346 : g340 234 0 = 0 := (congrFun (f340 234 (by decide)) 0).trans q332
    have q347 : g340 234 1 = 0 := (congrFun (f340 234 (by decide)) 1).trans q333
    have q348 : g340 229 0 = -1 := (congrFun (f340 229 (by decide)) 0).trans q334
    have q349 : g340 229 1 = -1 := (congrFun (f340 229 (by decide)) 1).trans q335
    have q350 : g340 229 2 = -1 := (congrFun (f340 229 (by decide)) 2).trans q336
    have q351 : g340 229 3 = -1 := (congrFun (f340 229 (by decide)) 3).trans q337
    have q352 : g340 228 13 = 8 := (o340 13 (by decide)).trans q338
    have q353 : g340 228 27 = (-1) := (o340 27 (by decide)).trans q339
    have q354 : g340 228 28 = (-1) := (o340 28 (by decide)).trans e326
    clear f340 o340 hf326 q327 q328 q329 q330 q331 q332 q333 q334 q335 q336 q337 q338 q339
    refine z_vret dX11_init_213 rfl ?_
    exact k _ _ hr.1 hr.2 hf340 ⟨q341, q342, q343, q344, q345, q346, q347, q352, q353, q354, e340, q348, q349, q350, q351⟩
  · intro i g1 hi ⟨h1, h2, h3⟩ ih
    have ei : nm (i : Int) = i := nm_id (by omega) (by omega)
    have e4 : nm 4 = 4 := by decide
    refine z_iload_n dX11_init_174 rfl rfl ?_
    refine z_iconst dX11_init_175 ?_
    refine z_icmp_ge (tgt := 192) dX11_init_176 (by decide) (fun q => absurd q (by rw [e4, ei]; omega)) (fun _ => ?_)
    refine z_aload_n dX11_init_179 rfl rfl ?_
    refine z_getR dX11_init_180 fl_X11_7 (by decide) (by decide +kernel) ?_
    rw [hr.2 228 0 (by omega) (by omega), show rf0 228 0 = some 229 by decide +kernel]
    refine z_iload_n dX11_init_183 rfl rfl ?_
    refine z_iconst dX11_init_184 ?_
    have k229 : kdn 250 229 = (12, 4) := by decide +kernel
    refine z_iast dX11_init_185 (by rw [k229]) (by rw [ei]; omega) (by rw [k229, ei]; show (i : Int) < 4; omega) ?_
    rw [ei, Int.toNat_natCast]
    refine z_iinc dX11_init_186 rfl (by decide) rfl ?_
    refine z_goto (tgt := 174) dX11_init_189 (by decide) ?_
    have fo : ∀ b, b ≠ 229 → up2 g1 229 i (-1) b = g1 b := fun b hb => up2_ne _ _ _ hb
    refine ih (up2 g1 229 i (-1)) ⟨fun b hb => (fo b (by omega)).trans (h1 b hb), ⟨(congrFun (fo 228 (by decide)) 4).trans h2.1, (congrFun (fo 228 (by decide)) 14).trans h2.2.1, (congrFun (fo 228 (by decide)) 16).trans h2.2.2.1, (congrFun (fo 228 (by decide)) 18).trans h2.2.2.2.1, (congrFun (fo 228 (by decide)) 31).trans h2.2.2.2.2.1, (congrFun (fo 234 (by decide)) 0).trans h2.2.2.2.2.2.1, (congrFun (fo 234 (by decide)) 1).trans h2.2.2.2.2.2.2⟩, fun t ht => ?_⟩
    by_cases e : t = i
    · subst e; rw [up2_eq, up1_eq]
    · rw [up2_eq, up1_ne _ _ e]; exact h3 t (by omega)
theorem n_X11 {w : GX} {d : Nat} : Ct w (d + 1) 21 1516 mX11_init 228 250 [some (aR (some 228)), none] (fun g' => g' 228 4 = 0 ∧ g' 228 14 = 0 ∧ g' 228 16 = 0 ∧ g' 228 18 = 0 ∧ g' 228 31 = 0 ∧ g' 234 0 = 0 ∧ g' 234 1 = 0 ∧ g' 228 13 = 8 ∧ g' 228 27 = -1 ∧ g' 228 28 = -1 ∧ g' 228 30 = -1 ∧ g' 229 0 = -1 ∧ g' 229 1 = -1 ∧ g' 229 2 = -1 ∧ g' 229 3 = -1) := by
  intro rf g Q hz0 hg0 k
  have hr : Rin 228 (228 + 1) (fun b j => (b = 228 ∧ 0 ≤ j ∧ rf0 228 j ≠ none)) rf rf := Rin.start hz0 (fun j => by by_cases h : rf0 228 j = none; exact Or.inr h; exact Or.inl ⟨rfl, Nat.zero_le _, h⟩)
  refine z_aload_n dX11_init_0 rfl rfl ?_
  refine z_oinit dX11_init_1 lk_X11_1 w_oin w_oco (Nat.le_of_ble_eq_true rfl) ?_
  refine x11_4 (gi := g) (hg0 4) (hg0 14) (hg0 16) (hg0 18) (hg0 31) (fun _ _ => rfl) hr (fun r1 g1 hr1 hf1 a1_228_4 a1_228_14 a1_228_16 a1_228_18 a1_228_31 => ?_)
  refine x11_11 (gi := g) a1_228_4 a1_228_14 a1_228_16 a1_228_18 a1_228_31 hf1 hr1 (fun r2 g2 hr2 hf2 a2_228_4 a2_228_14 a2_228_16 a2_228_18 a2_228_31 => ?_)
  refine x11_18 (gi := g) a2_228_4 a2_228_14 a2_228_16 a2_228_18 a2_228_31 hf2 hr2 (fun r3 g3 hr3 hf3 a3_228_4 a3_228_14 a3_228_16 a3_228_18 a3_228_31 => ?_)
  refine x11_27 (gi := g) a3_228_4 a3_228_14 a3_228_16 a3_228_18 a3_228_31 hf3 hr3 (fun r4 g4 hr4 hf4 a4_228_4 a4_228_14 a4_228_16 a4_228_18 a4_228_31 => ?_)
  refine x11_35 (gi := g) a4_228_4 a4_228_14 a4_228_16 a4_228_18 a4_228_31 hf4 hr4 (fun r5 g5 hr5 hf5 a5_228_4 a5_228_14 a5_228_16 a5_228_18 a5_228_31 => ?_)
  refine x11_43 (gi := g) a5_228_4 a5_228_14 a5_228_16 a5_228_18 a5_228_31 hf5 hr5 (fun r6 g6 hr6 hf6 a6_228_4 a6_228_14 a6_228_16 a6_228_18 a6_228_31 a6_234_0 a6_234_1 => ?_)
  refine x11_50 (gi := g) a6_228_4 a6_228_14 a6_228_16 a6_228_18 a6_228_31 a6_234_0 a6_234_1 hf6 hr6 (fun r7 g7 hr7 hf7 a7_228_4 a7_228_14 a7_228_16 a7_228_18 a7_228_31 a7_234_0 a7_234_1 => ?_)
  refine x11_58 (gi := g) a7_228_4 a7_228_14 a7_228_16 a7_228_18 a7_228_31 a7_234_0 a7_234_1 hf7 hr7 (fun r8 g8 hr8 hf8 a8_228_4 a8_228_14 a8_228_16 a8_228_18 a8_228_31 a8_234_0 a8_234_1 => ?_)
  refine x11_66 (gi := g) a8_228_4 a8_228_14 a8_228_16 a8_228_18 a8_228_31 a8_234_0 a8_234_1 hf8 hr8 (fun r9 g9 hr9 hf9 a9_228_4 a9_228_14 a9_228_16 a9_228_18 a9_228_31 a9_234_0 a9_234_1 => ?_)
  refine x11_74 (gi := g) a9_228_4 a9_228_14 a9_228_16 a9_228_18 a9_228_31 a9_234_0 a9_234_1 hf9 hr9 (fun r10 g10 hr10 hf10 a10_228_4 a10_228_14 a10_228_16 a10_228_18 a10_228_31 a10_234_0 a10_234_1 => ?_)
  refine x11_82 (gi := g) a10_228_4 a10_228_14 a10_228_16 a10_228_18 a10_228_31 a10_234_0 a10_234_1 hf10 hr10 (fun r11 g11 hr11 hf11 a11_228_4 a11_228_14 a11_228_16 a11_228_18 a11_228_31 a11_234_0 a11_234_1 => ?_)
  refine x11_90 (gi := g) a11_228_4 a11_228_14 a11_228_16 a11_228_18 a11_228_31 a11_234_0 a11_234_1 hf11 hr11 (fun r12 g12 hr12 hf12 a12_228_4 a12_228_14 a12_228_16 a12_228_18 a12_228_31 a12_234_0 a12_234_1 => ?_)
  refine x11_98 (gi := g) a12_228_4 a12_228_14 a12_228_16 a12_228_18 a12_228_31 a12_234_0 a12_234_1 hf12 hr12 (fun r13 g13 hr13 hf13 a13_228_4 a13_228_14 a13_228_16 a13_228_18 a13_228_31 a13_234_0 a13_234_1 => ?_)
  refine x11_107 (gi := g) a13_228_4 a13_228_14 a13_228_16 a13_228_18 a13_228_31 a13_234_0 a13_234_1 hf13 hr13 (fun r14 g14 hr14 hf14 a14_228_4 a14_228_14 a14_228_16 a14_228_18 a14_228_31 a14_234_0 a14_234_1 => ?_)
  refine x11_115 (gi := g) a14_228_4 a14_228_14 a14_228_16 a14_228_18 a14_228_31 a14_234_0 a14_234_1 hf14 hr14 (fun r15 g15 hr15 hf15 a15_228_4 a15_228_14 a15_228_16 a15_228_18 a15_228_31 a15_234_0 a15_234_1 => ?_)
  refine x11_123 (gi := g) a15_228_4 a15_228_14 a15_228_16 a15_228_18 a15_228_31 a15_234_0 a15_234_1 hf15 hr15 (fun r16 g16 hr16 hf16 a16_228_4 a16_228_14 a16_228_16 a16_228_18 a16_228_31 a16_234_0 a16_234_1 => ?_)
  refine x11_131 (gi := g) a16_228_4 a16_228_14 a16_228_16 a16_228_18 a16_228_31 a16_234_0 a16_234_1 hf16 hr16 (fun r17 g17 hr17 hf17 a17_228_4 a17_228_14 a17_228_16 a17_228_18 a17_228_31 a17_234_0 a17_234_1 => ?_)
  refine x11_139 (gi := g) a17_228_4 a17_228_14 a17_228_16 a17_228_18 a17_228_31 a17_234_0 a17_234_1 hf17 hr17 (fun r18 g18 hr18 hf18 a18_228_4 a18_228_14 a18_228_16 a18_228_18 a18_228_31 a18_234_0 a18_234_1 => ?_)
  refine x11_147 (gi := g) a18_228_4 a18_228_14 a18_228_16 a18_228_18 a18_228_31 a18_234_0 a18_234_1 hf18 hr18 (fun r19 g19 hr19 hf19 a19_228_4 a19_228_14 a19_228_16 a19_228_18 a19_228_31 a19_234_0 a19_234_1 => ?_)
  refine x11_155 (gi := g) a19_228_4 a19_228_14 a19_228_16 a19_228_18 a19_228_31 a19_234_0 a19_234_1 hf19 hr19 (fun r20 g20 hr20 hf20 a20_228_4 a20_228_14 a20_228_16 a20_228_18 a20_228_31 a20_234_0 a20_234_1 => ?_)
  refine x11_163 (gi := g) a20_228_4 a20_228_14 a20_228_16 a20_228_18 a20_228_31 a20_234_0 a20_234_1 hf20 hr20 (fun r21 g21 hr21 hf21 a21_228_4 a21_228_14 a21_228_16 a21_228_18 a21_228_31 a21_234_0 a21_234_1 => ?_)
  have hend : ∀ b j, 228 ≤ b → b < 250 → r21 b j = rf0 b j := fun b j h1 h2 => (hr21.2 b j h1 h2).resolve_left (fun h => by
    rcases h with ⟨e1, e2, e3⟩
    exact e3 (rf0_big (Nat.le_trans (by decide +kernel) e2)))
  exact x11_172 a21_228_4 a21_228_14 a21_228_16 a21_228_18 a21_228_31 a21_234_0 a21_234_1 hf21 ⟨hr21.1, hend⟩ k
