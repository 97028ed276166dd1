theorem dX1_weigh_0 : decode cX1_weigh 0 = .ok (.aload_n 0, 1) := by decide +kernel
theorem dX1_weigh_1 : decode cX1_weigh 1 = .ok (.iload_n 1, 1) := by decide +kernel
theorem dX1_weigh_2 : decode cX1_weigh 2 = .ok (.putfield 17, 3) := by decide +kernel
theorem dX1_weigh_5 : decode cX1_weigh 5 = .ok (.aload_n 0, 1) := by decide +kernel
theorem dX1_weigh_6 : decode cX1_weigh 6 = .ok (.iload_n 2, 1) := by decide +kernel
theorem dX1_weigh_7 : decode cX1_weigh 7 = .ok (.putfield 21, 3) := by decide +kernel
theorem dX1_weigh_10 : decode cX1_weigh 10 = .ok (.aload_n 0, 1) := by decide +kernel
theorem dX1_weigh_11 : decode cX1_weigh 11 = .ok (.iload_n 3, 1) := by decide +kernel
theorem dX1_weigh_12 : decode cX1_weigh 12 = .ok (.putfield 24, 3) := by decide +kernel
theorem dX1_weigh_15 : decode cX1_weigh 15 = .ok (.aload_n 0, 1) := by decide +kernel
theorem dX1_weigh_16 : decode cX1_weigh 16 = .ok (.iload 4, 2) := by decide +kernel
theorem dX1_weigh_18 : decode cX1_weigh 18 = .ok (.putfield 27, 3) := by decide +kernel
theorem dX1_weigh_21 : decode cX1_weigh 21 = .ok (.aload_n 0, 1) := by decide +kernel
theorem dX1_weigh_22 : decode cX1_weigh 22 = .ok (.getfield 11, 3) := by decide +kernel
theorem dX1_weigh_25 : decode cX1_weigh 25 = .ok (.iconst 0, 1) := by decide +kernel
theorem dX1_weigh_26 : decode cX1_weigh 26 = .ok (.aaload, 1) := by decide +kernel
theorem dX1_weigh_27 : decode cX1_weigh 27 = .ok (.aload_n 0, 1) := by decide +kernel
theorem dX1_weigh_28 : decode cX1_weigh 28 = .ok (.getfield 37, 3) := by decide +kernel
theorem dX1_weigh_31 : decode cX1_weigh 31 = .ok (.getfield 42, 3) := by decide +kernel
theorem dX1_weigh_34 : decode cX1_weigh 34 = .ok (.iconst 0, 1) := by decide +kernel
theorem dX1_weigh_35 : decode cX1_weigh 35 = .ok (.aaload, 1) := by decide +kernel
theorem dX1_weigh_36 : decode cX1_weigh 36 = .ok (.invokevirtual 45, 3) := by decide +kernel
theorem dX1_weigh_39 : decode cX1_weigh 39 = .ok (.aload_n 0, 1) := by decide +kernel
theorem dX1_weigh_40 : decode cX1_weigh 40 = .ok (.aload_n 0, 1) := by decide +kernel
theorem dX1_weigh_41 : decode cX1_weigh 41 = .ok (.iconst 0, 1) := by decide +kernel
theorem dX1_weigh_42 : decode cX1_weigh 42 = .ok (.invokestatic 49, 3) := by decide +kernel
theorem dX1_weigh_45 : decode cX1_weigh 45 = .ok (.putfield 30, 3) := by decide +kernel
theorem dX1_weigh_48 : decode cX1_weigh 48 = .ok (.aload_n 0, 1) := by decide +kernel
theorem dX1_weigh_49 : decode cX1_weigh 49 = .ok (.lconst 1, 1) := by decide +kernel
theorem dX1_weigh_50 : decode cX1_weigh 50 = .ok (.putfield 34, 3) := by decide +kernel
theorem dX1_weigh_53 : decode cX1_weigh 53 = .ok (.iconst 0, 1) := by decide +kernel
theorem dX1_weigh_54 : decode cX1_weigh 54 = .ok (.istore 5, 2) := by decide +kernel
theorem dX1_weigh_56 : decode cX1_weigh 56 = .ok (.iload 5, 2) := by decide +kernel
theorem dX1_weigh_58 : decode cX1_weigh 58 = .ok (.iload_n 2, 1) := by decide +kernel
theorem dX1_weigh_59 : decode cX1_weigh 59 = .ok (.if_icmp .gt 21, 3) := by decide +kernel
theorem dX1_weigh_62 : decode cX1_weigh 62 = .ok (.aload_n 0, 1) := by decide +kernel
theorem dX1_weigh_63 : decode cX1_weigh 63 = .ok (.dup, 1) := by decide +kernel
theorem dX1_weigh_64 : decode cX1_weigh 64 = .ok (.getfield 34, 3) := by decide +kernel
theorem dX1_weigh_67 : decode cX1_weigh 67 = .ok (.ldc2_w 53, 3) := by decide +kernel
theorem dX1_weigh_70 : decode cX1_weigh 70 = .ok (.lmul, 1) := by decide +kernel
theorem dX1_weigh_71 : decode cX1_weigh 71 = .ok (.putfield 34, 3) := by decide +kernel
theorem dX1_weigh_74 : decode cX1_weigh 74 = .ok (.iinc 5 1, 3) := by decide +kernel
theorem dX1_weigh_77 : decode cX1_weigh 77 = .ok (.goto (-21), 3) := by decide +kernel
theorem dX1_weigh_80 : decode cX1_weigh 80 = .ok (.iconst 0, 1) := by decide +kernel
theorem dX1_weigh_81 : decode cX1_weigh 81 = .ok (.istore 5, 2) := by decide +kernel
theorem dX1_weigh_83 : decode cX1_weigh 83 = .ok (.iload 5, 2) := by decide +kernel
theorem dX1_weigh_85 : decode cX1_weigh 85 = .ok (.bipush 40, 2) := by decide +kernel
theorem dX1_weigh_87 : decode cX1_weigh 87 = .ok (.if_icmp .ge 55, 3) := by decide +kernel
theorem dX1_weigh_90 : decode cX1_weigh 90 = .ok (.aload_n 0, 1) := by decide +kernel
theorem dX1_weigh_91 : decode cX1_weigh 91 = .ok (.getfield 34, 3) := by decide +kernel
theorem dX1_weigh_94 : decode cX1_weigh 94 = .ok (.lconst 1, 1) := by decide +kernel
theorem dX1_weigh_95 : decode cX1_weigh 95 = .ok (.lcmp, 1) := by decide +kernel
theorem dX1_weigh_96 : decode cX1_weigh 96 = .ok (.ifCond .le 46, 3) := by decide +kernel
theorem dX1_weigh_99 : decode cX1_weigh 99 = .ok (.aload_n 0, 1) := by decide +kernel
theorem dX1_weigh_100 : decode cX1_weigh 100 = .ok (.getfield 30, 3) := by decide +kernel
theorem dX1_weigh_103 : decode cX1_weigh 103 = .ok (.ldc2_w 55, 3) := by decide +kernel
theorem dX1_weigh_106 : decode cX1_weigh 106 = .ok (.lrem, 1) := by decide +kernel
theorem dX1_weigh_107 : decode cX1_weigh 107 = .ok (.lconst 0, 1) := by decide +kernel
theorem dX1_weigh_108 : decode cX1_weigh 108 = .ok (.lcmp, 1) := by decide +kernel
theorem dX1_weigh_109 : decode cX1_weigh 109 = .ok (.ifCond .ne 33, 3) := by decide +kernel
theorem dX1_weigh_112 : decode cX1_weigh 112 = .ok (.aload_n 0, 1) := by decide +kernel
theorem dX1_weigh_113 : decode cX1_weigh 113 = .ok (.dup, 1) := by decide +kernel
theorem dX1_weigh_114 : decode cX1_weigh 114 = .ok (.getfield 30, 3) := by decide +kernel
theorem dX1_weigh_117 : decode cX1_weigh 117 = .ok (.ldc2_w 55, 3) := by decide +kernel
theorem dX1_weigh_120 : decode cX1_weigh 120 = .ok (.ldiv, 1) := by decide +kernel
theorem dX1_weigh_121 : decode cX1_weigh 121 = .ok (.putfield 30, 3) := by decide +kernel
theorem dX1_weigh_124 : decode cX1_weigh 124 = .ok (.aload_n 0, 1) := by decide +kernel
theorem dX1_weigh_125 : decode cX1_weigh 125 = .ok (.dup, 1) := by decide +kernel
theorem dX1_weigh_126 : decode cX1_weigh 126 = .ok (.getfield 34, 3) := by decide +kernel
theorem dX1_weigh_129 : decode cX1_weigh 129 = .ok (.ldc2_w 55, 3) := by decide +kernel
theorem dX1_weigh_132 : decode cX1_weigh 132 = .ok (.ldiv, 1) := by decide +kernel
theorem dX1_weigh_133 : decode cX1_weigh 133 = .ok (.putfield 34, 3) := by decide +kernel
theorem dX1_weigh_136 : decode cX1_weigh 136 = .ok (.iinc 5 1, 3) := by decide +kernel
theorem dX1_weigh_139 : decode cX1_weigh 139 = .ok (.goto (-56), 3) := by decide +kernel
theorem dX1_weigh_142 : decode cX1_weigh 142 = .ok (.return_, 1) := by decide +kernel
set_option maxRecDepth 4000 in
theorem s_X1_weigh_0 {w : GX} {d : Nat} {P : PN} {g : GI} (x1 : Int) (x2 : Int) (x3 : Int) (x4 : Int)
    (h : (∀ g1 : GI, g1 = up2 g 158 2 x1 → (∀ g2 : GI, g2 = up2 g1 158 3 x2 → (∀ g3 : GI, g3 = up2 g2 158 4 x3 → (∀ g4 : GI, g4 = up2 g3 158 5 x4 → Zm w (d + 2) mX8_become 0 [some (aR (some (160))), some (aR (some (31)))] [] g4 (fun r g5 => r = none ∧ Zm w (d + 2) mX1_ways 0 [some (aR (some (158))), some (aI (0)), none, none, none, none] [] g5 (fun r g7 => ∃ z8 : Int, r = some (aL z8) ∧ (∀ g9 : GI, g9 = up2 g7 158 6 z8 → (∀ g10 : GI, g10 = up2 g9 158 7 1 → Zm w (d + 3) mX1_weigh 56 [some (aR (some (158))), none, some (aI (x2)), none, none, some (aI (0))] [] g10 P))))))))) :
    Zm w (d + 3) mX1_weigh 0 [some (aR (some (158))), some (aI (x1)), some (aI (x2)), some (aI (x3)), some (aI (x4)), none] [] g P := by
  refine z_aload_n dX1_weigh_0 rfl rfl ?_
  refine z_iload_n dX1_weigh_1 rfl rfl ?_
  replace h := h _ rfl
  refine z_putI dX1_weigh_2 fw_X1_17 (by decide) kt_158 ?_
  refine z_aload_n dX1_weigh_5 rfl rfl ?_
  refine z_iload_n dX1_weigh_6 rfl rfl ?_
  replace h := h _ rfl
  refine z_putI dX1_weigh_7 fw_X1_21 (by decide) kt_158 ?_
  refine z_aload_n dX1_weigh_10 rfl rfl ?_
  refine z_iload_n dX1_weigh_11 rfl rfl ?_
  replace h := h _ rfl
  refine z_putI dX1_weigh_12 fw_X1_24 (by decide) kt_158 ?_
  refine z_aload_n dX1_weigh_15 rfl rfl ?_
  refine z_iload dX1_weigh_16 rfl ?_
  replace h := h _ rfl
  refine z_putI dX1_weigh_18 fw_X1_27 (by decide) kt_158 ?_
  refine z_aload_n dX1_weigh_21 rfl rfl ?_
  refine m_getR dX1_weigh_22 fl_X1_11 (by decide) kt_158 rv_158_1 ?_
  refine z_iconst dX1_weigh_25 ?_
  refine m_aaldv (r := 160) dX1_weigh_26 kv_159 (by decide) (by decide) (by decide +kernel) ?_
  refine z_aload_n dX1_weigh_27 rfl rfl ?_
  refine m_getR dX1_weigh_28 fl_X1_37 (by decide) kt_158 rv_158_0 ?_
  refine m_getR dX1_weigh_31 fl_X1_42 (by decide) kt_27 rv_27_5 ?_
  refine z_iconst dX1_weigh_34 ?_
  refine m_aaldv (r := 31) dX1_weigh_35 kv_30 (by decide) (by decide) (by decide +kernel) ?_
  refine m_callV (as := [aR (some (31))]) dX1_weigh_36 lk_X1_45 mok_X8_become in_X8_become sl_X8_become kt_160 rfl rfl rfl (Nat.le_of_ble_eq_true rfl) rfl (Nat.le_of_ble_eq_true rfl) rfl (m_mono (fun r g5 hr => ?_) h)
  obtain ⟨rfl, h⟩ := hr
  show Zm w (d + 3) mX1_weigh 39 [some (aR (some (158))), some (aI (x1)), some (aI (x2)), some (aI (x3)), some (aI (x4)), none] [] g5 P
  refine z_aload_n dX1_weigh_39 rfl rfl ?_
  refine z_aload_n dX1_weigh_40 rfl rfl ?_
  refine z_iconst dX1_weigh_41 ?_
  refine m_callS (as := [aR (some (158)), aI (0)]) dX1_weigh_42 lk_X1_49 mok_X1_ways st_X1_ways rfl (Nat.le_of_ble_eq_true rfl) rfl (Nat.le_of_ble_eq_true rfl) rfl (m_mono (fun r g7 hr => ?_) h)
  obtain ⟨z8, rfl, h⟩ := hr
  show Zm w (d + 3) mX1_weigh 45 [some (aR (some (158))), some (aI (x1)), some (aI (x2)), some (aI (x3)), some (aI (x4)), none] [aL (z8), aR (some (158))] g7 P
  replace h := h _ rfl
  refine z_putL dX1_weigh_45 fw_X1_30 (by decide) kt_158 ?_
  refine z_aload_n dX1_weigh_48 rfl rfl ?_
  refine z_lconst (z := 1) dX1_weigh_49 rfl ?_
  replace h := h _ rfl
  refine z_putL dX1_weigh_50 fw_X1_34 (by decide) kt_158 ?_
  refine z_iconst dX1_weigh_53 ?_
  refine z_istore dX1_weigh_54 (by decide) rfl ?_
  show Zm w (d + 3) mX1_weigh 56 [some (aR (some (158))), some (aI (x1)), some (aI (x2)), some (aI (x3)), some (aI (x4)), some (aI (0))] [] (up2 (up2 g7 158 6 z8) 158 7 1) P
  exact z_weak (by simp [lle]) h
set_option maxRecDepth 4000 in
theorem s_X1_weigh_56 {w : GX} {d : Nat} {P : PN} {g : GI} (x2 : Int) (x5 : Int)
    (h : ((nm x2 < nm x5 → Zm w (d + 3) mX1_weigh 83 [some (aR (some (158))), none, none, none, none, some (aI (0))] [] g P) ∧ (¬ nm x2 < nm x5 → (∀ g2 : GI, g2 = up2 g 158 7 ((g 158 7) * 16) → Zm w (d + 3) mX1_weigh 56 [some (aR (some (158))), none, some (aI (x2)), none, none, some (aI (x5 + 1))] [] g2 P)))) :
    Zm w (d + 3) mX1_weigh 56 [some (aR (some (158))), none, some (aI (x2)), none, none, some (aI (x5))] [] g P := by
  refine z_iload dX1_weigh_56 rfl ?_
  refine z_iload_n dX1_weigh_58 rfl rfl ?_
  refine z_icmp_gt (tgt := 80) dX1_weigh_59 (by decide) (fun c1 => ?_) (fun c1 => ?_)
  · replace h := h.1 c1
    refine z_iconst dX1_weigh_80 ?_
    refine z_istore dX1_weigh_81 (by decide) rfl ?_
    show Zm w (d + 3) mX1_weigh 83 [some (aR (some (158))), none, some (aI (x2)), none, none, some (aI (0))] [] g P
    exact z_weak (by simp [lle]) h
  · replace h := h.2 c1
    refine z_aload_n dX1_weigh_62 rfl rfl ?_
    refine z_dup dX1_weigh_63 rfl ?_
    refine z_getL dX1_weigh_64 fl_X1_34 (by decide) kt_158 ?_
    refine z_ldc2 dX1_weigh_67 kl_X1_53 ?_
    refine z_lmul dX1_weigh_70 ?_
    replace h := h _ rfl
    refine z_putL dX1_weigh_71 fw_X1_34 (by decide) kt_158 ?_
    refine z_iinc dX1_weigh_74 rfl (by decide) rfl ?_
    show Zm w (d + 3) mX1_weigh 77 [some (aR (some (158))), none, some (aI (x2)), none, none, some (aI (x5 + 1))] [] (up2 g 158 7 ((g 158 7) * 16)) P
    refine z_goto (tgt := 56) dX1_weigh_77 (by decide) ?_
    exact z_weak (by simp [lle]) h
set_option maxRecDepth 4000 in
theorem s_X1_weigh_83 {w : GX} {d : Nat} {P : PN} {g : GI} (x5 : Int)
    (h : ((¬ nm x5 < nm 40 → P none g) ∧ (nm x5 < nm 40 → ((¬ 0 < nm (lCmp (g 158 7) 1) → P none g) ∧ (0 < nm (lCmp (g 158 7) 1) → ((¬ nm (lCmp (lRem (g 158 6) 2) 0) = 0 → P none g) ∧ (nm (lCmp (lRem (g 158 6) 2) 0) = 0 → (∀ g4 : GI, g4 = up2 g 158 6 (lDiv (g 158 6) 2) → (∀ g5 : GI, g5 = up2 g4 158 7 (lDiv (g4 158 7) 2) → Zm w (d + 3) mX1_weigh 83 [some (aR (some (158))), none, none, none, none, some (aI (x5 + 1))] [] g5 P))))))))) :
    Zm w (d + 3) mX1_weigh 83 [some (aR (some (158))), none, none, none, none, some (aI (x5))] [] g P := by
  refine z_iload dX1_weigh_83 rfl ?_
  refine z_bipush dX1_weigh_85 rfl ?_
  refine z_icmp_ge (tgt := 142) dX1_weigh_87 (by decide) (fun c1 => ?_) (fun c1 => ?_)
  · replace h := h.1 c1
    exact m_vret dX1_weigh_142 rfl h
  · replace h := h.2 (Decidable.not_not.mp c1)
    refine z_aload_n dX1_weigh_90 rfl rfl ?_
    refine z_getL dX1_weigh_91 fl_X1_34 (by decide) kt_158 ?_
    refine z_lconst (z := 1) dX1_weigh_94 rfl ?_
    refine z_lcmp dX1_weigh_95 ?_
    refine z_if_le (tgt := 142) dX1_weigh_96 (by decide) (fun c2 => ?_) (fun c2 => ?_)
    · replace h := h.1 c2
      exact m_vret dX1_weigh_142 rfl h
    · replace h := h.2 (Decidable.not_not.mp c2)
      refine z_aload_n dX1_weigh_99 rfl rfl ?_
      refine z_getL dX1_weigh_100 fl_X1_30 (by decide) kt_158 ?_
      refine z_ldc2 dX1_weigh_103 kl_X1_55 ?_
      refine z_lrem dX1_weigh_106 (by decide) ?_
      refine z_lconst (z := 0) dX1_weigh_107 rfl ?_
      refine z_lcmp dX1_weigh_108 ?_
      refine z_if_ne (tgt := 142) dX1_weigh_109 (by decide) (fun c3 => ?_) (fun c3 => ?_)
      · replace h := h.1 c3
        exact m_vret dX1_weigh_142 rfl h
      · replace h := h.2 (Decidable.not_not.mp c3)
        refine z_aload_n dX1_weigh_112 rfl rfl ?_
        refine z_dup dX1_weigh_113 rfl ?_
        refine z_getL dX1_weigh_114 fl_X1_30 (by decide) kt_158 ?_
        refine z_ldc2 dX1_weigh_117 kl_X1_55 ?_
        refine z_ldiv dX1_weigh_120 (by decide) ?_
        replace h := h _ rfl
        refine z_putL dX1_weigh_121 fw_X1_30 (by decide) kt_158 ?_
        refine z_aload_n dX1_weigh_124 rfl rfl ?_
        refine z_dup dX1_weigh_125 rfl ?_
        refine z_getL dX1_weigh_126 fl_X1_34 (by decide) kt_158 ?_
        refine z_ldc2 dX1_weigh_129 kl_X1_55 ?_
        refine z_ldiv dX1_weigh_132 (by decide) ?_
        replace h := h _ rfl
        refine z_putL dX1_weigh_133 fw_X1_34 (by decide) kt_158 ?_
        refine z_iinc dX1_weigh_136 rfl (by decide) rfl ?_
        show Zm w (d + 3) mX1_weigh 139 [some (aR (some (158))), none, none, none, none, some (aI (x5 + 1))] [] (up2 (up2 g 158 6 (lDiv (g 158 6) 2)) 158 7 (lDiv ((up2 g 158 6 (lDiv (g 158 6) 2)) 158 7) 2)) P
        refine z_goto (tgt := 83) dX1_weigh_139 (by decide) ?_
        exact z_weak (by simp [lle]) h
theorem dX1_ways_0 : decode cX1_ways 0 = .ok (.aload_n 0, 1) := by decide +kernel
theorem dX1_ways_1 : decode cX1_ways 1 = .ok (.getfield 37, 3) := by decide +kernel
theorem dX1_ways_4 : decode cX1_ways 4 = .ok (.astore_n 2, 1) := by decide +kernel
theorem dX1_ways_5 : decode cX1_ways 5 = .ok (.iload_n 1, 1) := by decide +kernel
theorem dX1_ways_6 : decode cX1_ways 6 = .ok (.aload_n 0, 1) := by decide +kernel
theorem dX1_ways_7 : decode cX1_ways 7 = .ok (.getfield 21, 3) := by decide +kernel
theorem dX1_ways_10 : decode cX1_ways 10 = .ok (.if_icmp .gt 9, 3) := by decide +kernel
theorem dX1_ways_13 : decode cX1_ways 13 = .ok (.iload_n 1, 1) := by decide +kernel
theorem dX1_ways_14 : decode cX1_ways 14 = .ok (.bipush 10, 2) := by decide +kernel
theorem dX1_ways_16 : decode cX1_ways 16 = .ok (.if_icmp .lt 33, 3) := by decide +kernel
theorem dX1_ways_19 : decode cX1_ways 19 = .ok (.aload_n 0, 1) := by decide +kernel
theorem dX1_ways_20 : decode cX1_ways 20 = .ok (.getfield 11, 3) := by decide +kernel
theorem dX1_ways_23 : decode cX1_ways 23 = .ok (.iload_n 1, 1) := by decide +kernel
theorem dX1_ways_24 : decode cX1_ways 24 = .ok (.aaload, 1) := by decide +kernel
theorem dX1_ways_25 : decode cX1_ways 25 = .ok (.aload_n 2, 1) := by decide +kernel
theorem dX1_ways_26 : decode cX1_ways 26 = .ok (.getfield 57, 3) := by decide +kernel
theorem dX1_ways_29 : decode cX1_ways 29 = .ok (.aload_n 0, 1) := by decide +kernel
theorem dX1_ways_30 : decode cX1_ways 30 = .ok (.getfield 24, 3) := by decide +kernel
theorem dX1_ways_33 : decode cX1_ways 33 = .ok (.invokevirtual 61, 3) := by decide +kernel
theorem dX1_ways_36 : decode cX1_ways 36 = .ok (.aload_n 0, 1) := by decide +kernel
theorem dX1_ways_37 : decode cX1_ways 37 = .ok (.getfield 27, 3) := by decide +kernel
theorem dX1_ways_40 : decode cX1_ways 40 = .ok (.if_icmp .ne 7, 3) := by decide +kernel
theorem dX1_ways_43 : decode cX1_ways 43 = .ok (.lconst 1, 1) := by decide +kernel
theorem dX1_ways_44 : decode cX1_ways 44 = .ok (.goto 4, 3) := by decide +kernel
theorem dX1_ways_47 : decode cX1_ways 47 = .ok (.lconst 0, 1) := by decide +kernel
theorem dX1_ways_48 : decode cX1_ways 48 = .ok (.lreturn, 1) := by decide +kernel
theorem dX1_ways_49 : decode cX1_ways 49 = .ok (.aload_n 0, 1) := by decide +kernel
theorem dX1_ways_50 : decode cX1_ways 50 = .ok (.getfield 11, 3) := by decide +kernel
theorem dX1_ways_53 : decode cX1_ways 53 = .ok (.iload_n 1, 1) := by decide +kernel
theorem dX1_ways_54 : decode cX1_ways 54 = .ok (.iconst 1, 1) := by decide +kernel
theorem dX1_ways_55 : decode cX1_ways 55 = .ok (.iadd, 1) := by decide +kernel
theorem dX1_ways_56 : decode cX1_ways 56 = .ok (.aaload, 1) := by decide +kernel
theorem dX1_ways_57 : decode cX1_ways 57 = .ok (.astore_n 3, 1) := by decide +kernel
theorem dX1_ways_58 : decode cX1_ways 58 = .ok (.aload_n 3, 1) := by decide +kernel
theorem dX1_ways_59 : decode cX1_ways 59 = .ok (.aload_n 0, 1) := by decide +kernel
theorem dX1_ways_60 : decode cX1_ways 60 = .ok (.getfield 11, 3) := by decide +kernel
theorem dX1_ways_63 : decode cX1_ways 63 = .ok (.iload_n 1, 1) := by decide +kernel
theorem dX1_ways_64 : decode cX1_ways 64 = .ok (.aaload, 1) := by decide +kernel
theorem dX1_ways_65 : decode cX1_ways 65 = .ok (.invokevirtual 45, 3) := by decide +kernel
theorem dX1_ways_68 : decode cX1_ways 68 = .ok (.aload_n 2, 1) := by decide +kernel
theorem dX1_ways_69 : decode cX1_ways 69 = .ok (.aload_n 3, 1) := by decide +kernel
theorem dX1_ways_70 : decode cX1_ways 70 = .ok (.iload_n 1, 1) := by decide +kernel
theorem dX1_ways_71 : decode cX1_ways 71 = .ok (.aload_n 2, 1) := by decide +kernel
theorem dX1_ways_72 : decode cX1_ways 72 = .ok (.getfield 65, 3) := by decide +kernel
theorem dX1_ways_75 : decode cX1_ways 75 = .ok (.invokevirtual 69, 3) := by decide +kernel
theorem dX1_ways_78 : decode cX1_ways 78 = .ok (.pop, 1) := by decide +kernel
theorem dX1_ways_79 : decode cX1_ways 79 = .ok (.aload_n 2, 1) := by decide +kernel
theorem dX1_ways_80 : decode cX1_ways 80 = .ok (.aload_n 3, 1) := by decide +kernel
theorem dX1_ways_81 : decode cX1_ways 81 = .ok (.iload_n 1, 1) := by decide +kernel
theorem dX1_ways_82 : decode cX1_ways 82 = .ok (.invokevirtual 73, 3) := by decide +kernel
theorem dX1_ways_85 : decode cX1_ways 85 = .ok (.aload_n 3, 1) := by decide +kernel
theorem dX1_ways_86 : decode cX1_ways 86 = .ok (.aload_n 2, 1) := by decide +kernel
theorem dX1_ways_87 : decode cX1_ways 87 = .ok (.getfield 57, 3) := by decide +kernel
theorem dX1_ways_90 : decode cX1_ways 90 = .ok (.iload_n 1, 1) := by decide +kernel
theorem dX1_ways_91 : decode cX1_ways 91 = .ok (.invokevirtual 77, 3) := by decide +kernel
theorem dX1_ways_94 : decode cX1_ways 94 = .ok (.lconst 0, 1) := by decide +kernel
theorem dX1_ways_95 : decode cX1_ways 95 = .ok (.lstore 4, 2) := by decide +kernel
theorem dX1_ways_97 : decode cX1_ways 97 = .ok (.aload_n 0, 1) := by decide +kernel
theorem dX1_ways_98 : decode cX1_ways 98 = .ok (.getfield 17, 3) := by decide +kernel
theorem dX1_ways_101 : decode cX1_ways 101 = .ok (.bipush 16, 2) := by decide +kernel
theorem dX1_ways_103 : decode cX1_ways 103 = .ok (.if_icmp .ge 24, 3) := by decide +kernel
theorem dX1_ways_106 : decode cX1_ways 106 = .ok (.lload 4, 2) := by decide +kernel
theorem dX1_ways_108 : decode cX1_ways 108 = .ok (.bipush 16, 2) := by decide +kernel
theorem dX1_ways_110 : decode cX1_ways 110 = .ok (.aload_n 0, 1) := by decide +kernel
theorem dX1_ways_111 : decode cX1_ways 111 = .ok (.getfield 17, 3) := by decide +kernel
theorem dX1_ways_114 : decode cX1_ways 114 = .ok (.isub, 1) := by decide +kernel
theorem dX1_ways_115 : decode cX1_ways 115 = .ok (.i2l, 1) := by decide +kernel
theorem dX1_ways_116 : decode cX1_ways 116 = .ok (.aload_n 0, 1) := by decide +kernel
theorem dX1_ways_117 : decode cX1_ways 117 = .ok (.iload_n 1, 1) := by decide +kernel
theorem dX1_ways_118 : decode cX1_ways 118 = .ok (.iconst 1, 1) := by decide +kernel
theorem dX1_ways_119 : decode cX1_ways 119 = .ok (.iadd, 1) := by decide +kernel
theorem dX1_ways_120 : decode cX1_ways 120 = .ok (.invokestatic 49, 3) := by decide +kernel
theorem dX1_ways_123 : decode cX1_ways 123 = .ok (.lmul, 1) := by decide +kernel
theorem dX1_ways_124 : decode cX1_ways 124 = .ok (.ladd, 1) := by decide +kernel
theorem dX1_ways_125 : decode cX1_ways 125 = .ok (.lstore 4, 2) := by decide +kernel
theorem dX1_ways_127 : decode cX1_ways 127 = .ok (.aload_n 0, 1) := by decide +kernel
theorem dX1_ways_128 : decode cX1_ways 128 = .ok (.getfield 17, 3) := by decide +kernel
theorem dX1_ways_131 : decode cX1_ways 131 = .ok (.ifCond .le 30, 3) := by decide +kernel
theorem dX1_ways_134 : decode cX1_ways 134 = .ok (.aload_n 3, 1) := by decide +kernel
theorem dX1_ways_135 : decode cX1_ways 135 = .ok (.aload_n 2, 1) := by decide +kernel
theorem dX1_ways_136 : decode cX1_ways 136 = .ok (.getfield 57, 3) := by decide +kernel
theorem dX1_ways_139 : decode cX1_ways 139 = .ok (.iload_n 1, 1) := by decide +kernel
theorem dX1_ways_140 : decode cX1_ways 140 = .ok (.invokevirtual 77, 3) := by decide +kernel
theorem dX1_ways_143 : decode cX1_ways 143 = .ok (.lload 4, 2) := by decide +kernel
theorem dX1_ways_145 : decode cX1_ways 145 = .ok (.aload_n 0, 1) := by decide +kernel
theorem dX1_ways_146 : decode cX1_ways 146 = .ok (.getfield 17, 3) := by decide +kernel
theorem dX1_ways_149 : decode cX1_ways 149 = .ok (.i2l, 1) := by decide +kernel
theorem dX1_ways_150 : decode cX1_ways 150 = .ok (.aload_n 0, 1) := by decide +kernel
theorem dX1_ways_151 : decode cX1_ways 151 = .ok (.iload_n 1, 1) := by decide +kernel
theorem dX1_ways_152 : decode cX1_ways 152 = .ok (.iconst 1, 1) := by decide +kernel
theorem dX1_ways_153 : decode cX1_ways 153 = .ok (.iadd, 1) := by decide +kernel
theorem dX1_ways_154 : decode cX1_ways 154 = .ok (.invokestatic 49, 3) := by decide +kernel
theorem dX1_ways_157 : decode cX1_ways 157 = .ok (.lmul, 1) := by decide +kernel
theorem dX1_ways_158 : decode cX1_ways 158 = .ok (.ladd, 1) := by decide +kernel
theorem dX1_ways_159 : decode cX1_ways 159 = .ok (.lstore 4, 2) := by decide +kernel
theorem dX1_ways_161 : decode cX1_ways 161 = .ok (.lload 4, 2) := by decide +kernel
theorem dX1_ways_163 : decode cX1_ways 163 = .ok (.lreturn, 1) := by decide +kernel
set_option maxRecDepth 4000 in
theorem s_X1_ways_0 {w : GX} {d : Nat} {P : PN} {g : GI} (x1 : Int)
    (h : ((nm (g 158 3) < nm x1 → Zm w (d + 2) mX1_ways 19 [some (aR (some (158))), some (aI (x1)), some (aR (some (27))), none, none, none] [] g P) ∧ (¬ nm (g 158 3) < nm x1 → ((nm x1 < nm 10 → (0 ≤ nm (x1 + 1) ∧ nm (x1 + 1) < 11 ∧ (0 ≤ nm x1 ∧ nm x1 < 11 ∧ Zm w (d + 1) mX8_become 0 [some (aR (some (160 + 5 * (nm (x1 + 1)).toNat))), some (aR (some (160 + 5 * (nm x1).toNat)))] [] g (fun r g9 => r = none ∧ Zm w (d + 1) mX2_crossTold 0 [some (aR (some (27))), some (aR (some (160 + 5 * (nm (x1 + 1)).toNat))), some (aI (x1)), some (aR (some (28))), none, none, none] [] g9 (fun r g11 => ∃ z12 : Int, r = some (aI z12) ∧ Zm w (d + 1) mX2_catchTold 0 [some (aR (some (27))), some (aR (some (160 + 5 * (nm (x1 + 1)).toNat))), some (aI (x1)), none] [] g11 (fun r g13 => r = none ∧ Zm w (d + 1) mX8_drift 0 [some (aR (some (160 + 5 * (nm (x1 + 1)).toNat))), some (aR (some (18))), some (aI (x1)), none, none, none, none] [] g13 (fun r g15 => r = none ∧ ((¬ nm (g15 158 2) < nm 16 → Zm w (d + 2) mX1_ways 127 [some (aR (some (158))), some (aI (x1)), some (aR (some (27))), some (aR (some (160 + 5 * (nm (x1 + 1)).toNat))), some (aL (0)), none] [] g15 P) ∧ (nm (g15 158 2) < nm 16 → Zm w (d + 1) mX1_ways 0 [some (aR (some (158))), some (aI (x1 + 1)), none, none, none, none] [] g15 (fun r g18 => ∃ z19 : Int, r = some (aL z19) ∧ (∀ v20 : Int, v20 = 0 + ((nm (16 - (g15 158 2))) * z19) → Zm w (d + 2) mX1_ways 127 [some (aR (some (158))), some (aI (x1)), some (aR (some (27))), some (aR (some (160 + 5 * (nm (x1 + 1)).toNat))), some (aL (v20)), none] [] g18 P))))))))))) ∧ (¬ nm x1 < nm 10 → Zm w (d + 2) mX1_ways 19 [some (aR (some (158))), some (aI (x1)), some (aR (some (27))), none, none, none] [] g P))))) :
    Zm w (d + 2) mX1_ways 0 [some (aR (some (158))), some (aI (x1)), none, none, none, none] [] g P := by
  refine z_aload_n dX1_ways_0 rfl rfl ?_
  refine m_getR dX1_ways_1 fl_X1_37 (by decide) kt_158 rv_158_0 ?_
  refine z_astore_n dX1_ways_4 rfl (by decide) rfl ?_
  show Zm w (d + 2) mX1_ways 5 [some (aR (some (158))), some (aI (x1)), some (aR (some (27))), none, none, none] [] g P
  refine z_iload_n dX1_ways_5 rfl rfl ?_
  refine z_aload_n dX1_ways_6 rfl rfl ?_
  refine z_getI dX1_ways_7 fl_X1_21 (by decide) kt_158 ?_
  refine z_icmp_gt (tgt := 19) dX1_ways_10 (by decide) (fun c1 => ?_) (fun c1 => ?_)
  · replace h := h.1 c1
    exact z_weak (by simp [lle]) h
  · replace h := h.2 c1
    refine z_iload_n dX1_ways_13 rfl rfl ?_
    refine z_bipush dX1_ways_14 rfl ?_
    refine z_icmp_lt (tgt := 49) dX1_ways_16 (by decide) (fun c2 => ?_) (fun c2 => ?_)
    · replace h := h.1 c2
      refine z_aload_n dX1_ways_49 rfl rfl ?_
      refine m_getR dX1_ways_50 fl_X1_11 (by decide) kt_158 rv_158_1 ?_
      refine z_iload_n dX1_ways_53 rfl rfl ?_
      refine z_iconst dX1_ways_54 ?_
      refine z_iadd dX1_ways_55 ?_
      obtain ⟨q3, q4, h⟩ := h
      have t5 : (nm (x1 + 1)).toNat < 11 := by omega
      refine m_aaldv dX1_ways_56 kv_159 q3 q4 (w_chance _ t5) ?_
      refine z_astore_n dX1_ways_57 rfl (by decide) rfl ?_
      show Zm w (d + 2) mX1_ways 58 [some (aR (some (158))), some (aI (x1)), some (aR (some (27))), some (aR (some (160 + 5 * (nm (x1 + 1)).toNat))), none, none] [] g P
      refine z_aload_n dX1_ways_58 rfl rfl ?_
      refine z_aload_n dX1_ways_59 rfl rfl ?_
      refine m_getR dX1_ways_60 fl_X1_11 (by decide) kt_158 rv_158_1 ?_
      refine z_iload_n dX1_ways_63 rfl rfl ?_
      obtain ⟨q6, q7, h⟩ := h
      have t8 : (nm x1).toNat < 11 := by omega
      refine m_aaldv dX1_ways_64 kv_159 q6 q7 (w_chance _ t8) ?_
      refine m_callV (as := [aR (some (160 + 5 * (nm x1).toNat))]) dX1_ways_65 lk_X1_45 mok_X8_become in_X8_become sl_X8_become (congrArg Prod.fst (isW_chance _ t5).1) rfl rfl rfl (Nat.le_of_ble_eq_true rfl) rfl (Nat.le_of_ble_eq_true rfl) rfl (m_mono (fun r g9 hr => ?_) h)
      obtain ⟨rfl, h⟩ := hr
      show Zm w (d + 2) mX1_ways 68 [some (aR (some (158))), some (aI (x1)), some (aR (some (27))), some (aR (some (160 + 5 * (nm (x1 + 1)).toNat))), none, none] [] g9 P
      refine z_aload_n dX1_ways_68 rfl rfl ?_
      refine z_aload_n dX1_ways_69 rfl rfl ?_
      refine z_iload_n dX1_ways_70 rfl rfl ?_
      refine z_aload_n dX1_ways_71 rfl rfl ?_
      refine m_getR dX1_ways_72 fl_X1_65 (by decide) kt_27 rv_27_4 ?_
      refine m_callV (as := [aR (some (160 + 5 * (nm (x1 + 1)).toNat)), aI (x1), aR (some (28))]) dX1_ways_75 lk_X1_69 mok_X2_crossTold in_X2_crossTold sl_X2_crossTold kt_27 rfl rfl rfl (Nat.le_of_ble_eq_true rfl) rfl (Nat.le_of_ble_eq_true rfl) rfl (m_mono (fun r g11 hr => ?_) h)
      obtain ⟨z12, rfl, h⟩ := hr
      show Zm w (d + 2) mX1_ways 78 [some (aR (some (158))), some (aI (x1)), some (aR (some (27))), some (aR (some (160 + 5 * (nm (x1 + 1)).toNat))), none, none] [aI (z12)] g11 P
      refine z_pop dX1_ways_78 rfl ?_
      refine z_aload_n dX1_ways_79 rfl rfl ?_
      refine z_aload_n dX1_ways_80 rfl rfl ?_
      refine z_iload_n dX1_ways_81 rfl rfl ?_
      refine m_callV (as := [aR (some (160 + 5 * (nm (x1 + 1)).toNat)), aI (x1)]) dX1_ways_82 lk_X1_73 mok_X2_catchTold in_X2_catchTold sl_X2_catchTold kt_27 rfl rfl rfl (Nat.le_of_ble_eq_true rfl) rfl (Nat.le_of_ble_eq_true rfl) rfl (m_mono (fun r g13 hr => ?_) h)
      obtain ⟨rfl, h⟩ := hr
      show Zm w (d + 2) mX1_ways 85 [some (aR (some (158))), some (aI (x1)), some (aR (some (27))), some (aR (some (160 + 5 * (nm (x1 + 1)).toNat))), none, none] [] g13 P
      refine z_aload_n dX1_ways_85 rfl rfl ?_
      refine z_aload_n dX1_ways_86 rfl rfl ?_
      refine m_getR dX1_ways_87 fl_X1_57 (by decide) kt_27 rv_27_0 ?_
      refine z_iload_n dX1_ways_90 rfl rfl ?_
      refine m_callV (as := [aR (some (18)), aI (x1)]) dX1_ways_91 lk_X1_77 mok_X8_drift in_X8_drift sl_X8_drift (congrArg Prod.fst (isW_chance _ t5).1) rfl rfl rfl (Nat.le_of_ble_eq_true rfl) rfl (Nat.le_of_ble_eq_true rfl) rfl (m_mono (fun r g15 hr => ?_) h)
      obtain ⟨rfl, h⟩ := hr
      show Zm w (d + 2) mX1_ways 94 [some (aR (some (158))), some (aI (x1)), some (aR (some (27))), some (aR (some (160 + 5 * (nm (x1 + 1)).toNat))), none, none] [] g15 P
      refine z_lconst (z := 0) dX1_ways_94 rfl ?_
      refine z_lstore dX1_ways_95 (by decide) rfl ?_
      show Zm w (d + 2) mX1_ways 97 [some (aR (some (158))), some (aI (x1)), some (aR (some (27))), some (aR (some (160 + 5 * (nm (x1 + 1)).toNat))), some (aL (0)), none] [] g15 P
      refine z_aload_n dX1_ways_97 rfl rfl ?_
      refine z_getI dX1_ways_98 fl_X1_17 (by decide) kt_158 ?_
      refine z_bipush dX1_ways_101 rfl ?_
      refine z_icmp_ge (tgt := 127) dX1_ways_103 (by decide) (fun c17 => ?_) (fun c17 => ?_)
      · replace h := h.1 c17
        exact z_weak (by simp [lle]) h
      · replace h := h.2 (Decidable.not_not.mp c17)
        refine z_lload dX1_ways_106 rfl ?_
        refine z_bipush dX1_ways_108 rfl ?_
        refine z_aload_n dX1_ways_110 rfl rfl ?_
        refine z_getI dX1_ways_111 fl_X1_17 (by decide) kt_158 ?_
        refine z_isub dX1_ways_114 ?_
        refine z_i2l dX1_ways_115 ?_
        refine z_aload_n dX1_ways_116 rfl rfl ?_
        refine z_iload_n dX1_ways_117 rfl rfl ?_
        refine z_iconst dX1_ways_118 ?_
        refine z_iadd dX1_ways_119 ?_
        refine m_callS (as := [aR (some (158)), aI (x1 + 1)]) dX1_ways_120 lk_X1_49 mok_X1_ways st_X1_ways rfl (Nat.le_of_ble_eq_true rfl) rfl (Nat.le_of_ble_eq_true rfl) rfl (m_mono (fun r g18 hr => ?_) h)
        obtain ⟨z19, rfl, h⟩ := hr
        show Zm w (d + 2) mX1_ways 123 [some (aR (some (158))), some (aI (x1)), some (aR (some (27))), some (aR (some (160 + 5 * (nm (x1 + 1)).toNat))), some (aL (0)), none] [aL (z19), aL (nm (16 - (g15 158 2))), aL (0)] g18 P
        refine z_lmul dX1_ways_123 ?_
        refine z_ladd dX1_ways_124 ?_
        replace h := h _ rfl
        refine z_lstore dX1_ways_125 (by decide) rfl ?_
        show Zm w (d + 2) mX1_ways 127 [some (aR (some (158))), some (aI (x1)), some (aR (some (27))), some (aR (some (160 + 5 * (nm (x1 + 1)).toNat))), some (aL (0 + ((nm (16 - (g15 158 2))) * z19))), none] [] g18 P
        exact z_weak (by simp [lle]) h
    · replace h := h.2 c2
      exact z_weak (by simp [lle]) h
set_option maxRecDepth 4000 in
theorem s_X1_ways_19 {w : GX} {d : Nat} {P : PN} {g : GI} (x1 : Int)
    (h : (0 ≤ nm x1 ∧ nm x1 < 11 ∧ Zm w (d + 1) mX8_letterOf 0 [some (aR (some (160 + 5 * (nm x1).toNat))), some (aR (some (18))), some (aI (g 158 4)), none] [] g (fun r g4 => ∃ z5 : Int, r = some (aI z5) ∧ ((¬ nm z5 = nm (g4 158 5) → P (some (aL (0))) g4) ∧ (nm z5 = nm (g4 158 5) → P (some (aL (1))) g4))))) :
    Zm w (d + 2) mX1_ways 19 [some (aR (some (158))), some (aI (x1)), some (aR (some (27))), none, none, none] [] g P := by
  refine z_aload_n dX1_ways_19 rfl rfl ?_
  refine m_getR dX1_ways_20 fl_X1_11 (by decide) kt_158 rv_158_1 ?_
  refine z_iload_n dX1_ways_23 rfl rfl ?_
  obtain ⟨q1, q2, h⟩ := h
  have t3 : (nm x1).toNat < 11 := by omega
  refine m_aaldv dX1_ways_24 kv_159 q1 q2 (w_chance _ t3) ?_
  refine z_aload_n dX1_ways_25 rfl rfl ?_
  refine m_getR dX1_ways_26 fl_X1_57 (by decide) kt_27 rv_27_0 ?_
  refine z_aload_n dX1_ways_29 rfl rfl ?_
  refine z_getI dX1_ways_30 fl_X1_24 (by decide) kt_158 ?_
  refine m_callV (as := [aR (some (18)), aI (g 158 4)]) dX1_ways_33 lk_X1_61 mok_X8_letterOf in_X8_letterOf sl_X8_letterOf (congrArg Prod.fst (isW_chance _ t3).1) rfl rfl rfl (Nat.le_of_ble_eq_true rfl) rfl (Nat.le_of_ble_eq_true rfl) rfl (m_mono (fun r g4 hr => ?_) h)
  obtain ⟨z5, rfl, h⟩ := hr
  show Zm w (d + 2) mX1_ways 36 [some (aR (some (158))), some (aI (x1)), some (aR (some (27))), none, none, none] [aI (z5)] g4 P
  refine z_aload_n dX1_ways_36 rfl rfl ?_
  refine z_getI dX1_ways_37 fl_X1_27 (by decide) kt_158 ?_
  refine z_icmp_ne (tgt := 47) dX1_ways_40 (by decide) (fun c6 => ?_) (fun c6 => ?_)
  · replace h := h.1 c6
    refine z_lconst (z := 0) dX1_ways_47 rfl ?_
    exact m_lret dX1_ways_48 rfl h
  · replace h := h.2 (Decidable.not_not.mp c6)
    refine z_lconst (z := 1) dX1_ways_43 rfl ?_
    refine z_goto (tgt := 48) dX1_ways_44 (by decide) ?_
    exact m_lret dX1_ways_48 rfl h
set_option maxRecDepth 4000 in
theorem s_X1_ways_127 {w : GX} {d : Nat} {P : PN} {g : GI} (x1 : Int) {x3 : Nat} (hx3 : isW x3) (x4 : Int)
    (h : ((¬ 0 < nm (g 158 2) → P (some (aL (x4))) g) ∧ (0 < nm (g 158 2) → Zm w (d + 1) mX8_drift 0 [some (aR (some (x3))), some (aR (some (18))), some (aI (x1)), none, none, none, none] [] g (fun r g2 => r = none ∧ Zm w (d + 1) mX1_ways 0 [some (aR (some (158))), some (aI (x1 + 1)), none, none, none, none] [] g2 (fun r g4 => ∃ z5 : Int, r = some (aL z5) ∧ (∀ v6 : Int, v6 = x4 + ((nm (g2 158 2)) * z5) → P (some (aL (v6))) g4)))))) :
    Zm w (d + 2) mX1_ways 127 [some (aR (some (158))), some (aI (x1)), some (aR (some (27))), some (aR (some (x3))), some (aL (x4)), none] [] g P := by
  refine z_aload_n dX1_ways_127 rfl rfl ?_
  refine z_getI dX1_ways_128 fl_X1_17 (by decide) kt_158 ?_
  refine z_if_le (tgt := 161) dX1_ways_131 (by decide) (fun c1 => ?_) (fun c1 => ?_)
  · replace h := h.1 c1
    refine z_lload dX1_ways_161 rfl ?_
    exact m_lret dX1_ways_163 rfl h
  · replace h := h.2 (Decidable.not_not.mp c1)
    refine z_aload_n dX1_ways_134 rfl rfl ?_
    refine z_aload_n dX1_ways_135 rfl rfl ?_
    refine m_getR dX1_ways_136 fl_X1_57 (by decide) kt_27 rv_27_0 ?_
    refine z_iload_n dX1_ways_139 rfl rfl ?_
    refine m_callV (as := [aR (some (18)), aI (x1)]) dX1_ways_140 lk_X1_77 mok_X8_drift in_X8_drift sl_X8_drift (congrArg Prod.fst hx3.1) rfl rfl rfl (Nat.le_of_ble_eq_true rfl) rfl (Nat.le_of_ble_eq_true rfl) rfl (m_mono (fun r g2 hr => ?_) h)
    obtain ⟨rfl, h⟩ := hr
    show Zm w (d + 2) mX1_ways 143 [some (aR (some (158))), some (aI (x1)), some (aR (some (27))), some (aR (some (x3))), some (aL (x4)), none] [] g2 P
    refine z_lload dX1_ways_143 rfl ?_
    refine z_aload_n dX1_ways_145 rfl rfl ?_
    refine z_getI dX1_ways_146 fl_X1_17 (by decide) kt_158 ?_
    refine z_i2l dX1_ways_149 ?_
    refine z_aload_n dX1_ways_150 rfl rfl ?_
    refine z_iload_n dX1_ways_151 rfl rfl ?_
    refine z_iconst dX1_ways_152 ?_
    refine z_iadd dX1_ways_153 ?_
    refine m_callS (as := [aR (some (158)), aI (x1 + 1)]) dX1_ways_154 lk_X1_49 mok_X1_ways st_X1_ways rfl (Nat.le_of_ble_eq_true rfl) rfl (Nat.le_of_ble_eq_true rfl) rfl (m_mono (fun r g4 hr => ?_) h)
    obtain ⟨z5, rfl, h⟩ := hr
    show Zm w (d + 2) mX1_ways 157 [some (aR (some (158))), some (aI (x1)), some (aR (some (27))), some (aR (some (x3))), some (aL (x4)), none] [aL (z5), aL (nm (g2 158 2)), aL (x4)] g4 P
    refine z_lmul dX1_ways_157 ?_
    refine z_ladd dX1_ways_158 ?_
    replace h := h _ rfl
    refine z_lstore dX1_ways_159 (by decide) rfl ?_
    show Zm w (d + 2) mX1_ways 161 [some (aR (some (158))), some (aI (x1)), some (aR (some (27))), some (aR (some (x3))), some (aL (x4 + ((nm (g2 158 2)) * z5))), none] [] g4 P
    refine z_lload dX1_ways_161 rfl ?_
    exact m_lret dX1_ways_163 rfl h
theorem dX1_crowdedWater_0 : decode cX1_crowdedWater 0 = .ok (.aload_n 0, 1) := by decide +kernel
theorem dX1_crowdedWater_1 : decode cX1_crowdedWater 1 = .ok (.getfield 11, 3) := by decide +kernel
theorem dX1_crowdedWater_4 : decode cX1_crowdedWater 4 = .ok (.iconst 0, 1) := by decide +kernel
theorem dX1_crowdedWater_5 : decode cX1_crowdedWater 5 = .ok (.aaload, 1) := by decide +kernel
theorem dX1_crowdedWater_6 : decode cX1_crowdedWater 6 = .ok (.astore_n 3, 1) := by decide +kernel
theorem dX1_crowdedWater_7 : decode cX1_crowdedWater 7 = .ok (.aload_n 3, 1) := by decide +kernel
theorem dX1_crowdedWater_8 : decode cX1_crowdedWater 8 = .ok (.aload_n 0, 1) := by decide +kernel
theorem dX1_crowdedWater_9 : decode cX1_crowdedWater 9 = .ok (.getfield 37, 3) := by decide +kernel
theorem dX1_crowdedWater_12 : decode cX1_crowdedWater 12 = .ok (.getfield 42, 3) := by decide +kernel
theorem dX1_crowdedWater_15 : decode cX1_crowdedWater 15 = .ok (.iconst 0, 1) := by decide +kernel
theorem dX1_crowdedWater_16 : decode cX1_crowdedWater 16 = .ok (.aaload, 1) := by decide +kernel
theorem dX1_crowdedWater_17 : decode cX1_crowdedWater 17 = .ok (.invokevirtual 45, 3) := by decide +kernel
theorem dX1_crowdedWater_20 : decode cX1_crowdedWater 20 = .ok (.aload_n 0, 1) := by decide +kernel
theorem dX1_crowdedWater_21 : decode cX1_crowdedWater 21 = .ok (.getfield 37, 3) := by decide +kernel
theorem dX1_crowdedWater_24 : decode cX1_crowdedWater 24 = .ok (.getfield 57, 3) := by decide +kernel
theorem dX1_crowdedWater_27 : decode cX1_crowdedWater 27 = .ok (.getfield 81, 3) := by decide +kernel
theorem dX1_crowdedWater_30 : decode cX1_crowdedWater 30 = .ok (.istore 4, 2) := by decide +kernel
theorem dX1_crowdedWater_32 : decode cX1_crowdedWater 32 = .ok (.iload_n 1, 1) := by decide +kernel
theorem dX1_crowdedWater_33 : decode cX1_crowdedWater 33 = .ok (.istore 5, 2) := by decide +kernel
theorem dX1_crowdedWater_35 : decode cX1_crowdedWater 35 = .ok (.iconst 0, 1) := by decide +kernel
theorem dX1_crowdedWater_36 : decode cX1_crowdedWater 36 = .ok (.istore 6, 2) := by decide +kernel
theorem dX1_crowdedWater_38 : decode cX1_crowdedWater 38 = .ok (.iload 6, 2) := by decide +kernel
theorem dX1_crowdedWater_40 : decode cX1_crowdedWater 40 = .ok (.iload_n 2, 1) := by decide +kernel
theorem dX1_crowdedWater_41 : decode cX1_crowdedWater 41 = .ok (.if_icmp .gt 43, 3) := by decide +kernel
theorem dX1_crowdedWater_44 : decode cX1_crowdedWater 44 = .ok (.iload 4, 2) := by decide +kernel
theorem dX1_crowdedWater_46 : decode cX1_crowdedWater 46 = .ok (.ifCond .le 38, 3) := by decide +kernel
theorem dX1_crowdedWater_49 : decode cX1_crowdedWater 49 = .ok (.ldc 86, 2) := by decide +kernel
theorem dX1_crowdedWater_51 : decode cX1_crowdedWater 51 = .ok (.iload 5, 2) := by decide +kernel
theorem dX1_crowdedWater_53 : decode cX1_crowdedWater 53 = .ok (.imul, 1) := by decide +kernel
theorem dX1_crowdedWater_54 : decode cX1_crowdedWater 54 = .ok (.sipush 12345, 3) := by decide +kernel
theorem dX1_crowdedWater_57 : decode cX1_crowdedWater 57 = .ok (.iadd, 1) := by decide +kernel
theorem dX1_crowdedWater_58 : decode cX1_crowdedWater 58 = .ok (.istore 5, 2) := by decide +kernel
theorem dX1_crowdedWater_60 : decode cX1_crowdedWater 60 = .ok (.aload_n 0, 1) := by decide +kernel
theorem dX1_crowdedWater_61 : decode cX1_crowdedWater 61 = .ok (.getfield 37, 3) := by decide +kernel
theorem dX1_crowdedWater_64 : decode cX1_crowdedWater 64 = .ok (.aload_n 3, 1) := by decide +kernel
theorem dX1_crowdedWater_65 : decode cX1_crowdedWater 65 = .ok (.iload 6, 2) := by decide +kernel
theorem dX1_crowdedWater_67 : decode cX1_crowdedWater 67 = .ok (.iload 5, 2) := by decide +kernel
theorem dX1_crowdedWater_69 : decode cX1_crowdedWater 69 = .ok (.bipush 16, 2) := by decide +kernel
theorem dX1_crowdedWater_71 : decode cX1_crowdedWater 71 = .ok (.iushr, 1) := by decide +kernel
theorem dX1_crowdedWater_72 : decode cX1_crowdedWater 72 = .ok (.iload 4, 2) := by decide +kernel
theorem dX1_crowdedWater_74 : decode cX1_crowdedWater 74 = .ok (.irem, 1) := by decide +kernel
theorem dX1_crowdedWater_75 : decode cX1_crowdedWater 75 = .ok (.invokevirtual 87, 3) := by decide +kernel
theorem dX1_crowdedWater_78 : decode cX1_crowdedWater 78 = .ok (.iinc 6 1, 3) := by decide +kernel
theorem dX1_crowdedWater_81 : decode cX1_crowdedWater 81 = .ok (.goto (-43), 3) := by decide +kernel
theorem dX1_crowdedWater_84 : decode cX1_crowdedWater 84 = .ok (.aload_n 3, 1) := by decide +kernel
theorem dX1_crowdedWater_85 : decode cX1_crowdedWater 85 = .ok (.areturn, 1) := by decide +kernel
set_option maxRecDepth 4000 in
theorem s_X1_crowdedWater_0 {w : GX} {d : Nat} {P : PN} {g : GI} (x1 : Int) (x2 : Int)
    (h : Zm w (d + 2) mX8_become 0 [some (aR (some (160))), some (aR (some (31)))] [] g (fun r g1 => r = none ∧ (∀ v3 : Int, v3 = g1 18 10 → Zm w (d + 3) mX1_crowdedWater 38 [some (aR (some (158))), none, some (aI (x2)), some (aR (some (160))), some (aI (v3)), some (aI (x1)), some (aI (0))] [] g1 P))) :
    Zm w (d + 3) mX1_crowdedWater 0 [some (aR (some (158))), some (aI (x1)), some (aI (x2)), none, none, none, none] [] g P := by
  refine z_aload_n dX1_crowdedWater_0 rfl rfl ?_
  refine m_getR dX1_crowdedWater_1 fl_X1_11 (by decide) kt_158 rv_158_1 ?_
  refine z_iconst dX1_crowdedWater_4 ?_
  refine m_aaldv (r := 160) dX1_crowdedWater_5 kv_159 (by decide) (by decide) (by decide +kernel) ?_
  refine z_astore_n dX1_crowdedWater_6 rfl (by decide) rfl ?_
  show Zm w (d + 3) mX1_crowdedWater 7 [some (aR (some (158))), some (aI (x1)), some (aI (x2)), some (aR (some (160))), none, none, none] [] g P
  refine z_aload_n dX1_crowdedWater_7 rfl rfl ?_
  refine z_aload_n dX1_crowdedWater_8 rfl rfl ?_
  refine m_getR dX1_crowdedWater_9 fl_X1_37 (by decide) kt_158 rv_158_0 ?_
  refine m_getR dX1_crowdedWater_12 fl_X1_42 (by decide) kt_27 rv_27_5 ?_
  refine z_iconst dX1_crowdedWater_15 ?_
  refine m_aaldv (r := 31) dX1_crowdedWater_16 kv_30 (by decide) (by decide) (by decide +kernel) ?_
  refine m_callV (as := [aR (some (31))]) dX1_crowdedWater_17 lk_X1_45 mok_X8_become in_X8_become sl_X8_become kt_160 rfl rfl rfl (Nat.le_of_ble_eq_true rfl) rfl (Nat.le_of_ble_eq_true rfl) rfl (m_mono (fun r g1 hr => ?_) h)
  obtain ⟨rfl, h⟩ := hr
  show Zm w (d + 3) mX1_crowdedWater 20 [some (aR (some (158))), some (aI (x1)), some (aI (x2)), some (aR (some (160))), none, none, none] [] g1 P
  refine z_aload_n dX1_crowdedWater_20 rfl rfl ?_
  refine m_getR dX1_crowdedWater_21 fl_X1_37 (by decide) kt_158 rv_158_0 ?_
  refine m_getR dX1_crowdedWater_24 fl_X1_57 (by decide) kt_27 rv_27_0 ?_
  refine z_getI dX1_crowdedWater_27 fl_X1_81 (by decide) kt_18 ?_
  replace h := h _ rfl
  refine z_istore dX1_crowdedWater_30 (by decide) rfl ?_
  show Zm w (d + 3) mX1_crowdedWater 32 [some (aR (some (158))), some (aI (x1)), some (aI (x2)), some (aR (some (160))), some (aI (g1 18 10)), none, none] [] g1 P
  refine z_iload_n dX1_crowdedWater_32 rfl rfl ?_
  refine z_istore dX1_crowdedWater_33 (by decide) rfl ?_
  show Zm w (d + 3) mX1_crowdedWater 35 [some (aR (some (158))), some (aI (x1)), some (aI (x2)), some (aR (some (160))), some (aI ((g1 18 10))), some (aI (x1)), none] [] g1 P
  refine z_iconst dX1_crowdedWater_35 ?_
  refine z_istore dX1_crowdedWater_36 (by decide) rfl ?_
  show Zm w (d + 3) mX1_crowdedWater 38 [some (aR (some (158))), some (aI (x1)), some (aI (x2)), some (aR (some (160))), some (aI ((g1 18 10))), some (aI (x1)), some (aI (0))] [] g1 P
  exact z_weak (by simp [lle]) h
set_option maxRecDepth 4000 in
theorem s_X1_crowdedWater_38 {w : GX} {d : Nat} {P : PN} {g : GI} (x2 : Int) {x3 : Nat} (hx3 : isW x3) (x4 : Int) (x5 : Int) (x6 : Int)
    (h : ((nm x2 < nm x6 → P (some (aR (some (x3)))) g) ∧ (¬ nm x2 < nm x6 → ((¬ 0 < nm x4 → P (some (aR (some (x3)))) g) ∧ (0 < nm x4 → (∀ v3 : Int, v3 = (1103515245 * x5) + 12345 → (¬ nm x4 = 0 ∧ Zm w (d + 2) mX2_goWithOneMore 0 [some (aR (some (27))), some (aR (some (x3))), some (aI (x6)), some (aI (iRem (iUshr v3 16) x4))] [] g (fun r g5 => r = none ∧ Zm w (d + 3) mX1_crowdedWater 38 [some (aR (some (158))), none, some (aI (x2)), some (aR (some (x3))), some (aI (x4)), some (aI (v3)), some (aI (x6 + 1))] [] g5 P)))))))) :
    Zm w (d + 3) mX1_crowdedWater 38 [some (aR (some (158))), none, some (aI (x2)), some (aR (some (x3))), some (aI (x4)), some (aI (x5)), some (aI (x6))] [] g P := by
  refine z_iload dX1_crowdedWater_38 rfl ?_
  refine z_iload_n dX1_crowdedWater_40 rfl rfl ?_
  refine z_icmp_gt (tgt := 84) dX1_crowdedWater_41 (by decide) (fun c1 => ?_) (fun c1 => ?_)
  · replace h := h.1 c1
    refine z_aload_n dX1_crowdedWater_84 rfl rfl ?_
    exact m_aret dX1_crowdedWater_85 rfl h
  · replace h := h.2 c1
    refine z_iload dX1_crowdedWater_44 rfl ?_
    refine z_if_le (tgt := 84) dX1_crowdedWater_46 (by decide) (fun c2 => ?_) (fun c2 => ?_)
    · replace h := h.1 c2
      refine z_aload_n dX1_crowdedWater_84 rfl rfl ?_
      exact m_aret dX1_crowdedWater_85 rfl h
    · replace h := h.2 (Decidable.not_not.mp c2)
      refine z_ldc dX1_crowdedWater_49 kc_X1_86 ?_
      refine z_iload dX1_crowdedWater_51 rfl ?_
      refine z_imul dX1_crowdedWater_53 ?_
      refine z_sipush dX1_crowdedWater_54 rfl ?_
      refine z_iadd dX1_crowdedWater_57 ?_
      replace h := h _ rfl
      refine z_istore dX1_crowdedWater_58 (by decide) rfl ?_
      show Zm w (d + 3) mX1_crowdedWater 60 [some (aR (some (158))), none, some (aI (x2)), some (aR (some (x3))), some (aI (x4)), some (aI ((1103515245 * x5) + 12345)), some (aI (x6))] [] g P
      refine z_aload_n dX1_crowdedWater_60 rfl rfl ?_
      refine m_getR dX1_crowdedWater_61 fl_X1_37 (by decide) kt_158 rv_158_0 ?_
      refine z_aload_n dX1_crowdedWater_64 rfl rfl ?_
      refine z_iload dX1_crowdedWater_65 rfl ?_
      refine z_iload dX1_crowdedWater_67 rfl ?_
      refine z_bipush dX1_crowdedWater_69 rfl ?_
      refine z_iushr dX1_crowdedWater_71 ?_
      refine z_iload dX1_crowdedWater_72 rfl ?_
      obtain ⟨q4, h⟩ := h
      refine z_irem dX1_crowdedWater_74 q4 ?_
      refine m_callV (as := [aR (some (x3)), aI (x6), aI (iRem (iUshr ((1103515245 * x5) + 12345) 16) x4)]) dX1_crowdedWater_75 lk_X1_87 mok_X2_goWithOneMore in_X2_goWithOneMore sl_X2_goWithOneMore kt_27 rfl rfl rfl (Nat.le_of_ble_eq_true rfl) rfl (Nat.le_of_ble_eq_true rfl) rfl (m_mono (fun r g5 hr => ?_) h)
      obtain ⟨rfl, h⟩ := hr
      show Zm w (d + 3) mX1_crowdedWater 78 [some (aR (some (158))), none, some (aI (x2)), some (aR (some (x3))), some (aI (x4)), some (aI (((1103515245 * x5) + 12345))), some (aI (x6))] [] g5 P
      refine z_iinc dX1_crowdedWater_78 rfl (by decide) rfl ?_
      show Zm w (d + 3) mX1_crowdedWater 81 [some (aR (some (158))), none, some (aI (x2)), some (aR (some (x3))), some (aI (x4)), some (aI (((1103515245 * x5) + 12345))), some (aI (x6 + 1))] [] g5 P
      refine z_goto (tgt := 38) dX1_crowdedWater_81 (by decide) ?_
      exact z_weak (by simp [lle]) h
theorem dX3_neverBits_0 : decode cX3_neverBits 0 = .ok (.iconst 0, 1) := by decide +kernel
theorem dX3_neverBits_1 : decode cX3_neverBits 1 = .ok (.istore_n 1, 1) := by decide +kernel
theorem dX3_neverBits_2 : decode cX3_neverBits 2 = .ok (.aload_n 0, 1) := by decide +kernel
theorem dX3_neverBits_3 : decode cX3_neverBits 3 = .ok (.getfield 12, 3) := by decide +kernel
theorem dX3_neverBits_6 : decode cX3_neverBits 6 = .ok (.aload_n 0, 1) := by decide +kernel
theorem dX3_neverBits_7 : decode cX3_neverBits 7 = .ok (.getfield 29, 3) := by decide +kernel
theorem dX3_neverBits_10 : decode cX3_neverBits 10 = .ok (.getfield 37, 3) := by decide +kernel
theorem dX3_neverBits_13 : decode cX3_neverBits 13 = .ok (.invokevirtual 43, 3) := by decide +kernel
theorem dX3_neverBits_16 : decode cX3_neverBits 16 = .ok (.iconst 0, 1) := by decide +kernel
theorem dX3_neverBits_17 : decode cX3_neverBits 17 = .ok (.istore_n 2, 1) := by decide +kernel
theorem dX3_neverBits_18 : decode cX3_neverBits 18 = .ok (.iload_n 2, 1) := by decide +kernel
theorem dX3_neverBits_19 : decode cX3_neverBits 19 = .ok (.aload_n 0, 1) := by decide +kernel
theorem dX3_neverBits_20 : decode cX3_neverBits 20 = .ok (.getfield 29, 3) := by decide +kernel
theorem dX3_neverBits_23 : decode cX3_neverBits 23 = .ok (.getfield 47, 3) := by decide +kernel
theorem dX3_neverBits_26 : decode cX3_neverBits 26 = .ok (.getfield 50, 3) := by decide +kernel
theorem dX3_neverBits_29 : decode cX3_neverBits 29 = .ok (.if_icmp .ge 30, 3) := by decide +kernel
theorem dX3_neverBits_32 : decode cX3_neverBits 32 = .ok (.aload_n 0, 1) := by decide +kernel
theorem dX3_neverBits_33 : decode cX3_neverBits 33 = .ok (.getfield 12, 3) := by decide +kernel
theorem dX3_neverBits_36 : decode cX3_neverBits 36 = .ok (.iload_n 2, 1) := by decide +kernel
theorem dX3_neverBits_37 : decode cX3_neverBits 37 = .ok (.putfield 56, 3) := by decide +kernel
theorem dX3_neverBits_40 : decode cX3_neverBits 40 = .ok (.aload_n 0, 1) := by decide +kernel
theorem dX3_neverBits_41 : decode cX3_neverBits 41 = .ok (.invokevirtual 59, 3) := by decide +kernel
theorem dX3_neverBits_44 : decode cX3_neverBits 44 = .ok (.ifCond .eq 9, 3) := by decide +kernel
theorem dX3_neverBits_47 : decode cX3_neverBits 47 = .ok (.iload_n 1, 1) := by decide +kernel
theorem dX3_neverBits_48 : decode cX3_neverBits 48 = .ok (.iconst 1, 1) := by decide +kernel
theorem dX3_neverBits_49 : decode cX3_neverBits 49 = .ok (.iload_n 2, 1) := by decide +kernel
theorem dX3_neverBits_50 : decode cX3_neverBits 50 = .ok (.ishl, 1) := by decide +kernel
theorem dX3_neverBits_51 : decode cX3_neverBits 51 = .ok (.ior, 1) := by decide +kernel
theorem dX3_neverBits_52 : decode cX3_neverBits 52 = .ok (.istore_n 1, 1) := by decide +kernel
theorem dX3_neverBits_53 : decode cX3_neverBits 53 = .ok (.iinc 2 1, 3) := by decide +kernel
theorem dX3_neverBits_56 : decode cX3_neverBits 56 = .ok (.goto (-38), 3) := by decide +kernel
theorem dX3_neverBits_59 : decode cX3_neverBits 59 = .ok (.iload_n 1, 1) := by decide +kernel
theorem dX3_neverBits_60 : decode cX3_neverBits 60 = .ok (.ireturn, 1) := by decide +kernel
set_option maxRecDepth 4000 in
theorem s_X3_neverBits_0 {w : GX} {d : Nat} {P : PN} {g : GI} 
    (h : Zm w (d + 3) mX0_asTold 0 [some (aR (some (150))), some (aR (some (18)))] [] g (fun r g1 => r = none ∧ Zm w (d + 4) mX3_neverBits 18 [some (aR (some (149))), some (aI (0)), some (aI (0))] [] g1 P)) :
    Zm w (d + 4) mX3_neverBits 0 [some (aR (some (149))), none, none] [] g P := by
  refine z_iconst dX3_neverBits_0 ?_
  refine z_istore_n dX3_neverBits_1 rfl (by decide) rfl ?_
  show Zm w (d + 4) mX3_neverBits 2 [some (aR (some (149))), some (aI (0)), none] [] g P
  refine z_aload_n dX3_neverBits_2 rfl rfl ?_
  refine m_getR dX3_neverBits_3 fl_X3_12 (by decide) kt_149 rv_149_2 ?_
  refine z_aload_n dX3_neverBits_6 rfl rfl ?_
  refine m_getR dX3_neverBits_7 fl_X3_29 (by decide) kt_149 rv_149_0 ?_
  refine m_getR dX3_neverBits_10 fl_X3_37 (by decide) kt_27 rv_27_0 ?_
  refine m_callV (as := [aR (some (18))]) dX3_neverBits_13 lk_X3_43 mok_X0_asTold in_X0_asTold sl_X0_asTold kt_150 rfl rfl rfl (Nat.le_of_ble_eq_true rfl) rfl (Nat.le_of_ble_eq_true rfl) rfl (m_mono (fun r g1 hr => ?_) h)
  obtain ⟨rfl, h⟩ := hr
  show Zm w (d + 4) mX3_neverBits 16 [some (aR (some (149))), some (aI (0)), none] [] g1 P
  refine z_iconst dX3_neverBits_16 ?_
  refine z_istore_n dX3_neverBits_17 rfl (by decide) rfl ?_
  show Zm w (d + 4) mX3_neverBits 18 [some (aR (some (149))), some (aI (0)), some (aI (0))] [] g1 P
  exact z_weak (by simp [lle]) h
set_option maxRecDepth 4000 in
theorem s_X3_neverBits_18 {w : GX} {d : Nat} {P : PN} {g : GI} (x1 : Int) (x2 : Int)
    (h : ((¬ nm x2 < nm (g 2 3) → P (some (aI (x1))) g) ∧ (nm x2 < nm (g 2 3) → (∀ g2 : GI, g2 = up2 g 150 1 x2 → Zm w (d + 3) mX3_comesOut 0 [some (aR (some (149))), none, none] [] g2 (fun r g3 => ∃ z4 : Int, r = some (aI z4) ∧ ((nm z4 = 0 → Zm w (d + 4) mX3_neverBits 18 [some (aR (some (149))), some (aI (x1)), some (aI (x2 + 1))] [] g3 P) ∧ (¬ nm z4 = 0 → (∀ v6 : Int, v6 = iOr x1 (iShl 1 x2) → Zm w (d + 4) mX3_neverBits 18 [some (aR (some (149))), some (aI (v6)), some (aI (x2 + 1))] [] g3 P)))))))) :
    Zm w (d + 4) mX3_neverBits 18 [some (aR (some (149))), some (aI (x1)), some (aI (x2))] [] g P := by
  refine z_iload_n dX3_neverBits_18 rfl rfl ?_
  refine z_aload_n dX3_neverBits_19 rfl rfl ?_
  refine m_getR dX3_neverBits_20 fl_X3_29 (by decide) kt_149 rv_149_0 ?_
  refine m_getR dX3_neverBits_23 fl_X3_47 (by decide) kt_27 rv_27_1 ?_
  refine z_getI dX3_neverBits_26 fl_X3_50 (by decide) kt_2 ?_
  refine z_icmp_ge (tgt := 59) dX3_neverBits_29 (by decide) (fun c1 => ?_) (fun c1 => ?_)
  · replace h := h.1 c1
    refine z_iload_n dX3_neverBits_59 rfl rfl ?_
    exact m_iret dX3_neverBits_60 rfl h
  · replace h := h.2 (Decidable.not_not.mp c1)
    refine z_aload_n dX3_neverBits_32 rfl rfl ?_
    refine m_getR dX3_neverBits_33 fl_X3_12 (by decide) kt_149 rv_149_2 ?_
    refine z_iload_n dX3_neverBits_36 rfl rfl ?_
    replace h := h _ rfl
    refine z_putI dX3_neverBits_37 fw_X3_56 (by decide) kt_150 ?_
    refine z_aload_n dX3_neverBits_40 rfl rfl ?_
    refine m_callV (as := []) dX3_neverBits_41 lk_X3_59 mok_X3_comesOut in_X3_comesOut sl_X3_comesOut kt_149 rfl rfl rfl (Nat.le_of_ble_eq_true rfl) rfl (Nat.le_of_ble_eq_true rfl) rfl (m_mono (fun r g3 hr => ?_) h)
    obtain ⟨z4, rfl, h⟩ := hr
    show Zm w (d + 4) mX3_neverBits 44 [some (aR (some (149))), some (aI (x1)), some (aI (x2))] [aI (z4)] g3 P
    refine z_if_eq (tgt := 53) dX3_neverBits_44 (by decide) (fun c5 => ?_) (fun c5 => ?_)
    · replace h := h.1 c5
      refine z_iinc dX3_neverBits_53 rfl (by decide) rfl ?_
      show Zm w (d + 4) mX3_neverBits 56 [some (aR (some (149))), some (aI (x1)), some (aI (x2 + 1))] [] g3 P
      refine z_goto (tgt := 18) dX3_neverBits_56 (by decide) ?_
      exact z_weak (by simp [lle]) h
    · replace h := h.2 c5
      refine z_iload_n dX3_neverBits_47 rfl rfl ?_
      refine z_iconst dX3_neverBits_48 ?_
      refine z_iload_n dX3_neverBits_49 rfl rfl ?_
      refine z_ishl dX3_neverBits_50 ?_
      refine z_ior dX3_neverBits_51 ?_
      replace h := h _ rfl
      refine z_istore_n dX3_neverBits_52 rfl (by decide) rfl ?_
      show Zm w (d + 4) mX3_neverBits 53 [some (aR (some (149))), some (aI (iOr x1 (iShl 1 x2))), some (aI (x2))] [] g3 P
      refine z_iinc dX3_neverBits_53 rfl (by decide) rfl ?_
      show Zm w (d + 4) mX3_neverBits 56 [some (aR (some (149))), some (aI ((iOr x1 (iShl 1 x2)))), some (aI (x2 + 1))] [] g3 P
      refine z_goto (tgt := 18) dX3_neverBits_56 (by decide) ?_
      exact z_weak (by simp [lle]) h
theorem dX3_luckyBits_0 : decode cX3_luckyBits 0 = .ok (.iconst 0, 1) := by decide +kernel
theorem dX3_luckyBits_1 : decode cX3_luckyBits 1 = .ok (.istore_n 2, 1) := by decide +kernel
theorem dX3_luckyBits_2 : decode cX3_luckyBits 2 = .ok (.aload_n 0, 1) := by decide +kernel
theorem dX3_luckyBits_3 : decode cX3_luckyBits 3 = .ok (.getfield 12, 3) := by decide +kernel
theorem dX3_luckyBits_6 : decode cX3_luckyBits 6 = .ok (.aload_n 0, 1) := by decide +kernel
theorem dX3_luckyBits_7 : decode cX3_luckyBits 7 = .ok (.getfield 29, 3) := by decide +kernel
theorem dX3_luckyBits_10 : decode cX3_luckyBits 10 = .ok (.getfield 37, 3) := by decide +kernel
theorem dX3_luckyBits_13 : decode cX3_luckyBits 13 = .ok (.invokevirtual 43, 3) := by decide +kernel
theorem dX3_luckyBits_16 : decode cX3_luckyBits 16 = .ok (.iconst 0, 1) := by decide +kernel
theorem dX3_luckyBits_17 : decode cX3_luckyBits 17 = .ok (.istore_n 3, 1) := by decide +kernel
theorem dX3_luckyBits_18 : decode cX3_luckyBits 18 = .ok (.iload_n 3, 1) := by decide +kernel
theorem dX3_luckyBits_19 : decode cX3_luckyBits 19 = .ok (.bipush 10, 2) := by decide +kernel
theorem dX3_luckyBits_21 : decode cX3_luckyBits 21 = .ok (.if_icmp .ge 32, 3) := by decide +kernel
theorem dX3_luckyBits_24 : decode cX3_luckyBits 24 = .ok (.aload_n 0, 1) := by decide +kernel
theorem dX3_luckyBits_25 : decode cX3_luckyBits 25 = .ok (.getfield 12, 3) := by decide +kernel
theorem dX3_luckyBits_28 : decode cX3_luckyBits 28 = .ok (.getfield 63, 3) := by decide +kernel
theorem dX3_luckyBits_31 : decode cX3_luckyBits 31 = .ok (.iload_n 1, 1) := by decide +kernel
theorem dX3_luckyBits_32 : decode cX3_luckyBits 32 = .ok (.iload_n 3, 1) := by decide +kernel
theorem dX3_luckyBits_33 : decode cX3_luckyBits 33 = .ok (.iastore, 1) := by decide +kernel
theorem dX3_luckyBits_34 : decode cX3_luckyBits 34 = .ok (.aload_n 0, 1) := by decide +kernel
theorem dX3_luckyBits_35 : decode cX3_luckyBits 35 = .ok (.invokevirtual 59, 3) := by decide +kernel
theorem dX3_luckyBits_38 : decode cX3_luckyBits 38 = .ok (.ifCond .eq 9, 3) := by decide +kernel
theorem dX3_luckyBits_41 : decode cX3_luckyBits 41 = .ok (.iload_n 2, 1) := by decide +kernel
theorem dX3_luckyBits_42 : decode cX3_luckyBits 42 = .ok (.iconst 1, 1) := by decide +kernel
theorem dX3_luckyBits_43 : decode cX3_luckyBits 43 = .ok (.iload_n 3, 1) := by decide +kernel
theorem dX3_luckyBits_44 : decode cX3_luckyBits 44 = .ok (.ishl, 1) := by decide +kernel
theorem dX3_luckyBits_45 : decode cX3_luckyBits 45 = .ok (.ior, 1) := by decide +kernel
theorem dX3_luckyBits_46 : decode cX3_luckyBits 46 = .ok (.istore_n 2, 1) := by decide +kernel
theorem dX3_luckyBits_47 : decode cX3_luckyBits 47 = .ok (.iinc 3 1, 3) := by decide +kernel
theorem dX3_luckyBits_50 : decode cX3_luckyBits 50 = .ok (.goto (-32), 3) := by decide +kernel
theorem dX3_luckyBits_53 : decode cX3_luckyBits 53 = .ok (.iload_n 2, 1) := by decide +kernel
theorem dX3_luckyBits_54 : decode cX3_luckyBits 54 = .ok (.ireturn, 1) := by decide +kernel
set_option maxRecDepth 4000 in
theorem s_X3_luckyBits_0 {w : GX} {d : Nat} {P : PN} {g : GI} (x1 : Int)
    (h : Zm w (d + 3) mX0_asTold 0 [some (aR (some (150))), some (aR (some (18)))] [] g (fun r g1 => r = none ∧ Zm w (d + 4) mX3_luckyBits 18 [some (aR (some (149))), some (aI (x1)), some (aI (0)), some (aI (0))] [] g1 P)) :
    Zm w (d + 4) mX3_luckyBits 0 [some (aR (some (149))), some (aI (x1)), none, none] [] g P := by
  refine z_iconst dX3_luckyBits_0 ?_
  refine z_istore_n dX3_luckyBits_1 rfl (by decide) rfl ?_
  show Zm w (d + 4) mX3_luckyBits 2 [some (aR (some (149))), some (aI (x1)), some (aI (0)), none] [] g P
  refine z_aload_n dX3_luckyBits_2 rfl rfl ?_
  refine m_getR dX3_luckyBits_3 fl_X3_12 (by decide) kt_149 rv_149_2 ?_
  refine z_aload_n dX3_luckyBits_6 rfl rfl ?_
  refine m_getR dX3_luckyBits_7 fl_X3_29 (by decide) kt_149 rv_149_0 ?_
  refine m_getR dX3_luckyBits_10 fl_X3_37 (by decide) kt_27 rv_27_0 ?_
  refine m_callV (as := [aR (some (18))]) dX3_luckyBits_13 lk_X3_43 mok_X0_asTold in_X0_asTold sl_X0_asTold kt_150 rfl rfl rfl (Nat.le_of_ble_eq_true rfl) rfl (Nat.le_of_ble_eq_true rfl) rfl (m_mono (fun r g1 hr => ?_) h)
  obtain ⟨rfl, h⟩ := hr
  show Zm w (d + 4) mX3_luckyBits 16 [some (aR (some (149))), some (aI (x1)), some (aI (0)), none] [] g1 P
  refine z_iconst dX3_luckyBits_16 ?_
  refine z_istore_n dX3_luckyBits_17 rfl (by decide) rfl ?_
  show Zm w (d + 4) mX3_luckyBits 18 [some (aR (some (149))), some (aI (x1)), some (aI (0)), some (aI (0))] [] g1 P
  exact z_weak (by simp [lle]) h
set_option maxRecDepth 4000 in
theorem s_X3_luckyBits_18 {w : GX} {d : Nat} {P : PN} {g : GI} (x1 : Int) (x2 : Int) (x3 : Int)
    (h : ((¬ nm x3 < nm 10 → P (some (aI (x2))) g) ∧ (nm x3 < nm 10 → (0 ≤ nm x1 ∧ nm x1 < 8 ∧ ∀ g2 : GI, g2 = up2 g 151 (nm x1).toNat x3 → Zm w (d + 3) mX3_comesOut 0 [some (aR (some (149))), none, none] [] g2 (fun r g5 => ∃ z6 : Int, r = some (aI z6) ∧ ((nm z6 = 0 → Zm w (d + 4) mX3_luckyBits 18 [some (aR (some (149))), some (aI (x1)), some (aI (x2)), some (aI (x3 + 1))] [] g5 P) ∧ (¬ nm z6 = 0 → (∀ v8 : Int, v8 = iOr x2 (iShl 1 x3) → Zm w (d + 4) mX3_luckyBits 18 [some (aR (some (149))), some (aI (x1)), some (aI (v8)), some (aI (x3 + 1))] [] g5 P)))))))) :
    Zm w (d + 4) mX3_luckyBits 18 [some (aR (some (149))), some (aI (x1)), some (aI (x2)), some (aI (x3))] [] g P := by
  refine z_iload_n dX3_luckyBits_18 rfl rfl ?_
  refine z_bipush dX3_luckyBits_19 rfl ?_
  refine z_icmp_ge (tgt := 53) dX3_luckyBits_21 (by decide) (fun c1 => ?_) (fun c1 => ?_)
  · replace h := h.1 c1
    refine z_iload_n dX3_luckyBits_53 rfl rfl ?_
    exact m_iret dX3_luckyBits_54 rfl h
  · replace h := h.2 (Decidable.not_not.mp c1)
    refine z_aload_n dX3_luckyBits_24 rfl rfl ?_
    refine m_getR dX3_luckyBits_25 fl_X3_12 (by decide) kt_149 rv_149_2 ?_
    refine m_getR dX3_luckyBits_28 fl_X3_63 (by decide) kt_150 rv_150_0 ?_
    refine z_iload_n dX3_luckyBits_31 rfl rfl ?_
    refine z_iload_n dX3_luckyBits_32 rfl rfl ?_
    obtain ⟨q3, q4, h⟩ := h
    replace h := h _ rfl
    refine m_iast dX3_luckyBits_33 kv_151 q3 q4 ?_
    refine z_aload_n dX3_luckyBits_34 rfl rfl ?_
    refine m_callV (as := []) dX3_luckyBits_35 lk_X3_59 mok_X3_comesOut in_X3_comesOut sl_X3_comesOut kt_149 rfl rfl rfl (Nat.le_of_ble_eq_true rfl) rfl (Nat.le_of_ble_eq_true rfl) rfl (m_mono (fun r g5 hr => ?_) h)
    obtain ⟨z6, rfl, h⟩ := hr
    show Zm w (d + 4) mX3_luckyBits 38 [some (aR (some (149))), some (aI (x1)), some (aI (x2)), some (aI (x3))] [aI (z6)] g5 P
    refine z_if_eq (tgt := 47) dX3_luckyBits_38 (by decide) (fun c7 => ?_) (fun c7 => ?_)
    · replace h := h.1 c7
      refine z_iinc dX3_luckyBits_47 rfl (by decide) rfl ?_
      show Zm w (d + 4) mX3_luckyBits 50 [some (aR (some (149))), some (aI (x1)), some (aI (x2)), some (aI (x3 + 1))] [] g5 P
      refine z_goto (tgt := 18) dX3_luckyBits_50 (by decide) ?_
      exact z_weak (by simp [lle]) h
    · replace h := h.2 c7
      refine z_iload_n dX3_luckyBits_41 rfl rfl ?_
      refine z_iconst dX3_luckyBits_42 ?_
      refine z_iload_n dX3_luckyBits_43 rfl rfl ?_
      refine z_ishl dX3_luckyBits_44 ?_
      refine z_ior dX3_luckyBits_45 ?_
      replace h := h _ rfl
      refine z_istore_n dX3_luckyBits_46 rfl (by decide) rfl ?_
      show Zm w (d + 4) mX3_luckyBits 47 [some (aR (some (149))), some (aI (x1)), some (aI (iOr x2 (iShl 1 x3))), some (aI (x3))] [] g5 P
      refine z_iinc dX3_luckyBits_47 rfl (by decide) rfl ?_
      show Zm w (d + 4) mX3_luckyBits 50 [some (aR (some (149))), some (aI (x1)), some (aI ((iOr x2 (iShl 1 x3)))), some (aI (x3 + 1))] [] g5 P
      refine z_goto (tgt := 18) dX3_luckyBits_50 (by decide) ?_
      exact z_weak (by simp [lle]) h
theorem dX3_nextToAsk_0 : decode cX3_nextToAsk 0 = .ok (.aload_n 0, 1) := by decide +kernel
theorem dX3_nextToAsk_1 : decode cX3_nextToAsk 1 = .ok (.getfield 25, 3) := by decide +kernel
theorem dX3_nextToAsk_4 : decode cX3_nextToAsk 4 = .ok (.iconst 0, 1) := by decide +kernel
theorem dX3_nextToAsk_5 : decode cX3_nextToAsk 5 = .ok (.invokestatic 66, 3) := by decide +kernel
theorem dX3_nextToAsk_8 : decode cX3_nextToAsk 8 = .ok (.aload_n 0, 1) := by decide +kernel
theorem dX3_nextToAsk_9 : decode cX3_nextToAsk 9 = .ok (.getfield 12, 3) := by decide +kernel
theorem dX3_nextToAsk_12 : decode cX3_nextToAsk 12 = .ok (.aload_n 0, 1) := by decide +kernel
theorem dX3_nextToAsk_13 : decode cX3_nextToAsk 13 = .ok (.getfield 29, 3) := by decide +kernel
theorem dX3_nextToAsk_16 : decode cX3_nextToAsk 16 = .ok (.getfield 37, 3) := by decide +kernel
theorem dX3_nextToAsk_19 : decode cX3_nextToAsk 19 = .ok (.invokevirtual 43, 3) := by decide +kernel
theorem dX3_nextToAsk_22 : decode cX3_nextToAsk 22 = .ok (.iconst 0, 1) := by decide +kernel
theorem dX3_nextToAsk_23 : decode cX3_nextToAsk 23 = .ok (.istore_n 3, 1) := by decide +kernel
theorem dX3_nextToAsk_24 : decode cX3_nextToAsk 24 = .ok (.iload_n 3, 1) := by decide +kernel
theorem dX3_nextToAsk_25 : decode cX3_nextToAsk 25 = .ok (.aload_n 0, 1) := by decide +kernel
theorem dX3_nextToAsk_26 : decode cX3_nextToAsk 26 = .ok (.getfield 29, 3) := by decide +kernel
theorem dX3_nextToAsk_29 : decode cX3_nextToAsk 29 = .ok (.getfield 47, 3) := by decide +kernel
theorem dX3_nextToAsk_32 : decode cX3_nextToAsk 32 = .ok (.getfield 50, 3) := by decide +kernel
theorem dX3_nextToAsk_35 : decode cX3_nextToAsk 35 = .ok (.if_icmp .ge 30, 3) := by decide +kernel
theorem dX3_nextToAsk_38 : decode cX3_nextToAsk 38 = .ok (.iload_n 1, 1) := by decide +kernel
theorem dX3_nextToAsk_39 : decode cX3_nextToAsk 39 = .ok (.iload_n 3, 1) := by decide +kernel
theorem dX3_nextToAsk_40 : decode cX3_nextToAsk 40 = .ok (.ishr, 1) := by decide +kernel
theorem dX3_nextToAsk_41 : decode cX3_nextToAsk 41 = .ok (.iconst 1, 1) := by decide +kernel
theorem dX3_nextToAsk_42 : decode cX3_nextToAsk 42 = .ok (.iand, 1) := by decide +kernel
theorem dX3_nextToAsk_43 : decode cX3_nextToAsk 43 = .ok (.ifCond .eq 16, 3) := by decide +kernel
theorem dX3_nextToAsk_46 : decode cX3_nextToAsk 46 = .ok (.aload_n 0, 1) := by decide +kernel
theorem dX3_nextToAsk_47 : decode cX3_nextToAsk 47 = .ok (.getfield 12, 3) := by decide +kernel
theorem dX3_nextToAsk_50 : decode cX3_nextToAsk 50 = .ok (.iload_n 3, 1) := by decide +kernel
theorem dX3_nextToAsk_51 : decode cX3_nextToAsk 51 = .ok (.putfield 56, 3) := by decide +kernel
theorem dX3_nextToAsk_54 : decode cX3_nextToAsk 54 = .ok (.aload_n 0, 1) := by decide +kernel
theorem dX3_nextToAsk_55 : decode cX3_nextToAsk 55 = .ok (.iload_n 2, 1) := by decide +kernel
theorem dX3_nextToAsk_56 : decode cX3_nextToAsk 56 = .ok (.invokevirtual 72, 3) := by decide +kernel
theorem dX3_nextToAsk_59 : decode cX3_nextToAsk 59 = .ok (.iinc 3 1, 3) := by decide +kernel
theorem dX3_nextToAsk_62 : decode cX3_nextToAsk 62 = .ok (.goto (-38), 3) := by decide +kernel
theorem dX3_nextToAsk_65 : decode cX3_nextToAsk 65 = .ok (.iconst (-1), 1) := by decide +kernel
theorem dX3_nextToAsk_66 : decode cX3_nextToAsk 66 = .ok (.istore_n 3, 1) := by decide +kernel
theorem dX3_nextToAsk_67 : decode cX3_nextToAsk 67 = .ok (.iconst 0, 1) := by decide +kernel
theorem dX3_nextToAsk_68 : decode cX3_nextToAsk 68 = .ok (.istore 4, 2) := by decide +kernel
theorem dX3_nextToAsk_70 : decode cX3_nextToAsk 70 = .ok (.iload 4, 2) := by decide +kernel
theorem dX3_nextToAsk_72 : decode cX3_nextToAsk 72 = .ok (.aload_n 0, 1) := by decide +kernel
theorem dX3_nextToAsk_73 : decode cX3_nextToAsk 73 = .ok (.getfield 29, 3) := by decide +kernel
theorem dX3_nextToAsk_76 : decode cX3_nextToAsk 76 = .ok (.getfield 37, 3) := by decide +kernel
theorem dX3_nextToAsk_79 : decode cX3_nextToAsk 79 = .ok (.getfield 76, 3) := by decide +kernel
theorem dX3_nextToAsk_82 : decode cX3_nextToAsk 82 = .ok (.if_icmp .ge 31, 3) := by decide +kernel
theorem dX3_nextToAsk_85 : decode cX3_nextToAsk 85 = .ok (.iload_n 3, 1) := by decide +kernel
theorem dX3_nextToAsk_86 : decode cX3_nextToAsk 86 = .ok (.iconst (-1), 1) := by decide +kernel
theorem dX3_nextToAsk_87 : decode cX3_nextToAsk 87 = .ok (.if_icmp .eq 17, 3) := by decide +kernel
theorem dX3_nextToAsk_90 : decode cX3_nextToAsk 90 = .ok (.aload_n 0, 1) := by decide +kernel
theorem dX3_nextToAsk_91 : decode cX3_nextToAsk 91 = .ok (.iload 4, 2) := by decide +kernel
theorem dX3_nextToAsk_93 : decode cX3_nextToAsk 93 = .ok (.invokevirtual 81, 3) := by decide +kernel
theorem dX3_nextToAsk_96 : decode cX3_nextToAsk 96 = .ok (.aload_n 0, 1) := by decide +kernel
theorem dX3_nextToAsk_97 : decode cX3_nextToAsk 97 = .ok (.iload_n 3, 1) := by decide +kernel
theorem dX3_nextToAsk_98 : decode cX3_nextToAsk 98 = .ok (.invokevirtual 81, 3) := by decide +kernel
theorem dX3_nextToAsk_101 : decode cX3_nextToAsk 101 = .ok (.if_icmp .ge 6, 3) := by decide +kernel
theorem dX3_nextToAsk_104 : decode cX3_nextToAsk 104 = .ok (.iload 4, 2) := by decide +kernel
theorem dX3_nextToAsk_106 : decode cX3_nextToAsk 106 = .ok (.istore_n 3, 1) := by decide +kernel
theorem dX3_nextToAsk_107 : decode cX3_nextToAsk 107 = .ok (.iinc 4 1, 3) := by decide +kernel
theorem dX3_nextToAsk_110 : decode cX3_nextToAsk 110 = .ok (.goto (-40), 3) := by decide +kernel
theorem dX3_nextToAsk_113 : decode cX3_nextToAsk 113 = .ok (.iload_n 3, 1) := by decide +kernel
theorem dX3_nextToAsk_114 : decode cX3_nextToAsk 114 = .ok (.ireturn, 1) := by decide +kernel
set_option maxRecDepth 4000 in
theorem s_X3_nextToAsk_0 {w : GX} {d : Nat} {P : PN} {g : GI} (x1 : Int) (x2 : Int)
    (h : Zm w (d + 3) mJ7_fill_53178 0 [some (aR (some (157))), some (aI (0)), none, none] [] g (fun r g1 => r = none ∧ Zm w (d + 3) mX0_asTold 0 [some (aR (some (150))), some (aR (some (18)))] [] g1 (fun r g3 => r = none ∧ Zm w (d + 4) mX3_nextToAsk 24 [some (aR (some (149))), some (aI (x1)), some (aI (x2)), some (aI (0)), none] [] g3 P))) :
    Zm w (d + 4) mX3_nextToAsk 0 [some (aR (some (149))), some (aI (x1)), some (aI (x2)), none, none] [] g P := by
  refine z_aload_n dX3_nextToAsk_0 rfl rfl ?_
  refine m_getR dX3_nextToAsk_1 fl_X3_25 (by decide) kt_149 rv_149_4 ?_
  refine z_iconst dX3_nextToAsk_4 ?_
  refine m_callS (as := [aR (some (157)), aI (0)]) dX3_nextToAsk_5 lk_X3_66 mok_J7_fill_53178 st_J7_fill_53178 rfl (Nat.le_of_ble_eq_true rfl) rfl (Nat.le_of_ble_eq_true rfl) rfl (m_mono (fun r g1 hr => ?_) h)
  obtain ⟨rfl, h⟩ := hr
  show Zm w (d + 4) mX3_nextToAsk 8 [some (aR (some (149))), some (aI (x1)), some (aI (x2)), none, none] [] g1 P
  refine z_aload_n dX3_nextToAsk_8 rfl rfl ?_
  refine m_getR dX3_nextToAsk_9 fl_X3_12 (by decide) kt_149 rv_149_2 ?_
  refine z_aload_n dX3_nextToAsk_12 rfl rfl ?_
  refine m_getR dX3_nextToAsk_13 fl_X3_29 (by decide) kt_149 rv_149_0 ?_
  refine m_getR dX3_nextToAsk_16 fl_X3_37 (by decide) kt_27 rv_27_0 ?_
  refine m_callV (as := [aR (some (18))]) dX3_nextToAsk_19 lk_X3_43 mok_X0_asTold in_X0_asTold sl_X0_asTold kt_150 rfl rfl rfl (Nat.le_of_ble_eq_true rfl) rfl (Nat.le_of_ble_eq_true rfl) rfl (m_mono (fun r g3 hr => ?_) h)
  obtain ⟨rfl, h⟩ := hr
  show Zm w (d + 4) mX3_nextToAsk 22 [some (aR (some (149))), some (aI (x1)), some (aI (x2)), none, none] [] g3 P
  refine z_iconst dX3_nextToAsk_22 ?_
  refine z_istore_n dX3_nextToAsk_23 rfl (by decide) rfl ?_
  show Zm w (d + 4) mX3_nextToAsk 24 [some (aR (some (149))), some (aI (x1)), some (aI (x2)), some (aI (0)), none] [] g3 P
  exact z_weak (by simp [lle]) h
set_option maxRecDepth 4000 in
theorem s_X3_nextToAsk_24 {w : GX} {d : Nat} {P : PN} {g : GI} (x1 : Int) (x2 : Int) (x3 : Int)
    (h : ((¬ nm x3 < nm (g 2 3) → (∀ v2 : Int, v2 = (-1) → Zm w (d + 4) mX3_nextToAsk 70 [some (aR (some (149))), none, none, some (aI (v2)), some (aI (0))] [] g P)) ∧ (nm x3 < nm (g 2 3) → ((nm (iAnd (iShr x1 x3) 1) = 0 → Zm w (d + 4) mX3_nextToAsk 24 [some (aR (some (149))), some (aI (x1)), some (aI (x2)), some (aI (x3 + 1)), none] [] g P) ∧ (¬ nm (iAnd (iShr x1 x3) 1) = 0 → (∀ g4 : GI, g4 = up2 g 150 1 x3 → Zm w (d + 3) mX3_tallyLetters 0 [some (aR (some (149))), some (aI (x2)), none] [] g4 (fun r g5 => r = none ∧ Zm w (d + 4) mX3_nextToAsk 24 [some (aR (some (149))), some (aI (x1)), some (aI (x2)), some (aI (x3 + 1)), none] [] g5 P))))))) :
    Zm w (d + 4) mX3_nextToAsk 24 [some (aR (some (149))), some (aI (x1)), some (aI (x2)), some (aI (x3)), none] [] g P := by
  refine z_iload_n dX3_nextToAsk_24 rfl rfl ?_
  refine z_aload_n dX3_nextToAsk_25 rfl rfl ?_
  refine m_getR dX3_nextToAsk_26 fl_X3_29 (by decide) kt_149 rv_149_0 ?_
  refine m_getR dX3_nextToAsk_29 fl_X3_47 (by decide) kt_27 rv_27_1 ?_
  refine z_getI dX3_nextToAsk_32 fl_X3_50 (by decide) kt_2 ?_
  refine z_icmp_ge (tgt := 65) dX3_nextToAsk_35 (by decide) (fun c1 => ?_) (fun c1 => ?_)
  · replace h := h.1 c1
    refine z_iconst dX3_nextToAsk_65 ?_
    replace h := h _ rfl
    refine z_istore_n dX3_nextToAsk_66 rfl (by decide) rfl ?_
    show Zm w (d + 4) mX3_nextToAsk 67 [some (aR (some (149))), some (aI (x1)), some (aI (x2)), some (aI ((-1))), none] [] g P
    refine z_iconst dX3_nextToAsk_67 ?_
    refine z_istore dX3_nextToAsk_68 (by decide) rfl ?_
    show Zm w (d + 4) mX3_nextToAsk 70 [some (aR (some (149))), some (aI (x1)), some (aI (x2)), some (aI (((-1)))), some (aI (0))] [] g P
    exact z_weak (by simp [lle]) h
  · replace h := h.2 (Decidable.not_not.mp c1)
    refine z_iload_n dX3_nextToAsk_38 rfl rfl ?_
    refine z_iload_n dX3_nextToAsk_39 rfl rfl ?_
    refine z_ishr dX3_nextToAsk_40 ?_
    refine z_iconst dX3_nextToAsk_41 ?_
    refine z_iand dX3_nextToAsk_42 ?_
    refine z_if_eq (tgt := 59) dX3_nextToAsk_43 (by decide) (fun c3 => ?_) (fun c3 => ?_)
    · replace h := h.1 c3
      refine z_iinc dX3_nextToAsk_59 rfl (by decide) rfl ?_
      show Zm w (d + 4) mX3_nextToAsk 62 [some (aR (some (149))), some (aI (x1)), some (aI (x2)), some (aI (x3 + 1)), none] [] g P
      refine z_goto (tgt := 24) dX3_nextToAsk_62 (by decide) ?_
      exact z_weak (by simp [lle]) h
    · replace h := h.2 c3
      refine z_aload_n dX3_nextToAsk_46 rfl rfl ?_
      refine m_getR dX3_nextToAsk_47 fl_X3_12 (by decide) kt_149 rv_149_2 ?_
      refine z_iload_n dX3_nextToAsk_50 rfl rfl ?_
      replace h := h _ rfl
      refine z_putI dX3_nextToAsk_51 fw_X3_56 (by decide) kt_150 ?_
      refine z_aload_n dX3_nextToAsk_54 rfl rfl ?_
      refine z_iload_n dX3_nextToAsk_55 rfl rfl ?_
      refine m_callV (as := [aI (x2)]) dX3_nextToAsk_56 lk_X3_72 mok_X3_tallyLetters in_X3_tallyLetters sl_X3_tallyLetters kt_149 rfl rfl rfl (Nat.le_of_ble_eq_true rfl) rfl (Nat.le_of_ble_eq_true rfl) rfl (m_mono (fun r g5 hr => ?_) h)
      obtain ⟨rfl, h⟩ := hr
      show Zm w (d + 4) mX3_nextToAsk 59 [some (aR (some (149))), some (aI (x1)), some (aI (x2)), some (aI (x3)), none] [] g5 P
      refine z_iinc dX3_nextToAsk_59 rfl (by decide) rfl ?_
      show Zm w (d + 4) mX3_nextToAsk 62 [some (aR (some (149))), some (aI (x1)), some (aI (x2)), some (aI (x3 + 1)), none] [] g5 P
      refine z_goto (tgt := 24) dX3_nextToAsk_62 (by decide) ?_
      exact z_weak (by simp [lle]) h
set_option maxRecDepth 4000 in
theorem s_X3_nextToAsk_70 {w : GX} {d : Nat} {P : PN} {g : GI} (x3 : Int) (x4 : Int)
    (h : ((¬ nm x4 < nm (g 18 10) → P (some (aI (x3))) g) ∧ (nm x4 < nm (g 18 10) → ((nm x3 = nm ((-1)) → Zm w (d + 4) mX3_nextToAsk 70 [some (aR (some (149))), none, none, some (aI (x4)), some (aI (x4 + 1))] [] g P) ∧ (¬ nm x3 = nm ((-1)) → Zm w (d + 3) mX3_mostAlike 0 [some (aR (some (149))), some (aI (x4)), none, none] [] g (fun r g3 => ∃ z4 : Int, r = some (aI z4) ∧ Zm w (d + 3) mX3_mostAlike 0 [some (aR (some (149))), some (aI (x3)), none, none] [] g3 (fun r g5 => ∃ z6 : Int, r = some (aI z6) ∧ ((¬ nm z4 < nm z6 → Zm w (d + 4) mX3_nextToAsk 70 [some (aR (some (149))), none, none, some (aI (x3)), some (aI (x4 + 1))] [] g5 P) ∧ (nm z4 < nm z6 → Zm w (d + 4) mX3_nextToAsk 70 [some (aR (some (149))), none, none, some (aI (x4)), some (aI (x4 + 1))] [] g5 P))))))))) :
    Zm w (d + 4) mX3_nextToAsk 70 [some (aR (some (149))), none, none, some (aI (x3)), some (aI (x4))] [] g P := by
  refine z_iload dX3_nextToAsk_70 rfl ?_
  refine z_aload_n dX3_nextToAsk_72 rfl rfl ?_
  refine m_getR dX3_nextToAsk_73 fl_X3_29 (by decide) kt_149 rv_149_0 ?_
  refine m_getR dX3_nextToAsk_76 fl_X3_37 (by decide) kt_27 rv_27_0 ?_
  refine z_getI dX3_nextToAsk_79 fl_X3_76 (by decide) kt_18 ?_
  refine z_icmp_ge (tgt := 113) dX3_nextToAsk_82 (by decide) (fun c1 => ?_) (fun c1 => ?_)
  · replace h := h.1 c1
    refine z_iload_n dX3_nextToAsk_113 rfl rfl ?_
    exact m_iret dX3_nextToAsk_114 rfl h
  · replace h := h.2 (Decidable.not_not.mp c1)
    refine z_iload_n dX3_nextToAsk_85 rfl rfl ?_
    refine z_iconst dX3_nextToAsk_86 ?_
    refine z_icmp_eq (tgt := 104) dX3_nextToAsk_87 (by decide) (fun c2 => ?_) (fun c2 => ?_)
    · replace h := h.1 c2
      refine z_iload dX3_nextToAsk_104 rfl ?_
      refine z_istore_n dX3_nextToAsk_106 rfl (by decide) rfl ?_
      show Zm w (d + 4) mX3_nextToAsk 107 [some (aR (some (149))), none, none, some (aI (x4)), some (aI (x4))] [] g P
      refine z_iinc dX3_nextToAsk_107 rfl (by decide) rfl ?_
      show Zm w (d + 4) mX3_nextToAsk 110 [some (aR (some (149))), none, none, some (aI (x4)), some (aI (x4 + 1))] [] g P
      refine z_goto (tgt := 70) dX3_nextToAsk_110 (by decide) ?_
      exact z_weak (by simp [lle]) h
    · replace h := h.2 c2
      refine z_aload_n dX3_nextToAsk_90 rfl rfl ?_
      refine z_iload dX3_nextToAsk_91 rfl ?_
      refine m_callV (as := [aI (x4)]) dX3_nextToAsk_93 lk_X3_81 mok_X3_mostAlike in_X3_mostAlike sl_X3_mostAlike kt_149 rfl rfl rfl (Nat.le_of_ble_eq_true rfl) rfl (Nat.le_of_ble_eq_true rfl) rfl (m_mono (fun r g3 hr => ?_) h)
      obtain ⟨z4, rfl, h⟩ := hr
      show Zm w (d + 4) mX3_nextToAsk 96 [some (aR (some (149))), none, none, some (aI (x3)), some (aI (x4))] [aI (z4)] g3 P
      refine z_aload_n dX3_nextToAsk_96 rfl rfl ?_
      refine z_iload_n dX3_nextToAsk_97 rfl rfl ?_
      refine m_callV (as := [aI (x3)]) dX3_nextToAsk_98 lk_X3_81 mok_X3_mostAlike in_X3_mostAlike sl_X3_mostAlike kt_149 rfl rfl rfl (Nat.le_of_ble_eq_true rfl) rfl (Nat.le_of_ble_eq_true rfl) rfl (m_mono (fun r g5 hr => ?_) h)
      obtain ⟨z6, rfl, h⟩ := hr
      show Zm w (d + 4) mX3_nextToAsk 101 [some (aR (some (149))), none, none, some (aI (x3)), some (aI (x4))] [aI (z6), aI (z4)] g5 P
      refine z_icmp_ge (tgt := 107) dX3_nextToAsk_101 (by decide) (fun c7 => ?_) (fun c7 => ?_)
      · replace h := h.1 c7
        refine z_iinc dX3_nextToAsk_107 rfl (by decide) rfl ?_
        show Zm w (d + 4) mX3_nextToAsk 110 [some (aR (some (149))), none, none, some (aI (x3)), some (aI (x4 + 1))] [] g5 P
        refine z_goto (tgt := 70) dX3_nextToAsk_110 (by decide) ?_
        exact z_weak (by simp [lle]) h
      · replace h := h.2 (Decidable.not_not.mp c7)
        refine z_iload dX3_nextToAsk_104 rfl ?_
        refine z_istore_n dX3_nextToAsk_106 rfl (by decide) rfl ?_
        show Zm w (d + 4) mX3_nextToAsk 107 [some (aR (some (149))), none, none, some (aI (x4)), some (aI (x4))] [] g5 P
        refine z_iinc dX3_nextToAsk_107 rfl (by decide) rfl ?_
        show Zm w (d + 4) mX3_nextToAsk 110 [some (aR (some (149))), none, none, some (aI (x4)), some (aI (x4 + 1))] [] g5 P
        refine z_goto (tgt := 70) dX3_nextToAsk_110 (by decide) ?_
        exact z_weak (by simp [lle]) h
theorem dX3_tallyLetters_0 : decode cX3_tallyLetters 0 = .ok (.aload_n 0, 1) := by decide +kernel
theorem dX3_tallyLetters_1 : decode cX3_tallyLetters 1 = .ok (.getfield 21, 3) := by decide +kernel
theorem dX3_tallyLetters_4 : decode cX3_tallyLetters 4 = .ok (.aload_n 0, 1) := by decide +kernel
theorem dX3_tallyLetters_5 : decode cX3_tallyLetters 5 = .ok (.getfield 29, 3) := by decide +kernel
theorem dX3_tallyLetters_8 : decode cX3_tallyLetters 8 = .ok (.getfield 85, 3) := by decide +kernel
theorem dX3_tallyLetters_11 : decode cX3_tallyLetters 11 = .ok (.iconst 0, 1) := by decide +kernel
theorem dX3_tallyLetters_12 : decode cX3_tallyLetters 12 = .ok (.aaload, 1) := by decide +kernel
theorem dX3_tallyLetters_13 : decode cX3_tallyLetters 13 = .ok (.invokevirtual 89, 3) := by decide +kernel
theorem dX3_tallyLetters_16 : decode cX3_tallyLetters 16 = .ok (.aload_n 0, 1) := by decide +kernel
theorem dX3_tallyLetters_17 : decode cX3_tallyLetters 17 = .ok (.getfield 29, 3) := by decide +kernel
theorem dX3_tallyLetters_20 : decode cX3_tallyLetters 20 = .ok (.aload_n 0, 1) := by decide +kernel
theorem dX3_tallyLetters_21 : decode cX3_tallyLetters 21 = .ok (.getfield 21, 3) := by decide +kernel
theorem dX3_tallyLetters_24 : decode cX3_tallyLetters 24 = .ok (.iconst 0, 1) := by decide +kernel
theorem dX3_tallyLetters_25 : decode cX3_tallyLetters 25 = .ok (.iload_n 1, 1) := by decide +kernel
theorem dX3_tallyLetters_26 : decode cX3_tallyLetters 26 = .ok (.aload_n 0, 1) := by decide +kernel
theorem dX3_tallyLetters_27 : decode cX3_tallyLetters 27 = .ok (.getfield 12, 3) := by decide +kernel
theorem dX3_tallyLetters_30 : decode cX3_tallyLetters 30 = .ok (.invokevirtual 93, 3) := by decide +kernel
theorem dX3_tallyLetters_33 : decode cX3_tallyLetters 33 = .ok (.iconst 0, 1) := by decide +kernel
theorem dX3_tallyLetters_34 : decode cX3_tallyLetters 34 = .ok (.istore_n 2, 1) := by decide +kernel
theorem dX3_tallyLetters_35 : decode cX3_tallyLetters 35 = .ok (.iload_n 2, 1) := by decide +kernel
theorem dX3_tallyLetters_36 : decode cX3_tallyLetters 36 = .ok (.aload_n 0, 1) := by decide +kernel
theorem dX3_tallyLetters_37 : decode cX3_tallyLetters 37 = .ok (.getfield 29, 3) := by decide +kernel
theorem dX3_tallyLetters_40 : decode cX3_tallyLetters 40 = .ok (.getfield 37, 3) := by decide +kernel
theorem dX3_tallyLetters_43 : decode cX3_tallyLetters 43 = .ok (.getfield 76, 3) := by decide +kernel
theorem dX3_tallyLetters_46 : decode cX3_tallyLetters 46 = .ok (.if_icmp .ge 38, 3) := by decide +kernel
theorem dX3_tallyLetters_49 : decode cX3_tallyLetters 49 = .ok (.aload_n 0, 1) := by decide +kernel
theorem dX3_tallyLetters_50 : decode cX3_tallyLetters 50 = .ok (.getfield 25, 3) := by decide +kernel
theorem dX3_tallyLetters_53 : decode cX3_tallyLetters 53 = .ok (.iload_n 2, 1) := by decide +kernel
theorem dX3_tallyLetters_54 : decode cX3_tallyLetters 54 = .ok (.bipush 26, 2) := by decide +kernel
theorem dX3_tallyLetters_56 : decode cX3_tallyLetters 56 = .ok (.imul, 1) := by decide +kernel
theorem dX3_tallyLetters_57 : decode cX3_tallyLetters 57 = .ok (.aload_n 0, 1) := by decide +kernel
theorem dX3_tallyLetters_58 : decode cX3_tallyLetters 58 = .ok (.getfield 21, 3) := by decide +kernel
theorem dX3_tallyLetters_61 : decode cX3_tallyLetters 61 = .ok (.aload_n 0, 1) := by decide +kernel
theorem dX3_tallyLetters_62 : decode cX3_tallyLetters 62 = .ok (.getfield 29, 3) := by decide +kernel
theorem dX3_tallyLetters_65 : decode cX3_tallyLetters 65 = .ok (.getfield 37, 3) := by decide +kernel
theorem dX3_tallyLetters_68 : decode cX3_tallyLetters 68 = .ok (.iload_n 2, 1) := by decide +kernel
theorem dX3_tallyLetters_69 : decode cX3_tallyLetters 69 = .ok (.invokevirtual 97, 3) := by decide +kernel
theorem dX3_tallyLetters_72 : decode cX3_tallyLetters 72 = .ok (.iadd, 1) := by decide +kernel
theorem dX3_tallyLetters_73 : decode cX3_tallyLetters 73 = .ok (.dup2, 1) := by decide +kernel
theorem dX3_tallyLetters_74 : decode cX3_tallyLetters 74 = .ok (.iaload, 1) := by decide +kernel
theorem dX3_tallyLetters_75 : decode cX3_tallyLetters 75 = .ok (.iconst 1, 1) := by decide +kernel
theorem dX3_tallyLetters_76 : decode cX3_tallyLetters 76 = .ok (.iadd, 1) := by decide +kernel
theorem dX3_tallyLetters_77 : decode cX3_tallyLetters 77 = .ok (.iastore, 1) := by decide +kernel
theorem dX3_tallyLetters_78 : decode cX3_tallyLetters 78 = .ok (.iinc 2 1, 3) := by decide +kernel
theorem dX3_tallyLetters_81 : decode cX3_tallyLetters 81 = .ok (.goto (-46), 3) := by decide +kernel
theorem dX3_tallyLetters_84 : decode cX3_tallyLetters 84 = .ok (.return_, 1) := by decide +kernel
set_option maxRecDepth 4000 in
theorem s_X3_tallyLetters_0 {w : GX} {d : Nat} {P : PN} {g : GI} (x1 : Int)
    (h : Zm w (d + 2) mX8_become 0 [some (aR (some (152))), some (aR (some (31)))] [] g (fun r g1 => r = none ∧ Zm w (d + 2) mX2_go 0 [some (aR (some (27))), some (aR (some (152))), some (aI (0)), some (aI (x1)), some (aR (some (150))), none] [] g1 (fun r g3 => r = none ∧ Zm w (d + 3) mX3_tallyLetters 35 [some (aR (some (149))), none, some (aI (0))] [] g3 P))) :
    Zm w (d + 3) mX3_tallyLetters 0 [some (aR (some (149))), some (aI (x1)), none] [] g P := by
  refine z_aload_n dX3_tallyLetters_0 rfl rfl ?_
  refine m_getR dX3_tallyLetters_1 fl_X3_21 (by decide) kt_149 rv_149_3 ?_
  refine z_aload_n dX3_tallyLetters_4 rfl rfl ?_
  refine m_getR dX3_tallyLetters_5 fl_X3_29 (by decide) kt_149 rv_149_0 ?_
  refine m_getR dX3_tallyLetters_8 fl_X3_85 (by decide) kt_27 rv_27_5 ?_
  refine z_iconst dX3_tallyLetters_11 ?_
  refine m_aaldv (r := 31) dX3_tallyLetters_12 kv_30 (by decide) (by decide) (by decide +kernel) ?_
  refine m_callV (as := [aR (some (31))]) dX3_tallyLetters_13 lk_X3_89 mok_X8_become in_X8_become sl_X8_become kt_152 rfl rfl rfl (Nat.le_of_ble_eq_true rfl) rfl (Nat.le_of_ble_eq_true rfl) rfl (m_mono (fun r g1 hr => ?_) h)
  obtain ⟨rfl, h⟩ := hr
  show Zm w (d + 3) mX3_tallyLetters 16 [some (aR (some (149))), some (aI (x1)), none] [] g1 P
  refine z_aload_n dX3_tallyLetters_16 rfl rfl ?_
  refine m_getR dX3_tallyLetters_17 fl_X3_29 (by decide) kt_149 rv_149_0 ?_
  refine z_aload_n dX3_tallyLetters_20 rfl rfl ?_
  refine m_getR dX3_tallyLetters_21 fl_X3_21 (by decide) kt_149 rv_149_3 ?_
  refine z_iconst dX3_tallyLetters_24 ?_
  refine z_iload_n dX3_tallyLetters_25 rfl rfl ?_
  refine z_aload_n dX3_tallyLetters_26 rfl rfl ?_
  refine m_getR dX3_tallyLetters_27 fl_X3_12 (by decide) kt_149 rv_149_2 ?_
  refine m_callV (as := [aR (some (152)), aI (0), aI (x1), aR (some (150))]) dX3_tallyLetters_30 lk_X3_93 mok_X2_go in_X2_go sl_X2_go kt_27 rfl rfl rfl (Nat.le_of_ble_eq_true rfl) rfl (Nat.le_of_ble_eq_true rfl) rfl (m_mono (fun r g3 hr => ?_) h)
  obtain ⟨rfl, h⟩ := hr
  show Zm w (d + 3) mX3_tallyLetters 33 [some (aR (some (149))), some (aI (x1)), none] [] g3 P
  refine z_iconst dX3_tallyLetters_33 ?_
  refine z_istore_n dX3_tallyLetters_34 rfl (by decide) rfl ?_
  show Zm w (d + 3) mX3_tallyLetters 35 [some (aR (some (149))), some (aI (x1)), some (aI (0))] [] g3 P
  exact z_weak (by simp [lle]) h
set_option maxRecDepth 4000 in
theorem s_X3_tallyLetters_35 {w : GX} {d : Nat} {P : PN} {g : GI} (x2 : Int)
    (h : ((¬ nm x2 < nm (g 18 10) → P none g) ∧ (nm x2 < nm (g 18 10) → Zm w (d + 2) mX8_letterOf 0 [some (aR (some (152))), some (aR (some (18))), some (aI (x2)), none] [] g (fun r g2 => ∃ z3 : Int, r = some (aI z3) ∧ (0 ≤ nm ((x2 * 26) + z3) ∧ nm ((x2 * 26) + z3) < 208 ∧ (∀ g8 : GI, g8 = up2 g2 157 (nm ((x2 * 26) + z3)).toNat ((g2 157 (nm ((x2 * 26) + z3)).toNat) + 1) → Zm w (d + 3) mX3_tallyLetters 35 [some (aR (some (149))), none, some (aI (x2 + 1))] [] g8 P)))))) :
    Zm w (d + 3) mX3_tallyLetters 35 [some (aR (some (149))), none, some (aI (x2))] [] g P := by
  refine z_iload_n dX3_tallyLetters_35 rfl rfl ?_
  refine z_aload_n dX3_tallyLetters_36 rfl rfl ?_
  refine m_getR dX3_tallyLetters_37 fl_X3_29 (by decide) kt_149 rv_149_0 ?_
  refine m_getR dX3_tallyLetters_40 fl_X3_37 (by decide) kt_27 rv_27_0 ?_
  refine z_getI dX3_tallyLetters_43 fl_X3_76 (by decide) kt_18 ?_
  refine z_icmp_ge (tgt := 84) dX3_tallyLetters_46 (by decide) (fun c1 => ?_) (fun c1 => ?_)
  · replace h := h.1 c1
    exact m_vret dX3_tallyLetters_84 rfl h
  · replace h := h.2 (Decidable.not_not.mp c1)
    refine z_aload_n dX3_tallyLetters_49 rfl rfl ?_
    refine m_getR dX3_tallyLetters_50 fl_X3_25 (by decide) kt_149 rv_149_4 ?_
    refine z_iload_n dX3_tallyLetters_53 rfl rfl ?_
    refine z_bipush dX3_tallyLetters_54 rfl ?_
    refine z_imul dX3_tallyLetters_56 ?_
    refine z_aload_n dX3_tallyLetters_57 rfl rfl ?_
    refine m_getR dX3_tallyLetters_58 fl_X3_21 (by decide) kt_149 rv_149_3 ?_
    refine z_aload_n dX3_tallyLetters_61 rfl rfl ?_
    refine m_getR dX3_tallyLetters_62 fl_X3_29 (by decide) kt_149 rv_149_0 ?_
    refine m_getR dX3_tallyLetters_65 fl_X3_37 (by decide) kt_27 rv_27_0 ?_
    refine z_iload_n dX3_tallyLetters_68 rfl rfl ?_
    refine m_callV (as := [aR (some (18)), aI (x2)]) dX3_tallyLetters_69 lk_X3_97 mok_X8_letterOf in_X8_letterOf sl_X8_letterOf kt_152 rfl rfl rfl (Nat.le_of_ble_eq_true rfl) rfl (Nat.le_of_ble_eq_true rfl) rfl (m_mono (fun r g2 hr => ?_) h)
    obtain ⟨z3, rfl, h⟩ := hr
    show Zm w (d + 3) mX3_tallyLetters 72 [some (aR (some (149))), none, some (aI (x2))] [aI (z3), aI (x2 * 26), aR (some (157))] g2 P
    refine z_iadd dX3_tallyLetters_72 ?_
    refine z_dup2 dX3_tallyLetters_73 rfl rfl ?_
    obtain ⟨q6, q7, h⟩ := h
    refine m_iald dX3_tallyLetters_74 kv_157 q6 q7 ?_
    refine z_iconst dX3_tallyLetters_75 ?_
    refine z_iadd dX3_tallyLetters_76 ?_
    replace h := h _ rfl
    refine m_iast dX3_tallyLetters_77 kv_157 q6 q7 ?_
    refine z_iinc dX3_tallyLetters_78 rfl (by decide) rfl ?_
    show Zm w (d + 3) mX3_tallyLetters 81 [some (aR (some (149))), none, some (aI (x2 + 1))] [] (up2 g2 157 (nm ((x2 * 26) + z3)).toNat ((g2 157 (nm ((x2 * 26) + z3)).toNat) + 1)) P
    refine z_goto (tgt := 35) dX3_tallyLetters_81 (by decide) ?_
    exact z_weak (by simp [lle]) h
theorem dX3_mostAlike_0 : decode cX3_mostAlike 0 = .ok (.iconst 0, 1) := by decide +kernel
theorem dX3_mostAlike_1 : decode cX3_mostAlike 1 = .ok (.istore_n 2, 1) := by decide +kernel
theorem dX3_mostAlike_2 : decode cX3_mostAlike 2 = .ok (.iconst 0, 1) := by decide +kernel
theorem dX3_mostAlike_3 : decode cX3_mostAlike 3 = .ok (.istore_n 3, 1) := by decide +kernel
theorem dX3_mostAlike_4 : decode cX3_mostAlike 4 = .ok (.iload_n 3, 1) := by decide +kernel
theorem dX3_mostAlike_5 : decode cX3_mostAlike 5 = .ok (.bipush 26, 2) := by decide +kernel
theorem dX3_mostAlike_7 : decode cX3_mostAlike 7 = .ok (.if_icmp .ge 25, 3) := by decide +kernel
theorem dX3_mostAlike_10 : decode cX3_mostAlike 10 = .ok (.iload_n 2, 1) := by decide +kernel
theorem dX3_mostAlike_11 : decode cX3_mostAlike 11 = .ok (.aload_n 0, 1) := by decide +kernel
theorem dX3_mostAlike_12 : decode cX3_mostAlike 12 = .ok (.getfield 25, 3) := by decide +kernel
theorem dX3_mostAlike_15 : decode cX3_mostAlike 15 = .ok (.iload_n 1, 1) := by decide +kernel
theorem dX3_mostAlike_16 : decode cX3_mostAlike 16 = .ok (.bipush 26, 2) := by decide +kernel
theorem dX3_mostAlike_18 : decode cX3_mostAlike 18 = .ok (.imul, 1) := by decide +kernel
theorem dX3_mostAlike_19 : decode cX3_mostAlike 19 = .ok (.iload_n 3, 1) := by decide +kernel
theorem dX3_mostAlike_20 : decode cX3_mostAlike 20 = .ok (.iadd, 1) := by decide +kernel
theorem dX3_mostAlike_21 : decode cX3_mostAlike 21 = .ok (.iaload, 1) := by decide +kernel
theorem dX3_mostAlike_22 : decode cX3_mostAlike 22 = .ok (.invokestatic 101, 3) := by decide +kernel
theorem dX3_mostAlike_25 : decode cX3_mostAlike 25 = .ok (.istore_n 2, 1) := by decide +kernel
theorem dX3_mostAlike_26 : decode cX3_mostAlike 26 = .ok (.iinc 3 1, 3) := by decide +kernel
theorem dX3_mostAlike_29 : decode cX3_mostAlike 29 = .ok (.goto (-25), 3) := by decide +kernel
theorem dX3_mostAlike_32 : decode cX3_mostAlike 32 = .ok (.iload_n 2, 1) := by decide +kernel
theorem dX3_mostAlike_33 : decode cX3_mostAlike 33 = .ok (.ireturn, 1) := by decide +kernel
set_option maxRecDepth 4000 in
theorem s_X3_mostAlike_0 {w : GX} {d : Nat} {P : PN} {g : GI} (x1 : Int)
    (h : Zm w (d + 1) mX3_mostAlike 4 [some (aR (some (149))), some (aI (x1)), some (aI (0)), some (aI (0))] [] g P) :
    Zm w (d + 1) mX3_mostAlike 0 [some (aR (some (149))), some (aI (x1)), none, none] [] g P := by
  refine z_iconst dX3_mostAlike_0 ?_
  refine z_istore_n dX3_mostAlike_1 rfl (by decide) rfl ?_
  show Zm w (d + 1) mX3_mostAlike 2 [some (aR (some (149))), some (aI (x1)), some (aI (0)), none] [] g P
  refine z_iconst dX3_mostAlike_2 ?_
  refine z_istore_n dX3_mostAlike_3 rfl (by decide) rfl ?_
  show Zm w (d + 1) mX3_mostAlike 4 [some (aR (some (149))), some (aI (x1)), some (aI (0)), some (aI (0))] [] g P
  exact z_weak (by simp [lle]) h
set_option maxRecDepth 4000 in
theorem s_X3_mostAlike_4 {w : GX} {d : Nat} {P : PN} {g : GI} (x1 : Int) (x2 : Int) (x3 : Int)
    (h : ((¬ nm x3 < nm 26 → P (some (aI (x2))) g) ∧ (nm x3 < nm 26 → (0 ≤ nm ((x1 * 26) + x3) ∧ nm ((x1 * 26) + x3) < 208 ∧ (∀ v6 : Int, v6 = iMax x2 (g 157 (nm ((x1 * 26) + x3)).toNat) → Zm w (d + 1) mX3_mostAlike 4 [some (aR (some (149))), some (aI (x1)), some (aI (v6)), some (aI (x3 + 1))] [] g P))))) :
    Zm w (d + 1) mX3_mostAlike 4 [some (aR (some (149))), some (aI (x1)), some (aI (x2)), some (aI (x3))] [] g P := by
  refine z_iload_n dX3_mostAlike_4 rfl rfl ?_
  refine z_bipush dX3_mostAlike_5 rfl ?_
  refine z_icmp_ge (tgt := 32) dX3_mostAlike_7 (by decide) (fun c1 => ?_) (fun c1 => ?_)
  · replace h := h.1 c1
    refine z_iload_n dX3_mostAlike_32 rfl rfl ?_
    exact m_iret dX3_mostAlike_33 rfl h
  · replace h := h.2 (Decidable.not_not.mp c1)
    refine z_iload_n dX3_mostAlike_10 rfl rfl ?_
    refine z_aload_n dX3_mostAlike_11 rfl rfl ?_
    refine m_getR dX3_mostAlike_12 fl_X3_25 (by decide) kt_149 rv_149_4 ?_
    refine z_iload_n dX3_mostAlike_15 rfl rfl ?_
    refine z_bipush dX3_mostAlike_16 rfl ?_
    refine z_imul dX3_mostAlike_18 ?_
    refine z_iload_n dX3_mostAlike_19 rfl rfl ?_
    refine z_iadd dX3_mostAlike_20 ?_
    obtain ⟨q4, q5, h⟩ := h
    refine m_iald dX3_mostAlike_21 kv_157 q4 q5 ?_
    refine m_max dX3_mostAlike_22 lk_X3_101 (Nat.le_of_ble_eq_true rfl) ?_
    replace h := h _ rfl
    refine z_istore_n dX3_mostAlike_25 rfl (by decide) rfl ?_
    show Zm w (d + 1) mX3_mostAlike 26 [some (aR (some (149))), some (aI (x1)), some (aI (iMax x2 (g 157 (nm ((x1 * 26) + x3)).toNat))), some (aI (x3))] [] g P
    refine z_iinc dX3_mostAlike_26 rfl (by decide) rfl ?_
    show Zm w (d + 1) mX3_mostAlike 29 [some (aR (some (149))), some (aI (x1)), some (aI ((iMax x2 (g 157 (nm ((x1 * 26) + x3)).toNat)))), some (aI (x3 + 1))] [] g P
    refine z_goto (tgt := 4) dX3_mostAlike_29 (by decide) ?_
    exact z_weak (by simp [lle]) h
theorem dX3_comesOut_0 : decode cX3_comesOut 0 = .ok (.iconst (-1), 1) := by decide +kernel
theorem dX3_comesOut_1 : decode cX3_comesOut 1 = .ok (.istore_n 1, 1) := by decide +kernel
theorem dX3_comesOut_2 : decode cX3_comesOut 2 = .ok (.iconst 0, 1) := by decide +kernel
theorem dX3_comesOut_3 : decode cX3_comesOut 3 = .ok (.istore_n 2, 1) := by decide +kernel
theorem dX3_comesOut_4 : decode cX3_comesOut 4 = .ok (.iload_n 2, 1) := by decide +kernel
theorem dX3_comesOut_5 : decode cX3_comesOut 5 = .ok (.aload_n 0, 1) := by decide +kernel
theorem dX3_comesOut_6 : decode cX3_comesOut 6 = .ok (.getfield 33, 3) := by decide +kernel
theorem dX3_comesOut_9 : decode cX3_comesOut 9 = .ok (.getfield 50, 3) := by decide +kernel
theorem dX3_comesOut_12 : decode cX3_comesOut 12 = .ok (.if_icmp .ge 23, 3) := by decide +kernel
theorem dX3_comesOut_15 : decode cX3_comesOut 15 = .ok (.iload_n 1, 1) := by decide +kernel
theorem dX3_comesOut_16 : decode cX3_comesOut 16 = .ok (.aload_n 0, 1) := by decide +kernel
theorem dX3_comesOut_17 : decode cX3_comesOut 17 = .ok (.getfield 33, 3) := by decide +kernel
theorem dX3_comesOut_20 : decode cX3_comesOut 20 = .ok (.getfield 107, 3) := by decide +kernel
theorem dX3_comesOut_23 : decode cX3_comesOut 23 = .ok (.iload_n 2, 1) := by decide +kernel
theorem dX3_comesOut_24 : decode cX3_comesOut 24 = .ok (.iaload, 1) := by decide +kernel
theorem dX3_comesOut_25 : decode cX3_comesOut 25 = .ok (.invokestatic 101, 3) := by decide +kernel
theorem dX3_comesOut_28 : decode cX3_comesOut 28 = .ok (.istore_n 1, 1) := by decide +kernel
theorem dX3_comesOut_29 : decode cX3_comesOut 29 = .ok (.iinc 2 1, 3) := by decide +kernel
theorem dX3_comesOut_32 : decode cX3_comesOut 32 = .ok (.goto (-28), 3) := by decide +kernel
theorem dX3_comesOut_35 : decode cX3_comesOut 35 = .ok (.aload_n 0, 1) := by decide +kernel
theorem dX3_comesOut_36 : decode cX3_comesOut 36 = .ok (.getfield 21, 3) := by decide +kernel
theorem dX3_comesOut_39 : decode cX3_comesOut 39 = .ok (.aload_n 0, 1) := by decide +kernel
theorem dX3_comesOut_40 : decode cX3_comesOut 40 = .ok (.getfield 29, 3) := by decide +kernel
theorem dX3_comesOut_43 : decode cX3_comesOut 43 = .ok (.getfield 85, 3) := by decide +kernel
theorem dX3_comesOut_46 : decode cX3_comesOut 46 = .ok (.iconst 0, 1) := by decide +kernel
theorem dX3_comesOut_47 : decode cX3_comesOut 47 = .ok (.aaload, 1) := by decide +kernel
theorem dX3_comesOut_48 : decode cX3_comesOut 48 = .ok (.invokevirtual 89, 3) := by decide +kernel
theorem dX3_comesOut_51 : decode cX3_comesOut 51 = .ok (.iconst 0, 1) := by decide +kernel
theorem dX3_comesOut_52 : decode cX3_comesOut 52 = .ok (.istore_n 2, 1) := by decide +kernel
theorem dX3_comesOut_53 : decode cX3_comesOut 53 = .ok (.iload_n 2, 1) := by decide +kernel
theorem dX3_comesOut_54 : decode cX3_comesOut 54 = .ok (.iload_n 1, 1) := by decide +kernel
theorem dX3_comesOut_55 : decode cX3_comesOut 55 = .ok (.if_icmp .gt 36, 3) := by decide +kernel
theorem dX3_comesOut_58 : decode cX3_comesOut 58 = .ok (.aload_n 0, 1) := by decide +kernel
theorem dX3_comesOut_59 : decode cX3_comesOut 59 = .ok (.getfield 29, 3) := by decide +kernel
theorem dX3_comesOut_62 : decode cX3_comesOut 62 = .ok (.aload_n 0, 1) := by decide +kernel
theorem dX3_comesOut_63 : decode cX3_comesOut 63 = .ok (.getfield 21, 3) := by decide +kernel
theorem dX3_comesOut_66 : decode cX3_comesOut 66 = .ok (.iload_n 2, 1) := by decide +kernel
theorem dX3_comesOut_67 : decode cX3_comesOut 67 = .ok (.iload_n 2, 1) := by decide +kernel
theorem dX3_comesOut_68 : decode cX3_comesOut 68 = .ok (.aload_n 0, 1) := by decide +kernel
theorem dX3_comesOut_69 : decode cX3_comesOut 69 = .ok (.getfield 12, 3) := by decide +kernel
theorem dX3_comesOut_72 : decode cX3_comesOut 72 = .ok (.invokevirtual 93, 3) := by decide +kernel
theorem dX3_comesOut_75 : decode cX3_comesOut 75 = .ok (.aload_n 0, 1) := by decide +kernel
theorem dX3_comesOut_76 : decode cX3_comesOut 76 = .ok (.iload_n 2, 1) := by decide +kernel
theorem dX3_comesOut_77 : decode cX3_comesOut 77 = .ok (.invokevirtual 110, 3) := by decide +kernel
theorem dX3_comesOut_80 : decode cX3_comesOut 80 = .ok (.ifCond .ne 5, 3) := by decide +kernel
theorem dX3_comesOut_83 : decode cX3_comesOut 83 = .ok (.iconst 0, 1) := by decide +kernel
theorem dX3_comesOut_84 : decode cX3_comesOut 84 = .ok (.ireturn, 1) := by decide +kernel
theorem dX3_comesOut_85 : decode cX3_comesOut 85 = .ok (.iinc 2 1, 3) := by decide +kernel
theorem dX3_comesOut_88 : decode cX3_comesOut 88 = .ok (.goto (-35), 3) := by decide +kernel
theorem dX3_comesOut_91 : decode cX3_comesOut 91 = .ok (.iconst 1, 1) := by decide +kernel
theorem dX3_comesOut_92 : decode cX3_comesOut 92 = .ok (.ireturn, 1) := by decide +kernel
set_option maxRecDepth 4000 in
theorem s_X3_comesOut_0 {w : GX} {d : Nat} {P : PN} {g : GI} 
    (h : (∀ v1 : Int, v1 = (-1) → Zm w (d + 3) mX3_comesOut 4 [some (aR (some (149))), some (aI (v1)), some (aI (0))] [] g P)) :
    Zm w (d + 3) mX3_comesOut 0 [some (aR (some (149))), none, none] [] g P := by
  refine z_iconst dX3_comesOut_0 ?_
  replace h := h _ rfl
  refine z_istore_n dX3_comesOut_1 rfl (by decide) rfl ?_
  show Zm w (d + 3) mX3_comesOut 2 [some (aR (some (149))), some (aI ((-1))), none] [] g P
  refine z_iconst dX3_comesOut_2 ?_
  refine z_istore_n dX3_comesOut_3 rfl (by decide) rfl ?_
  show Zm w (d + 3) mX3_comesOut 4 [some (aR (some (149))), some (aI (((-1)))), some (aI (0))] [] g P
  exact z_weak (by simp [lle]) h
set_option maxRecDepth 4000 in
theorem s_X3_comesOut_4 {w : GX} {d : Nat} {P : PN} {g : GI} (x1 : Int) (x2 : Int)
    (h : ((¬ nm x2 < nm (g 14 3) → Zm w (d + 2) mX8_become 0 [some (aR (some (152))), some (aR (some (31)))] [] g (fun r g2 => r = none ∧ Zm w (d + 3) mX3_comesOut 53 [some (aR (some (149))), some (aI (x1)), some (aI (0))] [] g2 P)) ∧ (nm x2 < nm (g 14 3) → (0 ≤ nm x2 ∧ nm x2 < 8 ∧ (∀ v8 : Int, v8 = iMax x1 (g 15 (nm x2).toNat) → Zm w (d + 3) mX3_comesOut 4 [some (aR (some (149))), some (aI (v8)), some (aI (x2 + 1))] [] g P))))) :
    Zm w (d + 3) mX3_comesOut 4 [some (aR (some (149))), some (aI (x1)), some (aI (x2))] [] g P := by
  refine z_iload_n dX3_comesOut_4 rfl rfl ?_
  refine z_aload_n dX3_comesOut_5 rfl rfl ?_
  refine m_getR dX3_comesOut_6 fl_X3_33 (by decide) kt_149 rv_149_1 ?_
  refine z_getI dX3_comesOut_9 fl_X3_50 (by decide) kt_14 ?_
  refine z_icmp_ge (tgt := 35) dX3_comesOut_12 (by decide) (fun c1 => ?_) (fun c1 => ?_)
  · replace h := h.1 c1
    refine z_aload_n dX3_comesOut_35 rfl rfl ?_
    refine m_getR dX3_comesOut_36 fl_X3_21 (by decide) kt_149 rv_149_3 ?_
    refine z_aload_n dX3_comesOut_39 rfl rfl ?_
    refine m_getR dX3_comesOut_40 fl_X3_29 (by decide) kt_149 rv_149_0 ?_
    refine m_getR dX3_comesOut_43 fl_X3_85 (by decide) kt_27 rv_27_5 ?_
    refine z_iconst dX3_comesOut_46 ?_
    refine m_aaldv (r := 31) dX3_comesOut_47 kv_30 (by decide) (by decide) (by decide +kernel) ?_
    refine m_callV (as := [aR (some (31))]) dX3_comesOut_48 lk_X3_89 mok_X8_become in_X8_become sl_X8_become kt_152 rfl rfl rfl (Nat.le_of_ble_eq_true rfl) rfl (Nat.le_of_ble_eq_true rfl) rfl (m_mono (fun r g2 hr => ?_) h)
    obtain ⟨rfl, h⟩ := hr
    show Zm w (d + 3) mX3_comesOut 51 [some (aR (some (149))), some (aI (x1)), some (aI (x2))] [] g2 P
    refine z_iconst dX3_comesOut_51 ?_
    refine z_istore_n dX3_comesOut_52 rfl (by decide) rfl ?_
    show Zm w (d + 3) mX3_comesOut 53 [some (aR (some (149))), some (aI (x1)), some (aI (0))] [] g2 P
    exact z_weak (by simp [lle]) h
  · replace h := h.2 (Decidable.not_not.mp c1)
    refine z_iload_n dX3_comesOut_15 rfl rfl ?_
    refine z_aload_n dX3_comesOut_16 rfl rfl ?_
    refine m_getR dX3_comesOut_17 fl_X3_33 (by decide) kt_149 rv_149_1 ?_
    refine m_getR dX3_comesOut_20 fl_X3_107 (by decide) kt_14 rv_14_0 ?_
    refine z_iload_n dX3_comesOut_23 rfl rfl ?_
    obtain ⟨q6, q7, h⟩ := h
    refine m_iald dX3_comesOut_24 kv_15 q6 q7 ?_
    refine m_max dX3_comesOut_25 lk_X3_101 (Nat.le_of_ble_eq_true rfl) ?_
    replace h := h _ rfl
    refine z_istore_n dX3_comesOut_28 rfl (by decide) rfl ?_
    show Zm w (d + 3) mX3_comesOut 29 [some (aR (some (149))), some (aI (iMax x1 (g 15 (nm x2).toNat))), some (aI (x2))] [] g P
    refine z_iinc dX3_comesOut_29 rfl (by decide) rfl ?_
    show Zm w (d + 3) mX3_comesOut 32 [some (aR (some (149))), some (aI ((iMax x1 (g 15 (nm x2).toNat)))), some (aI (x2 + 1))] [] g P
    refine z_goto (tgt := 4) dX3_comesOut_32 (by decide) ?_
    exact z_weak (by simp [lle]) h
set_option maxRecDepth 4000 in
theorem s_X3_comesOut_53 {w : GX} {d : Nat} {P : PN} {g : GI} (x1 : Int) (x2 : Int)
    (h : ((nm x1 < nm x2 → P (some (aI (1))) g) ∧ (¬ nm x1 < nm x2 → Zm w (d + 2) mX2_go 0 [some (aR (some (27))), some (aR (some (152))), some (aI (x2)), some (aI (x2)), some (aR (some (150))), none] [] g (fun r g2 => r = none ∧ Zm w (d + 2) mX3_agreesWith 0 [some (aR (some (149))), some (aI (x2)), none, none] [] g2 (fun r g4 => ∃ z5 : Int, r = some (aI z5) ∧ ((¬ nm z5 = 0 → Zm w (d + 3) mX3_comesOut 53 [some (aR (some (149))), some (aI (x1)), some (aI (x2 + 1))] [] g4 P) ∧ (nm z5 = 0 → P (some (aI (0))) g4))))))) :
    Zm w (d + 3) mX3_comesOut 53 [some (aR (some (149))), some (aI (x1)), some (aI (x2))] [] g P := by
  refine z_iload_n dX3_comesOut_53 rfl rfl ?_
  refine z_iload_n dX3_comesOut_54 rfl rfl ?_
  refine z_icmp_gt (tgt := 91) dX3_comesOut_55 (by decide) (fun c1 => ?_) (fun c1 => ?_)
  · replace h := h.1 c1
    refine z_iconst dX3_comesOut_91 ?_
    exact m_zret dX3_comesOut_92 rfl (by decide) h
  · replace h := h.2 c1
    refine z_aload_n dX3_comesOut_58 rfl rfl ?_
    refine m_getR dX3_comesOut_59 fl_X3_29 (by decide) kt_149 rv_149_0 ?_
    refine z_aload_n dX3_comesOut_62 rfl rfl ?_
    refine m_getR dX3_comesOut_63 fl_X3_21 (by decide) kt_149 rv_149_3 ?_
    refine z_iload_n dX3_comesOut_66 rfl rfl ?_
    refine z_iload_n dX3_comesOut_67 rfl rfl ?_
    refine z_aload_n dX3_comesOut_68 rfl rfl ?_
    refine m_getR dX3_comesOut_69 fl_X3_12 (by decide) kt_149 rv_149_2 ?_
    refine m_callV (as := [aR (some (152)), aI (x2), aI (x2), aR (some (150))]) dX3_comesOut_72 lk_X3_93 mok_X2_go in_X2_go sl_X2_go kt_27 rfl rfl rfl (Nat.le_of_ble_eq_true rfl) rfl (Nat.le_of_ble_eq_true rfl) rfl (m_mono (fun r g2 hr => ?_) h)
    obtain ⟨rfl, h⟩ := hr
    show Zm w (d + 3) mX3_comesOut 75 [some (aR (some (149))), some (aI (x1)), some (aI (x2))] [] g2 P
    refine z_aload_n dX3_comesOut_75 rfl rfl ?_
    refine z_iload_n dX3_comesOut_76 rfl rfl ?_
    refine m_callV (as := [aI (x2)]) dX3_comesOut_77 lk_X3_110 mok_X3_agreesWith in_X3_agreesWith sl_X3_agreesWith kt_149 rfl rfl rfl (Nat.le_of_ble_eq_true rfl) rfl (Nat.le_of_ble_eq_true rfl) rfl (m_mono (fun r g4 hr => ?_) h)
    obtain ⟨z5, rfl, h⟩ := hr
    show Zm w (d + 3) mX3_comesOut 80 [some (aR (some (149))), some (aI (x1)), some (aI (x2))] [aI (z5)] g4 P
    refine z_if_ne (tgt := 85) dX3_comesOut_80 (by decide) (fun c6 => ?_) (fun c6 => ?_)
    · replace h := h.1 c6
      refine z_iinc dX3_comesOut_85 rfl (by decide) rfl ?_
      show Zm w (d + 3) mX3_comesOut 88 [some (aR (some (149))), some (aI (x1)), some (aI (x2 + 1))] [] g4 P
      refine z_goto (tgt := 53) dX3_comesOut_88 (by decide) ?_
      exact z_weak (by simp [lle]) h
    · replace h := h.2 (Decidable.not_not.mp c6)
      refine z_iconst dX3_comesOut_83 ?_
      exact m_zret dX3_comesOut_84 rfl (by decide) h
theorem dX3_agreesWith_0 : decode cX3_agreesWith 0 = .ok (.iconst 0, 1) := by decide +kernel
theorem dX3_agreesWith_1 : decode cX3_agreesWith 1 = .ok (.istore_n 2, 1) := by decide +kernel
theorem dX3_agreesWith_2 : decode cX3_agreesWith 2 = .ok (.iload_n 2, 1) := by decide +kernel
theorem dX3_agreesWith_3 : decode cX3_agreesWith 3 = .ok (.aload_n 0, 1) := by decide +kernel
theorem dX3_agreesWith_4 : decode cX3_agreesWith 4 = .ok (.getfield 33, 3) := by decide +kernel
theorem dX3_agreesWith_7 : decode cX3_agreesWith 7 = .ok (.getfield 50, 3) := by decide +kernel
theorem dX3_agreesWith_10 : decode cX3_agreesWith 10 = .ok (.if_icmp .ge 75, 3) := by decide +kernel
theorem dX3_agreesWith_13 : decode cX3_agreesWith 13 = .ok (.aload_n 0, 1) := by decide +kernel
theorem dX3_agreesWith_14 : decode cX3_agreesWith 14 = .ok (.getfield 33, 3) := by decide +kernel
theorem dX3_agreesWith_17 : decode cX3_agreesWith 17 = .ok (.getfield 114, 3) := by decide +kernel
theorem dX3_agreesWith_20 : decode cX3_agreesWith 20 = .ok (.iload_n 2, 1) := by decide +kernel
theorem dX3_agreesWith_21 : decode cX3_agreesWith 21 = .ok (.iaload, 1) := by decide +kernel
theorem dX3_agreesWith_22 : decode cX3_agreesWith 22 = .ok (.istore_n 3, 1) := by decide +kernel
theorem dX3_agreesWith_23 : decode cX3_agreesWith 23 = .ok (.aload_n 0, 1) := by decide +kernel
theorem dX3_agreesWith_24 : decode cX3_agreesWith 24 = .ok (.getfield 33, 3) := by decide +kernel
theorem dX3_agreesWith_27 : decode cX3_agreesWith 27 = .ok (.getfield 107, 3) := by decide +kernel
theorem dX3_agreesWith_30 : decode cX3_agreesWith 30 = .ok (.iload_n 2, 1) := by decide +kernel
theorem dX3_agreesWith_31 : decode cX3_agreesWith 31 = .ok (.iaload, 1) := by decide +kernel
theorem dX3_agreesWith_32 : decode cX3_agreesWith 32 = .ok (.iload_n 1, 1) := by decide +kernel
theorem dX3_agreesWith_33 : decode cX3_agreesWith 33 = .ok (.if_icmp .ne 46, 3) := by decide +kernel
theorem dX3_agreesWith_36 : decode cX3_agreesWith 36 = .ok (.iload_n 3, 1) := by decide +kernel
theorem dX3_agreesWith_37 : decode cX3_agreesWith 37 = .ok (.aload_n 0, 1) := by decide +kernel
theorem dX3_agreesWith_38 : decode cX3_agreesWith 38 = .ok (.getfield 29, 3) := by decide +kernel
theorem dX3_agreesWith_41 : decode cX3_agreesWith 41 = .ok (.getfield 37, 3) := by decide +kernel
theorem dX3_agreesWith_44 : decode cX3_agreesWith 44 = .ok (.getfield 76, 3) := by decide +kernel
theorem dX3_agreesWith_47 : decode cX3_agreesWith 47 = .ok (.if_icmp .ge 30, 3) := by decide +kernel
theorem dX3_agreesWith_50 : decode cX3_agreesWith 50 = .ok (.aload_n 0, 1) := by decide +kernel
theorem dX3_agreesWith_51 : decode cX3_agreesWith 51 = .ok (.getfield 21, 3) := by decide +kernel
theorem dX3_agreesWith_54 : decode cX3_agreesWith 54 = .ok (.aload_n 0, 1) := by decide +kernel
theorem dX3_agreesWith_55 : decode cX3_agreesWith 55 = .ok (.getfield 29, 3) := by decide +kernel
theorem dX3_agreesWith_58 : decode cX3_agreesWith 58 = .ok (.getfield 37, 3) := by decide +kernel
theorem dX3_agreesWith_61 : decode cX3_agreesWith 61 = .ok (.iload_n 3, 1) := by decide +kernel
theorem dX3_agreesWith_62 : decode cX3_agreesWith 62 = .ok (.invokevirtual 97, 3) := by decide +kernel
theorem dX3_agreesWith_65 : decode cX3_agreesWith 65 = .ok (.aload_n 0, 1) := by decide +kernel
theorem dX3_agreesWith_66 : decode cX3_agreesWith 66 = .ok (.getfield 33, 3) := by decide +kernel
theorem dX3_agreesWith_69 : decode cX3_agreesWith 69 = .ok (.getfield 117, 3) := by decide +kernel
theorem dX3_agreesWith_72 : decode cX3_agreesWith 72 = .ok (.iload_n 2, 1) := by decide +kernel
theorem dX3_agreesWith_73 : decode cX3_agreesWith 73 = .ok (.iaload, 1) := by decide +kernel
theorem dX3_agreesWith_74 : decode cX3_agreesWith 74 = .ok (.if_icmp .eq 5, 3) := by decide +kernel
theorem dX3_agreesWith_77 : decode cX3_agreesWith 77 = .ok (.iconst 0, 1) := by decide +kernel
theorem dX3_agreesWith_78 : decode cX3_agreesWith 78 = .ok (.ireturn, 1) := by decide +kernel
theorem dX3_agreesWith_79 : decode cX3_agreesWith 79 = .ok (.iinc 2 1, 3) := by decide +kernel
theorem dX3_agreesWith_82 : decode cX3_agreesWith 82 = .ok (.goto (-80), 3) := by decide +kernel
theorem dX3_agreesWith_85 : decode cX3_agreesWith 85 = .ok (.iconst 1, 1) := by decide +kernel
theorem dX3_agreesWith_86 : decode cX3_agreesWith 86 = .ok (.ireturn, 1) := by decide +kernel
set_option maxRecDepth 4000 in
theorem s_X3_agreesWith_0 {w : GX} {d : Nat} {P : PN} {g : GI} (x1 : Int)
    (h : Zm w (d + 2) mX3_agreesWith 2 [some (aR (some (149))), some (aI (x1)), some (aI (0)), none] [] g P) :
    Zm w (d + 2) mX3_agreesWith 0 [some (aR (some (149))), some (aI (x1)), none, none] [] g P := by
  refine z_iconst dX3_agreesWith_0 ?_
  refine z_istore_n dX3_agreesWith_1 rfl (by decide) rfl ?_
  show Zm w (d + 2) mX3_agreesWith 2 [some (aR (some (149))), some (aI (x1)), some (aI (0)), none] [] g P
  exact z_weak (by simp [lle]) h
set_option maxRecDepth 4000 in
theorem s_X3_agreesWith_2 {w : GX} {d : Nat} {P : PN} {g : GI} (x1 : Int) (x2 : Int)
    (h : ((¬ nm x2 < nm (g 14 3) → P (some (aI (1))) g) ∧ (nm x2 < nm (g 14 3) → (0 ≤ nm x2 ∧ nm x2 < 8 ∧ (∀ v6 : Int, v6 = g 16 (nm x2).toNat → (((¬ nm (g 15 (nm x2).toNat) = nm x1 → Zm w (d + 2) mX3_agreesWith 2 [some (aR (some (149))), some (aI (x1)), some (aI (x2 + 1)), none] [] g P) ∧ (nm (g 15 (nm x2).toNat) = nm x1 → ((¬ nm v6 < nm (g 18 10) → P (some (aI (0))) g) ∧ (nm v6 < nm (g 18 10) → Zm w (d + 1) mX8_letterOf 0 [some (aR (some (152))), some (aR (some (18))), some (aI (v6)), none] [] g (fun r g11 => ∃ z12 : Int, r = some (aI z12) ∧ (((nm z12 = nm (g11 17 (nm x2).toNat) → Zm w (d + 2) mX3_agreesWith 2 [some (aR (some (149))), some (aI (x1)), some (aI (x2 + 1)), none] [] g11 P) ∧ (¬ nm z12 = nm (g11 17 (nm x2).toNat) → P (some (aI (0))) g11)))))))))))))) :
    Zm w (d + 2) mX3_agreesWith 2 [some (aR (some (149))), some (aI (x1)), some (aI (x2)), none] [] g P := by
  refine z_iload_n dX3_agreesWith_2 rfl rfl ?_
  refine z_aload_n dX3_agreesWith_3 rfl rfl ?_
  refine m_getR dX3_agreesWith_4 fl_X3_33 (by decide) kt_149 rv_149_1 ?_
  refine z_getI dX3_agreesWith_7 fl_X3_50 (by decide) kt_14 ?_
  refine z_icmp_ge (tgt := 85) dX3_agreesWith_10 (by decide) (fun c1 => ?_) (fun c1 => ?_)
  · replace h := h.1 c1
    refine z_iconst dX3_agreesWith_85 ?_
    exact m_zret dX3_agreesWith_86 rfl (by decide) h
  · replace h := h.2 (Decidable.not_not.mp c1)
    refine z_aload_n dX3_agreesWith_13 rfl rfl ?_
    refine m_getR dX3_agreesWith_14 fl_X3_33 (by decide) kt_149 rv_149_1 ?_
    refine m_getR dX3_agreesWith_17 fl_X3_114 (by decide) kt_14 rv_14_1 ?_
    refine z_iload_n dX3_agreesWith_20 rfl rfl ?_
    obtain ⟨q4, q5, h⟩ := h
    refine m_iald dX3_agreesWith_21 kv_16 q4 q5 ?_
    replace h := h _ rfl
    refine z_istore_n dX3_agreesWith_22 rfl (by decide) rfl ?_
    show Zm w (d + 2) mX3_agreesWith 23 [some (aR (some (149))), some (aI (x1)), some (aI (x2)), some (aI (g 16 (nm x2).toNat))] [] g P
    refine z_aload_n dX3_agreesWith_23 rfl rfl ?_
    refine m_getR dX3_agreesWith_24 fl_X3_33 (by decide) kt_149 rv_149_1 ?_
    refine m_getR dX3_agreesWith_27 fl_X3_107 (by decide) kt_14 rv_14_0 ?_
    refine z_iload_n dX3_agreesWith_30 rfl rfl ?_
    refine m_iald dX3_agreesWith_31 kv_15 q4 q5 ?_
    refine z_iload_n dX3_agreesWith_32 rfl rfl ?_
    refine z_icmp_ne (tgt := 79) dX3_agreesWith_33 (by decide) (fun c9 => ?_) (fun c9 => ?_)
    · replace h := h.1 c9
      refine z_iinc dX3_agreesWith_79 rfl (by decide) rfl ?_
      show Zm w (d + 2) mX3_agreesWith 82 [some (aR (some (149))), some (aI (x1)), some (aI (x2 + 1)), some (aI ((g 16 (nm x2).toNat)))] [] g P
      refine z_goto (tgt := 2) dX3_agreesWith_82 (by decide) ?_
      exact z_weak (by simp [lle]) h
    · replace h := h.2 (Decidable.not_not.mp c9)
      refine z_iload_n dX3_agreesWith_36 rfl rfl ?_
      refine z_aload_n dX3_agreesWith_37 rfl rfl ?_
      refine m_getR dX3_agreesWith_38 fl_X3_29 (by decide) kt_149 rv_149_0 ?_
      refine m_getR dX3_agreesWith_41 fl_X3_37 (by decide) kt_27 rv_27_0 ?_
      refine z_getI dX3_agreesWith_44 fl_X3_76 (by decide) kt_18 ?_
      refine z_icmp_ge (tgt := 77) dX3_agreesWith_47 (by decide) (fun c10 => ?_) (fun c10 => ?_)
      · replace h := h.1 c10
        refine z_iconst dX3_agreesWith_77 ?_
        exact m_zret dX3_agreesWith_78 rfl (by decide) h
      · replace h := h.2 (Decidable.not_not.mp c10)
        refine z_aload_n dX3_agreesWith_50 rfl rfl ?_
        refine m_getR dX3_agreesWith_51 fl_X3_21 (by decide) kt_149 rv_149_3 ?_
        refine z_aload_n dX3_agreesWith_54 rfl rfl ?_
        refine m_getR dX3_agreesWith_55 fl_X3_29 (by decide) kt_149 rv_149_0 ?_
        refine m_getR dX3_agreesWith_58 fl_X3_37 (by decide) kt_27 rv_27_0 ?_
        refine z_iload_n dX3_agreesWith_61 rfl rfl ?_
        refine m_callV (as := [aR (some (18)), aI ((g 16 (nm x2).toNat))]) dX3_agreesWith_62 lk_X3_97 mok_X8_letterOf in_X8_letterOf sl_X8_letterOf kt_152 rfl rfl rfl (Nat.le_of_ble_eq_true rfl) rfl (Nat.le_of_ble_eq_true rfl) rfl (m_mono (fun r g11 hr => ?_) h)
        obtain ⟨z12, rfl, h⟩ := hr
        show Zm w (d + 2) mX3_agreesWith 65 [some (aR (some (149))), some (aI (x1)), some (aI (x2)), some (aI ((g 16 (nm x2).toNat)))] [aI (z12)] g11 P
        refine z_aload_n dX3_agreesWith_65 rfl rfl ?_
        refine m_getR dX3_agreesWith_66 fl_X3_33 (by decide) kt_149 rv_149_1 ?_
        refine m_getR dX3_agreesWith_69 fl_X3_117 (by decide) kt_14 rv_14_2 ?_
        refine z_iload_n dX3_agreesWith_72 rfl rfl ?_
        refine m_iald dX3_agreesWith_73 kv_17 q4 q5 ?_
        refine z_icmp_eq (tgt := 79) dX3_agreesWith_74 (by decide) (fun c15 => ?_) (fun c15 => ?_)
        · replace h := h.1 c15
          refine z_iinc dX3_agreesWith_79 rfl (by decide) rfl ?_
          show Zm w (d + 2) mX3_agreesWith 82 [some (aR (some (149))), some (aI (x1)), some (aI (x2 + 1)), some (aI ((g 16 (nm x2).toNat)))] [] g11 P
          refine z_goto (tgt := 2) dX3_agreesWith_82 (by decide) ?_
          exact z_weak (by simp [lle]) h
        · replace h := h.2 c15
          refine z_iconst dX3_agreesWith_77 ?_
          exact m_zret dX3_agreesWith_78 rfl (by decide) h
theorem dX5_findBack_0 : decode cX5_findBack 0 = .ok (.aload_n 0, 1) := by decide +kernel
theorem dX5_findBack_1 : decode cX5_findBack 1 = .ok (.iconst 0, 1) := by decide +kernel
theorem dX5_findBack_2 : decode cX5_findBack 2 = .ok (.iconst (-1), 1) := by decide +kernel
theorem dX5_findBack_3 : decode cX5_findBack 3 = .ok (.iconst (-1), 1) := by decide +kernel
theorem dX5_findBack_4 : decode cX5_findBack 4 = .ok (.invokevirtual 39, 3) := by decide +kernel
theorem dX5_findBack_7 : decode cX5_findBack 7 = .ok (.aload_n 0, 1) := by decide +kernel
theorem dX5_findBack_8 : decode cX5_findBack 8 = .ok (.getfield 35, 3) := by decide +kernel
theorem dX5_findBack_11 : decode cX5_findBack 11 = .ok (.getfield 43, 3) := by decide +kernel
theorem dX5_findBack_14 : decode cX5_findBack 14 = .ok (.iload_n 3, 1) := by decide +kernel
theorem dX5_findBack_15 : decode cX5_findBack 15 = .ok (.iconst 1, 1) := by decide +kernel
theorem dX5_findBack_16 : decode cX5_findBack 16 = .ok (.iadd, 1) := by decide +kernel
theorem dX5_findBack_17 : decode cX5_findBack 17 = .ok (.aaload, 1) := by decide +kernel
theorem dX5_findBack_18 : decode cX5_findBack 18 = .ok (.aload_n 0, 1) := by decide +kernel
theorem dX5_findBack_19 : decode cX5_findBack 19 = .ok (.getfield 35, 3) := by decide +kernel
theorem dX5_findBack_22 : decode cX5_findBack 22 = .ok (.getfield 49, 3) := by decide +kernel
theorem dX5_findBack_25 : decode cX5_findBack 25 = .ok (.iload_n 1, 1) := by decide +kernel
theorem dX5_findBack_26 : decode cX5_findBack 26 = .ok (.invokevirtual 53, 3) := by decide +kernel
theorem dX5_findBack_29 : decode cX5_findBack 29 = .ok (.iload_n 2, 1) := by decide +kernel
theorem dX5_findBack_30 : decode cX5_findBack 30 = .ok (.if_icmp .ne 4, 3) := by decide +kernel
theorem dX5_findBack_33 : decode cX5_findBack 33 = .ok (.return_, 1) := by decide +kernel
theorem dX5_findBack_34 : decode cX5_findBack 34 = .ok (.iconst 0, 1) := by decide +kernel
theorem dX5_findBack_35 : decode cX5_findBack 35 = .ok (.istore 4, 2) := by decide +kernel
theorem dX5_findBack_37 : decode cX5_findBack 37 = .ok (.iload 4, 2) := by decide +kernel
theorem dX5_findBack_39 : decode cX5_findBack 39 = .ok (.iload_n 3, 1) := by decide +kernel
theorem dX5_findBack_40 : decode cX5_findBack 40 = .ok (.if_icmp .gt 91, 3) := by decide +kernel
theorem dX5_findBack_43 : decode cX5_findBack 43 = .ok (.aload_n 0, 1) := by decide +kernel
theorem dX5_findBack_44 : decode cX5_findBack 44 = .ok (.getfield 12, 3) := by decide +kernel
theorem dX5_findBack_47 : decode cX5_findBack 47 = .ok (.aload_n 0, 1) := by decide +kernel
theorem dX5_findBack_48 : decode cX5_findBack 48 = .ok (.getfield 35, 3) := by decide +kernel
theorem dX5_findBack_51 : decode cX5_findBack 51 = .ok (.getfield 43, 3) := by decide +kernel
theorem dX5_findBack_54 : decode cX5_findBack 54 = .ok (.iload 4, 2) := by decide +kernel
theorem dX5_findBack_56 : decode cX5_findBack 56 = .ok (.aaload, 1) := by decide +kernel
theorem dX5_findBack_57 : decode cX5_findBack 57 = .ok (.invokevirtual 57, 3) := by decide +kernel
theorem dX5_findBack_60 : decode cX5_findBack 60 = .ok (.aload_n 0, 1) := by decide +kernel
theorem dX5_findBack_61 : decode cX5_findBack 61 = .ok (.getfield 35, 3) := by decide +kernel
theorem dX5_findBack_64 : decode cX5_findBack 64 = .ok (.aload_n 0, 1) := by decide +kernel
theorem dX5_findBack_65 : decode cX5_findBack 65 = .ok (.getfield 12, 3) := by decide +kernel
theorem dX5_findBack_68 : decode cX5_findBack 68 = .ok (.iload 4, 2) := by decide +kernel
theorem dX5_findBack_70 : decode cX5_findBack 70 = .ok (.iload_n 1, 1) := by decide +kernel
theorem dX5_findBack_71 : decode cX5_findBack 71 = .ok (.invokevirtual 61, 3) := by decide +kernel
theorem dX5_findBack_74 : decode cX5_findBack 74 = .ok (.aload_n 0, 1) := by decide +kernel
theorem dX5_findBack_75 : decode cX5_findBack 75 = .ok (.getfield 35, 3) := by decide +kernel
theorem dX5_findBack_78 : decode cX5_findBack 78 = .ok (.aload_n 0, 1) := by decide +kernel
theorem dX5_findBack_79 : decode cX5_findBack 79 = .ok (.getfield 12, 3) := by decide +kernel
theorem dX5_findBack_82 : decode cX5_findBack 82 = .ok (.iload 4, 2) := by decide +kernel
theorem dX5_findBack_84 : decode cX5_findBack 84 = .ok (.iconst 1, 1) := by decide +kernel
theorem dX5_findBack_85 : decode cX5_findBack 85 = .ok (.iadd, 1) := by decide +kernel
theorem dX5_findBack_86 : decode cX5_findBack 86 = .ok (.iload_n 3, 1) := by decide +kernel
theorem dX5_findBack_87 : decode cX5_findBack 87 = .ok (.aload_n 0, 1) := by decide +kernel
theorem dX5_findBack_88 : decode cX5_findBack 88 = .ok (.getfield 35, 3) := by decide +kernel
theorem dX5_findBack_91 : decode cX5_findBack 91 = .ok (.getfield 65, 3) := by decide +kernel
theorem dX5_findBack_94 : decode cX5_findBack 94 = .ok (.invokevirtual 69, 3) := by decide +kernel
theorem dX5_findBack_97 : decode cX5_findBack 97 = .ok (.aload_n 0, 1) := by decide +kernel
theorem dX5_findBack_98 : decode cX5_findBack 98 = .ok (.getfield 12, 3) := by decide +kernel
theorem dX5_findBack_101 : decode cX5_findBack 101 = .ok (.aload_n 0, 1) := by decide +kernel
theorem dX5_findBack_102 : decode cX5_findBack 102 = .ok (.getfield 35, 3) := by decide +kernel
theorem dX5_findBack_105 : decode cX5_findBack 105 = .ok (.getfield 49, 3) := by decide +kernel
theorem dX5_findBack_108 : decode cX5_findBack 108 = .ok (.iload_n 1, 1) := by decide +kernel
theorem dX5_findBack_109 : decode cX5_findBack 109 = .ok (.invokevirtual 53, 3) := by decide +kernel
theorem dX5_findBack_112 : decode cX5_findBack 112 = .ok (.iload_n 2, 1) := by decide +kernel
theorem dX5_findBack_113 : decode cX5_findBack 113 = .ok (.if_icmp .ne 12, 3) := by decide +kernel
theorem dX5_findBack_116 : decode cX5_findBack 116 = .ok (.aload_n 0, 1) := by decide +kernel
theorem dX5_findBack_117 : decode cX5_findBack 117 = .ok (.iconst 1, 1) := by decide +kernel
theorem dX5_findBack_118 : decode cX5_findBack 118 = .ok (.iload 4, 2) := by decide +kernel
theorem dX5_findBack_120 : decode cX5_findBack 120 = .ok (.iconst (-1), 1) := by decide +kernel
theorem dX5_findBack_121 : decode cX5_findBack 121 = .ok (.invokevirtual 39, 3) := by decide +kernel
theorem dX5_findBack_124 : decode cX5_findBack 124 = .ok (.return_, 1) := by decide +kernel
theorem dX5_findBack_125 : decode cX5_findBack 125 = .ok (.iinc 4 1, 3) := by decide +kernel
theorem dX5_findBack_128 : decode cX5_findBack 128 = .ok (.goto (-91), 3) := by decide +kernel
theorem dX5_findBack_131 : decode cX5_findBack 131 = .ok (.iconst 0, 1) := by decide +kernel
theorem dX5_findBack_132 : decode cX5_findBack 132 = .ok (.istore 4, 2) := by decide +kernel
theorem dX5_findBack_134 : decode cX5_findBack 134 = .ok (.iload 4, 2) := by decide +kernel
theorem dX5_findBack_136 : decode cX5_findBack 136 = .ok (.iload_n 3, 1) := by decide +kernel
theorem dX5_findBack_137 : decode cX5_findBack 137 = .ok (.if_icmp .ge 36, 3) := by decide +kernel
theorem dX5_findBack_140 : decode cX5_findBack 140 = .ok (.aload_n 0, 1) := by decide +kernel
theorem dX5_findBack_141 : decode cX5_findBack 141 = .ok (.iload_n 1, 1) := by decide +kernel
theorem dX5_findBack_142 : decode cX5_findBack 142 = .ok (.iload_n 2, 1) := by decide +kernel
theorem dX5_findBack_143 : decode cX5_findBack 143 = .ok (.iload 4, 2) := by decide +kernel
theorem dX5_findBack_145 : decode cX5_findBack 145 = .ok (.iload_n 3, 1) := by decide +kernel
theorem dX5_findBack_146 : decode cX5_findBack 146 = .ok (.invokevirtual 73, 3) := by decide +kernel
theorem dX5_findBack_149 : decode cX5_findBack 149 = .ok (.istore 5, 2) := by decide +kernel
theorem dX5_findBack_151 : decode cX5_findBack 151 = .ok (.iload 5, 2) := by decide +kernel
theorem dX5_findBack_153 : decode cX5_findBack 153 = .ok (.iconst (-1), 1) := by decide +kernel
theorem dX5_findBack_154 : decode cX5_findBack 154 = .ok (.if_icmp .eq 13, 3) := by decide +kernel
theorem dX5_findBack_157 : decode cX5_findBack 157 = .ok (.aload_n 0, 1) := by decide +kernel
theorem dX5_findBack_158 : decode cX5_findBack 158 = .ok (.iconst 2, 1) := by decide +kernel
theorem dX5_findBack_159 : decode cX5_findBack 159 = .ok (.iload 4, 2) := by decide +kernel
theorem dX5_findBack_161 : decode cX5_findBack 161 = .ok (.iload 5, 2) := by decide +kernel
theorem dX5_findBack_163 : decode cX5_findBack 163 = .ok (.invokevirtual 39, 3) := by decide +kernel
theorem dX5_findBack_166 : decode cX5_findBack 166 = .ok (.return_, 1) := by decide +kernel
theorem dX5_findBack_167 : decode cX5_findBack 167 = .ok (.iinc 4 1, 3) := by decide +kernel
theorem dX5_findBack_170 : decode cX5_findBack 170 = .ok (.goto (-36), 3) := by decide +kernel
theorem dX5_findBack_173 : decode cX5_findBack 173 = .ok (.aload_n 0, 1) := by decide +kernel
theorem dX5_findBack_174 : decode cX5_findBack 174 = .ok (.iconst (-1), 1) := by decide +kernel
theorem dX5_findBack_175 : decode cX5_findBack 175 = .ok (.iconst (-1), 1) := by decide +kernel
theorem dX5_findBack_176 : decode cX5_findBack 176 = .ok (.iconst (-1), 1) := by decide +kernel
theorem dX5_findBack_177 : decode cX5_findBack 177 = .ok (.invokevirtual 39, 3) := by decide +kernel
theorem dX5_findBack_180 : decode cX5_findBack 180 = .ok (.return_, 1) := by decide +kernel
set_option maxRecDepth 4000 in
theorem s_X5_findBack_0 {w : GX} {d : Nat} {P : PN} {g : GI} (x1 : Int) (x2 : Int) (x3 : Int)
    (h : Zm w (d + 3) mX5_keepBack 0 [some (aR (some (136))), some (aI (0)), some (aI ((-1))), some (aI ((-1)))] [] g (fun r g1 => r = none ∧ (0 ≤ nm (x3 + 1) ∧ nm (x3 + 1) < 21 ∧ Zm w (d + 3) mX8_letterOf 0 [some (aR (some (31 + 5 * (nm (x3 + 1)).toNat))), some (aR (some (18))), some (aI (x1)), none] [] g1 (fun r g6 => ∃ z7 : Int, r = some (aI z7) ∧ ((¬ nm z7 = nm x2 → Zm w (d + 4) mX5_findBack 37 [some (aR (some (136))), some (aI (x1)), some (aI (x2)), some (aI (x3)), some (aI (0)), none] [] g6 P) ∧ (nm z7 = nm x2 → P none g6)))))) :
    Zm w (d + 4) mX5_findBack 0 [some (aR (some (136))), some (aI (x1)), some (aI (x2)), some (aI (x3)), none, none] [] g P := by
  refine z_aload_n dX5_findBack_0 rfl rfl ?_
  refine z_iconst dX5_findBack_1 ?_
  refine z_iconst dX5_findBack_2 ?_
  refine z_iconst dX5_findBack_3 ?_
  refine m_callV (as := [aI (0), aI ((-1)), aI ((-1))]) dX5_findBack_4 lk_X5_39 mok_X5_keepBack in_X5_keepBack sl_X5_keepBack kt_136 rfl rfl rfl (Nat.le_of_ble_eq_true rfl) rfl (Nat.le_of_ble_eq_true rfl) rfl (m_mono (fun r g1 hr => ?_) h)
  obtain ⟨rfl, h⟩ := hr
  show Zm w (d + 4) mX5_findBack 7 [some (aR (some (136))), some (aI (x1)), some (aI (x2)), some (aI (x3)), none, none] [] g1 P
  refine z_aload_n dX5_findBack_7 rfl rfl ?_
  refine m_getR dX5_findBack_8 fl_X5_35 (by decide) kt_136 rv_136_0 ?_
  refine m_getR dX5_findBack_11 fl_X5_43 (by decide) kt_27 rv_27_5 ?_
  refine z_iload_n dX5_findBack_14 rfl rfl ?_
  refine z_iconst dX5_findBack_15 ?_
  refine z_iadd dX5_findBack_16 ?_
  obtain ⟨q3, q4, h⟩ := h
  have t5 : (nm (x3 + 1)).toNat < 21 := by omega
  refine m_aaldv dX5_findBack_17 kv_30 q3 q4 (w_ahead _ t5) ?_
  refine z_aload_n dX5_findBack_18 rfl rfl ?_
  refine m_getR dX5_findBack_19 fl_X5_35 (by decide) kt_136 rv_136_0 ?_
  refine m_getR dX5_findBack_22 fl_X5_49 (by decide) kt_27 rv_27_0 ?_
  refine z_iload_n dX5_findBack_25 rfl rfl ?_
  refine m_callV (as := [aR (some (18)), aI (x1)]) dX5_findBack_26 lk_X5_53 mok_X8_letterOf in_X8_letterOf sl_X8_letterOf (congrArg Prod.fst (isW_ahead _ t5).1) rfl rfl rfl (Nat.le_of_ble_eq_true rfl) rfl (Nat.le_of_ble_eq_true rfl) rfl (m_mono (fun r g6 hr => ?_) h)
  obtain ⟨z7, rfl, h⟩ := hr
  show Zm w (d + 4) mX5_findBack 29 [some (aR (some (136))), some (aI (x1)), some (aI (x2)), some (aI (x3)), none, none] [aI (z7)] g6 P
  refine z_iload_n dX5_findBack_29 rfl rfl ?_
  refine z_icmp_ne (tgt := 34) dX5_findBack_30 (by decide) (fun c8 => ?_) (fun c8 => ?_)
  · replace h := h.1 c8
    refine z_iconst dX5_findBack_34 ?_
    refine z_istore dX5_findBack_35 (by decide) rfl ?_
    show Zm w (d + 4) mX5_findBack 37 [some (aR (some (136))), some (aI (x1)), some (aI (x2)), some (aI (x3)), some (aI (0)), none] [] g6 P
    exact z_weak (by simp [lle]) h
  · replace h := h.2 (Decidable.not_not.mp c8)
    exact m_vret dX5_findBack_33 rfl h
set_option maxRecDepth 4000 in
theorem s_X5_findBack_37 {w : GX} {d : Nat} {P : PN} {g : GI} (x1 : Int) (x2 : Int) (x3 : Int) (x4 : Int)
    (h : ((nm x3 < nm x4 → Zm w (d + 4) mX5_findBack 134 [some (aR (some (136))), some (aI (x1)), some (aI (x2)), some (aI (x3)), some (aI (0)), none] [] g P) ∧ (¬ nm x3 < nm x4 → (0 ≤ nm x4 ∧ nm x4 < 21 ∧ Zm w (d + 3) mX8_become 0 [some (aR (some (137))), some (aR (some (31 + 5 * (nm x4).toNat)))] [] g (fun r g5 => r = none ∧ Zm w (d + 3) mX2_goWithOneMore 0 [some (aR (some (27))), some (aR (some (137))), some (aI (x4)), some (aI (x1))] [] g5 (fun r g7 => r = none ∧ Zm w (d + 3) mX2_go 0 [some (aR (some (27))), some (aR (some (137))), some (aI (x4 + 1)), some (aI (x3)), some (aR (some (28))), none] [] g7 (fun r g9 => r = none ∧ Zm w (d + 3) mX8_letterOf 0 [some (aR (some (137))), some (aR (some (18))), some (aI (x1)), none] [] g9 (fun r g11 => ∃ z12 : Int, r = some (aI z12) ∧ ((¬ nm z12 = nm x2 → Zm w (d + 4) mX5_findBack 37 [some (aR (some (136))), some (aI (x1)), some (aI (x2)), some (aI (x3)), some (aI (x4 + 1)), none] [] g11 P) ∧ (nm z12 = nm x2 → Zm w (d + 3) mX5_keepBack 0 [some (aR (some (136))), some (aI (1)), some (aI (x4)), some (aI ((-1)))] [] g11 (fun r g14 => r = none ∧ P none g14))))))))))) :
    Zm w (d + 4) mX5_findBack 37 [some (aR (some (136))), some (aI (x1)), some (aI (x2)), some (aI (x3)), some (aI (x4)), none] [] g P := by
  refine z_iload dX5_findBack_37 rfl ?_
  refine z_iload_n dX5_findBack_39 rfl rfl ?_
  refine z_icmp_gt (tgt := 131) dX5_findBack_40 (by decide) (fun c1 => ?_) (fun c1 => ?_)
  · replace h := h.1 c1
    refine z_iconst dX5_findBack_131 ?_
    refine z_istore dX5_findBack_132 (by decide) rfl ?_
    show Zm w (d + 4) mX5_findBack 134 [some (aR (some (136))), some (aI (x1)), some (aI (x2)), some (aI (x3)), some (aI (0)), none] [] g P
    exact z_weak (by simp [lle]) h
  · replace h := h.2 c1
    refine z_aload_n dX5_findBack_43 rfl rfl ?_
    refine m_getR dX5_findBack_44 fl_X5_12 (by decide) kt_136 rv_136_1 ?_
    refine z_aload_n dX5_findBack_47 rfl rfl ?_
    refine m_getR dX5_findBack_48 fl_X5_35 (by decide) kt_136 rv_136_0 ?_
    refine m_getR dX5_findBack_51 fl_X5_43 (by decide) kt_27 rv_27_5 ?_
    refine z_iload dX5_findBack_54 rfl ?_
    obtain ⟨q2, q3, h⟩ := h
    have t4 : (nm x4).toNat < 21 := by omega
    refine m_aaldv dX5_findBack_56 kv_30 q2 q3 (w_ahead _ t4) ?_
    refine m_callV (as := [aR (some (31 + 5 * (nm x4).toNat))]) dX5_findBack_57 lk_X5_57 mok_X8_become in_X8_become sl_X8_become kt_137 rfl rfl rfl (Nat.le_of_ble_eq_true rfl) rfl (Nat.le_of_ble_eq_true rfl) rfl (m_mono (fun r g5 hr => ?_) h)
    obtain ⟨rfl, h⟩ := hr
    show Zm w (d + 4) mX5_findBack 60 [some (aR (some (136))), some (aI (x1)), some (aI (x2)), some (aI (x3)), some (aI (x4)), none] [] g5 P
    refine z_aload_n dX5_findBack_60 rfl rfl ?_
    refine m_getR dX5_findBack_61 fl_X5_35 (by decide) kt_136 rv_136_0 ?_
    refine z_aload_n dX5_findBack_64 rfl rfl ?_
    refine m_getR dX5_findBack_65 fl_X5_12 (by decide) kt_136 rv_136_1 ?_
    refine z_iload dX5_findBack_68 rfl ?_
    refine z_iload_n dX5_findBack_70 rfl rfl ?_
    refine m_callV (as := [aR (some (137)), aI (x4), aI (x1)]) dX5_findBack_71 lk_X5_61 mok_X2_goWithOneMore in_X2_goWithOneMore sl_X2_goWithOneMore kt_27 rfl rfl rfl (Nat.le_of_ble_eq_true rfl) rfl (Nat.le_of_ble_eq_true rfl) rfl (m_mono (fun r g7 hr => ?_) h)
    obtain ⟨rfl, h⟩ := hr
    show Zm w (d + 4) mX5_findBack 74 [some (aR (some (136))), some (aI (x1)), some (aI (x2)), some (aI (x3)), some (aI (x4)), none] [] g7 P
    refine z_aload_n dX5_findBack_74 rfl rfl ?_
    refine m_getR dX5_findBack_75 fl_X5_35 (by decide) kt_136 rv_136_0 ?_
    refine z_aload_n dX5_findBack_78 rfl rfl ?_
    refine m_getR dX5_findBack_79 fl_X5_12 (by decide) kt_136 rv_136_1 ?_
    refine z_iload dX5_findBack_82 rfl ?_
    refine z_iconst dX5_findBack_84 ?_
    refine z_iadd dX5_findBack_85 ?_
    refine z_iload_n dX5_findBack_86 rfl rfl ?_
    refine z_aload_n dX5_findBack_87 rfl rfl ?_
    refine m_getR dX5_findBack_88 fl_X5_35 (by decide) kt_136 rv_136_0 ?_
    refine m_getR dX5_findBack_91 fl_X5_65 (by decide) kt_27 rv_27_4 ?_
    refine m_callV (as := [aR (some (137)), aI (x4 + 1), aI (x3), aR (some (28))]) dX5_findBack_94 lk_X5_69 mok_X2_go in_X2_go sl_X2_go kt_27 rfl rfl rfl (Nat.le_of_ble_eq_true rfl) rfl (Nat.le_of_ble_eq_true rfl) rfl (m_mono (fun r g9 hr => ?_) h)
    obtain ⟨rfl, h⟩ := hr
    show Zm w (d + 4) mX5_findBack 97 [some (aR (some (136))), some (aI (x1)), some (aI (x2)), some (aI (x3)), some (aI (x4)), none] [] g9 P
    refine z_aload_n dX5_findBack_97 rfl rfl ?_
    refine m_getR dX5_findBack_98 fl_X5_12 (by decide) kt_136 rv_136_1 ?_
    refine z_aload_n dX5_findBack_101 rfl rfl ?_
    refine m_getR dX5_findBack_102 fl_X5_35 (by decide) kt_136 rv_136_0 ?_
    refine m_getR dX5_findBack_105 fl_X5_49 (by decide) kt_27 rv_27_0 ?_
    refine z_iload_n dX5_findBack_108 rfl rfl ?_
    refine m_callV (as := [aR (some (18)), aI (x1)]) dX5_findBack_109 lk_X5_53 mok_X8_letterOf in_X8_letterOf sl_X8_letterOf kt_137 rfl rfl rfl (Nat.le_of_ble_eq_true rfl) rfl (Nat.le_of_ble_eq_true rfl) rfl (m_mono (fun r g11 hr => ?_) h)
    obtain ⟨z12, rfl, h⟩ := hr
    show Zm w (d + 4) mX5_findBack 112 [some (aR (some (136))), some (aI (x1)), some (aI (x2)), some (aI (x3)), some (aI (x4)), none] [aI (z12)] g11 P
    refine z_iload_n dX5_findBack_112 rfl rfl ?_
    refine z_icmp_ne (tgt := 125) dX5_findBack_113 (by decide) (fun c13 => ?_) (fun c13 => ?_)
    · replace h := h.1 c13
      refine z_iinc dX5_findBack_125 rfl (by decide) rfl ?_
      show Zm w (d + 4) mX5_findBack 128 [some (aR (some (136))), some (aI (x1)), some (aI (x2)), some (aI (x3)), some (aI (x4 + 1)), none] [] g11 P
      refine z_goto (tgt := 37) dX5_findBack_128 (by decide) ?_
      exact z_weak (by simp [lle]) h
    · replace h := h.2 (Decidable.not_not.mp c13)
      refine z_aload_n dX5_findBack_116 rfl rfl ?_
      refine z_iconst dX5_findBack_117 ?_
      refine z_iload dX5_findBack_118 rfl ?_
      refine z_iconst dX5_findBack_120 ?_
      refine m_callV (as := [aI (1), aI (x4), aI ((-1))]) dX5_findBack_121 lk_X5_39 mok_X5_keepBack in_X5_keepBack sl_X5_keepBack kt_136 rfl rfl rfl (Nat.le_of_ble_eq_true rfl) rfl (Nat.le_of_ble_eq_true rfl) rfl (m_mono (fun r g14 hr => ?_) h)
      obtain ⟨rfl, h⟩ := hr
      show Zm w (d + 4) mX5_findBack 124 [some (aR (some (136))), some (aI (x1)), some (aI (x2)), some (aI (x3)), some (aI (x4)), none] [] g14 P
      exact m_vret dX5_findBack_124 rfl h
set_option maxRecDepth 4000 in
theorem s_X5_findBack_134 {w : GX} {d : Nat} {P : PN} {g : GI} (x1 : Int) (x2 : Int) (x3 : Int) (x4 : Int)
    (h : ((¬ nm x4 < nm x3 → Zm w (d + 3) mX5_keepBack 0 [some (aR (some (136))), some (aI ((-1))), some (aI ((-1))), some (aI ((-1)))] [] g (fun r g2 => r = none ∧ P none g2)) ∧ (nm x4 < nm x3 → Zm w (d + 3) mX5_nextForBack 0 [some (aR (some (136))), some (aI (x1)), some (aI (x2)), some (aI (x4)), some (aI (x3)), none] [] g (fun r g4 => ∃ z5 : Int, r = some (aI z5) ∧ ((nm z5 = nm ((-1)) → Zm w (d + 4) mX5_findBack 134 [some (aR (some (136))), some (aI (x1)), some (aI (x2)), some (aI (x3)), some (aI (x4 + 1)), none] [] g4 P) ∧ (¬ nm z5 = nm ((-1)) → Zm w (d + 3) mX5_keepBack 0 [some (aR (some (136))), some (aI (2)), some (aI (x4)), some (aI (z5))] [] g4 (fun r g7 => r = none ∧ P none g7))))))) :
    Zm w (d + 4) mX5_findBack 134 [some (aR (some (136))), some (aI (x1)), some (aI (x2)), some (aI (x3)), some (aI (x4)), none] [] g P := by
  refine z_iload dX5_findBack_134 rfl ?_
  refine z_iload_n dX5_findBack_136 rfl rfl ?_
  refine z_icmp_ge (tgt := 173) dX5_findBack_137 (by decide) (fun c1 => ?_) (fun c1 => ?_)
  · replace h := h.1 c1
    refine z_aload_n dX5_findBack_173 rfl rfl ?_
    refine z_iconst dX5_findBack_174 ?_
    refine z_iconst dX5_findBack_175 ?_
    refine z_iconst dX5_findBack_176 ?_
    refine m_callV (as := [aI ((-1)), aI ((-1)), aI ((-1))]) dX5_findBack_177 lk_X5_39 mok_X5_keepBack in_X5_keepBack sl_X5_keepBack kt_136 rfl rfl rfl (Nat.le_of_ble_eq_true rfl) rfl (Nat.le_of_ble_eq_true rfl) rfl (m_mono (fun r g2 hr => ?_) h)
    obtain ⟨rfl, h⟩ := hr
    show Zm w (d + 4) mX5_findBack 180 [some (aR (some (136))), some (aI (x1)), some (aI (x2)), some (aI (x3)), some (aI (x4)), none] [] g2 P
    exact m_vret dX5_findBack_180 rfl h
  · replace h := h.2 (Decidable.not_not.mp c1)
    refine z_aload_n dX5_findBack_140 rfl rfl ?_
    refine z_iload_n dX5_findBack_141 rfl rfl ?_
    refine z_iload_n dX5_findBack_142 rfl rfl ?_
    refine z_iload dX5_findBack_143 rfl ?_
    refine z_iload_n dX5_findBack_145 rfl rfl ?_
    refine m_callV (as := [aI (x1), aI (x2), aI (x4), aI (x3)]) dX5_findBack_146 lk_X5_73 mok_X5_nextForBack in_X5_nextForBack sl_X5_nextForBack kt_136 rfl rfl rfl (Nat.le_of_ble_eq_true rfl) rfl (Nat.le_of_ble_eq_true rfl) rfl (m_mono (fun r g4 hr => ?_) h)
    obtain ⟨z5, rfl, h⟩ := hr
    show Zm w (d + 4) mX5_findBack 149 [some (aR (some (136))), some (aI (x1)), some (aI (x2)), some (aI (x3)), some (aI (x4)), none] [aI (z5)] g4 P
    refine z_istore dX5_findBack_149 (by decide) rfl ?_
    show Zm w (d + 4) mX5_findBack 151 [some (aR (some (136))), some (aI (x1)), some (aI (x2)), some (aI (x3)), some (aI (x4)), some (aI (z5))] [] g4 P
    refine z_iload dX5_findBack_151 rfl ?_
    refine z_iconst dX5_findBack_153 ?_
    refine z_icmp_eq (tgt := 167) dX5_findBack_154 (by decide) (fun c6 => ?_) (fun c6 => ?_)
    · replace h := h.1 c6
      refine z_iinc dX5_findBack_167 rfl (by decide) rfl ?_
      show Zm w (d + 4) mX5_findBack 170 [some (aR (some (136))), some (aI (x1)), some (aI (x2)), some (aI (x3)), some (aI (x4 + 1)), some (aI (z5))] [] g4 P
      refine z_goto (tgt := 134) dX5_findBack_170 (by decide) ?_
      exact z_weak (by simp [lle]) h
    · replace h := h.2 c6
      refine z_aload_n dX5_findBack_157 rfl rfl ?_
      refine z_iconst dX5_findBack_158 ?_
      refine z_iload dX5_findBack_159 rfl ?_
      refine z_iload dX5_findBack_161 rfl ?_
      refine m_callV (as := [aI (2), aI (x4), aI (z5)]) dX5_findBack_163 lk_X5_39 mok_X5_keepBack in_X5_keepBack sl_X5_keepBack kt_136 rfl rfl rfl (Nat.le_of_ble_eq_true rfl) rfl (Nat.le_of_ble_eq_true rfl) rfl (m_mono (fun r g7 hr => ?_) h)
      obtain ⟨rfl, h⟩ := hr
      show Zm w (d + 4) mX5_findBack 166 [some (aR (some (136))), some (aI (x1)), some (aI (x2)), some (aI (x3)), some (aI (x4)), some (aI (z5))] [] g7 P
      exact m_vret dX5_findBack_166 rfl h
theorem dX5_keepBack_0 : decode cX5_keepBack 0 = .ok (.aload_n 0, 1) := by decide +kernel
theorem dX5_keepBack_1 : decode cX5_keepBack 1 = .ok (.iload_n 1, 1) := by decide +kernel
theorem dX5_keepBack_2 : decode cX5_keepBack 2 = .ok (.putfield 28, 3) := by decide +kernel
theorem dX5_keepBack_5 : decode cX5_keepBack 5 = .ok (.aload_n 0, 1) := by decide +kernel
theorem dX5_keepBack_6 : decode cX5_keepBack 6 = .ok (.getfield 21, 3) := by decide +kernel
theorem dX5_keepBack_9 : decode cX5_keepBack 9 = .ok (.iconst 0, 1) := by decide +kernel
theorem dX5_keepBack_10 : decode cX5_keepBack 10 = .ok (.iload_n 2, 1) := by decide +kernel
theorem dX5_keepBack_11 : decode cX5_keepBack 11 = .ok (.iastore, 1) := by decide +kernel
theorem dX5_keepBack_12 : decode cX5_keepBack 12 = .ok (.aload_n 0, 1) := by decide +kernel
theorem dX5_keepBack_13 : decode cX5_keepBack 13 = .ok (.getfield 21, 3) := by decide +kernel
theorem dX5_keepBack_16 : decode cX5_keepBack 16 = .ok (.iconst 1, 1) := by decide +kernel
theorem dX5_keepBack_17 : decode cX5_keepBack 17 = .ok (.iload_n 3, 1) := by decide +kernel
theorem dX5_keepBack_18 : decode cX5_keepBack 18 = .ok (.iastore, 1) := by decide +kernel
theorem dX5_keepBack_19 : decode cX5_keepBack 19 = .ok (.return_, 1) := by decide +kernel
set_option maxRecDepth 4000 in
theorem s_X5_keepBack_0 {w : GX} {d : Nat} {P : PN} {g : GI} (x1 : Int) (x2 : Int) (x3 : Int)
    (h : (∀ g1 : GI, g1 = up2 g 136 5 x1 → (∀ g2 : GI, g2 = up2 g1 147 (nm 0).toNat x2 → (∀ g3 : GI, g3 = up2 g2 147 (nm 1).toNat x3 → P none g3)))) :
    Zm w d mX5_keepBack 0 [some (aR (some (136))), some (aI (x1)), some (aI (x2)), some (aI (x3))] [] g P := by
  refine z_aload_n dX5_keepBack_0 rfl rfl ?_
  refine z_iload_n dX5_keepBack_1 rfl rfl ?_
  replace h := h _ rfl
  refine z_putI dX5_keepBack_2 fw_X5_28 (by decide) kt_136 ?_
  refine z_aload_n dX5_keepBack_5 rfl rfl ?_
  refine m_getR dX5_keepBack_6 fl_X5_21 (by decide) kt_136 rv_136_3 ?_
  refine z_iconst dX5_keepBack_9 ?_
  refine z_iload_n dX5_keepBack_10 rfl rfl ?_
  replace h := h _ rfl
  refine m_iast dX5_keepBack_11 kv_147 (by decide) (by decide) ?_
  refine z_aload_n dX5_keepBack_12 rfl rfl ?_
  refine m_getR dX5_keepBack_13 fl_X5_21 (by decide) kt_136 rv_136_3 ?_
  refine z_iconst dX5_keepBack_16 ?_
  refine z_iload_n dX5_keepBack_17 rfl rfl ?_
  replace h := h _ rfl
  refine m_iast dX5_keepBack_18 kv_147 (by decide) (by decide) ?_
  exact m_vret dX5_keepBack_19 rfl h
theorem dX5_nextForBack_0 : decode cX5_nextForBack 0 = .ok (.aload_n 0, 1) := by decide +kernel
theorem dX5_nextForBack_1 : decode cX5_nextForBack 1 = .ok (.getfield 12, 3) := by decide +kernel
theorem dX5_nextForBack_4 : decode cX5_nextForBack 4 = .ok (.aload_n 0, 1) := by decide +kernel
theorem dX5_nextForBack_5 : decode cX5_nextForBack 5 = .ok (.getfield 35, 3) := by decide +kernel
theorem dX5_nextForBack_8 : decode cX5_nextForBack 8 = .ok (.getfield 43, 3) := by decide +kernel
theorem dX5_nextForBack_11 : decode cX5_nextForBack 11 = .ok (.iload_n 3, 1) := by decide +kernel
theorem dX5_nextForBack_12 : decode cX5_nextForBack 12 = .ok (.aaload, 1) := by decide +kernel
theorem dX5_nextForBack_13 : decode cX5_nextForBack 13 = .ok (.invokevirtual 57, 3) := by decide +kernel
theorem dX5_nextForBack_16 : decode cX5_nextForBack 16 = .ok (.aload_n 0, 1) := by decide +kernel
theorem dX5_nextForBack_17 : decode cX5_nextForBack 17 = .ok (.getfield 35, 3) := by decide +kernel
theorem dX5_nextForBack_20 : decode cX5_nextForBack 20 = .ok (.aload_n 0, 1) := by decide +kernel
theorem dX5_nextForBack_21 : decode cX5_nextForBack 21 = .ok (.getfield 12, 3) := by decide +kernel
theorem dX5_nextForBack_24 : decode cX5_nextForBack 24 = .ok (.iload_n 3, 1) := by decide +kernel
theorem dX5_nextForBack_25 : decode cX5_nextForBack 25 = .ok (.iload_n 1, 1) := by decide +kernel
theorem dX5_nextForBack_26 : decode cX5_nextForBack 26 = .ok (.invokevirtual 61, 3) := by decide +kernel
theorem dX5_nextForBack_29 : decode cX5_nextForBack 29 = .ok (.iload_n 3, 1) := by decide +kernel
theorem dX5_nextForBack_30 : decode cX5_nextForBack 30 = .ok (.iconst 1, 1) := by decide +kernel
theorem dX5_nextForBack_31 : decode cX5_nextForBack 31 = .ok (.iadd, 1) := by decide +kernel
theorem dX5_nextForBack_32 : decode cX5_nextForBack 32 = .ok (.istore 5, 2) := by decide +kernel
theorem dX5_nextForBack_34 : decode cX5_nextForBack 34 = .ok (.iload 5, 2) := by decide +kernel
theorem dX5_nextForBack_36 : decode cX5_nextForBack 36 = .ok (.iload 4, 2) := by decide +kernel
theorem dX5_nextForBack_38 : decode cX5_nextForBack 38 = .ok (.if_icmp .gt 102, 3) := by decide +kernel
theorem dX5_nextForBack_41 : decode cX5_nextForBack 41 = .ok (.aload_n 0, 1) := by decide +kernel
theorem dX5_nextForBack_42 : decode cX5_nextForBack 42 = .ok (.getfield 18, 3) := by decide +kernel
theorem dX5_nextForBack_45 : decode cX5_nextForBack 45 = .ok (.aload_n 0, 1) := by decide +kernel
theorem dX5_nextForBack_46 : decode cX5_nextForBack 46 = .ok (.getfield 12, 3) := by decide +kernel
theorem dX5_nextForBack_49 : decode cX5_nextForBack 49 = .ok (.invokevirtual 57, 3) := by decide +kernel
theorem dX5_nextForBack_52 : decode cX5_nextForBack 52 = .ok (.aload_n 0, 1) := by decide +kernel
theorem dX5_nextForBack_53 : decode cX5_nextForBack 53 = .ok (.getfield 35, 3) := by decide +kernel
theorem dX5_nextForBack_56 : decode cX5_nextForBack 56 = .ok (.aload_n 0, 1) := by decide +kernel
theorem dX5_nextForBack_57 : decode cX5_nextForBack 57 = .ok (.getfield 18, 3) := by decide +kernel
theorem dX5_nextForBack_60 : decode cX5_nextForBack 60 = .ok (.iload 5, 2) := by decide +kernel
theorem dX5_nextForBack_62 : decode cX5_nextForBack 62 = .ok (.iload_n 1, 1) := by decide +kernel
theorem dX5_nextForBack_63 : decode cX5_nextForBack 63 = .ok (.invokevirtual 61, 3) := by decide +kernel
theorem dX5_nextForBack_66 : decode cX5_nextForBack 66 = .ok (.aload_n 0, 1) := by decide +kernel
theorem dX5_nextForBack_67 : decode cX5_nextForBack 67 = .ok (.getfield 35, 3) := by decide +kernel
theorem dX5_nextForBack_70 : decode cX5_nextForBack 70 = .ok (.aload_n 0, 1) := by decide +kernel
theorem dX5_nextForBack_71 : decode cX5_nextForBack 71 = .ok (.getfield 18, 3) := by decide +kernel
theorem dX5_nextForBack_74 : decode cX5_nextForBack 74 = .ok (.iload 5, 2) := by decide +kernel
theorem dX5_nextForBack_76 : decode cX5_nextForBack 76 = .ok (.iconst 1, 1) := by decide +kernel
theorem dX5_nextForBack_77 : decode cX5_nextForBack 77 = .ok (.iadd, 1) := by decide +kernel
theorem dX5_nextForBack_78 : decode cX5_nextForBack 78 = .ok (.iload 4, 2) := by decide +kernel
theorem dX5_nextForBack_80 : decode cX5_nextForBack 80 = .ok (.aload_n 0, 1) := by decide +kernel
theorem dX5_nextForBack_81 : decode cX5_nextForBack 81 = .ok (.getfield 35, 3) := by decide +kernel
theorem dX5_nextForBack_84 : decode cX5_nextForBack 84 = .ok (.getfield 65, 3) := by decide +kernel
theorem dX5_nextForBack_87 : decode cX5_nextForBack 87 = .ok (.invokevirtual 69, 3) := by decide +kernel
theorem dX5_nextForBack_90 : decode cX5_nextForBack 90 = .ok (.aload_n 0, 1) := by decide +kernel
theorem dX5_nextForBack_91 : decode cX5_nextForBack 91 = .ok (.getfield 18, 3) := by decide +kernel
theorem dX5_nextForBack_94 : decode cX5_nextForBack 94 = .ok (.aload_n 0, 1) := by decide +kernel
theorem dX5_nextForBack_95 : decode cX5_nextForBack 95 = .ok (.getfield 35, 3) := by decide +kernel
theorem dX5_nextForBack_98 : decode cX5_nextForBack 98 = .ok (.getfield 49, 3) := by decide +kernel
theorem dX5_nextForBack_101 : decode cX5_nextForBack 101 = .ok (.iload_n 1, 1) := by decide +kernel
theorem dX5_nextForBack_102 : decode cX5_nextForBack 102 = .ok (.invokevirtual 53, 3) := by decide +kernel
theorem dX5_nextForBack_105 : decode cX5_nextForBack 105 = .ok (.iload_n 2, 1) := by decide +kernel
theorem dX5_nextForBack_106 : decode cX5_nextForBack 106 = .ok (.if_icmp .ne 6, 3) := by decide +kernel
theorem dX5_nextForBack_109 : decode cX5_nextForBack 109 = .ok (.iload 5, 2) := by decide +kernel
theorem dX5_nextForBack_111 : decode cX5_nextForBack 111 = .ok (.ireturn, 1) := by decide +kernel
theorem dX5_nextForBack_112 : decode cX5_nextForBack 112 = .ok (.aload_n 0, 1) := by decide +kernel
theorem dX5_nextForBack_113 : decode cX5_nextForBack 113 = .ok (.getfield 35, 3) := by decide +kernel
theorem dX5_nextForBack_116 : decode cX5_nextForBack 116 = .ok (.aload_n 0, 1) := by decide +kernel
theorem dX5_nextForBack_117 : decode cX5_nextForBack 117 = .ok (.getfield 12, 3) := by decide +kernel
theorem dX5_nextForBack_120 : decode cX5_nextForBack 120 = .ok (.iload 5, 2) := by decide +kernel
theorem dX5_nextForBack_122 : decode cX5_nextForBack 122 = .ok (.iload 5, 2) := by decide +kernel
theorem dX5_nextForBack_124 : decode cX5_nextForBack 124 = .ok (.aload_n 0, 1) := by decide +kernel
theorem dX5_nextForBack_125 : decode cX5_nextForBack 125 = .ok (.getfield 35, 3) := by decide +kernel
theorem dX5_nextForBack_128 : decode cX5_nextForBack 128 = .ok (.getfield 65, 3) := by decide +kernel
theorem dX5_nextForBack_131 : decode cX5_nextForBack 131 = .ok (.invokevirtual 69, 3) := by decide +kernel
theorem dX5_nextForBack_134 : decode cX5_nextForBack 134 = .ok (.iinc 5 1, 3) := by decide +kernel
theorem dX5_nextForBack_137 : decode cX5_nextForBack 137 = .ok (.goto (-103), 3) := by decide +kernel
theorem dX5_nextForBack_140 : decode cX5_nextForBack 140 = .ok (.iconst (-1), 1) := by decide +kernel
theorem dX5_nextForBack_141 : decode cX5_nextForBack 141 = .ok (.ireturn, 1) := by decide +kernel
set_option maxRecDepth 4000 in
theorem s_X5_nextForBack_0 {w : GX} {d : Nat} {P : PN} {g : GI} (x1 : Int) (x2 : Int) (x3 : Int) (x4 : Int)
    (h : (0 ≤ nm x3 ∧ nm x3 < 21 ∧ Zm w (d + 2) mX8_become 0 [some (aR (some (137))), some (aR (some (31 + 5 * (nm x3).toNat)))] [] g (fun r g4 => r = none ∧ Zm w (d + 2) mX2_goWithOneMore 0 [some (aR (some (27))), some (aR (some (137))), some (aI (x3)), some (aI (x1))] [] g4 (fun r g6 => r = none ∧ (∀ v8 : Int, v8 = x3 + 1 → Zm w (d + 3) mX5_nextForBack 34 [some (aR (some (136))), some (aI (x1)), some (aI (x2)), none, some (aI (x4)), some (aI (v8))] [] g6 P))))) :
    Zm w (d + 3) mX5_nextForBack 0 [some (aR (some (136))), some (aI (x1)), some (aI (x2)), some (aI (x3)), some (aI (x4)), none] [] g P := by
  refine z_aload_n dX5_nextForBack_0 rfl rfl ?_
  refine m_getR dX5_nextForBack_1 fl_X5_12 (by decide) kt_136 rv_136_1 ?_
  refine z_aload_n dX5_nextForBack_4 rfl rfl ?_
  refine m_getR dX5_nextForBack_5 fl_X5_35 (by decide) kt_136 rv_136_0 ?_
  refine m_getR dX5_nextForBack_8 fl_X5_43 (by decide) kt_27 rv_27_5 ?_
  refine z_iload_n dX5_nextForBack_11 rfl rfl ?_
  obtain ⟨q1, q2, h⟩ := h
  have t3 : (nm x3).toNat < 21 := by omega
  refine m_aaldv dX5_nextForBack_12 kv_30 q1 q2 (w_ahead _ t3) ?_
  refine m_callV (as := [aR (some (31 + 5 * (nm x3).toNat))]) dX5_nextForBack_13 lk_X5_57 mok_X8_become in_X8_become sl_X8_become kt_137 rfl rfl rfl (Nat.le_of_ble_eq_true rfl) rfl (Nat.le_of_ble_eq_true rfl) rfl (m_mono (fun r g4 hr => ?_) h)
  obtain ⟨rfl, h⟩ := hr
  show Zm w (d + 3) mX5_nextForBack 16 [some (aR (some (136))), some (aI (x1)), some (aI (x2)), some (aI (x3)), some (aI (x4)), none] [] g4 P
  refine z_aload_n dX5_nextForBack_16 rfl rfl ?_
  refine m_getR dX5_nextForBack_17 fl_X5_35 (by decide) kt_136 rv_136_0 ?_
  refine z_aload_n dX5_nextForBack_20 rfl rfl ?_
  refine m_getR dX5_nextForBack_21 fl_X5_12 (by decide) kt_136 rv_136_1 ?_
  refine z_iload_n dX5_nextForBack_24 rfl rfl ?_
  refine z_iload_n dX5_nextForBack_25 rfl rfl ?_
  refine m_callV (as := [aR (some (137)), aI (x3), aI (x1)]) dX5_nextForBack_26 lk_X5_61 mok_X2_goWithOneMore in_X2_goWithOneMore sl_X2_goWithOneMore kt_27 rfl rfl rfl (Nat.le_of_ble_eq_true rfl) rfl (Nat.le_of_ble_eq_true rfl) rfl (m_mono (fun r g6 hr => ?_) h)
  obtain ⟨rfl, h⟩ := hr
  show Zm w (d + 3) mX5_nextForBack 29 [some (aR (some (136))), some (aI (x1)), some (aI (x2)), some (aI (x3)), some (aI (x4)), none] [] g6 P
  refine z_iload_n dX5_nextForBack_29 rfl rfl ?_
  refine z_iconst dX5_nextForBack_30 ?_
  refine z_iadd dX5_nextForBack_31 ?_
  replace h := h _ rfl
  refine z_istore dX5_nextForBack_32 (by decide) rfl ?_
  show Zm w (d + 3) mX5_nextForBack 34 [some (aR (some (136))), some (aI (x1)), some (aI (x2)), some (aI (x3)), some (aI (x4)), some (aI (x3 + 1))] [] g6 P
  exact z_weak (by simp [lle]) h
set_option maxRecDepth 4000 in
theorem s_X5_nextForBack_34 {w : GX} {d : Nat} {P : PN} {g : GI} (x1 : Int) (x2 : Int) (x4 : Int) (x5 : Int)
    (h : ((nm x4 < nm x5 → P (some (aI ((-1)))) g) ∧ (¬ nm x4 < nm x5 → Zm w (d + 2) mX8_become 0 [some (aR (some (142))), some (aR (some (137)))] [] g (fun r g2 => r = none ∧ Zm w (d + 2) mX2_goWithOneMore 0 [some (aR (some (27))), some (aR (some (142))), some (aI (x5)), some (aI (x1))] [] g2 (fun r g4 => r = none ∧ Zm w (d + 2) mX2_go 0 [some (aR (some (27))), some (aR (some (142))), some (aI (x5 + 1)), some (aI (x4)), some (aR (some (28))), none] [] g4 (fun r g6 => r = none ∧ Zm w (d + 2) mX8_letterOf 0 [some (aR (some (142))), some (aR (some (18))), some (aI (x1)), none] [] g6 (fun r g8 => ∃ z9 : Int, r = some (aI z9) ∧ ((¬ nm z9 = nm x2 → Zm w (d + 2) mX2_go 0 [some (aR (some (27))), some (aR (some (137))), some (aI (x5)), some (aI (x5)), some (aR (some (28))), none] [] g8 (fun r g11 => r = none ∧ Zm w (d + 3) mX5_nextForBack 34 [some (aR (some (136))), some (aI (x1)), some (aI (x2)), none, some (aI (x4)), some (aI (x5 + 1))] [] g11 P)) ∧ (nm z9 = nm x2 → P (some (aI (x5))) g8))))))))) :
    Zm w (d + 3) mX5_nextForBack 34 [some (aR (some (136))), some (aI (x1)), some (aI (x2)), none, some (aI (x4)), some (aI (x5))] [] g P := by
  refine z_iload dX5_nextForBack_34 rfl ?_
  refine z_iload dX5_nextForBack_36 rfl ?_
  refine z_icmp_gt (tgt := 140) dX5_nextForBack_38 (by decide) (fun c1 => ?_) (fun c1 => ?_)
  · replace h := h.1 c1
    refine z_iconst dX5_nextForBack_140 ?_
    exact m_iret dX5_nextForBack_141 rfl h
  · replace h := h.2 c1
    refine z_aload_n dX5_nextForBack_41 rfl rfl ?_
    refine m_getR dX5_nextForBack_42 fl_X5_18 (by decide) kt_136 rv_136_2 ?_
    refine z_aload_n dX5_nextForBack_45 rfl rfl ?_
    refine m_getR dX5_nextForBack_46 fl_X5_12 (by decide) kt_136 rv_136_1 ?_
    refine m_callV (as := [aR (some (137))]) dX5_nextForBack_49 lk_X5_57 mok_X8_become in_X8_become sl_X8_become kt_142 rfl rfl rfl (Nat.le_of_ble_eq_true rfl) rfl (Nat.le_of_ble_eq_true rfl) rfl (m_mono (fun r g2 hr => ?_) h)
    obtain ⟨rfl, h⟩ := hr
    show Zm w (d + 3) mX5_nextForBack 52 [some (aR (some (136))), some (aI (x1)), some (aI (x2)), none, some (aI (x4)), some (aI (x5))] [] g2 P
    refine z_aload_n dX5_nextForBack_52 rfl rfl ?_
    refine m_getR dX5_nextForBack_53 fl_X5_35 (by decide) kt_136 rv_136_0 ?_
    refine z_aload_n dX5_nextForBack_56 rfl rfl ?_
    refine m_getR dX5_nextForBack_57 fl_X5_18 (by decide) kt_136 rv_136_2 ?_
    refine z_iload dX5_nextForBack_60 rfl ?_
    refine z_iload_n dX5_nextForBack_62 rfl rfl ?_
    refine m_callV (as := [aR (some (142)), aI (x5), aI (x1)]) dX5_nextForBack_63 lk_X5_61 mok_X2_goWithOneMore in_X2_goWithOneMore sl_X2_goWithOneMore kt_27 rfl rfl rfl (Nat.le_of_ble_eq_true rfl) rfl (Nat.le_of_ble_eq_true rfl) rfl (m_mono (fun r g4 hr => ?_) h)
    obtain ⟨rfl, h⟩ := hr
    show Zm w (d + 3) mX5_nextForBack 66 [some (aR (some (136))), some (aI (x1)), some (aI (x2)), none, some (aI (x4)), some (aI (x5))] [] g4 P
    refine z_aload_n dX5_nextForBack_66 rfl rfl ?_
    refine m_getR dX5_nextForBack_67 fl_X5_35 (by decide) kt_136 rv_136_0 ?_
    refine z_aload_n dX5_nextForBack_70 rfl rfl ?_
    refine m_getR dX5_nextForBack_71 fl_X5_18 (by decide) kt_136 rv_136_2 ?_
    refine z_iload dX5_nextForBack_74 rfl ?_
    refine z_iconst dX5_nextForBack_76 ?_
    refine z_iadd dX5_nextForBack_77 ?_
    refine z_iload dX5_nextForBack_78 rfl ?_
    refine z_aload_n dX5_nextForBack_80 rfl rfl ?_
    refine m_getR dX5_nextForBack_81 fl_X5_35 (by decide) kt_136 rv_136_0 ?_
    refine m_getR dX5_nextForBack_84 fl_X5_65 (by decide) kt_27 rv_27_4 ?_
    refine m_callV (as := [aR (some (142)), aI (x5 + 1), aI (x4), aR (some (28))]) dX5_nextForBack_87 lk_X5_69 mok_X2_go in_X2_go sl_X2_go kt_27 rfl rfl rfl (Nat.le_of_ble_eq_true rfl) rfl (Nat.le_of_ble_eq_true rfl) rfl (m_mono (fun r g6 hr => ?_) h)
    obtain ⟨rfl, h⟩ := hr
    show Zm w (d + 3) mX5_nextForBack 90 [some (aR (some (136))), some (aI (x1)), some (aI (x2)), none, some (aI (x4)), some (aI (x5))] [] g6 P
    refine z_aload_n dX5_nextForBack_90 rfl rfl ?_
    refine m_getR dX5_nextForBack_91 fl_X5_18 (by decide) kt_136 rv_136_2 ?_
    refine z_aload_n dX5_nextForBack_94 rfl rfl ?_
    refine m_getR dX5_nextForBack_95 fl_X5_35 (by decide) kt_136 rv_136_0 ?_
    refine m_getR dX5_nextForBack_98 fl_X5_49 (by decide) kt_27 rv_27_0 ?_
    refine z_iload_n dX5_nextForBack_101 rfl rfl ?_
    refine m_callV (as := [aR (some (18)), aI (x1)]) dX5_nextForBack_102 lk_X5_53 mok_X8_letterOf in_X8_letterOf sl_X8_letterOf kt_142 rfl rfl rfl (Nat.le_of_ble_eq_true rfl) rfl (Nat.le_of_ble_eq_true rfl) rfl (m_mono (fun r g8 hr => ?_) h)
    obtain ⟨z9, rfl, h⟩ := hr
    show Zm w (d + 3) mX5_nextForBack 105 [some (aR (some (136))), some (aI (x1)), some (aI (x2)), none, some (aI (x4)), some (aI (x5))] [aI (z9)] g8 P
    refine z_iload_n dX5_nextForBack_105 rfl rfl ?_
    refine z_icmp_ne (tgt := 112) dX5_nextForBack_106 (by decide) (fun c10 => ?_) (fun c10 => ?_)
    · replace h := h.1 c10
      refine z_aload_n dX5_nextForBack_112 rfl rfl ?_
      refine m_getR dX5_nextForBack_113 fl_X5_35 (by decide) kt_136 rv_136_0 ?_
      refine z_aload_n dX5_nextForBack_116 rfl rfl ?_
      refine m_getR dX5_nextForBack_117 fl_X5_12 (by decide) kt_136 rv_136_1 ?_
      refine z_iload dX5_nextForBack_120 rfl ?_
      refine z_iload dX5_nextForBack_122 rfl ?_
      refine z_aload_n dX5_nextForBack_124 rfl rfl ?_
      refine m_getR dX5_nextForBack_125 fl_X5_35 (by decide) kt_136 rv_136_0 ?_
      refine m_getR dX5_nextForBack_128 fl_X5_65 (by decide) kt_27 rv_27_4 ?_
      refine m_callV (as := [aR (some (137)), aI (x5), aI (x5), aR (some (28))]) dX5_nextForBack_131 lk_X5_69 mok_X2_go in_X2_go sl_X2_go kt_27 rfl rfl rfl (Nat.le_of_ble_eq_true rfl) rfl (Nat.le_of_ble_eq_true rfl) rfl (m_mono (fun r g11 hr => ?_) h)
      obtain ⟨rfl, h⟩ := hr
      show Zm w (d + 3) mX5_nextForBack 134 [some (aR (some (136))), some (aI (x1)), some (aI (x2)), none, some (aI (x4)), some (aI (x5))] [] g11 P
      refine z_iinc dX5_nextForBack_134 rfl (by decide) rfl ?_
      show Zm w (d + 3) mX5_nextForBack 137 [some (aR (some (136))), some (aI (x1)), some (aI (x2)), none, some (aI (x4)), some (aI (x5 + 1))] [] g11 P
      refine z_goto (tgt := 34) dX5_nextForBack_137 (by decide) ?_
      exact z_weak (by simp [lle]) h
    · replace h := h.2 (Decidable.not_not.mp c10)
      refine z_iload dX5_nextForBack_109 rfl ?_
      exact m_iret dX5_nextForBack_111 rfl h
theorem dX5_findNet_0 : decode cX5_findNet 0 = .ok (.aload_n 0, 1) := by decide +kernel
theorem dX5_findNet_1 : decode cX5_findNet 1 = .ok (.iconst (-1), 1) := by decide +kernel
theorem dX5_findNet_2 : decode cX5_findNet 2 = .ok (.iconst (-1), 1) := by decide +kernel
theorem dX5_findNet_3 : decode cX5_findNet 3 = .ok (.iconst (-1), 1) := by decide +kernel
theorem dX5_findNet_4 : decode cX5_findNet 4 = .ok (.invokevirtual 77, 3) := by decide +kernel
theorem dX5_findNet_7 : decode cX5_findNet 7 = .ok (.aload_n 0, 1) := by decide +kernel
theorem dX5_findNet_8 : decode cX5_findNet 8 = .ok (.getfield 12, 3) := by decide +kernel
theorem dX5_findNet_11 : decode cX5_findNet 11 = .ok (.aload_n 0, 1) := by decide +kernel
theorem dX5_findNet_12 : decode cX5_findNet 12 = .ok (.getfield 35, 3) := by decide +kernel
theorem dX5_findNet_15 : decode cX5_findNet 15 = .ok (.getfield 43, 3) := by decide +kernel
theorem dX5_findNet_18 : decode cX5_findNet 18 = .ok (.iload_n 1, 1) := by decide +kernel
theorem dX5_findNet_19 : decode cX5_findNet 19 = .ok (.aaload, 1) := by decide +kernel
theorem dX5_findNet_20 : decode cX5_findNet 20 = .ok (.invokevirtual 57, 3) := by decide +kernel
theorem dX5_findNet_23 : decode cX5_findNet 23 = .ok (.aload_n 0, 1) := by decide +kernel
theorem dX5_findNet_24 : decode cX5_findNet 24 = .ok (.getfield 35, 3) := by decide +kernel
theorem dX5_findNet_27 : decode cX5_findNet 27 = .ok (.aload_n 0, 1) := by decide +kernel
theorem dX5_findNet_28 : decode cX5_findNet 28 = .ok (.getfield 12, 3) := by decide +kernel
theorem dX5_findNet_31 : decode cX5_findNet 31 = .ok (.iload_n 1, 1) := by decide +kernel
theorem dX5_findNet_32 : decode cX5_findNet 32 = .ok (.aload_n 0, 1) := by decide +kernel
theorem dX5_findNet_33 : decode cX5_findNet 33 = .ok (.getfield 35, 3) := by decide +kernel
theorem dX5_findNet_36 : decode cX5_findNet 36 = .ok (.getfield 65, 3) := by decide +kernel
theorem dX5_findNet_39 : decode cX5_findNet 39 = .ok (.invokevirtual 80, 3) := by decide +kernel
theorem dX5_findNet_42 : decode cX5_findNet 42 = .ok (.pop, 1) := by decide +kernel
theorem dX5_findNet_43 : decode cX5_findNet 43 = .ok (.aload_n 0, 1) := by decide +kernel
theorem dX5_findNet_44 : decode cX5_findNet 44 = .ok (.getfield 35, 3) := by decide +kernel
theorem dX5_findNet_47 : decode cX5_findNet 47 = .ok (.aload_n 0, 1) := by decide +kernel
theorem dX5_findNet_48 : decode cX5_findNet 48 = .ok (.getfield 12, 3) := by decide +kernel
theorem dX5_findNet_51 : decode cX5_findNet 51 = .ok (.iload_n 1, 1) := by decide +kernel
theorem dX5_findNet_52 : decode cX5_findNet 52 = .ok (.invokevirtual 84, 3) := by decide +kernel
theorem dX5_findNet_55 : decode cX5_findNet 55 = .ok (.iconst 0, 1) := by decide +kernel
theorem dX5_findNet_56 : decode cX5_findNet 56 = .ok (.istore_n 2, 1) := by decide +kernel
theorem dX5_findNet_57 : decode cX5_findNet 57 = .ok (.iload_n 2, 1) := by decide +kernel
theorem dX5_findNet_58 : decode cX5_findNet 58 = .ok (.aload_n 0, 1) := by decide +kernel
theorem dX5_findNet_59 : decode cX5_findNet 59 = .ok (.getfield 35, 3) := by decide +kernel
theorem dX5_findNet_62 : decode cX5_findNet 62 = .ok (.getfield 49, 3) := by decide +kernel
theorem dX5_findNet_65 : decode cX5_findNet 65 = .ok (.getfield 88, 3) := by decide +kernel
theorem dX5_findNet_68 : decode cX5_findNet 68 = .ok (.if_icmp .ge 126, 3) := by decide +kernel
theorem dX5_findNet_71 : decode cX5_findNet 71 = .ok (.iload_n 2, 1) := by decide +kernel
theorem dX5_findNet_72 : decode cX5_findNet 72 = .ok (.istore_n 3, 1) := by decide +kernel
theorem dX5_findNet_73 : decode cX5_findNet 73 = .ok (.iload_n 3, 1) := by decide +kernel
theorem dX5_findNet_74 : decode cX5_findNet 74 = .ok (.aload_n 0, 1) := by decide +kernel
theorem dX5_findNet_75 : decode cX5_findNet 75 = .ok (.getfield 35, 3) := by decide +kernel
theorem dX5_findNet_78 : decode cX5_findNet 78 = .ok (.getfield 49, 3) := by decide +kernel
theorem dX5_findNet_81 : decode cX5_findNet 81 = .ok (.getfield 88, 3) := by decide +kernel
theorem dX5_findNet_84 : decode cX5_findNet 84 = .ok (.if_icmp .ge 104, 3) := by decide +kernel
theorem dX5_findNet_87 : decode cX5_findNet 87 = .ok (.aload_n 0, 1) := by decide +kernel
theorem dX5_findNet_88 : decode cX5_findNet 88 = .ok (.getfield 18, 3) := by decide +kernel
theorem dX5_findNet_91 : decode cX5_findNet 91 = .ok (.aload_n 0, 1) := by decide +kernel
theorem dX5_findNet_92 : decode cX5_findNet 92 = .ok (.getfield 12, 3) := by decide +kernel
theorem dX5_findNet_95 : decode cX5_findNet 95 = .ok (.invokevirtual 57, 3) := by decide +kernel
theorem dX5_findNet_98 : decode cX5_findNet 98 = .ok (.aload_n 0, 1) := by decide +kernel
theorem dX5_findNet_99 : decode cX5_findNet 99 = .ok (.getfield 18, 3) := by decide +kernel
theorem dX5_findNet_102 : decode cX5_findNet 102 = .ok (.iload_n 2, 1) := by decide +kernel
theorem dX5_findNet_103 : decode cX5_findNet 103 = .ok (.invokevirtual 93, 3) := by decide +kernel
theorem dX5_findNet_106 : decode cX5_findNet 106 = .ok (.aload_n 0, 1) := by decide +kernel
theorem dX5_findNet_107 : decode cX5_findNet 107 = .ok (.getfield 18, 3) := by decide +kernel
theorem dX5_findNet_110 : decode cX5_findNet 110 = .ok (.iload_n 3, 1) := by decide +kernel
theorem dX5_findNet_111 : decode cX5_findNet 111 = .ok (.invokevirtual 93, 3) := by decide +kernel
theorem dX5_findNet_114 : decode cX5_findNet 114 = .ok (.aload_n 0, 1) := by decide +kernel
theorem dX5_findNet_115 : decode cX5_findNet 115 = .ok (.getfield 35, 3) := by decide +kernel
theorem dX5_findNet_118 : decode cX5_findNet 118 = .ok (.aload_n 0, 1) := by decide +kernel
theorem dX5_findNet_119 : decode cX5_findNet 119 = .ok (.getfield 18, 3) := by decide +kernel
theorem dX5_findNet_122 : decode cX5_findNet 122 = .ok (.iload_n 1, 1) := by decide +kernel
theorem dX5_findNet_123 : decode cX5_findNet 123 = .ok (.invokevirtual 97, 3) := by decide +kernel
theorem dX5_findNet_126 : decode cX5_findNet 126 = .ok (.aload_n 0, 1) := by decide +kernel
theorem dX5_findNet_127 : decode cX5_findNet 127 = .ok (.getfield 35, 3) := by decide +kernel
theorem dX5_findNet_130 : decode cX5_findNet 130 = .ok (.aload_n 0, 1) := by decide +kernel
theorem dX5_findNet_131 : decode cX5_findNet 131 = .ok (.getfield 18, 3) := by decide +kernel
theorem dX5_findNet_134 : decode cX5_findNet 134 = .ok (.iload_n 1, 1) := by decide +kernel
theorem dX5_findNet_135 : decode cX5_findNet 135 = .ok (.iconst 1, 1) := by decide +kernel
theorem dX5_findNet_136 : decode cX5_findNet 136 = .ok (.iadd, 1) := by decide +kernel
theorem dX5_findNet_137 : decode cX5_findNet 137 = .ok (.bipush 19, 2) := by decide +kernel
theorem dX5_findNet_139 : decode cX5_findNet 139 = .ok (.aload_n 0, 1) := by decide +kernel
theorem dX5_findNet_140 : decode cX5_findNet 140 = .ok (.getfield 35, 3) := by decide +kernel
theorem dX5_findNet_143 : decode cX5_findNet 143 = .ok (.getfield 65, 3) := by decide +kernel
theorem dX5_findNet_146 : decode cX5_findNet 146 = .ok (.invokevirtual 69, 3) := by decide +kernel
theorem dX5_findNet_149 : decode cX5_findNet 149 = .ok (.aload_n 0, 1) := by decide +kernel
theorem dX5_findNet_150 : decode cX5_findNet 150 = .ok (.getfield 18, 3) := by decide +kernel
theorem dX5_findNet_153 : decode cX5_findNet 153 = .ok (.aload_n 0, 1) := by decide +kernel
theorem dX5_findNet_154 : decode cX5_findNet 154 = .ok (.getfield 35, 3) := by decide +kernel
theorem dX5_findNet_157 : decode cX5_findNet 157 = .ok (.getfield 49, 3) := by decide +kernel
theorem dX5_findNet_160 : decode cX5_findNet 160 = .ok (.invokevirtual 100, 3) := by decide +kernel
theorem dX5_findNet_163 : decode cX5_findNet 163 = .ok (.istore 4, 2) := by decide +kernel
theorem dX5_findNet_165 : decode cX5_findNet 165 = .ok (.iload 4, 2) := by decide +kernel
theorem dX5_findNet_167 : decode cX5_findNet 167 = .ok (.aload_n 0, 1) := by decide +kernel
theorem dX5_findNet_168 : decode cX5_findNet 168 = .ok (.getfield 32, 3) := by decide +kernel
theorem dX5_findNet_171 : decode cX5_findNet 171 = .ok (.if_icmp .le 11, 3) := by decide +kernel
theorem dX5_findNet_174 : decode cX5_findNet 174 = .ok (.aload_n 0, 1) := by decide +kernel
theorem dX5_findNet_175 : decode cX5_findNet 175 = .ok (.iload 4, 2) := by decide +kernel
theorem dX5_findNet_177 : decode cX5_findNet 177 = .ok (.iload_n 2, 1) := by decide +kernel
theorem dX5_findNet_178 : decode cX5_findNet 178 = .ok (.iload_n 3, 1) := by decide +kernel
theorem dX5_findNet_179 : decode cX5_findNet 179 = .ok (.invokevirtual 77, 3) := by decide +kernel
theorem dX5_findNet_182 : decode cX5_findNet 182 = .ok (.iinc 3 1, 3) := by decide +kernel
theorem dX5_findNet_185 : decode cX5_findNet 185 = .ok (.goto (-112), 3) := by decide +kernel
theorem dX5_findNet_188 : decode cX5_findNet 188 = .ok (.iinc 2 1, 3) := by decide +kernel
theorem dX5_findNet_191 : decode cX5_findNet 191 = .ok (.goto (-134), 3) := by decide +kernel
theorem dX5_findNet_194 : decode cX5_findNet 194 = .ok (.return_, 1) := by decide +kernel
set_option maxRecDepth 4000 in
theorem s_X5_findNet_0 {w : GX} {d : Nat} {P : PN} {g : GI} (x1 : Int)
    (h : Zm w (d + 2) mX5_keepNet 0 [some (aR (some (136))), some (aI ((-1))), some (aI ((-1))), some (aI ((-1)))] [] g (fun r g1 => r = none ∧ (0 ≤ nm x1 ∧ nm x1 < 21 ∧ Zm w (d + 2) mX8_become 0 [some (aR (some (137))), some (aR (some (31 + 5 * (nm x1).toNat)))] [] g1 (fun r g6 => r = none ∧ Zm w (d + 2) mX2_crossTold 0 [some (aR (some (27))), some (aR (some (137))), some (aI (x1)), some (aR (some (28))), none, none, none] [] g6 (fun r g8 => ∃ z9 : Int, r = some (aI z9) ∧ Zm w (d + 2) mX2_catchTold 0 [some (aR (some (27))), some (aR (some (137))), some (aI (x1)), none] [] g8 (fun r g10 => r = none ∧ Zm w (d + 3) mX5_findNet 57 [some (aR (some (136))), some (aI (x1)), some (aI (0)), none, none] [] g10 P)))))) :
    Zm w (d + 3) mX5_findNet 0 [some (aR (some (136))), some (aI (x1)), none, none, none] [] g P := by
  refine z_aload_n dX5_findNet_0 rfl rfl ?_
  refine z_iconst dX5_findNet_1 ?_
  refine z_iconst dX5_findNet_2 ?_
  refine z_iconst dX5_findNet_3 ?_
  refine m_callV (as := [aI ((-1)), aI ((-1)), aI ((-1))]) dX5_findNet_4 lk_X5_77 mok_X5_keepNet in_X5_keepNet sl_X5_keepNet kt_136 rfl rfl rfl (Nat.le_of_ble_eq_true rfl) rfl (Nat.le_of_ble_eq_true rfl) rfl (m_mono (fun r g1 hr => ?_) h)
  obtain ⟨rfl, h⟩ := hr
  show Zm w (d + 3) mX5_findNet 7 [some (aR (some (136))), some (aI (x1)), none, none, none] [] g1 P
  refine z_aload_n dX5_findNet_7 rfl rfl ?_
  refine m_getR dX5_findNet_8 fl_X5_12 (by decide) kt_136 rv_136_1 ?_
  refine z_aload_n dX5_findNet_11 rfl rfl ?_
  refine m_getR dX5_findNet_12 fl_X5_35 (by decide) kt_136 rv_136_0 ?_
  refine m_getR dX5_findNet_15 fl_X5_43 (by decide) kt_27 rv_27_5 ?_
  refine z_iload_n dX5_findNet_18 rfl rfl ?_
  obtain ⟨q3, q4, h⟩ := h
  have t5 : (nm x1).toNat < 21 := by omega
  refine m_aaldv dX5_findNet_19 kv_30 q3 q4 (w_ahead _ t5) ?_
  refine m_callV (as := [aR (some (31 + 5 * (nm x1).toNat))]) dX5_findNet_20 lk_X5_57 mok_X8_become in_X8_become sl_X8_become kt_137 rfl rfl rfl (Nat.le_of_ble_eq_true rfl) rfl (Nat.le_of_ble_eq_true rfl) rfl (m_mono (fun r g6 hr => ?_) h)
  obtain ⟨rfl, h⟩ := hr
  show Zm w (d + 3) mX5_findNet 23 [some (aR (some (136))), some (aI (x1)), none, none, none] [] g6 P
  refine z_aload_n dX5_findNet_23 rfl rfl ?_
  refine m_getR dX5_findNet_24 fl_X5_35 (by decide) kt_136 rv_136_0 ?_
  refine z_aload_n dX5_findNet_27 rfl rfl ?_
  refine m_getR dX5_findNet_28 fl_X5_12 (by decide) kt_136 rv_136_1 ?_
  refine z_iload_n dX5_findNet_31 rfl rfl ?_
  refine z_aload_n dX5_findNet_32 rfl rfl ?_
  refine m_getR dX5_findNet_33 fl_X5_35 (by decide) kt_136 rv_136_0 ?_
  refine m_getR dX5_findNet_36 fl_X5_65 (by decide) kt_27 rv_27_4 ?_
  refine m_callV (as := [aR (some (137)), aI (x1), aR (some (28))]) dX5_findNet_39 lk_X5_80 mok_X2_crossTold in_X2_crossTold sl_X2_crossTold kt_27 rfl rfl rfl (Nat.le_of_ble_eq_true rfl) rfl (Nat.le_of_ble_eq_true rfl) rfl (m_mono (fun r g8 hr => ?_) h)
  obtain ⟨z9, rfl, h⟩ := hr
  show Zm w (d + 3) mX5_findNet 42 [some (aR (some (136))), some (aI (x1)), none, none, none] [aI (z9)] g8 P
  refine z_pop dX5_findNet_42 rfl ?_
  refine z_aload_n dX5_findNet_43 rfl rfl ?_
  refine m_getR dX5_findNet_44 fl_X5_35 (by decide) kt_136 rv_136_0 ?_
  refine z_aload_n dX5_findNet_47 rfl rfl ?_
  refine m_getR dX5_findNet_48 fl_X5_12 (by decide) kt_136 rv_136_1 ?_
  refine z_iload_n dX5_findNet_51 rfl rfl ?_
  refine m_callV (as := [aR (some (137)), aI (x1)]) dX5_findNet_52 lk_X5_84 mok_X2_catchTold in_X2_catchTold sl_X2_catchTold kt_27 rfl rfl rfl (Nat.le_of_ble_eq_true rfl) rfl (Nat.le_of_ble_eq_true rfl) rfl (m_mono (fun r g10 hr => ?_) h)
  obtain ⟨rfl, h⟩ := hr
  show Zm w (d + 3) mX5_findNet 55 [some (aR (some (136))), some (aI (x1)), none, none, none] [] g10 P
  refine z_iconst dX5_findNet_55 ?_
  refine z_istore_n dX5_findNet_56 rfl (by decide) rfl ?_
  show Zm w (d + 3) mX5_findNet 57 [some (aR (some (136))), some (aI (x1)), some (aI (0)), none, none] [] g10 P
  exact z_weak (by simp [lle]) h
set_option maxRecDepth 4000 in
theorem s_X5_findNet_57 {w : GX} {d : Nat} {P : PN} {g : GI} (x1 : Int) (x2 : Int)
    (h : ((¬ nm x2 < nm (g 18 8) → P none g) ∧ (nm x2 < nm (g 18 8) → Zm w (d + 3) mX5_findNet 73 [some (aR (some (136))), some (aI (x1)), some (aI (x2)), some (aI (x2)), none] [] g P))) :
    Zm w (d + 3) mX5_findNet 57 [some (aR (some (136))), some (aI (x1)), some (aI (x2)), none, none] [] g P := by
  refine z_iload_n dX5_findNet_57 rfl rfl ?_
  refine z_aload_n dX5_findNet_58 rfl rfl ?_
  refine m_getR dX5_findNet_59 fl_X5_35 (by decide) kt_136 rv_136_0 ?_
  refine m_getR dX5_findNet_62 fl_X5_49 (by decide) kt_27 rv_27_0 ?_
  refine z_getI dX5_findNet_65 fl_X5_88 (by decide) kt_18 ?_
  refine z_icmp_ge (tgt := 194) dX5_findNet_68 (by decide) (fun c1 => ?_) (fun c1 => ?_)
  · replace h := h.1 c1
    exact m_vret dX5_findNet_194 rfl h
  · replace h := h.2 (Decidable.not_not.mp c1)
    refine z_iload_n dX5_findNet_71 rfl rfl ?_
    refine z_istore_n dX5_findNet_72 rfl (by decide) rfl ?_
    show Zm w (d + 3) mX5_findNet 73 [some (aR (some (136))), some (aI (x1)), some (aI (x2)), some (aI (x2)), none] [] g P
    exact z_weak (by simp [lle]) h
set_option maxRecDepth 4000 in
theorem s_X5_findNet_73 {w : GX} {d : Nat} {P : PN} {g : GI} (x1 : Int) (x2 : Int) (x3 : Int)
    (h : ((¬ nm x3 < nm (g 18 8) → Zm w (d + 3) mX5_findNet 57 [some (aR (some (136))), some (aI (x1)), some (aI (x2 + 1)), none, none] [] g P) ∧ (nm x3 < nm (g 18 8) → Zm w (d + 2) mX8_become 0 [some (aR (some (142))), some (aR (some (137)))] [] g (fun r g2 => r = none ∧ Zm w (d + 2) mX8_sell 0 [some (aR (some (142))), some (aI (x2)), none, none] [] g2 (fun r g4 => r = none ∧ Zm w (d + 2) mX8_sell 0 [some (aR (some (142))), some (aI (x3)), none, none] [] g4 (fun r g6 => r = none ∧ Zm w (d + 2) mX2_driftTold 0 [some (aR (some (27))), some (aR (some (142))), some (aI (x1))] [] g6 (fun r g8 => r = none ∧ Zm w (d + 2) mX2_go 0 [some (aR (some (27))), some (aR (some (142))), some (aI (x1 + 1)), some (aI (19)), some (aR (some (28))), none] [] g8 (fun r g10 => r = none ∧ Zm w (d + 2) mX8_owesSold 0 [some (aR (some (142))), some (aR (some (18))), none, none] [] g10 (fun r g12 => ∃ z13 : Int, r = some (aI z13) ∧ ((¬ nm (g12 136 6) < nm z13 → Zm w (d + 3) mX5_findNet 73 [some (aR (some (136))), some (aI (x1)), some (aI (x2)), some (aI (x3 + 1)), none] [] g12 P) ∧ (nm (g12 136 6) < nm z13 → Zm w (d + 2) mX5_keepNet 0 [some (aR (some (136))), some (aI (z13)), some (aI (x2)), some (aI (x3))] [] g12 (fun r g15 => r = none ∧ Zm w (d + 3) mX5_findNet 73 [some (aR (some (136))), some (aI (x1)), some (aI (x2)), some (aI (x3 + 1)), none] [] g15 P)))))))))))) :
    Zm w (d + 3) mX5_findNet 73 [some (aR (some (136))), some (aI (x1)), some (aI (x2)), some (aI (x3)), none] [] g P := by
  refine z_iload_n dX5_findNet_73 rfl rfl ?_
  refine z_aload_n dX5_findNet_74 rfl rfl ?_
  refine m_getR dX5_findNet_75 fl_X5_35 (by decide) kt_136 rv_136_0 ?_
  refine m_getR dX5_findNet_78 fl_X5_49 (by decide) kt_27 rv_27_0 ?_
  refine z_getI dX5_findNet_81 fl_X5_88 (by decide) kt_18 ?_
  refine z_icmp_ge (tgt := 188) dX5_findNet_84 (by decide) (fun c1 => ?_) (fun c1 => ?_)
  · replace h := h.1 c1
    refine z_iinc dX5_findNet_188 rfl (by decide) rfl ?_
    show Zm w (d + 3) mX5_findNet 191 [some (aR (some (136))), some (aI (x1)), some (aI (x2 + 1)), some (aI (x3)), none] [] g P
    refine z_goto (tgt := 57) dX5_findNet_191 (by decide) ?_
    exact z_weak (by simp [lle]) h
  · replace h := h.2 (Decidable.not_not.mp c1)
    refine z_aload_n dX5_findNet_87 rfl rfl ?_
    refine m_getR dX5_findNet_88 fl_X5_18 (by decide) kt_136 rv_136_2 ?_
    refine z_aload_n dX5_findNet_91 rfl rfl ?_
    refine m_getR dX5_findNet_92 fl_X5_12 (by decide) kt_136 rv_136_1 ?_
    refine m_callV (as := [aR (some (137))]) dX5_findNet_95 lk_X5_57 mok_X8_become in_X8_become sl_X8_become kt_142 rfl rfl rfl (Nat.le_of_ble_eq_true rfl) rfl (Nat.le_of_ble_eq_true rfl) rfl (m_mono (fun r g2 hr => ?_) h)
    obtain ⟨rfl, h⟩ := hr
    show Zm w (d + 3) mX5_findNet 98 [some (aR (some (136))), some (aI (x1)), some (aI (x2)), some (aI (x3)), none] [] g2 P
    refine z_aload_n dX5_findNet_98 rfl rfl ?_
    refine m_getR dX5_findNet_99 fl_X5_18 (by decide) kt_136 rv_136_2 ?_
    refine z_iload_n dX5_findNet_102 rfl rfl ?_
    refine m_callV (as := [aI (x2)]) dX5_findNet_103 lk_X5_93 mok_X8_sell in_X8_sell sl_X8_sell kt_142 rfl rfl rfl (Nat.le_of_ble_eq_true rfl) rfl (Nat.le_of_ble_eq_true rfl) rfl (m_mono (fun r g4 hr => ?_) h)
    obtain ⟨rfl, h⟩ := hr
    show Zm w (d + 3) mX5_findNet 106 [some (aR (some (136))), some (aI (x1)), some (aI (x2)), some (aI (x3)), none] [] g4 P
    refine z_aload_n dX5_findNet_106 rfl rfl ?_
    refine m_getR dX5_findNet_107 fl_X5_18 (by decide) kt_136 rv_136_2 ?_
    refine z_iload_n dX5_findNet_110 rfl rfl ?_
    refine m_callV (as := [aI (x3)]) dX5_findNet_111 lk_X5_93 mok_X8_sell in_X8_sell sl_X8_sell kt_142 rfl rfl rfl (Nat.le_of_ble_eq_true rfl) rfl (Nat.le_of_ble_eq_true rfl) rfl (m_mono (fun r g6 hr => ?_) h)
    obtain ⟨rfl, h⟩ := hr
    show Zm w (d + 3) mX5_findNet 114 [some (aR (some (136))), some (aI (x1)), some (aI (x2)), some (aI (x3)), none] [] g6 P
    refine z_aload_n dX5_findNet_114 rfl rfl ?_
    refine m_getR dX5_findNet_115 fl_X5_35 (by decide) kt_136 rv_136_0 ?_
    refine z_aload_n dX5_findNet_118 rfl rfl ?_
    refine m_getR dX5_findNet_119 fl_X5_18 (by decide) kt_136 rv_136_2 ?_
    refine z_iload_n dX5_findNet_122 rfl rfl ?_
    refine m_callV (as := [aR (some (142)), aI (x1)]) dX5_findNet_123 lk_X5_97 mok_X2_driftTold in_X2_driftTold sl_X2_driftTold kt_27 rfl rfl rfl (Nat.le_of_ble_eq_true rfl) rfl (Nat.le_of_ble_eq_true rfl) rfl (m_mono (fun r g8 hr => ?_) h)
    obtain ⟨rfl, h⟩ := hr
    show Zm w (d + 3) mX5_findNet 126 [some (aR (some (136))), some (aI (x1)), some (aI (x2)), some (aI (x3)), none] [] g8 P
    refine z_aload_n dX5_findNet_126 rfl rfl ?_
    refine m_getR dX5_findNet_127 fl_X5_35 (by decide) kt_136 rv_136_0 ?_
    refine z_aload_n dX5_findNet_130 rfl rfl ?_
    refine m_getR dX5_findNet_131 fl_X5_18 (by decide) kt_136 rv_136_2 ?_
    refine z_iload_n dX5_findNet_134 rfl rfl ?_
    refine z_iconst dX5_findNet_135 ?_
    refine z_iadd dX5_findNet_136 ?_
    refine z_bipush dX5_findNet_137 rfl ?_
    refine z_aload_n dX5_findNet_139 rfl rfl ?_
    refine m_getR dX5_findNet_140 fl_X5_35 (by decide) kt_136 rv_136_0 ?_
    refine m_getR dX5_findNet_143 fl_X5_65 (by decide) kt_27 rv_27_4 ?_
    refine m_callV (as := [aR (some (142)), aI (x1 + 1), aI (19), aR (some (28))]) dX5_findNet_146 lk_X5_69 mok_X2_go in_X2_go sl_X2_go kt_27 rfl rfl rfl (Nat.le_of_ble_eq_true rfl) rfl (Nat.le_of_ble_eq_true rfl) rfl (m_mono (fun r g10 hr => ?_) h)
    obtain ⟨rfl, h⟩ := hr
    show Zm w (d + 3) mX5_findNet 149 [some (aR (some (136))), some (aI (x1)), some (aI (x2)), some (aI (x3)), none] [] g10 P
    refine z_aload_n dX5_findNet_149 rfl rfl ?_
    refine m_getR dX5_findNet_150 fl_X5_18 (by decide) kt_136 rv_136_2 ?_
    refine z_aload_n dX5_findNet_153 rfl rfl ?_
    refine m_getR dX5_findNet_154 fl_X5_35 (by decide) kt_136 rv_136_0 ?_
    refine m_getR dX5_findNet_157 fl_X5_49 (by decide) kt_27 rv_27_0 ?_
    refine m_callV (as := [aR (some (18))]) dX5_findNet_160 lk_X5_100 mok_X8_owesSold in_X8_owesSold sl_X8_owesSold kt_142 rfl rfl rfl (Nat.le_of_ble_eq_true rfl) rfl (Nat.le_of_ble_eq_true rfl) rfl (m_mono (fun r g12 hr => ?_) h)
    obtain ⟨z13, rfl, h⟩ := hr
    show Zm w (d + 3) mX5_findNet 163 [some (aR (some (136))), some (aI (x1)), some (aI (x2)), some (aI (x3)), none] [aI (z13)] g12 P
    refine z_istore dX5_findNet_163 (by decide) rfl ?_
    show Zm w (d + 3) mX5_findNet 165 [some (aR (some (136))), some (aI (x1)), some (aI (x2)), some (aI (x3)), some (aI (z13))] [] g12 P
    refine z_iload dX5_findNet_165 rfl ?_
    refine z_aload_n dX5_findNet_167 rfl rfl ?_
    refine z_getI dX5_findNet_168 fl_X5_32 (by decide) kt_136 ?_
    refine z_icmp_le (tgt := 182) dX5_findNet_171 (by decide) (fun c14 => ?_) (fun c14 => ?_)
    · replace h := h.1 c14
      refine z_iinc dX5_findNet_182 rfl (by decide) rfl ?_
      show Zm w (d + 3) mX5_findNet 185 [some (aR (some (136))), some (aI (x1)), some (aI (x2)), some (aI (x3 + 1)), some (aI (z13))] [] g12 P
      refine z_goto (tgt := 73) dX5_findNet_185 (by decide) ?_
      exact z_weak (by simp [lle]) h
    · replace h := h.2 (Decidable.not_not.mp c14)
      refine z_aload_n dX5_findNet_174 rfl rfl ?_
      refine z_iload dX5_findNet_175 rfl ?_
      refine z_iload_n dX5_findNet_177 rfl rfl ?_
      refine z_iload_n dX5_findNet_178 rfl rfl ?_
      refine m_callV (as := [aI (z13), aI (x2), aI (x3)]) dX5_findNet_179 lk_X5_77 mok_X5_keepNet in_X5_keepNet sl_X5_keepNet kt_136 rfl rfl rfl (Nat.le_of_ble_eq_true rfl) rfl (Nat.le_of_ble_eq_true rfl) rfl (m_mono (fun r g15 hr => ?_) h)
      obtain ⟨rfl, h⟩ := hr
      show Zm w (d + 3) mX5_findNet 182 [some (aR (some (136))), some (aI (x1)), some (aI (x2)), some (aI (x3)), some (aI (z13))] [] g15 P
      refine z_iinc dX5_findNet_182 rfl (by decide) rfl ?_
      show Zm w (d + 3) mX5_findNet 185 [some (aR (some (136))), some (aI (x1)), some (aI (x2)), some (aI (x3 + 1)), some (aI (z13))] [] g15 P
      refine z_goto (tgt := 73) dX5_findNet_185 (by decide) ?_
      exact z_weak (by simp [lle]) h
theorem dX5_keepNet_0 : decode cX5_keepNet 0 = .ok (.aload_n 0, 1) := by decide +kernel
theorem dX5_keepNet_1 : decode cX5_keepNet 1 = .ok (.iload_n 1, 1) := by decide +kernel
theorem dX5_keepNet_2 : decode cX5_keepNet 2 = .ok (.putfield 32, 3) := by decide +kernel
theorem dX5_keepNet_5 : decode cX5_keepNet 5 = .ok (.aload_n 0, 1) := by decide +kernel
theorem dX5_keepNet_6 : decode cX5_keepNet 6 = .ok (.getfield 25, 3) := by decide +kernel
theorem dX5_keepNet_9 : decode cX5_keepNet 9 = .ok (.iconst 0, 1) := by decide +kernel
theorem dX5_keepNet_10 : decode cX5_keepNet 10 = .ok (.iload_n 2, 1) := by decide +kernel
theorem dX5_keepNet_11 : decode cX5_keepNet 11 = .ok (.iastore, 1) := by decide +kernel
theorem dX5_keepNet_12 : decode cX5_keepNet 12 = .ok (.aload_n 0, 1) := by decide +kernel
theorem dX5_keepNet_13 : decode cX5_keepNet 13 = .ok (.getfield 25, 3) := by decide +kernel
theorem dX5_keepNet_16 : decode cX5_keepNet 16 = .ok (.iconst 1, 1) := by decide +kernel
theorem dX5_keepNet_17 : decode cX5_keepNet 17 = .ok (.iload_n 3, 1) := by decide +kernel
theorem dX5_keepNet_18 : decode cX5_keepNet 18 = .ok (.iastore, 1) := by decide +kernel
theorem dX5_keepNet_19 : decode cX5_keepNet 19 = .ok (.return_, 1) := by decide +kernel
set_option maxRecDepth 4000 in
theorem s_X5_keepNet_0 {w : GX} {d : Nat} {P : PN} {g : GI} (x1 : Int) (x2 : Int) (x3 : Int)
    (h : (∀ g1 : GI, g1 = up2 g 136 6 x1 → (∀ g2 : GI, g2 = up2 g1 148 (nm 0).toNat x2 → (∀ g3 : GI, g3 = up2 g2 148 (nm 1).toNat x3 → P none g3)))) :
    Zm w d mX5_keepNet 0 [some (aR (some (136))), some (aI (x1)), some (aI (x2)), some (aI (x3))] [] g P := by
  refine z_aload_n dX5_keepNet_0 rfl rfl ?_
  refine z_iload_n dX5_keepNet_1 rfl rfl ?_
  replace h := h _ rfl
  refine z_putI dX5_keepNet_2 fw_X5_32 (by decide) kt_136 ?_
  refine z_aload_n dX5_keepNet_5 rfl rfl ?_
  refine m_getR dX5_keepNet_6 fl_X5_25 (by decide) kt_136 rv_136_4 ?_
  refine z_iconst dX5_keepNet_9 ?_
  refine z_iload_n dX5_keepNet_10 rfl rfl ?_
  replace h := h _ rfl
  refine m_iast dX5_keepNet_11 kv_148 (by decide) (by decide) ?_
  refine z_aload_n dX5_keepNet_12 rfl rfl ?_
  refine m_getR dX5_keepNet_13 fl_X5_25 (by decide) kt_136 rv_136_4 ?_
  refine z_iconst dX5_keepNet_16 ?_
  refine z_iload_n dX5_keepNet_17 rfl rfl ?_
  replace h := h _ rfl
  refine m_iast dX5_keepNet_18 kv_148 (by decide) (by decide) ?_
  exact m_vret dX5_keepNet_19 rfl h
theorem dX10_type_0 : decode cX10_type 0 = .ok (.iload_n 1, 1) := by decide +kernel
theorem dX10_type_1 : decode cX10_type 1 = .ok (.iconst 2, 1) := by decide +kernel
theorem dX10_type_2 : decode cX10_type 2 = .ok (.invokestatic 90, 3) := by decide +kernel
theorem dX10_type_5 : decode cX10_type 5 = .ok (.ifCond .eq 13, 3) := by decide +kernel
theorem dX10_type_8 : decode cX10_type 8 = .ok (.iload_n 2, 1) := by decide +kernel
theorem dX10_type_9 : decode cX10_type 9 = .ok (.sipush 256, 3) := by decide +kernel
theorem dX10_type_12 : decode cX10_type 12 = .ok (.invokestatic 90, 3) := by decide +kernel
theorem dX10_type_15 : decode cX10_type 15 = .ok (.ifCond .ne 6, 3) := by decide +kernel
theorem dX10_type_18 : decode cX10_type 18 = .ok (.bipush (-2), 2) := by decide +kernel
theorem dX10_type_20 : decode cX10_type 20 = .ok (.ireturn, 1) := by decide +kernel
theorem dX10_type_21 : decode cX10_type 21 = .ok (.aload_n 0, 1) := by decide +kernel
theorem dX10_type_22 : decode cX10_type 22 = .ok (.iconst 1, 1) := by decide +kernel
theorem dX10_type_23 : decode cX10_type 23 = .ok (.putfield 84, 3) := by decide +kernel
theorem dX10_type_26 : decode cX10_type 26 = .ok (.aload_n 0, 1) := by decide +kernel
theorem dX10_type_27 : decode cX10_type 27 = .ok (.getfield 11, 3) := by decide +kernel
theorem dX10_type_30 : decode cX10_type 30 = .ok (.iload_n 1, 1) := by decide +kernel
theorem dX10_type_31 : decode cX10_type 31 = .ok (.aaload, 1) := by decide +kernel
theorem dX10_type_32 : decode cX10_type 32 = .ok (.iload_n 2, 1) := by decide +kernel
theorem dX10_type_33 : decode cX10_type 33 = .ok (.invokevirtual 94, 3) := by decide +kernel
theorem dX10_type_36 : decode cX10_type 36 = .ok (.ireturn, 1) := by decide +kernel
set_option maxRecDepth 4000 in
theorem s_X10_type_0 {w : GX} {d : Nat} {P : PN} {g : GI} (x1 : Int) (x2 : Int)
    (h : (((nm (wi (x1) (2)) = 0 → P (some (aI ((-2)))) g) ∧ (¬ nm (wi (x1) (2)) = 0 → (((¬ nm (wi (x2) (256)) = 0 → (∀ g3 : GI, g3 = up2 g 0 12 1 → (0 ≤ nm x1 ∧ nm x1 < 2 ∧ Zm w d mX7_put 0 [some (aR (some (216 + 2 * (nm x1).toNat))), some (aI (x2))] [] g3 (fun r g7 => ∃ z8 : Int, r = some (aI z8) ∧ P (some (aI (z8))) g7)))) ∧ (nm (wi (x2) (256)) = 0 → P (some (aI ((-2)))) g))))))) :
    Zm w (d + 1) mX10_type 0 [some (aR (some (0))), some (aI (x1)), some (aI (x2))] [] g P := by
  refine z_iload_n dX10_type_0 rfl rfl ?_
  refine z_iconst dX10_type_1 ?_
  refine m_callS (as := [aI (x1), aI (2)]) dX10_type_2 lk_X10_90 mok_X10_within st_X10_within rfl (Nat.le_of_ble_eq_true rfl) rfl (Nat.le_of_ble_eq_true rfl) rfl (c_X10_within  ?_)
  show Zm w (d + 1) mX10_type 5 [some (aR (some (0))), some (aI (x1)), some (aI (x2))] [aI (wi (x1) (2))] g P
  refine z_if_eq (tgt := 18) dX10_type_5 (by decide) (fun c1 => ?_) (fun c1 => ?_)
  · replace h := h.1 c1
    refine z_bipush dX10_type_18 rfl ?_
    exact m_iret dX10_type_20 rfl h
  · replace h := h.2 c1
    refine z_iload_n dX10_type_8 rfl rfl ?_
    refine z_sipush dX10_type_9 rfl ?_
    refine m_callS (as := [aI (x2), aI (256)]) dX10_type_12 lk_X10_90 mok_X10_within st_X10_within rfl (Nat.le_of_ble_eq_true rfl) rfl (Nat.le_of_ble_eq_true rfl) rfl (c_X10_within  ?_)
    show Zm w (d + 1) mX10_type 15 [some (aR (some (0))), some (aI (x1)), some (aI (x2))] [aI (wi (x2) (256))] g P
    refine z_if_ne (tgt := 21) dX10_type_15 (by decide) (fun c2 => ?_) (fun c2 => ?_)
    · replace h := h.1 c2
      refine z_aload_n dX10_type_21 rfl rfl ?_
      refine z_iconst dX10_type_22 ?_
      replace h := h _ rfl
      refine z_putZ dX10_type_23 fw_X10_84 (by decide) kt_0 (by decide) ?_
      refine z_aload_n dX10_type_26 rfl rfl ?_
      refine m_getR dX10_type_27 fl_X10_11 (by decide) kt_0 rv_0_0 ?_
      refine z_iload_n dX10_type_30 rfl rfl ?_
      obtain ⟨q4, q5, h⟩ := h
      have t6 : (nm x1).toNat < 2 := by omega
      refine m_aaldv dX10_type_31 kv_1 q4 q5 (w_texts _ t6) ?_
      refine z_iload_n dX10_type_32 rfl rfl ?_
      refine m_callV (as := [aI (x2)]) dX10_type_33 lk_X10_94 mok_X7_put in_X7_put sl_X7_put (congrArg Prod.fst (isT_at _ t6).1) rfl rfl rfl (Nat.le_of_ble_eq_true rfl) rfl (Nat.le_of_ble_eq_true rfl) rfl (m_mono (fun r g7 hr => ?_) h)
      obtain ⟨z8, rfl, h⟩ := hr
      show Zm w (d + 1) mX10_type 36 [some (aR (some (0))), some (aI (x1)), some (aI (x2))] [aI (z8)] g7 P
      exact m_iret dX10_type_36 rfl h
    · replace h := h.2 (Decidable.not_not.mp c2)
      refine z_bipush dX10_type_18 rfl ?_
      exact m_iret dX10_type_20 rfl h
theorem dX10_wipe_0 : decode cX10_wipe 0 = .ok (.iload_n 1, 1) := by decide +kernel
theorem dX10_wipe_1 : decode cX10_wipe 1 = .ok (.iconst 2, 1) := by decide +kernel
theorem dX10_wipe_2 : decode cX10_wipe 2 = .ok (.invokestatic 90, 3) := by decide +kernel
theorem dX10_wipe_5 : decode cX10_wipe 5 = .ok (.ifCond .ne 6, 3) := by decide +kernel
theorem dX10_wipe_8 : decode cX10_wipe 8 = .ok (.bipush (-2), 2) := by decide +kernel
theorem dX10_wipe_10 : decode cX10_wipe 10 = .ok (.ireturn, 1) := by decide +kernel
theorem dX10_wipe_11 : decode cX10_wipe 11 = .ok (.aload_n 0, 1) := by decide +kernel
theorem dX10_wipe_12 : decode cX10_wipe 12 = .ok (.iconst 1, 1) := by decide +kernel
theorem dX10_wipe_13 : decode cX10_wipe 13 = .ok (.putfield 84, 3) := by decide +kernel
theorem dX10_wipe_16 : decode cX10_wipe 16 = .ok (.aload_n 0, 1) := by decide +kernel
theorem dX10_wipe_17 : decode cX10_wipe 17 = .ok (.getfield 11, 3) := by decide +kernel
theorem dX10_wipe_20 : decode cX10_wipe 20 = .ok (.iload_n 1, 1) := by decide +kernel
theorem dX10_wipe_21 : decode cX10_wipe 21 = .ok (.aaload, 1) := by decide +kernel
theorem dX10_wipe_22 : decode cX10_wipe 22 = .ok (.getfield 98, 3) := by decide +kernel
theorem dX10_wipe_25 : decode cX10_wipe 25 = .ok (.istore_n 2, 1) := by decide +kernel
theorem dX10_wipe_26 : decode cX10_wipe 26 = .ok (.aload_n 0, 1) := by decide +kernel
theorem dX10_wipe_27 : decode cX10_wipe 27 = .ok (.getfield 11, 3) := by decide +kernel
theorem dX10_wipe_30 : decode cX10_wipe 30 = .ok (.iload_n 1, 1) := by decide +kernel
theorem dX10_wipe_31 : decode cX10_wipe 31 = .ok (.aaload, 1) := by decide +kernel
theorem dX10_wipe_32 : decode cX10_wipe 32 = .ok (.iconst 0, 1) := by decide +kernel
theorem dX10_wipe_33 : decode cX10_wipe 33 = .ok (.putfield 98, 3) := by decide +kernel
theorem dX10_wipe_36 : decode cX10_wipe 36 = .ok (.iload_n 2, 1) := by decide +kernel
theorem dX10_wipe_37 : decode cX10_wipe 37 = .ok (.ireturn, 1) := by decide +kernel
set_option maxRecDepth 4000 in
theorem s_X10_wipe_0 {w : GX} {d : Nat} {P : PN} {g : GI} (x1 : Int)
    (h : (((¬ nm (wi (x1) (2)) = 0 → (∀ g2 : GI, g2 = up2 g 0 12 1 → (0 ≤ nm x1 ∧ nm x1 < 2 ∧ (∀ v6 : Int, v6 = g2 (216 + 2 * (nm x1).toNat) 1 → ((∀ g8 : GI, g8 = up2 g2 (216 + 2 * (nm x1).toNat) 1 0 → P (some (aI (v6))) g8)))))) ∧ (nm (wi (x1) (2)) = 0 → P (some (aI ((-2)))) g)))) :
    Zm w (d + 1) mX10_wipe 0 [some (aR (some (0))), some (aI (x1)), none] [] g P := by
  refine z_iload_n dX10_wipe_0 rfl rfl ?_
  refine z_iconst dX10_wipe_1 ?_
  refine m_callS (as := [aI (x1), aI (2)]) dX10_wipe_2 lk_X10_90 mok_X10_within st_X10_within rfl (Nat.le_of_ble_eq_true rfl) rfl (Nat.le_of_ble_eq_true rfl) rfl (c_X10_within  ?_)
  show Zm w (d + 1) mX10_wipe 5 [some (aR (some (0))), some (aI (x1)), none] [aI (wi (x1) (2))] g P
  refine z_if_ne (tgt := 11) dX10_wipe_5 (by decide) (fun c1 => ?_) (fun c1 => ?_)
  · replace h := h.1 c1
    refine z_aload_n dX10_wipe_11 rfl rfl ?_
    refine z_iconst dX10_wipe_12 ?_
    replace h := h _ rfl
    refine z_putZ dX10_wipe_13 fw_X10_84 (by decide) kt_0 (by decide) ?_
    refine z_aload_n dX10_wipe_16 rfl rfl ?_
    refine m_getR dX10_wipe_17 fl_X10_11 (by decide) kt_0 rv_0_0 ?_
    refine z_iload_n dX10_wipe_20 rfl rfl ?_
    obtain ⟨q3, q4, h⟩ := h
    have t5 : (nm x1).toNat < 2 := by omega
    refine m_aaldv dX10_wipe_21 kv_1 q3 q4 (w_texts _ t5) ?_
    refine z_getI dX10_wipe_22 fl_X10_98 (by decide) (congrArg Prod.fst (isT_at _ t5).1) ?_
    replace h := h _ rfl
    refine z_istore_n dX10_wipe_25 rfl (by decide) rfl ?_
    show Zm w (d + 1) mX10_wipe 26 [some (aR (some (0))), some (aI (x1)), some (aI ((up2 g 0 12 1) (216 + 2 * (nm x1).toNat) 1))] [] (up2 g 0 12 1) P
    refine z_aload_n dX10_wipe_26 rfl rfl ?_
    refine m_getR dX10_wipe_27 fl_X10_11 (by decide) kt_0 rv_0_0 ?_
    refine z_iload_n dX10_wipe_30 rfl rfl ?_
    have t7 : (nm x1).toNat < 2 := by omega
    refine m_aaldv dX10_wipe_31 kv_1 q3 q4 (w_texts _ t7) ?_
    refine z_iconst dX10_wipe_32 ?_
    replace h := h _ rfl
    refine z_putI dX10_wipe_33 fw_X10_98 (by decide) (congrArg Prod.fst (isT_at _ t7).1) ?_
    refine z_iload_n dX10_wipe_36 rfl rfl ?_
    exact m_iret dX10_wipe_37 rfl h
  · replace h := h.2 (Decidable.not_not.mp c1)
    refine z_bipush dX10_wipe_8 rfl ?_
    exact m_iret dX10_wipe_10 rfl h
theorem dX10_undo_0 : decode cX10_undo 0 = .ok (.iload_n 1, 1) := by decide +kernel
theorem dX10_undo_1 : decode cX10_undo 1 = .ok (.iconst 2, 1) := by decide +kernel
theorem dX10_undo_2 : decode cX10_undo 2 = .ok (.invokestatic 90, 3) := by decide +kernel
theorem dX10_undo_5 : decode cX10_undo 5 = .ok (.ifCond .ne 6, 3) := by decide +kernel
theorem dX10_undo_8 : decode cX10_undo 8 = .ok (.bipush (-2), 2) := by decide +kernel
theorem dX10_undo_10 : decode cX10_undo 10 = .ok (.ireturn, 1) := by decide +kernel
theorem dX10_undo_11 : decode cX10_undo 11 = .ok (.aload_n 0, 1) := by decide +kernel
theorem dX10_undo_12 : decode cX10_undo 12 = .ok (.iconst 1, 1) := by decide +kernel
theorem dX10_undo_13 : decode cX10_undo 13 = .ok (.putfield 84, 3) := by decide +kernel
theorem dX10_undo_16 : decode cX10_undo 16 = .ok (.aload_n 0, 1) := by decide +kernel
theorem dX10_undo_17 : decode cX10_undo 17 = .ok (.getfield 11, 3) := by decide +kernel
theorem dX10_undo_20 : decode cX10_undo 20 = .ok (.iload_n 1, 1) := by decide +kernel
theorem dX10_undo_21 : decode cX10_undo 21 = .ok (.aaload, 1) := by decide +kernel
theorem dX10_undo_22 : decode cX10_undo 22 = .ok (.invokevirtual 101, 3) := by decide +kernel
theorem dX10_undo_25 : decode cX10_undo 25 = .ok (.ireturn, 1) := by decide +kernel
set_option maxRecDepth 4000 in
theorem s_X10_undo_0 {w : GX} {d : Nat} {P : PN} {g : GI} (x1 : Int)
    (h : (((¬ nm (wi (x1) (2)) = 0 → (∀ g2 : GI, g2 = up2 g 0 12 1 → (0 ≤ nm x1 ∧ nm x1 < 2 ∧ Zm w d mX7_dropLast 0 [some (aR (some (216 + 2 * (nm x1).toNat)))] [] g2 (fun r g6 => ∃ z7 : Int, r = some (aI z7) ∧ P (some (aI (z7))) g6)))) ∧ (nm (wi (x1) (2)) = 0 → P (some (aI ((-2)))) g)))) :
    Zm w (d + 1) mX10_undo 0 [some (aR (some (0))), some (aI (x1))] [] g P := by
  refine z_iload_n dX10_undo_0 rfl rfl ?_
  refine z_iconst dX10_undo_1 ?_
  refine m_callS (as := [aI (x1), aI (2)]) dX10_undo_2 lk_X10_90 mok_X10_within st_X10_within rfl (Nat.le_of_ble_eq_true rfl) rfl (Nat.le_of_ble_eq_true rfl) rfl (c_X10_within  ?_)
  show Zm w (d + 1) mX10_undo 5 [some (aR (some (0))), some (aI (x1))] [aI (wi (x1) (2))] g P
  refine z_if_ne (tgt := 11) dX10_undo_5 (by decide) (fun c1 => ?_) (fun c1 => ?_)
  · replace h := h.1 c1
    refine z_aload_n dX10_undo_11 rfl rfl ?_
    refine z_iconst dX10_undo_12 ?_
    replace h := h _ rfl
    refine z_putZ dX10_undo_13 fw_X10_84 (by decide) kt_0 (by decide) ?_
    refine z_aload_n dX10_undo_16 rfl rfl ?_
    refine m_getR dX10_undo_17 fl_X10_11 (by decide) kt_0 rv_0_0 ?_
    refine z_iload_n dX10_undo_20 rfl rfl ?_
    obtain ⟨q3, q4, h⟩ := h
    have t5 : (nm x1).toNat < 2 := by omega
    refine m_aaldv dX10_undo_21 kv_1 q3 q4 (w_texts _ t5) ?_
    refine m_callV (as := []) dX10_undo_22 lk_X10_101 mok_X7_dropLast in_X7_dropLast sl_X7_dropLast (congrArg Prod.fst (isT_at _ t5).1) rfl rfl rfl (Nat.le_of_ble_eq_true rfl) rfl (Nat.le_of_ble_eq_true rfl) rfl (m_mono (fun r g6 hr => ?_) h)
    obtain ⟨z7, rfl, h⟩ := hr
    show Zm w (d + 1) mX10_undo 25 [some (aR (some (0))), some (aI (x1))] [aI (z7)] g6 P
    exact m_iret dX10_undo_25 rfl h
  · replace h := h.2 (Decidable.not_not.mp c1)
    refine z_bipush dX10_undo_8 rfl ?_
    exact m_iret dX10_undo_10 rfl h
theorem dX10_fault_0 : decode cX10_fault 0 = .ok (.iload_n 1, 1) := by decide +kernel
theorem dX10_fault_1 : decode cX10_fault 1 = .ok (.iconst 2, 1) := by decide +kernel
theorem dX10_fault_2 : decode cX10_fault 2 = .ok (.invokestatic 90, 3) := by decide +kernel
theorem dX10_fault_5 : decode cX10_fault 5 = .ok (.ifCond .ne 6, 3) := by decide +kernel
theorem dX10_fault_8 : decode cX10_fault 8 = .ok (.bipush (-2), 2) := by decide +kernel
theorem dX10_fault_10 : decode cX10_fault 10 = .ok (.ireturn, 1) := by decide +kernel
theorem dX10_fault_11 : decode cX10_fault 11 = .ok (.iload_n 1, 1) := by decide +kernel
theorem dX10_fault_12 : decode cX10_fault 12 = .ok (.ifCond .ne 15, 3) := by decide +kernel
theorem dX10_fault_15 : decode cX10_fault 15 = .ok (.aload_n 0, 1) := by decide +kernel
theorem dX10_fault_16 : decode cX10_fault 16 = .ok (.getfield 11, 3) := by decide +kernel
theorem dX10_fault_19 : decode cX10_fault 19 = .ok (.iconst 0, 1) := by decide +kernel
theorem dX10_fault_20 : decode cX10_fault 20 = .ok (.aaload, 1) := by decide +kernel
theorem dX10_fault_21 : decode cX10_fault 21 = .ok (.invokevirtual 105, 3) := by decide +kernel
theorem dX10_fault_24 : decode cX10_fault 24 = .ok (.goto 12, 3) := by decide +kernel
theorem dX10_fault_27 : decode cX10_fault 27 = .ok (.aload_n 0, 1) := by decide +kernel
theorem dX10_fault_28 : decode cX10_fault 28 = .ok (.getfield 11, 3) := by decide +kernel
theorem dX10_fault_31 : decode cX10_fault 31 = .ok (.iconst 1, 1) := by decide +kernel
theorem dX10_fault_32 : decode cX10_fault 32 = .ok (.aaload, 1) := by decide +kernel
theorem dX10_fault_33 : decode cX10_fault 33 = .ok (.invokevirtual 108, 3) := by decide +kernel
theorem dX10_fault_36 : decode cX10_fault 36 = .ok (.ireturn, 1) := by decide +kernel
set_option maxRecDepth 4000 in
theorem s_X10_fault_0 {w : GX} {d : Nat} {P : PN} {g : GI} (x1 : Int)
    (h : (((¬ nm (wi (x1) (2)) = 0 → ((¬ nm x1 = 0 → Zm w (d + 2) mX7_peopleFault 0 [some (aR (some (218))), none] [] g (fun r g3 => ∃ z4 : Int, r = some (aI z4) ∧ P (some (aI (z4))) g3)) ∧ (nm x1 = 0 → Zm w (d + 2) mX7_riverFault 0 [some (aR (some (216))), none] [] g (fun r g5 => ∃ z6 : Int, r = some (aI z6) ∧ P (some (aI (z6))) g5)))) ∧ (nm (wi (x1) (2)) = 0 → P (some (aI ((-2)))) g)))) :
    Zm w (d + 3) mX10_fault 0 [some (aR (some (0))), some (aI (x1))] [] g P := by
  refine z_iload_n dX10_fault_0 rfl rfl ?_
  refine z_iconst dX10_fault_1 ?_
  refine m_callS (as := [aI (x1), aI (2)]) dX10_fault_2 lk_X10_90 mok_X10_within st_X10_within rfl (Nat.le_of_ble_eq_true rfl) rfl (Nat.le_of_ble_eq_true rfl) rfl (c_X10_within  ?_)
  show Zm w (d + 3) mX10_fault 5 [some (aR (some (0))), some (aI (x1))] [aI (wi (x1) (2))] g P
  refine z_if_ne (tgt := 11) dX10_fault_5 (by decide) (fun c1 => ?_) (fun c1 => ?_)
  · replace h := h.1 c1
    refine z_iload_n dX10_fault_11 rfl rfl ?_
    refine z_if_ne (tgt := 27) dX10_fault_12 (by decide) (fun c2 => ?_) (fun c2 => ?_)
    · replace h := h.1 c2
      refine z_aload_n dX10_fault_27 rfl rfl ?_
      refine m_getR dX10_fault_28 fl_X10_11 (by decide) kt_0 rv_0_0 ?_
      refine z_iconst dX10_fault_31 ?_
      refine m_aaldv (r := 218) dX10_fault_32 kv_1 (by decide) (by decide) (by decide +kernel) ?_
      refine m_callV (as := []) dX10_fault_33 lk_X10_108 mok_X7_peopleFault in_X7_peopleFault sl_X7_peopleFault kt_218 rfl rfl rfl (Nat.le_of_ble_eq_true rfl) rfl (Nat.le_of_ble_eq_true rfl) rfl (m_mono (fun r g3 hr => ?_) h)
      obtain ⟨z4, rfl, h⟩ := hr
      show Zm w (d + 3) mX10_fault 36 [some (aR (some (0))), some (aI (x1))] [aI (z4)] g3 P
      exact m_iret dX10_fault_36 rfl h
    · replace h := h.2 (Decidable.not_not.mp c2)
      refine z_aload_n dX10_fault_15 rfl rfl ?_
      refine m_getR dX10_fault_16 fl_X10_11 (by decide) kt_0 rv_0_0 ?_
      refine z_iconst dX10_fault_19 ?_
      refine m_aaldv (r := 216) dX10_fault_20 kv_1 (by decide) (by decide) (by decide +kernel) ?_
      refine m_callV (as := []) dX10_fault_21 lk_X10_105 mok_X7_riverFault in_X7_riverFault sl_X7_riverFault kt_216 rfl rfl rfl (Nat.le_of_ble_eq_true rfl) rfl (Nat.le_of_ble_eq_true rfl) rfl (m_mono (fun r g5 hr => ?_) h)
      obtain ⟨z6, rfl, h⟩ := hr
      show Zm w (d + 3) mX10_fault 24 [some (aR (some (0))), some (aI (x1))] [aI (z6)] g5 P
      refine z_goto (tgt := 36) dX10_fault_24 (by decide) ?_
      exact m_iret dX10_fault_36 rfl h
  · replace h := h.2 (Decidable.not_not.mp c1)
    refine z_bipush dX10_fault_8 rfl ?_
    exact m_iret dX10_fault_10 rfl h
theorem dX10_cell_0 : decode cX10_cell 0 = .ok (.iload_n 1, 1) := by decide +kernel
theorem dX10_cell_1 : decode cX10_cell 1 = .ok (.bipush 20, 2) := by decide +kernel
theorem dX10_cell_3 : decode cX10_cell 3 = .ok (.invokestatic 90, 3) := by decide +kernel
theorem dX10_cell_6 : decode cX10_cell 6 = .ok (.ifCond .ne 6, 3) := by decide +kernel
theorem dX10_cell_9 : decode cX10_cell 9 = .ok (.bipush (-2), 2) := by decide +kernel
theorem dX10_cell_11 : decode cX10_cell 11 = .ok (.ireturn, 1) := by decide +kernel
theorem dX10_cell_12 : decode cX10_cell 12 = .ok (.aload_n 0, 1) := by decide +kernel
theorem dX10_cell_13 : decode cX10_cell 13 = .ok (.invokevirtual 111, 3) := by decide +kernel
theorem dX10_cell_16 : decode cX10_cell 16 = .ok (.iload_n 1, 1) := by decide +kernel
theorem dX10_cell_17 : decode cX10_cell 17 = .ok (.aload_n 0, 1) := by decide +kernel
theorem dX10_cell_18 : decode cX10_cell 18 = .ok (.getfield 36, 3) := by decide +kernel
theorem dX10_cell_21 : decode cX10_cell 21 = .ok (.getfield 114, 3) := by decide +kernel
theorem dX10_cell_24 : decode cX10_cell 24 = .ok (.if_icmp .ge 15, 3) := by decide +kernel
theorem dX10_cell_27 : decode cX10_cell 27 = .ok (.aload_n 0, 1) := by decide +kernel
theorem dX10_cell_28 : decode cX10_cell 28 = .ok (.getfield 36, 3) := by decide +kernel
theorem dX10_cell_31 : decode cX10_cell 31 = .ok (.getfield 117, 3) := by decide +kernel
theorem dX10_cell_34 : decode cX10_cell 34 = .ok (.iload_n 1, 1) := by decide +kernel
theorem dX10_cell_35 : decode cX10_cell 35 = .ok (.iaload, 1) := by decide +kernel
theorem dX10_cell_36 : decode cX10_cell 36 = .ok (.goto 4, 3) := by decide +kernel
theorem dX10_cell_39 : decode cX10_cell 39 = .ok (.iconst (-1), 1) := by decide +kernel
theorem dX10_cell_40 : decode cX10_cell 40 = .ok (.ireturn, 1) := by decide +kernel
set_option maxRecDepth 4000 in
theorem s_X10_cell_0 {w : GX} {d : Nat} {P : PN} {g : GI} (x1 : Int)
    (h : (((¬ nm (wi (x1) (20)) = 0 → Zm w (d + 4) mX10_settle 0 [some (aR (some (0)))] [] g (fun r g2 => r = none ∧ ((¬ nm x1 < nm (g2 18 8) → P (some (aI ((-1)))) g2) ∧ (nm x1 < nm (g2 18 8) → (0 ≤ nm x1 ∧ nm x1 < 20 ∧ P (some (aI (g2 19 (nm x1).toNat))) g2))))) ∧ (nm (wi (x1) (20)) = 0 → P (some (aI ((-2)))) g)))) :
    Zm w (d + 5) mX10_cell 0 [some (aR (some (0))), some (aI (x1))] [] g P := by
  refine z_iload_n dX10_cell_0 rfl rfl ?_
  refine z_bipush dX10_cell_1 rfl ?_
  refine m_callS (as := [aI (x1), aI (20)]) dX10_cell_3 lk_X10_90 mok_X10_within st_X10_within rfl (Nat.le_of_ble_eq_true rfl) rfl (Nat.le_of_ble_eq_true rfl) rfl (c_X10_within  ?_)
  show Zm w (d + 5) mX10_cell 6 [some (aR (some (0))), some (aI (x1))] [aI (wi (x1) (20))] g P
  refine z_if_ne (tgt := 12) dX10_cell_6 (by decide) (fun c1 => ?_) (fun c1 => ?_)
  · replace h := h.1 c1
    refine z_aload_n dX10_cell_12 rfl rfl ?_
    refine m_callV (as := []) dX10_cell_13 lk_X10_111 mok_X10_settle in_X10_settle sl_X10_settle kt_0 rfl rfl rfl (Nat.le_of_ble_eq_true rfl) rfl (Nat.le_of_ble_eq_true rfl) rfl (m_mono (fun r g2 hr => ?_) h)
    obtain ⟨rfl, h⟩ := hr
    show Zm w (d + 5) mX10_cell 16 [some (aR (some (0))), some (aI (x1))] [] g2 P
    refine z_iload_n dX10_cell_16 rfl rfl ?_
    refine z_aload_n dX10_cell_17 rfl rfl ?_
    refine m_getR dX10_cell_18 fl_X10_36 (by decide) kt_0 rv_0_5 ?_
    refine z_getI dX10_cell_21 fl_X10_114 (by decide) kt_18 ?_
    refine z_icmp_ge (tgt := 39) dX10_cell_24 (by decide) (fun c4 => ?_) (fun c4 => ?_)
    · replace h := h.1 c4
      refine z_iconst dX10_cell_39 ?_
      exact m_iret dX10_cell_40 rfl h
    · replace h := h.2 (Decidable.not_not.mp c4)
      refine z_aload_n dX10_cell_27 rfl rfl ?_
      refine m_getR dX10_cell_28 fl_X10_36 (by decide) kt_0 rv_0_5 ?_
      refine m_getR dX10_cell_31 fl_X10_117 (by decide) kt_18 rv_18_0 ?_
      refine z_iload_n dX10_cell_34 rfl rfl ?_
      obtain ⟨q7, q8, h⟩ := h
      refine m_iald dX10_cell_35 kv_19 q7 q8 ?_
      refine z_goto (tgt := 40) dX10_cell_36 (by decide) ?_
      exact m_iret dX10_cell_40 rfl h
  · replace h := h.2 (Decidable.not_not.mp c1)
    refine z_bipush dX10_cell_9 rfl ?_
    exact m_iret dX10_cell_11 rfl h
theorem dX10_person_0 : decode cX10_person 0 = .ok (.aload_n 0, 1) := by decide +kernel
theorem dX10_person_1 : decode cX10_person 1 = .ok (.invokevirtual 111, 3) := by decide +kernel
theorem dX10_person_4 : decode cX10_person 4 = .ok (.aload_n 0, 1) := by decide +kernel
theorem dX10_person_5 : decode cX10_person 5 = .ok (.iload_n 1, 1) := by decide +kernel
theorem dX10_person_6 : decode cX10_person 6 = .ok (.invokevirtual 121, 3) := by decide +kernel
theorem dX10_person_9 : decode cX10_person 9 = .ok (.ifCond .eq 11, 3) := by decide +kernel
theorem dX10_person_12 : decode cX10_person 12 = .ok (.iload_n 2, 1) := by decide +kernel
theorem dX10_person_13 : decode cX10_person 13 = .ok (.iconst 4, 1) := by decide +kernel
theorem dX10_person_14 : decode cX10_person 14 = .ok (.invokestatic 90, 3) := by decide +kernel
theorem dX10_person_17 : decode cX10_person 17 = .ok (.ifCond .ne 6, 3) := by decide +kernel
theorem dX10_person_20 : decode cX10_person 20 = .ok (.bipush (-2), 2) := by decide +kernel
theorem dX10_person_22 : decode cX10_person 22 = .ok (.ireturn, 1) := by decide +kernel
theorem dX10_person_23 : decode cX10_person 23 = .ok (.aload_n 0, 1) := by decide +kernel
theorem dX10_person_24 : decode cX10_person 24 = .ok (.getfield 36, 3) := by decide +kernel
theorem dX10_person_27 : decode cX10_person 27 = .ok (.getfield 125, 3) := by decide +kernel
theorem dX10_person_30 : decode cX10_person 30 = .ok (.iload_n 1, 1) := by decide +kernel
theorem dX10_person_31 : decode cX10_person 31 = .ok (.iadd, 1) := by decide +kernel
theorem dX10_person_32 : decode cX10_person 32 = .ok (.istore_n 3, 1) := by decide +kernel
theorem dX10_person_33 : decode cX10_person 33 = .ok (.iload_n 2, 1) := by decide +kernel
theorem dX10_person_34 : decode cX10_person 34 = .ok (.tableswitch 56 0 2 #[26, 36, 46], 26) := by decide +kernel
theorem dX10_person_60 : decode cX10_person 60 = .ok (.aload_n 0, 1) := by decide +kernel
theorem dX10_person_61 : decode cX10_person 61 = .ok (.getfield 36, 3) := by decide +kernel
theorem dX10_person_64 : decode cX10_person 64 = .ok (.getfield 128, 3) := by decide +kernel
theorem dX10_person_67 : decode cX10_person 67 = .ok (.iload_n 3, 1) := by decide +kernel
theorem dX10_person_68 : decode cX10_person 68 = .ok (.iaload, 1) := by decide +kernel
theorem dX10_person_69 : decode cX10_person 69 = .ok (.ireturn, 1) := by decide +kernel
theorem dX10_person_70 : decode cX10_person 70 = .ok (.aload_n 0, 1) := by decide +kernel
theorem dX10_person_71 : decode cX10_person 71 = .ok (.getfield 36, 3) := by decide +kernel
theorem dX10_person_74 : decode cX10_person 74 = .ok (.getfield 131, 3) := by decide +kernel
theorem dX10_person_77 : decode cX10_person 77 = .ok (.iload_n 3, 1) := by decide +kernel
theorem dX10_person_78 : decode cX10_person 78 = .ok (.iaload, 1) := by decide +kernel
theorem dX10_person_79 : decode cX10_person 79 = .ok (.ireturn, 1) := by decide +kernel
theorem dX10_person_80 : decode cX10_person 80 = .ok (.aload_n 0, 1) := by decide +kernel
theorem dX10_person_81 : decode cX10_person 81 = .ok (.getfield 36, 3) := by decide +kernel
theorem dX10_person_84 : decode cX10_person 84 = .ok (.getfield 134, 3) := by decide +kernel
theorem dX10_person_87 : decode cX10_person 87 = .ok (.iload_n 1, 1) := by decide +kernel
theorem dX10_person_88 : decode cX10_person 88 = .ok (.iaload, 1) := by decide +kernel
theorem dX10_person_89 : decode cX10_person 89 = .ok (.ireturn, 1) := by decide +kernel
theorem dX10_person_90 : decode cX10_person 90 = .ok (.aload_n 0, 1) := by decide +kernel
theorem dX10_person_91 : decode cX10_person 91 = .ok (.getfield 36, 3) := by decide +kernel
theorem dX10_person_94 : decode cX10_person 94 = .ok (.getfield 137, 3) := by decide +kernel
theorem dX10_person_97 : decode cX10_person 97 = .ok (.iload_n 1, 1) := by decide +kernel
theorem dX10_person_98 : decode cX10_person 98 = .ok (.iaload, 1) := by decide +kernel
theorem dX10_person_99 : decode cX10_person 99 = .ok (.ireturn, 1) := by decide +kernel
set_option maxRecDepth 4000 in
theorem s_X10_person_0 {w : GX} {d : Nat} {P : PN} {g : GI} (x1 : Int) (x2 : Int)
    (h : Zm w (d + 4) mX10_settle 0 [some (aR (some (0)))] [] g (fun r g1 => r = none ∧ (((nm (wi (x1) (g1 18 10)) = 0 → P (some (aI ((-2)))) g1) ∧ (¬ nm (wi (x1) (g1 18 10)) = 0 → (((¬ nm (wi (x2) (4)) = 0 → (∀ v5 : Int, v5 = (g1 18 9) + x1 → ((nm x2 = 0 → (0 ≤ nm v5 ∧ nm v5 < 28 ∧ P (some (aI (g1 23 (nm v5).toNat))) g1)) ∧ (nm x2 = 1 → (0 ≤ nm v5 ∧ nm v5 < 28 ∧ P (some (aI (g1 24 (nm v5).toNat))) g1)) ∧ (nm x2 = 2 → (0 ≤ nm x1 ∧ nm x1 < 8 ∧ P (some (aI (g1 25 (nm x1).toNat))) g1)) ∧ (¬ nm x2 = 0 → ¬ nm x2 = 1 → ¬ nm x2 = 2 → (0 ≤ nm x1 ∧ nm x1 < 8 ∧ P (some (aI (g1 26 (nm x1).toNat))) g1))))) ∧ (nm (wi (x2) (4)) = 0 → P (some (aI ((-2)))) g1)))))))) :
    Zm w (d + 5) mX10_person 0 [some (aR (some (0))), some (aI (x1)), some (aI (x2)), none] [] g P := by
  refine z_aload_n dX10_person_0 rfl rfl ?_
  refine m_callV (as := []) dX10_person_1 lk_X10_111 mok_X10_settle in_X10_settle sl_X10_settle kt_0 rfl rfl rfl (Nat.le_of_ble_eq_true rfl) rfl (Nat.le_of_ble_eq_true rfl) rfl (m_mono (fun r g1 hr => ?_) h)
  obtain ⟨rfl, h⟩ := hr
  show Zm w (d + 5) mX10_person 4 [some (aR (some (0))), some (aI (x1)), some (aI (x2)), none] [] g1 P
  refine z_aload_n dX10_person_4 rfl rfl ?_
  refine z_iload_n dX10_person_5 rfl rfl ?_
  refine m_callV (as := [aI (x1)]) dX10_person_6 lk_X10_121 mok_X10_isPerson in_X10_isPerson sl_X10_isPerson kt_0 rfl rfl rfl (Nat.le_of_ble_eq_true rfl) rfl (Nat.le_of_ble_eq_true rfl) rfl (c_X10_isPerson  ?_)
  show Zm w (d + 5) mX10_person 9 [some (aR (some (0))), some (aI (x1)), some (aI (x2)), none] [aI (wi (x1) (g1 18 10))] g1 P
  refine z_if_eq (tgt := 20) dX10_person_9 (by decide) (fun c3 => ?_) (fun c3 => ?_)
  · replace h := h.1 c3
    refine z_bipush dX10_person_20 rfl ?_
    exact m_iret dX10_person_22 rfl h
  · replace h := h.2 c3
    refine z_iload_n dX10_person_12 rfl rfl ?_
    refine z_iconst dX10_person_13 ?_
    refine m_callS (as := [aI (x2), aI (4)]) dX10_person_14 lk_X10_90 mok_X10_within st_X10_within rfl (Nat.le_of_ble_eq_true rfl) rfl (Nat.le_of_ble_eq_true rfl) rfl (c_X10_within  ?_)
    show Zm w (d + 5) mX10_person 17 [some (aR (some (0))), some (aI (x1)), some (aI (x2)), none] [aI (wi (x2) (4))] g1 P
    refine z_if_ne (tgt := 23) dX10_person_17 (by decide) (fun c4 => ?_) (fun c4 => ?_)
    · replace h := h.1 c4
      refine z_aload_n dX10_person_23 rfl rfl ?_
      refine m_getR dX10_person_24 fl_X10_36 (by decide) kt_0 rv_0_5 ?_
      refine z_getI dX10_person_27 fl_X10_125 (by decide) kt_18 ?_
      refine z_iload_n dX10_person_30 rfl rfl ?_
      refine z_iadd dX10_person_31 ?_
      replace h := h _ rfl
      refine z_istore_n dX10_person_32 rfl (by decide) rfl ?_
      show Zm w (d + 5) mX10_person 33 [some (aR (some (0))), some (aI (x1)), some (aI (x2)), some (aI ((g1 18 9) + x1))] [] g1 P
      refine z_iload_n dX10_person_33 rfl rfl ?_
      refine z_tsw (df := 90) (cs := [(0, 60), (1, 70), (2, 80)]) dX10_person_34 (by decide) (by decide) (by decide) (by decide) ?_
      by_cases c6 : nm x2 = 0
      · rw [sw_c c6]
        replace h := h.1 c6
        refine z_aload_n dX10_person_60 rfl rfl ?_
        refine m_getR dX10_person_61 fl_X10_36 (by decide) kt_0 rv_0_5 ?_
        refine m_getR dX10_person_64 fl_X10_128 (by decide) kt_18 rv_18_4 ?_
        refine z_iload_n dX10_person_67 rfl rfl ?_
        obtain ⟨q9, q10, h⟩ := h
        refine m_iald dX10_person_68 kv_23 q9 q10 ?_
        exact m_iret dX10_person_69 rfl h
      rw [sw_n c6]; replace h := h.2
      by_cases c11 : nm x2 = 1
      · rw [sw_c c11]
        replace h := h.1 c11
        refine z_aload_n dX10_person_70 rfl rfl ?_
        refine m_getR dX10_person_71 fl_X10_36 (by decide) kt_0 rv_0_5 ?_
        refine m_getR dX10_person_74 fl_X10_131 (by decide) kt_18 rv_18_5 ?_
        refine z_iload_n dX10_person_77 rfl rfl ?_
        obtain ⟨q14, q15, h⟩ := h
        refine m_iald dX10_person_78 kv_24 q14 q15 ?_
        exact m_iret dX10_person_79 rfl h
      rw [sw_n c11]; replace h := h.2
      by_cases c16 : nm x2 = 2
      · rw [sw_c c16]
        replace h := h.1 c16
        refine z_aload_n dX10_person_80 rfl rfl ?_
        refine m_getR dX10_person_81 fl_X10_36 (by decide) kt_0 rv_0_5 ?_
        refine m_getR dX10_person_84 fl_X10_134 (by decide) kt_18 rv_18_6 ?_
        refine z_iload_n dX10_person_87 rfl rfl ?_
        obtain ⟨q19, q20, h⟩ := h
        refine m_iald dX10_person_88 kv_25 q19 q20 ?_
        exact m_iret dX10_person_89 rfl h
      rw [sw_n c16]; replace h := h.2
      replace h := h c6 c11 c16
      rw [sw_e]
      refine z_aload_n dX10_person_90 rfl rfl ?_
      refine m_getR dX10_person_91 fl_X10_36 (by decide) kt_0 rv_0_5 ?_
      refine m_getR dX10_person_94 fl_X10_137 (by decide) kt_18 rv_18_7 ?_
      refine z_iload_n dX10_person_97 rfl rfl ?_
      obtain ⟨q23, q24, h⟩ := h
      refine m_iald dX10_person_98 kv_26 q23 q24 ?_
      exact m_iret dX10_person_99 rfl h
    · replace h := h.2 (Decidable.not_not.mp c4)
      refine z_bipush dX10_person_20 rfl ?_
      exact m_iret dX10_person_22 rfl h
theorem dX10_wear_0 : decode cX10_wear 0 = .ok (.iload_n 1, 1) := by decide +kernel
theorem dX10_wear_1 : decode cX10_wear 1 = .ok (.iconst 1, 1) := by decide +kernel
theorem dX10_wear_2 : decode cX10_wear 2 = .ok (.if_icmp .lt 9, 3) := by decide +kernel
theorem dX10_wear_5 : decode cX10_wear 5 = .ok (.iload_n 1, 1) := by decide +kernel
theorem dX10_wear_6 : decode cX10_wear 6 = .ok (.bipush 20, 2) := by decide +kernel
theorem dX10_wear_8 : decode cX10_wear 8 = .ok (.if_icmp .le 6, 3) := by decide +kernel
theorem dX10_wear_11 : decode cX10_wear 11 = .ok (.bipush (-2), 2) := by decide +kernel
theorem dX10_wear_13 : decode cX10_wear 13 = .ok (.ireturn, 1) := by decide +kernel
theorem dX10_wear_14 : decode cX10_wear 14 = .ok (.aload_n 0, 1) := by decide +kernel
theorem dX10_wear_15 : decode cX10_wear 15 = .ok (.getfield 36, 3) := by decide +kernel
theorem dX10_wear_18 : decode cX10_wear 18 = .ok (.getfield 140, 3) := by decide +kernel
theorem dX10_wear_21 : decode cX10_wear 21 = .ok (.istore_n 2, 1) := by decide +kernel
theorem dX10_wear_22 : decode cX10_wear 22 = .ok (.aload_n 0, 1) := by decide +kernel
theorem dX10_wear_23 : decode cX10_wear 23 = .ok (.getfield 36, 3) := by decide +kernel
theorem dX10_wear_26 : decode cX10_wear 26 = .ok (.iload_n 1, 1) := by decide +kernel
theorem dX10_wear_27 : decode cX10_wear 27 = .ok (.putfield 140, 3) := by decide +kernel
theorem dX10_wear_30 : decode cX10_wear 30 = .ok (.iload_n 2, 1) := by decide +kernel
theorem dX10_wear_31 : decode cX10_wear 31 = .ok (.ireturn, 1) := by decide +kernel
set_option maxRecDepth 4000 in
theorem s_X10_wear_0 {w : GX} {d : Nat} {P : PN} {g : GI} (x1 : Int)
    (h : ((nm x1 < nm 1 → P (some (aI ((-2)))) g) ∧ (¬ nm x1 < nm 1 → ((¬ nm 20 < nm x1 → (∀ v3 : Int, v3 = g 18 11 → (∀ g4 : GI, g4 = up2 g 18 11 x1 → P (some (aI (v3))) g4))) ∧ (nm 20 < nm x1 → P (some (aI ((-2)))) g))))) :
    Zm w d mX10_wear 0 [some (aR (some (0))), some (aI (x1)), none] [] g P := by
  refine z_iload_n dX10_wear_0 rfl rfl ?_
  refine z_iconst dX10_wear_1 ?_
  refine z_icmp_lt (tgt := 11) dX10_wear_2 (by decide) (fun c1 => ?_) (fun c1 => ?_)
  · replace h := h.1 c1
    refine z_bipush dX10_wear_11 rfl ?_
    exact m_iret dX10_wear_13 rfl h
  · replace h := h.2 c1
    refine z_iload_n dX10_wear_5 rfl rfl ?_
    refine z_bipush dX10_wear_6 rfl ?_
    refine z_icmp_le (tgt := 14) dX10_wear_8 (by decide) (fun c2 => ?_) (fun c2 => ?_)
    · replace h := h.1 c2
      refine z_aload_n dX10_wear_14 rfl rfl ?_
      refine m_getR dX10_wear_15 fl_X10_36 (by decide) kt_0 rv_0_5 ?_
      refine z_getI dX10_wear_18 fl_X10_140 (by decide) kt_18 ?_
      replace h := h _ rfl
      refine z_istore_n dX10_wear_21 rfl (by decide) rfl ?_
      show Zm w d mX10_wear 22 [some (aR (some (0))), some (aI (x1)), some (aI (g 18 11))] [] g P
      refine z_aload_n dX10_wear_22 rfl rfl ?_
      refine m_getR dX10_wear_23 fl_X10_36 (by decide) kt_0 rv_0_5 ?_
      refine z_iload_n dX10_wear_26 rfl rfl ?_
      replace h := h _ rfl
      refine z_putI dX10_wear_27 fw_X10_140 (by decide) kt_18 ?_
      refine z_iload_n dX10_wear_30 rfl rfl ?_
      exact m_iret dX10_wear_31 rfl h
    · replace h := h.2 (Decidable.not_not.mp c2)
      refine z_bipush dX10_wear_11 rfl ?_
      exact m_iret dX10_wear_13 rfl h
theorem dX10_cross_0 : decode cX10_cross 0 = .ok (.iload_n 1, 1) := by decide +kernel
theorem dX10_cross_1 : decode cX10_cross 1 = .ok (.bipush 20, 2) := by decide +kernel
theorem dX10_cross_3 : decode cX10_cross 3 = .ok (.invokestatic 90, 3) := by decide +kernel
theorem dX10_cross_6 : decode cX10_cross 6 = .ok (.ifCond .eq 12, 3) := by decide +kernel
theorem dX10_cross_9 : decode cX10_cross 9 = .ok (.iload_n 2, 1) := by decide +kernel
theorem dX10_cross_10 : decode cX10_cross 10 = .ok (.bipush 8, 2) := by decide +kernel
theorem dX10_cross_12 : decode cX10_cross 12 = .ok (.invokestatic 90, 3) := by decide +kernel
theorem dX10_cross_15 : decode cX10_cross 15 = .ok (.ifCond .ne 6, 3) := by decide +kernel
theorem dX10_cross_18 : decode cX10_cross 18 = .ok (.bipush (-2), 2) := by decide +kernel
theorem dX10_cross_20 : decode cX10_cross 20 = .ok (.ireturn, 1) := by decide +kernel
theorem dX10_cross_21 : decode cX10_cross 21 = .ok (.aload_n 0, 1) := by decide +kernel
theorem dX10_cross_22 : decode cX10_cross 22 = .ok (.iconst 1, 1) := by decide +kernel
theorem dX10_cross_23 : decode cX10_cross 23 = .ok (.putfield 84, 3) := by decide +kernel
theorem dX10_cross_26 : decode cX10_cross 26 = .ok (.aload_n 0, 1) := by decide +kernel
theorem dX10_cross_27 : decode cX10_cross 27 = .ok (.getfield 20, 3) := by decide +kernel
theorem dX10_cross_30 : decode cX10_cross 30 = .ok (.iload_n 1, 1) := by decide +kernel
theorem dX10_cross_31 : decode cX10_cross 31 = .ok (.iload_n 2, 1) := by decide +kernel
theorem dX10_cross_32 : decode cX10_cross 32 = .ok (.iconst (-1), 1) := by decide +kernel
theorem dX10_cross_33 : decode cX10_cross 33 = .ok (.invokevirtual 143, 3) := by decide +kernel
theorem dX10_cross_36 : decode cX10_cross 36 = .ok (.ireturn, 1) := by decide +kernel
set_option maxRecDepth 4000 in
theorem s_X10_cross_0 {w : GX} {d : Nat} {P : PN} {g : GI} (x1 : Int) (x2 : Int)
    (h : (((nm (wi (x1) (20)) = 0 → P (some (aI ((-2)))) g) ∧ (¬ nm (wi (x1) (20)) = 0 → (((¬ nm (wi (x2) (8)) = 0 → (∀ g3 : GI, g3 = up2 g 0 12 1 → Zm w d mX4_add 0 [some (aR (some (2))), some (aI (x1)), some (aI (x2)), some (aI ((-1)))] [] g3 (fun r g4 => ∃ z5 : Int, r = some (aI z5) ∧ P (some (aI (z5))) g4))) ∧ (nm (wi (x2) (8)) = 0 → P (some (aI ((-2)))) g))))))) :
    Zm w (d + 1) mX10_cross 0 [some (aR (some (0))), some (aI (x1)), some (aI (x2))] [] g P := by
  refine z_iload_n dX10_cross_0 rfl rfl ?_
  refine z_bipush dX10_cross_1 rfl ?_
  refine m_callS (as := [aI (x1), aI (20)]) dX10_cross_3 lk_X10_90 mok_X10_within st_X10_within rfl (Nat.le_of_ble_eq_true rfl) rfl (Nat.le_of_ble_eq_true rfl) rfl (c_X10_within  ?_)
  show Zm w (d + 1) mX10_cross 6 [some (aR (some (0))), some (aI (x1)), some (aI (x2))] [aI (wi (x1) (20))] g P
  refine z_if_eq (tgt := 18) dX10_cross_6 (by decide) (fun c1 => ?_) (fun c1 => ?_)
  · replace h := h.1 c1
    refine z_bipush dX10_cross_18 rfl ?_
    exact m_iret dX10_cross_20 rfl h
  · replace h := h.2 c1
    refine z_iload_n dX10_cross_9 rfl rfl ?_
    refine z_bipush dX10_cross_10 rfl ?_
    refine m_callS (as := [aI (x2), aI (8)]) dX10_cross_12 lk_X10_90 mok_X10_within st_X10_within rfl (Nat.le_of_ble_eq_true rfl) rfl (Nat.le_of_ble_eq_true rfl) rfl (c_X10_within  ?_)
    show Zm w (d + 1) mX10_cross 15 [some (aR (some (0))), some (aI (x1)), some (aI (x2))] [aI (wi (x2) (8))] g P
    refine z_if_ne (tgt := 21) dX10_cross_15 (by decide) (fun c2 => ?_) (fun c2 => ?_)
    · replace h := h.1 c2
      refine z_aload_n dX10_cross_21 rfl rfl ?_
      refine z_iconst dX10_cross_22 ?_
      replace h := h _ rfl
      refine z_putZ dX10_cross_23 fw_X10_84 (by decide) kt_0 (by decide) ?_
      refine z_aload_n dX10_cross_26 rfl rfl ?_
      refine m_getR dX10_cross_27 fl_X10_20 (by decide) kt_0 rv_0_1 ?_
      refine z_iload_n dX10_cross_30 rfl rfl ?_
      refine z_iload_n dX10_cross_31 rfl rfl ?_
      refine z_iconst dX10_cross_32 ?_
      refine m_callV (as := [aI (x1), aI (x2), aI ((-1))]) dX10_cross_33 lk_X10_143 mok_X4_add in_X4_add sl_X4_add kt_2 rfl rfl rfl (Nat.le_of_ble_eq_true rfl) rfl (Nat.le_of_ble_eq_true rfl) rfl (m_mono (fun r g4 hr => ?_) h)
      obtain ⟨z5, rfl, h⟩ := hr
      show Zm w (d + 1) mX10_cross 36 [some (aR (some (0))), some (aI (x1)), some (aI (x2))] [aI (z5)] g4 P
      exact m_iret dX10_cross_36 rfl h
    · replace h := h.2 (Decidable.not_not.mp c2)
      refine z_bipush dX10_cross_18 rfl ?_
      exact m_iret dX10_cross_20 rfl h
theorem dX10_angle_0 : decode cX10_angle 0 = .ok (.iload_n 1, 1) := by decide +kernel
theorem dX10_angle_1 : decode cX10_angle 1 = .ok (.bipush 20, 2) := by decide +kernel
theorem dX10_angle_3 : decode cX10_angle 3 = .ok (.invokestatic 90, 3) := by decide +kernel
theorem dX10_angle_6 : decode cX10_angle 6 = .ok (.ifCond .eq 12, 3) := by decide +kernel
theorem dX10_angle_9 : decode cX10_angle 9 = .ok (.iload_n 2, 1) := by decide +kernel
theorem dX10_angle_10 : decode cX10_angle 10 = .ok (.bipush 20, 2) := by decide +kernel
theorem dX10_angle_12 : decode cX10_angle 12 = .ok (.invokestatic 90, 3) := by decide +kernel
theorem dX10_angle_15 : decode cX10_angle 15 = .ok (.ifCond .ne 6, 3) := by decide +kernel
theorem dX10_angle_18 : decode cX10_angle 18 = .ok (.bipush (-2), 2) := by decide +kernel
theorem dX10_angle_20 : decode cX10_angle 20 = .ok (.ireturn, 1) := by decide +kernel
theorem dX10_angle_21 : decode cX10_angle 21 = .ok (.aload_n 0, 1) := by decide +kernel
theorem dX10_angle_22 : decode cX10_angle 22 = .ok (.iconst 1, 1) := by decide +kernel
theorem dX10_angle_23 : decode cX10_angle 23 = .ok (.putfield 84, 3) := by decide +kernel
theorem dX10_angle_26 : decode cX10_angle 26 = .ok (.aload_n 0, 1) := by decide +kernel
theorem dX10_angle_27 : decode cX10_angle 27 = .ok (.getfield 24, 3) := by decide +kernel
theorem dX10_angle_30 : decode cX10_angle 30 = .ok (.iload_n 1, 1) := by decide +kernel
theorem dX10_angle_31 : decode cX10_angle 31 = .ok (.iload_n 2, 1) := by decide +kernel
theorem dX10_angle_32 : decode cX10_angle 32 = .ok (.iconst (-1), 1) := by decide +kernel
theorem dX10_angle_33 : decode cX10_angle 33 = .ok (.invokevirtual 143, 3) := by decide +kernel
theorem dX10_angle_36 : decode cX10_angle 36 = .ok (.ireturn, 1) := by decide +kernel
set_option maxRecDepth 4000 in
theorem s_X10_angle_0 {w : GX} {d : Nat} {P : PN} {g : GI} (x1 : Int) (x2 : Int)
    (h : (((nm (wi (x1) (20)) = 0 → P (some (aI ((-2)))) g) ∧ (¬ nm (wi (x1) (20)) = 0 → (((¬ nm (wi (x2) (20)) = 0 → (∀ g3 : GI, g3 = up2 g 0 12 1 → Zm w d mX4_add 0 [some (aR (some (6))), some (aI (x1)), some (aI (x2)), some (aI ((-1)))] [] g3 (fun r g4 => ∃ z5 : Int, r = some (aI z5) ∧ P (some (aI (z5))) g4))) ∧ (nm (wi (x2) (20)) = 0 → P (some (aI ((-2)))) g))))))) :
    Zm w (d + 1) mX10_angle 0 [some (aR (some (0))), some (aI (x1)), some (aI (x2))] [] g P := by
  refine z_iload_n dX10_angle_0 rfl rfl ?_
  refine z_bipush dX10_angle_1 rfl ?_
  refine m_callS (as := [aI (x1), aI (20)]) dX10_angle_3 lk_X10_90 mok_X10_within st_X10_within rfl (Nat.le_of_ble_eq_true rfl) rfl (Nat.le_of_ble_eq_true rfl) rfl (c_X10_within  ?_)
  show Zm w (d + 1) mX10_angle 6 [some (aR (some (0))), some (aI (x1)), some (aI (x2))] [aI (wi (x1) (20))] g P
  refine z_if_eq (tgt := 18) dX10_angle_6 (by decide) (fun c1 => ?_) (fun c1 => ?_)
  · replace h := h.1 c1
    refine z_bipush dX10_angle_18 rfl ?_
    exact m_iret dX10_angle_20 rfl h
  · replace h := h.2 c1
    refine z_iload_n dX10_angle_9 rfl rfl ?_
    refine z_bipush dX10_angle_10 rfl ?_
    refine m_callS (as := [aI (x2), aI (20)]) dX10_angle_12 lk_X10_90 mok_X10_within st_X10_within rfl (Nat.le_of_ble_eq_true rfl) rfl (Nat.le_of_ble_eq_true rfl) rfl (c_X10_within  ?_)
    show Zm w (d + 1) mX10_angle 15 [some (aR (some (0))), some (aI (x1)), some (aI (x2))] [aI (wi (x2) (20))] g P
    refine z_if_ne (tgt := 21) dX10_angle_15 (by decide) (fun c2 => ?_) (fun c2 => ?_)
    · replace h := h.1 c2
      refine z_aload_n dX10_angle_21 rfl rfl ?_
      refine z_iconst dX10_angle_22 ?_
      replace h := h _ rfl
      refine z_putZ dX10_angle_23 fw_X10_84 (by decide) kt_0 (by decide) ?_
      refine z_aload_n dX10_angle_26 rfl rfl ?_
      refine m_getR dX10_angle_27 fl_X10_24 (by decide) kt_0 rv_0_2 ?_
      refine z_iload_n dX10_angle_30 rfl rfl ?_
      refine z_iload_n dX10_angle_31 rfl rfl ?_
      refine z_iconst dX10_angle_32 ?_
      refine m_callV (as := [aI (x1), aI (x2), aI ((-1))]) dX10_angle_33 lk_X10_143 mok_X4_add in_X4_add sl_X4_add kt_6 rfl rfl rfl (Nat.le_of_ble_eq_true rfl) rfl (Nat.le_of_ble_eq_true rfl) rfl (m_mono (fun r g4 hr => ?_) h)
      obtain ⟨z5, rfl, h⟩ := hr
      show Zm w (d + 1) mX10_angle 36 [some (aR (some (0))), some (aI (x1)), some (aI (x2))] [aI (z5)] g4 P
      exact m_iret dX10_angle_36 rfl h
    · replace h := h.2 (Decidable.not_not.mp c2)
      refine z_bipush dX10_angle_18 rfl ?_
      exact m_iret dX10_angle_20 rfl h
theorem dX10_flood_0 : decode cX10_flood 0 = .ok (.iload_n 1, 1) := by decide +kernel
theorem dX10_flood_1 : decode cX10_flood 1 = .ok (.bipush 20, 2) := by decide +kernel
theorem dX10_flood_3 : decode cX10_flood 3 = .ok (.invokestatic 90, 3) := by decide +kernel
theorem dX10_flood_6 : decode cX10_flood 6 = .ok (.ifCond .ne 6, 3) := by decide +kernel
theorem dX10_flood_9 : decode cX10_flood 9 = .ok (.bipush (-2), 2) := by decide +kernel
theorem dX10_flood_11 : decode cX10_flood 11 = .ok (.ireturn, 1) := by decide +kernel
theorem dX10_flood_12 : decode cX10_flood 12 = .ok (.aload_n 0, 1) := by decide +kernel
theorem dX10_flood_13 : decode cX10_flood 13 = .ok (.iconst 1, 1) := by decide +kernel
theorem dX10_flood_14 : decode cX10_flood 14 = .ok (.putfield 84, 3) := by decide +kernel
theorem dX10_flood_17 : decode cX10_flood 17 = .ok (.aload_n 0, 1) := by decide +kernel
theorem dX10_flood_18 : decode cX10_flood 18 = .ok (.getfield 27, 3) := by decide +kernel
theorem dX10_flood_21 : decode cX10_flood 21 = .ok (.iload_n 1, 1) := by decide +kernel
theorem dX10_flood_22 : decode cX10_flood 22 = .ok (.iconst (-1), 1) := by decide +kernel
theorem dX10_flood_23 : decode cX10_flood 23 = .ok (.iconst (-1), 1) := by decide +kernel
theorem dX10_flood_24 : decode cX10_flood 24 = .ok (.invokevirtual 143, 3) := by decide +kernel
theorem dX10_flood_27 : decode cX10_flood 27 = .ok (.ireturn, 1) := by decide +kernel
set_option maxRecDepth 4000 in
theorem s_X10_flood_0 {w : GX} {d : Nat} {P : PN} {g : GI} (x1 : Int)
    (h : (((¬ nm (wi (x1) (20)) = 0 → (∀ g2 : GI, g2 = up2 g 0 12 1 → Zm w d mX4_add 0 [some (aR (some (10))), some (aI (x1)), some (aI ((-1))), some (aI ((-1)))] [] g2 (fun r g3 => ∃ z4 : Int, r = some (aI z4) ∧ P (some (aI (z4))) g3))) ∧ (nm (wi (x1) (20)) = 0 → P (some (aI ((-2)))) g)))) :
    Zm w (d + 1) mX10_flood 0 [some (aR (some (0))), some (aI (x1))] [] g P := by
  refine z_iload_n dX10_flood_0 rfl rfl ?_
  refine z_bipush dX10_flood_1 rfl ?_
  refine m_callS (as := [aI (x1), aI (20)]) dX10_flood_3 lk_X10_90 mok_X10_within st_X10_within rfl (Nat.le_of_ble_eq_true rfl) rfl (Nat.le_of_ble_eq_true rfl) rfl (c_X10_within  ?_)
  show Zm w (d + 1) mX10_flood 6 [some (aR (some (0))), some (aI (x1))] [aI (wi (x1) (20))] g P
  refine z_if_ne (tgt := 12) dX10_flood_6 (by decide) (fun c1 => ?_) (fun c1 => ?_)
  · replace h := h.1 c1
    refine z_aload_n dX10_flood_12 rfl rfl ?_
    refine z_iconst dX10_flood_13 ?_
    replace h := h _ rfl
    refine z_putZ dX10_flood_14 fw_X10_84 (by decide) kt_0 (by decide) ?_
    refine z_aload_n dX10_flood_17 rfl rfl ?_
    refine m_getR dX10_flood_18 fl_X10_27 (by decide) kt_0 rv_0_3 ?_
    refine z_iload_n dX10_flood_21 rfl rfl ?_
    refine z_iconst dX10_flood_22 ?_
    refine z_iconst dX10_flood_23 ?_
    refine m_callV (as := [aI (x1), aI ((-1)), aI ((-1))]) dX10_flood_24 lk_X10_143 mok_X4_add in_X4_add sl_X4_add kt_10 rfl rfl rfl (Nat.le_of_ble_eq_true rfl) rfl (Nat.le_of_ble_eq_true rfl) rfl (m_mono (fun r g3 hr => ?_) h)
    obtain ⟨z4, rfl, h⟩ := hr
    show Zm w (d + 1) mX10_flood 27 [some (aR (some (0))), some (aI (x1))] [aI (z4)] g3 P
    exact m_iret dX10_flood_27 rfl h
  · replace h := h.2 (Decidable.not_not.mp c1)
    refine z_bipush dX10_flood_9 rfl ?_
    exact m_iret dX10_flood_11 rfl h
theorem dX10_back_0 : decode cX10_back 0 = .ok (.iload_n 1, 1) := by decide +kernel
theorem dX10_back_1 : decode cX10_back 1 = .ok (.iconst 3, 1) := by decide +kernel
theorem dX10_back_2 : decode cX10_back 2 = .ok (.invokestatic 90, 3) := by decide +kernel
theorem dX10_back_5 : decode cX10_back 5 = .ok (.ifCond .ne 6, 3) := by decide +kernel
theorem dX10_back_8 : decode cX10_back 8 = .ok (.bipush (-2), 2) := by decide +kernel
theorem dX10_back_10 : decode cX10_back 10 = .ok (.ireturn, 1) := by decide +kernel
theorem dX10_back_11 : decode cX10_back 11 = .ok (.aload_n 0, 1) := by decide +kernel
theorem dX10_back_12 : decode cX10_back 12 = .ok (.iconst 1, 1) := by decide +kernel
theorem dX10_back_13 : decode cX10_back 13 = .ok (.putfield 84, 3) := by decide +kernel
theorem dX10_back_16 : decode cX10_back 16 = .ok (.iload_n 1, 1) := by decide +kernel
theorem dX10_back_17 : decode cX10_back 17 = .ok (.lookupswitch 43 #[(0, 27), (1, 35)], 27) := by decide +kernel
theorem dX10_back_44 : decode cX10_back 44 = .ok (.aload_n 0, 1) := by decide +kernel
theorem dX10_back_45 : decode cX10_back 45 = .ok (.getfield 20, 3) := by decide +kernel
theorem dX10_back_48 : decode cX10_back 48 = .ok (.invokevirtual 147, 3) := by decide +kernel
theorem dX10_back_51 : decode cX10_back 51 = .ok (.ireturn, 1) := by decide +kernel
theorem dX10_back_52 : decode cX10_back 52 = .ok (.aload_n 0, 1) := by decide +kernel
theorem dX10_back_53 : decode cX10_back 53 = .ok (.getfield 24, 3) := by decide +kernel
theorem dX10_back_56 : decode cX10_back 56 = .ok (.invokevirtual 147, 3) := by decide +kernel
theorem dX10_back_59 : decode cX10_back 59 = .ok (.ireturn, 1) := by decide +kernel
theorem dX10_back_60 : decode cX10_back 60 = .ok (.aload_n 0, 1) := by decide +kernel
theorem dX10_back_61 : decode cX10_back 61 = .ok (.getfield 27, 3) := by decide +kernel
theorem dX10_back_64 : decode cX10_back 64 = .ok (.invokevirtual 147, 3) := by decide +kernel
theorem dX10_back_67 : decode cX10_back 67 = .ok (.ireturn, 1) := by decide +kernel
set_option maxRecDepth 4000 in
theorem s_X10_back_0 {w : GX} {d : Nat} {P : PN} {g : GI} (x1 : Int)
    (h : (((¬ nm (wi (x1) (3)) = 0 → (∀ g2 : GI, g2 = up2 g 0 12 1 → ((nm x1 = 0 → Zm w d mX4_dropLast 0 [some (aR (some (2)))] [] g2 (fun r g4 => ∃ z5 : Int, r = some (aI z5) ∧ P (some (aI (z5))) g4)) ∧ (nm x1 = 1 → Zm w d mX4_dropLast 0 [some (aR (some (6)))] [] g2 (fun r g7 => ∃ z8 : Int, r = some (aI z8) ∧ P (some (aI (z8))) g7)) ∧ (¬ nm x1 = 0 → ¬ nm x1 = 1 → Zm w d mX4_dropLast 0 [some (aR (some (10)))] [] g2 (fun r g9 => ∃ z10 : Int, r = some (aI z10) ∧ P (some (aI (z10))) g9))))) ∧ (nm (wi (x1) (3)) = 0 → P (some (aI ((-2)))) g)))) :
    Zm w (d + 1) mX10_back 0 [some (aR (some (0))), some (aI (x1))] [] g P := by
  refine z_iload_n dX10_back_0 rfl rfl ?_
  refine z_iconst dX10_back_1 ?_
  refine m_callS (as := [aI (x1), aI (3)]) dX10_back_2 lk_X10_90 mok_X10_within st_X10_within rfl (Nat.le_of_ble_eq_true rfl) rfl (Nat.le_of_ble_eq_true rfl) rfl (c_X10_within  ?_)
  show Zm w (d + 1) mX10_back 5 [some (aR (some (0))), some (aI (x1))] [aI (wi (x1) (3))] g P
  refine z_if_ne (tgt := 11) dX10_back_5 (by decide) (fun c1 => ?_) (fun c1 => ?_)
  · replace h := h.1 c1
    refine z_aload_n dX10_back_11 rfl rfl ?_
    refine z_iconst dX10_back_12 ?_
    replace h := h _ rfl
    refine z_putZ dX10_back_13 fw_X10_84 (by decide) kt_0 (by decide) ?_
    refine z_iload_n dX10_back_16 rfl rfl ?_
    refine z_lsw (df := 60) (cs := [(0, 44), (1, 52)]) dX10_back_17 (by decide) (by decide) (by decide) (by decide) ?_
    by_cases c3 : nm x1 = 0
    · rw [sw_c c3]
      replace h := h.1 c3
      refine z_aload_n dX10_back_44 rfl rfl ?_
      refine m_getR dX10_back_45 fl_X10_20 (by decide) kt_0 rv_0_1 ?_
      refine m_callV (as := []) dX10_back_48 lk_X10_147 mok_X4_dropLast in_X4_dropLast sl_X4_dropLast kt_2 rfl rfl rfl (Nat.le_of_ble_eq_true rfl) rfl (Nat.le_of_ble_eq_true rfl) rfl (m_mono (fun r g4 hr => ?_) h)
      obtain ⟨z5, rfl, h⟩ := hr
      show Zm w (d + 1) mX10_back 51 [some (aR (some (0))), some (aI (x1))] [aI (z5)] g4 P
      exact m_iret dX10_back_51 rfl h
    rw [sw_n c3]; replace h := h.2
    by_cases c6 : nm x1 = 1
    · rw [sw_c c6]
      replace h := h.1 c6
      refine z_aload_n dX10_back_52 rfl rfl ?_
      refine m_getR dX10_back_53 fl_X10_24 (by decide) kt_0 rv_0_2 ?_
      refine m_callV (as := []) dX10_back_56 lk_X10_147 mok_X4_dropLast in_X4_dropLast sl_X4_dropLast kt_6 rfl rfl rfl (Nat.le_of_ble_eq_true rfl) rfl (Nat.le_of_ble_eq_true rfl) rfl (m_mono (fun r g7 hr => ?_) h)
      obtain ⟨z8, rfl, h⟩ := hr
      show Zm w (d + 1) mX10_back 59 [some (aR (some (0))), some (aI (x1))] [aI (z8)] g7 P
      exact m_iret dX10_back_59 rfl h
    rw [sw_n c6]; replace h := h.2
    replace h := h c3 c6
    rw [sw_e]
    refine z_aload_n dX10_back_60 rfl rfl ?_
    refine m_getR dX10_back_61 fl_X10_27 (by decide) kt_0 rv_0_3 ?_
    refine m_callV (as := []) dX10_back_64 lk_X10_147 mok_X4_dropLast in_X4_dropLast sl_X4_dropLast kt_10 rfl rfl rfl (Nat.le_of_ble_eq_true rfl) rfl (Nat.le_of_ble_eq_true rfl) rfl (m_mono (fun r g9 hr => ?_) h)
    obtain ⟨z10, rfl, h⟩ := hr
    show Zm w (d + 1) mX10_back 67 [some (aR (some (0))), some (aI (x1))] [aI (z10)] g9 P
    exact m_iret dX10_back_67 rfl h
  · replace h := h.2 (Decidable.not_not.mp c1)
    refine z_bipush dX10_back_8 rfl ?_
    exact m_iret dX10_back_10 rfl h
theorem dX10_read_0 : decode cX10_read 0 = .ok (.iload_n 1, 1) := by decide +kernel
theorem dX10_read_1 : decode cX10_read 1 = .ok (.iconst 4, 1) := by decide +kernel
theorem dX10_read_2 : decode cX10_read 2 = .ok (.invokestatic 90, 3) := by decide +kernel
theorem dX10_read_5 : decode cX10_read 5 = .ok (.ifCond .ne 6, 3) := by decide +kernel
theorem dX10_read_8 : decode cX10_read 8 = .ok (.bipush (-2), 2) := by decide +kernel
theorem dX10_read_10 : decode cX10_read 10 = .ok (.ireturn, 1) := by decide +kernel
theorem dX10_read_11 : decode cX10_read 11 = .ok (.aload_n 0, 1) := by decide +kernel
theorem dX10_read_12 : decode cX10_read 12 = .ok (.getfield 76, 3) := by decide +kernel
theorem dX10_read_15 : decode cX10_read 15 = .ok (.iload_n 1, 1) := by decide +kernel
theorem dX10_read_16 : decode cX10_read 16 = .ok (.aaload, 1) := by decide +kernel
theorem dX10_read_17 : decode cX10_read 17 = .ok (.invokevirtual 148, 3) := by decide +kernel
theorem dX10_read_20 : decode cX10_read 20 = .ok (.ifCond .eq 9, 3) := by decide +kernel
theorem dX10_read_23 : decode cX10_read 23 = .ok (.aload_n 0, 1) := by decide +kernel
theorem dX10_read_24 : decode cX10_read 24 = .ok (.iconst 1, 1) := by decide +kernel
theorem dX10_read_25 : decode cX10_read 25 = .ok (.invokevirtual 152, 3) := by decide +kernel
theorem dX10_read_28 : decode cX10_read 28 = .ok (.ireturn, 1) := by decide +kernel
theorem dX10_read_29 : decode cX10_read 29 = .ok (.aload_n 0, 1) := by decide +kernel
theorem dX10_read_30 : decode cX10_read 30 = .ok (.getfield 76, 3) := by decide +kernel
theorem dX10_read_33 : decode cX10_read 33 = .ok (.iload_n 1, 1) := by decide +kernel
theorem dX10_read_34 : decode cX10_read 34 = .ok (.aaload, 1) := by decide +kernel
theorem dX10_read_35 : decode cX10_read 35 = .ok (.getfield 155, 3) := by decide +kernel
theorem dX10_read_38 : decode cX10_read 38 = .ok (.astore_n 2, 1) := by decide +kernel
theorem dX10_read_39 : decode cX10_read 39 = .ok (.iconst 0, 1) := by decide +kernel
theorem dX10_read_40 : decode cX10_read 40 = .ok (.istore_n 3, 1) := by decide +kernel
theorem dX10_read_41 : decode cX10_read 41 = .ok (.iconst 0, 1) := by decide +kernel
theorem dX10_read_42 : decode cX10_read 42 = .ok (.istore 4, 2) := by decide +kernel
theorem dX10_read_44 : decode cX10_read 44 = .ok (.iload 4, 2) := by decide +kernel
theorem dX10_read_46 : decode cX10_read 46 = .ok (.iconst 1, 1) := by decide +kernel
theorem dX10_read_47 : decode cX10_read 47 = .ok (.iadd, 1) := by decide +kernel
theorem dX10_read_48 : decode cX10_read 48 = .ok (.aload_n 0, 1) := by decide +kernel
theorem dX10_read_49 : decode cX10_read 49 = .ok (.getfield 76, 3) := by decide +kernel
theorem dX10_read_52 : decode cX10_read 52 = .ok (.iload_n 1, 1) := by decide +kernel
theorem dX10_read_53 : decode cX10_read 53 = .ok (.aaload, 1) := by decide +kernel
theorem dX10_read_54 : decode cX10_read 54 = .ok (.getfield 158, 3) := by decide +kernel
theorem dX10_read_57 : decode cX10_read 57 = .ok (.if_icmp .ge 41, 3) := by decide +kernel
theorem dX10_read_60 : decode cX10_read 60 = .ok (.iload 4, 2) := by decide +kernel
theorem dX10_read_62 : decode cX10_read 62 = .ok (.iconst 1, 1) := by decide +kernel
theorem dX10_read_63 : decode cX10_read 63 = .ok (.iadd, 1) := by decide +kernel
theorem dX10_read_64 : decode cX10_read 64 = .ok (.aload_n 2, 1) := by decide +kernel
theorem dX10_read_65 : decode cX10_read 65 = .ok (.arraylength, 1) := by decide +kernel
theorem dX10_read_66 : decode cX10_read 66 = .ok (.if_icmp .ge 32, 3) := by decide +kernel
theorem dX10_read_69 : decode cX10_read 69 = .ok (.aload_n 0, 1) := by decide +kernel
theorem dX10_read_70 : decode cX10_read 70 = .ok (.aload_n 2, 1) := by decide +kernel
theorem dX10_read_71 : decode cX10_read 71 = .ok (.iload 4, 2) := by decide +kernel
theorem dX10_read_73 : decode cX10_read 73 = .ok (.iaload, 1) := by decide +kernel
theorem dX10_read_74 : decode cX10_read 74 = .ok (.aload_n 2, 1) := by decide +kernel
theorem dX10_read_75 : decode cX10_read 75 = .ok (.iload 4, 2) := by decide +kernel
theorem dX10_read_77 : decode cX10_read 77 = .ok (.iconst 1, 1) := by decide +kernel
theorem dX10_read_78 : decode cX10_read 78 = .ok (.iadd, 1) := by decide +kernel
theorem dX10_read_79 : decode cX10_read 79 = .ok (.iaload, 1) := by decide +kernel
theorem dX10_read_80 : decode cX10_read 80 = .ok (.invokevirtual 159, 3) := by decide +kernel
theorem dX10_read_83 : decode cX10_read 83 = .ok (.ifCond .ge 6, 3) := by decide +kernel
theorem dX10_read_86 : decode cX10_read 86 = .ok (.goto 12, 3) := by decide +kernel
theorem dX10_read_89 : decode cX10_read 89 = .ok (.iinc 3 1, 3) := by decide +kernel
theorem dX10_read_92 : decode cX10_read 92 = .ok (.iinc 4 2, 3) := by decide +kernel
theorem dX10_read_95 : decode cX10_read 95 = .ok (.goto (-51), 3) := by decide +kernel
theorem dX10_read_98 : decode cX10_read 98 = .ok (.iload_n 3, 1) := by decide +kernel
theorem dX10_read_99 : decode cX10_read 99 = .ok (.ireturn, 1) := by decide +kernel
set_option maxRecDepth 4000 in
theorem s_X10_read_0 {w : GX} {d : Nat} {P : PN} {g : GI} (x1 : Int)
    (h : (((¬ nm (wi (x1) (4)) = 0 → (0 ≤ nm x1 ∧ nm x1 < 4 ∧ (((nm (isNeg (g (220 + 2 * (nm x1).toNat) 2)) = 0 → (Zm w (d + 2) mX10_read 44 [some (aR (some (0))), some (aI (x1)), some (aR (some (220 + 2 * (nm x1).toNat + 1))), some (aI (0)), some (aI (0))] [] g P)) ∧ (¬ nm (isNeg (g (220 + 2 * (nm x1).toNat) 2)) = 0 → (∀ g7 : GI, g7 = up2 g 0 11 (1) → P (some (aI ((-10) - (1)))) g7)))))) ∧ (nm (wi (x1) (4)) = 0 → P (some (aI ((-2)))) g)))) :
    Zm w (d + 2) mX10_read 0 [some (aR (some (0))), some (aI (x1)), none, none, none] [] g P := by
  refine z_iload_n dX10_read_0 rfl rfl ?_
  refine z_iconst dX10_read_1 ?_
  refine m_callS (as := [aI (x1), aI (4)]) dX10_read_2 lk_X10_90 mok_X10_within st_X10_within rfl (Nat.le_of_ble_eq_true rfl) rfl (Nat.le_of_ble_eq_true rfl) rfl (c_X10_within  ?_)
  show Zm w (d + 2) mX10_read 5 [some (aR (some (0))), some (aI (x1)), none, none, none] [aI (wi (x1) (4))] g P
  refine z_if_ne (tgt := 11) dX10_read_5 (by decide) (fun c1 => ?_) (fun c1 => ?_)
  · replace h := h.1 c1
    refine z_aload_n dX10_read_11 rfl rfl ?_
    refine m_getR dX10_read_12 fl_X10_76 (by decide) kt_0 rv_0_10 ?_
    refine z_iload_n dX10_read_15 rfl rfl ?_
    obtain ⟨q2, q3, h⟩ := h
    have t4 : (nm x1).toNat < 4 := by omega
    refine m_aaldv dX10_read_16 kv_215 q2 q3 (w_sheets _ t4) ?_
    refine m_callV (as := []) dX10_read_17 lk_X10_148 mok_X6_isLost in_X6_isLost sl_X6_isLost (congrArg Prod.fst (isS_at _ t4).1) rfl rfl rfl (Nat.le_of_ble_eq_true rfl) rfl (Nat.le_of_ble_eq_true rfl) rfl (c_X6_isLost (isS_at _ t4) ?_)
    show Zm w (d + 2) mX10_read 20 [some (aR (some (0))), some (aI (x1)), none, none, none] [aI (isNeg (g (220 + 2 * (nm x1).toNat) 2))] g P
    refine z_if_eq (tgt := 29) dX10_read_20 (by decide) (fun c5 => ?_) (fun c5 => ?_)
    · replace h := h.1 c5
      refine z_aload_n dX10_read_29 rfl rfl ?_
      refine m_getR dX10_read_30 fl_X10_76 (by decide) kt_0 rv_0_10 ?_
      refine z_iload_n dX10_read_33 rfl rfl ?_
      have t6 : (nm x1).toNat < 4 := by omega
      refine m_aaldv dX10_read_34 kv_215 q2 q3 (w_sheets _ t6) ?_
      refine m_getR dX10_read_35 fl_X10_155 (by decide) (congrArg Prod.fst (isS_at _ t6).1) (isS_at _ t6).2.1 ?_
      refine z_astore_n dX10_read_38 rfl (by decide) rfl ?_
      show Zm w (d + 2) mX10_read 39 [some (aR (some (0))), some (aI (x1)), some (aR (some (220 + 2 * (nm x1).toNat + 1))), none, none] [] g P
      refine z_iconst dX10_read_39 ?_
      refine z_istore_n dX10_read_40 rfl (by decide) rfl ?_
      show Zm w (d + 2) mX10_read 41 [some (aR (some (0))), some (aI (x1)), some (aR (some (220 + 2 * (nm x1).toNat + 1))), some (aI (0)), none] [] g P
      refine z_iconst dX10_read_41 ?_
      refine z_istore dX10_read_42 (by decide) rfl ?_
      show Zm w (d + 2) mX10_read 44 [some (aR (some (0))), some (aI (x1)), some (aR (some (220 + 2 * (nm x1).toNat + 1))), some (aI (0)), some (aI (0))] [] g P
      exact z_weak (by simp [lle]) h
    · replace h := h.2 c5
      refine z_aload_n dX10_read_23 rfl rfl ?_
      refine z_iconst dX10_read_24 ?_
      refine m_callV (as := [aI (1)]) dX10_read_25 lk_X10_152 mok_X10_finding in_X10_finding sl_X10_finding kt_0 rfl rfl rfl (Nat.le_of_ble_eq_true rfl) rfl (Nat.le_of_ble_eq_true rfl) rfl (c_X10_finding  ?_)
      replace h := h _ rfl
      show Zm w (d + 2) mX10_read 28 [some (aR (some (0))), some (aI (x1)), none, none, none] [aI ((-10) - (1))] (up2 g 0 11 (1)) P
      exact m_iret dX10_read_28 rfl h
  · replace h := h.2 (Decidable.not_not.mp c1)
    refine z_bipush dX10_read_8 rfl ?_
    exact m_iret dX10_read_10 rfl h
set_option maxRecDepth 4000 in
theorem s_X10_read_44 {w : GX} {d : Nat} {P : PN} {g : GI} (x1 : Int) {x2 : Nat} (hx2 : kd0 x2 = (12, 60)) (x3 : Int) (x4 : Int)
    (h : (0 ≤ nm x1 ∧ nm x1 < 4 ∧ ((¬ nm (x4 + 1) < nm (g (220 + 2 * (nm x1).toNat) 2) → P (some (aI (x3))) g) ∧ (nm (x4 + 1) < nm (g (220 + 2 * (nm x1).toNat) 2) → ((¬ nm (x4 + 1) < nm (((60 : Nat) : Int)) → P (some (aI (x3))) g) ∧ (nm (x4 + 1) < nm (((60 : Nat) : Int)) → (0 ≤ nm x4 ∧ nm x4 < 60 ∧ (0 ≤ nm (x4 + 1) ∧ nm (x4 + 1) < 60 ∧ Zm w (d + 1) mX10_cross 0 [some (aR (some (0))), some (aI (g x2 (nm x4).toNat)), some (aI (g x2 (nm (x4 + 1)).toNat))] [] g (fun r g14 => ∃ z15 : Int, r = some (aI z15) ∧ ((¬ nm z15 < 0 → Zm w (d + 2) mX10_read 44 [some (aR (some (0))), some (aI (x1)), some (aR (some (x2))), some (aI (x3 + 1)), some (aI (x4 + 2))] [] g14 P) ∧ (nm z15 < 0 → P (some (aI (x3))) g14))))))))))) :
    Zm w (d + 2) mX10_read 44 [some (aR (some (0))), some (aI (x1)), some (aR (some (x2))), some (aI (x3)), some (aI (x4))] [] g P := by
  refine z_iload dX10_read_44 rfl ?_
  refine z_iconst dX10_read_46 ?_
  refine z_iadd dX10_read_47 ?_
  refine z_aload_n dX10_read_48 rfl rfl ?_
  refine m_getR dX10_read_49 fl_X10_76 (by decide) kt_0 rv_0_10 ?_
  refine z_iload_n dX10_read_52 rfl rfl ?_
  obtain ⟨q1, q2, h⟩ := h
  have t3 : (nm x1).toNat < 4 := by omega
  refine m_aaldv dX10_read_53 kv_215 q1 q2 (w_sheets _ t3) ?_
  refine z_getI dX10_read_54 fl_X10_158 (by decide) (congrArg Prod.fst (isS_at _ t3).1) ?_
  refine z_icmp_ge (tgt := 98) dX10_read_57 (by decide) (fun c4 => ?_) (fun c4 => ?_)
  · replace h := h.1 c4
    refine z_iload_n dX10_read_98 rfl rfl ?_
    exact m_iret dX10_read_99 rfl h
  · replace h := h.2 (Decidable.not_not.mp c4)
    refine z_iload dX10_read_60 rfl ?_
    refine z_iconst dX10_read_62 ?_
    refine z_iadd dX10_read_63 ?_
    refine z_aload_n dX10_read_64 rfl rfl ?_
    refine m_alen dX10_read_65 hx2 ?_
    refine z_icmp_ge (tgt := 98) dX10_read_66 (by decide) (fun c5 => ?_) (fun c5 => ?_)
    · replace h := h.1 c5
      refine z_iload_n dX10_read_98 rfl rfl ?_
      exact m_iret dX10_read_99 rfl h
    · replace h := h.2 (Decidable.not_not.mp c5)
      refine z_aload_n dX10_read_69 rfl rfl ?_
      refine z_aload_n dX10_read_70 rfl rfl ?_
      refine z_iload dX10_read_71 rfl ?_
      obtain ⟨q8, q9, h⟩ := h
      refine m_iald dX10_read_73 hx2 q8 q9 ?_
      refine z_aload_n dX10_read_74 rfl rfl ?_
      refine z_iload dX10_read_75 rfl ?_
      refine z_iconst dX10_read_77 ?_
      refine z_iadd dX10_read_78 ?_
      obtain ⟨q12, q13, h⟩ := h
      refine m_iald dX10_read_79 hx2 q12 q13 ?_
      refine m_callV (as := [aI (g x2 (nm x4).toNat), aI (g x2 (nm (x4 + 1)).toNat)]) dX10_read_80 lk_X10_159 mok_X10_cross in_X10_cross sl_X10_cross kt_0 rfl rfl rfl (Nat.le_of_ble_eq_true rfl) rfl (Nat.le_of_ble_eq_true rfl) rfl (m_mono (fun r g14 hr => ?_) h)
      obtain ⟨z15, rfl, h⟩ := hr
      show Zm w (d + 2) mX10_read 83 [some (aR (some (0))), some (aI (x1)), some (aR (some (x2))), some (aI (x3)), some (aI (x4))] [aI (z15)] g14 P
      refine z_if_ge (tgt := 89) dX10_read_83 (by decide) (fun c16 => ?_) (fun c16 => ?_)
      · replace h := h.1 c16
        refine z_iinc dX10_read_89 rfl (by decide) rfl ?_
        show Zm w (d + 2) mX10_read 92 [some (aR (some (0))), some (aI (x1)), some (aR (some (x2))), some (aI (x3 + 1)), some (aI (x4))] [] g14 P
        refine z_iinc dX10_read_92 rfl (by decide) rfl ?_
        show Zm w (d + 2) mX10_read 95 [some (aR (some (0))), some (aI (x1)), some (aR (some (x2))), some (aI (x3 + 1)), some (aI (x4 + 2))] [] g14 P
        refine z_goto (tgt := 44) dX10_read_95 (by decide) ?_
        exact z_weak (by simp [lle]) h
      · replace h := h.2 (Decidable.not_not.mp c16)
        refine z_goto (tgt := 98) dX10_read_86 (by decide) ?_
        refine z_iload_n dX10_read_98 rfl rfl ?_
        exact m_iret dX10_read_99 rfl h
theorem dX10_called_0 : decode cX10_called 0 = .ok (.aload_n 0, 1) := by decide +kernel
theorem dX10_called_1 : decode cX10_called 1 = .ok (.invokevirtual 111, 3) := by decide +kernel
theorem dX10_called_4 : decode cX10_called 4 = .ok (.iload_n 1, 1) := by decide +kernel
theorem dX10_called_5 : decode cX10_called 5 = .ok (.bipush 20, 2) := by decide +kernel
theorem dX10_called_7 : decode cX10_called 7 = .ok (.invokestatic 90, 3) := by decide +kernel
theorem dX10_called_10 : decode cX10_called 10 = .ok (.ifCond .eq 19, 3) := by decide +kernel
theorem dX10_called_13 : decode cX10_called 13 = .ok (.aload_n 0, 1) := by decide +kernel
theorem dX10_called_14 : decode cX10_called 14 = .ok (.iload_n 2, 1) := by decide +kernel
theorem dX10_called_15 : decode cX10_called 15 = .ok (.invokevirtual 121, 3) := by decide +kernel
theorem dX10_called_18 : decode cX10_called 18 = .ok (.ifCond .eq 11, 3) := by decide +kernel
theorem dX10_called_21 : decode cX10_called 21 = .ok (.iload_n 3, 1) := by decide +kernel
theorem dX10_called_22 : decode cX10_called 22 = .ok (.iconst 4, 1) := by decide +kernel
theorem dX10_called_23 : decode cX10_called 23 = .ok (.invokestatic 90, 3) := by decide +kernel
theorem dX10_called_26 : decode cX10_called 26 = .ok (.ifCond .ne 6, 3) := by decide +kernel
theorem dX10_called_29 : decode cX10_called 29 = .ok (.bipush (-2), 2) := by decide +kernel
theorem dX10_called_31 : decode cX10_called 31 = .ok (.ireturn, 1) := by decide +kernel
theorem dX10_called_32 : decode cX10_called 32 = .ok (.aload_n 0, 1) := by decide +kernel
theorem dX10_called_33 : decode cX10_called 33 = .ok (.getfield 45, 3) := by decide +kernel
theorem dX10_called_36 : decode cX10_called 36 = .ok (.getfield 163, 3) := by decide +kernel
theorem dX10_called_39 : decode cX10_called 39 = .ok (.iload_n 1, 1) := by decide +kernel
theorem dX10_called_40 : decode cX10_called 40 = .ok (.iconst 1, 1) := by decide +kernel
theorem dX10_called_41 : decode cX10_called 41 = .ok (.iadd, 1) := by decide +kernel
theorem dX10_called_42 : decode cX10_called 42 = .ok (.aaload, 1) := by decide +kernel
theorem dX10_called_43 : decode cX10_called 43 = .ok (.astore 4, 2) := by decide +kernel
theorem dX10_called_45 : decode cX10_called 45 = .ok (.iload_n 3, 1) := by decide +kernel
theorem dX10_called_46 : decode cX10_called 46 = .ok (.tableswitch 61 0 2 #[26, 34, 45], 26) := by decide +kernel
theorem dX10_called_72 : decode cX10_called 72 = .ok (.aload 4, 2) := by decide +kernel
theorem dX10_called_74 : decode cX10_called 74 = .ok (.getfield 167, 3) := by decide +kernel
theorem dX10_called_77 : decode cX10_called 77 = .ok (.iload_n 2, 1) := by decide +kernel
theorem dX10_called_78 : decode cX10_called 78 = .ok (.iaload, 1) := by decide +kernel
theorem dX10_called_79 : decode cX10_called 79 = .ok (.ireturn, 1) := by decide +kernel
theorem dX10_called_80 : decode cX10_called 80 = .ok (.aload 4, 2) := by decide +kernel
theorem dX10_called_82 : decode cX10_called 82 = .ok (.aload_n 0, 1) := by decide +kernel
theorem dX10_called_83 : decode cX10_called 83 = .ok (.getfield 36, 3) := by decide +kernel
theorem dX10_called_86 : decode cX10_called 86 = .ok (.iload_n 2, 1) := by decide +kernel
theorem dX10_called_87 : decode cX10_called 87 = .ok (.invokevirtual 172, 3) := by decide +kernel
theorem dX10_called_90 : decode cX10_called 90 = .ok (.ireturn, 1) := by decide +kernel
theorem dX10_called_91 : decode cX10_called 91 = .ok (.aload_n 0, 1) := by decide +kernel
theorem dX10_called_92 : decode cX10_called 92 = .ok (.getfield 36, 3) := by decide +kernel
theorem dX10_called_95 : decode cX10_called 95 = .ok (.getfield 131, 3) := by decide +kernel
theorem dX10_called_98 : decode cX10_called 98 = .ok (.aload 4, 2) := by decide +kernel
theorem dX10_called_100 : decode cX10_called 100 = .ok (.getfield 167, 3) := by decide +kernel
theorem dX10_called_103 : decode cX10_called 103 = .ok (.iload_n 2, 1) := by decide +kernel
theorem dX10_called_104 : decode cX10_called 104 = .ok (.iaload, 1) := by decide +kernel
theorem dX10_called_105 : decode cX10_called 105 = .ok (.iaload, 1) := by decide +kernel
theorem dX10_called_106 : decode cX10_called 106 = .ok (.ireturn, 1) := by decide +kernel
theorem dX10_called_107 : decode cX10_called 107 = .ok (.aload 4, 2) := by decide +kernel
theorem dX10_called_109 : decode cX10_called 109 = .ok (.aload_n 0, 1) := by decide +kernel
theorem dX10_called_110 : decode cX10_called 110 = .ok (.getfield 36, 3) := by decide +kernel
theorem dX10_called_113 : decode cX10_called 113 = .ok (.iload_n 2, 1) := by decide +kernel
theorem dX10_called_114 : decode cX10_called 114 = .ok (.invokevirtual 176, 3) := by decide +kernel
theorem dX10_called_117 : decode cX10_called 117 = .ok (.ireturn, 1) := by decide +kernel
set_option maxRecDepth 4000 in
theorem s_X10_called_0 {w : GX} {d : Nat} {P : PN} {g : GI} (x1 : Int) (x2 : Int) (x3 : Int)
    (h : Zm w (d + 4) mX10_settle 0 [some (aR (some (0)))] [] g (fun r g1 => r = none ∧ (((nm (wi (x1) (20)) = 0 → P (some (aI ((-2)))) g1) ∧ (¬ nm (wi (x1) (20)) = 0 → (((nm (wi (x2) (g1 18 10)) = 0 → P (some (aI ((-2)))) g1) ∧ (¬ nm (wi (x2) (g1 18 10)) = 0 → (((¬ nm (wi (x3) (4)) = 0 → (0 ≤ nm (x1 + 1) ∧ nm (x1 + 1) < 21 ∧ ((nm x3 = 0 → (0 ≤ nm x2 ∧ nm x2 < 8 ∧ P (some (aI (g1 (31 + 5 * (nm (x1 + 1)).toNat + 3) (nm x2).toNat))) g1)) ∧ (nm x3 = 1 → Zm w (d + 4) mX8_letterOf 0 [some (aR (some (31 + 5 * (nm (x1 + 1)).toNat))), some (aR (some (18))), some (aI (x2)), none] [] g1 (fun r g15 => ∃ z16 : Int, r = some (aI z16) ∧ P (some (aI (z16))) g15)) ∧ (nm x3 = 2 → (0 ≤ nm x2 ∧ nm x2 < 8 ∧ (0 ≤ nm (g1 (31 + 5 * (nm (x1 + 1)).toNat + 3) (nm x2).toNat) ∧ nm (g1 (31 + 5 * (nm (x1 + 1)).toNat + 3) (nm x2).toNat) < 28 ∧ P (some (aI (g1 24 (nm (g1 (31 + 5 * (nm (x1 + 1)).toNat + 3) (nm x2).toNat)).toNat))) g1))) ∧ (¬ nm x3 = 0 → ¬ nm x3 = 1 → ¬ nm x3 = 2 → Zm w (d + 4) mX8_spouseOf 0 [some (aR (some (31 + 5 * (nm (x1 + 1)).toNat))), some (aR (some (18))), some (aI (x2)), none, none] [] g1 (fun r g26 => ∃ z27 : Int, r = some (aI z27) ∧ P (some (aI (z27))) g26))))) ∧ (nm (wi (x3) (4)) = 0 → P (some (aI ((-2)))) g1))))))))))) :
    Zm w (d + 5) mX10_called 0 [some (aR (some (0))), some (aI (x1)), some (aI (x2)), some (aI (x3)), none] [] g P := by
  refine z_aload_n dX10_called_0 rfl rfl ?_
  refine m_callV (as := []) dX10_called_1 lk_X10_111 mok_X10_settle in_X10_settle sl_X10_settle kt_0 rfl rfl rfl (Nat.le_of_ble_eq_true rfl) rfl (Nat.le_of_ble_eq_true rfl) rfl (m_mono (fun r g1 hr => ?_) h)
  obtain ⟨rfl, h⟩ := hr
  show Zm w (d + 5) mX10_called 4 [some (aR (some (0))), some (aI (x1)), some (aI (x2)), some (aI (x3)), none] [] g1 P
  refine z_iload_n dX10_called_4 rfl rfl ?_
  refine z_bipush dX10_called_5 rfl ?_
  refine m_callS (as := [aI (x1), aI (20)]) dX10_called_7 lk_X10_90 mok_X10_within st_X10_within rfl (Nat.le_of_ble_eq_true rfl) rfl (Nat.le_of_ble_eq_true rfl) rfl (c_X10_within  ?_)
  show Zm w (d + 5) mX10_called 10 [some (aR (some (0))), some (aI (x1)), some (aI (x2)), some (aI (x3)), none] [aI (wi (x1) (20))] g1 P
  refine z_if_eq (tgt := 29) dX10_called_10 (by decide) (fun c3 => ?_) (fun c3 => ?_)
  · replace h := h.1 c3
    refine z_bipush dX10_called_29 rfl ?_
    exact m_iret dX10_called_31 rfl h
  · replace h := h.2 c3
    refine z_aload_n dX10_called_13 rfl rfl ?_
    refine z_iload_n dX10_called_14 rfl rfl ?_
    refine m_callV (as := [aI (x2)]) dX10_called_15 lk_X10_121 mok_X10_isPerson in_X10_isPerson sl_X10_isPerson kt_0 rfl rfl rfl (Nat.le_of_ble_eq_true rfl) rfl (Nat.le_of_ble_eq_true rfl) rfl (c_X10_isPerson  ?_)
    show Zm w (d + 5) mX10_called 18 [some (aR (some (0))), some (aI (x1)), some (aI (x2)), some (aI (x3)), none] [aI (wi (x2) (g1 18 10))] g1 P
    refine z_if_eq (tgt := 29) dX10_called_18 (by decide) (fun c4 => ?_) (fun c4 => ?_)
    · replace h := h.1 c4
      refine z_bipush dX10_called_29 rfl ?_
      exact m_iret dX10_called_31 rfl h
    · replace h := h.2 c4
      refine z_iload_n dX10_called_21 rfl rfl ?_
      refine z_iconst dX10_called_22 ?_
      refine m_callS (as := [aI (x3), aI (4)]) dX10_called_23 lk_X10_90 mok_X10_within st_X10_within rfl (Nat.le_of_ble_eq_true rfl) rfl (Nat.le_of_ble_eq_true rfl) rfl (c_X10_within  ?_)
      show Zm w (d + 5) mX10_called 26 [some (aR (some (0))), some (aI (x1)), some (aI (x2)), some (aI (x3)), none] [aI (wi (x3) (4))] g1 P
      refine z_if_ne (tgt := 32) dX10_called_26 (by decide) (fun c5 => ?_) (fun c5 => ?_)
      · replace h := h.1 c5
        refine z_aload_n dX10_called_32 rfl rfl ?_
        refine m_getR dX10_called_33 fl_X10_45 (by decide) kt_0 rv_0_6 ?_
        refine m_getR dX10_called_36 fl_X10_163 (by decide) kt_27 rv_27_5 ?_
        refine z_iload_n dX10_called_39 rfl rfl ?_
        refine z_iconst dX10_called_40 ?_
        refine z_iadd dX10_called_41 ?_
        obtain ⟨q6, q7, h⟩ := h
        have t8 : (nm (x1 + 1)).toNat < 21 := by omega
        refine m_aaldv dX10_called_42 kv_30 q6 q7 (w_ahead _ t8) ?_
        refine z_astore dX10_called_43 (by decide) rfl ?_
        show Zm w (d + 5) mX10_called 45 [some (aR (some (0))), some (aI (x1)), some (aI (x2)), some (aI (x3)), some (aR (some (31 + 5 * (nm (x1 + 1)).toNat)))] [] g1 P
        refine z_iload_n dX10_called_45 rfl rfl ?_
        refine z_tsw (df := 107) (cs := [(0, 72), (1, 80), (2, 91)]) dX10_called_46 (by decide) (by decide) (by decide) (by decide) ?_
        by_cases c9 : nm x3 = 0
        · rw [sw_c c9]
          replace h := h.1 c9
          refine z_aload dX10_called_72 rfl ?_
          refine m_getR dX10_called_74 fl_X10_167 (by decide) (congrArg Prod.fst (isW_ahead _ t8).1) (isW_ahead _ t8).2.2.2.2.2.2.2.1 ?_
          refine z_iload_n dX10_called_77 rfl rfl ?_
          obtain ⟨q12, q13, h⟩ := h
          refine m_iald dX10_called_78 (isW_ahead _ t8).2.2.2.1 q12 q13 ?_
          exact m_iret dX10_called_79 rfl h
        rw [sw_n c9]; replace h := h.2
        by_cases c14 : nm x3 = 1
        · rw [sw_c c14]
          replace h := h.1 c14
          refine z_aload dX10_called_80 rfl ?_
          refine z_aload_n dX10_called_82 rfl rfl ?_
          refine m_getR dX10_called_83 fl_X10_36 (by decide) kt_0 rv_0_5 ?_
          refine z_iload_n dX10_called_86 rfl rfl ?_
          refine m_callV (as := [aR (some (18)), aI (x2)]) dX10_called_87 lk_X10_172 mok_X8_letterOf in_X8_letterOf sl_X8_letterOf (congrArg Prod.fst (isW_ahead _ t8).1) rfl rfl rfl (Nat.le_of_ble_eq_true rfl) rfl (Nat.le_of_ble_eq_true rfl) rfl (m_mono (fun r g15 hr => ?_) h)
          obtain ⟨z16, rfl, h⟩ := hr
          show Zm w (d + 5) mX10_called 90 [some (aR (some (0))), some (aI (x1)), some (aI (x2)), some (aI (x3)), some (aR (some (31 + 5 * (nm (x1 + 1)).toNat)))] [aI (z16)] g15 P
          exact m_iret dX10_called_90 rfl h
        rw [sw_n c14]; replace h := h.2
        by_cases c17 : nm x3 = 2
        · rw [sw_c c17]
          replace h := h.1 c17
          refine z_aload_n dX10_called_91 rfl rfl ?_
          refine m_getR dX10_called_92 fl_X10_36 (by decide) kt_0 rv_0_5 ?_
          refine m_getR dX10_called_95 fl_X10_131 (by decide) kt_18 rv_18_5 ?_
          refine z_aload dX10_called_98 rfl ?_
          refine m_getR dX10_called_100 fl_X10_167 (by decide) (congrArg Prod.fst (isW_ahead _ t8).1) (isW_ahead _ t8).2.2.2.2.2.2.2.1 ?_
          refine z_iload_n dX10_called_103 rfl rfl ?_
          obtain ⟨q20, q21, h⟩ := h
          refine m_iald dX10_called_104 (isW_ahead _ t8).2.2.2.1 q20 q21 ?_
          obtain ⟨q24, q25, h⟩ := h
          refine m_iald dX10_called_105 kv_24 q24 q25 ?_
          exact m_iret dX10_called_106 rfl h
        rw [sw_n c17]; replace h := h.2
        replace h := h c9 c14 c17
        rw [sw_e]
        refine z_aload dX10_called_107 rfl ?_
        refine z_aload_n dX10_called_109 rfl rfl ?_
        refine m_getR dX10_called_110 fl_X10_36 (by decide) kt_0 rv_0_5 ?_
        refine z_iload_n dX10_called_113 rfl rfl ?_
        refine m_callV (as := [aR (some (18)), aI (x2)]) dX10_called_114 lk_X10_176 mok_X8_spouseOf in_X8_spouseOf sl_X8_spouseOf (congrArg Prod.fst (isW_ahead _ t8).1) rfl rfl rfl (Nat.le_of_ble_eq_true rfl) rfl (Nat.le_of_ble_eq_true rfl) rfl (m_mono (fun r g26 hr => ?_) h)
        obtain ⟨z27, rfl, h⟩ := hr
        show Zm w (d + 5) mX10_called 117 [some (aR (some (0))), some (aI (x1)), some (aI (x2)), some (aI (x3)), some (aR (some (31 + 5 * (nm (x1 + 1)).toNat)))] [aI (z27)] g26 P
        exact m_iret dX10_called_117 rfl h
      · replace h := h.2 (Decidable.not_not.mp c5)
        refine z_bipush dX10_called_29 rfl ?_
        exact m_iret dX10_called_31 rfl h
theorem dX10_name_0 : decode cX10_name 0 = .ok (.aload_n 0, 1) := by decide +kernel
theorem dX10_name_1 : decode cX10_name 1 = .ok (.invokevirtual 111, 3) := by decide +kernel
theorem dX10_name_4 : decode cX10_name 4 = .ok (.iload_n 1, 1) := by decide +kernel
theorem dX10_name_5 : decode cX10_name 5 = .ok (.bipush 20, 2) := by decide +kernel
theorem dX10_name_7 : decode cX10_name 7 = .ok (.invokestatic 90, 3) := by decide +kernel
theorem dX10_name_10 : decode cX10_name 10 = .ok (.ifCond .eq 25, 3) := by decide +kernel
theorem dX10_name_13 : decode cX10_name 13 = .ok (.iload_n 2, 1) := by decide +kernel
theorem dX10_name_14 : decode cX10_name 14 = .ok (.aload_n 0, 1) := by decide +kernel
theorem dX10_name_15 : decode cX10_name 15 = .ok (.getfield 36, 3) := by decide +kernel
theorem dX10_name_18 : decode cX10_name 18 = .ok (.invokevirtual 179, 3) := by decide +kernel
theorem dX10_name_21 : decode cX10_name 21 = .ok (.invokestatic 90, 3) := by decide +kernel
theorem dX10_name_24 : decode cX10_name 24 = .ok (.ifCond .eq 11, 3) := by decide +kernel
theorem dX10_name_27 : decode cX10_name 27 = .ok (.iload_n 3, 1) := by decide +kernel
theorem dX10_name_28 : decode cX10_name 28 = .ok (.iconst 3, 1) := by decide +kernel
theorem dX10_name_29 : decode cX10_name 29 = .ok (.invokestatic 90, 3) := by decide +kernel
theorem dX10_name_32 : decode cX10_name 32 = .ok (.ifCond .ne 6, 3) := by decide +kernel
theorem dX10_name_35 : decode cX10_name 35 = .ok (.bipush (-2), 2) := by decide +kernel
theorem dX10_name_37 : decode cX10_name 37 = .ok (.ireturn, 1) := by decide +kernel
theorem dX10_name_38 : decode cX10_name 38 = .ok (.aload_n 0, 1) := by decide +kernel
theorem dX10_name_39 : decode cX10_name 39 = .ok (.getfield 45, 3) := by decide +kernel
theorem dX10_name_42 : decode cX10_name 42 = .ok (.getfield 163, 3) := by decide +kernel
theorem dX10_name_45 : decode cX10_name 45 = .ok (.iload_n 1, 1) := by decide +kernel
theorem dX10_name_46 : decode cX10_name 46 = .ok (.iconst 1, 1) := by decide +kernel
theorem dX10_name_47 : decode cX10_name 47 = .ok (.iadd, 1) := by decide +kernel
theorem dX10_name_48 : decode cX10_name 48 = .ok (.aaload, 1) := by decide +kernel
theorem dX10_name_49 : decode cX10_name 49 = .ok (.astore 4, 2) := by decide +kernel
theorem dX10_name_51 : decode cX10_name 51 = .ok (.iload_n 3, 1) := by decide +kernel
theorem dX10_name_52 : decode cX10_name 52 = .ok (.lookupswitch 44 #[(0, 28), (1, 36)], 28) := by decide +kernel
theorem dX10_name_80 : decode cX10_name 80 = .ok (.aload 4, 2) := by decide +kernel
theorem dX10_name_82 : decode cX10_name 82 = .ok (.getfield 182, 3) := by decide +kernel
theorem dX10_name_85 : decode cX10_name 85 = .ok (.iload_n 2, 1) := by decide +kernel
theorem dX10_name_86 : decode cX10_name 86 = .ok (.iaload, 1) := by decide +kernel
theorem dX10_name_87 : decode cX10_name 87 = .ok (.ireturn, 1) := by decide +kernel
theorem dX10_name_88 : decode cX10_name 88 = .ok (.aload 4, 2) := by decide +kernel
theorem dX10_name_90 : decode cX10_name 90 = .ok (.getfield 185, 3) := by decide +kernel
theorem dX10_name_93 : decode cX10_name 93 = .ok (.iload_n 2, 1) := by decide +kernel
theorem dX10_name_94 : decode cX10_name 94 = .ok (.iaload, 1) := by decide +kernel
theorem dX10_name_95 : decode cX10_name 95 = .ok (.ireturn, 1) := by decide +kernel
theorem dX10_name_96 : decode cX10_name 96 = .ok (.aload_n 0, 1) := by decide +kernel
theorem dX10_name_97 : decode cX10_name 97 = .ok (.getfield 36, 3) := by decide +kernel
theorem dX10_name_100 : decode cX10_name 100 = .ok (.iload_n 2, 1) := by decide +kernel
theorem dX10_name_101 : decode cX10_name 101 = .ok (.aload 4, 2) := by decide +kernel
theorem dX10_name_103 : decode cX10_name 103 = .ok (.getfield 185, 3) := by decide +kernel
theorem dX10_name_106 : decode cX10_name 106 = .ok (.iload_n 2, 1) := by decide +kernel
theorem dX10_name_107 : decode cX10_name 107 = .ok (.iaload, 1) := by decide +kernel
theorem dX10_name_108 : decode cX10_name 108 = .ok (.invokevirtual 188, 3) := by decide +kernel
theorem dX10_name_111 : decode cX10_name 111 = .ok (.ireturn, 1) := by decide +kernel
set_option maxRecDepth 4000 in
theorem s_X10_name_0 {w : GX} {d : Nat} {P : PN} {g : GI} (x1 : Int) (x2 : Int) (x3 : Int)
    (h : Zm w (d + 4) mX10_settle 0 [some (aR (some (0)))] [] g (fun r g1 => r = none ∧ (((nm (wi (x1) (20)) = 0 → P (some (aI ((-2)))) g1) ∧ (¬ nm (wi (x1) (20)) = 0 → ((((nm (wi (x2) (g1 18 9 + g1 18 10)) = 0 → P (some (aI ((-2)))) g1) ∧ (¬ nm (wi (x2) (g1 18 9 + g1 18 10)) = 0 → (((¬ nm (wi (x3) (3)) = 0 → (0 ≤ nm (x1 + 1) ∧ nm (x1 + 1) < 21 ∧ ((nm x3 = 0 → (0 ≤ nm x2 ∧ nm x2 < 28 ∧ P (some (aI (g1 (31 + 5 * (nm (x1 + 1)).toNat + 1) (nm x2).toNat))) g1)) ∧ (nm x3 = 1 → (0 ≤ nm x2 ∧ nm x2 < 28 ∧ P (some (aI (g1 (31 + 5 * (nm (x1 + 1)).toNat + 2) (nm x2).toNat))) g1)) ∧ (¬ nm x3 = 0 → ¬ nm x3 = 1 → (0 ≤ nm x2 ∧ nm x2 < 28 ∧ (0 ≤ nm (x2) ∧ nm (x2) < 28 ∧ P (some (aI (lwh (g1 23 (nm (x2)).toNat) (g1 (31 + 5 * (nm (x1 + 1)).toNat + 2) (nm x2).toNat) (g1 18 11)))) g1)))))) ∧ (nm (wi (x3) (3)) = 0 → P (some (aI ((-2)))) g1)))))))))))) :
    Zm w (d + 5) mX10_name 0 [some (aR (some (0))), some (aI (x1)), some (aI (x2)), some (aI (x3)), none] [] g P := by
  refine z_aload_n dX10_name_0 rfl rfl ?_
  refine m_callV (as := []) dX10_name_1 lk_X10_111 mok_X10_settle in_X10_settle sl_X10_settle kt_0 rfl rfl rfl (Nat.le_of_ble_eq_true rfl) rfl (Nat.le_of_ble_eq_true rfl) rfl (m_mono (fun r g1 hr => ?_) h)
  obtain ⟨rfl, h⟩ := hr
  show Zm w (d + 5) mX10_name 4 [some (aR (some (0))), some (aI (x1)), some (aI (x2)), some (aI (x3)), none] [] g1 P
  refine z_iload_n dX10_name_4 rfl rfl ?_
  refine z_bipush dX10_name_5 rfl ?_
  refine m_callS (as := [aI (x1), aI (20)]) dX10_name_7 lk_X10_90 mok_X10_within st_X10_within rfl (Nat.le_of_ble_eq_true rfl) rfl (Nat.le_of_ble_eq_true rfl) rfl (c_X10_within  ?_)
  show Zm w (d + 5) mX10_name 10 [some (aR (some (0))), some (aI (x1)), some (aI (x2)), some (aI (x3)), none] [aI (wi (x1) (20))] g1 P
  refine z_if_eq (tgt := 35) dX10_name_10 (by decide) (fun c3 => ?_) (fun c3 => ?_)
  · replace h := h.1 c3
    refine z_bipush dX10_name_35 rfl ?_
    exact m_iret dX10_name_37 rfl h
  · replace h := h.2 c3
    refine z_iload_n dX10_name_13 rfl rfl ?_
    refine z_aload_n dX10_name_14 rfl rfl ?_
    refine m_getR dX10_name_15 fl_X10_36 (by decide) kt_0 rv_0_5 ?_
    refine m_callV (as := []) dX10_name_18 lk_X10_179 mok_X9_names in_X9_names sl_X9_names kt_18 rfl rfl rfl (Nat.le_of_ble_eq_true rfl) rfl (Nat.le_of_ble_eq_true rfl) rfl (c_X9_names  ?_)
    show Zm w (d + 5) mX10_name 21 [some (aR (some (0))), some (aI (x1)), some (aI (x2)), some (aI (x3)), none] [aI (g1 18 9 + g1 18 10), aI (x2)] g1 P
    refine m_callS (as := [aI (x2), aI (g1 18 9 + g1 18 10)]) dX10_name_21 lk_X10_90 mok_X10_within st_X10_within rfl (Nat.le_of_ble_eq_true rfl) rfl (Nat.le_of_ble_eq_true rfl) rfl (c_X10_within  ?_)
    show Zm w (d + 5) mX10_name 24 [some (aR (some (0))), some (aI (x1)), some (aI (x2)), some (aI (x3)), none] [aI (wi (x2) (g1 18 9 + g1 18 10))] g1 P
    refine z_if_eq (tgt := 35) dX10_name_24 (by decide) (fun c4 => ?_) (fun c4 => ?_)
    · replace h := h.1 c4
      refine z_bipush dX10_name_35 rfl ?_
      exact m_iret dX10_name_37 rfl h
    · replace h := h.2 c4
      refine z_iload_n dX10_name_27 rfl rfl ?_
      refine z_iconst dX10_name_28 ?_
      refine m_callS (as := [aI (x3), aI (3)]) dX10_name_29 lk_X10_90 mok_X10_within st_X10_within rfl (Nat.le_of_ble_eq_true rfl) rfl (Nat.le_of_ble_eq_true rfl) rfl (c_X10_within  ?_)
      show Zm w (d + 5) mX10_name 32 [some (aR (some (0))), some (aI (x1)), some (aI (x2)), some (aI (x3)), none] [aI (wi (x3) (3))] g1 P
      refine z_if_ne (tgt := 38) dX10_name_32 (by decide) (fun c5 => ?_) (fun c5 => ?_)
      · replace h := h.1 c5
        refine z_aload_n dX10_name_38 rfl rfl ?_
        refine m_getR dX10_name_39 fl_X10_45 (by decide) kt_0 rv_0_6 ?_
        refine m_getR dX10_name_42 fl_X10_163 (by decide) kt_27 rv_27_5 ?_
        refine z_iload_n dX10_name_45 rfl rfl ?_
        refine z_iconst dX10_name_46 ?_
        refine z_iadd dX10_name_47 ?_
        obtain ⟨q6, q7, h⟩ := h
        have t8 : (nm (x1 + 1)).toNat < 21 := by omega
        refine m_aaldv dX10_name_48 kv_30 q6 q7 (w_ahead _ t8) ?_
        refine z_astore dX10_name_49 (by decide) rfl ?_
        show Zm w (d + 5) mX10_name 51 [some (aR (some (0))), some (aI (x1)), some (aI (x2)), some (aI (x3)), some (aR (some (31 + 5 * (nm (x1 + 1)).toNat)))] [] g1 P
        refine z_iload_n dX10_name_51 rfl rfl ?_
        refine z_lsw (df := 96) (cs := [(0, 80), (1, 88)]) dX10_name_52 (by decide) (by decide) (by decide) (by decide) ?_
        by_cases c9 : nm x3 = 0
        · rw [sw_c c9]
          replace h := h.1 c9
          refine z_aload dX10_name_80 rfl ?_
          refine m_getR dX10_name_82 fl_X10_182 (by decide) (congrArg Prod.fst (isW_ahead _ t8).1) (isW_ahead _ t8).2.2.2.2.2.1 ?_
          refine z_iload_n dX10_name_85 rfl rfl ?_
          obtain ⟨q12, q13, h⟩ := h
          refine m_iald dX10_name_86 (isW_ahead _ t8).2.1 q12 q13 ?_
          exact m_iret dX10_name_87 rfl h
        rw [sw_n c9]; replace h := h.2
        by_cases c14 : nm x3 = 1
        · rw [sw_c c14]
          replace h := h.1 c14
          refine z_aload dX10_name_88 rfl ?_
          refine m_getR dX10_name_90 fl_X10_185 (by decide) (congrArg Prod.fst (isW_ahead _ t8).1) (isW_ahead _ t8).2.2.2.2.2.2.1 ?_
          refine z_iload_n dX10_name_93 rfl rfl ?_
          obtain ⟨q17, q18, h⟩ := h
          refine m_iald dX10_name_94 (isW_ahead _ t8).2.2.1 q17 q18 ?_
          exact m_iret dX10_name_95 rfl h
        rw [sw_n c14]; replace h := h.2
        replace h := h c9 c14
        rw [sw_e]
        refine z_aload_n dX10_name_96 rfl rfl ?_
        refine m_getR dX10_name_97 fl_X10_36 (by decide) kt_0 rv_0_5 ?_
        refine z_iload_n dX10_name_100 rfl rfl ?_
        refine z_aload dX10_name_101 rfl ?_
        refine m_getR dX10_name_103 fl_X10_185 (by decide) (congrArg Prod.fst (isW_ahead _ t8).1) (isW_ahead _ t8).2.2.2.2.2.2.1 ?_
        refine z_iload_n dX10_name_106 rfl rfl ?_
        obtain ⟨q21, q22, h⟩ := h
        refine m_iald dX10_name_107 (isW_ahead _ t8).2.2.1 q21 q22 ?_
        obtain ⟨q23, q24, h⟩ := h
        refine m_callV (as := [aI (x2), aI (g1 (31 + 5 * (nm (x1 + 1)).toNat + 2) (nm x2).toNat)]) dX10_name_108 lk_X10_188 mok_X9_letterWhen in_X9_letterWhen sl_X9_letterWhen kt_18 rfl rfl rfl (Nat.le_of_ble_eq_true rfl) rfl (Nat.le_of_ble_eq_true rfl) rfl (c_X9_letterWhen q23 q24 ?_)
        show Zm w (d + 5) mX10_name 111 [some (aR (some (0))), some (aI (x1)), some (aI (x2)), some (aI (x3)), some (aR (some (31 + 5 * (nm (x1 + 1)).toNat)))] [aI (lwh (g1 23 (nm (x2)).toNat) (g1 (31 + 5 * (nm (x1 + 1)).toNat + 2) (nm x2).toNat) (g1 18 11))] g1 P
        exact m_iret dX10_name_111 rfl h
      · replace h := h.2 (Decidable.not_not.mp c5)
        refine z_bipush dX10_name_35 rfl ?_
        exact m_iret dX10_name_37 rfl h
theorem dX10_same_0 : decode cX10_same 0 = .ok (.aload_n 0, 1) := by decide +kernel
theorem dX10_same_1 : decode cX10_same 1 = .ok (.invokevirtual 111, 3) := by decide +kernel
theorem dX10_same_4 : decode cX10_same 4 = .ok (.iload_n 1, 1) := by decide +kernel
theorem dX10_same_5 : decode cX10_same 5 = .ok (.bipush 20, 2) := by decide +kernel
theorem dX10_same_7 : decode cX10_same 7 = .ok (.invokestatic 90, 3) := by decide +kernel
theorem dX10_same_10 : decode cX10_same 10 = .ok (.ifCond .ne 6, 3) := by decide +kernel
theorem dX10_same_13 : decode cX10_same 13 = .ok (.bipush (-2), 2) := by decide +kernel
theorem dX10_same_15 : decode cX10_same 15 = .ok (.ireturn, 1) := by decide +kernel
theorem dX10_same_16 : decode cX10_same 16 = .ok (.iconst 0, 1) := by decide +kernel
theorem dX10_same_17 : decode cX10_same 17 = .ok (.istore_n 2, 1) := by decide +kernel
theorem dX10_same_18 : decode cX10_same 18 = .ok (.iconst 0, 1) := by decide +kernel
theorem dX10_same_19 : decode cX10_same 19 = .ok (.istore_n 3, 1) := by decide +kernel
theorem dX10_same_20 : decode cX10_same 20 = .ok (.iload_n 3, 1) := by decide +kernel
theorem dX10_same_21 : decode cX10_same 21 = .ok (.bipush 64, 2) := by decide +kernel
theorem dX10_same_23 : decode cX10_same 23 = .ok (.if_icmp .ge 21, 3) := by decide +kernel
theorem dX10_same_26 : decode cX10_same 26 = .ok (.aload_n 0, 1) := by decide +kernel
theorem dX10_same_27 : decode cX10_same 27 = .ok (.iload_n 1, 1) := by decide +kernel
theorem dX10_same_28 : decode cX10_same 28 = .ok (.iload_n 3, 1) := by decide +kernel
theorem dX10_same_29 : decode cX10_same 29 = .ok (.invokevirtual 191, 3) := by decide +kernel
theorem dX10_same_32 : decode cX10_same 32 = .ok (.ifCond .eq 6, 3) := by decide +kernel
theorem dX10_same_35 : decode cX10_same 35 = .ok (.iinc 2 1, 3) := by decide +kernel
theorem dX10_same_38 : decode cX10_same 38 = .ok (.iinc 3 1, 3) := by decide +kernel
theorem dX10_same_41 : decode cX10_same 41 = .ok (.goto (-21), 3) := by decide +kernel
theorem dX10_same_44 : decode cX10_same 44 = .ok (.iload_n 2, 1) := by decide +kernel
theorem dX10_same_45 : decode cX10_same 45 = .ok (.ireturn, 1) := by decide +kernel
set_option maxRecDepth 4000 in
theorem s_X10_same_0 {w : GX} {d : Nat} {P : PN} {g : GI} (x1 : Int)
    (h : Zm w (d + 4) mX10_settle 0 [some (aR (some (0)))] [] g (fun r g1 => r = none ∧ (((¬ nm (wi (x1) (20)) = 0 → Zm w (d + 5) mX10_same 20 [some (aR (some (0))), some (aI (x1)), some (aI (0)), some (aI (0))] [] g1 P) ∧ (nm (wi (x1) (20)) = 0 → P (some (aI ((-2)))) g1))))) :
    Zm w (d + 5) mX10_same 0 [some (aR (some (0))), some (aI (x1)), none, none] [] g P := by
  refine z_aload_n dX10_same_0 rfl rfl ?_
  refine m_callV (as := []) dX10_same_1 lk_X10_111 mok_X10_settle in_X10_settle sl_X10_settle kt_0 rfl rfl rfl (Nat.le_of_ble_eq_true rfl) rfl (Nat.le_of_ble_eq_true rfl) rfl (m_mono (fun r g1 hr => ?_) h)
  obtain ⟨rfl, h⟩ := hr
  show Zm w (d + 5) mX10_same 4 [some (aR (some (0))), some (aI (x1)), none, none] [] g1 P
  refine z_iload_n dX10_same_4 rfl rfl ?_
  refine z_bipush dX10_same_5 rfl ?_
  refine m_callS (as := [aI (x1), aI (20)]) dX10_same_7 lk_X10_90 mok_X10_within st_X10_within rfl (Nat.le_of_ble_eq_true rfl) rfl (Nat.le_of_ble_eq_true rfl) rfl (c_X10_within  ?_)
  show Zm w (d + 5) mX10_same 10 [some (aR (some (0))), some (aI (x1)), none, none] [aI (wi (x1) (20))] g1 P
  refine z_if_ne (tgt := 16) dX10_same_10 (by decide) (fun c3 => ?_) (fun c3 => ?_)
  · replace h := h.1 c3
    refine z_iconst dX10_same_16 ?_
    refine z_istore_n dX10_same_17 rfl (by decide) rfl ?_
    show Zm w (d + 5) mX10_same 18 [some (aR (some (0))), some (aI (x1)), some (aI (0)), none] [] g1 P
    refine z_iconst dX10_same_18 ?_
    refine z_istore_n dX10_same_19 rfl (by decide) rfl ?_
    show Zm w (d + 5) mX10_same 20 [some (aR (some (0))), some (aI (x1)), some (aI (0)), some (aI (0))] [] g1 P
    exact z_weak (by simp [lle]) h
  · replace h := h.2 (Decidable.not_not.mp c3)
    refine z_bipush dX10_same_13 rfl ?_
    exact m_iret dX10_same_15 rfl h
set_option maxRecDepth 4000 in
theorem s_X10_same_20 {w : GX} {d : Nat} {P : PN} {g : GI} (x1 : Int) (x2 : Int) (x3 : Int)
    (h : ((¬ nm x3 < nm 64 → P (some (aI (x2))) g) ∧ (nm x3 < nm 64 → Zm w (d + 4) mX10_areAlike 0 [some (aR (some (0))), some (aI (x1)), some (aI (x3)), none, none, none] [] g (fun r g2 => ∃ z3 : Int, r = some (aI z3) ∧ ((nm z3 = 0 → Zm w (d + 5) mX10_same 20 [some (aR (some (0))), some (aI (x1)), some (aI (x2)), some (aI (x3 + 1))] [] g2 P) ∧ (¬ nm z3 = 0 → Zm w (d + 5) mX10_same 20 [some (aR (some (0))), some (aI (x1)), some (aI (x2 + 1)), some (aI (x3 + 1))] [] g2 P)))))) :
    Zm w (d + 5) mX10_same 20 [some (aR (some (0))), some (aI (x1)), some (aI (x2)), some (aI (x3))] [] g P := by
  refine z_iload_n dX10_same_20 rfl rfl ?_
  refine z_bipush dX10_same_21 rfl ?_
  refine z_icmp_ge (tgt := 44) dX10_same_23 (by decide) (fun c1 => ?_) (fun c1 => ?_)
  · replace h := h.1 c1
    refine z_iload_n dX10_same_44 rfl rfl ?_
    exact m_iret dX10_same_45 rfl h
  · replace h := h.2 (Decidable.not_not.mp c1)
    refine z_aload_n dX10_same_26 rfl rfl ?_
    refine z_iload_n dX10_same_27 rfl rfl ?_
    refine z_iload_n dX10_same_28 rfl rfl ?_
    refine m_callV (as := [aI (x1), aI (x3)]) dX10_same_29 lk_X10_191 mok_X10_areAlike in_X10_areAlike sl_X10_areAlike kt_0 rfl rfl rfl (Nat.le_of_ble_eq_true rfl) rfl (Nat.le_of_ble_eq_true rfl) rfl (m_mono (fun r g2 hr => ?_) h)
    obtain ⟨z3, rfl, h⟩ := hr
    show Zm w (d + 5) mX10_same 32 [some (aR (some (0))), some (aI (x1)), some (aI (x2)), some (aI (x3))] [aI (z3)] g2 P
    refine z_if_eq (tgt := 38) dX10_same_32 (by decide) (fun c4 => ?_) (fun c4 => ?_)
    · replace h := h.1 c4
      refine z_iinc dX10_same_38 rfl (by decide) rfl ?_
      show Zm w (d + 5) mX10_same 41 [some (aR (some (0))), some (aI (x1)), some (aI (x2)), some (aI (x3 + 1))] [] g2 P
      refine z_goto (tgt := 20) dX10_same_41 (by decide) ?_
      exact z_weak (by simp [lle]) h
    · replace h := h.2 c4
      refine z_iinc dX10_same_35 rfl (by decide) rfl ?_
      show Zm w (d + 5) mX10_same 38 [some (aR (some (0))), some (aI (x1)), some (aI (x2 + 1)), some (aI (x3))] [] g2 P
      refine z_iinc dX10_same_38 rfl (by decide) rfl ?_
      show Zm w (d + 5) mX10_same 41 [some (aR (some (0))), some (aI (x1)), some (aI (x2 + 1)), some (aI (x3 + 1))] [] g2 P
      refine z_goto (tgt := 20) dX10_same_41 (by decide) ?_
      exact z_weak (by simp [lle]) h
theorem dX10_first_0 : decode cX10_first 0 = .ok (.aload_n 0, 1) := by decide +kernel
theorem dX10_first_1 : decode cX10_first 1 = .ok (.invokevirtual 111, 3) := by decide +kernel
theorem dX10_first_4 : decode cX10_first 4 = .ok (.iload_n 1, 1) := by decide +kernel
theorem dX10_first_5 : decode cX10_first 5 = .ok (.iconst 2, 1) := by decide +kernel
theorem dX10_first_6 : decode cX10_first 6 = .ok (.invokestatic 90, 3) := by decide +kernel
theorem dX10_first_9 : decode cX10_first 9 = .ok (.ifCond .ne 6, 3) := by decide +kernel
theorem dX10_first_12 : decode cX10_first 12 = .ok (.bipush (-2), 2) := by decide +kernel
theorem dX10_first_14 : decode cX10_first 14 = .ok (.ireturn, 1) := by decide +kernel
theorem dX10_first_15 : decode cX10_first 15 = .ok (.iconst 0, 1) := by decide +kernel
theorem dX10_first_16 : decode cX10_first 16 = .ok (.istore_n 2, 1) := by decide +kernel
theorem dX10_first_17 : decode cX10_first 17 = .ok (.iload_n 2, 1) := by decide +kernel
theorem dX10_first_18 : decode cX10_first 18 = .ok (.bipush 20, 2) := by decide +kernel
theorem dX10_first_20 : decode cX10_first 20 = .ok (.if_icmp .ge 42, 3) := by decide +kernel
theorem dX10_first_23 : decode cX10_first 23 = .ok (.iconst 0, 1) := by decide +kernel
theorem dX10_first_24 : decode cX10_first 24 = .ok (.istore_n 3, 1) := by decide +kernel
theorem dX10_first_25 : decode cX10_first 25 = .ok (.iload_n 3, 1) := by decide +kernel
theorem dX10_first_26 : decode cX10_first 26 = .ok (.bipush 64, 2) := by decide +kernel
theorem dX10_first_28 : decode cX10_first 28 = .ok (.if_icmp .ge 28, 3) := by decide +kernel
theorem dX10_first_31 : decode cX10_first 31 = .ok (.aload_n 0, 1) := by decide +kernel
theorem dX10_first_32 : decode cX10_first 32 = .ok (.iload_n 2, 1) := by decide +kernel
theorem dX10_first_33 : decode cX10_first 33 = .ok (.iload_n 3, 1) := by decide +kernel
theorem dX10_first_34 : decode cX10_first 34 = .ok (.invokevirtual 191, 3) := by decide +kernel
theorem dX10_first_37 : decode cX10_first 37 = .ok (.ifCond .eq 13, 3) := by decide +kernel
theorem dX10_first_40 : decode cX10_first 40 = .ok (.iload_n 1, 1) := by decide +kernel
theorem dX10_first_41 : decode cX10_first 41 = .ok (.ifCond .ne 7, 3) := by decide +kernel
theorem dX10_first_44 : decode cX10_first 44 = .ok (.iload_n 2, 1) := by decide +kernel
theorem dX10_first_45 : decode cX10_first 45 = .ok (.goto 4, 3) := by decide +kernel
theorem dX10_first_48 : decode cX10_first 48 = .ok (.iload_n 3, 1) := by decide +kernel
theorem dX10_first_49 : decode cX10_first 49 = .ok (.ireturn, 1) := by decide +kernel
theorem dX10_first_50 : decode cX10_first 50 = .ok (.iinc 3 1, 3) := by decide +kernel
theorem dX10_first_53 : decode cX10_first 53 = .ok (.goto (-28), 3) := by decide +kernel
theorem dX10_first_56 : decode cX10_first 56 = .ok (.iinc 2 1, 3) := by decide +kernel
theorem dX10_first_59 : decode cX10_first 59 = .ok (.goto (-42), 3) := by decide +kernel
theorem dX10_first_62 : decode cX10_first 62 = .ok (.iconst (-1), 1) := by decide +kernel
theorem dX10_first_63 : decode cX10_first 63 = .ok (.ireturn, 1) := by decide +kernel
set_option maxRecDepth 4000 in
theorem s_X10_first_0 {w : GX} {d : Nat} {P : PN} {g : GI} (x1 : Int)
    (h : Zm w (d + 4) mX10_settle 0 [some (aR (some (0)))] [] g (fun r g1 => r = none ∧ (((¬ nm (wi (x1) (2)) = 0 → Zm w (d + 5) mX10_first 17 [some (aR (some (0))), some (aI (x1)), some (aI (0)), none] [] g1 P) ∧ (nm (wi (x1) (2)) = 0 → P (some (aI ((-2)))) g1))))) :
    Zm w (d + 5) mX10_first 0 [some (aR (some (0))), some (aI (x1)), none, none] [] g P := by
  refine z_aload_n dX10_first_0 rfl rfl ?_
  refine m_callV (as := []) dX10_first_1 lk_X10_111 mok_X10_settle in_X10_settle sl_X10_settle kt_0 rfl rfl rfl (Nat.le_of_ble_eq_true rfl) rfl (Nat.le_of_ble_eq_true rfl) rfl (m_mono (fun r g1 hr => ?_) h)
  obtain ⟨rfl, h⟩ := hr
  show Zm w (d + 5) mX10_first 4 [some (aR (some (0))), some (aI (x1)), none, none] [] g1 P
  refine z_iload_n dX10_first_4 rfl rfl ?_
  refine z_iconst dX10_first_5 ?_
  refine m_callS (as := [aI (x1), aI (2)]) dX10_first_6 lk_X10_90 mok_X10_within st_X10_within rfl (Nat.le_of_ble_eq_true rfl) rfl (Nat.le_of_ble_eq_true rfl) rfl (c_X10_within  ?_)
  show Zm w (d + 5) mX10_first 9 [some (aR (some (0))), some (aI (x1)), none, none] [aI (wi (x1) (2))] g1 P
  refine z_if_ne (tgt := 15) dX10_first_9 (by decide) (fun c3 => ?_) (fun c3 => ?_)
  · replace h := h.1 c3
    refine z_iconst dX10_first_15 ?_
    refine z_istore_n dX10_first_16 rfl (by decide) rfl ?_
    show Zm w (d + 5) mX10_first 17 [some (aR (some (0))), some (aI (x1)), some (aI (0)), none] [] g1 P
    exact z_weak (by simp [lle]) h
  · replace h := h.2 (Decidable.not_not.mp c3)
    refine z_bipush dX10_first_12 rfl ?_
    exact m_iret dX10_first_14 rfl h
set_option maxRecDepth 4000 in
theorem s_X10_first_17 {w : GX} {d : Nat} {P : PN} {g : GI} (x1 : Int) (x2 : Int)
    (h : ((¬ nm x2 < nm 20 → P (some (aI ((-1)))) g) ∧ (nm x2 < nm 20 → Zm w (d + 5) mX10_first 25 [some (aR (some (0))), some (aI (x1)), some (aI (x2)), some (aI (0))] [] g P))) :
    Zm w (d + 5) mX10_first 17 [some (aR (some (0))), some (aI (x1)), some (aI (x2)), none] [] g P := by
  refine z_iload_n dX10_first_17 rfl rfl ?_
  refine z_bipush dX10_first_18 rfl ?_
  refine z_icmp_ge (tgt := 62) dX10_first_20 (by decide) (fun c1 => ?_) (fun c1 => ?_)
  · replace h := h.1 c1
    refine z_iconst dX10_first_62 ?_
    exact m_iret dX10_first_63 rfl h
  · replace h := h.2 (Decidable.not_not.mp c1)
    refine z_iconst dX10_first_23 ?_
    refine z_istore_n dX10_first_24 rfl (by decide) rfl ?_
    show Zm w (d + 5) mX10_first 25 [some (aR (some (0))), some (aI (x1)), some (aI (x2)), some (aI (0))] [] g P
    exact z_weak (by simp [lle]) h
set_option maxRecDepth 4000 in
theorem s_X10_first_25 {w : GX} {d : Nat} {P : PN} {g : GI} (x1 : Int) (x2 : Int) (x3 : Int)
    (h : ((¬ nm x3 < nm 64 → Zm w (d + 5) mX10_first 17 [some (aR (some (0))), some (aI (x1)), some (aI (x2 + 1)), none] [] g P) ∧ (nm x3 < nm 64 → Zm w (d + 4) mX10_areAlike 0 [some (aR (some (0))), some (aI (x2)), some (aI (x3)), none, none, none] [] g (fun r g2 => ∃ z3 : Int, r = some (aI z3) ∧ ((nm z3 = 0 → Zm w (d + 5) mX10_first 25 [some (aR (some (0))), some (aI (x1)), some (aI (x2)), some (aI (x3 + 1))] [] g2 P) ∧ (¬ nm z3 = 0 → ((¬ nm x1 = 0 → P (some (aI (x3))) g2) ∧ (nm x1 = 0 → P (some (aI (x2))) g2)))))))) :
    Zm w (d + 5) mX10_first 25 [some (aR (some (0))), some (aI (x1)), some (aI (x2)), some (aI (x3))] [] g P := by
  refine z_iload_n dX10_first_25 rfl rfl ?_
  refine z_bipush dX10_first_26 rfl ?_
  refine z_icmp_ge (tgt := 56) dX10_first_28 (by decide) (fun c1 => ?_) (fun c1 => ?_)
  · replace h := h.1 c1
    refine z_iinc dX10_first_56 rfl (by decide) rfl ?_
    show Zm w (d + 5) mX10_first 59 [some (aR (some (0))), some (aI (x1)), some (aI (x2 + 1)), some (aI (x3))] [] g P
    refine z_goto (tgt := 17) dX10_first_59 (by decide) ?_
    exact z_weak (by simp [lle]) h
  · replace h := h.2 (Decidable.not_not.mp c1)
    refine z_aload_n dX10_first_31 rfl rfl ?_
    refine z_iload_n dX10_first_32 rfl rfl ?_
    refine z_iload_n dX10_first_33 rfl rfl ?_
    refine m_callV (as := [aI (x2), aI (x3)]) dX10_first_34 lk_X10_191 mok_X10_areAlike in_X10_areAlike sl_X10_areAlike kt_0 rfl rfl rfl (Nat.le_of_ble_eq_true rfl) rfl (Nat.le_of_ble_eq_true rfl) rfl (m_mono (fun r g2 hr => ?_) h)
    obtain ⟨z3, rfl, h⟩ := hr
    show Zm w (d + 5) mX10_first 37 [some (aR (some (0))), some (aI (x1)), some (aI (x2)), some (aI (x3))] [aI (z3)] g2 P
    refine z_if_eq (tgt := 50) dX10_first_37 (by decide) (fun c4 => ?_) (fun c4 => ?_)
    · replace h := h.1 c4
      refine z_iinc dX10_first_50 rfl (by decide) rfl ?_
      show Zm w (d + 5) mX10_first 53 [some (aR (some (0))), some (aI (x1)), some (aI (x2)), some (aI (x3 + 1))] [] g2 P
      refine z_goto (tgt := 25) dX10_first_53 (by decide) ?_
      exact z_weak (by simp [lle]) h
    · replace h := h.2 c4
      refine z_iload_n dX10_first_40 rfl rfl ?_
      refine z_if_ne (tgt := 48) dX10_first_41 (by decide) (fun c5 => ?_) (fun c5 => ?_)
      · replace h := h.1 c5
        refine z_iload_n dX10_first_48 rfl rfl ?_
        exact m_iret dX10_first_49 rfl h
      · replace h := h.2 (Decidable.not_not.mp c5)
        refine z_iload_n dX10_first_44 rfl rfl ?_
        refine z_goto (tgt := 49) dX10_first_45 (by decide) ?_
        exact m_iret dX10_first_49 rfl h
theorem dX10_changes_0 : decode cX10_changes 0 = .ok (.aload_n 0, 1) := by decide +kernel
theorem dX10_changes_1 : decode cX10_changes 1 = .ok (.invokevirtual 111, 3) := by decide +kernel
theorem dX10_changes_4 : decode cX10_changes 4 = .ok (.iload_n 1, 1) := by decide +kernel
theorem dX10_changes_5 : decode cX10_changes 5 = .ok (.aload_n 0, 1) := by decide +kernel
theorem dX10_changes_6 : decode cX10_changes 6 = .ok (.getfield 20, 3) := by decide +kernel
theorem dX10_changes_9 : decode cX10_changes 9 = .ok (.getfield 194, 3) := by decide +kernel
theorem dX10_changes_12 : decode cX10_changes 12 = .ok (.invokestatic 90, 3) := by decide +kernel
theorem dX10_changes_15 : decode cX10_changes 15 = .ok (.ifCond .ne 6, 3) := by decide +kernel
theorem dX10_changes_18 : decode cX10_changes 18 = .ok (.bipush (-2), 2) := by decide +kernel
theorem dX10_changes_20 : decode cX10_changes 20 = .ok (.ireturn, 1) := by decide +kernel
theorem dX10_changes_21 : decode cX10_changes 21 = .ok (.aload_n 0, 1) := by decide +kernel
theorem dX10_changes_22 : decode cX10_changes 22 = .ok (.getfield 45, 3) := by decide +kernel
theorem dX10_changes_25 : decode cX10_changes 25 = .ok (.getfield 195, 3) := by decide +kernel
theorem dX10_changes_28 : decode cX10_changes 28 = .ok (.iload_n 1, 1) := by decide +kernel
theorem dX10_changes_29 : decode cX10_changes 29 = .ok (.ishr, 1) := by decide +kernel
theorem dX10_changes_30 : decode cX10_changes 30 = .ok (.iconst 1, 1) := by decide +kernel
theorem dX10_changes_31 : decode cX10_changes 31 = .ok (.iand, 1) := by decide +kernel
theorem dX10_changes_32 : decode cX10_changes 32 = .ok (.ireturn, 1) := by decide +kernel
set_option maxRecDepth 4000 in
theorem s_X10_changes_0 {w : GX} {d : Nat} {P : PN} {g : GI} (x1 : Int)
    (h : Zm w (d + 4) mX10_settle 0 [some (aR (some (0)))] [] g (fun r g1 => r = none ∧ (((¬ nm (wi (x1) (g1 2 3)) = 0 → P (some (aI (iAnd (iShr (g1 27 7) x1) 1))) g1) ∧ (nm (wi (x1) (g1 2 3)) = 0 → P (some (aI ((-2)))) g1))))) :
    Zm w (d + 5) mX10_changes 0 [some (aR (some (0))), some (aI (x1))] [] g P := by
  refine z_aload_n dX10_changes_0 rfl rfl ?_
  refine m_callV (as := []) dX10_changes_1 lk_X10_111 mok_X10_settle in_X10_settle sl_X10_settle kt_0 rfl rfl rfl (Nat.le_of_ble_eq_true rfl) rfl (Nat.le_of_ble_eq_true rfl) rfl (m_mono (fun r g1 hr => ?_) h)
  obtain ⟨rfl, h⟩ := hr
  show Zm w (d + 5) mX10_changes 4 [some (aR (some (0))), some (aI (x1))] [] g1 P
  refine z_iload_n dX10_changes_4 rfl rfl ?_
  refine z_aload_n dX10_changes_5 rfl rfl ?_
  refine m_getR dX10_changes_6 fl_X10_20 (by decide) kt_0 rv_0_1 ?_
  refine z_getI dX10_changes_9 fl_X10_194 (by decide) kt_2 ?_
  refine m_callS (as := [aI (x1), aI (g1 2 3)]) dX10_changes_12 lk_X10_90 mok_X10_within st_X10_within rfl (Nat.le_of_ble_eq_true rfl) rfl (Nat.le_of_ble_eq_true rfl) rfl (c_X10_within  ?_)
  show Zm w (d + 5) mX10_changes 15 [some (aR (some (0))), some (aI (x1))] [aI (wi (x1) (g1 2 3))] g1 P
  refine z_if_ne (tgt := 21) dX10_changes_15 (by decide) (fun c3 => ?_) (fun c3 => ?_)
  · replace h := h.1 c3
    refine z_aload_n dX10_changes_21 rfl rfl ?_
    refine m_getR dX10_changes_22 fl_X10_45 (by decide) kt_0 rv_0_6 ?_
    refine z_getI dX10_changes_25 fl_X10_195 (by decide) kt_27 ?_
    refine z_iload_n dX10_changes_28 rfl rfl ?_
    refine z_ishr dX10_changes_29 ?_
    refine z_iconst dX10_changes_30 ?_
    refine z_iand dX10_changes_31 ?_
    exact m_iret dX10_changes_32 rfl h
  · replace h := h.2 (Decidable.not_not.mp c3)
    refine z_bipush dX10_changes_18 rfl ?_
    exact m_iret dX10_changes_20 rfl h
theorem dX10_returns_0 : decode cX10_returns 0 = .ok (.aload_n 0, 1) := by decide +kernel
theorem dX10_returns_1 : decode cX10_returns 1 = .ok (.invokevirtual 111, 3) := by decide +kernel
theorem dX10_returns_4 : decode cX10_returns 4 = .ok (.aload_n 0, 1) := by decide +kernel
theorem dX10_returns_5 : decode cX10_returns 5 = .ok (.iload_n 1, 1) := by decide +kernel
theorem dX10_returns_6 : decode cX10_returns 6 = .ok (.invokevirtual 121, 3) := by decide +kernel
theorem dX10_returns_9 : decode cX10_returns 9 = .ok (.ifCond .eq 29, 3) := by decide +kernel
theorem dX10_returns_12 : decode cX10_returns 12 = .ok (.iload_n 2, 1) := by decide +kernel
theorem dX10_returns_13 : decode cX10_returns 13 = .ok (.bipush 26, 2) := by decide +kernel
theorem dX10_returns_15 : decode cX10_returns 15 = .ok (.invokestatic 90, 3) := by decide +kernel
theorem dX10_returns_18 : decode cX10_returns 18 = .ok (.ifCond .eq 20, 3) := by decide +kernel
theorem dX10_returns_21 : decode cX10_returns 21 = .ok (.iload_n 3, 1) := by decide +kernel
theorem dX10_returns_22 : decode cX10_returns 22 = .ok (.bipush 20, 2) := by decide +kernel
theorem dX10_returns_24 : decode cX10_returns 24 = .ok (.invokestatic 90, 3) := by decide +kernel
theorem dX10_returns_27 : decode cX10_returns 27 = .ok (.ifCond .eq 11, 3) := by decide +kernel
theorem dX10_returns_30 : decode cX10_returns 30 = .ok (.iload 4, 2) := by decide +kernel
theorem dX10_returns_32 : decode cX10_returns 32 = .ok (.invokestatic 198, 3) := by decide +kernel
theorem dX10_returns_35 : decode cX10_returns 35 = .ok (.ifCond .ne 6, 3) := by decide +kernel
theorem dX10_returns_38 : decode cX10_returns 38 = .ok (.bipush (-2), 2) := by decide +kernel
theorem dX10_returns_40 : decode cX10_returns 40 = .ok (.ireturn, 1) := by decide +kernel
theorem dX10_returns_41 : decode cX10_returns 41 = .ok (.aload_n 0, 1) := by decide +kernel
theorem dX10_returns_42 : decode cX10_returns 42 = .ok (.getfield 54, 3) := by decide +kernel
theorem dX10_returns_45 : decode cX10_returns 45 = .ok (.iload_n 1, 1) := by decide +kernel
theorem dX10_returns_46 : decode cX10_returns 46 = .ok (.iload_n 2, 1) := by decide +kernel
theorem dX10_returns_47 : decode cX10_returns 47 = .ok (.iload_n 3, 1) := by decide +kernel
theorem dX10_returns_48 : decode cX10_returns 48 = .ok (.invokevirtual 201, 3) := by decide +kernel
theorem dX10_returns_51 : decode cX10_returns 51 = .ok (.iload 4, 2) := by decide +kernel
theorem dX10_returns_53 : decode cX10_returns 53 = .ok (.iconst (-1), 1) := by decide +kernel
theorem dX10_returns_54 : decode cX10_returns 54 = .ok (.if_icmp .ne 13, 3) := by decide +kernel
theorem dX10_returns_57 : decode cX10_returns 57 = .ok (.aload_n 0, 1) := by decide +kernel
theorem dX10_returns_58 : decode cX10_returns 58 = .ok (.getfield 54, 3) := by decide +kernel
theorem dX10_returns_61 : decode cX10_returns 61 = .ok (.getfield 205, 3) := by decide +kernel
theorem dX10_returns_64 : decode cX10_returns 64 = .ok (.goto 13, 3) := by decide +kernel
theorem dX10_returns_67 : decode cX10_returns 67 = .ok (.aload_n 0, 1) := by decide +kernel
theorem dX10_returns_68 : decode cX10_returns 68 = .ok (.getfield 54, 3) := by decide +kernel
theorem dX10_returns_71 : decode cX10_returns 71 = .ok (.getfield 208, 3) := by decide +kernel
theorem dX10_returns_74 : decode cX10_returns 74 = .ok (.iload 4, 2) := by decide +kernel
theorem dX10_returns_76 : decode cX10_returns 76 = .ok (.iaload, 1) := by decide +kernel
theorem dX10_returns_77 : decode cX10_returns 77 = .ok (.ireturn, 1) := by decide +kernel
set_option maxRecDepth 4000 in
theorem s_X10_returns_0 {w : GX} {d : Nat} {P : PN} {g : GI} (x1 : Int) (x2 : Int) (x3 : Int) (x4 : Int)
    (h : Zm w (d + 4) mX10_settle 0 [some (aR (some (0)))] [] g (fun r g1 => r = none ∧ (((nm (wi (x1) (g1 18 10)) = 0 → P (some (aI ((-2)))) g1) ∧ (¬ nm (wi (x1) (g1 18 10)) = 0 → (((nm (wi (x2) (26)) = 0 → P (some (aI ((-2)))) g1) ∧ (¬ nm (wi (x2) (26)) = 0 → (((nm (wi (x3) (20)) = 0 → P (some (aI ((-2)))) g1) ∧ (¬ nm (wi (x3) (20)) = 0 → (((¬ nm (n12 (x4)) = 0 → Zm w (d + 4) mX5_findBack 0 [some (aR (some (136))), some (aI (x1)), some (aI (x2)), some (aI (x3)), none, none] [] g1 (fun r g7 => r = none ∧ ((¬ nm x4 = nm ((-1)) → (0 ≤ nm x4 ∧ nm x4 < 2 ∧ P (some (aI (g7 147 (nm x4).toNat))) g7)) ∧ (nm x4 = nm ((-1)) → P (some (aI (g7 136 5))) g7)))) ∧ (nm (n12 (x4)) = 0 → P (some (aI ((-2)))) g1)))))))))))))) :
    Zm w (d + 5) mX10_returns 0 [some (aR (some (0))), some (aI (x1)), some (aI (x2)), some (aI (x3)), some (aI (x4))] [] g P := by
  refine z_aload_n dX10_returns_0 rfl rfl ?_
  refine m_callV (as := []) dX10_returns_1 lk_X10_111 mok_X10_settle in_X10_settle sl_X10_settle kt_0 rfl rfl rfl (Nat.le_of_ble_eq_true rfl) rfl (Nat.le_of_ble_eq_true rfl) rfl (m_mono (fun r g1 hr => ?_) h)
  obtain ⟨rfl, h⟩ := hr
  show Zm w (d + 5) mX10_returns 4 [some (aR (some (0))), some (aI (x1)), some (aI (x2)), some (aI (x3)), some (aI (x4))] [] g1 P
  refine z_aload_n dX10_returns_4 rfl rfl ?_
  refine z_iload_n dX10_returns_5 rfl rfl ?_
  refine m_callV (as := [aI (x1)]) dX10_returns_6 lk_X10_121 mok_X10_isPerson in_X10_isPerson sl_X10_isPerson kt_0 rfl rfl rfl (Nat.le_of_ble_eq_true rfl) rfl (Nat.le_of_ble_eq_true rfl) rfl (c_X10_isPerson  ?_)
  show Zm w (d + 5) mX10_returns 9 [some (aR (some (0))), some (aI (x1)), some (aI (x2)), some (aI (x3)), some (aI (x4))] [aI (wi (x1) (g1 18 10))] g1 P
  refine z_if_eq (tgt := 38) dX10_returns_9 (by decide) (fun c3 => ?_) (fun c3 => ?_)
  · replace h := h.1 c3
    refine z_bipush dX10_returns_38 rfl ?_
    exact m_iret dX10_returns_40 rfl h
  · replace h := h.2 c3
    refine z_iload_n dX10_returns_12 rfl rfl ?_
    refine z_bipush dX10_returns_13 rfl ?_
    refine m_callS (as := [aI (x2), aI (26)]) dX10_returns_15 lk_X10_90 mok_X10_within st_X10_within rfl (Nat.le_of_ble_eq_true rfl) rfl (Nat.le_of_ble_eq_true rfl) rfl (c_X10_within  ?_)
    show Zm w (d + 5) mX10_returns 18 [some (aR (some (0))), some (aI (x1)), some (aI (x2)), some (aI (x3)), some (aI (x4))] [aI (wi (x2) (26))] g1 P
    refine z_if_eq (tgt := 38) dX10_returns_18 (by decide) (fun c4 => ?_) (fun c4 => ?_)
    · replace h := h.1 c4
      refine z_bipush dX10_returns_38 rfl ?_
      exact m_iret dX10_returns_40 rfl h
    · replace h := h.2 c4
      refine z_iload_n dX10_returns_21 rfl rfl ?_
      refine z_bipush dX10_returns_22 rfl ?_
      refine m_callS (as := [aI (x3), aI (20)]) dX10_returns_24 lk_X10_90 mok_X10_within st_X10_within rfl (Nat.le_of_ble_eq_true rfl) rfl (Nat.le_of_ble_eq_true rfl) rfl (c_X10_within  ?_)
      show Zm w (d + 5) mX10_returns 27 [some (aR (some (0))), some (aI (x1)), some (aI (x2)), some (aI (x3)), some (aI (x4))] [aI (wi (x3) (20))] g1 P
      refine z_if_eq (tgt := 38) dX10_returns_27 (by decide) (fun c5 => ?_) (fun c5 => ?_)
      · replace h := h.1 c5
        refine z_bipush dX10_returns_38 rfl ?_
        exact m_iret dX10_returns_40 rfl h
      · replace h := h.2 c5
        refine z_iload dX10_returns_30 rfl ?_
        refine m_callS (as := [aI (x4)]) dX10_returns_32 lk_X10_198 mok_X10_isNoneOrOneOfTwo st_X10_isNoneOrOneOfTwo rfl (Nat.le_of_ble_eq_true rfl) rfl (Nat.le_of_ble_eq_true rfl) rfl (c_X10_isNoneOrOneOfTwo  ?_)
        show Zm w (d + 5) mX10_returns 35 [some (aR (some (0))), some (aI (x1)), some (aI (x2)), some (aI (x3)), some (aI (x4))] [aI (n12 (x4))] g1 P
        refine z_if_ne (tgt := 41) dX10_returns_35 (by decide) (fun c6 => ?_) (fun c6 => ?_)
        · replace h := h.1 c6
          refine z_aload_n dX10_returns_41 rfl rfl ?_
          refine m_getR dX10_returns_42 fl_X10_54 (by decide) kt_0 rv_0_7 ?_
          refine z_iload_n dX10_returns_45 rfl rfl ?_
          refine z_iload_n dX10_returns_46 rfl rfl ?_
          refine z_iload_n dX10_returns_47 rfl rfl ?_
          refine m_callV (as := [aI (x1), aI (x2), aI (x3)]) dX10_returns_48 lk_X10_201 mok_X5_findBack in_X5_findBack sl_X5_findBack kt_136 rfl rfl rfl (Nat.le_of_ble_eq_true rfl) rfl (Nat.le_of_ble_eq_true rfl) rfl (m_mono (fun r g7 hr => ?_) h)
          obtain ⟨rfl, h⟩ := hr
          show Zm w (d + 5) mX10_returns 51 [some (aR (some (0))), some (aI (x1)), some (aI (x2)), some (aI (x3)), some (aI (x4))] [] g7 P
          refine z_iload dX10_returns_51 rfl ?_
          refine z_iconst dX10_returns_53 ?_
          refine z_icmp_ne (tgt := 67) dX10_returns_54 (by decide) (fun c9 => ?_) (fun c9 => ?_)
          · replace h := h.1 c9
            refine z_aload_n dX10_returns_67 rfl rfl ?_
            refine m_getR dX10_returns_68 fl_X10_54 (by decide) kt_0 rv_0_7 ?_
            refine m_getR dX10_returns_71 fl_X10_208 (by decide) kt_136 rv_136_3 ?_
            refine z_iload dX10_returns_74 rfl ?_
            obtain ⟨q12, q13, h⟩ := h
            refine m_iald dX10_returns_76 kv_147 q12 q13 ?_
            exact m_iret dX10_returns_77 rfl h
          · replace h := h.2 (Decidable.not_not.mp c9)
            refine z_aload_n dX10_returns_57 rfl rfl ?_
            refine m_getR dX10_returns_58 fl_X10_54 (by decide) kt_0 rv_0_7 ?_
            refine z_getI dX10_returns_61 fl_X10_205 (by decide) kt_136 ?_
            refine z_goto (tgt := 77) dX10_returns_64 (by decide) ?_
            exact m_iret dX10_returns_77 rfl h
        · replace h := h.2 (Decidable.not_not.mp c6)
          refine z_bipush dX10_returns_38 rfl ?_
          exact m_iret dX10_returns_40 rfl h
theorem dX10_net_0 : decode cX10_net 0 = .ok (.aload_n 0, 1) := by decide +kernel
theorem dX10_net_1 : decode cX10_net 1 = .ok (.invokevirtual 111, 3) := by decide +kernel
theorem dX10_net_4 : decode cX10_net 4 = .ok (.iload_n 1, 1) := by decide +kernel
theorem dX10_net_5 : decode cX10_net 5 = .ok (.bipush 20, 2) := by decide +kernel
theorem dX10_net_7 : decode cX10_net 7 = .ok (.invokestatic 90, 3) := by decide +kernel
theorem dX10_net_10 : decode cX10_net 10 = .ok (.ifCond .eq 10, 3) := by decide +kernel
theorem dX10_net_13 : decode cX10_net 13 = .ok (.iload_n 2, 1) := by decide +kernel
theorem dX10_net_14 : decode cX10_net 14 = .ok (.invokestatic 198, 3) := by decide +kernel
theorem dX10_net_17 : decode cX10_net 17 = .ok (.ifCond .ne 6, 3) := by decide +kernel
theorem dX10_net_20 : decode cX10_net 20 = .ok (.bipush (-2), 2) := by decide +kernel
theorem dX10_net_22 : decode cX10_net 22 = .ok (.ireturn, 1) := by decide +kernel
theorem dX10_net_23 : decode cX10_net 23 = .ok (.aload_n 0, 1) := by decide +kernel
theorem dX10_net_24 : decode cX10_net 24 = .ok (.getfield 54, 3) := by decide +kernel
theorem dX10_net_27 : decode cX10_net 27 = .ok (.iload_n 1, 1) := by decide +kernel
theorem dX10_net_28 : decode cX10_net 28 = .ok (.invokevirtual 211, 3) := by decide +kernel
theorem dX10_net_31 : decode cX10_net 31 = .ok (.iload_n 2, 1) := by decide +kernel
theorem dX10_net_32 : decode cX10_net 32 = .ok (.iconst (-1), 1) := by decide +kernel
theorem dX10_net_33 : decode cX10_net 33 = .ok (.if_icmp .ne 13, 3) := by decide +kernel
theorem dX10_net_36 : decode cX10_net 36 = .ok (.aload_n 0, 1) := by decide +kernel
theorem dX10_net_37 : decode cX10_net 37 = .ok (.getfield 54, 3) := by decide +kernel
theorem dX10_net_40 : decode cX10_net 40 = .ok (.getfield 214, 3) := by decide +kernel
theorem dX10_net_43 : decode cX10_net 43 = .ok (.goto 12, 3) := by decide +kernel
theorem dX10_net_46 : decode cX10_net 46 = .ok (.aload_n 0, 1) := by decide +kernel
theorem dX10_net_47 : decode cX10_net 47 = .ok (.getfield 54, 3) := by decide +kernel
theorem dX10_net_50 : decode cX10_net 50 = .ok (.getfield 217, 3) := by decide +kernel
theorem dX10_net_53 : decode cX10_net 53 = .ok (.iload_n 2, 1) := by decide +kernel
theorem dX10_net_54 : decode cX10_net 54 = .ok (.iaload, 1) := by decide +kernel
theorem dX10_net_55 : decode cX10_net 55 = .ok (.ireturn, 1) := by decide +kernel
set_option maxRecDepth 4000 in
theorem s_X10_net_0 {w : GX} {d : Nat} {P : PN} {g : GI} (x1 : Int) (x2 : Int)
    (h : Zm w (d + 4) mX10_settle 0 [some (aR (some (0)))] [] g (fun r g1 => r = none ∧ (((nm (wi (x1) (20)) = 0 → P (some (aI ((-2)))) g1) ∧ (¬ nm (wi (x1) (20)) = 0 → (((¬ nm (n12 (x2)) = 0 → Zm w (d + 4) mX5_findNet 0 [some (aR (some (136))), some (aI (x1)), none, none, none] [] g1 (fun r g5 => r = none ∧ ((¬ nm x2 = nm ((-1)) → (0 ≤ nm x2 ∧ nm x2 < 2 ∧ P (some (aI (g5 148 (nm x2).toNat))) g5)) ∧ (nm x2 = nm ((-1)) → P (some (aI (g5 136 6))) g5)))) ∧ (nm (n12 (x2)) = 0 → P (some (aI ((-2)))) g1)))))))) :
    Zm w (d + 5) mX10_net 0 [some (aR (some (0))), some (aI (x1)), some (aI (x2))] [] g P := by
  refine z_aload_n dX10_net_0 rfl rfl ?_
  refine m_callV (as := []) dX10_net_1 lk_X10_111 mok_X10_settle in_X10_settle sl_X10_settle kt_0 rfl rfl rfl (Nat.le_of_ble_eq_true rfl) rfl (Nat.le_of_ble_eq_true rfl) rfl (m_mono (fun r g1 hr => ?_) h)
  obtain ⟨rfl, h⟩ := hr
  show Zm w (d + 5) mX10_net 4 [some (aR (some (0))), some (aI (x1)), some (aI (x2))] [] g1 P
  refine z_iload_n dX10_net_4 rfl rfl ?_
  refine z_bipush dX10_net_5 rfl ?_
  refine m_callS (as := [aI (x1), aI (20)]) dX10_net_7 lk_X10_90 mok_X10_within st_X10_within rfl (Nat.le_of_ble_eq_true rfl) rfl (Nat.le_of_ble_eq_true rfl) rfl (c_X10_within  ?_)
  show Zm w (d + 5) mX10_net 10 [some (aR (some (0))), some (aI (x1)), some (aI (x2))] [aI (wi (x1) (20))] g1 P
  refine z_if_eq (tgt := 20) dX10_net_10 (by decide) (fun c3 => ?_) (fun c3 => ?_)
  · replace h := h.1 c3
    refine z_bipush dX10_net_20 rfl ?_
    exact m_iret dX10_net_22 rfl h
  · replace h := h.2 c3
    refine z_iload_n dX10_net_13 rfl rfl ?_
    refine m_callS (as := [aI (x2)]) dX10_net_14 lk_X10_198 mok_X10_isNoneOrOneOfTwo st_X10_isNoneOrOneOfTwo rfl (Nat.le_of_ble_eq_true rfl) rfl (Nat.le_of_ble_eq_true rfl) rfl (c_X10_isNoneOrOneOfTwo  ?_)
    show Zm w (d + 5) mX10_net 17 [some (aR (some (0))), some (aI (x1)), some (aI (x2))] [aI (n12 (x2))] g1 P
    refine z_if_ne (tgt := 23) dX10_net_17 (by decide) (fun c4 => ?_) (fun c4 => ?_)
    · replace h := h.1 c4
      refine z_aload_n dX10_net_23 rfl rfl ?_
      refine m_getR dX10_net_24 fl_X10_54 (by decide) kt_0 rv_0_7 ?_
      refine z_iload_n dX10_net_27 rfl rfl ?_
      refine m_callV (as := [aI (x1)]) dX10_net_28 lk_X10_211 mok_X5_findNet in_X5_findNet sl_X5_findNet kt_136 rfl rfl rfl (Nat.le_of_ble_eq_true rfl) rfl (Nat.le_of_ble_eq_true rfl) rfl (m_mono (fun r g5 hr => ?_) h)
      obtain ⟨rfl, h⟩ := hr
      show Zm w (d + 5) mX10_net 31 [some (aR (some (0))), some (aI (x1)), some (aI (x2))] [] g5 P
      refine z_iload_n dX10_net_31 rfl rfl ?_
      refine z_iconst dX10_net_32 ?_
      refine z_icmp_ne (tgt := 46) dX10_net_33 (by decide) (fun c7 => ?_) (fun c7 => ?_)
      · replace h := h.1 c7
        refine z_aload_n dX10_net_46 rfl rfl ?_
        refine m_getR dX10_net_47 fl_X10_54 (by decide) kt_0 rv_0_7 ?_
        refine m_getR dX10_net_50 fl_X10_217 (by decide) kt_136 rv_136_4 ?_
        refine z_iload_n dX10_net_53 rfl rfl ?_
        obtain ⟨q10, q11, h⟩ := h
        refine m_iald dX10_net_54 kv_148 q10 q11 ?_
        exact m_iret dX10_net_55 rfl h
      · replace h := h.2 (Decidable.not_not.mp c7)
        refine z_aload_n dX10_net_36 rfl rfl ?_
        refine m_getR dX10_net_37 fl_X10_54 (by decide) kt_0 rv_0_7 ?_
        refine z_getI dX10_net_40 fl_X10_214 (by decide) kt_136 ?_
        refine z_goto (tgt := 55) dX10_net_43 (by decide) ?_
        exact m_iret dX10_net_55 rfl h
    · replace h := h.2 (Decidable.not_not.mp c4)
      refine z_bipush dX10_net_20 rfl ?_
      exact m_iret dX10_net_22 rfl h
theorem dX10_seen_0 : decode cX10_seen 0 = .ok (.iload_n 1, 1) := by decide +kernel
theorem dX10_seen_1 : decode cX10_seen 1 = .ok (.bipush 20, 2) := by decide +kernel
theorem dX10_seen_3 : decode cX10_seen 3 = .ok (.invokestatic 90, 3) := by decide +kernel
theorem dX10_seen_6 : decode cX10_seen 6 = .ok (.ifCond .eq 21, 3) := by decide +kernel
theorem dX10_seen_9 : decode cX10_seen 9 = .ok (.iload_n 2, 1) := by decide +kernel
theorem dX10_seen_10 : decode cX10_seen 10 = .ok (.bipush 8, 2) := by decide +kernel
theorem dX10_seen_12 : decode cX10_seen 12 = .ok (.invokestatic 90, 3) := by decide +kernel
theorem dX10_seen_15 : decode cX10_seen 15 = .ok (.ifCond .eq 12, 3) := by decide +kernel
theorem dX10_seen_18 : decode cX10_seen 18 = .ok (.iload_n 3, 1) := by decide +kernel
theorem dX10_seen_19 : decode cX10_seen 19 = .ok (.bipush 26, 2) := by decide +kernel
theorem dX10_seen_21 : decode cX10_seen 21 = .ok (.invokestatic 90, 3) := by decide +kernel
theorem dX10_seen_24 : decode cX10_seen 24 = .ok (.ifCond .ne 6, 3) := by decide +kernel
theorem dX10_seen_27 : decode cX10_seen 27 = .ok (.bipush (-2), 2) := by decide +kernel
theorem dX10_seen_29 : decode cX10_seen 29 = .ok (.ireturn, 1) := by decide +kernel
theorem dX10_seen_30 : decode cX10_seen 30 = .ok (.aload_n 0, 1) := by decide +kernel
theorem dX10_seen_31 : decode cX10_seen 31 = .ok (.getfield 30, 3) := by decide +kernel
theorem dX10_seen_34 : decode cX10_seen 34 = .ok (.iload_n 1, 1) := by decide +kernel
theorem dX10_seen_35 : decode cX10_seen 35 = .ok (.iload_n 2, 1) := by decide +kernel
theorem dX10_seen_36 : decode cX10_seen 36 = .ok (.iload_n 3, 1) := by decide +kernel
theorem dX10_seen_37 : decode cX10_seen 37 = .ok (.invokevirtual 143, 3) := by decide +kernel
theorem dX10_seen_40 : decode cX10_seen 40 = .ok (.ireturn, 1) := by decide +kernel
set_option maxRecDepth 4000 in
theorem s_X10_seen_0 {w : GX} {d : Nat} {P : PN} {g : GI} (x1 : Int) (x2 : Int) (x3 : Int)
    (h : (((nm (wi (x1) (20)) = 0 → P (some (aI ((-2)))) g) ∧ (¬ nm (wi (x1) (20)) = 0 → (((nm (wi (x2) (8)) = 0 → P (some (aI ((-2)))) g) ∧ (¬ nm (wi (x2) (8)) = 0 → (((¬ nm (wi (x3) (26)) = 0 → Zm w d mX4_add 0 [some (aR (some (14))), some (aI (x1)), some (aI (x2)), some (aI (x3))] [] g (fun r g4 => ∃ z5 : Int, r = some (aI z5) ∧ P (some (aI (z5))) g4)) ∧ (nm (wi (x3) (26)) = 0 → P (some (aI ((-2)))) g)))))))))) :
    Zm w (d + 1) mX10_seen 0 [some (aR (some (0))), some (aI (x1)), some (aI (x2)), some (aI (x3))] [] g P := by
  refine z_iload_n dX10_seen_0 rfl rfl ?_
  refine z_bipush dX10_seen_1 rfl ?_
  refine m_callS (as := [aI (x1), aI (20)]) dX10_seen_3 lk_X10_90 mok_X10_within st_X10_within rfl (Nat.le_of_ble_eq_true rfl) rfl (Nat.le_of_ble_eq_true rfl) rfl (c_X10_within  ?_)
  show Zm w (d + 1) mX10_seen 6 [some (aR (some (0))), some (aI (x1)), some (aI (x2)), some (aI (x3))] [aI (wi (x1) (20))] g P
  refine z_if_eq (tgt := 27) dX10_seen_6 (by decide) (fun c1 => ?_) (fun c1 => ?_)
  · replace h := h.1 c1
    refine z_bipush dX10_seen_27 rfl ?_
    exact m_iret dX10_seen_29 rfl h
  · replace h := h.2 c1
    refine z_iload_n dX10_seen_9 rfl rfl ?_
    refine z_bipush dX10_seen_10 rfl ?_
    refine m_callS (as := [aI (x2), aI (8)]) dX10_seen_12 lk_X10_90 mok_X10_within st_X10_within rfl (Nat.le_of_ble_eq_true rfl) rfl (Nat.le_of_ble_eq_true rfl) rfl (c_X10_within  ?_)
    show Zm w (d + 1) mX10_seen 15 [some (aR (some (0))), some (aI (x1)), some (aI (x2)), some (aI (x3))] [aI (wi (x2) (8))] g P
    refine z_if_eq (tgt := 27) dX10_seen_15 (by decide) (fun c2 => ?_) (fun c2 => ?_)
    · replace h := h.1 c2
      refine z_bipush dX10_seen_27 rfl ?_
      exact m_iret dX10_seen_29 rfl h
    · replace h := h.2 c2
      refine z_iload_n dX10_seen_18 rfl rfl ?_
      refine z_bipush dX10_seen_19 rfl ?_
      refine m_callS (as := [aI (x3), aI (26)]) dX10_seen_21 lk_X10_90 mok_X10_within st_X10_within rfl (Nat.le_of_ble_eq_true rfl) rfl (Nat.le_of_ble_eq_true rfl) rfl (c_X10_within  ?_)
      show Zm w (d + 1) mX10_seen 24 [some (aR (some (0))), some (aI (x1)), some (aI (x2)), some (aI (x3))] [aI (wi (x3) (26))] g P
      refine z_if_ne (tgt := 30) dX10_seen_24 (by decide) (fun c3 => ?_) (fun c3 => ?_)
      · replace h := h.1 c3
        refine z_aload_n dX10_seen_30 rfl rfl ?_
        refine m_getR dX10_seen_31 fl_X10_30 (by decide) kt_0 rv_0_4 ?_
        refine z_iload_n dX10_seen_34 rfl rfl ?_
        refine z_iload_n dX10_seen_35 rfl rfl ?_
        refine z_iload_n dX10_seen_36 rfl rfl ?_
        refine m_callV (as := [aI (x1), aI (x2), aI (x3)]) dX10_seen_37 lk_X10_143 mok_X4_add in_X4_add sl_X4_add kt_14 rfl rfl rfl (Nat.le_of_ble_eq_true rfl) rfl (Nat.le_of_ble_eq_true rfl) rfl (m_mono (fun r g4 hr => ?_) h)
        obtain ⟨z5, rfl, h⟩ := hr
        show Zm w (d + 1) mX10_seen 40 [some (aR (some (0))), some (aI (x1)), some (aI (x2)), some (aI (x3))] [aI (z5)] g4 P
        exact m_iret dX10_seen_40 rfl h
      · replace h := h.2 (Decidable.not_not.mp c3)
        refine z_bipush dX10_seen_27 rfl ?_
        exact m_iret dX10_seen_29 rfl h
theorem dX10_forget_0 : decode cX10_forget 0 = .ok (.aload_n 0, 1) := by decide +kernel
theorem dX10_forget_1 : decode cX10_forget 1 = .ok (.getfield 30, 3) := by decide +kernel
theorem dX10_forget_4 : decode cX10_forget 4 = .ok (.getfield 194, 3) := by decide +kernel
theorem dX10_forget_7 : decode cX10_forget 7 = .ok (.istore_n 1, 1) := by decide +kernel
theorem dX10_forget_8 : decode cX10_forget 8 = .ok (.aload_n 0, 1) := by decide +kernel
theorem dX10_forget_9 : decode cX10_forget 9 = .ok (.getfield 30, 3) := by decide +kernel
theorem dX10_forget_12 : decode cX10_forget 12 = .ok (.iconst 0, 1) := by decide +kernel
theorem dX10_forget_13 : decode cX10_forget 13 = .ok (.putfield 194, 3) := by decide +kernel
theorem dX10_forget_16 : decode cX10_forget 16 = .ok (.iload_n 1, 1) := by decide +kernel
theorem dX10_forget_17 : decode cX10_forget 17 = .ok (.ireturn, 1) := by decide +kernel
set_option maxRecDepth 4000 in
theorem s_X10_forget_0 {w : GX} {d : Nat} {P : PN} {g : GI} 
    (h : (∀ v1 : Int, v1 = g 14 3 → (∀ g2 : GI, g2 = up2 g 14 3 0 → P (some (aI (v1))) g2))) :
    Zm w d mX10_forget 0 [some (aR (some (0))), none] [] g P := by
  refine z_aload_n dX10_forget_0 rfl rfl ?_
  refine m_getR dX10_forget_1 fl_X10_30 (by decide) kt_0 rv_0_4 ?_
  refine z_getI dX10_forget_4 fl_X10_194 (by decide) kt_14 ?_
  replace h := h _ rfl
  refine z_istore_n dX10_forget_7 rfl (by decide) rfl ?_
  show Zm w d mX10_forget 8 [some (aR (some (0))), some (aI (g 14 3))] [] g P
  refine z_aload_n dX10_forget_8 rfl rfl ?_
  refine m_getR dX10_forget_9 fl_X10_30 (by decide) kt_0 rv_0_4 ?_
  refine z_iconst dX10_forget_12 ?_
  replace h := h _ rfl
  refine z_putI dX10_forget_13 fw_X10_194 (by decide) kt_14 ?_
  refine z_iload_n dX10_forget_16 rfl rfl ?_
  exact m_iret dX10_forget_17 rfl h
theorem dX10_never_0 : decode cX10_never 0 = .ok (.aload_n 0, 1) := by decide +kernel
theorem dX10_never_1 : decode cX10_never 1 = .ok (.invokevirtual 111, 3) := by decide +kernel
theorem dX10_never_4 : decode cX10_never 4 = .ok (.aload_n 0, 1) := by decide +kernel
theorem dX10_never_5 : decode cX10_never 5 = .ok (.getfield 63, 3) := by decide +kernel
theorem dX10_never_8 : decode cX10_never 8 = .ok (.invokevirtual 220, 3) := by decide +kernel
theorem dX10_never_11 : decode cX10_never 11 = .ok (.ireturn, 1) := by decide +kernel
set_option maxRecDepth 4000 in
theorem s_X10_never_0 {w : GX} {d : Nat} {P : PN} {g : GI} 
    (h : Zm w (d + 4) mX10_settle 0 [some (aR (some (0)))] [] g (fun r g1 => r = none ∧ Zm w (d + 4) mX3_neverBits 0 [some (aR (some (149))), none, none] [] g1 (fun r g3 => ∃ z4 : Int, r = some (aI z4) ∧ P (some (aI (z4))) g3))) :
    Zm w (d + 5) mX10_never 0 [some (aR (some (0)))] [] g P := by
  refine z_aload_n dX10_never_0 rfl rfl ?_
  refine m_callV (as := []) dX10_never_1 lk_X10_111 mok_X10_settle in_X10_settle sl_X10_settle kt_0 rfl rfl rfl (Nat.le_of_ble_eq_true rfl) rfl (Nat.le_of_ble_eq_true rfl) rfl (m_mono (fun r g1 hr => ?_) h)
  obtain ⟨rfl, h⟩ := hr
  show Zm w (d + 5) mX10_never 4 [some (aR (some (0)))] [] g1 P
  refine z_aload_n dX10_never_4 rfl rfl ?_
  refine m_getR dX10_never_5 fl_X10_63 (by decide) kt_0 rv_0_8 ?_
  refine m_callV (as := []) dX10_never_8 lk_X10_220 mok_X3_neverBits in_X3_neverBits sl_X3_neverBits kt_149 rfl rfl rfl (Nat.le_of_ble_eq_true rfl) rfl (Nat.le_of_ble_eq_true rfl) rfl (m_mono (fun r g3 hr => ?_) h)
  obtain ⟨z4, rfl, h⟩ := hr
  show Zm w (d + 5) mX10_never 11 [some (aR (some (0)))] [aI (z4)] g3 P
  exact m_iret dX10_never_11 rfl h
theorem dX10_lucky_0 : decode cX10_lucky 0 = .ok (.aload_n 0, 1) := by decide +kernel
theorem dX10_lucky_1 : decode cX10_lucky 1 = .ok (.invokevirtual 111, 3) := by decide +kernel
theorem dX10_lucky_4 : decode cX10_lucky 4 = .ok (.aload_n 0, 1) := by decide +kernel
theorem dX10_lucky_5 : decode cX10_lucky 5 = .ok (.iload_n 1, 1) := by decide +kernel
theorem dX10_lucky_6 : decode cX10_lucky 6 = .ok (.invokevirtual 121, 3) := by decide +kernel
theorem dX10_lucky_9 : decode cX10_lucky 9 = .ok (.ifCond .ne 6, 3) := by decide +kernel
theorem dX10_lucky_12 : decode cX10_lucky 12 = .ok (.bipush (-2), 2) := by decide +kernel
theorem dX10_lucky_14 : decode cX10_lucky 14 = .ok (.ireturn, 1) := by decide +kernel
theorem dX10_lucky_15 : decode cX10_lucky 15 = .ok (.aload_n 0, 1) := by decide +kernel
theorem dX10_lucky_16 : decode cX10_lucky 16 = .ok (.getfield 63, 3) := by decide +kernel
theorem dX10_lucky_19 : decode cX10_lucky 19 = .ok (.iload_n 1, 1) := by decide +kernel
theorem dX10_lucky_20 : decode cX10_lucky 20 = .ok (.invokevirtual 223, 3) := by decide +kernel
theorem dX10_lucky_23 : decode cX10_lucky 23 = .ok (.ireturn, 1) := by decide +kernel
set_option maxRecDepth 4000 in
theorem s_X10_lucky_0 {w : GX} {d : Nat} {P : PN} {g : GI} (x1 : Int)
    (h : Zm w (d + 4) mX10_settle 0 [some (aR (some (0)))] [] g (fun r g1 => r = none ∧ (((¬ nm (wi (x1) (g1 18 10)) = 0 → Zm w (d + 4) mX3_luckyBits 0 [some (aR (some (149))), some (aI (x1)), none, none] [] g1 (fun r g4 => ∃ z5 : Int, r = some (aI z5) ∧ P (some (aI (z5))) g4)) ∧ (nm (wi (x1) (g1 18 10)) = 0 → P (some (aI ((-2)))) g1))))) :
    Zm w (d + 5) mX10_lucky 0 [some (aR (some (0))), some (aI (x1))] [] g P := by
  refine z_aload_n dX10_lucky_0 rfl rfl ?_
  refine m_callV (as := []) dX10_lucky_1 lk_X10_111 mok_X10_settle in_X10_settle sl_X10_settle kt_0 rfl rfl rfl (Nat.le_of_ble_eq_true rfl) rfl (Nat.le_of_ble_eq_true rfl) rfl (m_mono (fun r g1 hr => ?_) h)
  obtain ⟨rfl, h⟩ := hr
  show Zm w (d + 5) mX10_lucky 4 [some (aR (some (0))), some (aI (x1))] [] g1 P
  refine z_aload_n dX10_lucky_4 rfl rfl ?_
  refine z_iload_n dX10_lucky_5 rfl rfl ?_
  refine m_callV (as := [aI (x1)]) dX10_lucky_6 lk_X10_121 mok_X10_isPerson in_X10_isPerson sl_X10_isPerson kt_0 rfl rfl rfl (Nat.le_of_ble_eq_true rfl) rfl (Nat.le_of_ble_eq_true rfl) rfl (c_X10_isPerson  ?_)
  show Zm w (d + 5) mX10_lucky 9 [some (aR (some (0))), some (aI (x1))] [aI (wi (x1) (g1 18 10))] g1 P
  refine z_if_ne (tgt := 15) dX10_lucky_9 (by decide) (fun c3 => ?_) (fun c3 => ?_)
  · replace h := h.1 c3
    refine z_aload_n dX10_lucky_15 rfl rfl ?_
    refine m_getR dX10_lucky_16 fl_X10_63 (by decide) kt_0 rv_0_8 ?_
    refine z_iload_n dX10_lucky_19 rfl rfl ?_
    refine m_callV (as := [aI (x1)]) dX10_lucky_20 lk_X10_223 mok_X3_luckyBits in_X3_luckyBits sl_X3_luckyBits kt_149 rfl rfl rfl (Nat.le_of_ble_eq_true rfl) rfl (Nat.le_of_ble_eq_true rfl) rfl (m_mono (fun r g4 hr => ?_) h)
    obtain ⟨z5, rfl, h⟩ := hr
    show Zm w (d + 5) mX10_lucky 23 [some (aR (some (0))), some (aI (x1))] [aI (z5)] g4 P
    exact m_iret dX10_lucky_23 rfl h
  · replace h := h.2 (Decidable.not_not.mp c3)
    refine z_bipush dX10_lucky_12 rfl ?_
    exact m_iret dX10_lucky_14 rfl h
theorem dX10_ask_0 : decode cX10_ask 0 = .ok (.aload_n 0, 1) := by decide +kernel
theorem dX10_ask_1 : decode cX10_ask 1 = .ok (.invokevirtual 111, 3) := by decide +kernel
theorem dX10_ask_4 : decode cX10_ask 4 = .ok (.iload_n 1, 1) := by decide +kernel
theorem dX10_ask_5 : decode cX10_ask 5 = .ok (.bipush 20, 2) := by decide +kernel
theorem dX10_ask_7 : decode cX10_ask 7 = .ok (.invokestatic 90, 3) := by decide +kernel
theorem dX10_ask_10 : decode cX10_ask 10 = .ok (.ifCond .ne 6, 3) := by decide +kernel
theorem dX10_ask_13 : decode cX10_ask 13 = .ok (.bipush (-2), 2) := by decide +kernel
theorem dX10_ask_15 : decode cX10_ask 15 = .ok (.ireturn, 1) := by decide +kernel
theorem dX10_ask_16 : decode cX10_ask 16 = .ok (.aload_n 0, 1) := by decide +kernel
theorem dX10_ask_17 : decode cX10_ask 17 = .ok (.getfield 63, 3) := by decide +kernel
theorem dX10_ask_20 : decode cX10_ask 20 = .ok (.aload_n 0, 1) := by decide +kernel
theorem dX10_ask_21 : decode cX10_ask 21 = .ok (.getfield 63, 3) := by decide +kernel
theorem dX10_ask_24 : decode cX10_ask 24 = .ok (.invokevirtual 220, 3) := by decide +kernel
theorem dX10_ask_27 : decode cX10_ask 27 = .ok (.iload_n 1, 1) := by decide +kernel
theorem dX10_ask_28 : decode cX10_ask 28 = .ok (.invokevirtual 226, 3) := by decide +kernel
theorem dX10_ask_31 : decode cX10_ask 31 = .ok (.ireturn, 1) := by decide +kernel
set_option maxRecDepth 4000 in
theorem s_X10_ask_0 {w : GX} {d : Nat} {P : PN} {g : GI} (x1 : Int)
    (h : Zm w (d + 4) mX10_settle 0 [some (aR (some (0)))] [] g (fun r g1 => r = none ∧ (((¬ nm (wi (x1) (20)) = 0 → Zm w (d + 4) mX3_neverBits 0 [some (aR (some (149))), none, none] [] g1 (fun r g4 => ∃ z5 : Int, r = some (aI z5) ∧ Zm w (d + 4) mX3_nextToAsk 0 [some (aR (some (149))), some (aI (z5)), some (aI (x1)), none, none] [] g4 (fun r g6 => ∃ z7 : Int, r = some (aI z7) ∧ P (some (aI (z7))) g6))) ∧ (nm (wi (x1) (20)) = 0 → P (some (aI ((-2)))) g1))))) :
    Zm w (d + 5) mX10_ask 0 [some (aR (some (0))), some (aI (x1))] [] g P := by
  refine z_aload_n dX10_ask_0 rfl rfl ?_
  refine m_callV (as := []) dX10_ask_1 lk_X10_111 mok_X10_settle in_X10_settle sl_X10_settle kt_0 rfl rfl rfl (Nat.le_of_ble_eq_true rfl) rfl (Nat.le_of_ble_eq_true rfl) rfl (m_mono (fun r g1 hr => ?_) h)
  obtain ⟨rfl, h⟩ := hr
  show Zm w (d + 5) mX10_ask 4 [some (aR (some (0))), some (aI (x1))] [] g1 P
  refine z_iload_n dX10_ask_4 rfl rfl ?_
  refine z_bipush dX10_ask_5 rfl ?_
  refine m_callS (as := [aI (x1), aI (20)]) dX10_ask_7 lk_X10_90 mok_X10_within st_X10_within rfl (Nat.le_of_ble_eq_true rfl) rfl (Nat.le_of_ble_eq_true rfl) rfl (c_X10_within  ?_)
  show Zm w (d + 5) mX10_ask 10 [some (aR (some (0))), some (aI (x1))] [aI (wi (x1) (20))] g1 P
  refine z_if_ne (tgt := 16) dX10_ask_10 (by decide) (fun c3 => ?_) (fun c3 => ?_)
  · replace h := h.1 c3
    refine z_aload_n dX10_ask_16 rfl rfl ?_
    refine m_getR dX10_ask_17 fl_X10_63 (by decide) kt_0 rv_0_8 ?_
    refine z_aload_n dX10_ask_20 rfl rfl ?_
    refine m_getR dX10_ask_21 fl_X10_63 (by decide) kt_0 rv_0_8 ?_
    refine m_callV (as := []) dX10_ask_24 lk_X10_220 mok_X3_neverBits in_X3_neverBits sl_X3_neverBits kt_149 rfl rfl rfl (Nat.le_of_ble_eq_true rfl) rfl (Nat.le_of_ble_eq_true rfl) rfl (m_mono (fun r g4 hr => ?_) h)
    obtain ⟨z5, rfl, h⟩ := hr
    show Zm w (d + 5) mX10_ask 27 [some (aR (some (0))), some (aI (x1))] [aI (z5), aR (some (149))] g4 P
    refine z_iload_n dX10_ask_27 rfl rfl ?_
    refine m_callV (as := [aI (z5), aI (x1)]) dX10_ask_28 lk_X10_226 mok_X3_nextToAsk in_X3_nextToAsk sl_X3_nextToAsk kt_149 rfl rfl rfl (Nat.le_of_ble_eq_true rfl) rfl (Nat.le_of_ble_eq_true rfl) rfl (m_mono (fun r g6 hr => ?_) h)
    obtain ⟨z7, rfl, h⟩ := hr
    show Zm w (d + 5) mX10_ask 31 [some (aR (some (0))), some (aI (x1))] [aI (z7)] g6 P
    exact m_iret dX10_ask_31 rfl h
  · replace h := h.2 (Decidable.not_not.mp c3)
    refine z_bipush dX10_ask_13 rfl ?_
    exact m_iret dX10_ask_15 rfl h
theorem dX10_flooded_0 : decode cX10_flooded 0 = .ok (.aload_n 0, 1) := by decide +kernel
theorem dX10_flooded_1 : decode cX10_flooded 1 = .ok (.invokevirtual 111, 3) := by decide +kernel
theorem dX10_flooded_4 : decode cX10_flooded 4 = .ok (.iload_n 1, 1) := by decide +kernel
theorem dX10_flooded_5 : decode cX10_flooded 5 = .ok (.bipush 17, 2) := by decide +kernel
theorem dX10_flooded_7 : decode cX10_flooded 7 = .ok (.invokestatic 90, 3) := by decide +kernel
theorem dX10_flooded_10 : decode cX10_flooded 10 = .ok (.ifCond .eq 39, 3) := by decide +kernel
theorem dX10_flooded_13 : decode cX10_flooded 13 = .ok (.iload_n 2, 1) := by decide +kernel
theorem dX10_flooded_14 : decode cX10_flooded 14 = .ok (.bipush 10, 2) := by decide +kernel
theorem dX10_flooded_16 : decode cX10_flooded 16 = .ok (.invokestatic 90, 3) := by decide +kernel
theorem dX10_flooded_19 : decode cX10_flooded 19 = .ok (.ifCond .eq 30, 3) := by decide +kernel
theorem dX10_flooded_22 : decode cX10_flooded 22 = .ok (.aload_n 0, 1) := by decide +kernel
theorem dX10_flooded_23 : decode cX10_flooded 23 = .ok (.iload_n 3, 1) := by decide +kernel
theorem dX10_flooded_24 : decode cX10_flooded 24 = .ok (.invokevirtual 121, 3) := by decide +kernel
theorem dX10_flooded_27 : decode cX10_flooded 27 = .ok (.ifCond .eq 22, 3) := by decide +kernel
theorem dX10_flooded_30 : decode cX10_flooded 30 = .ok (.iload 4, 2) := by decide +kernel
theorem dX10_flooded_32 : decode cX10_flooded 32 = .ok (.bipush 26, 2) := by decide +kernel
theorem dX10_flooded_34 : decode cX10_flooded 34 = .ok (.invokestatic 90, 3) := by decide +kernel
theorem dX10_flooded_37 : decode cX10_flooded 37 = .ok (.ifCond .eq 12, 3) := by decide +kernel
theorem dX10_flooded_40 : decode cX10_flooded 40 = .ok (.iload 5, 2) := by decide +kernel
theorem dX10_flooded_42 : decode cX10_flooded 42 = .ok (.iconst 2, 1) := by decide +kernel
theorem dX10_flooded_43 : decode cX10_flooded 43 = .ok (.invokestatic 90, 3) := by decide +kernel
theorem dX10_flooded_46 : decode cX10_flooded 46 = .ok (.ifCond .ne 7, 3) := by decide +kernel
theorem dX10_flooded_49 : decode cX10_flooded 49 = .ok (.ldc2_w 229, 3) := by decide +kernel
theorem dX10_flooded_52 : decode cX10_flooded 52 = .ok (.lreturn, 1) := by decide +kernel
theorem dX10_flooded_53 : decode cX10_flooded 53 = .ok (.aload_n 0, 1) := by decide +kernel
theorem dX10_flooded_54 : decode cX10_flooded 54 = .ok (.getfield 70, 3) := by decide +kernel
theorem dX10_flooded_57 : decode cX10_flooded 57 = .ok (.iload_n 1, 1) := by decide +kernel
theorem dX10_flooded_58 : decode cX10_flooded 58 = .ok (.iload_n 2, 1) := by decide +kernel
theorem dX10_flooded_59 : decode cX10_flooded 59 = .ok (.iload_n 3, 1) := by decide +kernel
theorem dX10_flooded_60 : decode cX10_flooded 60 = .ok (.iload 4, 2) := by decide +kernel
theorem dX10_flooded_62 : decode cX10_flooded 62 = .ok (.invokevirtual 231, 3) := by decide +kernel
theorem dX10_flooded_65 : decode cX10_flooded 65 = .ok (.iload 5, 2) := by decide +kernel
theorem dX10_flooded_67 : decode cX10_flooded 67 = .ok (.ifCond .ne 13, 3) := by decide +kernel
theorem dX10_flooded_70 : decode cX10_flooded 70 = .ok (.aload_n 0, 1) := by decide +kernel
theorem dX10_flooded_71 : decode cX10_flooded 71 = .ok (.getfield 70, 3) := by decide +kernel
theorem dX10_flooded_74 : decode cX10_flooded 74 = .ok (.getfield 235, 3) := by decide +kernel
theorem dX10_flooded_77 : decode cX10_flooded 77 = .ok (.goto 10, 3) := by decide +kernel
theorem dX10_flooded_80 : decode cX10_flooded 80 = .ok (.aload_n 0, 1) := by decide +kernel
theorem dX10_flooded_81 : decode cX10_flooded 81 = .ok (.getfield 70, 3) := by decide +kernel
theorem dX10_flooded_84 : decode cX10_flooded 84 = .ok (.getfield 239, 3) := by decide +kernel
theorem dX10_flooded_87 : decode cX10_flooded 87 = .ok (.lreturn, 1) := by decide +kernel
set_option maxRecDepth 4000 in
theorem s_X10_flooded_0 {w : GX} {d : Nat} {P : PN} {g : GI} (x1 : Int) (x2 : Int) (x3 : Int) (x4 : Int) (x5 : Int)
    (h : Zm w (d + 4) mX10_settle 0 [some (aR (some (0)))] [] g (fun r g1 => r = none ∧ (((nm (wi (x1) (17)) = 0 → P (some (aL ((-9223372036854775806)))) g1) ∧ (¬ nm (wi (x1) (17)) = 0 → (((nm (wi (x2) (10)) = 0 → P (some (aL ((-9223372036854775806)))) g1) ∧ (¬ nm (wi (x2) (10)) = 0 → (((nm (wi (x3) (g1 18 10)) = 0 → P (some (aL ((-9223372036854775806)))) g1) ∧ (¬ nm (wi (x3) (g1 18 10)) = 0 → (((nm (wi (x4) (26)) = 0 → P (some (aL ((-9223372036854775806)))) g1) ∧ (¬ nm (wi (x4) (26)) = 0 → (((¬ nm (wi (x5) (2)) = 0 → Zm w (d + 4) mX1_weigh 0 [some (aR (some (158))), some (aI (x1)), some (aI (x2)), some (aI (x3)), some (aI (x4)), none] [] g1 (fun r g8 => r = none ∧ ((¬ nm x5 = 0 → P (some (aL (g8 158 7))) g8) ∧ (nm x5 = 0 → P (some (aL (g8 158 6))) g8)))) ∧ (nm (wi (x5) (2)) = 0 → P (some (aL ((-9223372036854775806)))) g1))))))))))))))))) :
    Zm w (d + 5) mX10_flooded 0 [some (aR (some (0))), some (aI (x1)), some (aI (x2)), some (aI (x3)), some (aI (x4)), some (aI (x5))] [] g P := by
  refine z_aload_n dX10_flooded_0 rfl rfl ?_
  refine m_callV (as := []) dX10_flooded_1 lk_X10_111 mok_X10_settle in_X10_settle sl_X10_settle kt_0 rfl rfl rfl (Nat.le_of_ble_eq_true rfl) rfl (Nat.le_of_ble_eq_true rfl) rfl (m_mono (fun r g1 hr => ?_) h)
  obtain ⟨rfl, h⟩ := hr
  show Zm w (d + 5) mX10_flooded 4 [some (aR (some (0))), some (aI (x1)), some (aI (x2)), some (aI (x3)), some (aI (x4)), some (aI (x5))] [] g1 P
  refine z_iload_n dX10_flooded_4 rfl rfl ?_
  refine z_bipush dX10_flooded_5 rfl ?_
  refine m_callS (as := [aI (x1), aI (17)]) dX10_flooded_7 lk_X10_90 mok_X10_within st_X10_within rfl (Nat.le_of_ble_eq_true rfl) rfl (Nat.le_of_ble_eq_true rfl) rfl (c_X10_within  ?_)
  show Zm w (d + 5) mX10_flooded 10 [some (aR (some (0))), some (aI (x1)), some (aI (x2)), some (aI (x3)), some (aI (x4)), some (aI (x5))] [aI (wi (x1) (17))] g1 P
  refine z_if_eq (tgt := 49) dX10_flooded_10 (by decide) (fun c3 => ?_) (fun c3 => ?_)
  · replace h := h.1 c3
    refine z_ldc2 dX10_flooded_49 kl_X10_229 ?_
    exact m_lret dX10_flooded_52 rfl h
  · replace h := h.2 c3
    refine z_iload_n dX10_flooded_13 rfl rfl ?_
    refine z_bipush dX10_flooded_14 rfl ?_
    refine m_callS (as := [aI (x2), aI (10)]) dX10_flooded_16 lk_X10_90 mok_X10_within st_X10_within rfl (Nat.le_of_ble_eq_true rfl) rfl (Nat.le_of_ble_eq_true rfl) rfl (c_X10_within  ?_)
    show Zm w (d + 5) mX10_flooded 19 [some (aR (some (0))), some (aI (x1)), some (aI (x2)), some (aI (x3)), some (aI (x4)), some (aI (x5))] [aI (wi (x2) (10))] g1 P
    refine z_if_eq (tgt := 49) dX10_flooded_19 (by decide) (fun c4 => ?_) (fun c4 => ?_)
    · replace h := h.1 c4
      refine z_ldc2 dX10_flooded_49 kl_X10_229 ?_
      exact m_lret dX10_flooded_52 rfl h
    · replace h := h.2 c4
      refine z_aload_n dX10_flooded_22 rfl rfl ?_
      refine z_iload_n dX10_flooded_23 rfl rfl ?_
      refine m_callV (as := [aI (x3)]) dX10_flooded_24 lk_X10_121 mok_X10_isPerson in_X10_isPerson sl_X10_isPerson kt_0 rfl rfl rfl (Nat.le_of_ble_eq_true rfl) rfl (Nat.le_of_ble_eq_true rfl) rfl (c_X10_isPerson  ?_)
      show Zm w (d + 5) mX10_flooded 27 [some (aR (some (0))), some (aI (x1)), some (aI (x2)), some (aI (x3)), some (aI (x4)), some (aI (x5))] [aI (wi (x3) (g1 18 10))] g1 P
      refine z_if_eq (tgt := 49) dX10_flooded_27 (by decide) (fun c5 => ?_) (fun c5 => ?_)
      · replace h := h.1 c5
        refine z_ldc2 dX10_flooded_49 kl_X10_229 ?_
        exact m_lret dX10_flooded_52 rfl h
      · replace h := h.2 c5
        refine z_iload dX10_flooded_30 rfl ?_
        refine z_bipush dX10_flooded_32 rfl ?_
        refine m_callS (as := [aI (x4), aI (26)]) dX10_flooded_34 lk_X10_90 mok_X10_within st_X10_within rfl (Nat.le_of_ble_eq_true rfl) rfl (Nat.le_of_ble_eq_true rfl) rfl (c_X10_within  ?_)
        show Zm w (d + 5) mX10_flooded 37 [some (aR (some (0))), some (aI (x1)), some (aI (x2)), some (aI (x3)), some (aI (x4)), some (aI (x5))] [aI (wi (x4) (26))] g1 P
        refine z_if_eq (tgt := 49) dX10_flooded_37 (by decide) (fun c6 => ?_) (fun c6 => ?_)
        · replace h := h.1 c6
          refine z_ldc2 dX10_flooded_49 kl_X10_229 ?_
          exact m_lret dX10_flooded_52 rfl h
        · replace h := h.2 c6
          refine z_iload dX10_flooded_40 rfl ?_
          refine z_iconst dX10_flooded_42 ?_
          refine m_callS (as := [aI (x5), aI (2)]) dX10_flooded_43 lk_X10_90 mok_X10_within st_X10_within rfl (Nat.le_of_ble_eq_true rfl) rfl (Nat.le_of_ble_eq_true rfl) rfl (c_X10_within  ?_)
          show Zm w (d + 5) mX10_flooded 46 [some (aR (some (0))), some (aI (x1)), some (aI (x2)), some (aI (x3)), some (aI (x4)), some (aI (x5))] [aI (wi (x5) (2))] g1 P
          refine z_if_ne (tgt := 53) dX10_flooded_46 (by decide) (fun c7 => ?_) (fun c7 => ?_)
          · replace h := h.1 c7
            refine z_aload_n dX10_flooded_53 rfl rfl ?_
            refine m_getR dX10_flooded_54 fl_X10_70 (by decide) kt_0 rv_0_9 ?_
            refine z_iload_n dX10_flooded_57 rfl rfl ?_
            refine z_iload_n dX10_flooded_58 rfl rfl ?_
            refine z_iload_n dX10_flooded_59 rfl rfl ?_
            refine z_iload dX10_flooded_60 rfl ?_
            refine m_callV (as := [aI (x1), aI (x2), aI (x3), aI (x4)]) dX10_flooded_62 lk_X10_231 mok_X1_weigh in_X1_weigh sl_X1_weigh kt_158 rfl rfl rfl (Nat.le_of_ble_eq_true rfl) rfl (Nat.le_of_ble_eq_true rfl) rfl (m_mono (fun r g8 hr => ?_) h)
            obtain ⟨rfl, h⟩ := hr
            show Zm w (d + 5) mX10_flooded 65 [some (aR (some (0))), some (aI (x1)), some (aI (x2)), some (aI (x3)), some (aI (x4)), some (aI (x5))] [] g8 P
            refine z_iload dX10_flooded_65 rfl ?_
            refine z_if_ne (tgt := 80) dX10_flooded_67 (by decide) (fun c10 => ?_) (fun c10 => ?_)
            · replace h := h.1 c10
              refine z_aload_n dX10_flooded_80 rfl rfl ?_
              refine m_getR dX10_flooded_81 fl_X10_70 (by decide) kt_0 rv_0_9 ?_
              refine z_getL dX10_flooded_84 fl_X10_239 (by decide) kt_158 ?_
              exact m_lret dX10_flooded_87 rfl h
            · replace h := h.2 (Decidable.not_not.mp c10)
              refine z_aload_n dX10_flooded_70 rfl rfl ?_
              refine m_getR dX10_flooded_71 fl_X10_70 (by decide) kt_0 rv_0_9 ?_
              refine z_getL dX10_flooded_74 fl_X10_235 (by decide) kt_158 ?_
              refine z_goto (tgt := 87) dX10_flooded_77 (by decide) ?_
              exact m_lret dX10_flooded_87 rfl h
          · replace h := h.2 (Decidable.not_not.mp c7)
            refine z_ldc2 dX10_flooded_49 kl_X10_229 ?_
            exact m_lret dX10_flooded_52 rfl h
theorem dX10_crowd_0 : decode cX10_crowd 0 = .ok (.aload_n 0, 1) := by decide +kernel
theorem dX10_crowd_1 : decode cX10_crowd 1 = .ok (.invokevirtual 111, 3) := by decide +kernel
theorem dX10_crowd_4 : decode cX10_crowd 4 = .ok (.iload_n 2, 1) := by decide +kernel
theorem dX10_crowd_5 : decode cX10_crowd 5 = .ok (.bipush 20, 2) := by decide +kernel
theorem dX10_crowd_7 : decode cX10_crowd 7 = .ok (.invokestatic 90, 3) := by decide +kernel
theorem dX10_crowd_10 : decode cX10_crowd 10 = .ok (.ifCond .eq 16, 3) := by decide +kernel
theorem dX10_crowd_13 : decode cX10_crowd 13 = .ok (.iload_n 3, 1) := by decide +kernel
theorem dX10_crowd_14 : decode cX10_crowd 14 = .ok (.iconst (-1), 1) := by decide +kernel
theorem dX10_crowd_15 : decode cX10_crowd 15 = .ok (.if_icmp .eq 14, 3) := by decide +kernel
theorem dX10_crowd_18 : decode cX10_crowd 18 = .ok (.aload_n 0, 1) := by decide +kernel
theorem dX10_crowd_19 : decode cX10_crowd 19 = .ok (.iload_n 3, 1) := by decide +kernel
theorem dX10_crowd_20 : decode cX10_crowd 20 = .ok (.invokevirtual 121, 3) := by decide +kernel
theorem dX10_crowd_23 : decode cX10_crowd 23 = .ok (.ifCond .ne 6, 3) := by decide +kernel
theorem dX10_crowd_26 : decode cX10_crowd 26 = .ok (.bipush (-2), 2) := by decide +kernel
theorem dX10_crowd_28 : decode cX10_crowd 28 = .ok (.ireturn, 1) := by decide +kernel
theorem dX10_crowd_29 : decode cX10_crowd 29 = .ok (.aload_n 0, 1) := by decide +kernel
theorem dX10_crowd_30 : decode cX10_crowd 30 = .ok (.getfield 70, 3) := by decide +kernel
theorem dX10_crowd_33 : decode cX10_crowd 33 = .ok (.iload_n 1, 1) := by decide +kernel
theorem dX10_crowd_34 : decode cX10_crowd 34 = .ok (.iload_n 2, 1) := by decide +kernel
theorem dX10_crowd_35 : decode cX10_crowd 35 = .ok (.invokevirtual 242, 3) := by decide +kernel
theorem dX10_crowd_38 : decode cX10_crowd 38 = .ok (.astore 4, 2) := by decide +kernel
theorem dX10_crowd_40 : decode cX10_crowd 40 = .ok (.iload_n 3, 1) := by decide +kernel
theorem dX10_crowd_41 : decode cX10_crowd 41 = .ok (.iconst (-1), 1) := by decide +kernel
theorem dX10_crowd_42 : decode cX10_crowd 42 = .ok (.if_icmp .ne 15, 3) := by decide +kernel
theorem dX10_crowd_45 : decode cX10_crowd 45 = .ok (.aload 4, 2) := by decide +kernel
theorem dX10_crowd_47 : decode cX10_crowd 47 = .ok (.aload_n 0, 1) := by decide +kernel
theorem dX10_crowd_48 : decode cX10_crowd 48 = .ok (.getfield 36, 3) := by decide +kernel
theorem dX10_crowd_51 : decode cX10_crowd 51 = .ok (.invokevirtual 246, 3) := by decide +kernel
theorem dX10_crowd_54 : decode cX10_crowd 54 = .ok (.goto 13, 3) := by decide +kernel
theorem dX10_crowd_57 : decode cX10_crowd 57 = .ok (.aload 4, 2) := by decide +kernel
theorem dX10_crowd_59 : decode cX10_crowd 59 = .ok (.aload_n 0, 1) := by decide +kernel
theorem dX10_crowd_60 : decode cX10_crowd 60 = .ok (.getfield 36, 3) := by decide +kernel
theorem dX10_crowd_63 : decode cX10_crowd 63 = .ok (.iload_n 3, 1) := by decide +kernel
theorem dX10_crowd_64 : decode cX10_crowd 64 = .ok (.invokevirtual 172, 3) := by decide +kernel
theorem dX10_crowd_67 : decode cX10_crowd 67 = .ok (.ireturn, 1) := by decide +kernel
set_option maxRecDepth 4000 in
theorem s_X10_crowd_0 {w : GX} {d : Nat} {P : PN} {g : GI} (x1 : Int) (x2 : Int) (x3 : Int)
    (h : Zm w (d + 4) mX10_settle 0 [some (aR (some (0)))] [] g (fun r g1 => r = none ∧ (((nm (wi (x2) (20)) = 0 → P (some (aI ((-2)))) g1) ∧ (¬ nm (wi (x2) (20)) = 0 → ((nm x3 = nm ((-1)) → Zm w (d + 5) mX10_crowd 29 [some (aR (some (0))), some (aI (x1)), some (aI (x2)), some (aI (x3)), none] [] g1 P) ∧ (¬ nm x3 = nm ((-1)) → (((¬ nm (wi (x3) (g1 18 10)) = 0 → Zm w (d + 5) mX10_crowd 29 [some (aR (some (0))), some (aI (x1)), some (aI (x2)), some (aI (x3)), none] [] g1 P) ∧ (nm (wi (x3) (g1 18 10)) = 0 → P (some (aI ((-2)))) g1)))))))))) :
    Zm w (d + 5) mX10_crowd 0 [some (aR (some (0))), some (aI (x1)), some (aI (x2)), some (aI (x3)), none] [] g P := by
  refine z_aload_n dX10_crowd_0 rfl rfl ?_
  refine m_callV (as := []) dX10_crowd_1 lk_X10_111 mok_X10_settle in_X10_settle sl_X10_settle kt_0 rfl rfl rfl (Nat.le_of_ble_eq_true rfl) rfl (Nat.le_of_ble_eq_true rfl) rfl (m_mono (fun r g1 hr => ?_) h)
  obtain ⟨rfl, h⟩ := hr
  show Zm w (d + 5) mX10_crowd 4 [some (aR (some (0))), some (aI (x1)), some (aI (x2)), some (aI (x3)), none] [] g1 P
  refine z_iload_n dX10_crowd_4 rfl rfl ?_
  refine z_bipush dX10_crowd_5 rfl ?_
  refine m_callS (as := [aI (x2), aI (20)]) dX10_crowd_7 lk_X10_90 mok_X10_within st_X10_within rfl (Nat.le_of_ble_eq_true rfl) rfl (Nat.le_of_ble_eq_true rfl) rfl (c_X10_within  ?_)
  show Zm w (d + 5) mX10_crowd 10 [some (aR (some (0))), some (aI (x1)), some (aI (x2)), some (aI (x3)), none] [aI (wi (x2) (20))] g1 P
  refine z_if_eq (tgt := 26) dX10_crowd_10 (by decide) (fun c3 => ?_) (fun c3 => ?_)
  · replace h := h.1 c3
    refine z_bipush dX10_crowd_26 rfl ?_
    exact m_iret dX10_crowd_28 rfl h
  · replace h := h.2 c3
    refine z_iload_n dX10_crowd_13 rfl rfl ?_
    refine z_iconst dX10_crowd_14 ?_
    refine z_icmp_eq (tgt := 29) dX10_crowd_15 (by decide) (fun c4 => ?_) (fun c4 => ?_)
    · replace h := h.1 c4
      exact z_weak (by simp [lle]) h
    · replace h := h.2 c4
      refine z_aload_n dX10_crowd_18 rfl rfl ?_
      refine z_iload_n dX10_crowd_19 rfl rfl ?_
      refine m_callV (as := [aI (x3)]) dX10_crowd_20 lk_X10_121 mok_X10_isPerson in_X10_isPerson sl_X10_isPerson kt_0 rfl rfl rfl (Nat.le_of_ble_eq_true rfl) rfl (Nat.le_of_ble_eq_true rfl) rfl (c_X10_isPerson  ?_)
      show Zm w (d + 5) mX10_crowd 23 [some (aR (some (0))), some (aI (x1)), some (aI (x2)), some (aI (x3)), none] [aI (wi (x3) (g1 18 10))] g1 P
      refine z_if_ne (tgt := 29) dX10_crowd_23 (by decide) (fun c5 => ?_) (fun c5 => ?_)
      · replace h := h.1 c5
        exact z_weak (by simp [lle]) h
      · replace h := h.2 (Decidable.not_not.mp c5)
        refine z_bipush dX10_crowd_26 rfl ?_
        exact m_iret dX10_crowd_28 rfl h
set_option maxRecDepth 4000 in
theorem s_X10_crowd_29 {w : GX} {d : Nat} {P : PN} {g : GI} (x1 : Int) (x2 : Int) (x3 : Int)
    (h : Zm w (d + 4) mX1_crowdedWater 0 [some (aR (some (158))), some (aI (x1)), some (aI (x2)), none, none, none, none] [] g (fun r g1 => ∃ z2 : Nat, r = some (aR (some z2)) ∧ isW z2 ∧ ((¬ nm x3 = nm ((-1)) → Zm w (d + 4) mX8_letterOf 0 [some (aR (some (z2))), some (aR (some (18))), some (aI (x3)), none] [] g1 (fun r g5 => ∃ z6 : Int, r = some (aI z6) ∧ P (some (aI (z6))) g5)) ∧ (nm x3 = nm ((-1)) → Zm w (d + 4) mX8_lettersInUse 0 [some (aR (some (z2))), some (aR (some (18))), none, none] [] g1 (fun r g7 => ∃ z8 : Int, r = some (aI z8) ∧ P (some (aI (z8))) g7))))) :
    Zm w (d + 5) mX10_crowd 29 [some (aR (some (0))), some (aI (x1)), some (aI (x2)), some (aI (x3)), none] [] g P := by
  refine z_aload_n dX10_crowd_29 rfl rfl ?_
  refine m_getR dX10_crowd_30 fl_X10_70 (by decide) kt_0 rv_0_9 ?_
  refine z_iload_n dX10_crowd_33 rfl rfl ?_
  refine z_iload_n dX10_crowd_34 rfl rfl ?_
  refine m_callV (as := [aI (x1), aI (x2)]) dX10_crowd_35 lk_X10_242 mok_X1_crowdedWater in_X1_crowdedWater sl_X1_crowdedWater kt_158 rfl rfl rfl (Nat.le_of_ble_eq_true rfl) rfl (Nat.le_of_ble_eq_true rfl) rfl (m_mono (fun r g1 hr => ?_) h)
  obtain ⟨z2, rfl, q3, h⟩ := hr
  show Zm w (d + 5) mX10_crowd 38 [some (aR (some (0))), some (aI (x1)), some (aI (x2)), some (aI (x3)), none] [aR (some (z2))] g1 P
  refine z_astore dX10_crowd_38 (by decide) rfl ?_
  show Zm w (d + 5) mX10_crowd 40 [some (aR (some (0))), some (aI (x1)), some (aI (x2)), some (aI (x3)), some (aR (some (z2)))] [] g1 P
  refine z_iload_n dX10_crowd_40 rfl rfl ?_
  refine z_iconst dX10_crowd_41 ?_
  refine z_icmp_ne (tgt := 57) dX10_crowd_42 (by decide) (fun c4 => ?_) (fun c4 => ?_)
  · replace h := h.1 c4
    refine z_aload dX10_crowd_57 rfl ?_
    refine z_aload_n dX10_crowd_59 rfl rfl ?_
    refine m_getR dX10_crowd_60 fl_X10_36 (by decide) kt_0 rv_0_5 ?_
    refine z_iload_n dX10_crowd_63 rfl rfl ?_
    refine m_callV (as := [aR (some (18)), aI (x3)]) dX10_crowd_64 lk_X10_172 mok_X8_letterOf in_X8_letterOf sl_X8_letterOf (congrArg Prod.fst q3.1) rfl rfl rfl (Nat.le_of_ble_eq_true rfl) rfl (Nat.le_of_ble_eq_true rfl) rfl (m_mono (fun r g5 hr => ?_) h)
    obtain ⟨z6, rfl, h⟩ := hr
    show Zm w (d + 5) mX10_crowd 67 [some (aR (some (0))), some (aI (x1)), some (aI (x2)), some (aI (x3)), some (aR (some (z2)))] [aI (z6)] g5 P
    exact m_iret dX10_crowd_67 rfl h
  · replace h := h.2 (Decidable.not_not.mp c4)
    refine z_aload dX10_crowd_45 rfl ?_
    refine z_aload_n dX10_crowd_47 rfl rfl ?_
    refine m_getR dX10_crowd_48 fl_X10_36 (by decide) kt_0 rv_0_5 ?_
    refine m_callV (as := [aR (some (18))]) dX10_crowd_51 lk_X10_246 mok_X8_lettersInUse in_X8_lettersInUse sl_X8_lettersInUse (congrArg Prod.fst q3.1) rfl rfl rfl (Nat.le_of_ble_eq_true rfl) rfl (Nat.le_of_ble_eq_true rfl) rfl (m_mono (fun r g7 hr => ?_) h)
    obtain ⟨z8, rfl, h⟩ := hr
    show Zm w (d + 5) mX10_crowd 54 [some (aR (some (0))), some (aI (x1)), some (aI (x2)), some (aI (x3)), some (aR (some (z2)))] [aI (z8)] g7 P
    refine z_goto (tgt := 67) dX10_crowd_54 (by decide) ?_
    exact m_iret dX10_crowd_67 rfl h
theorem dX10_sheet_0 : decode cX10_sheet 0 = .ok (.iload_n 1, 1) := by decide +kernel
theorem dX10_sheet_1 : decode cX10_sheet 1 = .ok (.iconst 4, 1) := by decide +kernel
theorem dX10_sheet_2 : decode cX10_sheet 2 = .ok (.invokestatic 90, 3) := by decide +kernel
theorem dX10_sheet_5 : decode cX10_sheet 5 = .ok (.ifCond .eq 17, 3) := by decide +kernel
theorem dX10_sheet_8 : decode cX10_sheet 8 = .ok (.iload_n 2, 1) := by decide +kernel
theorem dX10_sheet_9 : decode cX10_sheet 9 = .ok (.iconst 3, 1) := by decide +kernel
theorem dX10_sheet_10 : decode cX10_sheet 10 = .ok (.invokestatic 90, 3) := by decide +kernel
theorem dX10_sheet_13 : decode cX10_sheet 13 = .ok (.ifCond .eq 9, 3) := by decide +kernel
theorem dX10_sheet_16 : decode cX10_sheet 16 = .ok (.iload_n 3, 1) := by decide +kernel
theorem dX10_sheet_17 : decode cX10_sheet 17 = .ok (.bipush 60, 2) := by decide +kernel
theorem dX10_sheet_19 : decode cX10_sheet 19 = .ok (.if_icmp .le 6, 3) := by decide +kernel
theorem dX10_sheet_22 : decode cX10_sheet 22 = .ok (.bipush (-2), 2) := by decide +kernel
theorem dX10_sheet_24 : decode cX10_sheet 24 = .ok (.ireturn, 1) := by decide +kernel
theorem dX10_sheet_25 : decode cX10_sheet 25 = .ok (.iload_n 3, 1) := by decide +kernel
theorem dX10_sheet_26 : decode cX10_sheet 26 = .ok (.ifCond .ge 9, 3) := by decide +kernel
theorem dX10_sheet_29 : decode cX10_sheet 29 = .ok (.aload_n 0, 1) := by decide +kernel
theorem dX10_sheet_30 : decode cX10_sheet 30 = .ok (.iconst 5, 1) := by decide +kernel
theorem dX10_sheet_31 : decode cX10_sheet 31 = .ok (.invokevirtual 152, 3) := by decide +kernel
theorem dX10_sheet_34 : decode cX10_sheet 34 = .ok (.ireturn, 1) := by decide +kernel
theorem dX10_sheet_35 : decode cX10_sheet 35 = .ok (.aload_n 0, 1) := by decide +kernel
theorem dX10_sheet_36 : decode cX10_sheet 36 = .ok (.getfield 76, 3) := by decide +kernel
theorem dX10_sheet_39 : decode cX10_sheet 39 = .ok (.iload_n 1, 1) := by decide +kernel
theorem dX10_sheet_40 : decode cX10_sheet 40 = .ok (.aaload, 1) := by decide +kernel
theorem dX10_sheet_41 : decode cX10_sheet 41 = .ok (.iload_n 2, 1) := by decide +kernel
theorem dX10_sheet_42 : decode cX10_sheet 42 = .ok (.iload_n 3, 1) := by decide +kernel
theorem dX10_sheet_43 : decode cX10_sheet 43 = .ok (.invokevirtual 250, 3) := by decide +kernel
theorem dX10_sheet_46 : decode cX10_sheet 46 = .ok (.iload_n 3, 1) := by decide +kernel
theorem dX10_sheet_47 : decode cX10_sheet 47 = .ok (.ireturn, 1) := by decide +kernel
set_option maxRecDepth 4000 in
theorem s_X10_sheet_0 {w : GX} {d : Nat} {P : PN} {g : GI} (x1 : Int) (x2 : Int) (x3 : Int)
    (h : (((nm (wi (x1) (4)) = 0 → P (some (aI ((-2)))) g) ∧ (¬ nm (wi (x1) (4)) = 0 → (((nm (wi (x2) (3)) = 0 → P (some (aI ((-2)))) g) ∧ (¬ nm (wi (x2) (3)) = 0 → ((¬ nm 60 < nm x3 → ((¬ nm x3 < 0 → (0 ≤ nm x1 ∧ nm x1 < 4 ∧ Zm w (d + 1) mX6_renew 0 [some (aR (some (220 + 2 * (nm x1).toNat))), some (aI (x2)), some (aI (x3))] [] g (fun r g8 => r = none ∧ P (some (aI (x3))) g8))) ∧ (nm x3 < 0 → (∀ g10 : GI, g10 = up2 g 0 11 (5) → P (some (aI ((-10) - (5)))) g10)))) ∧ (nm 60 < nm x3 → P (some (aI ((-2)))) g))))))))) :
    Zm w (d + 2) mX10_sheet 0 [some (aR (some (0))), some (aI (x1)), some (aI (x2)), some (aI (x3))] [] g P := by
  refine z_iload_n dX10_sheet_0 rfl rfl ?_
  refine z_iconst dX10_sheet_1 ?_
  refine m_callS (as := [aI (x1), aI (4)]) dX10_sheet_2 lk_X10_90 mok_X10_within st_X10_within rfl (Nat.le_of_ble_eq_true rfl) rfl (Nat.le_of_ble_eq_true rfl) rfl (c_X10_within  ?_)
  show Zm w (d + 2) mX10_sheet 5 [some (aR (some (0))), some (aI (x1)), some (aI (x2)), some (aI (x3))] [aI (wi (x1) (4))] g P
  refine z_if_eq (tgt := 22) dX10_sheet_5 (by decide) (fun c1 => ?_) (fun c1 => ?_)
  · replace h := h.1 c1
    refine z_bipush dX10_sheet_22 rfl ?_
    exact m_iret dX10_sheet_24 rfl h
  · replace h := h.2 c1
    refine z_iload_n dX10_sheet_8 rfl rfl ?_
    refine z_iconst dX10_sheet_9 ?_
    refine m_callS (as := [aI (x2), aI (3)]) dX10_sheet_10 lk_X10_90 mok_X10_within st_X10_within rfl (Nat.le_of_ble_eq_true rfl) rfl (Nat.le_of_ble_eq_true rfl) rfl (c_X10_within  ?_)
    show Zm w (d + 2) mX10_sheet 13 [some (aR (some (0))), some (aI (x1)), some (aI (x2)), some (aI (x3))] [aI (wi (x2) (3))] g P
    refine z_if_eq (tgt := 22) dX10_sheet_13 (by decide) (fun c2 => ?_) (fun c2 => ?_)
    · replace h := h.1 c2
      refine z_bipush dX10_sheet_22 rfl ?_
      exact m_iret dX10_sheet_24 rfl h
    · replace h := h.2 c2
      refine z_iload_n dX10_sheet_16 rfl rfl ?_
      refine z_bipush dX10_sheet_17 rfl ?_
      refine z_icmp_le (tgt := 25) dX10_sheet_19 (by decide) (fun c3 => ?_) (fun c3 => ?_)
      · replace h := h.1 c3
        refine z_iload_n dX10_sheet_25 rfl rfl ?_
        refine z_if_ge (tgt := 35) dX10_sheet_26 (by decide) (fun c4 => ?_) (fun c4 => ?_)
        · replace h := h.1 c4
          refine z_aload_n dX10_sheet_35 rfl rfl ?_
          refine m_getR dX10_sheet_36 fl_X10_76 (by decide) kt_0 rv_0_10 ?_
          refine z_iload_n dX10_sheet_39 rfl rfl ?_
          obtain ⟨q5, q6, h⟩ := h
          have t7 : (nm x1).toNat < 4 := by omega
          refine m_aaldv dX10_sheet_40 kv_215 q5 q6 (w_sheets _ t7) ?_
          refine z_iload_n dX10_sheet_41 rfl rfl ?_
          refine z_iload_n dX10_sheet_42 rfl rfl ?_
          refine m_callV (as := [aI (x2), aI (x3)]) dX10_sheet_43 lk_X10_250 mok_X6_renew in_X6_renew sl_X6_renew (congrArg Prod.fst (isS_at _ t7).1) rfl rfl rfl (Nat.le_of_ble_eq_true rfl) rfl (Nat.le_of_ble_eq_true rfl) rfl (m_mono (fun r g8 hr => ?_) h)
          obtain ⟨rfl, h⟩ := hr
          show Zm w (d + 2) mX10_sheet 46 [some (aR (some (0))), some (aI (x1)), some (aI (x2)), some (aI (x3))] [] g8 P
          refine z_iload_n dX10_sheet_46 rfl rfl ?_
          exact m_iret dX10_sheet_47 rfl h
        · replace h := h.2 (Decidable.not_not.mp c4)
          refine z_aload_n dX10_sheet_29 rfl rfl ?_
          refine z_iconst dX10_sheet_30 ?_
          refine m_callV (as := [aI (5)]) dX10_sheet_31 lk_X10_152 mok_X10_finding in_X10_finding sl_X10_finding kt_0 rfl rfl rfl (Nat.le_of_ble_eq_true rfl) rfl (Nat.le_of_ble_eq_true rfl) rfl (c_X10_finding  ?_)
          replace h := h _ rfl
          show Zm w (d + 2) mX10_sheet 34 [some (aR (some (0))), some (aI (x1)), some (aI (x2)), some (aI (x3))] [aI ((-10) - (5))] (up2 g 0 11 (5)) P
          exact m_iret dX10_sheet_34 rfl h
      · replace h := h.2 (Decidable.not_not.mp c3)
        refine z_bipush dX10_sheet_22 rfl ?_
        exact m_iret dX10_sheet_24 rfl h
theorem dX10_lose_0 : decode cX10_lose 0 = .ok (.iload_n 1, 1) := by decide +kernel
theorem dX10_lose_1 : decode cX10_lose 1 = .ok (.iconst 4, 1) := by decide +kernel
theorem dX10_lose_2 : decode cX10_lose 2 = .ok (.invokestatic 90, 3) := by decide +kernel
theorem dX10_lose_5 : decode cX10_lose 5 = .ok (.ifCond .ne 6, 3) := by decide +kernel
theorem dX10_lose_8 : decode cX10_lose 8 = .ok (.bipush (-2), 2) := by decide +kernel
theorem dX10_lose_10 : decode cX10_lose 10 = .ok (.ireturn, 1) := by decide +kernel
theorem dX10_lose_11 : decode cX10_lose 11 = .ok (.aload_n 0, 1) := by decide +kernel
theorem dX10_lose_12 : decode cX10_lose 12 = .ok (.getfield 76, 3) := by decide +kernel
theorem dX10_lose_15 : decode cX10_lose 15 = .ok (.iload_n 1, 1) := by decide +kernel
theorem dX10_lose_16 : decode cX10_lose 16 = .ok (.aaload, 1) := by decide +kernel
theorem dX10_lose_17 : decode cX10_lose 17 = .ok (.invokevirtual 148, 3) := by decide +kernel
theorem dX10_lose_20 : decode cX10_lose 20 = .ok (.ifCond .eq 9, 3) := by decide +kernel
theorem dX10_lose_23 : decode cX10_lose 23 = .ok (.aload_n 0, 1) := by decide +kernel
theorem dX10_lose_24 : decode cX10_lose 24 = .ok (.iconst 1, 1) := by decide +kernel
theorem dX10_lose_25 : decode cX10_lose 25 = .ok (.invokevirtual 152, 3) := by decide +kernel
theorem dX10_lose_28 : decode cX10_lose 28 = .ok (.ireturn, 1) := by decide +kernel
theorem dX10_lose_29 : decode cX10_lose 29 = .ok (.aload_n 0, 1) := by decide +kernel
theorem dX10_lose_30 : decode cX10_lose 30 = .ok (.getfield 76, 3) := by decide +kernel
theorem dX10_lose_33 : decode cX10_lose 33 = .ok (.iload_n 1, 1) := by decide +kernel
theorem dX10_lose_34 : decode cX10_lose 34 = .ok (.aaload, 1) := by decide +kernel
theorem dX10_lose_35 : decode cX10_lose 35 = .ok (.getfield 158, 3) := by decide +kernel
theorem dX10_lose_38 : decode cX10_lose 38 = .ok (.istore_n 2, 1) := by decide +kernel
theorem dX10_lose_39 : decode cX10_lose 39 = .ok (.aload_n 0, 1) := by decide +kernel
theorem dX10_lose_40 : decode cX10_lose 40 = .ok (.getfield 76, 3) := by decide +kernel
theorem dX10_lose_43 : decode cX10_lose 43 = .ok (.iload_n 1, 1) := by decide +kernel
theorem dX10_lose_44 : decode cX10_lose 44 = .ok (.aaload, 1) := by decide +kernel
theorem dX10_lose_45 : decode cX10_lose 45 = .ok (.iconst (-1), 1) := by decide +kernel
theorem dX10_lose_46 : decode cX10_lose 46 = .ok (.putfield 158, 3) := by decide +kernel
theorem dX10_lose_49 : decode cX10_lose 49 = .ok (.iload_n 2, 1) := by decide +kernel
theorem dX10_lose_50 : decode cX10_lose 50 = .ok (.ireturn, 1) := by decide +kernel
set_option maxRecDepth 4000 in
theorem s_X10_lose_0 {w : GX} {d : Nat} {P : PN} {g : GI} (x1 : Int)
    (h : (((¬ nm (wi (x1) (4)) = 0 → (0 ≤ nm x1 ∧ nm x1 < 4 ∧ (((nm (isNeg (g (220 + 2 * (nm x1).toNat) 2)) = 0 → ((∀ v7 : Int, v7 = g (220 + 2 * (nm x1).toNat) 2 → ((∀ g9 : GI, g9 = up2 g (220 + 2 * (nm x1).toNat) 2 ((-1)) → P (some (aI (v7))) g9))))) ∧ (¬ nm (isNeg (g (220 + 2 * (nm x1).toNat) 2)) = 0 → (∀ g10 : GI, g10 = up2 g 0 11 (1) → P (some (aI ((-10) - (1)))) g10)))))) ∧ (nm (wi (x1) (4)) = 0 → P (some (aI ((-2)))) g)))) :
    Zm w (d + 1) mX10_lose 0 [some (aR (some (0))), some (aI (x1)), none] [] g P := by
  refine z_iload_n dX10_lose_0 rfl rfl ?_
  refine z_iconst dX10_lose_1 ?_
  refine m_callS (as := [aI (x1), aI (4)]) dX10_lose_2 lk_X10_90 mok_X10_within st_X10_within rfl (Nat.le_of_ble_eq_true rfl) rfl (Nat.le_of_ble_eq_true rfl) rfl (c_X10_within  ?_)
  show Zm w (d + 1) mX10_lose 5 [some (aR (some (0))), some (aI (x1)), none] [aI (wi (x1) (4))] g P
  refine z_if_ne (tgt := 11) dX10_lose_5 (by decide) (fun c1 => ?_) (fun c1 => ?_)
  · replace h := h.1 c1
    refine z_aload_n dX10_lose_11 rfl rfl ?_
    refine m_getR dX10_lose_12 fl_X10_76 (by decide) kt_0 rv_0_10 ?_
    refine z_iload_n dX10_lose_15 rfl rfl ?_
    obtain ⟨q2, q3, h⟩ := h
    have t4 : (nm x1).toNat < 4 := by omega
    refine m_aaldv dX10_lose_16 kv_215 q2 q3 (w_sheets _ t4) ?_
    refine m_callV (as := []) dX10_lose_17 lk_X10_148 mok_X6_isLost in_X6_isLost sl_X6_isLost (congrArg Prod.fst (isS_at _ t4).1) rfl rfl rfl (Nat.le_of_ble_eq_true rfl) rfl (Nat.le_of_ble_eq_true rfl) rfl (c_X6_isLost (isS_at _ t4) ?_)
    show Zm w (d + 1) mX10_lose 20 [some (aR (some (0))), some (aI (x1)), none] [aI (isNeg (g (220 + 2 * (nm x1).toNat) 2))] g P
    refine z_if_eq (tgt := 29) dX10_lose_20 (by decide) (fun c5 => ?_) (fun c5 => ?_)
    · replace h := h.1 c5
      refine z_aload_n dX10_lose_29 rfl rfl ?_
      refine m_getR dX10_lose_30 fl_X10_76 (by decide) kt_0 rv_0_10 ?_
      refine z_iload_n dX10_lose_33 rfl rfl ?_
      have t6 : (nm x1).toNat < 4 := by omega
      refine m_aaldv dX10_lose_34 kv_215 q2 q3 (w_sheets _ t6) ?_
      refine z_getI dX10_lose_35 fl_X10_158 (by decide) (congrArg Prod.fst (isS_at _ t6).1) ?_
      replace h := h _ rfl
      refine z_istore_n dX10_lose_38 rfl (by decide) rfl ?_
      show Zm w (d + 1) mX10_lose 39 [some (aR (some (0))), some (aI (x1)), some (aI (g (220 + 2 * (nm x1).toNat) 2))] [] g P
      refine z_aload_n dX10_lose_39 rfl rfl ?_
      refine m_getR dX10_lose_40 fl_X10_76 (by decide) kt_0 rv_0_10 ?_
      refine z_iload_n dX10_lose_43 rfl rfl ?_
      have t8 : (nm x1).toNat < 4 := by omega
      refine m_aaldv dX10_lose_44 kv_215 q2 q3 (w_sheets _ t8) ?_
      refine z_iconst dX10_lose_45 ?_
      replace h := h _ rfl
      refine z_putI dX10_lose_46 fw_X10_158 (by decide) (congrArg Prod.fst (isS_at _ t8).1) ?_
      refine z_iload_n dX10_lose_49 rfl rfl ?_
      exact m_iret dX10_lose_50 rfl h
    · replace h := h.2 c5
      refine z_aload_n dX10_lose_23 rfl rfl ?_
      refine z_iconst dX10_lose_24 ?_
      refine m_callV (as := [aI (1)]) dX10_lose_25 lk_X10_152 mok_X10_finding in_X10_finding sl_X10_finding kt_0 rfl rfl rfl (Nat.le_of_ble_eq_true rfl) rfl (Nat.le_of_ble_eq_true rfl) rfl (c_X10_finding  ?_)
      replace h := h _ rfl
      show Zm w (d + 1) mX10_lose 28 [some (aR (some (0))), some (aI (x1)), none] [aI ((-10) - (1))] (up2 g 0 11 (1)) P
      exact m_iret dX10_lose_28 rfl h
  · replace h := h.2 (Decidable.not_not.mp c1)
    refine z_bipush dX10_lose_8 rfl ?_
    exact m_iret dX10_lose_10 rfl h
theorem dX10_lay_0 : decode cX10_lay 0 = .ok (.aload_n 0, 1) := by decide +kernel
theorem dX10_lay_1 : decode cX10_lay 1 = .ok (.iload_n 1, 1) := by decide +kernel
theorem dX10_lay_2 : decode cX10_lay 2 = .ok (.iload_n 2, 1) := by decide +kernel
theorem dX10_lay_3 : decode cX10_lay 3 = .ok (.iload_n 3, 1) := by decide +kernel
theorem dX10_lay_4 : decode cX10_lay 4 = .ok (.invokevirtual 254, 3) := by decide +kernel
theorem dX10_lay_7 : decode cX10_lay 7 = .ok (.istore 5, 2) := by decide +kernel
theorem dX10_lay_9 : decode cX10_lay 9 = .ok (.iload 5, 2) := by decide +kernel
theorem dX10_lay_11 : decode cX10_lay 11 = .ok (.ifCond .ge 6, 3) := by decide +kernel
theorem dX10_lay_14 : decode cX10_lay 14 = .ok (.iload 5, 2) := by decide +kernel
theorem dX10_lay_16 : decode cX10_lay 16 = .ok (.ireturn, 1) := by decide +kernel
theorem dX10_lay_17 : decode cX10_lay 17 = .ok (.aload_n 0, 1) := by decide +kernel
theorem dX10_lay_18 : decode cX10_lay 18 = .ok (.getfield 76, 3) := by decide +kernel
theorem dX10_lay_21 : decode cX10_lay 21 = .ok (.iload_n 1, 1) := by decide +kernel
theorem dX10_lay_22 : decode cX10_lay 22 = .ok (.aaload, 1) := by decide +kernel
theorem dX10_lay_23 : decode cX10_lay 23 = .ok (.iload_n 3, 1) := by decide +kernel
theorem dX10_lay_24 : decode cX10_lay 24 = .ok (.iload 4, 2) := by decide +kernel
theorem dX10_lay_26 : decode cX10_lay 26 = .ok (.invokevirtual 257, 3) := by decide +kernel
theorem dX10_lay_29 : decode cX10_lay 29 = .ok (.iconst 1, 1) := by decide +kernel
theorem dX10_lay_30 : decode cX10_lay 30 = .ok (.ireturn, 1) := by decide +kernel
set_option maxRecDepth 4000 in
theorem s_X10_lay_0 {w : GX} {d : Nat} {P : PN} {g : GI} (x1 : Int) (x2 : Int) (x3 : Int) (x4 : Int)
    (h : Zm w (d + 1) mX10_refusalOfItem 0 [some (aR (some (0))), some (aI (x1)), some (aI (x2)), some (aI (x3))] [] g (fun r g1 => ∃ z2 : Int, r = some (aI z2) ∧ ((¬ nm z2 < 0 → (0 ≤ nm x1 ∧ nm x1 < 4 ∧ Zm w (d + 1) mX6_put 0 [some (aR (some (220 + 2 * (nm x1).toNat))), some (aI (x3)), some (aI (x4))] [] g1 (fun r g7 => r = none ∧ P (some (aI (1))) g7))) ∧ (nm z2 < 0 → P (some (aI (z2))) g1)))) :
    Zm w (d + 2) mX10_lay 0 [some (aR (some (0))), some (aI (x1)), some (aI (x2)), some (aI (x3)), some (aI (x4)), none] [] g P := by
  refine z_aload_n dX10_lay_0 rfl rfl ?_
  refine z_iload_n dX10_lay_1 rfl rfl ?_
  refine z_iload_n dX10_lay_2 rfl rfl ?_
  refine z_iload_n dX10_lay_3 rfl rfl ?_
  refine m_callV (as := [aI (x1), aI (x2), aI (x3)]) dX10_lay_4 lk_X10_254 mok_X10_refusalOfItem in_X10_refusalOfItem sl_X10_refusalOfItem kt_0 rfl rfl rfl (Nat.le_of_ble_eq_true rfl) rfl (Nat.le_of_ble_eq_true rfl) rfl (m_mono (fun r g1 hr => ?_) h)
  obtain ⟨z2, rfl, h⟩ := hr
  show Zm w (d + 2) mX10_lay 7 [some (aR (some (0))), some (aI (x1)), some (aI (x2)), some (aI (x3)), some (aI (x4)), none] [aI (z2)] g1 P
  refine z_istore dX10_lay_7 (by decide) rfl ?_
  show Zm w (d + 2) mX10_lay 9 [some (aR (some (0))), some (aI (x1)), some (aI (x2)), some (aI (x3)), some (aI (x4)), some (aI (z2))] [] g1 P
  refine z_iload dX10_lay_9 rfl ?_
  refine z_if_ge (tgt := 17) dX10_lay_11 (by decide) (fun c3 => ?_) (fun c3 => ?_)
  · replace h := h.1 c3
    refine z_aload_n dX10_lay_17 rfl rfl ?_
    refine m_getR dX10_lay_18 fl_X10_76 (by decide) kt_0 rv_0_10 ?_
    refine z_iload_n dX10_lay_21 rfl rfl ?_
    obtain ⟨q4, q5, h⟩ := h
    have t6 : (nm x1).toNat < 4 := by omega
    refine m_aaldv dX10_lay_22 kv_215 q4 q5 (w_sheets _ t6) ?_
    refine z_iload_n dX10_lay_23 rfl rfl ?_
    refine z_iload dX10_lay_24 rfl ?_
    refine m_callV (as := [aI (x3), aI (x4)]) dX10_lay_26 lk_X10_257 mok_X6_put in_X6_put sl_X6_put (congrArg Prod.fst (isS_at _ t6).1) rfl rfl rfl (Nat.le_of_ble_eq_true rfl) rfl (Nat.le_of_ble_eq_true rfl) rfl (m_mono (fun r g7 hr => ?_) h)
    obtain ⟨rfl, h⟩ := hr
    show Zm w (d + 2) mX10_lay 29 [some (aR (some (0))), some (aI (x1)), some (aI (x2)), some (aI (x3)), some (aI (x4)), some (aI (z2))] [] g7 P
    refine z_iconst dX10_lay_29 ?_
    exact m_iret dX10_lay_30 rfl h
  · replace h := h.2 (Decidable.not_not.mp c3)
    refine z_iload dX10_lay_14 rfl ?_
    exact m_iret dX10_lay_16 rfl h
theorem dX10_get_0 : decode cX10_get 0 = .ok (.aload_n 0, 1) := by decide +kernel
theorem dX10_get_1 : decode cX10_get 1 = .ok (.iload_n 1, 1) := by decide +kernel
theorem dX10_get_2 : decode cX10_get 2 = .ok (.iload_n 2, 1) := by decide +kernel
theorem dX10_get_3 : decode cX10_get 3 = .ok (.iload_n 3, 1) := by decide +kernel
theorem dX10_get_4 : decode cX10_get 4 = .ok (.invokevirtual 254, 3) := by decide +kernel
theorem dX10_get_7 : decode cX10_get 7 = .ok (.ifCond .ge 7, 3) := by decide +kernel
theorem dX10_get_10 : decode cX10_get 10 = .ok (.ldc_w 259, 3) := by decide +kernel
theorem dX10_get_13 : decode cX10_get 13 = .ok (.ireturn, 1) := by decide +kernel
theorem dX10_get_14 : decode cX10_get 14 = .ok (.aload_n 0, 1) := by decide +kernel
theorem dX10_get_15 : decode cX10_get 15 = .ok (.getfield 76, 3) := by decide +kernel
theorem dX10_get_18 : decode cX10_get 18 = .ok (.iload_n 1, 1) := by decide +kernel
theorem dX10_get_19 : decode cX10_get 19 = .ok (.aaload, 1) := by decide +kernel
theorem dX10_get_20 : decode cX10_get 20 = .ok (.getfield 155, 3) := by decide +kernel
theorem dX10_get_23 : decode cX10_get 23 = .ok (.iload_n 3, 1) := by decide +kernel
theorem dX10_get_24 : decode cX10_get 24 = .ok (.iaload, 1) := by decide +kernel
theorem dX10_get_25 : decode cX10_get 25 = .ok (.ireturn, 1) := by decide +kernel
set_option maxRecDepth 4000 in
theorem s_X10_get_0 {w : GX} {d : Nat} {P : PN} {g : GI} (x1 : Int) (x2 : Int) (x3 : Int)
    (h : Zm w (d + 1) mX10_refusalOfItem 0 [some (aR (some (0))), some (aI (x1)), some (aI (x2)), some (aI (x3))] [] g (fun r g1 => ∃ z2 : Int, r = some (aI z2) ∧ ((¬ nm z2 < 0 → (0 ≤ nm x1 ∧ nm x1 < 4 ∧ (0 ≤ nm x3 ∧ nm x3 < 60 ∧ P (some (aI (g1 (220 + 2 * (nm x1).toNat + 1) (nm x3).toNat))) g1))) ∧ (nm z2 < 0 → P (some (aI ((-2147483648)))) g1)))) :
    Zm w (d + 2) mX10_get 0 [some (aR (some (0))), some (aI (x1)), some (aI (x2)), some (aI (x3))] [] g P := by
  refine z_aload_n dX10_get_0 rfl rfl ?_
  refine z_iload_n dX10_get_1 rfl rfl ?_
  refine z_iload_n dX10_get_2 rfl rfl ?_
  refine z_iload_n dX10_get_3 rfl rfl ?_
  refine m_callV (as := [aI (x1), aI (x2), aI (x3)]) dX10_get_4 lk_X10_254 mok_X10_refusalOfItem in_X10_refusalOfItem sl_X10_refusalOfItem kt_0 rfl rfl rfl (Nat.le_of_ble_eq_true rfl) rfl (Nat.le_of_ble_eq_true rfl) rfl (m_mono (fun r g1 hr => ?_) h)
  obtain ⟨z2, rfl, h⟩ := hr
  show Zm w (d + 2) mX10_get 7 [some (aR (some (0))), some (aI (x1)), some (aI (x2)), some (aI (x3))] [aI (z2)] g1 P
  refine z_if_ge (tgt := 14) dX10_get_7 (by decide) (fun c3 => ?_) (fun c3 => ?_)
  · replace h := h.1 c3
    refine z_aload_n dX10_get_14 rfl rfl ?_
    refine m_getR dX10_get_15 fl_X10_76 (by decide) kt_0 rv_0_10 ?_
    refine z_iload_n dX10_get_18 rfl rfl ?_
    obtain ⟨q4, q5, h⟩ := h
    have t6 : (nm x1).toNat < 4 := by omega
    refine m_aaldv dX10_get_19 kv_215 q4 q5 (w_sheets _ t6) ?_
    refine m_getR dX10_get_20 fl_X10_155 (by decide) (congrArg Prod.fst (isS_at _ t6).1) (isS_at _ t6).2.1 ?_
    refine z_iload_n dX10_get_23 rfl rfl ?_
    obtain ⟨q9, q10, h⟩ := h
    refine m_iald dX10_get_24 (isS_at _ t6).2.2 q9 q10 ?_
    exact m_iret dX10_get_25 rfl h
  · replace h := h.2 (Decidable.not_not.mp c3)
    refine z_ldcw dX10_get_10 kc_X10_259 ?_
    exact m_iret dX10_get_13 rfl h
theorem dX10_copy_0 : decode cX10_copy 0 = .ok (.iload_n 1, 1) := by decide +kernel
theorem dX10_copy_1 : decode cX10_copy 1 = .ok (.iconst 4, 1) := by decide +kernel
theorem dX10_copy_2 : decode cX10_copy 2 = .ok (.invokestatic 90, 3) := by decide +kernel
theorem dX10_copy_5 : decode cX10_copy 5 = .ok (.ifCond .eq 11, 3) := by decide +kernel
theorem dX10_copy_8 : decode cX10_copy 8 = .ok (.iload_n 3, 1) := by decide +kernel
theorem dX10_copy_9 : decode cX10_copy 9 = .ok (.iconst 4, 1) := by decide +kernel
theorem dX10_copy_10 : decode cX10_copy 10 = .ok (.invokestatic 90, 3) := by decide +kernel
theorem dX10_copy_13 : decode cX10_copy 13 = .ok (.ifCond .ne 6, 3) := by decide +kernel
theorem dX10_copy_16 : decode cX10_copy 16 = .ok (.bipush (-2), 2) := by decide +kernel
theorem dX10_copy_18 : decode cX10_copy 18 = .ok (.ireturn, 1) := by decide +kernel
theorem dX10_copy_19 : decode cX10_copy 19 = .ok (.aload_n 0, 1) := by decide +kernel
theorem dX10_copy_20 : decode cX10_copy 20 = .ok (.getfield 76, 3) := by decide +kernel
theorem dX10_copy_23 : decode cX10_copy 23 = .ok (.iload_n 1, 1) := by decide +kernel
theorem dX10_copy_24 : decode cX10_copy 24 = .ok (.aaload, 1) := by decide +kernel
theorem dX10_copy_25 : decode cX10_copy 25 = .ok (.astore 6, 2) := by decide +kernel
theorem dX10_copy_27 : decode cX10_copy 27 = .ok (.aload_n 0, 1) := by decide +kernel
theorem dX10_copy_28 : decode cX10_copy 28 = .ok (.getfield 76, 3) := by decide +kernel
theorem dX10_copy_31 : decode cX10_copy 31 = .ok (.iload_n 3, 1) := by decide +kernel
theorem dX10_copy_32 : decode cX10_copy 32 = .ok (.aaload, 1) := by decide +kernel
theorem dX10_copy_33 : decode cX10_copy 33 = .ok (.astore 7, 2) := by decide +kernel
theorem dX10_copy_35 : decode cX10_copy 35 = .ok (.aload 6, 2) := by decide +kernel
theorem dX10_copy_37 : decode cX10_copy 37 = .ok (.invokevirtual 148, 3) := by decide +kernel
theorem dX10_copy_40 : decode cX10_copy 40 = .ok (.ifCond .ne 11, 3) := by decide +kernel
theorem dX10_copy_43 : decode cX10_copy 43 = .ok (.aload 7, 2) := by decide +kernel
theorem dX10_copy_45 : decode cX10_copy 45 = .ok (.invokevirtual 148, 3) := by decide +kernel
theorem dX10_copy_48 : decode cX10_copy 48 = .ok (.ifCond .eq 9, 3) := by decide +kernel
theorem dX10_copy_51 : decode cX10_copy 51 = .ok (.aload_n 0, 1) := by decide +kernel
theorem dX10_copy_52 : decode cX10_copy 52 = .ok (.iconst 1, 1) := by decide +kernel
theorem dX10_copy_53 : decode cX10_copy 53 = .ok (.invokevirtual 152, 3) := by decide +kernel
theorem dX10_copy_56 : decode cX10_copy 56 = .ok (.ireturn, 1) := by decide +kernel
theorem dX10_copy_57 : decode cX10_copy 57 = .ok (.aload 6, 2) := by decide +kernel
theorem dX10_copy_59 : decode cX10_copy 59 = .ok (.getfield 260, 3) := by decide +kernel
theorem dX10_copy_62 : decode cX10_copy 62 = .ok (.aload 7, 2) := by decide +kernel
theorem dX10_copy_64 : decode cX10_copy 64 = .ok (.getfield 260, 3) := by decide +kernel
theorem dX10_copy_67 : decode cX10_copy 67 = .ok (.if_icmp .eq 9, 3) := by decide +kernel
theorem dX10_copy_70 : decode cX10_copy 70 = .ok (.aload_n 0, 1) := by decide +kernel
theorem dX10_copy_71 : decode cX10_copy 71 = .ok (.iconst 4, 1) := by decide +kernel
theorem dX10_copy_72 : decode cX10_copy 72 = .ok (.invokevirtual 152, 3) := by decide +kernel
theorem dX10_copy_75 : decode cX10_copy 75 = .ok (.ireturn, 1) := by decide +kernel
theorem dX10_copy_76 : decode cX10_copy 76 = .ok (.aload 6, 2) := by decide +kernel
theorem dX10_copy_78 : decode cX10_copy 78 = .ok (.iload_n 2, 1) := by decide +kernel
theorem dX10_copy_79 : decode cX10_copy 79 = .ok (.iload 5, 2) := by decide +kernel
theorem dX10_copy_81 : decode cX10_copy 81 = .ok (.invokevirtual 263, 3) := by decide +kernel
theorem dX10_copy_84 : decode cX10_copy 84 = .ok (.ifCond .eq 15, 3) := by decide +kernel
theorem dX10_copy_87 : decode cX10_copy 87 = .ok (.aload 7, 2) := by decide +kernel
theorem dX10_copy_89 : decode cX10_copy 89 = .ok (.iload 4, 2) := by decide +kernel
theorem dX10_copy_91 : decode cX10_copy 91 = .ok (.iload 5, 2) := by decide +kernel
theorem dX10_copy_93 : decode cX10_copy 93 = .ok (.invokevirtual 263, 3) := by decide +kernel
theorem dX10_copy_96 : decode cX10_copy 96 = .ok (.ifCond .ne 9, 3) := by decide +kernel
theorem dX10_copy_99 : decode cX10_copy 99 = .ok (.aload_n 0, 1) := by decide +kernel
theorem dX10_copy_100 : decode cX10_copy 100 = .ok (.iconst 2, 1) := by decide +kernel
theorem dX10_copy_101 : decode cX10_copy 101 = .ok (.invokevirtual 152, 3) := by decide +kernel
theorem dX10_copy_104 : decode cX10_copy 104 = .ok (.ireturn, 1) := by decide +kernel
theorem dX10_copy_105 : decode cX10_copy 105 = .ok (.aload 6, 2) := by decide +kernel
theorem dX10_copy_107 : decode cX10_copy 107 = .ok (.getfield 155, 3) := by decide +kernel
theorem dX10_copy_110 : decode cX10_copy 110 = .ok (.iload_n 2, 1) := by decide +kernel
theorem dX10_copy_111 : decode cX10_copy 111 = .ok (.aload 7, 2) := by decide +kernel
theorem dX10_copy_113 : decode cX10_copy 113 = .ok (.getfield 155, 3) := by decide +kernel
theorem dX10_copy_116 : decode cX10_copy 116 = .ok (.iload 4, 2) := by decide +kernel
theorem dX10_copy_118 : decode cX10_copy 118 = .ok (.iload 5, 2) := by decide +kernel
theorem dX10_copy_120 : decode cX10_copy 120 = .ok (.invokestatic 266, 3) := by decide +kernel
theorem dX10_copy_123 : decode cX10_copy 123 = .ok (.iconst 1, 1) := by decide +kernel
theorem dX10_copy_124 : decode cX10_copy 124 = .ok (.ireturn, 1) := by decide +kernel
set_option maxRecDepth 4000 in
theorem s_X10_copy_0 {w : GX} {d : Nat} {P : PN} {g : GI} (x1 : Int) (x2 : Int) (x3 : Int) (x4 : Int) (x5 : Int)
    (h : (((nm (wi (x1) (4)) = 0 → P (some (aI ((-2)))) g) ∧ (¬ nm (wi (x1) (4)) = 0 → (((¬ nm (wi (x3) (4)) = 0 → (0 ≤ nm x1 ∧ nm x1 < 4 ∧ (0 ≤ nm x3 ∧ nm x3 < 4 ∧ (((¬ nm (isNeg (g (220 + 2 * (nm x1).toNat) 2)) = 0 → Zm w (d + 1) mX10_copy 51 [some (aR (some (0))), none, none, none, none, none, none, none] [] g P) ∧ (nm (isNeg (g (220 + 2 * (nm x1).toNat) 2)) = 0 → (((nm (isNeg (g (220 + 2 * (nm x3).toNat) 2)) = 0 → ((nm (g (220 + 2 * (nm x1).toNat) 1) = nm (g (220 + 2 * (nm x3).toNat) 1) → (((nm (hld (g (220 + 2 * (nm x1).toNat) 2) (x2) (x5)) = 0 → Zm w (d + 1) mX10_copy 99 [some (aR (some (0))), none, none, none, none, none, none, none] [] g P) ∧ (¬ nm (hld (g (220 + 2 * (nm x1).toNat) 2) (x2) (x5)) = 0 → (((¬ nm (hld (g (220 + 2 * (nm x3).toNat) 2) (x4) (x5)) = 0 → (0 ≤ nm x2 ∧ 0 ≤ nm x4 ∧ 0 ≤ nm x5 ∧ nm x2 + nm x5 ≤ 60 ∧ nm x4 + nm x5 ≤ 60 ∧ ∀ g19 : GI, g19 = upf g (220 + 2 * (nm x3).toNat + 1) (va_cpy (g (220 + 2 * (nm x1).toNat + 1)) (g (220 + 2 * (nm x3).toNat + 1)) (nm x2).toNat (nm x4).toNat (nm x5).toNat) → P (some (aI (1))) g19)) ∧ (nm (hld (g (220 + 2 * (nm x3).toNat) 2) (x4) (x5)) = 0 → Zm w (d + 1) mX10_copy 99 [some (aR (some (0))), none, none, none, none, none, none, none] [] g P))))))) ∧ (¬ nm (g (220 + 2 * (nm x1).toNat) 1) = nm (g (220 + 2 * (nm x3).toNat) 1) → (∀ g20 : GI, g20 = up2 g 0 11 (4) → P (some (aI ((-10) - (4)))) g20)))) ∧ (¬ nm (isNeg (g (220 + 2 * (nm x3).toNat) 2)) = 0 → Zm w (d + 1) mX10_copy 51 [some (aR (some (0))), none, none, none, none, none, none, none] [] g P))))))))) ∧ (nm (wi (x3) (4)) = 0 → P (some (aI ((-2)))) g))))))) :
    Zm w (d + 1) mX10_copy 0 [some (aR (some (0))), some (aI (x1)), some (aI (x2)), some (aI (x3)), some (aI (x4)), some (aI (x5)), none, none] [] g P := by
  refine z_iload_n dX10_copy_0 rfl rfl ?_
  refine z_iconst dX10_copy_1 ?_
  refine m_callS (as := [aI (x1), aI (4)]) dX10_copy_2 lk_X10_90 mok_X10_within st_X10_within rfl (Nat.le_of_ble_eq_true rfl) rfl (Nat.le_of_ble_eq_true rfl) rfl (c_X10_within  ?_)
  show Zm w (d + 1) mX10_copy 5 [some (aR (some (0))), some (aI (x1)), some (aI (x2)), some (aI (x3)), some (aI (x4)), some (aI (x5)), none, none] [aI (wi (x1) (4))] g P
  refine z_if_eq (tgt := 16) dX10_copy_5 (by decide) (fun c1 => ?_) (fun c1 => ?_)
  · replace h := h.1 c1
    refine z_bipush dX10_copy_16 rfl ?_
    exact m_iret dX10_copy_18 rfl h
  · replace h := h.2 c1
    refine z_iload_n dX10_copy_8 rfl rfl ?_
    refine z_iconst dX10_copy_9 ?_
    refine m_callS (as := [aI (x3), aI (4)]) dX10_copy_10 lk_X10_90 mok_X10_within st_X10_within rfl (Nat.le_of_ble_eq_true rfl) rfl (Nat.le_of_ble_eq_true rfl) rfl (c_X10_within  ?_)
    show Zm w (d + 1) mX10_copy 13 [some (aR (some (0))), some (aI (x1)), some (aI (x2)), some (aI (x3)), some (aI (x4)), some (aI (x5)), none, none] [aI (wi (x3) (4))] g P
    refine z_if_ne (tgt := 19) dX10_copy_13 (by decide) (fun c2 => ?_) (fun c2 => ?_)
    · replace h := h.1 c2
      refine z_aload_n dX10_copy_19 rfl rfl ?_
      refine m_getR dX10_copy_20 fl_X10_76 (by decide) kt_0 rv_0_10 ?_
      refine z_iload_n dX10_copy_23 rfl rfl ?_
      obtain ⟨q3, q4, h⟩ := h
      have t5 : (nm x1).toNat < 4 := by omega
      refine m_aaldv dX10_copy_24 kv_215 q3 q4 (w_sheets _ t5) ?_
      refine z_astore dX10_copy_25 (by decide) rfl ?_
      show Zm w (d + 1) mX10_copy 27 [some (aR (some (0))), some (aI (x1)), some (aI (x2)), some (aI (x3)), some (aI (x4)), some (aI (x5)), some (aR (some (220 + 2 * (nm x1).toNat))), none] [] g P
      refine z_aload_n dX10_copy_27 rfl rfl ?_
      refine m_getR dX10_copy_28 fl_X10_76 (by decide) kt_0 rv_0_10 ?_
      refine z_iload_n dX10_copy_31 rfl rfl ?_
      obtain ⟨q6, q7, h⟩ := h
      have t8 : (nm x3).toNat < 4 := by omega
      refine m_aaldv dX10_copy_32 kv_215 q6 q7 (w_sheets _ t8) ?_
      refine z_astore dX10_copy_33 (by decide) rfl ?_
      show Zm w (d + 1) mX10_copy 35 [some (aR (some (0))), some (aI (x1)), some (aI (x2)), some (aI (x3)), some (aI (x4)), some (aI (x5)), some (aR (some (220 + 2 * (nm x1).toNat))), some (aR (some (220 + 2 * (nm x3).toNat)))] [] g P
      refine z_aload dX10_copy_35 rfl ?_
      refine m_callV (as := []) dX10_copy_37 lk_X10_148 mok_X6_isLost in_X6_isLost sl_X6_isLost (congrArg Prod.fst (isS_at _ t5).1) rfl rfl rfl (Nat.le_of_ble_eq_true rfl) rfl (Nat.le_of_ble_eq_true rfl) rfl (c_X6_isLost (isS_at _ t5) ?_)
      show Zm w (d + 1) mX10_copy 40 [some (aR (some (0))), some (aI (x1)), some (aI (x2)), some (aI (x3)), some (aI (x4)), some (aI (x5)), some (aR (some (220 + 2 * (nm x1).toNat))), some (aR (some (220 + 2 * (nm x3).toNat)))] [aI (isNeg (g (220 + 2 * (nm x1).toNat) 2))] g P
      refine z_if_ne (tgt := 51) dX10_copy_40 (by decide) (fun c9 => ?_) (fun c9 => ?_)
      · replace h := h.1 c9
        exact z_weak (by simp [lle]) h
      · replace h := h.2 (Decidable.not_not.mp c9)
        refine z_aload dX10_copy_43 rfl ?_
        refine m_callV (as := []) dX10_copy_45 lk_X10_148 mok_X6_isLost in_X6_isLost sl_X6_isLost (congrArg Prod.fst (isS_at _ t8).1) rfl rfl rfl (Nat.le_of_ble_eq_true rfl) rfl (Nat.le_of_ble_eq_true rfl) rfl (c_X6_isLost (isS_at _ t8) ?_)
        show Zm w (d + 1) mX10_copy 48 [some (aR (some (0))), some (aI (x1)), some (aI (x2)), some (aI (x3)), some (aI (x4)), some (aI (x5)), some (aR (some (220 + 2 * (nm x1).toNat))), some (aR (some (220 + 2 * (nm x3).toNat)))] [aI (isNeg (g (220 + 2 * (nm x3).toNat) 2))] g P
        refine z_if_eq (tgt := 57) dX10_copy_48 (by decide) (fun c10 => ?_) (fun c10 => ?_)
        · replace h := h.1 c10
          refine z_aload dX10_copy_57 rfl ?_
          refine z_getI dX10_copy_59 fl_X10_260 (by decide) (congrArg Prod.fst (isS_at _ t5).1) ?_
          refine z_aload dX10_copy_62 rfl ?_
          refine z_getI dX10_copy_64 fl_X10_260 (by decide) (congrArg Prod.fst (isS_at _ t8).1) ?_
          refine z_icmp_eq (tgt := 76) dX10_copy_67 (by decide) (fun c11 => ?_) (fun c11 => ?_)
          · replace h := h.1 c11
            refine z_aload dX10_copy_76 rfl ?_
            refine z_iload_n dX10_copy_78 rfl rfl ?_
            refine z_iload dX10_copy_79 rfl ?_
            refine m_callV (as := [aI (x2), aI (x5)]) dX10_copy_81 lk_X10_263 mok_X6_holds in_X6_holds sl_X6_holds (congrArg Prod.fst (isS_at _ t5).1) rfl rfl rfl (Nat.le_of_ble_eq_true rfl) rfl (Nat.le_of_ble_eq_true rfl) rfl (c_X6_holds (isS_at _ t5) ?_)
            show Zm w (d + 1) mX10_copy 84 [some (aR (some (0))), some (aI (x1)), some (aI (x2)), some (aI (x3)), some (aI (x4)), some (aI (x5)), some (aR (some (220 + 2 * (nm x1).toNat))), some (aR (some (220 + 2 * (nm x3).toNat)))] [aI (hld (g (220 + 2 * (nm x1).toNat) 2) (x2) (x5))] g P
            refine z_if_eq (tgt := 99) dX10_copy_84 (by decide) (fun c12 => ?_) (fun c12 => ?_)
            · replace h := h.1 c12
              exact z_weak (by simp [lle]) h
            · replace h := h.2 c12
              refine z_aload dX10_copy_87 rfl ?_
              refine z_iload dX10_copy_89 rfl ?_
              refine z_iload dX10_copy_91 rfl ?_
              refine m_callV (as := [aI (x4), aI (x5)]) dX10_copy_93 lk_X10_263 mok_X6_holds in_X6_holds sl_X6_holds (congrArg Prod.fst (isS_at _ t8).1) rfl rfl rfl (Nat.le_of_ble_eq_true rfl) rfl (Nat.le_of_ble_eq_true rfl) rfl (c_X6_holds (isS_at _ t8) ?_)
              show Zm w (d + 1) mX10_copy 96 [some (aR (some (0))), some (aI (x1)), some (aI (x2)), some (aI (x3)), some (aI (x4)), some (aI (x5)), some (aR (some (220 + 2 * (nm x1).toNat))), some (aR (some (220 + 2 * (nm x3).toNat)))] [aI (hld (g (220 + 2 * (nm x3).toNat) 2) (x4) (x5))] g P
              refine z_if_ne (tgt := 105) dX10_copy_96 (by decide) (fun c13 => ?_) (fun c13 => ?_)
              · replace h := h.1 c13
                refine z_aload dX10_copy_105 rfl ?_
                refine m_getR dX10_copy_107 fl_X10_155 (by decide) (congrArg Prod.fst (isS_at _ t5).1) (isS_at _ t5).2.1 ?_
                refine z_iload_n dX10_copy_110 rfl rfl ?_
                refine z_aload dX10_copy_111 rfl ?_
                refine m_getR dX10_copy_113 fl_X10_155 (by decide) (congrArg Prod.fst (isS_at _ t8).1) (isS_at _ t8).2.1 ?_
                refine z_iload dX10_copy_116 rfl ?_
                refine z_iload dX10_copy_118 rfl ?_
                obtain ⟨q14, q15, q16, q17, q18, h⟩ := h
                replace h := h _ rfl
                refine m_acopyv dX10_copy_120 lk_X10_266 (Nat.le_of_ble_eq_true rfl) (isS_at _ t5).2.2 (isS_at _ t8).2.2 q14 q15 q16 q17 q18 ?_
                refine z_iconst dX10_copy_123 ?_
                exact m_iret dX10_copy_124 rfl h
              · replace h := h.2 (Decidable.not_not.mp c13)
                exact z_weak (by simp [lle]) h
          · replace h := h.2 c11
            refine z_aload_n dX10_copy_70 rfl rfl ?_
            refine z_iconst dX10_copy_71 ?_
            refine m_callV (as := [aI (4)]) dX10_copy_72 lk_X10_152 mok_X10_finding in_X10_finding sl_X10_finding kt_0 rfl rfl rfl (Nat.le_of_ble_eq_true rfl) rfl (Nat.le_of_ble_eq_true rfl) rfl (c_X10_finding  ?_)
            replace h := h _ rfl
            show Zm w (d + 1) mX10_copy 75 [some (aR (some (0))), some (aI (x1)), some (aI (x2)), some (aI (x3)), some (aI (x4)), some (aI (x5)), some (aR (some (220 + 2 * (nm x1).toNat))), some (aR (some (220 + 2 * (nm x3).toNat)))] [aI ((-10) - (4))] (up2 g 0 11 (4)) P
            exact m_iret dX10_copy_75 rfl h
        · replace h := h.2 c10
          exact z_weak (by simp [lle]) h
    · replace h := h.2 (Decidable.not_not.mp c2)
      refine z_bipush dX10_copy_16 rfl ?_
      exact m_iret dX10_copy_18 rfl h
set_option maxRecDepth 4000 in
theorem s_X10_copy_51 {w : GX} {d : Nat} {P : PN} {g : GI} 
    (h : (∀ g1 : GI, g1 = up2 g 0 11 (1) → P (some (aI ((-10) - (1)))) g1)) :
    Zm w (d + 1) mX10_copy 51 [some (aR (some (0))), none, none, none, none, none, none, none] [] g P := by
  refine z_aload_n dX10_copy_51 rfl rfl ?_
  refine z_iconst dX10_copy_52 ?_
  refine m_callV (as := [aI (1)]) dX10_copy_53 lk_X10_152 mok_X10_finding in_X10_finding sl_X10_finding kt_0 rfl rfl rfl (Nat.le_of_ble_eq_true rfl) rfl (Nat.le_of_ble_eq_true rfl) rfl (c_X10_finding  ?_)
  replace h := h _ rfl
  show Zm w (d + 1) mX10_copy 56 [some (aR (some (0))), none, none, none, none, none, none, none] [aI ((-10) - (1))] (up2 g 0 11 (1)) P
  exact m_iret dX10_copy_56 rfl h
set_option maxRecDepth 4000 in
theorem s_X10_copy_99 {w : GX} {d : Nat} {P : PN} {g : GI} 
    (h : (∀ g1 : GI, g1 = up2 g 0 11 (2) → P (some (aI ((-10) - (2)))) g1)) :
    Zm w (d + 1) mX10_copy 99 [some (aR (some (0))), none, none, none, none, none, none, none] [] g P := by
  refine z_aload_n dX10_copy_99 rfl rfl ?_
  refine z_iconst dX10_copy_100 ?_
  refine m_callV (as := [aI (2)]) dX10_copy_101 lk_X10_152 mok_X10_finding in_X10_finding sl_X10_finding kt_0 rfl rfl rfl (Nat.le_of_ble_eq_true rfl) rfl (Nat.le_of_ble_eq_true rfl) rfl (c_X10_finding  ?_)
  replace h := h _ rfl
  show Zm w (d + 1) mX10_copy 104 [some (aR (some (0))), none, none, none, none, none, none, none] [aI ((-10) - (2))] (up2 g 0 11 (2)) P
  exact m_iret dX10_copy_104 rfl h
theorem dX10_write_0 : decode cX10_write 0 = .ok (.aload_n 0, 1) := by decide +kernel
theorem dX10_write_1 : decode cX10_write 1 = .ok (.invokevirtual 111, 3) := by decide +kernel
theorem dX10_write_4 : decode cX10_write 4 = .ok (.iload_n 1, 1) := by decide +kernel
theorem dX10_write_5 : decode cX10_write 5 = .ok (.bipush 20, 2) := by decide +kernel
theorem dX10_write_7 : decode cX10_write 7 = .ok (.invokestatic 90, 3) := by decide +kernel
theorem dX10_write_10 : decode cX10_write 10 = .ok (.ifCond .eq 11, 3) := by decide +kernel
theorem dX10_write_13 : decode cX10_write 13 = .ok (.iload_n 2, 1) := by decide +kernel
theorem dX10_write_14 : decode cX10_write 14 = .ok (.iconst 4, 1) := by decide +kernel
theorem dX10_write_15 : decode cX10_write 15 = .ok (.invokestatic 90, 3) := by decide +kernel
theorem dX10_write_18 : decode cX10_write 18 = .ok (.ifCond .ne 6, 3) := by decide +kernel
theorem dX10_write_21 : decode cX10_write 21 = .ok (.bipush (-2), 2) := by decide +kernel
theorem dX10_write_23 : decode cX10_write 23 = .ok (.ireturn, 1) := by decide +kernel
theorem dX10_write_24 : decode cX10_write 24 = .ok (.aload_n 0, 1) := by decide +kernel
theorem dX10_write_25 : decode cX10_write 25 = .ok (.getfield 76, 3) := by decide +kernel
theorem dX10_write_28 : decode cX10_write 28 = .ok (.iload_n 2, 1) := by decide +kernel
theorem dX10_write_29 : decode cX10_write 29 = .ok (.aaload, 1) := by decide +kernel
theorem dX10_write_30 : decode cX10_write 30 = .ok (.invokevirtual 148, 3) := by decide +kernel
theorem dX10_write_33 : decode cX10_write 33 = .ok (.ifCond .eq 9, 3) := by decide +kernel
theorem dX10_write_36 : decode cX10_write 36 = .ok (.aload_n 0, 1) := by decide +kernel
theorem dX10_write_37 : decode cX10_write 37 = .ok (.iconst 1, 1) := by decide +kernel
theorem dX10_write_38 : decode cX10_write 38 = .ok (.invokevirtual 152, 3) := by decide +kernel
theorem dX10_write_41 : decode cX10_write 41 = .ok (.ireturn, 1) := by decide +kernel
theorem dX10_write_42 : decode cX10_write 42 = .ok (.aload_n 0, 1) := by decide +kernel
theorem dX10_write_43 : decode cX10_write 43 = .ok (.getfield 76, 3) := by decide +kernel
theorem dX10_write_46 : decode cX10_write 46 = .ok (.iload_n 2, 1) := by decide +kernel
theorem dX10_write_47 : decode cX10_write 47 = .ok (.aaload, 1) := by decide +kernel
theorem dX10_write_48 : decode cX10_write 48 = .ok (.getfield 158, 3) := by decide +kernel
theorem dX10_write_51 : decode cX10_write 51 = .ok (.aload_n 0, 1) := by decide +kernel
theorem dX10_write_52 : decode cX10_write 52 = .ok (.getfield 36, 3) := by decide +kernel
theorem dX10_write_55 : decode cX10_write 55 = .ok (.invokevirtual 179, 3) := by decide +kernel
theorem dX10_write_58 : decode cX10_write 58 = .ok (.invokestatic 272, 3) := by decide +kernel
theorem dX10_write_61 : decode cX10_write 61 = .ok (.istore_n 3, 1) := by decide +kernel
theorem dX10_write_62 : decode cX10_write 62 = .ok (.iconst 0, 1) := by decide +kernel
theorem dX10_write_63 : decode cX10_write 63 = .ok (.istore 4, 2) := by decide +kernel
theorem dX10_write_65 : decode cX10_write 65 = .ok (.iload 4, 2) := by decide +kernel
theorem dX10_write_67 : decode cX10_write 67 = .ok (.iload_n 3, 1) := by decide +kernel
theorem dX10_write_68 : decode cX10_write 68 = .ok (.if_icmp .ge 37, 3) := by decide +kernel
theorem dX10_write_71 : decode cX10_write 71 = .ok (.aload_n 0, 1) := by decide +kernel
theorem dX10_write_72 : decode cX10_write 72 = .ok (.getfield 76, 3) := by decide +kernel
theorem dX10_write_75 : decode cX10_write 75 = .ok (.iload_n 2, 1) := by decide +kernel
theorem dX10_write_76 : decode cX10_write 76 = .ok (.aaload, 1) := by decide +kernel
theorem dX10_write_77 : decode cX10_write 77 = .ok (.iload 4, 2) := by decide +kernel
theorem dX10_write_79 : decode cX10_write 79 = .ok (.aload_n 0, 1) := by decide +kernel
theorem dX10_write_80 : decode cX10_write 80 = .ok (.getfield 45, 3) := by decide +kernel
theorem dX10_write_83 : decode cX10_write 83 = .ok (.getfield 163, 3) := by decide +kernel
theorem dX10_write_86 : decode cX10_write 86 = .ok (.iload_n 1, 1) := by decide +kernel
theorem dX10_write_87 : decode cX10_write 87 = .ok (.iconst 1, 1) := by decide +kernel
theorem dX10_write_88 : decode cX10_write 88 = .ok (.iadd, 1) := by decide +kernel
theorem dX10_write_89 : decode cX10_write 89 = .ok (.aaload, 1) := by decide +kernel
theorem dX10_write_90 : decode cX10_write 90 = .ok (.getfield 182, 3) := by decide +kernel
theorem dX10_write_93 : decode cX10_write 93 = .ok (.iload 4, 2) := by decide +kernel
theorem dX10_write_95 : decode cX10_write 95 = .ok (.iaload, 1) := by decide +kernel
theorem dX10_write_96 : decode cX10_write 96 = .ok (.invokevirtual 257, 3) := by decide +kernel
theorem dX10_write_99 : decode cX10_write 99 = .ok (.iinc 4 1, 3) := by decide +kernel
theorem dX10_write_102 : decode cX10_write 102 = .ok (.goto (-37), 3) := by decide +kernel
theorem dX10_write_105 : decode cX10_write 105 = .ok (.iload_n 3, 1) := by decide +kernel
theorem dX10_write_106 : decode cX10_write 106 = .ok (.ireturn, 1) := by decide +kernel
set_option maxRecDepth 4000 in
theorem s_X10_write_0 {w : GX} {d : Nat} {P : PN} {g : GI} (x1 : Int) (x2 : Int)
    (h : Zm w (d + 4) mX10_settle 0 [some (aR (some (0)))] [] g (fun r g1 => r = none ∧ (((nm (wi (x1) (20)) = 0 → P (some (aI ((-2)))) g1) ∧ (¬ nm (wi (x1) (20)) = 0 → (((¬ nm (wi (x2) (4)) = 0 → (0 ≤ nm x2 ∧ nm x2 < 4 ∧ (((nm (isNeg (g1 (220 + 2 * (nm x2).toNat) 2)) = 0 → (((∀ v10 : Int, v10 = iMin (g1 (220 + 2 * (nm x2).toNat) 2) (g1 18 9 + g1 18 10) → Zm w (d + 5) mX10_write 65 [some (aR (some (0))), some (aI (x1)), some (aI (x2)), some (aI (v10)), some (aI (0))] [] g1 P)))) ∧ (¬ nm (isNeg (g1 (220 + 2 * (nm x2).toNat) 2)) = 0 → (∀ g11 : GI, g11 = up2 g1 0 11 (1) → P (some (aI ((-10) - (1)))) g11)))))) ∧ (nm (wi (x2) (4)) = 0 → P (some (aI ((-2)))) g1)))))))) :
    Zm w (d + 5) mX10_write 0 [some (aR (some (0))), some (aI (x1)), some (aI (x2)), none, none] [] g P := by
  refine z_aload_n dX10_write_0 rfl rfl ?_
  refine m_callV (as := []) dX10_write_1 lk_X10_111 mok_X10_settle in_X10_settle sl_X10_settle kt_0 rfl rfl rfl (Nat.le_of_ble_eq_true rfl) rfl (Nat.le_of_ble_eq_true rfl) rfl (m_mono (fun r g1 hr => ?_) h)
  obtain ⟨rfl, h⟩ := hr
  show Zm w (d + 5) mX10_write 4 [some (aR (some (0))), some (aI (x1)), some (aI (x2)), none, none] [] g1 P
  refine z_iload_n dX10_write_4 rfl rfl ?_
  refine z_bipush dX10_write_5 rfl ?_
  refine m_callS (as := [aI (x1), aI (20)]) dX10_write_7 lk_X10_90 mok_X10_within st_X10_within rfl (Nat.le_of_ble_eq_true rfl) rfl (Nat.le_of_ble_eq_true rfl) rfl (c_X10_within  ?_)
  show Zm w (d + 5) mX10_write 10 [some (aR (some (0))), some (aI (x1)), some (aI (x2)), none, none] [aI (wi (x1) (20))] g1 P
  refine z_if_eq (tgt := 21) dX10_write_10 (by decide) (fun c3 => ?_) (fun c3 => ?_)
  · replace h := h.1 c3
    refine z_bipush dX10_write_21 rfl ?_
    exact m_iret dX10_write_23 rfl h
  · replace h := h.2 c3
    refine z_iload_n dX10_write_13 rfl rfl ?_
    refine z_iconst dX10_write_14 ?_
    refine m_callS (as := [aI (x2), aI (4)]) dX10_write_15 lk_X10_90 mok_X10_within st_X10_within rfl (Nat.le_of_ble_eq_true rfl) rfl (Nat.le_of_ble_eq_true rfl) rfl (c_X10_within  ?_)
    show Zm w (d + 5) mX10_write 18 [some (aR (some (0))), some (aI (x1)), some (aI (x2)), none, none] [aI (wi (x2) (4))] g1 P
    refine z_if_ne (tgt := 24) dX10_write_18 (by decide) (fun c4 => ?_) (fun c4 => ?_)
    · replace h := h.1 c4
      refine z_aload_n dX10_write_24 rfl rfl ?_
      refine m_getR dX10_write_25 fl_X10_76 (by decide) kt_0 rv_0_10 ?_
      refine z_iload_n dX10_write_28 rfl rfl ?_
      obtain ⟨q5, q6, h⟩ := h
      have t7 : (nm x2).toNat < 4 := by omega
      refine m_aaldv dX10_write_29 kv_215 q5 q6 (w_sheets _ t7) ?_
      refine m_callV (as := []) dX10_write_30 lk_X10_148 mok_X6_isLost in_X6_isLost sl_X6_isLost (congrArg Prod.fst (isS_at _ t7).1) rfl rfl rfl (Nat.le_of_ble_eq_true rfl) rfl (Nat.le_of_ble_eq_true rfl) rfl (c_X6_isLost (isS_at _ t7) ?_)
      show Zm w (d + 5) mX10_write 33 [some (aR (some (0))), some (aI (x1)), some (aI (x2)), none, none] [aI (isNeg (g1 (220 + 2 * (nm x2).toNat) 2))] g1 P
      refine z_if_eq (tgt := 42) dX10_write_33 (by decide) (fun c8 => ?_) (fun c8 => ?_)
      · replace h := h.1 c8
        refine z_aload_n dX10_write_42 rfl rfl ?_
        refine m_getR dX10_write_43 fl_X10_76 (by decide) kt_0 rv_0_10 ?_
        refine z_iload_n dX10_write_46 rfl rfl ?_
        have t9 : (nm x2).toNat < 4 := by omega
        refine m_aaldv dX10_write_47 kv_215 q5 q6 (w_sheets _ t9) ?_
        refine z_getI dX10_write_48 fl_X10_158 (by decide) (congrArg Prod.fst (isS_at _ t9).1) ?_
        refine z_aload_n dX10_write_51 rfl rfl ?_
        refine m_getR dX10_write_52 fl_X10_36 (by decide) kt_0 rv_0_5 ?_
        refine m_callV (as := []) dX10_write_55 lk_X10_179 mok_X9_names in_X9_names sl_X9_names kt_18 rfl rfl rfl (Nat.le_of_ble_eq_true rfl) rfl (Nat.le_of_ble_eq_true rfl) rfl (c_X9_names  ?_)
        show Zm w (d + 5) mX10_write 58 [some (aR (some (0))), some (aI (x1)), some (aI (x2)), none, none] [aI (g1 18 9 + g1 18 10), aI (g1 (220 + 2 * (nm x2).toNat) 2)] g1 P
        refine m_min dX10_write_58 lk_X10_272 (Nat.le_of_ble_eq_true rfl) ?_
        replace h := h _ rfl
        refine z_istore_n dX10_write_61 rfl (by decide) rfl ?_
        show Zm w (d + 5) mX10_write 62 [some (aR (some (0))), some (aI (x1)), some (aI (x2)), some (aI (iMin (g1 (220 + 2 * (nm x2).toNat) 2) (g1 18 9 + g1 18 10))), none] [] g1 P
        refine z_iconst dX10_write_62 ?_
        refine z_istore dX10_write_63 (by decide) rfl ?_
        show Zm w (d + 5) mX10_write 65 [some (aR (some (0))), some (aI (x1)), some (aI (x2)), some (aI ((iMin (g1 (220 + 2 * (nm x2).toNat) 2) (g1 18 9 + g1 18 10)))), some (aI (0))] [] g1 P
        exact z_weak (by simp [lle]) h
      · replace h := h.2 c8
        refine z_aload_n dX10_write_36 rfl rfl ?_
        refine z_iconst dX10_write_37 ?_
        refine m_callV (as := [aI (1)]) dX10_write_38 lk_X10_152 mok_X10_finding in_X10_finding sl_X10_finding kt_0 rfl rfl rfl (Nat.le_of_ble_eq_true rfl) rfl (Nat.le_of_ble_eq_true rfl) rfl (c_X10_finding  ?_)
        replace h := h _ rfl
        show Zm w (d + 5) mX10_write 41 [some (aR (some (0))), some (aI (x1)), some (aI (x2)), none, none] [aI ((-10) - (1))] (up2 g1 0 11 (1)) P
        exact m_iret dX10_write_41 rfl h
    · replace h := h.2 (Decidable.not_not.mp c4)
      refine z_bipush dX10_write_21 rfl ?_
      exact m_iret dX10_write_23 rfl h
set_option maxRecDepth 4000 in
theorem s_X10_write_65 {w : GX} {d : Nat} {P : PN} {g : GI} (x1 : Int) (x2 : Int) (x3 : Int) (x4 : Int)
    (h : ((¬ nm x4 < nm x3 → P (some (aI (x3))) g) ∧ (nm x4 < nm x3 → (0 ≤ nm x2 ∧ nm x2 < 4 ∧ (0 ≤ nm (x1 + 1) ∧ nm (x1 + 1) < 21 ∧ (0 ≤ nm x4 ∧ nm x4 < 28 ∧ Zm w (d + 4) mX6_put 0 [some (aR (some (220 + 2 * (nm x2).toNat))), some (aI (x4)), some (aI (g (31 + 5 * (nm (x1 + 1)).toNat + 1) (nm x4).toNat))] [] g (fun r g12 => r = none ∧ Zm w (d + 5) mX10_write 65 [some (aR (some (0))), some (aI (x1)), some (aI (x2)), some (aI (x3)), some (aI (x4 + 1))] [] g12 P))))))) :
    Zm w (d + 5) mX10_write 65 [some (aR (some (0))), some (aI (x1)), some (aI (x2)), some (aI (x3)), some (aI (x4))] [] g P := by
  refine z_iload dX10_write_65 rfl ?_
  refine z_iload_n dX10_write_67 rfl rfl ?_
  refine z_icmp_ge (tgt := 105) dX10_write_68 (by decide) (fun c1 => ?_) (fun c1 => ?_)
  · replace h := h.1 c1
    refine z_iload_n dX10_write_105 rfl rfl ?_
    exact m_iret dX10_write_106 rfl h
  · replace h := h.2 (Decidable.not_not.mp c1)
    refine z_aload_n dX10_write_71 rfl rfl ?_
    refine m_getR dX10_write_72 fl_X10_76 (by decide) kt_0 rv_0_10 ?_
    refine z_iload_n dX10_write_75 rfl rfl ?_
    obtain ⟨q2, q3, h⟩ := h
    have t4 : (nm x2).toNat < 4 := by omega
    refine m_aaldv dX10_write_76 kv_215 q2 q3 (w_sheets _ t4) ?_
    refine z_iload dX10_write_77 rfl ?_
    refine z_aload_n dX10_write_79 rfl rfl ?_
    refine m_getR dX10_write_80 fl_X10_45 (by decide) kt_0 rv_0_6 ?_
    refine m_getR dX10_write_83 fl_X10_163 (by decide) kt_27 rv_27_5 ?_
    refine z_iload_n dX10_write_86 rfl rfl ?_
    refine z_iconst dX10_write_87 ?_
    refine z_iadd dX10_write_88 ?_
    obtain ⟨q5, q6, h⟩ := h
    have t7 : (nm (x1 + 1)).toNat < 21 := by omega
    refine m_aaldv dX10_write_89 kv_30 q5 q6 (w_ahead _ t7) ?_
    refine m_getR dX10_write_90 fl_X10_182 (by decide) (congrArg Prod.fst (isW_ahead _ t7).1) (isW_ahead _ t7).2.2.2.2.2.1 ?_
    refine z_iload dX10_write_93 rfl ?_
    obtain ⟨q10, q11, h⟩ := h
    refine m_iald dX10_write_95 (isW_ahead _ t7).2.1 q10 q11 ?_
    refine m_callV (as := [aI (x4), aI (g (31 + 5 * (nm (x1 + 1)).toNat + 1) (nm x4).toNat)]) dX10_write_96 lk_X10_257 mok_X6_put in_X6_put sl_X6_put (congrArg Prod.fst (isS_at _ t4).1) rfl rfl rfl (Nat.le_of_ble_eq_true rfl) rfl (Nat.le_of_ble_eq_true rfl) rfl (m_mono (fun r g12 hr => ?_) h)
    obtain ⟨rfl, h⟩ := hr
    show Zm w (d + 5) mX10_write 99 [some (aR (some (0))), some (aI (x1)), some (aI (x2)), some (aI (x3)), some (aI (x4))] [] g12 P
    refine z_iinc dX10_write_99 rfl (by decide) rfl ?_
    show Zm w (d + 5) mX10_write 102 [some (aR (some (0))), some (aI (x1)), some (aI (x2)), some (aI (x3)), some (aI (x4 + 1))] [] g12 P
    refine z_goto (tgt := 65) dX10_write_102 (by decide) ?_
    exact z_weak (by simp [lle]) h
theorem dX10_count_0 : decode cX10_count 0 = .ok (.aload_n 0, 1) := by decide +kernel
theorem dX10_count_1 : decode cX10_count 1 = .ok (.invokevirtual 111, 3) := by decide +kernel
theorem dX10_count_4 : decode cX10_count 4 = .ok (.iload_n 1, 1) := by decide +kernel
theorem dX10_count_5 : decode cX10_count 5 = .ok (.tableswitch 132 0 8 #[51, 59, 67, 77, 87, 95, 103, 119, 127], 51) := by decide +kernel
theorem dX10_count_56 : decode cX10_count 56 = .ok (.aload_n 0, 1) := by decide +kernel
theorem dX10_count_57 : decode cX10_count 57 = .ok (.getfield 36, 3) := by decide +kernel
theorem dX10_count_60 : decode cX10_count 60 = .ok (.getfield 114, 3) := by decide +kernel
theorem dX10_count_63 : decode cX10_count 63 = .ok (.ireturn, 1) := by decide +kernel
theorem dX10_count_64 : decode cX10_count 64 = .ok (.aload_n 0, 1) := by decide +kernel
theorem dX10_count_65 : decode cX10_count 65 = .ok (.getfield 36, 3) := by decide +kernel
theorem dX10_count_68 : decode cX10_count 68 = .ok (.getfield 277, 3) := by decide +kernel
theorem dX10_count_71 : decode cX10_count 71 = .ok (.ireturn, 1) := by decide +kernel
theorem dX10_count_72 : decode cX10_count 72 = .ok (.aload_n 0, 1) := by decide +kernel
theorem dX10_count_73 : decode cX10_count 73 = .ok (.getfield 11, 3) := by decide +kernel
theorem dX10_count_76 : decode cX10_count 76 = .ok (.iconst 0, 1) := by decide +kernel
theorem dX10_count_77 : decode cX10_count 77 = .ok (.aaload, 1) := by decide +kernel
theorem dX10_count_78 : decode cX10_count 78 = .ok (.getfield 98, 3) := by decide +kernel
theorem dX10_count_81 : decode cX10_count 81 = .ok (.ireturn, 1) := by decide +kernel
theorem dX10_count_82 : decode cX10_count 82 = .ok (.aload_n 0, 1) := by decide +kernel
theorem dX10_count_83 : decode cX10_count 83 = .ok (.getfield 11, 3) := by decide +kernel
theorem dX10_count_86 : decode cX10_count 86 = .ok (.iconst 1, 1) := by decide +kernel
theorem dX10_count_87 : decode cX10_count 87 = .ok (.aaload, 1) := by decide +kernel
theorem dX10_count_88 : decode cX10_count 88 = .ok (.getfield 98, 3) := by decide +kernel
theorem dX10_count_91 : decode cX10_count 91 = .ok (.ireturn, 1) := by decide +kernel
theorem dX10_count_92 : decode cX10_count 92 = .ok (.aload_n 0, 1) := by decide +kernel
theorem dX10_count_93 : decode cX10_count 93 = .ok (.getfield 36, 3) := by decide +kernel
theorem dX10_count_96 : decode cX10_count 96 = .ok (.invokevirtual 179, 3) := by decide +kernel
theorem dX10_count_99 : decode cX10_count 99 = .ok (.ireturn, 1) := by decide +kernel
theorem dX10_count_100 : decode cX10_count 100 = .ok (.aload_n 0, 1) := by decide +kernel
theorem dX10_count_101 : decode cX10_count 101 = .ok (.getfield 20, 3) := by decide +kernel
theorem dX10_count_104 : decode cX10_count 104 = .ok (.getfield 194, 3) := by decide +kernel
theorem dX10_count_107 : decode cX10_count 107 = .ok (.ireturn, 1) := by decide +kernel
theorem dX10_count_108 : decode cX10_count 108 = .ok (.aload_n 0, 1) := by decide +kernel
theorem dX10_count_109 : decode cX10_count 109 = .ok (.getfield 24, 3) := by decide +kernel
theorem dX10_count_112 : decode cX10_count 112 = .ok (.getfield 194, 3) := by decide +kernel
theorem dX10_count_115 : decode cX10_count 115 = .ok (.aload_n 0, 1) := by decide +kernel
theorem dX10_count_116 : decode cX10_count 116 = .ok (.getfield 27, 3) := by decide +kernel
theorem dX10_count_119 : decode cX10_count 119 = .ok (.getfield 194, 3) := by decide +kernel
theorem dX10_count_122 : decode cX10_count 122 = .ok (.iadd, 1) := by decide +kernel
theorem dX10_count_123 : decode cX10_count 123 = .ok (.ireturn, 1) := by decide +kernel
theorem dX10_count_124 : decode cX10_count 124 = .ok (.aload_n 0, 1) := by decide +kernel
theorem dX10_count_125 : decode cX10_count 125 = .ok (.getfield 30, 3) := by decide +kernel
theorem dX10_count_128 : decode cX10_count 128 = .ok (.getfield 194, 3) := by decide +kernel
theorem dX10_count_131 : decode cX10_count 131 = .ok (.ireturn, 1) := by decide +kernel
theorem dX10_count_132 : decode cX10_count 132 = .ok (.aload_n 0, 1) := by decide +kernel
theorem dX10_count_133 : decode cX10_count 133 = .ok (.getfield 80, 3) := by decide +kernel
theorem dX10_count_136 : decode cX10_count 136 = .ok (.ireturn, 1) := by decide +kernel
theorem dX10_count_137 : decode cX10_count 137 = .ok (.bipush (-2), 2) := by decide +kernel
theorem dX10_count_139 : decode cX10_count 139 = .ok (.ireturn, 1) := by decide +kernel
set_option maxRecDepth 4000 in
theorem s_X10_count_0 {w : GX} {d : Nat} {P : PN} {g : GI} (x1 : Int)
    (h : Zm w (d + 4) mX10_settle 0 [some (aR (some (0)))] [] g (fun r g1 => r = none ∧ ((nm x1 = 0 → P (some (aI (g1 18 8))) g1) ∧ (nm x1 = 1 → P (some (aI (g1 18 10))) g1) ∧ (nm x1 = 2 → P (some (aI (g1 216 1))) g1) ∧ (nm x1 = 3 → P (some (aI (g1 218 1))) g1) ∧ (nm x1 = 4 → (P (some (aI (g1 18 9 + g1 18 10))) g1)) ∧ (nm x1 = 5 → P (some (aI (g1 2 3))) g1) ∧ (nm x1 = 6 → P (some (aI ((g1 6 3) + (g1 10 3)))) g1) ∧ (nm x1 = 7 → P (some (aI (g1 14 3))) g1) ∧ (nm x1 = 8 → P (some (aI (g1 0 11))) g1) ∧ (¬ nm x1 = 0 → ¬ nm x1 = 1 → ¬ nm x1 = 2 → ¬ nm x1 = 3 → ¬ nm x1 = 4 → ¬ nm x1 = 5 → ¬ nm x1 = 6 → ¬ nm x1 = 7 → ¬ nm x1 = 8 → P (some (aI ((-2)))) g1)))) :
    Zm w (d + 5) mX10_count 0 [some (aR (some (0))), some (aI (x1))] [] g P := by
  refine z_aload_n dX10_count_0 rfl rfl ?_
  refine m_callV (as := []) dX10_count_1 lk_X10_111 mok_X10_settle in_X10_settle sl_X10_settle kt_0 rfl rfl rfl (Nat.le_of_ble_eq_true rfl) rfl (Nat.le_of_ble_eq_true rfl) rfl (m_mono (fun r g1 hr => ?_) h)
  obtain ⟨rfl, h⟩ := hr
  show Zm w (d + 5) mX10_count 4 [some (aR (some (0))), some (aI (x1))] [] g1 P
  refine z_iload_n dX10_count_4 rfl rfl ?_
  refine z_tsw (df := 137) (cs := [(0, 56), (1, 64), (2, 72), (3, 82), (4, 92), (5, 100), (6, 108), (7, 124), (8, 132)]) dX10_count_5 (by decide) (by decide) (by decide) (by decide) ?_
  by_cases c3 : nm x1 = 0
  · rw [sw_c c3]
    replace h := h.1 c3
    refine z_aload_n dX10_count_56 rfl rfl ?_
    refine m_getR dX10_count_57 fl_X10_36 (by decide) kt_0 rv_0_5 ?_
    refine z_getI dX10_count_60 fl_X10_114 (by decide) kt_18 ?_
    exact m_iret dX10_count_63 rfl h
  rw [sw_n c3]; replace h := h.2
  by_cases c4 : nm x1 = 1
  · rw [sw_c c4]
    replace h := h.1 c4
    refine z_aload_n dX10_count_64 rfl rfl ?_
    refine m_getR dX10_count_65 fl_X10_36 (by decide) kt_0 rv_0_5 ?_
    refine z_getI dX10_count_68 fl_X10_277 (by decide) kt_18 ?_
    exact m_iret dX10_count_71 rfl h
  rw [sw_n c4]; replace h := h.2
  by_cases c5 : nm x1 = 2
  · rw [sw_c c5]
    replace h := h.1 c5
    refine z_aload_n dX10_count_72 rfl rfl ?_
    refine m_getR dX10_count_73 fl_X10_11 (by decide) kt_0 rv_0_0 ?_
    refine z_iconst dX10_count_76 ?_
    refine m_aaldv (r := 216) dX10_count_77 kv_1 (by decide) (by decide) (by decide +kernel) ?_
    refine z_getI dX10_count_78 fl_X10_98 (by decide) kt_216 ?_
    exact m_iret dX10_count_81 rfl h
  rw [sw_n c5]; replace h := h.2
  by_cases c6 : nm x1 = 3
  · rw [sw_c c6]
    replace h := h.1 c6
    refine z_aload_n dX10_count_82 rfl rfl ?_
    refine m_getR dX10_count_83 fl_X10_11 (by decide) kt_0 rv_0_0 ?_
    refine z_iconst dX10_count_86 ?_
    refine m_aaldv (r := 218) dX10_count_87 kv_1 (by decide) (by decide) (by decide +kernel) ?_
    refine z_getI dX10_count_88 fl_X10_98 (by decide) kt_218 ?_
    exact m_iret dX10_count_91 rfl h
  rw [sw_n c6]; replace h := h.2
  by_cases c7 : nm x1 = 4
  · rw [sw_c c7]
    replace h := h.1 c7
    refine z_aload_n dX10_count_92 rfl rfl ?_
    refine m_getR dX10_count_93 fl_X10_36 (by decide) kt_0 rv_0_5 ?_
    refine m_callV (as := []) dX10_count_96 lk_X10_179 mok_X9_names in_X9_names sl_X9_names kt_18 rfl rfl rfl (Nat.le_of_ble_eq_true rfl) rfl (Nat.le_of_ble_eq_true rfl) rfl (c_X9_names  ?_)
    show Zm w (d + 5) mX10_count 99 [some (aR (some (0))), some (aI (x1))] [aI (g1 18 9 + g1 18 10)] g1 P
    exact m_iret dX10_count_99 rfl h
  rw [sw_n c7]; replace h := h.2
  by_cases c8 : nm x1 = 5
  · rw [sw_c c8]
    replace h := h.1 c8
    refine z_aload_n dX10_count_100 rfl rfl ?_
    refine m_getR dX10_count_101 fl_X10_20 (by decide) kt_0 rv_0_1 ?_
    refine z_getI dX10_count_104 fl_X10_194 (by decide) kt_2 ?_
    exact m_iret dX10_count_107 rfl h
  rw [sw_n c8]; replace h := h.2
  by_cases c9 : nm x1 = 6
  · rw [sw_c c9]
    replace h := h.1 c9
    refine z_aload_n dX10_count_108 rfl rfl ?_
    refine m_getR dX10_count_109 fl_X10_24 (by decide) kt_0 rv_0_2 ?_
    refine z_getI dX10_count_112 fl_X10_194 (by decide) kt_6 ?_
    refine z_aload_n dX10_count_115 rfl rfl ?_
    refine m_getR dX10_count_116 fl_X10_27 (by decide) kt_0 rv_0_3 ?_
    refine z_getI dX10_count_119 fl_X10_194 (by decide) kt_10 ?_
    refine z_iadd dX10_count_122 ?_
    exact m_iret dX10_count_123 rfl h
  rw [sw_n c9]; replace h := h.2
  by_cases c10 : nm x1 = 7
  · rw [sw_c c10]
    replace h := h.1 c10
    refine z_aload_n dX10_count_124 rfl rfl ?_
    refine m_getR dX10_count_125 fl_X10_30 (by decide) kt_0 rv_0_4 ?_
    refine z_getI dX10_count_128 fl_X10_194 (by decide) kt_14 ?_
    exact m_iret dX10_count_131 rfl h
  rw [sw_n c10]; replace h := h.2
  by_cases c11 : nm x1 = 8
  · rw [sw_c c11]
    replace h := h.1 c11
    refine z_aload_n dX10_count_132 rfl rfl ?_
    refine z_getI dX10_count_133 fl_X10_80 (by decide) kt_0 ?_
    exact m_iret dX10_count_136 rfl h
  rw [sw_n c11]; replace h := h.2
  replace h := h c3 c4 c5 c6 c7 c8 c9 c10 c11
  rw [sw_e]
  refine z_bipush dX10_count_137 rfl ?_
  exact m_iret dX10_count_139 rfl h
theorem dX10_digest_0 : decode cX10_digest 0 = .ok (.aload_n 0, 1) := by decide +kernel
theorem dX10_digest_1 : decode cX10_digest 1 = .ok (.invokevirtual 111, 3) := by decide +kernel
theorem dX10_digest_4 : decode cX10_digest 4 = .ok (.ldc2_w 280, 3) := by decide +kernel
theorem dX10_digest_7 : decode cX10_digest 7 = .ok (.lstore_n 1, 1) := by decide +kernel
theorem dX10_digest_8 : decode cX10_digest 8 = .ok (.iconst 0, 1) := by decide +kernel
theorem dX10_digest_9 : decode cX10_digest 9 = .ok (.istore_n 3, 1) := by decide +kernel
theorem dX10_digest_10 : decode cX10_digest 10 = .ok (.iload_n 3, 1) := by decide +kernel
theorem dX10_digest_11 : decode cX10_digest 11 = .ok (.bipush 8, 2) := by decide +kernel
theorem dX10_digest_13 : decode cX10_digest 13 = .ok (.if_icmp .ge 22, 3) := by decide +kernel
theorem dX10_digest_16 : decode cX10_digest 16 = .ok (.ldc2_w 282, 3) := by decide +kernel
theorem dX10_digest_19 : decode cX10_digest 19 = .ok (.lload_n 1, 1) := by decide +kernel
theorem dX10_digest_20 : decode cX10_digest 20 = .ok (.lmul, 1) := by decide +kernel
theorem dX10_digest_21 : decode cX10_digest 21 = .ok (.aload_n 0, 1) := by decide +kernel
theorem dX10_digest_22 : decode cX10_digest 22 = .ok (.iload_n 3, 1) := by decide +kernel
theorem dX10_digest_23 : decode cX10_digest 23 = .ok (.invokevirtual 284, 3) := by decide +kernel
theorem dX10_digest_26 : decode cX10_digest 26 = .ok (.i2l, 1) := by decide +kernel
theorem dX10_digest_27 : decode cX10_digest 27 = .ok (.ladd, 1) := by decide +kernel
theorem dX10_digest_28 : decode cX10_digest 28 = .ok (.lstore_n 1, 1) := by decide +kernel
theorem dX10_digest_29 : decode cX10_digest 29 = .ok (.iinc 3 1, 3) := by decide +kernel
theorem dX10_digest_32 : decode cX10_digest 32 = .ok (.goto (-22), 3) := by decide +kernel
theorem dX10_digest_35 : decode cX10_digest 35 = .ok (.iconst 0, 1) := by decide +kernel
theorem dX10_digest_36 : decode cX10_digest 36 = .ok (.istore_n 3, 1) := by decide +kernel
theorem dX10_digest_37 : decode cX10_digest 37 = .ok (.iload_n 3, 1) := by decide +kernel
theorem dX10_digest_38 : decode cX10_digest 38 = .ok (.iconst 2, 1) := by decide +kernel
theorem dX10_digest_39 : decode cX10_digest 39 = .ok (.if_icmp .ge 22, 3) := by decide +kernel
theorem dX10_digest_42 : decode cX10_digest 42 = .ok (.ldc2_w 282, 3) := by decide +kernel
theorem dX10_digest_45 : decode cX10_digest 45 = .ok (.lload_n 1, 1) := by decide +kernel
theorem dX10_digest_46 : decode cX10_digest 46 = .ok (.lmul, 1) := by decide +kernel
theorem dX10_digest_47 : decode cX10_digest 47 = .ok (.aload_n 0, 1) := by decide +kernel
theorem dX10_digest_48 : decode cX10_digest 48 = .ok (.iload_n 3, 1) := by decide +kernel
theorem dX10_digest_49 : decode cX10_digest 49 = .ok (.invokevirtual 287, 3) := by decide +kernel
theorem dX10_digest_52 : decode cX10_digest 52 = .ok (.i2l, 1) := by decide +kernel
theorem dX10_digest_53 : decode cX10_digest 53 = .ok (.ladd, 1) := by decide +kernel
theorem dX10_digest_54 : decode cX10_digest 54 = .ok (.lstore_n 1, 1) := by decide +kernel
theorem dX10_digest_55 : decode cX10_digest 55 = .ok (.iinc 3 1, 3) := by decide +kernel
theorem dX10_digest_58 : decode cX10_digest 58 = .ok (.goto (-21), 3) := by decide +kernel
theorem dX10_digest_61 : decode cX10_digest 61 = .ok (.iconst 0, 1) := by decide +kernel
theorem dX10_digest_62 : decode cX10_digest 62 = .ok (.istore_n 3, 1) := by decide +kernel
theorem dX10_digest_63 : decode cX10_digest 63 = .ok (.iload_n 3, 1) := by decide +kernel
theorem dX10_digest_64 : decode cX10_digest 64 = .ok (.aload_n 0, 1) := by decide +kernel
theorem dX10_digest_65 : decode cX10_digest 65 = .ok (.getfield 36, 3) := by decide +kernel
theorem dX10_digest_68 : decode cX10_digest 68 = .ok (.getfield 114, 3) := by decide +kernel
theorem dX10_digest_71 : decode cX10_digest 71 = .ok (.if_icmp .ge 22, 3) := by decide +kernel
theorem dX10_digest_74 : decode cX10_digest 74 = .ok (.ldc2_w 282, 3) := by decide +kernel
theorem dX10_digest_77 : decode cX10_digest 77 = .ok (.lload_n 1, 1) := by decide +kernel
theorem dX10_digest_78 : decode cX10_digest 78 = .ok (.lmul, 1) := by decide +kernel
theorem dX10_digest_79 : decode cX10_digest 79 = .ok (.aload_n 0, 1) := by decide +kernel
theorem dX10_digest_80 : decode cX10_digest 80 = .ok (.iload_n 3, 1) := by decide +kernel
theorem dX10_digest_81 : decode cX10_digest 81 = .ok (.invokevirtual 290, 3) := by decide +kernel
theorem dX10_digest_84 : decode cX10_digest 84 = .ok (.i2l, 1) := by decide +kernel
theorem dX10_digest_85 : decode cX10_digest 85 = .ok (.ladd, 1) := by decide +kernel
theorem dX10_digest_86 : decode cX10_digest 86 = .ok (.lstore_n 1, 1) := by decide +kernel
theorem dX10_digest_87 : decode cX10_digest 87 = .ok (.iinc 3 1, 3) := by decide +kernel
theorem dX10_digest_90 : decode cX10_digest 90 = .ok (.goto (-27), 3) := by decide +kernel
theorem dX10_digest_93 : decode cX10_digest 93 = .ok (.iconst 0, 1) := by decide +kernel
theorem dX10_digest_94 : decode cX10_digest 94 = .ok (.istore_n 3, 1) := by decide +kernel
theorem dX10_digest_95 : decode cX10_digest 95 = .ok (.iload_n 3, 1) := by decide +kernel
theorem dX10_digest_96 : decode cX10_digest 96 = .ok (.aload_n 0, 1) := by decide +kernel
theorem dX10_digest_97 : decode cX10_digest 97 = .ok (.getfield 36, 3) := by decide +kernel
theorem dX10_digest_100 : decode cX10_digest 100 = .ok (.getfield 277, 3) := by decide +kernel
theorem dX10_digest_103 : decode cX10_digest 103 = .ok (.if_icmp .ge 87, 3) := by decide +kernel
theorem dX10_digest_106 : decode cX10_digest 106 = .ok (.iconst 0, 1) := by decide +kernel
theorem dX10_digest_107 : decode cX10_digest 107 = .ok (.istore 4, 2) := by decide +kernel
theorem dX10_digest_109 : decode cX10_digest 109 = .ok (.iload 4, 2) := by decide +kernel
theorem dX10_digest_111 : decode cX10_digest 111 = .ok (.iconst 4, 1) := by decide +kernel
theorem dX10_digest_112 : decode cX10_digest 112 = .ok (.if_icmp .ge 24, 3) := by decide +kernel
theorem dX10_digest_115 : decode cX10_digest 115 = .ok (.ldc2_w 282, 3) := by decide +kernel
theorem dX10_digest_118 : decode cX10_digest 118 = .ok (.lload_n 1, 1) := by decide +kernel
theorem dX10_digest_119 : decode cX10_digest 119 = .ok (.lmul, 1) := by decide +kernel
theorem dX10_digest_120 : decode cX10_digest 120 = .ok (.aload_n 0, 1) := by decide +kernel
theorem dX10_digest_121 : decode cX10_digest 121 = .ok (.iload_n 3, 1) := by decide +kernel
theorem dX10_digest_122 : decode cX10_digest 122 = .ok (.iload 4, 2) := by decide +kernel
theorem dX10_digest_124 : decode cX10_digest 124 = .ok (.invokevirtual 293, 3) := by decide +kernel
theorem dX10_digest_127 : decode cX10_digest 127 = .ok (.i2l, 1) := by decide +kernel
theorem dX10_digest_128 : decode cX10_digest 128 = .ok (.ladd, 1) := by decide +kernel
theorem dX10_digest_129 : decode cX10_digest 129 = .ok (.lstore_n 1, 1) := by decide +kernel
theorem dX10_digest_130 : decode cX10_digest 130 = .ok (.iinc 4 1, 3) := by decide +kernel
theorem dX10_digest_133 : decode cX10_digest 133 = .ok (.goto (-24), 3) := by decide +kernel
theorem dX10_digest_136 : decode cX10_digest 136 = .ok (.iconst 3, 1) := by decide +kernel
theorem dX10_digest_137 : decode cX10_digest 137 = .ok (.istore 4, 2) := by decide +kernel
theorem dX10_digest_139 : decode cX10_digest 139 = .ok (.iload 4, 2) := by decide +kernel
theorem dX10_digest_141 : decode cX10_digest 141 = .ok (.bipush 19, 2) := by decide +kernel
theorem dX10_digest_143 : decode cX10_digest 143 = .ok (.if_icmp .gt 41, 3) := by decide +kernel
theorem dX10_digest_146 : decode cX10_digest 146 = .ok (.iconst 0, 1) := by decide +kernel
theorem dX10_digest_147 : decode cX10_digest 147 = .ok (.istore 5, 2) := by decide +kernel
theorem dX10_digest_149 : decode cX10_digest 149 = .ok (.iload 5, 2) := by decide +kernel
theorem dX10_digest_151 : decode cX10_digest 151 = .ok (.iconst 4, 1) := by decide +kernel
theorem dX10_digest_152 : decode cX10_digest 152 = .ok (.if_icmp .ge 26, 3) := by decide +kernel
theorem dX10_digest_155 : decode cX10_digest 155 = .ok (.ldc2_w 282, 3) := by decide +kernel
theorem dX10_digest_158 : decode cX10_digest 158 = .ok (.lload_n 1, 1) := by decide +kernel
theorem dX10_digest_159 : decode cX10_digest 159 = .ok (.lmul, 1) := by decide +kernel
theorem dX10_digest_160 : decode cX10_digest 160 = .ok (.aload_n 0, 1) := by decide +kernel
theorem dX10_digest_161 : decode cX10_digest 161 = .ok (.iload 4, 2) := by decide +kernel
theorem dX10_digest_163 : decode cX10_digest 163 = .ok (.iload_n 3, 1) := by decide +kernel
theorem dX10_digest_164 : decode cX10_digest 164 = .ok (.iload 5, 2) := by decide +kernel
theorem dX10_digest_166 : decode cX10_digest 166 = .ok (.invokevirtual 296, 3) := by decide +kernel
theorem dX10_digest_169 : decode cX10_digest 169 = .ok (.i2l, 1) := by decide +kernel
theorem dX10_digest_170 : decode cX10_digest 170 = .ok (.ladd, 1) := by decide +kernel
theorem dX10_digest_171 : decode cX10_digest 171 = .ok (.lstore_n 1, 1) := by decide +kernel
theorem dX10_digest_172 : decode cX10_digest 172 = .ok (.iinc 5 1, 3) := by decide +kernel
theorem dX10_digest_175 : decode cX10_digest 175 = .ok (.goto (-26), 3) := by decide +kernel
theorem dX10_digest_178 : decode cX10_digest 178 = .ok (.iinc 4 16, 3) := by decide +kernel
theorem dX10_digest_181 : decode cX10_digest 181 = .ok (.goto (-42), 3) := by decide +kernel
theorem dX10_digest_184 : decode cX10_digest 184 = .ok (.iinc 3 1, 3) := by decide +kernel
theorem dX10_digest_187 : decode cX10_digest 187 = .ok (.goto (-92), 3) := by decide +kernel
theorem dX10_digest_190 : decode cX10_digest 190 = .ok (.iconst 0, 1) := by decide +kernel
theorem dX10_digest_191 : decode cX10_digest 191 = .ok (.istore_n 3, 1) := by decide +kernel
theorem dX10_digest_192 : decode cX10_digest 192 = .ok (.iload_n 3, 1) := by decide +kernel
theorem dX10_digest_193 : decode cX10_digest 193 = .ok (.aload_n 0, 1) := by decide +kernel
theorem dX10_digest_194 : decode cX10_digest 194 = .ok (.getfield 36, 3) := by decide +kernel
theorem dX10_digest_197 : decode cX10_digest 197 = .ok (.getfield 277, 3) := by decide +kernel
theorem dX10_digest_200 : decode cX10_digest 200 = .ok (.if_icmp .ge 107, 3) := by decide +kernel
theorem dX10_digest_203 : decode cX10_digest 203 = .ok (.ldc2_w 282, 3) := by decide +kernel
theorem dX10_digest_206 : decode cX10_digest 206 = .ok (.lload_n 1, 1) := by decide +kernel
theorem dX10_digest_207 : decode cX10_digest 207 = .ok (.lmul, 1) := by decide +kernel
theorem dX10_digest_208 : decode cX10_digest 208 = .ok (.aload_n 0, 1) := by decide +kernel
theorem dX10_digest_209 : decode cX10_digest 209 = .ok (.iload_n 3, 1) := by decide +kernel
theorem dX10_digest_210 : decode cX10_digest 210 = .ok (.iconst 2, 1) := by decide +kernel
theorem dX10_digest_211 : decode cX10_digest 211 = .ok (.bipush 9, 2) := by decide +kernel
theorem dX10_digest_213 : decode cX10_digest 213 = .ok (.iconst (-1), 1) := by decide +kernel
theorem dX10_digest_214 : decode cX10_digest 214 = .ok (.invokevirtual 299, 3) := by decide +kernel
theorem dX10_digest_217 : decode cX10_digest 217 = .ok (.i2l, 1) := by decide +kernel
theorem dX10_digest_218 : decode cX10_digest 218 = .ok (.ladd, 1) := by decide +kernel
theorem dX10_digest_219 : decode cX10_digest 219 = .ok (.lstore_n 1, 1) := by decide +kernel
theorem dX10_digest_220 : decode cX10_digest 220 = .ok (.ldc2_w 282, 3) := by decide +kernel
theorem dX10_digest_223 : decode cX10_digest 223 = .ok (.lload_n 1, 1) := by decide +kernel
theorem dX10_digest_224 : decode cX10_digest 224 = .ok (.lmul, 1) := by decide +kernel
theorem dX10_digest_225 : decode cX10_digest 225 = .ok (.aload_n 0, 1) := by decide +kernel
theorem dX10_digest_226 : decode cX10_digest 226 = .ok (.iload_n 3, 1) := by decide +kernel
theorem dX10_digest_227 : decode cX10_digest 227 = .ok (.iconst 2, 1) := by decide +kernel
theorem dX10_digest_228 : decode cX10_digest 228 = .ok (.bipush 9, 2) := by decide +kernel
theorem dX10_digest_230 : decode cX10_digest 230 = .ok (.iconst 0, 1) := by decide +kernel
theorem dX10_digest_231 : decode cX10_digest 231 = .ok (.invokevirtual 299, 3) := by decide +kernel
theorem dX10_digest_234 : decode cX10_digest 234 = .ok (.i2l, 1) := by decide +kernel
theorem dX10_digest_235 : decode cX10_digest 235 = .ok (.ladd, 1) := by decide +kernel
theorem dX10_digest_236 : decode cX10_digest 236 = .ok (.lstore_n 1, 1) := by decide +kernel
theorem dX10_digest_237 : decode cX10_digest 237 = .ok (.ldc2_w 282, 3) := by decide +kernel
theorem dX10_digest_240 : decode cX10_digest 240 = .ok (.lload_n 1, 1) := by decide +kernel
theorem dX10_digest_241 : decode cX10_digest 241 = .ok (.lmul, 1) := by decide +kernel
theorem dX10_digest_242 : decode cX10_digest 242 = .ok (.aload_n 0, 1) := by decide +kernel
theorem dX10_digest_243 : decode cX10_digest 243 = .ok (.iload_n 3, 1) := by decide +kernel
theorem dX10_digest_244 : decode cX10_digest 244 = .ok (.invokevirtual 303, 3) := by decide +kernel
theorem dX10_digest_247 : decode cX10_digest 247 = .ok (.i2l, 1) := by decide +kernel
theorem dX10_digest_248 : decode cX10_digest 248 = .ok (.ladd, 1) := by decide +kernel
theorem dX10_digest_249 : decode cX10_digest 249 = .ok (.lstore_n 1, 1) := by decide +kernel
theorem dX10_digest_250 : decode cX10_digest 250 = .ok (.ldc2_w 282, 3) := by decide +kernel
theorem dX10_digest_253 : decode cX10_digest 253 = .ok (.lload_n 1, 1) := by decide +kernel
theorem dX10_digest_254 : decode cX10_digest 254 = .ok (.lmul, 1) := by decide +kernel
theorem dX10_digest_255 : decode cX10_digest 255 = .ok (.aload_n 0, 1) := by decide +kernel
theorem dX10_digest_256 : decode cX10_digest 256 = .ok (.iconst 5, 1) := by decide +kernel
theorem dX10_digest_257 : decode cX10_digest 257 = .ok (.bipush 6, 2) := by decide +kernel
theorem dX10_digest_259 : decode cX10_digest 259 = .ok (.iload_n 3, 1) := by decide +kernel
theorem dX10_digest_260 : decode cX10_digest 260 = .ok (.iconst 2, 1) := by decide +kernel
theorem dX10_digest_261 : decode cX10_digest 261 = .ok (.iconst 0, 1) := by decide +kernel
theorem dX10_digest_262 : decode cX10_digest 262 = .ok (.invokevirtual 306, 3) := by decide +kernel
theorem dX10_digest_265 : decode cX10_digest 265 = .ok (.ladd, 1) := by decide +kernel
theorem dX10_digest_266 : decode cX10_digest 266 = .ok (.lstore_n 1, 1) := by decide +kernel
theorem dX10_digest_267 : decode cX10_digest 267 = .ok (.ldc2_w 282, 3) := by decide +kernel
theorem dX10_digest_270 : decode cX10_digest 270 = .ok (.lload_n 1, 1) := by decide +kernel
theorem dX10_digest_271 : decode cX10_digest 271 = .ok (.lmul, 1) := by decide +kernel
theorem dX10_digest_272 : decode cX10_digest 272 = .ok (.aload_n 0, 1) := by decide +kernel
theorem dX10_digest_273 : decode cX10_digest 273 = .ok (.iconst 5, 1) := by decide +kernel
theorem dX10_digest_274 : decode cX10_digest 274 = .ok (.bipush 6, 2) := by decide +kernel
theorem dX10_digest_276 : decode cX10_digest 276 = .ok (.iload_n 3, 1) := by decide +kernel
theorem dX10_digest_277 : decode cX10_digest 277 = .ok (.iconst 2, 1) := by decide +kernel
theorem dX10_digest_278 : decode cX10_digest 278 = .ok (.iconst 1, 1) := by decide +kernel
theorem dX10_digest_279 : decode cX10_digest 279 = .ok (.invokevirtual 306, 3) := by decide +kernel
theorem dX10_digest_282 : decode cX10_digest 282 = .ok (.ladd, 1) := by decide +kernel
theorem dX10_digest_283 : decode cX10_digest 283 = .ok (.lstore_n 1, 1) := by decide +kernel
theorem dX10_digest_284 : decode cX10_digest 284 = .ok (.ldc2_w 282, 3) := by decide +kernel
theorem dX10_digest_287 : decode cX10_digest 287 = .ok (.lload_n 1, 1) := by decide +kernel
theorem dX10_digest_288 : decode cX10_digest 288 = .ok (.lmul, 1) := by decide +kernel
theorem dX10_digest_289 : decode cX10_digest 289 = .ok (.aload_n 0, 1) := by decide +kernel
theorem dX10_digest_290 : decode cX10_digest 290 = .ok (.bipush 7, 2) := by decide +kernel
theorem dX10_digest_292 : decode cX10_digest 292 = .ok (.bipush 19, 2) := by decide +kernel
theorem dX10_digest_294 : decode cX10_digest 294 = .ok (.iload_n 3, 1) := by decide +kernel
theorem dX10_digest_295 : decode cX10_digest 295 = .ok (.invokevirtual 310, 3) := by decide +kernel
theorem dX10_digest_298 : decode cX10_digest 298 = .ok (.i2l, 1) := by decide +kernel
theorem dX10_digest_299 : decode cX10_digest 299 = .ok (.ladd, 1) := by decide +kernel
theorem dX10_digest_300 : decode cX10_digest 300 = .ok (.lstore_n 1, 1) := by decide +kernel
theorem dX10_digest_301 : decode cX10_digest 301 = .ok (.iinc 3 1, 3) := by decide +kernel
theorem dX10_digest_304 : decode cX10_digest 304 = .ok (.goto (-112), 3) := by decide +kernel
theorem dX10_digest_307 : decode cX10_digest 307 = .ok (.iconst 0, 1) := by decide +kernel
theorem dX10_digest_308 : decode cX10_digest 308 = .ok (.istore_n 3, 1) := by decide +kernel
theorem dX10_digest_309 : decode cX10_digest 309 = .ok (.iload_n 3, 1) := by decide +kernel
theorem dX10_digest_310 : decode cX10_digest 310 = .ok (.aload_n 0, 1) := by decide +kernel
theorem dX10_digest_311 : decode cX10_digest 311 = .ok (.getfield 36, 3) := by decide +kernel
theorem dX10_digest_314 : decode cX10_digest 314 = .ok (.invokevirtual 179, 3) := by decide +kernel
theorem dX10_digest_317 : decode cX10_digest 317 = .ok (.if_icmp .ge 57, 3) := by decide +kernel
theorem dX10_digest_320 : decode cX10_digest 320 = .ok (.iconst 0, 1) := by decide +kernel
theorem dX10_digest_321 : decode cX10_digest 321 = .ok (.istore 4, 2) := by decide +kernel
theorem dX10_digest_323 : decode cX10_digest 323 = .ok (.iload 4, 2) := by decide +kernel
theorem dX10_digest_325 : decode cX10_digest 325 = .ok (.iconst 3, 1) := by decide +kernel
theorem dX10_digest_326 : decode cX10_digest 326 = .ok (.if_icmp .ge 26, 3) := by decide +kernel
theorem dX10_digest_329 : decode cX10_digest 329 = .ok (.ldc2_w 282, 3) := by decide +kernel
theorem dX10_digest_332 : decode cX10_digest 332 = .ok (.lload_n 1, 1) := by decide +kernel
theorem dX10_digest_333 : decode cX10_digest 333 = .ok (.lmul, 1) := by decide +kernel
theorem dX10_digest_334 : decode cX10_digest 334 = .ok (.aload_n 0, 1) := by decide +kernel
theorem dX10_digest_335 : decode cX10_digest 335 = .ok (.bipush 9, 2) := by decide +kernel
theorem dX10_digest_337 : decode cX10_digest 337 = .ok (.iload_n 3, 1) := by decide +kernel
theorem dX10_digest_338 : decode cX10_digest 338 = .ok (.iload 4, 2) := by decide +kernel
theorem dX10_digest_340 : decode cX10_digest 340 = .ok (.invokevirtual 313, 3) := by decide +kernel
theorem dX10_digest_343 : decode cX10_digest 343 = .ok (.i2l, 1) := by decide +kernel
theorem dX10_digest_344 : decode cX10_digest 344 = .ok (.ladd, 1) := by decide +kernel
theorem dX10_digest_345 : decode cX10_digest 345 = .ok (.lstore_n 1, 1) := by decide +kernel
theorem dX10_digest_346 : decode cX10_digest 346 = .ok (.iinc 4 1, 3) := by decide +kernel
theorem dX10_digest_349 : decode cX10_digest 349 = .ok (.goto (-26), 3) := by decide +kernel
theorem dX10_digest_352 : decode cX10_digest 352 = .ok (.ldc2_w 282, 3) := by decide +kernel
theorem dX10_digest_355 : decode cX10_digest 355 = .ok (.lload_n 1, 1) := by decide +kernel
theorem dX10_digest_356 : decode cX10_digest 356 = .ok (.lmul, 1) := by decide +kernel
theorem dX10_digest_357 : decode cX10_digest 357 = .ok (.aload_n 0, 1) := by decide +kernel
theorem dX10_digest_358 : decode cX10_digest 358 = .ok (.bipush 19, 2) := by decide +kernel
theorem dX10_digest_360 : decode cX10_digest 360 = .ok (.iload_n 3, 1) := by decide +kernel
theorem dX10_digest_361 : decode cX10_digest 361 = .ok (.iconst 0, 1) := by decide +kernel
theorem dX10_digest_362 : decode cX10_digest 362 = .ok (.invokevirtual 313, 3) := by decide +kernel
theorem dX10_digest_365 : decode cX10_digest 365 = .ok (.i2l, 1) := by decide +kernel
theorem dX10_digest_366 : decode cX10_digest 366 = .ok (.ladd, 1) := by decide +kernel
theorem dX10_digest_367 : decode cX10_digest 367 = .ok (.lstore_n 1, 1) := by decide +kernel
theorem dX10_digest_368 : decode cX10_digest 368 = .ok (.iinc 3 1, 3) := by decide +kernel
theorem dX10_digest_371 : decode cX10_digest 371 = .ok (.goto (-62), 3) := by decide +kernel
theorem dX10_digest_374 : decode cX10_digest 374 = .ok (.iconst 0, 1) := by decide +kernel
theorem dX10_digest_375 : decode cX10_digest 375 = .ok (.istore_n 3, 1) := by decide +kernel
theorem dX10_digest_376 : decode cX10_digest 376 = .ok (.iload_n 3, 1) := by decide +kernel
theorem dX10_digest_377 : decode cX10_digest 377 = .ok (.aload_n 0, 1) := by decide +kernel
theorem dX10_digest_378 : decode cX10_digest 378 = .ok (.getfield 20, 3) := by decide +kernel
theorem dX10_digest_381 : decode cX10_digest 381 = .ok (.getfield 194, 3) := by decide +kernel
theorem dX10_digest_384 : decode cX10_digest 384 = .ok (.if_icmp .ge 22, 3) := by decide +kernel
theorem dX10_digest_387 : decode cX10_digest 387 = .ok (.ldc2_w 282, 3) := by decide +kernel
theorem dX10_digest_390 : decode cX10_digest 390 = .ok (.lload_n 1, 1) := by decide +kernel
theorem dX10_digest_391 : decode cX10_digest 391 = .ok (.lmul, 1) := by decide +kernel
theorem dX10_digest_392 : decode cX10_digest 392 = .ok (.aload_n 0, 1) := by decide +kernel
theorem dX10_digest_393 : decode cX10_digest 393 = .ok (.iload_n 3, 1) := by decide +kernel
theorem dX10_digest_394 : decode cX10_digest 394 = .ok (.invokevirtual 316, 3) := by decide +kernel
theorem dX10_digest_397 : decode cX10_digest 397 = .ok (.i2l, 1) := by decide +kernel
theorem dX10_digest_398 : decode cX10_digest 398 = .ok (.ladd, 1) := by decide +kernel
theorem dX10_digest_399 : decode cX10_digest 399 = .ok (.lstore_n 1, 1) := by decide +kernel
theorem dX10_digest_400 : decode cX10_digest 400 = .ok (.iinc 3 1, 3) := by decide +kernel
theorem dX10_digest_403 : decode cX10_digest 403 = .ok (.goto (-27), 3) := by decide +kernel
theorem dX10_digest_406 : decode cX10_digest 406 = .ok (.ldc2_w 282, 3) := by decide +kernel
theorem dX10_digest_409 : decode cX10_digest 409 = .ok (.lload_n 1, 1) := by decide +kernel
theorem dX10_digest_410 : decode cX10_digest 410 = .ok (.lmul, 1) := by decide +kernel
theorem dX10_digest_411 : decode cX10_digest 411 = .ok (.aload_n 0, 1) := by decide +kernel
theorem dX10_digest_412 : decode cX10_digest 412 = .ok (.bipush 9, 2) := by decide +kernel
theorem dX10_digest_414 : decode cX10_digest 414 = .ok (.invokevirtual 319, 3) := by decide +kernel
theorem dX10_digest_417 : decode cX10_digest 417 = .ok (.i2l, 1) := by decide +kernel
theorem dX10_digest_418 : decode cX10_digest 418 = .ok (.ladd, 1) := by decide +kernel
theorem dX10_digest_419 : decode cX10_digest 419 = .ok (.lstore_n 1, 1) := by decide +kernel
theorem dX10_digest_420 : decode cX10_digest 420 = .ok (.ldc2_w 282, 3) := by decide +kernel
theorem dX10_digest_423 : decode cX10_digest 423 = .ok (.lload_n 1, 1) := by decide +kernel
theorem dX10_digest_424 : decode cX10_digest 424 = .ok (.lmul, 1) := by decide +kernel
theorem dX10_digest_425 : decode cX10_digest 425 = .ok (.aload_n 0, 1) := by decide +kernel
theorem dX10_digest_426 : decode cX10_digest 426 = .ok (.iconst 0, 1) := by decide +kernel
theorem dX10_digest_427 : decode cX10_digest 427 = .ok (.invokevirtual 322, 3) := by decide +kernel
theorem dX10_digest_430 : decode cX10_digest 430 = .ok (.i2l, 1) := by decide +kernel
theorem dX10_digest_431 : decode cX10_digest 431 = .ok (.ladd, 1) := by decide +kernel
theorem dX10_digest_432 : decode cX10_digest 432 = .ok (.lstore_n 1, 1) := by decide +kernel
theorem dX10_digest_433 : decode cX10_digest 433 = .ok (.ldc2_w 282, 3) := by decide +kernel
theorem dX10_digest_436 : decode cX10_digest 436 = .ok (.lload_n 1, 1) := by decide +kernel
theorem dX10_digest_437 : decode cX10_digest 437 = .ok (.lmul, 1) := by decide +kernel
theorem dX10_digest_438 : decode cX10_digest 438 = .ok (.aload_n 0, 1) := by decide +kernel
theorem dX10_digest_439 : decode cX10_digest 439 = .ok (.iconst 1, 1) := by decide +kernel
theorem dX10_digest_440 : decode cX10_digest 440 = .ok (.invokevirtual 322, 3) := by decide +kernel
theorem dX10_digest_443 : decode cX10_digest 443 = .ok (.i2l, 1) := by decide +kernel
theorem dX10_digest_444 : decode cX10_digest 444 = .ok (.ladd, 1) := by decide +kernel
theorem dX10_digest_445 : decode cX10_digest 445 = .ok (.lstore_n 1, 1) := by decide +kernel
theorem dX10_digest_446 : decode cX10_digest 446 = .ok (.ldc2_w 282, 3) := by decide +kernel
theorem dX10_digest_449 : decode cX10_digest 449 = .ok (.lload_n 1, 1) := by decide +kernel
theorem dX10_digest_450 : decode cX10_digest 450 = .ok (.lmul, 1) := by decide +kernel
theorem dX10_digest_451 : decode cX10_digest 451 = .ok (.aload_n 0, 1) := by decide +kernel
theorem dX10_digest_452 : decode cX10_digest 452 = .ok (.iconst 2, 1) := by decide +kernel
theorem dX10_digest_453 : decode cX10_digest 453 = .ok (.iconst (-1), 1) := by decide +kernel
theorem dX10_digest_454 : decode cX10_digest 454 = .ok (.invokevirtual 325, 3) := by decide +kernel
theorem dX10_digest_457 : decode cX10_digest 457 = .ok (.i2l, 1) := by decide +kernel
theorem dX10_digest_458 : decode cX10_digest 458 = .ok (.ladd, 1) := by decide +kernel
theorem dX10_digest_459 : decode cX10_digest 459 = .ok (.lstore_n 1, 1) := by decide +kernel
theorem dX10_digest_460 : decode cX10_digest 460 = .ok (.ldc2_w 282, 3) := by decide +kernel
theorem dX10_digest_463 : decode cX10_digest 463 = .ok (.lload_n 1, 1) := by decide +kernel
theorem dX10_digest_464 : decode cX10_digest 464 = .ok (.lmul, 1) := by decide +kernel
theorem dX10_digest_465 : decode cX10_digest 465 = .ok (.aload_n 0, 1) := by decide +kernel
theorem dX10_digest_466 : decode cX10_digest 466 = .ok (.iconst 2, 1) := by decide +kernel
theorem dX10_digest_467 : decode cX10_digest 467 = .ok (.iconst 0, 1) := by decide +kernel
theorem dX10_digest_468 : decode cX10_digest 468 = .ok (.invokevirtual 325, 3) := by decide +kernel
theorem dX10_digest_471 : decode cX10_digest 471 = .ok (.i2l, 1) := by decide +kernel
theorem dX10_digest_472 : decode cX10_digest 472 = .ok (.ladd, 1) := by decide +kernel
theorem dX10_digest_473 : decode cX10_digest 473 = .ok (.lstore_n 1, 1) := by decide +kernel
theorem dX10_digest_474 : decode cX10_digest 474 = .ok (.ldc2_w 282, 3) := by decide +kernel
theorem dX10_digest_477 : decode cX10_digest 477 = .ok (.lload_n 1, 1) := by decide +kernel
theorem dX10_digest_478 : decode cX10_digest 478 = .ok (.lmul, 1) := by decide +kernel
theorem dX10_digest_479 : decode cX10_digest 479 = .ok (.aload_n 0, 1) := by decide +kernel
theorem dX10_digest_480 : decode cX10_digest 480 = .ok (.invokevirtual 328, 3) := by decide +kernel
theorem dX10_digest_483 : decode cX10_digest 483 = .ok (.i2l, 1) := by decide +kernel
theorem dX10_digest_484 : decode cX10_digest 484 = .ok (.ladd, 1) := by decide +kernel
theorem dX10_digest_485 : decode cX10_digest 485 = .ok (.lstore_n 1, 1) := by decide +kernel
theorem dX10_digest_486 : decode cX10_digest 486 = .ok (.ldc2_w 282, 3) := by decide +kernel
theorem dX10_digest_489 : decode cX10_digest 489 = .ok (.lload_n 1, 1) := by decide +kernel
theorem dX10_digest_490 : decode cX10_digest 490 = .ok (.lmul, 1) := by decide +kernel
theorem dX10_digest_491 : decode cX10_digest 491 = .ok (.aload_n 0, 1) := by decide +kernel
theorem dX10_digest_492 : decode cX10_digest 492 = .ok (.bipush 9, 2) := by decide +kernel
theorem dX10_digest_494 : decode cX10_digest 494 = .ok (.invokevirtual 331, 3) := by decide +kernel
theorem dX10_digest_497 : decode cX10_digest 497 = .ok (.i2l, 1) := by decide +kernel
theorem dX10_digest_498 : decode cX10_digest 498 = .ok (.ladd, 1) := by decide +kernel
theorem dX10_digest_499 : decode cX10_digest 499 = .ok (.lstore_n 1, 1) := by decide +kernel
theorem dX10_digest_500 : decode cX10_digest 500 = .ok (.ldc2_w 282, 3) := by decide +kernel
theorem dX10_digest_503 : decode cX10_digest 503 = .ok (.lload_n 1, 1) := by decide +kernel
theorem dX10_digest_504 : decode cX10_digest 504 = .ok (.lmul, 1) := by decide +kernel
theorem dX10_digest_505 : decode cX10_digest 505 = .ok (.aload_n 0, 1) := by decide +kernel
theorem dX10_digest_506 : decode cX10_digest 506 = .ok (.bipush 7, 2) := by decide +kernel
theorem dX10_digest_508 : decode cX10_digest 508 = .ok (.bipush 19, 2) := by decide +kernel
theorem dX10_digest_510 : decode cX10_digest 510 = .ok (.iconst (-1), 1) := by decide +kernel
theorem dX10_digest_511 : decode cX10_digest 511 = .ok (.invokevirtual 310, 3) := by decide +kernel
theorem dX10_digest_514 : decode cX10_digest 514 = .ok (.i2l, 1) := by decide +kernel
theorem dX10_digest_515 : decode cX10_digest 515 = .ok (.ladd, 1) := by decide +kernel
theorem dX10_digest_516 : decode cX10_digest 516 = .ok (.lreturn, 1) := by decide +kernel
set_option maxRecDepth 4000 in
theorem s_X10_digest_0 {w : GX} {d : Nat} {P : PN} {g : GI} 
    (h : Zm w (d + 5) mX10_settle 0 [some (aR (some (0)))] [] g (fun r g1 => r = none ∧ Zm w (d + 6) mX10_digest 10 [some (aR (some (0))), some (aL (17)), none, some (aI (0)), none, none] [] g1 P)) :
    Zm w (d + 6) mX10_digest 0 [some (aR (some (0))), none, none, none, none, none] [] g P := by
  refine z_aload_n dX10_digest_0 rfl rfl ?_
  refine m_callV (as := []) dX10_digest_1 lk_X10_111 mok_X10_settle in_X10_settle sl_X10_settle kt_0 rfl rfl rfl (Nat.le_of_ble_eq_true rfl) rfl (Nat.le_of_ble_eq_true rfl) rfl (m_mono (fun r g1 hr => ?_) h)
  obtain ⟨rfl, h⟩ := hr
  show Zm w (d + 6) mX10_digest 4 [some (aR (some (0))), none, none, none, none, none] [] g1 P
  refine z_ldc2 dX10_digest_4 kl_X10_280 ?_
  refine z_lstore_n dX10_digest_7 rfl (by decide) rfl ?_
  show Zm w (d + 6) mX10_digest 8 [some (aR (some (0))), some (aL (17)), none, none, none, none] [] g1 P
  refine z_iconst dX10_digest_8 ?_
  refine z_istore_n dX10_digest_9 rfl (by decide) rfl ?_
  show Zm w (d + 6) mX10_digest 10 [some (aR (some (0))), some (aL (17)), none, some (aI (0)), none, none] [] g1 P
  exact z_weak (by simp [lle]) h
set_option maxRecDepth 4000 in
theorem s_X10_digest_10 {w : GX} {d : Nat} {P : PN} {g : GI} (x1 : Int) (x3 : Int)
    (h : ((¬ nm x3 < nm 8 → Zm w (d + 6) mX10_digest 37 [some (aR (some (0))), some (aL (x1)), none, some (aI (0)), none, none] [] g P) ∧ (nm x3 < nm 8 → Zm w (d + 5) mX10_count 0 [some (aR (some (0))), some (aI (x3))] [] g (fun r g2 => ∃ z3 : Int, r = some (aI z3) ∧ (∀ v4 : Int, v4 = (31 * x1) + (nm z3) → Zm w (d + 6) mX10_digest 10 [some (aR (some (0))), some (aL (v4)), none, some (aI (x3 + 1)), none, none] [] g2 P))))) :
    Zm w (d + 6) mX10_digest 10 [some (aR (some (0))), some (aL (x1)), none, some (aI (x3)), none, none] [] g P := by
  refine z_iload_n dX10_digest_10 rfl rfl ?_
  refine z_bipush dX10_digest_11 rfl ?_
  refine z_icmp_ge (tgt := 35) dX10_digest_13 (by decide) (fun c1 => ?_) (fun c1 => ?_)
  · replace h := h.1 c1
    refine z_iconst dX10_digest_35 ?_
    refine z_istore_n dX10_digest_36 rfl (by decide) rfl ?_
    show Zm w (d + 6) mX10_digest 37 [some (aR (some (0))), some (aL (x1)), none, some (aI (0)), none, none] [] g P
    exact z_weak (by simp [lle]) h
  · replace h := h.2 (Decidable.not_not.mp c1)
    refine z_ldc2 dX10_digest_16 kl_X10_282 ?_
    refine z_lload_n dX10_digest_19 rfl rfl ?_
    refine z_lmul dX10_digest_20 ?_
    refine z_aload_n dX10_digest_21 rfl rfl ?_
    refine z_iload_n dX10_digest_22 rfl rfl ?_
    refine m_callV (as := [aI (x3)]) dX10_digest_23 lk_X10_284 mok_X10_count in_X10_count sl_X10_count kt_0 rfl rfl rfl (Nat.le_of_ble_eq_true rfl) rfl (Nat.le_of_ble_eq_true rfl) rfl (m_mono (fun r g2 hr => ?_) h)
    obtain ⟨z3, rfl, h⟩ := hr
    show Zm w (d + 6) mX10_digest 26 [some (aR (some (0))), some (aL (x1)), none, some (aI (x3)), none, none] [aI (z3), aL (31 * x1)] g2 P
    refine z_i2l dX10_digest_26 ?_
    refine z_ladd dX10_digest_27 ?_
    replace h := h _ rfl
    refine z_lstore_n dX10_digest_28 rfl (by decide) rfl ?_
    show Zm w (d + 6) mX10_digest 29 [some (aR (some (0))), some (aL ((31 * x1) + (nm z3))), none, some (aI (x3)), none, none] [] g2 P
    refine z_iinc dX10_digest_29 rfl (by decide) rfl ?_
    show Zm w (d + 6) mX10_digest 32 [some (aR (some (0))), some (aL (((31 * x1) + (nm z3)))), none, some (aI (x3 + 1)), none, none] [] g2 P
    refine z_goto (tgt := 10) dX10_digest_32 (by decide) ?_
    exact z_weak (by simp [lle]) h
set_option maxRecDepth 4000 in
theorem s_X10_digest_37 {w : GX} {d : Nat} {P : PN} {g : GI} (x1 : Int) (x3 : Int)
    (h : ((¬ nm x3 < nm 2 → Zm w (d + 6) mX10_digest 63 [some (aR (some (0))), some (aL (x1)), none, some (aI (0)), none, none] [] g P) ∧ (nm x3 < nm 2 → Zm w (d + 5) mX10_fault 0 [some (aR (some (0))), some (aI (x3))] [] g (fun r g2 => ∃ z3 : Int, r = some (aI z3) ∧ (∀ v4 : Int, v4 = (31 * x1) + (nm z3) → Zm w (d + 6) mX10_digest 37 [some (aR (some (0))), some (aL (v4)), none, some (aI (x3 + 1)), none, none] [] g2 P))))) :
    Zm w (d + 6) mX10_digest 37 [some (aR (some (0))), some (aL (x1)), none, some (aI (x3)), none, none] [] g P := by
  refine z_iload_n dX10_digest_37 rfl rfl ?_
  refine z_iconst dX10_digest_38 ?_
  refine z_icmp_ge (tgt := 61) dX10_digest_39 (by decide) (fun c1 => ?_) (fun c1 => ?_)
  · replace h := h.1 c1
    refine z_iconst dX10_digest_61 ?_
    refine z_istore_n dX10_digest_62 rfl (by decide) rfl ?_
    show Zm w (d + 6) mX10_digest 63 [some (aR (some (0))), some (aL (x1)), none, some (aI (0)), none, none] [] g P
    exact z_weak (by simp [lle]) h
  · replace h := h.2 (Decidable.not_not.mp c1)
    refine z_ldc2 dX10_digest_42 kl_X10_282 ?_
    refine z_lload_n dX10_digest_45 rfl rfl ?_
    refine z_lmul dX10_digest_46 ?_
    refine z_aload_n dX10_digest_47 rfl rfl ?_
    refine z_iload_n dX10_digest_48 rfl rfl ?_
    refine m_callV (as := [aI (x3)]) dX10_digest_49 lk_X10_287 mok_X10_fault in_X10_fault sl_X10_fault kt_0 rfl rfl rfl (Nat.le_of_ble_eq_true rfl) rfl (Nat.le_of_ble_eq_true rfl) rfl (m_mono (fun r g2 hr => ?_) h)
    obtain ⟨z3, rfl, h⟩ := hr
    show Zm w (d + 6) mX10_digest 52 [some (aR (some (0))), some (aL (x1)), none, some (aI (x3)), none, none] [aI (z3), aL (31 * x1)] g2 P
    refine z_i2l dX10_digest_52 ?_
    refine z_ladd dX10_digest_53 ?_
    replace h := h _ rfl
    refine z_lstore_n dX10_digest_54 rfl (by decide) rfl ?_
    show Zm w (d + 6) mX10_digest 55 [some (aR (some (0))), some (aL ((31 * x1) + (nm z3))), none, some (aI (x3)), none, none] [] g2 P
    refine z_iinc dX10_digest_55 rfl (by decide) rfl ?_
    show Zm w (d + 6) mX10_digest 58 [some (aR (some (0))), some (aL (((31 * x1) + (nm z3)))), none, some (aI (x3 + 1)), none, none] [] g2 P
    refine z_goto (tgt := 37) dX10_digest_58 (by decide) ?_
    exact z_weak (by simp [lle]) h
set_option maxRecDepth 4000 in
theorem s_X10_digest_63 {w : GX} {d : Nat} {P : PN} {g : GI} (x1 : Int) (x3 : Int)
    (h : ((¬ nm x3 < nm (g 18 8) → Zm w (d + 6) mX10_digest 95 [some (aR (some (0))), some (aL (x1)), none, some (aI (0)), none, none] [] g P) ∧ (nm x3 < nm (g 18 8) → Zm w (d + 5) mX10_cell 0 [some (aR (some (0))), some (aI (x3))] [] g (fun r g2 => ∃ z3 : Int, r = some (aI z3) ∧ (∀ v4 : Int, v4 = (31 * x1) + (nm z3) → Zm w (d + 6) mX10_digest 63 [some (aR (some (0))), some (aL (v4)), none, some (aI (x3 + 1)), none, none] [] g2 P))))) :
    Zm w (d + 6) mX10_digest 63 [some (aR (some (0))), some (aL (x1)), none, some (aI (x3)), none, none] [] g P := by
  refine z_iload_n dX10_digest_63 rfl rfl ?_
  refine z_aload_n dX10_digest_64 rfl rfl ?_
  refine m_getR dX10_digest_65 fl_X10_36 (by decide) kt_0 rv_0_5 ?_
  refine z_getI dX10_digest_68 fl_X10_114 (by decide) kt_18 ?_
  refine z_icmp_ge (tgt := 93) dX10_digest_71 (by decide) (fun c1 => ?_) (fun c1 => ?_)
  · replace h := h.1 c1
    refine z_iconst dX10_digest_93 ?_
    refine z_istore_n dX10_digest_94 rfl (by decide) rfl ?_
    show Zm w (d + 6) mX10_digest 95 [some (aR (some (0))), some (aL (x1)), none, some (aI (0)), none, none] [] g P
    exact z_weak (by simp [lle]) h
  · replace h := h.2 (Decidable.not_not.mp c1)
    refine z_ldc2 dX10_digest_74 kl_X10_282 ?_
    refine z_lload_n dX10_digest_77 rfl rfl ?_
    refine z_lmul dX10_digest_78 ?_
    refine z_aload_n dX10_digest_79 rfl rfl ?_
    refine z_iload_n dX10_digest_80 rfl rfl ?_
    refine m_callV (as := [aI (x3)]) dX10_digest_81 lk_X10_290 mok_X10_cell in_X10_cell sl_X10_cell kt_0 rfl rfl rfl (Nat.le_of_ble_eq_true rfl) rfl (Nat.le_of_ble_eq_true rfl) rfl (m_mono (fun r g2 hr => ?_) h)
    obtain ⟨z3, rfl, h⟩ := hr
    show Zm w (d + 6) mX10_digest 84 [some (aR (some (0))), some (aL (x1)), none, some (aI (x3)), none, none] [aI (z3), aL (31 * x1)] g2 P
    refine z_i2l dX10_digest_84 ?_
    refine z_ladd dX10_digest_85 ?_
    replace h := h _ rfl
    refine z_lstore_n dX10_digest_86 rfl (by decide) rfl ?_
    show Zm w (d + 6) mX10_digest 87 [some (aR (some (0))), some (aL ((31 * x1) + (nm z3))), none, some (aI (x3)), none, none] [] g2 P
    refine z_iinc dX10_digest_87 rfl (by decide) rfl ?_
    show Zm w (d + 6) mX10_digest 90 [some (aR (some (0))), some (aL (((31 * x1) + (nm z3)))), none, some (aI (x3 + 1)), none, none] [] g2 P
    refine z_goto (tgt := 63) dX10_digest_90 (by decide) ?_
    exact z_weak (by simp [lle]) h
set_option maxRecDepth 4000 in
theorem s_X10_digest_95 {w : GX} {d : Nat} {P : PN} {g : GI} (x1 : Int) (x3 : Int)
    (h : ((¬ nm x3 < nm (g 18 10) → Zm w (d + 6) mX10_digest 192 [some (aR (some (0))), some (aL (x1)), none, some (aI (0)), none, none] [] g P) ∧ (nm x3 < nm (g 18 10) → Zm w (d + 6) mX10_digest 109 [some (aR (some (0))), some (aL (x1)), none, some (aI (x3)), some (aI (0)), none] [] g P))) :
    Zm w (d + 6) mX10_digest 95 [some (aR (some (0))), some (aL (x1)), none, some (aI (x3)), none, none] [] g P := by
  refine z_iload_n dX10_digest_95 rfl rfl ?_
  refine z_aload_n dX10_digest_96 rfl rfl ?_
  refine m_getR dX10_digest_97 fl_X10_36 (by decide) kt_0 rv_0_5 ?_
  refine z_getI dX10_digest_100 fl_X10_277 (by decide) kt_18 ?_
  refine z_icmp_ge (tgt := 190) dX10_digest_103 (by decide) (fun c1 => ?_) (fun c1 => ?_)
  · replace h := h.1 c1
    refine z_iconst dX10_digest_190 ?_
    refine z_istore_n dX10_digest_191 rfl (by decide) rfl ?_
    show Zm w (d + 6) mX10_digest 192 [some (aR (some (0))), some (aL (x1)), none, some (aI (0)), none, none] [] g P
    exact z_weak (by simp [lle]) h
  · replace h := h.2 (Decidable.not_not.mp c1)
    refine z_iconst dX10_digest_106 ?_
    refine z_istore dX10_digest_107 (by decide) rfl ?_
    show Zm w (d + 6) mX10_digest 109 [some (aR (some (0))), some (aL (x1)), none, some (aI (x3)), some (aI (0)), none] [] g P
    exact z_weak (by simp [lle]) h
set_option maxRecDepth 4000 in
theorem s_X10_digest_109 {w : GX} {d : Nat} {P : PN} {g : GI} (x1 : Int) (x3 : Int) (x4 : Int)
    (h : ((¬ nm x4 < nm 4 → Zm w (d + 6) mX10_digest 139 [some (aR (some (0))), some (aL (x1)), none, some (aI (x3)), some (aI (3)), none] [] g P) ∧ (nm x4 < nm 4 → Zm w (d + 5) mX10_person 0 [some (aR (some (0))), some (aI (x3)), some (aI (x4)), none] [] g (fun r g2 => ∃ z3 : Int, r = some (aI z3) ∧ (∀ v4 : Int, v4 = (31 * x1) + (nm z3) → Zm w (d + 6) mX10_digest 109 [some (aR (some (0))), some (aL (v4)), none, some (aI (x3)), some (aI (x4 + 1)), none] [] g2 P))))) :
    Zm w (d + 6) mX10_digest 109 [some (aR (some (0))), some (aL (x1)), none, some (aI (x3)), some (aI (x4)), none] [] g P := by
  refine z_iload dX10_digest_109 rfl ?_
  refine z_iconst dX10_digest_111 ?_
  refine z_icmp_ge (tgt := 136) dX10_digest_112 (by decide) (fun c1 => ?_) (fun c1 => ?_)
  · replace h := h.1 c1
    refine z_iconst dX10_digest_136 ?_
    refine z_istore dX10_digest_137 (by decide) rfl ?_
    show Zm w (d + 6) mX10_digest 139 [some (aR (some (0))), some (aL (x1)), none, some (aI (x3)), some (aI (3)), none] [] g P
    exact z_weak (by simp [lle]) h
  · replace h := h.2 (Decidable.not_not.mp c1)
    refine z_ldc2 dX10_digest_115 kl_X10_282 ?_
    refine z_lload_n dX10_digest_118 rfl rfl ?_
    refine z_lmul dX10_digest_119 ?_
    refine z_aload_n dX10_digest_120 rfl rfl ?_
    refine z_iload_n dX10_digest_121 rfl rfl ?_
    refine z_iload dX10_digest_122 rfl ?_
    refine m_callV (as := [aI (x3), aI (x4)]) dX10_digest_124 lk_X10_293 mok_X10_person in_X10_person sl_X10_person kt_0 rfl rfl rfl (Nat.le_of_ble_eq_true rfl) rfl (Nat.le_of_ble_eq_true rfl) rfl (m_mono (fun r g2 hr => ?_) h)
    obtain ⟨z3, rfl, h⟩ := hr
    show Zm w (d + 6) mX10_digest 127 [some (aR (some (0))), some (aL (x1)), none, some (aI (x3)), some (aI (x4)), none] [aI (z3), aL (31 * x1)] g2 P
    refine z_i2l dX10_digest_127 ?_
    refine z_ladd dX10_digest_128 ?_
    replace h := h _ rfl
    refine z_lstore_n dX10_digest_129 rfl (by decide) rfl ?_
    show Zm w (d + 6) mX10_digest 130 [some (aR (some (0))), some (aL ((31 * x1) + (nm z3))), none, some (aI (x3)), some (aI (x4)), none] [] g2 P
    refine z_iinc dX10_digest_130 rfl (by decide) rfl ?_
    show Zm w (d + 6) mX10_digest 133 [some (aR (some (0))), some (aL (((31 * x1) + (nm z3)))), none, some (aI (x3)), some (aI (x4 + 1)), none] [] g2 P
    refine z_goto (tgt := 109) dX10_digest_133 (by decide) ?_
    exact z_weak (by simp [lle]) h
set_option maxRecDepth 4000 in
theorem s_X10_digest_139 {w : GX} {d : Nat} {P : PN} {g : GI} (x1 : Int) (x3 : Int) (x4 : Int)
    (h : ((nm 19 < nm x4 → Zm w (d + 6) mX10_digest 95 [some (aR (some (0))), some (aL (x1)), none, some (aI (x3 + 1)), none, none] [] g P) ∧ (¬ nm 19 < nm x4 → Zm w (d + 6) mX10_digest 149 [some (aR (some (0))), some (aL (x1)), none, some (aI (x3)), some (aI (x4)), some (aI (0))] [] g P))) :
    Zm w (d + 6) mX10_digest 139 [some (aR (some (0))), some (aL (x1)), none, some (aI (x3)), some (aI (x4)), none] [] g P := by
  refine z_iload dX10_digest_139 rfl ?_
  refine z_bipush dX10_digest_141 rfl ?_
  refine z_icmp_gt (tgt := 184) dX10_digest_143 (by decide) (fun c1 => ?_) (fun c1 => ?_)
  · replace h := h.1 c1
    refine z_iinc dX10_digest_184 rfl (by decide) rfl ?_
    show Zm w (d + 6) mX10_digest 187 [some (aR (some (0))), some (aL (x1)), none, some (aI (x3 + 1)), some (aI (x4)), none] [] g P
    refine z_goto (tgt := 95) dX10_digest_187 (by decide) ?_
    exact z_weak (by simp [lle]) h
  · replace h := h.2 c1
    refine z_iconst dX10_digest_146 ?_
    refine z_istore dX10_digest_147 (by decide) rfl ?_
    show Zm w (d + 6) mX10_digest 149 [some (aR (some (0))), some (aL (x1)), none, some (aI (x3)), some (aI (x4)), some (aI (0))] [] g P
    exact z_weak (by simp [lle]) h
set_option maxRecDepth 4000 in
theorem s_X10_digest_149 {w : GX} {d : Nat} {P : PN} {g : GI} (x1 : Int) (x3 : Int) (x4 : Int) (x5 : Int)
    (h : ((¬ nm x5 < nm 4 → Zm w (d + 6) mX10_digest 139 [some (aR (some (0))), some (aL (x1)), none, some (aI (x3)), some (aI (x4 + 16)), none] [] g P) ∧ (nm x5 < nm 4 → Zm w (d + 5) mX10_called 0 [some (aR (some (0))), some (aI (x4)), some (aI (x3)), some (aI (x5)), none] [] g (fun r g2 => ∃ z3 : Int, r = some (aI z3) ∧ (∀ v4 : Int, v4 = (31 * x1) + (nm z3) → Zm w (d + 6) mX10_digest 149 [some (aR (some (0))), some (aL (v4)), none, some (aI (x3)), some (aI (x4)), some (aI (x5 + 1))] [] g2 P))))) :
    Zm w (d + 6) mX10_digest 149 [some (aR (some (0))), some (aL (x1)), none, some (aI (x3)), some (aI (x4)), some (aI (x5))] [] g P := by
  refine z_iload dX10_digest_149 rfl ?_
  refine z_iconst dX10_digest_151 ?_
  refine z_icmp_ge (tgt := 178) dX10_digest_152 (by decide) (fun c1 => ?_) (fun c1 => ?_)
  · replace h := h.1 c1
    refine z_iinc dX10_digest_178 rfl (by decide) rfl ?_
    show Zm w (d + 6) mX10_digest 181 [some (aR (some (0))), some (aL (x1)), none, some (aI (x3)), some (aI (x4 + 16)), some (aI (x5))] [] g P
    refine z_goto (tgt := 139) dX10_digest_181 (by decide) ?_
    exact z_weak (by simp [lle]) h
  · replace h := h.2 (Decidable.not_not.mp c1)
    refine z_ldc2 dX10_digest_155 kl_X10_282 ?_
    refine z_lload_n dX10_digest_158 rfl rfl ?_
    refine z_lmul dX10_digest_159 ?_
    refine z_aload_n dX10_digest_160 rfl rfl ?_
    refine z_iload dX10_digest_161 rfl ?_
    refine z_iload_n dX10_digest_163 rfl rfl ?_
    refine z_iload dX10_digest_164 rfl ?_
    refine m_callV (as := [aI (x4), aI (x3), aI (x5)]) dX10_digest_166 lk_X10_296 mok_X10_called in_X10_called sl_X10_called kt_0 rfl rfl rfl (Nat.le_of_ble_eq_true rfl) rfl (Nat.le_of_ble_eq_true rfl) rfl (m_mono (fun r g2 hr => ?_) h)
    obtain ⟨z3, rfl, h⟩ := hr
    show Zm w (d + 6) mX10_digest 169 [some (aR (some (0))), some (aL (x1)), none, some (aI (x3)), some (aI (x4)), some (aI (x5))] [aI (z3), aL (31 * x1)] g2 P
    refine z_i2l dX10_digest_169 ?_
    refine z_ladd dX10_digest_170 ?_
    replace h := h _ rfl
    refine z_lstore_n dX10_digest_171 rfl (by decide) rfl ?_
    show Zm w (d + 6) mX10_digest 172 [some (aR (some (0))), some (aL ((31 * x1) + (nm z3))), none, some (aI (x3)), some (aI (x4)), some (aI (x5))] [] g2 P
    refine z_iinc dX10_digest_172 rfl (by decide) rfl ?_
    show Zm w (d + 6) mX10_digest 175 [some (aR (some (0))), some (aL (((31 * x1) + (nm z3)))), none, some (aI (x3)), some (aI (x4)), some (aI (x5 + 1))] [] g2 P
    refine z_goto (tgt := 149) dX10_digest_175 (by decide) ?_
    exact z_weak (by simp [lle]) h
set_option maxRecDepth 4000 in
theorem s_X10_digest_192 {w : GX} {d : Nat} {P : PN} {g : GI} (x1 : Int) (x3 : Int)
    (h : ((¬ nm x3 < nm (g 18 10) → Zm w (d + 6) mX10_digest 309 [some (aR (some (0))), some (aL (x1)), none, some (aI (0)), none, none] [] g P) ∧ (nm x3 < nm (g 18 10) → Zm w (d + 5) mX10_returns 0 [some (aR (some (0))), some (aI (x3)), some (aI (2)), some (aI (9)), some (aI ((-1)))] [] g (fun r g2 => ∃ z3 : Int, r = some (aI z3) ∧ (∀ v4 : Int, v4 = (31 * x1) + (nm z3) → Zm w (d + 5) mX10_returns 0 [some (aR (some (0))), some (aI (x3)), some (aI (2)), some (aI (9)), some (aI (0))] [] g2 (fun r g5 => ∃ z6 : Int, r = some (aI z6) ∧ (∀ v7 : Int, v7 = (31 * v4) + (nm z6) → Zm w (d + 5) mX10_lucky 0 [some (aR (some (0))), some (aI (x3))] [] g5 (fun r g8 => ∃ z9 : Int, r = some (aI z9) ∧ (∀ v10 : Int, v10 = (31 * v7) + (nm z9) → Zm w (d + 5) mX10_flooded 0 [some (aR (some (0))), some (aI (5)), some (aI (6)), some (aI (x3)), some (aI (2)), some (aI (0))] [] g8 (fun r g11 => ∃ z12 : Int, r = some (aL z12) ∧ (∀ v13 : Int, v13 = (31 * v10) + z12 → Zm w (d + 5) mX10_flooded 0 [some (aR (some (0))), some (aI (5)), some (aI (6)), some (aI (x3)), some (aI (2)), some (aI (1))] [] g11 (fun r g14 => ∃ z15 : Int, r = some (aL z15) ∧ (∀ v16 : Int, v16 = (31 * v13) + z15 → Zm w (d + 5) mX10_crowd 0 [some (aR (some (0))), some (aI (7)), some (aI (19)), some (aI (x3)), none] [] g14 (fun r g17 => ∃ z18 : Int, r = some (aI z18) ∧ (∀ v19 : Int, v19 = (31 * v16) + (nm z18) → Zm w (d + 6) mX10_digest 192 [some (aR (some (0))), some (aL (v19)), none, some (aI (x3 + 1)), none, none] [] g17 P))))))))))))))) :
    Zm w (d + 6) mX10_digest 192 [some (aR (some (0))), some (aL (x1)), none, some (aI (x3)), none, none] [] g P := by
  refine z_iload_n dX10_digest_192 rfl rfl ?_
  refine z_aload_n dX10_digest_193 rfl rfl ?_
  refine m_getR dX10_digest_194 fl_X10_36 (by decide) kt_0 rv_0_5 ?_
  refine z_getI dX10_digest_197 fl_X10_277 (by decide) kt_18 ?_
  refine z_icmp_ge (tgt := 307) dX10_digest_200 (by decide) (fun c1 => ?_) (fun c1 => ?_)
  · replace h := h.1 c1
    refine z_iconst dX10_digest_307 ?_
    refine z_istore_n dX10_digest_308 rfl (by decide) rfl ?_
    show Zm w (d + 6) mX10_digest 309 [some (aR (some (0))), some (aL (x1)), none, some (aI (0)), none, none] [] g P
    exact z_weak (by simp [lle]) h
  · replace h := h.2 (Decidable.not_not.mp c1)
    refine z_ldc2 dX10_digest_203 kl_X10_282 ?_
    refine z_lload_n dX10_digest_206 rfl rfl ?_
    refine z_lmul dX10_digest_207 ?_
    refine z_aload_n dX10_digest_208 rfl rfl ?_
    refine z_iload_n dX10_digest_209 rfl rfl ?_
    refine z_iconst dX10_digest_210 ?_
    refine z_bipush dX10_digest_211 rfl ?_
    refine z_iconst dX10_digest_213 ?_
    refine m_callV (as := [aI (x3), aI (2), aI (9), aI ((-1))]) dX10_digest_214 lk_X10_299 mok_X10_returns in_X10_returns sl_X10_returns kt_0 rfl rfl rfl (Nat.le_of_ble_eq_true rfl) rfl (Nat.le_of_ble_eq_true rfl) rfl (m_mono (fun r g2 hr => ?_) h)
    obtain ⟨z3, rfl, h⟩ := hr
    show Zm w (d + 6) mX10_digest 217 [some (aR (some (0))), some (aL (x1)), none, some (aI (x3)), none, none] [aI (z3), aL (31 * x1)] g2 P
    refine z_i2l dX10_digest_217 ?_
    refine z_ladd dX10_digest_218 ?_
    replace h := h _ rfl
    refine z_lstore_n dX10_digest_219 rfl (by decide) rfl ?_
    show Zm w (d + 6) mX10_digest 220 [some (aR (some (0))), some (aL ((31 * x1) + (nm z3))), none, some (aI (x3)), none, none] [] g2 P
    refine z_ldc2 dX10_digest_220 kl_X10_282 ?_
    refine z_lload_n dX10_digest_223 rfl rfl ?_
    refine z_lmul dX10_digest_224 ?_
    refine z_aload_n dX10_digest_225 rfl rfl ?_
    refine z_iload_n dX10_digest_226 rfl rfl ?_
    refine z_iconst dX10_digest_227 ?_
    refine z_bipush dX10_digest_228 rfl ?_
    refine z_iconst dX10_digest_230 ?_
    refine m_callV (as := [aI (x3), aI (2), aI (9), aI (0)]) dX10_digest_231 lk_X10_299 mok_X10_returns in_X10_returns sl_X10_returns kt_0 rfl rfl rfl (Nat.le_of_ble_eq_true rfl) rfl (Nat.le_of_ble_eq_true rfl) rfl (m_mono (fun r g5 hr => ?_) h)
    obtain ⟨z6, rfl, h⟩ := hr
    show Zm w (d + 6) mX10_digest 234 [some (aR (some (0))), some (aL (((31 * x1) + (nm z3)))), none, some (aI (x3)), none, none] [aI (z6), aL (31 * ((31 * x1) + (nm z3)))] g5 P
    refine z_i2l dX10_digest_234 ?_
    refine z_ladd dX10_digest_235 ?_
    replace h := h _ rfl
    refine z_lstore_n dX10_digest_236 rfl (by decide) rfl ?_
    show Zm w (d + 6) mX10_digest 237 [some (aR (some (0))), some (aL ((31 * ((31 * x1) + (nm z3))) + (nm z6))), none, some (aI (x3)), none, none] [] g5 P
    refine z_ldc2 dX10_digest_237 kl_X10_282 ?_
    refine z_lload_n dX10_digest_240 rfl rfl ?_
    refine z_lmul dX10_digest_241 ?_
    refine z_aload_n dX10_digest_242 rfl rfl ?_
    refine z_iload_n dX10_digest_243 rfl rfl ?_
    refine m_callV (as := [aI (x3)]) dX10_digest_244 lk_X10_303 mok_X10_lucky in_X10_lucky sl_X10_lucky kt_0 rfl rfl rfl (Nat.le_of_ble_eq_true rfl) rfl (Nat.le_of_ble_eq_true rfl) rfl (m_mono (fun r g8 hr => ?_) h)
    obtain ⟨z9, rfl, h⟩ := hr
    show Zm w (d + 6) mX10_digest 247 [some (aR (some (0))), some (aL (((31 * ((31 * x1) + (nm z3))) + (nm z6)))), none, some (aI (x3)), none, none] [aI (z9), aL (31 * ((31 * ((31 * x1) + (nm z3))) + (nm z6)))] g8 P
    refine z_i2l dX10_digest_247 ?_
    refine z_ladd dX10_digest_248 ?_
    replace h := h _ rfl
    refine z_lstore_n dX10_digest_249 rfl (by decide) rfl ?_
    show Zm w (d + 6) mX10_digest 250 [some (aR (some (0))), some (aL ((31 * ((31 * ((31 * x1) + (nm z3))) + (nm z6))) + (nm z9))), none, some (aI (x3)), none, none] [] g8 P
    refine z_ldc2 dX10_digest_250 kl_X10_282 ?_
    refine z_lload_n dX10_digest_253 rfl rfl ?_
    refine z_lmul dX10_digest_254 ?_
    refine z_aload_n dX10_digest_255 rfl rfl ?_
    refine z_iconst dX10_digest_256 ?_
    refine z_bipush dX10_digest_257 rfl ?_
    refine z_iload_n dX10_digest_259 rfl rfl ?_
    refine z_iconst dX10_digest_260 ?_
    refine z_iconst dX10_digest_261 ?_
    refine m_callV (as := [aI (5), aI (6), aI (x3), aI (2), aI (0)]) dX10_digest_262 lk_X10_306 mok_X10_flooded in_X10_flooded sl_X10_flooded kt_0 rfl rfl rfl (Nat.le_of_ble_eq_true rfl) rfl (Nat.le_of_ble_eq_true rfl) rfl (m_mono (fun r g11 hr => ?_) h)
    obtain ⟨z12, rfl, h⟩ := hr
    show Zm w (d + 6) mX10_digest 265 [some (aR (some (0))), some (aL (((31 * ((31 * ((31 * x1) + (nm z3))) + (nm z6))) + (nm z9)))), none, some (aI (x3)), none, none] [aL (z12), aL (31 * ((31 * ((31 * ((31 * x1) + (nm z3))) + (nm z6))) + (nm z9)))] g11 P
    refine z_ladd dX10_digest_265 ?_
    replace h := h _ rfl
    refine z_lstore_n dX10_digest_266 rfl (by decide) rfl ?_
    show Zm w (d + 6) mX10_digest 267 [some (aR (some (0))), some (aL ((31 * ((31 * ((31 * ((31 * x1) + (nm z3))) + (nm z6))) + (nm z9))) + z12)), none, some (aI (x3)), none, none] [] g11 P
    refine z_ldc2 dX10_digest_267 kl_X10_282 ?_
    refine z_lload_n dX10_digest_270 rfl rfl ?_
    refine z_lmul dX10_digest_271 ?_
    refine z_aload_n dX10_digest_272 rfl rfl ?_
    refine z_iconst dX10_digest_273 ?_
    refine z_bipush dX10_digest_274 rfl ?_
    refine z_iload_n dX10_digest_276 rfl rfl ?_
    refine z_iconst dX10_digest_277 ?_
    refine z_iconst dX10_digest_278 ?_
    refine m_callV (as := [aI (5), aI (6), aI (x3), aI (2), aI (1)]) dX10_digest_279 lk_X10_306 mok_X10_flooded in_X10_flooded sl_X10_flooded kt_0 rfl rfl rfl (Nat.le_of_ble_eq_true rfl) rfl (Nat.le_of_ble_eq_true rfl) rfl (m_mono (fun r g14 hr => ?_) h)
    obtain ⟨z15, rfl, h⟩ := hr
    show Zm w (d + 6) mX10_digest 282 [some (aR (some (0))), some (aL (((31 * ((31 * ((31 * ((31 * x1) + (nm z3))) + (nm z6))) + (nm z9))) + z12))), none, some (aI (x3)), none, none] [aL (z15), aL (31 * ((31 * ((31 * ((31 * ((31 * x1) + (nm z3))) + (nm z6))) + (nm z9))) + z12))] g14 P
    refine z_ladd dX10_digest_282 ?_
    replace h := h _ rfl
    refine z_lstore_n dX10_digest_283 rfl (by decide) rfl ?_
    show Zm w (d + 6) mX10_digest 284 [some (aR (some (0))), some (aL ((31 * ((31 * ((31 * ((31 * ((31 * x1) + (nm z3))) + (nm z6))) + (nm z9))) + z12)) + z15)), none, some (aI (x3)), none, none] [] g14 P
    refine z_ldc2 dX10_digest_284 kl_X10_282 ?_
    refine z_lload_n dX10_digest_287 rfl rfl ?_
    refine z_lmul dX10_digest_288 ?_
    refine z_aload_n dX10_digest_289 rfl rfl ?_
    refine z_bipush dX10_digest_290 rfl ?_
    refine z_bipush dX10_digest_292 rfl ?_
    refine z_iload_n dX10_digest_294 rfl rfl ?_
    refine m_callV (as := [aI (7), aI (19), aI (x3)]) dX10_digest_295 lk_X10_310 mok_X10_crowd in_X10_crowd sl_X10_crowd kt_0 rfl rfl rfl (Nat.le_of_ble_eq_true rfl) rfl (Nat.le_of_ble_eq_true rfl) rfl (m_mono (fun r g17 hr => ?_) h)
    obtain ⟨z18, rfl, h⟩ := hr
    show Zm w (d + 6) mX10_digest 298 [some (aR (some (0))), some (aL (((31 * ((31 * ((31 * ((31 * ((31 * x1) + (nm z3))) + (nm z6))) + (nm z9))) + z12)) + z15))), none, some (aI (x3)), none, none] [aI (z18), aL (31 * ((31 * ((31 * ((31 * ((31 * ((31 * x1) + (nm z3))) + (nm z6))) + (nm z9))) + z12)) + z15))] g17 P
    refine z_i2l dX10_digest_298 ?_
    refine z_ladd dX10_digest_299 ?_
    replace h := h _ rfl
    refine z_lstore_n dX10_digest_300 rfl (by decide) rfl ?_
    show Zm w (d + 6) mX10_digest 301 [some (aR (some (0))), some (aL ((31 * ((31 * ((31 * ((31 * ((31 * ((31 * x1) + (nm z3))) + (nm z6))) + (nm z9))) + z12)) + z15)) + (nm z18))), none, some (aI (x3)), none, none] [] g17 P
    refine z_iinc dX10_digest_301 rfl (by decide) rfl ?_
    show Zm w (d + 6) mX10_digest 304 [some (aR (some (0))), some (aL (((31 * ((31 * ((31 * ((31 * ((31 * ((31 * x1) + (nm z3))) + (nm z6))) + (nm z9))) + z12)) + z15)) + (nm z18)))), none, some (aI (x3 + 1)), none, none] [] g17 P
    refine z_goto (tgt := 192) dX10_digest_304 (by decide) ?_
    exact z_weak (by simp [lle]) h
set_option maxRecDepth 4000 in
theorem s_X10_digest_309 {w : GX} {d : Nat} {P : PN} {g : GI} (x1 : Int) (x3 : Int)
    (h : (((¬ nm x3 < nm (g 18 9 + g 18 10) → Zm w (d + 6) mX10_digest 376 [some (aR (some (0))), some (aL (x1)), none, some (aI (0)), none, none] [] g P) ∧ (nm x3 < nm (g 18 9 + g 18 10) → Zm w (d + 6) mX10_digest 323 [some (aR (some (0))), some (aL (x1)), none, some (aI (x3)), some (aI (0)), none] [] g P)))) :
    Zm w (d + 6) mX10_digest 309 [some (aR (some (0))), some (aL (x1)), none, some (aI (x3)), none, none] [] g P := by
  refine z_iload_n dX10_digest_309 rfl rfl ?_
  refine z_aload_n dX10_digest_310 rfl rfl ?_
  refine m_getR dX10_digest_311 fl_X10_36 (by decide) kt_0 rv_0_5 ?_
  refine m_callV (as := []) dX10_digest_314 lk_X10_179 mok_X9_names in_X9_names sl_X9_names kt_18 rfl rfl rfl (Nat.le_of_ble_eq_true rfl) rfl (Nat.le_of_ble_eq_true rfl) rfl (c_X9_names  ?_)
  show Zm w (d + 6) mX10_digest 317 [some (aR (some (0))), some (aL (x1)), none, some (aI (x3)), none, none] [aI (g 18 9 + g 18 10), aI (x3)] g P
  refine z_icmp_ge (tgt := 374) dX10_digest_317 (by decide) (fun c1 => ?_) (fun c1 => ?_)
  · replace h := h.1 c1
    refine z_iconst dX10_digest_374 ?_
    refine z_istore_n dX10_digest_375 rfl (by decide) rfl ?_
    show Zm w (d + 6) mX10_digest 376 [some (aR (some (0))), some (aL (x1)), none, some (aI (0)), none, none] [] g P
    exact z_weak (by simp [lle]) h
  · replace h := h.2 (Decidable.not_not.mp c1)
    refine z_iconst dX10_digest_320 ?_
    refine z_istore dX10_digest_321 (by decide) rfl ?_
    show Zm w (d + 6) mX10_digest 323 [some (aR (some (0))), some (aL (x1)), none, some (aI (x3)), some (aI (0)), none] [] g P
    exact z_weak (by simp [lle]) h
set_option maxRecDepth 4000 in
theorem s_X10_digest_323 {w : GX} {d : Nat} {P : PN} {g : GI} (x1 : Int) (x3 : Int) (x4 : Int)
    (h : ((¬ nm x4 < nm 3 → Zm w (d + 5) mX10_name 0 [some (aR (some (0))), some (aI (19)), some (aI (x3)), some (aI (0)), none] [] g (fun r g2 => ∃ z3 : Int, r = some (aI z3) ∧ (∀ v4 : Int, v4 = (31 * x1) + (nm z3) → Zm w (d + 6) mX10_digest 309 [some (aR (some (0))), some (aL (v4)), none, some (aI (x3 + 1)), none, none] [] g2 P))) ∧ (nm x4 < nm 3 → Zm w (d + 5) mX10_name 0 [some (aR (some (0))), some (aI (9)), some (aI (x3)), some (aI (x4)), none] [] g (fun r g5 => ∃ z6 : Int, r = some (aI z6) ∧ (∀ v7 : Int, v7 = (31 * x1) + (nm z6) → Zm w (d + 6) mX10_digest 323 [some (aR (some (0))), some (aL (v7)), none, some (aI (x3)), some (aI (x4 + 1)), none] [] g5 P))))) :
    Zm w (d + 6) mX10_digest 323 [some (aR (some (0))), some (aL (x1)), none, some (aI (x3)), some (aI (x4)), none] [] g P := by
  refine z_iload dX10_digest_323 rfl ?_
  refine z_iconst dX10_digest_325 ?_
  refine z_icmp_ge (tgt := 352) dX10_digest_326 (by decide) (fun c1 => ?_) (fun c1 => ?_)
  · replace h := h.1 c1
    refine z_ldc2 dX10_digest_352 kl_X10_282 ?_
    refine z_lload_n dX10_digest_355 rfl rfl ?_
    refine z_lmul dX10_digest_356 ?_
    refine z_aload_n dX10_digest_357 rfl rfl ?_
    refine z_bipush dX10_digest_358 rfl ?_
    refine z_iload_n dX10_digest_360 rfl rfl ?_
    refine z_iconst dX10_digest_361 ?_
    refine m_callV (as := [aI (19), aI (x3), aI (0)]) dX10_digest_362 lk_X10_313 mok_X10_name in_X10_name sl_X10_name kt_0 rfl rfl rfl (Nat.le_of_ble_eq_true rfl) rfl (Nat.le_of_ble_eq_true rfl) rfl (m_mono (fun r g2 hr => ?_) h)
    obtain ⟨z3, rfl, h⟩ := hr
    show Zm w (d + 6) mX10_digest 365 [some (aR (some (0))), some (aL (x1)), none, some (aI (x3)), some (aI (x4)), none] [aI (z3), aL (31 * x1)] g2 P
    refine z_i2l dX10_digest_365 ?_
    refine z_ladd dX10_digest_366 ?_
    replace h := h _ rfl
    refine z_lstore_n dX10_digest_367 rfl (by decide) rfl ?_
    show Zm w (d + 6) mX10_digest 368 [some (aR (some (0))), some (aL ((31 * x1) + (nm z3))), none, some (aI (x3)), some (aI (x4)), none] [] g2 P
    refine z_iinc dX10_digest_368 rfl (by decide) rfl ?_
    show Zm w (d + 6) mX10_digest 371 [some (aR (some (0))), some (aL (((31 * x1) + (nm z3)))), none, some (aI (x3 + 1)), some (aI (x4)), none] [] g2 P
    refine z_goto (tgt := 309) dX10_digest_371 (by decide) ?_
    exact z_weak (by simp [lle]) h
  · replace h := h.2 (Decidable.not_not.mp c1)
    refine z_ldc2 dX10_digest_329 kl_X10_282 ?_
    refine z_lload_n dX10_digest_332 rfl rfl ?_
    refine z_lmul dX10_digest_333 ?_
    refine z_aload_n dX10_digest_334 rfl rfl ?_
    refine z_bipush dX10_digest_335 rfl ?_
    refine z_iload_n dX10_digest_337 rfl rfl ?_
    refine z_iload dX10_digest_338 rfl ?_
    refine m_callV (as := [aI (9), aI (x3), aI (x4)]) dX10_digest_340 lk_X10_313 mok_X10_name in_X10_name sl_X10_name kt_0 rfl rfl rfl (Nat.le_of_ble_eq_true rfl) rfl (Nat.le_of_ble_eq_true rfl) rfl (m_mono (fun r g5 hr => ?_) h)
    obtain ⟨z6, rfl, h⟩ := hr
    show Zm w (d + 6) mX10_digest 343 [some (aR (some (0))), some (aL (x1)), none, some (aI (x3)), some (aI (x4)), none] [aI (z6), aL (31 * x1)] g5 P
    refine z_i2l dX10_digest_343 ?_
    refine z_ladd dX10_digest_344 ?_
    replace h := h _ rfl
    refine z_lstore_n dX10_digest_345 rfl (by decide) rfl ?_
    show Zm w (d + 6) mX10_digest 346 [some (aR (some (0))), some (aL ((31 * x1) + (nm z6))), none, some (aI (x3)), some (aI (x4)), none] [] g5 P
    refine z_iinc dX10_digest_346 rfl (by decide) rfl ?_
    show Zm w (d + 6) mX10_digest 349 [some (aR (some (0))), some (aL (((31 * x1) + (nm z6)))), none, some (aI (x3)), some (aI (x4 + 1)), none] [] g5 P
    refine z_goto (tgt := 323) dX10_digest_349 (by decide) ?_
    exact z_weak (by simp [lle]) h
set_option maxRecDepth 4000 in
theorem s_X10_digest_376 {w : GX} {d : Nat} {P : PN} {g : GI} (x1 : Int) (x3 : Int)
    (h : ((¬ nm x3 < nm (g 2 3) → Zm w (d + 5) mX10_same 0 [some (aR (some (0))), some (aI (9)), none, none] [] g (fun r g2 => ∃ z3 : Int, r = some (aI z3) ∧ (∀ v4 : Int, v4 = (31 * x1) + (nm z3) → Zm w (d + 5) mX10_first 0 [some (aR (some (0))), some (aI (0)), none, none] [] g2 (fun r g5 => ∃ z6 : Int, r = some (aI z6) ∧ (∀ v7 : Int, v7 = (31 * v4) + (nm z6) → Zm w (d + 5) mX10_first 0 [some (aR (some (0))), some (aI (1)), none, none] [] g5 (fun r g8 => ∃ z9 : Int, r = some (aI z9) ∧ (∀ v10 : Int, v10 = (31 * v7) + (nm z9) → Zm w (d + 5) mX10_net 0 [some (aR (some (0))), some (aI (2)), some (aI ((-1)))] [] g8 (fun r g11 => ∃ z12 : Int, r = some (aI z12) ∧ (∀ v13 : Int, v13 = (31 * v10) + (nm z12) → Zm w (d + 5) mX10_net 0 [some (aR (some (0))), some (aI (2)), some (aI (0))] [] g11 (fun r g14 => ∃ z15 : Int, r = some (aI z15) ∧ (∀ v16 : Int, v16 = (31 * v13) + (nm z15) → Zm w (d + 5) mX10_never 0 [some (aR (some (0)))] [] g14 (fun r g17 => ∃ z18 : Int, r = some (aI z18) ∧ (∀ v19 : Int, v19 = (31 * v16) + (nm z18) → Zm w (d + 5) mX10_ask 0 [some (aR (some (0))), some (aI (9))] [] g17 (fun r g20 => ∃ z21 : Int, r = some (aI z21) ∧ (∀ v22 : Int, v22 = (31 * v19) + (nm z21) → Zm w (d + 5) mX10_crowd 0 [some (aR (some (0))), some (aI (7)), some (aI (19)), some (aI ((-1))), none] [] g20 (fun r g23 => ∃ z24 : Int, r = some (aI z24) ∧ P (some (aL ((31 * v22) + (nm z24)))) g23)))))))))))))))) ∧ (nm x3 < nm (g 2 3) → Zm w (d + 5) mX10_changes 0 [some (aR (some (0))), some (aI (x3))] [] g (fun r g25 => ∃ z26 : Int, r = some (aI z26) ∧ (∀ v27 : Int, v27 = (31 * x1) + (nm z26) → Zm w (d + 6) mX10_digest 376 [some (aR (some (0))), some (aL (v27)), none, some (aI (x3 + 1)), none, none] [] g25 P))))) :
    Zm w (d + 6) mX10_digest 376 [some (aR (some (0))), some (aL (x1)), none, some (aI (x3)), none, none] [] g P := by
  refine z_iload_n dX10_digest_376 rfl rfl ?_
  refine z_aload_n dX10_digest_377 rfl rfl ?_
  refine m_getR dX10_digest_378 fl_X10_20 (by decide) kt_0 rv_0_1 ?_
  refine z_getI dX10_digest_381 fl_X10_194 (by decide) kt_2 ?_
  refine z_icmp_ge (tgt := 406) dX10_digest_384 (by decide) (fun c1 => ?_) (fun c1 => ?_)
  · replace h := h.1 c1
    refine z_ldc2 dX10_digest_406 kl_X10_282 ?_
    refine z_lload_n dX10_digest_409 rfl rfl ?_
    refine z_lmul dX10_digest_410 ?_
    refine z_aload_n dX10_digest_411 rfl rfl ?_
    refine z_bipush dX10_digest_412 rfl ?_
    refine m_callV (as := [aI (9)]) dX10_digest_414 lk_X10_319 mok_X10_same in_X10_same sl_X10_same kt_0 rfl rfl rfl (Nat.le_of_ble_eq_true rfl) rfl (Nat.le_of_ble_eq_true rfl) rfl (m_mono (fun r g2 hr => ?_) h)
    obtain ⟨z3, rfl, h⟩ := hr
    show Zm w (d + 6) mX10_digest 417 [some (aR (some (0))), some (aL (x1)), none, some (aI (x3)), none, none] [aI (z3), aL (31 * x1)] g2 P
    refine z_i2l dX10_digest_417 ?_
    refine z_ladd dX10_digest_418 ?_
    replace h := h _ rfl
    refine z_lstore_n dX10_digest_419 rfl (by decide) rfl ?_
    show Zm w (d + 6) mX10_digest 420 [some (aR (some (0))), some (aL ((31 * x1) + (nm z3))), none, some (aI (x3)), none, none] [] g2 P
    refine z_ldc2 dX10_digest_420 kl_X10_282 ?_
    refine z_lload_n dX10_digest_423 rfl rfl ?_
    refine z_lmul dX10_digest_424 ?_
    refine z_aload_n dX10_digest_425 rfl rfl ?_
    refine z_iconst dX10_digest_426 ?_
    refine m_callV (as := [aI (0)]) dX10_digest_427 lk_X10_322 mok_X10_first in_X10_first sl_X10_first kt_0 rfl rfl rfl (Nat.le_of_ble_eq_true rfl) rfl (Nat.le_of_ble_eq_true rfl) rfl (m_mono (fun r g5 hr => ?_) h)
    obtain ⟨z6, rfl, h⟩ := hr
    show Zm w (d + 6) mX10_digest 430 [some (aR (some (0))), some (aL (((31 * x1) + (nm z3)))), none, some (aI (x3)), none, none] [aI (z6), aL (31 * ((31 * x1) + (nm z3)))] g5 P
    refine z_i2l dX10_digest_430 ?_
    refine z_ladd dX10_digest_431 ?_
    replace h := h _ rfl
    refine z_lstore_n dX10_digest_432 rfl (by decide) rfl ?_
    show Zm w (d + 6) mX10_digest 433 [some (aR (some (0))), some (aL ((31 * ((31 * x1) + (nm z3))) + (nm z6))), none, some (aI (x3)), none, none] [] g5 P
    refine z_ldc2 dX10_digest_433 kl_X10_282 ?_
    refine z_lload_n dX10_digest_436 rfl rfl ?_
    refine z_lmul dX10_digest_437 ?_
    refine z_aload_n dX10_digest_438 rfl rfl ?_
    refine z_iconst dX10_digest_439 ?_
    refine m_callV (as := [aI (1)]) dX10_digest_440 lk_X10_322 mok_X10_first in_X10_first sl_X10_first kt_0 rfl rfl rfl (Nat.le_of_ble_eq_true rfl) rfl (Nat.le_of_ble_eq_true rfl) rfl (m_mono (fun r g8 hr => ?_) h)
    obtain ⟨z9, rfl, h⟩ := hr
    show Zm w (d + 6) mX10_digest 443 [some (aR (some (0))), some (aL (((31 * ((31 * x1) + (nm z3))) + (nm z6)))), none, some (aI (x3)), none, none] [aI (z9), aL (31 * ((31 * ((31 * x1) + (nm z3))) + (nm z6)))] g8 P
    refine z_i2l dX10_digest_443 ?_
    refine z_ladd dX10_digest_444 ?_
    replace h := h _ rfl
    refine z_lstore_n dX10_digest_445 rfl (by decide) rfl ?_
    show Zm w (d + 6) mX10_digest 446 [some (aR (some (0))), some (aL ((31 * ((31 * ((31 * x1) + (nm z3))) + (nm z6))) + (nm z9))), none, some (aI (x3)), none, none] [] g8 P
    refine z_ldc2 dX10_digest_446 kl_X10_282 ?_
    refine z_lload_n dX10_digest_449 rfl rfl ?_
    refine z_lmul dX10_digest_450 ?_
    refine z_aload_n dX10_digest_451 rfl rfl ?_
    refine z_iconst dX10_digest_452 ?_
    refine z_iconst dX10_digest_453 ?_
    refine m_callV (as := [aI (2), aI ((-1))]) dX10_digest_454 lk_X10_325 mok_X10_net in_X10_net sl_X10_net kt_0 rfl rfl rfl (Nat.le_of_ble_eq_true rfl) rfl (Nat.le_of_ble_eq_true rfl) rfl (m_mono (fun r g11 hr => ?_) h)
    obtain ⟨z12, rfl, h⟩ := hr
    show Zm w (d + 6) mX10_digest 457 [some (aR (some (0))), some (aL (((31 * ((31 * ((31 * x1) + (nm z3))) + (nm z6))) + (nm z9)))), none, some (aI (x3)), none, none] [aI (z12), aL (31 * ((31 * ((31 * ((31 * x1) + (nm z3))) + (nm z6))) + (nm z9)))] g11 P
    refine z_i2l dX10_digest_457 ?_
    refine z_ladd dX10_digest_458 ?_
    replace h := h _ rfl
    refine z_lstore_n dX10_digest_459 rfl (by decide) rfl ?_
    show Zm w (d + 6) mX10_digest 460 [some (aR (some (0))), some (aL ((31 * ((31 * ((31 * ((31 * x1) + (nm z3))) + (nm z6))) + (nm z9))) + (nm z12))), none, some (aI (x3)), none, none] [] g11 P
    refine z_ldc2 dX10_digest_460 kl_X10_282 ?_
    refine z_lload_n dX10_digest_463 rfl rfl ?_
    refine z_lmul dX10_digest_464 ?_
    refine z_aload_n dX10_digest_465 rfl rfl ?_
    refine z_iconst dX10_digest_466 ?_
    refine z_iconst dX10_digest_467 ?_
    refine m_callV (as := [aI (2), aI (0)]) dX10_digest_468 lk_X10_325 mok_X10_net in_X10_net sl_X10_net kt_0 rfl rfl rfl (Nat.le_of_ble_eq_true rfl) rfl (Nat.le_of_ble_eq_true rfl) rfl (m_mono (fun r g14 hr => ?_) h)
    obtain ⟨z15, rfl, h⟩ := hr
    show Zm w (d + 6) mX10_digest 471 [some (aR (some (0))), some (aL (((31 * ((31 * ((31 * ((31 * x1) + (nm z3))) + (nm z6))) + (nm z9))) + (nm z12)))), none, some (aI (x3)), none, none] [aI (z15), aL (31 * ((31 * ((31 * ((31 * ((31 * x1) + (nm z3))) + (nm z6))) + (nm z9))) + (nm z12)))] g14 P
    refine z_i2l dX10_digest_471 ?_
    refine z_ladd dX10_digest_472 ?_
    replace h := h _ rfl
    refine z_lstore_n dX10_digest_473 rfl (by decide) rfl ?_
    show Zm w (d + 6) mX10_digest 474 [some (aR (some (0))), some (aL ((31 * ((31 * ((31 * ((31 * ((31 * x1) + (nm z3))) + (nm z6))) + (nm z9))) + (nm z12))) + (nm z15))), none, some (aI (x3)), none, none] [] g14 P
    refine z_ldc2 dX10_digest_474 kl_X10_282 ?_
    refine z_lload_n dX10_digest_477 rfl rfl ?_
    refine z_lmul dX10_digest_478 ?_
    refine z_aload_n dX10_digest_479 rfl rfl ?_
    refine m_callV (as := []) dX10_digest_480 lk_X10_328 mok_X10_never in_X10_never sl_X10_never kt_0 rfl rfl rfl (Nat.le_of_ble_eq_true rfl) rfl (Nat.le_of_ble_eq_true rfl) rfl (m_mono (fun r g17 hr => ?_) h)
    obtain ⟨z18, rfl, h⟩ := hr
    show Zm w (d + 6) mX10_digest 483 [some (aR (some (0))), some (aL (((31 * ((31 * ((31 * ((31 * ((31 * x1) + (nm z3))) + (nm z6))) + (nm z9))) + (nm z12))) + (nm z15)))), none, some (aI (x3)), none, none] [aI (z18), aL (31 * ((31 * ((31 * ((31 * ((31 * ((31 * x1) + (nm z3))) + (nm z6))) + (nm z9))) + (nm z12))) + (nm z15)))] g17 P
    refine z_i2l dX10_digest_483 ?_
    refine z_ladd dX10_digest_484 ?_
    replace h := h _ rfl
    refine z_lstore_n dX10_digest_485 rfl (by decide) rfl ?_
    show Zm w (d + 6) mX10_digest 486 [some (aR (some (0))), some (aL ((31 * ((31 * ((31 * ((31 * ((31 * ((31 * x1) + (nm z3))) + (nm z6))) + (nm z9))) + (nm z12))) + (nm z15))) + (nm z18))), none, some (aI (x3)), none, none] [] g17 P
    refine z_ldc2 dX10_digest_486 kl_X10_282 ?_
    refine z_lload_n dX10_digest_489 rfl rfl ?_
    refine z_lmul dX10_digest_490 ?_
    refine z_aload_n dX10_digest_491 rfl rfl ?_
    refine z_bipush dX10_digest_492 rfl ?_
    refine m_callV (as := [aI (9)]) dX10_digest_494 lk_X10_331 mok_X10_ask in_X10_ask sl_X10_ask kt_0 rfl rfl rfl (Nat.le_of_ble_eq_true rfl) rfl (Nat.le_of_ble_eq_true rfl) rfl (m_mono (fun r g20 hr => ?_) h)
    obtain ⟨z21, rfl, h⟩ := hr
    show Zm w (d + 6) mX10_digest 497 [some (aR (some (0))), some (aL (((31 * ((31 * ((31 * ((31 * ((31 * ((31 * x1) + (nm z3))) + (nm z6))) + (nm z9))) + (nm z12))) + (nm z15))) + (nm z18)))), none, some (aI (x3)), none, none] [aI (z21), aL (31 * ((31 * ((31 * ((31 * ((31 * ((31 * ((31 * x1) + (nm z3))) + (nm z6))) + (nm z9))) + (nm z12))) + (nm z15))) + (nm z18)))] g20 P
    refine z_i2l dX10_digest_497 ?_
    refine z_ladd dX10_digest_498 ?_
    replace h := h _ rfl
    refine z_lstore_n dX10_digest_499 rfl (by decide) rfl ?_
    show Zm w (d + 6) mX10_digest 500 [some (aR (some (0))), some (aL ((31 * ((31 * ((31 * ((31 * ((31 * ((31 * ((31 * x1) + (nm z3))) + (nm z6))) + (nm z9))) + (nm z12))) + (nm z15))) + (nm z18))) + (nm z21))), none, some (aI (x3)), none, none] [] g20 P
    refine z_ldc2 dX10_digest_500 kl_X10_282 ?_
    refine z_lload_n dX10_digest_503 rfl rfl ?_
    refine z_lmul dX10_digest_504 ?_
    refine z_aload_n dX10_digest_505 rfl rfl ?_
    refine z_bipush dX10_digest_506 rfl ?_
    refine z_bipush dX10_digest_508 rfl ?_
    refine z_iconst dX10_digest_510 ?_
    refine m_callV (as := [aI (7), aI (19), aI ((-1))]) dX10_digest_511 lk_X10_310 mok_X10_crowd in_X10_crowd sl_X10_crowd kt_0 rfl rfl rfl (Nat.le_of_ble_eq_true rfl) rfl (Nat.le_of_ble_eq_true rfl) rfl (m_mono (fun r g23 hr => ?_) h)
    obtain ⟨z24, rfl, h⟩ := hr
    show Zm w (d + 6) mX10_digest 514 [some (aR (some (0))), some (aL (((31 * ((31 * ((31 * ((31 * ((31 * ((31 * ((31 * x1) + (nm z3))) + (nm z6))) + (nm z9))) + (nm z12))) + (nm z15))) + (nm z18))) + (nm z21)))), none, some (aI (x3)), none, none] [aI (z24), aL (31 * ((31 * ((31 * ((31 * ((31 * ((31 * ((31 * ((31 * x1) + (nm z3))) + (nm z6))) + (nm z9))) + (nm z12))) + (nm z15))) + (nm z18))) + (nm z21)))] g23 P
    refine z_i2l dX10_digest_514 ?_
    refine z_ladd dX10_digest_515 ?_
    exact m_lret dX10_digest_516 rfl h
  · replace h := h.2 (Decidable.not_not.mp c1)
    refine z_ldc2 dX10_digest_387 kl_X10_282 ?_
    refine z_lload_n dX10_digest_390 rfl rfl ?_
    refine z_lmul dX10_digest_391 ?_
    refine z_aload_n dX10_digest_392 rfl rfl ?_
    refine z_iload_n dX10_digest_393 rfl rfl ?_
    refine m_callV (as := [aI (x3)]) dX10_digest_394 lk_X10_316 mok_X10_changes in_X10_changes sl_X10_changes kt_0 rfl rfl rfl (Nat.le_of_ble_eq_true rfl) rfl (Nat.le_of_ble_eq_true rfl) rfl (m_mono (fun r g25 hr => ?_) h)
    obtain ⟨z26, rfl, h⟩ := hr
    show Zm w (d + 6) mX10_digest 397 [some (aR (some (0))), some (aL (x1)), none, some (aI (x3)), none, none] [aI (z26), aL (31 * x1)] g25 P
    refine z_i2l dX10_digest_397 ?_
    refine z_ladd dX10_digest_398 ?_
    replace h := h _ rfl
    refine z_lstore_n dX10_digest_399 rfl (by decide) rfl ?_
    show Zm w (d + 6) mX10_digest 400 [some (aR (some (0))), some (aL ((31 * x1) + (nm z26))), none, some (aI (x3)), none, none] [] g25 P
    refine z_iinc dX10_digest_400 rfl (by decide) rfl ?_
    show Zm w (d + 6) mX10_digest 403 [some (aR (some (0))), some (aL (((31 * x1) + (nm z26)))), none, some (aI (x3 + 1)), none, none] [] g25 P
    refine z_goto (tgt := 376) dX10_digest_403 (by decide) ?_
    exact z_weak (by simp [lle]) h
theorem dX10_refusalOfItem_0 : decode cX10_refusalOfItem 0 = .ok (.iload_n 1, 1) := by decide +kernel
theorem dX10_refusalOfItem_1 : decode cX10_refusalOfItem 1 = .ok (.iconst 4, 1) := by decide +kernel
theorem dX10_refusalOfItem_2 : decode cX10_refusalOfItem 2 = .ok (.invokestatic 90, 3) := by decide +kernel
theorem dX10_refusalOfItem_5 : decode cX10_refusalOfItem 5 = .ok (.ifCond .eq 11, 3) := by decide +kernel
theorem dX10_refusalOfItem_8 : decode cX10_refusalOfItem 8 = .ok (.iload_n 2, 1) := by decide +kernel
theorem dX10_refusalOfItem_9 : decode cX10_refusalOfItem 9 = .ok (.iconst 3, 1) := by decide +kernel
theorem dX10_refusalOfItem_10 : decode cX10_refusalOfItem 10 = .ok (.invokestatic 90, 3) := by decide +kernel
theorem dX10_refusalOfItem_13 : decode cX10_refusalOfItem 13 = .ok (.ifCond .ne 6, 3) := by decide +kernel
theorem dX10_refusalOfItem_16 : decode cX10_refusalOfItem 16 = .ok (.bipush (-2), 2) := by decide +kernel
theorem dX10_refusalOfItem_18 : decode cX10_refusalOfItem 18 = .ok (.ireturn, 1) := by decide +kernel
theorem dX10_refusalOfItem_19 : decode cX10_refusalOfItem 19 = .ok (.aload_n 0, 1) := by decide +kernel
theorem dX10_refusalOfItem_20 : decode cX10_refusalOfItem 20 = .ok (.getfield 76, 3) := by decide +kernel
theorem dX10_refusalOfItem_23 : decode cX10_refusalOfItem 23 = .ok (.iload_n 1, 1) := by decide +kernel
theorem dX10_refusalOfItem_24 : decode cX10_refusalOfItem 24 = .ok (.aaload, 1) := by decide +kernel
theorem dX10_refusalOfItem_25 : decode cX10_refusalOfItem 25 = .ok (.invokevirtual 148, 3) := by decide +kernel
theorem dX10_refusalOfItem_28 : decode cX10_refusalOfItem 28 = .ok (.ifCond .eq 9, 3) := by decide +kernel
theorem dX10_refusalOfItem_31 : decode cX10_refusalOfItem 31 = .ok (.aload_n 0, 1) := by decide +kernel
theorem dX10_refusalOfItem_32 : decode cX10_refusalOfItem 32 = .ok (.iconst 1, 1) := by decide +kernel
theorem dX10_refusalOfItem_33 : decode cX10_refusalOfItem 33 = .ok (.invokevirtual 152, 3) := by decide +kernel
theorem dX10_refusalOfItem_36 : decode cX10_refusalOfItem 36 = .ok (.ireturn, 1) := by decide +kernel
theorem dX10_refusalOfItem_37 : decode cX10_refusalOfItem 37 = .ok (.aload_n 0, 1) := by decide +kernel
theorem dX10_refusalOfItem_38 : decode cX10_refusalOfItem 38 = .ok (.getfield 76, 3) := by decide +kernel
theorem dX10_refusalOfItem_41 : decode cX10_refusalOfItem 41 = .ok (.iload_n 1, 1) := by decide +kernel
theorem dX10_refusalOfItem_42 : decode cX10_refusalOfItem 42 = .ok (.aaload, 1) := by decide +kernel
theorem dX10_refusalOfItem_43 : decode cX10_refusalOfItem 43 = .ok (.getfield 260, 3) := by decide +kernel
theorem dX10_refusalOfItem_46 : decode cX10_refusalOfItem 46 = .ok (.iload_n 2, 1) := by decide +kernel
theorem dX10_refusalOfItem_47 : decode cX10_refusalOfItem 47 = .ok (.if_icmp .eq 9, 3) := by decide +kernel
theorem dX10_refusalOfItem_50 : decode cX10_refusalOfItem 50 = .ok (.aload_n 0, 1) := by decide +kernel
theorem dX10_refusalOfItem_51 : decode cX10_refusalOfItem 51 = .ok (.iconst 3, 1) := by decide +kernel
theorem dX10_refusalOfItem_52 : decode cX10_refusalOfItem 52 = .ok (.invokevirtual 152, 3) := by decide +kernel
theorem dX10_refusalOfItem_55 : decode cX10_refusalOfItem 55 = .ok (.ireturn, 1) := by decide +kernel
theorem dX10_refusalOfItem_56 : decode cX10_refusalOfItem 56 = .ok (.aload_n 0, 1) := by decide +kernel
theorem dX10_refusalOfItem_57 : decode cX10_refusalOfItem 57 = .ok (.getfield 76, 3) := by decide +kernel
theorem dX10_refusalOfItem_60 : decode cX10_refusalOfItem 60 = .ok (.iload_n 1, 1) := by decide +kernel
theorem dX10_refusalOfItem_61 : decode cX10_refusalOfItem 61 = .ok (.aaload, 1) := by decide +kernel
theorem dX10_refusalOfItem_62 : decode cX10_refusalOfItem 62 = .ok (.iload_n 3, 1) := by decide +kernel
theorem dX10_refusalOfItem_63 : decode cX10_refusalOfItem 63 = .ok (.iconst 1, 1) := by decide +kernel
theorem dX10_refusalOfItem_64 : decode cX10_refusalOfItem 64 = .ok (.invokevirtual 263, 3) := by decide +kernel
theorem dX10_refusalOfItem_67 : decode cX10_refusalOfItem 67 = .ok (.ifCond .eq 7, 3) := by decide +kernel
theorem dX10_refusalOfItem_70 : decode cX10_refusalOfItem 70 = .ok (.iconst 0, 1) := by decide +kernel
theorem dX10_refusalOfItem_71 : decode cX10_refusalOfItem 71 = .ok (.goto 8, 3) := by decide +kernel
theorem dX10_refusalOfItem_74 : decode cX10_refusalOfItem 74 = .ok (.aload_n 0, 1) := by decide +kernel
theorem dX10_refusalOfItem_75 : decode cX10_refusalOfItem 75 = .ok (.iconst 2, 1) := by decide +kernel
theorem dX10_refusalOfItem_76 : decode cX10_refusalOfItem 76 = .ok (.invokevirtual 152, 3) := by decide +kernel
theorem dX10_refusalOfItem_79 : decode cX10_refusalOfItem 79 = .ok (.ireturn, 1) := by decide +kernel
set_option maxRecDepth 4000 in
theorem s_X10_refusalOfItem_0 {w : GX} {d : Nat} {P : PN} {g : GI} (x1 : Int) (x2 : Int) (x3 : Int)
    (h : (((nm (wi (x1) (4)) = 0 → P (some (aI ((-2)))) g) ∧ (¬ nm (wi (x1) (4)) = 0 → (((¬ nm (wi (x2) (3)) = 0 → (0 ≤ nm x1 ∧ nm x1 < 4 ∧ (((nm (isNeg (g (220 + 2 * (nm x1).toNat) 2)) = 0 → (((nm (g (220 + 2 * (nm x1).toNat) 1) = nm x2 → ((((nm (hld (g (220 + 2 * (nm x1).toNat) 2) (x3) (1)) = 0 → (∀ g11 : GI, g11 = up2 g 0 11 (2) → P (some (aI ((-10) - (2)))) g11)) ∧ (¬ nm (hld (g (220 + 2 * (nm x1).toNat) 2) (x3) (1)) = 0 → P (some (aI (0))) g))))) ∧ (¬ nm (g (220 + 2 * (nm x1).toNat) 1) = nm x2 → (∀ g12 : GI, g12 = up2 g 0 11 (3) → P (some (aI ((-10) - (3)))) g12))))) ∧ (¬ nm (isNeg (g (220 + 2 * (nm x1).toNat) 2)) = 0 → (∀ g13 : GI, g13 = up2 g 0 11 (1) → P (some (aI ((-10) - (1)))) g13)))))) ∧ (nm (wi (x2) (3)) = 0 → P (some (aI ((-2)))) g))))))) :
    Zm w (d + 1) mX10_refusalOfItem 0 [some (aR (some (0))), some (aI (x1)), some (aI (x2)), some (aI (x3))] [] g P := by
  refine z_iload_n dX10_refusalOfItem_0 rfl rfl ?_
  refine z_iconst dX10_refusalOfItem_1 ?_
  refine m_callS (as := [aI (x1), aI (4)]) dX10_refusalOfItem_2 lk_X10_90 mok_X10_within st_X10_within rfl (Nat.le_of_ble_eq_true rfl) rfl (Nat.le_of_ble_eq_true rfl) rfl (c_X10_within  ?_)
  show Zm w (d + 1) mX10_refusalOfItem 5 [some (aR (some (0))), some (aI (x1)), some (aI (x2)), some (aI (x3))] [aI (wi (x1) (4))] g P
  refine z_if_eq (tgt := 16) dX10_refusalOfItem_5 (by decide) (fun c1 => ?_) (fun c1 => ?_)
  · replace h := h.1 c1
    refine z_bipush dX10_refusalOfItem_16 rfl ?_
    exact m_iret dX10_refusalOfItem_18 rfl h
  · replace h := h.2 c1
    refine z_iload_n dX10_refusalOfItem_8 rfl rfl ?_
    refine z_iconst dX10_refusalOfItem_9 ?_
    refine m_callS (as := [aI (x2), aI (3)]) dX10_refusalOfItem_10 lk_X10_90 mok_X10_within st_X10_within rfl (Nat.le_of_ble_eq_true rfl) rfl (Nat.le_of_ble_eq_true rfl) rfl (c_X10_within  ?_)
    show Zm w (d + 1) mX10_refusalOfItem 13 [some (aR (some (0))), some (aI (x1)), some (aI (x2)), some (aI (x3))] [aI (wi (x2) (3))] g P
    refine z_if_ne (tgt := 19) dX10_refusalOfItem_13 (by decide) (fun c2 => ?_) (fun c2 => ?_)
    · replace h := h.1 c2
      refine z_aload_n dX10_refusalOfItem_19 rfl rfl ?_
      refine m_getR dX10_refusalOfItem_20 fl_X10_76 (by decide) kt_0 rv_0_10 ?_
      refine z_iload_n dX10_refusalOfItem_23 rfl rfl ?_
      obtain ⟨q3, q4, h⟩ := h
      have t5 : (nm x1).toNat < 4 := by omega
      refine m_aaldv dX10_refusalOfItem_24 kv_215 q3 q4 (w_sheets _ t5) ?_
      refine m_callV (as := []) dX10_refusalOfItem_25 lk_X10_148 mok_X6_isLost in_X6_isLost sl_X6_isLost (congrArg Prod.fst (isS_at _ t5).1) rfl rfl rfl (Nat.le_of_ble_eq_true rfl) rfl (Nat.le_of_ble_eq_true rfl) rfl (c_X6_isLost (isS_at _ t5) ?_)
      show Zm w (d + 1) mX10_refusalOfItem 28 [some (aR (some (0))), some (aI (x1)), some (aI (x2)), some (aI (x3))] [aI (isNeg (g (220 + 2 * (nm x1).toNat) 2))] g P
      refine z_if_eq (tgt := 37) dX10_refusalOfItem_28 (by decide) (fun c6 => ?_) (fun c6 => ?_)
      · replace h := h.1 c6
        refine z_aload_n dX10_refusalOfItem_37 rfl rfl ?_
        refine m_getR dX10_refusalOfItem_38 fl_X10_76 (by decide) kt_0 rv_0_10 ?_
        refine z_iload_n dX10_refusalOfItem_41 rfl rfl ?_
        have t7 : (nm x1).toNat < 4 := by omega
        refine m_aaldv dX10_refusalOfItem_42 kv_215 q3 q4 (w_sheets _ t7) ?_
        refine z_getI dX10_refusalOfItem_43 fl_X10_260 (by decide) (congrArg Prod.fst (isS_at _ t7).1) ?_
        refine z_iload_n dX10_refusalOfItem_46 rfl rfl ?_
        refine z_icmp_eq (tgt := 56) dX10_refusalOfItem_47 (by decide) (fun c8 => ?_) (fun c8 => ?_)
        · replace h := h.1 c8
          refine z_aload_n dX10_refusalOfItem_56 rfl rfl ?_
          refine m_getR dX10_refusalOfItem_57 fl_X10_76 (by decide) kt_0 rv_0_10 ?_
          refine z_iload_n dX10_refusalOfItem_60 rfl rfl ?_
          have t9 : (nm x1).toNat < 4 := by omega
          refine m_aaldv dX10_refusalOfItem_61 kv_215 q3 q4 (w_sheets _ t9) ?_
          refine z_iload_n dX10_refusalOfItem_62 rfl rfl ?_
          refine z_iconst dX10_refusalOfItem_63 ?_
          refine m_callV (as := [aI (x3), aI (1)]) dX10_refusalOfItem_64 lk_X10_263 mok_X6_holds in_X6_holds sl_X6_holds (congrArg Prod.fst (isS_at _ t9).1) rfl rfl rfl (Nat.le_of_ble_eq_true rfl) rfl (Nat.le_of_ble_eq_true rfl) rfl (c_X6_holds (isS_at _ t9) ?_)
          show Zm w (d + 1) mX10_refusalOfItem 67 [some (aR (some (0))), some (aI (x1)), some (aI (x2)), some (aI (x3))] [aI (hld (g (220 + 2 * (nm x1).toNat) 2) (x3) (1))] g P
          refine z_if_eq (tgt := 74) dX10_refusalOfItem_67 (by decide) (fun c10 => ?_) (fun c10 => ?_)
          · replace h := h.1 c10
            refine z_aload_n dX10_refusalOfItem_74 rfl rfl ?_
            refine z_iconst dX10_refusalOfItem_75 ?_
            refine m_callV (as := [aI (2)]) dX10_refusalOfItem_76 lk_X10_152 mok_X10_finding in_X10_finding sl_X10_finding kt_0 rfl rfl rfl (Nat.le_of_ble_eq_true rfl) rfl (Nat.le_of_ble_eq_true rfl) rfl (c_X10_finding  ?_)
            replace h := h _ rfl
            show Zm w (d + 1) mX10_refusalOfItem 79 [some (aR (some (0))), some (aI (x1)), some (aI (x2)), some (aI (x3))] [aI ((-10) - (2))] (up2 g 0 11 (2)) P
            exact m_iret dX10_refusalOfItem_79 rfl h
          · replace h := h.2 c10
            refine z_iconst dX10_refusalOfItem_70 ?_
            refine z_goto (tgt := 79) dX10_refusalOfItem_71 (by decide) ?_
            exact m_iret dX10_refusalOfItem_79 rfl h
        · replace h := h.2 c8
          refine z_aload_n dX10_refusalOfItem_50 rfl rfl ?_
          refine z_iconst dX10_refusalOfItem_51 ?_
          refine m_callV (as := [aI (3)]) dX10_refusalOfItem_52 lk_X10_152 mok_X10_finding in_X10_finding sl_X10_finding kt_0 rfl rfl rfl (Nat.le_of_ble_eq_true rfl) rfl (Nat.le_of_ble_eq_true rfl) rfl (c_X10_finding  ?_)
          replace h := h _ rfl
          show Zm w (d + 1) mX10_refusalOfItem 55 [some (aR (some (0))), some (aI (x1)), some (aI (x2)), some (aI (x3))] [aI ((-10) - (3))] (up2 g 0 11 (3)) P
          exact m_iret dX10_refusalOfItem_55 rfl h
      · replace h := h.2 c6
        refine z_aload_n dX10_refusalOfItem_31 rfl rfl ?_
        refine z_iconst dX10_refusalOfItem_32 ?_
        refine m_callV (as := [aI (1)]) dX10_refusalOfItem_33 lk_X10_152 mok_X10_finding in_X10_finding sl_X10_finding kt_0 rfl rfl rfl (Nat.le_of_ble_eq_true rfl) rfl (Nat.le_of_ble_eq_true rfl) rfl (c_X10_finding  ?_)
        replace h := h _ rfl
        show Zm w (d + 1) mX10_refusalOfItem 36 [some (aR (some (0))), some (aI (x1)), some (aI (x2)), some (aI (x3))] [aI ((-10) - (1))] (up2 g 0 11 (1)) P
        exact m_iret dX10_refusalOfItem_36 rfl h
    · replace h := h.2 (Decidable.not_not.mp c2)
      refine z_bipush dX10_refusalOfItem_16 rfl ?_
      exact m_iret dX10_refusalOfItem_18 rfl h
theorem dX10_settle_0 : decode cX10_settle 0 = .ok (.aload_n 0, 1) := by decide +kernel
theorem dX10_settle_1 : decode cX10_settle 1 = .ok (.getfield 84, 3) := by decide +kernel
theorem dX10_settle_4 : decode cX10_settle 4 = .ok (.ifCond .eq 41, 3) := by decide +kernel
theorem dX10_settle_7 : decode cX10_settle 7 = .ok (.aload_n 0, 1) := by decide +kernel
theorem dX10_settle_8 : decode cX10_settle 8 = .ok (.getfield 36, 3) := by decide +kernel
theorem dX10_settle_11 : decode cX10_settle 11 = .ok (.aload_n 0, 1) := by decide +kernel
theorem dX10_settle_12 : decode cX10_settle 12 = .ok (.getfield 11, 3) := by decide +kernel
theorem dX10_settle_15 : decode cX10_settle 15 = .ok (.iconst 0, 1) := by decide +kernel
theorem dX10_settle_16 : decode cX10_settle 16 = .ok (.aaload, 1) := by decide +kernel
theorem dX10_settle_17 : decode cX10_settle 17 = .ok (.invokevirtual 334, 3) := by decide +kernel
theorem dX10_settle_20 : decode cX10_settle 20 = .ok (.aload_n 0, 1) := by decide +kernel
theorem dX10_settle_21 : decode cX10_settle 21 = .ok (.getfield 36, 3) := by decide +kernel
theorem dX10_settle_24 : decode cX10_settle 24 = .ok (.aload_n 0, 1) := by decide +kernel
theorem dX10_settle_25 : decode cX10_settle 25 = .ok (.getfield 11, 3) := by decide +kernel
theorem dX10_settle_28 : decode cX10_settle 28 = .ok (.iconst 1, 1) := by decide +kernel
theorem dX10_settle_29 : decode cX10_settle 29 = .ok (.aaload, 1) := by decide +kernel
theorem dX10_settle_30 : decode cX10_settle 30 = .ok (.invokevirtual 338, 3) := by decide +kernel
theorem dX10_settle_33 : decode cX10_settle 33 = .ok (.aload_n 0, 1) := by decide +kernel
theorem dX10_settle_34 : decode cX10_settle 34 = .ok (.getfield 45, 3) := by decide +kernel
theorem dX10_settle_37 : decode cX10_settle 37 = .ok (.invokevirtual 341, 3) := by decide +kernel
theorem dX10_settle_40 : decode cX10_settle 40 = .ok (.aload_n 0, 1) := by decide +kernel
theorem dX10_settle_41 : decode cX10_settle 41 = .ok (.iconst 0, 1) := by decide +kernel
theorem dX10_settle_42 : decode cX10_settle 42 = .ok (.putfield 84, 3) := by decide +kernel
theorem dX10_settle_45 : decode cX10_settle 45 = .ok (.return_, 1) := by decide +kernel
set_option maxRecDepth 4000 in
theorem s_X10_settle_0 {w : GX} {d : Nat} {P : PN} {g : GI} 
    (h : ((nm (g 0 12) = 0 → P none g) ∧ (¬ nm (g 0 12) = 0 → Zm w (d + 3) mX9_tellRiver 0 [some (aR (some (18))), some (aR (some (216))), none] [] g (fun r g2 => r = none ∧ Zm w (d + 3) mX9_tellPeople 0 [some (aR (some (18))), some (aR (some (218))), none, none, none, none] [] g2 (fun r g4 => r = none ∧ Zm w (d + 3) mX2_live 0 [some (aR (some (27))), none] [] g4 (fun r g6 => r = none ∧ (∀ g8 : GI, g8 = up2 g6 0 12 0 → P none g8))))))) :
    Zm w (d + 4) mX10_settle 0 [some (aR (some (0)))] [] g P := by
  refine z_aload_n dX10_settle_0 rfl rfl ?_
  refine z_getI dX10_settle_1 fl_X10_84 (by decide) kt_0 ?_
  refine z_if_eq (tgt := 45) dX10_settle_4 (by decide) (fun c1 => ?_) (fun c1 => ?_)
  · replace h := h.1 c1
    exact m_vret dX10_settle_45 rfl h
  · replace h := h.2 c1
    refine z_aload_n dX10_settle_7 rfl rfl ?_
    refine m_getR dX10_settle_8 fl_X10_36 (by decide) kt_0 rv_0_5 ?_
    refine z_aload_n dX10_settle_11 rfl rfl ?_
    refine m_getR dX10_settle_12 fl_X10_11 (by decide) kt_0 rv_0_0 ?_
    refine z_iconst dX10_settle_15 ?_
    refine m_aaldv (r := 216) dX10_settle_16 kv_1 (by decide) (by decide) (by decide +kernel) ?_
    refine m_callV (as := [aR (some (216))]) dX10_settle_17 lk_X10_334 mok_X9_tellRiver in_X9_tellRiver sl_X9_tellRiver kt_18 rfl rfl rfl (Nat.le_of_ble_eq_true rfl) rfl (Nat.le_of_ble_eq_true rfl) rfl (m_mono (fun r g2 hr => ?_) h)
    obtain ⟨rfl, h⟩ := hr
    show Zm w (d + 4) mX10_settle 20 [some (aR (some (0)))] [] g2 P
    refine z_aload_n dX10_settle_20 rfl rfl ?_
    refine m_getR dX10_settle_21 fl_X10_36 (by decide) kt_0 rv_0_5 ?_
    refine z_aload_n dX10_settle_24 rfl rfl ?_
    refine m_getR dX10_settle_25 fl_X10_11 (by decide) kt_0 rv_0_0 ?_
    refine z_iconst dX10_settle_28 ?_
    refine m_aaldv (r := 218) dX10_settle_29 kv_1 (by decide) (by decide) (by decide +kernel) ?_
    refine m_callV (as := [aR (some (218))]) dX10_settle_30 lk_X10_338 mok_X9_tellPeople in_X9_tellPeople sl_X9_tellPeople kt_18 rfl rfl rfl (Nat.le_of_ble_eq_true rfl) rfl (Nat.le_of_ble_eq_true rfl) rfl (m_mono (fun r g4 hr => ?_) h)
    obtain ⟨rfl, h⟩ := hr
    show Zm w (d + 4) mX10_settle 33 [some (aR (some (0)))] [] g4 P
    refine z_aload_n dX10_settle_33 rfl rfl ?_
    refine m_getR dX10_settle_34 fl_X10_45 (by decide) kt_0 rv_0_6 ?_
    refine m_callV (as := []) dX10_settle_37 lk_X10_341 mok_X2_live in_X2_live sl_X2_live kt_27 rfl rfl rfl (Nat.le_of_ble_eq_true rfl) rfl (Nat.le_of_ble_eq_true rfl) rfl (m_mono (fun r g6 hr => ?_) h)
    obtain ⟨rfl, h⟩ := hr
    show Zm w (d + 4) mX10_settle 40 [some (aR (some (0)))] [] g6 P
    refine z_aload_n dX10_settle_40 rfl rfl ?_
    refine z_iconst dX10_settle_41 ?_
    replace h := h _ rfl
    refine z_putZ dX10_settle_42 fw_X10_84 (by decide) kt_0 (by decide) ?_
    exact m_vret dX10_settle_45 rfl h
theorem dX10_areAlike_0 : decode cX10_areAlike 0 = .ok (.aload_n 0, 1) := by decide +kernel
theorem dX10_areAlike_1 : decode cX10_areAlike 1 = .ok (.getfield 45, 3) := by decide +kernel
theorem dX10_areAlike_4 : decode cX10_areAlike 4 = .ok (.getfield 163, 3) := by decide +kernel
theorem dX10_areAlike_7 : decode cX10_areAlike 7 = .ok (.iload_n 1, 1) := by decide +kernel
theorem dX10_areAlike_8 : decode cX10_areAlike 8 = .ok (.iconst 1, 1) := by decide +kernel
theorem dX10_areAlike_9 : decode cX10_areAlike 9 = .ok (.iadd, 1) := by decide +kernel
theorem dX10_areAlike_10 : decode cX10_areAlike 10 = .ok (.aaload, 1) := by decide +kernel
theorem dX10_areAlike_11 : decode cX10_areAlike 11 = .ok (.astore_n 3, 1) := by decide +kernel
theorem dX10_areAlike_12 : decode cX10_areAlike 12 = .ok (.iload_n 2, 1) := by decide +kernel
theorem dX10_areAlike_13 : decode cX10_areAlike 13 = .ok (.bipush 8, 2) := by decide +kernel
theorem dX10_areAlike_15 : decode cX10_areAlike 15 = .ok (.idiv, 1) := by decide +kernel
theorem dX10_areAlike_16 : decode cX10_areAlike 16 = .ok (.istore 4, 2) := by decide +kernel
theorem dX10_areAlike_18 : decode cX10_areAlike 18 = .ok (.iload_n 2, 1) := by decide +kernel
theorem dX10_areAlike_19 : decode cX10_areAlike 19 = .ok (.bipush 8, 2) := by decide +kernel
theorem dX10_areAlike_21 : decode cX10_areAlike 21 = .ok (.irem, 1) := by decide +kernel
theorem dX10_areAlike_22 : decode cX10_areAlike 22 = .ok (.istore 5, 2) := by decide +kernel
theorem dX10_areAlike_24 : decode cX10_areAlike 24 = .ok (.iload 4, 2) := by decide +kernel
theorem dX10_areAlike_26 : decode cX10_areAlike 26 = .ok (.iload 5, 2) := by decide +kernel
theorem dX10_areAlike_28 : decode cX10_areAlike 28 = .ok (.if_icmp .ge 39, 3) := by decide +kernel
theorem dX10_areAlike_31 : decode cX10_areAlike 31 = .ok (.aload_n 0, 1) := by decide +kernel
theorem dX10_areAlike_32 : decode cX10_areAlike 32 = .ok (.iload 5, 2) := by decide +kernel
theorem dX10_areAlike_34 : decode cX10_areAlike 34 = .ok (.invokevirtual 121, 3) := by decide +kernel
theorem dX10_areAlike_37 : decode cX10_areAlike 37 = .ok (.ifCond .eq 30, 3) := by decide +kernel
theorem dX10_areAlike_40 : decode cX10_areAlike 40 = .ok (.aload_n 3, 1) := by decide +kernel
theorem dX10_areAlike_41 : decode cX10_areAlike 41 = .ok (.aload_n 0, 1) := by decide +kernel
theorem dX10_areAlike_42 : decode cX10_areAlike 42 = .ok (.getfield 36, 3) := by decide +kernel
theorem dX10_areAlike_45 : decode cX10_areAlike 45 = .ok (.iload 4, 2) := by decide +kernel
theorem dX10_areAlike_47 : decode cX10_areAlike 47 = .ok (.invokevirtual 172, 3) := by decide +kernel
theorem dX10_areAlike_50 : decode cX10_areAlike 50 = .ok (.aload_n 3, 1) := by decide +kernel
theorem dX10_areAlike_51 : decode cX10_areAlike 51 = .ok (.aload_n 0, 1) := by decide +kernel
theorem dX10_areAlike_52 : decode cX10_areAlike 52 = .ok (.getfield 36, 3) := by decide +kernel
theorem dX10_areAlike_55 : decode cX10_areAlike 55 = .ok (.iload 5, 2) := by decide +kernel
theorem dX10_areAlike_57 : decode cX10_areAlike 57 = .ok (.invokevirtual 172, 3) := by decide +kernel
theorem dX10_areAlike_60 : decode cX10_areAlike 60 = .ok (.if_icmp .ne 7, 3) := by decide +kernel
theorem dX10_areAlike_63 : decode cX10_areAlike 63 = .ok (.iconst 1, 1) := by decide +kernel
theorem dX10_areAlike_64 : decode cX10_areAlike 64 = .ok (.goto 4, 3) := by decide +kernel
theorem dX10_areAlike_67 : decode cX10_areAlike 67 = .ok (.iconst 0, 1) := by decide +kernel
theorem dX10_areAlike_68 : decode cX10_areAlike 68 = .ok (.ireturn, 1) := by decide +kernel
set_option maxRecDepth 4000 in
theorem s_X10_areAlike_0 {w : GX} {d : Nat} {P : PN} {g : GI} (x1 : Int) (x2 : Int)
    (h : (0 ≤ nm (x1 + 1) ∧ nm (x1 + 1) < 21 ∧ (∀ v4 : Int, v4 = iDiv x2 8 → (∀ v5 : Int, v5 = iRem x2 8 → ((¬ nm v4 < nm v5 → P (some (aI (0))) g) ∧ (nm v4 < nm v5 → (((nm (wi (v5) (g 18 10)) = 0 → P (some (aI (0))) g) ∧ (¬ nm (wi (v5) (g 18 10)) = 0 → Zm w (d + 1) mX8_letterOf 0 [some (aR (some (31 + 5 * (nm (x1 + 1)).toNat))), some (aR (some (18))), some (aI (v4)), none] [] g (fun r g8 => ∃ z9 : Int, r = some (aI z9) ∧ Zm w (d + 1) mX8_letterOf 0 [some (aR (some (31 + 5 * (nm (x1 + 1)).toNat))), some (aR (some (18))), some (aI (v5)), none] [] g8 (fun r g10 => ∃ z11 : Int, r = some (aI z11) ∧ ((¬ nm z9 = nm z11 → P (some (aI (0))) g10) ∧ (nm z9 = nm z11 → P (some (aI (1))) g10))))))))))))) :
    Zm w (d + 2) mX10_areAlike 0 [some (aR (some (0))), some (aI (x1)), some (aI (x2)), none, none, none] [] g P := by
  refine z_aload_n dX10_areAlike_0 rfl rfl ?_
  refine m_getR dX10_areAlike_1 fl_X10_45 (by decide) kt_0 rv_0_6 ?_
  refine m_getR dX10_areAlike_4 fl_X10_163 (by decide) kt_27 rv_27_5 ?_
  refine z_iload_n dX10_areAlike_7 rfl rfl ?_
  refine z_iconst dX10_areAlike_8 ?_
  refine z_iadd dX10_areAlike_9 ?_
  obtain ⟨q1, q2, h⟩ := h
  have t3 : (nm (x1 + 1)).toNat < 21 := by omega
  refine m_aaldv dX10_areAlike_10 kv_30 q1 q2 (w_ahead _ t3) ?_
  refine z_astore_n dX10_areAlike_11 rfl (by decide) rfl ?_
  show Zm w (d + 2) mX10_areAlike 12 [some (aR (some (0))), some (aI (x1)), some (aI (x2)), some (aR (some (31 + 5 * (nm (x1 + 1)).toNat))), none, none] [] g P
  refine z_iload_n dX10_areAlike_12 rfl rfl ?_
  refine z_bipush dX10_areAlike_13 rfl ?_
  refine z_idiv dX10_areAlike_15 (by decide) ?_
  replace h := h _ rfl
  refine z_istore dX10_areAlike_16 (by decide) rfl ?_
  show Zm w (d + 2) mX10_areAlike 18 [some (aR (some (0))), some (aI (x1)), some (aI (x2)), some (aR (some (31 + 5 * (nm (x1 + 1)).toNat))), some (aI (iDiv x2 8)), none] [] g P
  refine z_iload_n dX10_areAlike_18 rfl rfl ?_
  refine z_bipush dX10_areAlike_19 rfl ?_
  refine z_irem dX10_areAlike_21 (by decide) ?_
  replace h := h _ rfl
  refine z_istore dX10_areAlike_22 (by decide) rfl ?_
  show Zm w (d + 2) mX10_areAlike 24 [some (aR (some (0))), some (aI (x1)), some (aI (x2)), some (aR (some (31 + 5 * (nm (x1 + 1)).toNat))), some (aI ((iDiv x2 8))), some (aI (iRem x2 8))] [] g P
  refine z_iload dX10_areAlike_24 rfl ?_
  refine z_iload dX10_areAlike_26 rfl ?_
  refine z_icmp_ge (tgt := 67) dX10_areAlike_28 (by decide) (fun c6 => ?_) (fun c6 => ?_)
  · replace h := h.1 c6
    refine z_iconst dX10_areAlike_67 ?_
    exact m_zret dX10_areAlike_68 rfl (by decide) h
  · replace h := h.2 (Decidable.not_not.mp c6)
    refine z_aload_n dX10_areAlike_31 rfl rfl ?_
    refine z_iload dX10_areAlike_32 rfl ?_
    refine m_callV (as := [aI ((iRem x2 8))]) dX10_areAlike_34 lk_X10_121 mok_X10_isPerson in_X10_isPerson sl_X10_isPerson kt_0 rfl rfl rfl (Nat.le_of_ble_eq_true rfl) rfl (Nat.le_of_ble_eq_true rfl) rfl (c_X10_isPerson  ?_)
    show Zm w (d + 2) mX10_areAlike 37 [some (aR (some (0))), some (aI (x1)), some (aI (x2)), some (aR (some (31 + 5 * (nm (x1 + 1)).toNat))), some (aI ((iDiv x2 8))), some (aI ((iRem x2 8)))] [aI (wi ((iRem x2 8)) (g 18 10))] g P
    refine z_if_eq (tgt := 67) dX10_areAlike_37 (by decide) (fun c7 => ?_) (fun c7 => ?_)
    · replace h := h.1 c7
      refine z_iconst dX10_areAlike_67 ?_
      exact m_zret dX10_areAlike_68 rfl (by decide) h
    · replace h := h.2 c7
      refine z_aload_n dX10_areAlike_40 rfl rfl ?_
      refine z_aload_n dX10_areAlike_41 rfl rfl ?_
      refine m_getR dX10_areAlike_42 fl_X10_36 (by decide) kt_0 rv_0_5 ?_
      refine z_iload dX10_areAlike_45 rfl ?_
      refine m_callV (as := [aR (some (18)), aI ((iDiv x2 8))]) dX10_areAlike_47 lk_X10_172 mok_X8_letterOf in_X8_letterOf sl_X8_letterOf (congrArg Prod.fst (isW_ahead _ t3).1) rfl rfl rfl (Nat.le_of_ble_eq_true rfl) rfl (Nat.le_of_ble_eq_true rfl) rfl (m_mono (fun r g8 hr => ?_) h)
      obtain ⟨z9, rfl, h⟩ := hr
      show Zm w (d + 2) mX10_areAlike 50 [some (aR (some (0))), some (aI (x1)), some (aI (x2)), some (aR (some (31 + 5 * (nm (x1 + 1)).toNat))), some (aI ((iDiv x2 8))), some (aI ((iRem x2 8)))] [aI (z9)] g8 P
      refine z_aload_n dX10_areAlike_50 rfl rfl ?_
      refine z_aload_n dX10_areAlike_51 rfl rfl ?_
      refine m_getR dX10_areAlike_52 fl_X10_36 (by decide) kt_0 rv_0_5 ?_
      refine z_iload dX10_areAlike_55 rfl ?_
      refine m_callV (as := [aR (some (18)), aI ((iRem x2 8))]) dX10_areAlike_57 lk_X10_172 mok_X8_letterOf in_X8_letterOf sl_X8_letterOf (congrArg Prod.fst (isW_ahead _ t3).1) rfl rfl rfl (Nat.le_of_ble_eq_true rfl) rfl (Nat.le_of_ble_eq_true rfl) rfl (m_mono (fun r g10 hr => ?_) h)
      obtain ⟨z11, rfl, h⟩ := hr
      show Zm w (d + 2) mX10_areAlike 60 [some (aR (some (0))), some (aI (x1)), some (aI (x2)), some (aR (some (31 + 5 * (nm (x1 + 1)).toNat))), some (aI ((iDiv x2 8))), some (aI ((iRem x2 8)))] [aI (z11), aI (z9)] g10 P
      refine z_icmp_ne (tgt := 67) dX10_areAlike_60 (by decide) (fun c12 => ?_) (fun c12 => ?_)
      · replace h := h.1 c12
        refine z_iconst dX10_areAlike_67 ?_
        exact m_zret dX10_areAlike_68 rfl (by decide) h
      · replace h := h.2 (Decidable.not_not.mp c12)
        refine z_iconst dX10_areAlike_63 ?_
        refine z_goto (tgt := 68) dX10_areAlike_64 (by decide) ?_
        exact m_zret dX10_areAlike_68 rfl (by decide) h
