theorem dX0_asTold_0 : decode cX0_asTold 0 = .ok (.aload_n 0, 1) := by decide +kernel
theorem dX0_asTold_1 : decode cX0_asTold 1 = .ok (.iconst (-1), 1) := by decide +kernel
theorem dX0_asTold_2 : decode cX0_asTold 2 = .ok (.putfield 15, 3) := by decide +kernel
theorem dX0_asTold_5 : decode cX0_asTold 5 = .ok (.aload_n 1, 1) := by decide +kernel
theorem dX0_asTold_6 : decode cX0_asTold 6 = .ok (.getfield 19, 3) := by decide +kernel
theorem dX0_asTold_9 : decode cX0_asTold 9 = .ok (.iconst 0, 1) := by decide +kernel
theorem dX0_asTold_10 : decode cX0_asTold 10 = .ok (.aload_n 0, 1) := by decide +kernel
theorem dX0_asTold_11 : decode cX0_asTold 11 = .ok (.getfield 9, 3) := by decide +kernel
theorem dX0_asTold_14 : decode cX0_asTold 14 = .ok (.iconst 0, 1) := by decide +kernel
theorem dX0_asTold_15 : decode cX0_asTold 15 = .ok (.bipush 8, 2) := by decide +kernel
theorem dX0_asTold_17 : decode cX0_asTold 17 = .ok (.invokestatic 22, 3) := by decide +kernel
theorem dX0_asTold_20 : decode cX0_asTold 20 = .ok (.return_, 1) := by decide +kernel
set_option maxRecDepth 4000 in
theorem s_X0_asTold_0 {w : GX} {d : Nat} {P : PN} {g : GI} {x0 : Nat} (hx0 : isC x0)
    (h : (∀ g1 : GI, g1 = up2 g x0 1 ((-1)) → (0 ≤ nm 0 ∧ 0 ≤ nm 0 ∧ 0 ≤ nm 8 ∧ nm 0 + nm 8 ≤ 8 ∧ nm 0 + nm 8 ≤ 8 ∧ ∀ g7 : GI, g7 = upf g1 (x0 + 1) (va_cpy (g1 26) (g1 (x0 + 1)) (nm 0).toNat (nm 0).toNat (nm 8).toNat) → P none g7))) :
    Zm w (d + 1) mX0_asTold 0 [some (aR (some (x0))), some (aR (some (18)))] [] g P := by
  refine z_aload_n dX0_asTold_0 rfl rfl ?_
  refine z_iconst dX0_asTold_1 ?_
  replace h := h _ rfl
  refine z_putI dX0_asTold_2 fw_X0_15 (by decide) (congrArg Prod.fst hx0.1) ?_
  refine z_aload_n dX0_asTold_5 rfl rfl ?_
  refine m_getR dX0_asTold_6 fl_X0_19 (by decide) kt_18 rv_18_7 ?_
  refine z_iconst dX0_asTold_9 ?_
  refine z_aload_n dX0_asTold_10 rfl rfl ?_
  refine m_getR dX0_asTold_11 fl_X0_9 (by decide) (congrArg Prod.fst hx0.1) hx0.2.1 ?_
  refine z_iconst dX0_asTold_14 ?_
  refine z_bipush dX0_asTold_15 rfl ?_
  obtain ⟨q2, q3, q4, q5, q6, h⟩ := h
  replace h := h _ rfl
  refine m_acopyv dX0_asTold_17 lk_X0_22 (Nat.le_of_ble_eq_true rfl) kv_26 hx0.2.2 q2 q3 q4 q5 q6 ?_
  exact m_vret dX0_asTold_20 rfl h
theorem dX2_live_0 : decode cX2_live 0 = .ok (.aload_n 0, 1) := by decide +kernel
theorem dX2_live_1 : decode cX2_live 1 = .ok (.getfield 12, 3) := by decide +kernel
theorem dX2_live_4 : decode cX2_live 4 = .ok (.aload_n 0, 1) := by decide +kernel
theorem dX2_live_5 : decode cX2_live 5 = .ok (.getfield 31, 3) := by decide +kernel
theorem dX2_live_8 : decode cX2_live 8 = .ok (.invokevirtual 46, 3) := by decide +kernel
theorem dX2_live_11 : decode cX2_live 11 = .ok (.aload_n 0, 1) := by decide +kernel
theorem dX2_live_12 : decode cX2_live 12 = .ok (.iconst 0, 1) := by decide +kernel
theorem dX2_live_13 : decode cX2_live 13 = .ok (.putfield 28, 3) := by decide +kernel
theorem dX2_live_16 : decode cX2_live 16 = .ok (.aload_n 0, 1) := by decide +kernel
theorem dX2_live_17 : decode cX2_live 17 = .ok (.iconst 0, 1) := by decide +kernel
theorem dX2_live_18 : decode cX2_live 18 = .ok (.putfield 24, 3) := by decide +kernel
theorem dX2_live_21 : decode cX2_live 21 = .ok (.iconst 0, 1) := by decide +kernel
theorem dX2_live_22 : decode cX2_live 22 = .ok (.istore_n 1, 1) := by decide +kernel
theorem dX2_live_23 : decode cX2_live 23 = .ok (.iload_n 1, 1) := by decide +kernel
theorem dX2_live_24 : decode cX2_live 24 = .ok (.aload_n 0, 1) := by decide +kernel
theorem dX2_live_25 : decode cX2_live 25 = .ok (.getfield 42, 3) := by decide +kernel
theorem dX2_live_28 : decode cX2_live 28 = .ok (.getfield 50, 3) := by decide +kernel
theorem dX2_live_31 : decode cX2_live 31 = .ok (.if_icmp .ge 29, 3) := by decide +kernel
theorem dX2_live_34 : decode cX2_live 34 = .ok (.aload_n 0, 1) := by decide +kernel
theorem dX2_live_35 : decode cX2_live 35 = .ok (.dup, 1) := by decide +kernel
theorem dX2_live_36 : decode cX2_live 36 = .ok (.getfield 24, 3) := by decide +kernel
theorem dX2_live_39 : decode cX2_live 39 = .ok (.iconst 1, 1) := by decide +kernel
theorem dX2_live_40 : decode cX2_live 40 = .ok (.aload_n 0, 1) := by decide +kernel
theorem dX2_live_41 : decode cX2_live 41 = .ok (.getfield 42, 3) := by decide +kernel
theorem dX2_live_44 : decode cX2_live 44 = .ok (.getfield 55, 3) := by decide +kernel
theorem dX2_live_47 : decode cX2_live 47 = .ok (.iload_n 1, 1) := by decide +kernel
theorem dX2_live_48 : decode cX2_live 48 = .ok (.iaload, 1) := by decide +kernel
theorem dX2_live_49 : decode cX2_live 49 = .ok (.ishl, 1) := by decide +kernel
theorem dX2_live_50 : decode cX2_live 50 = .ok (.ior, 1) := by decide +kernel
theorem dX2_live_51 : decode cX2_live 51 = .ok (.putfield 24, 3) := by decide +kernel
theorem dX2_live_54 : decode cX2_live 54 = .ok (.iinc 1 1, 3) := by decide +kernel
theorem dX2_live_57 : decode cX2_live 57 = .ok (.goto (-34), 3) := by decide +kernel
theorem dX2_live_60 : decode cX2_live 60 = .ok (.aload_n 0, 1) := by decide +kernel
theorem dX2_live_61 : decode cX2_live 61 = .ok (.getfield 20, 3) := by decide +kernel
theorem dX2_live_64 : decode cX2_live 64 = .ok (.iconst 0, 1) := by decide +kernel
theorem dX2_live_65 : decode cX2_live 65 = .ok (.aaload, 1) := by decide +kernel
theorem dX2_live_66 : decode cX2_live 66 = .ok (.aload_n 0, 1) := by decide +kernel
theorem dX2_live_67 : decode cX2_live 67 = .ok (.getfield 31, 3) := by decide +kernel
theorem dX2_live_70 : decode cX2_live 70 = .ok (.invokevirtual 59, 3) := by decide +kernel
theorem dX2_live_73 : decode cX2_live 73 = .ok (.iconst 0, 1) := by decide +kernel
theorem dX2_live_74 : decode cX2_live 74 = .ok (.istore_n 1, 1) := by decide +kernel
theorem dX2_live_75 : decode cX2_live 75 = .ok (.iload_n 1, 1) := by decide +kernel
theorem dX2_live_76 : decode cX2_live 76 = .ok (.bipush 20, 2) := by decide +kernel
theorem dX2_live_78 : decode cX2_live 78 = .ok (.if_icmp .ge 78, 3) := by decide +kernel
theorem dX2_live_81 : decode cX2_live 81 = .ok (.aload_n 0, 1) := by decide +kernel
theorem dX2_live_82 : decode cX2_live 82 = .ok (.getfield 20, 3) := by decide +kernel
theorem dX2_live_85 : decode cX2_live 85 = .ok (.iload_n 1, 1) := by decide +kernel
theorem dX2_live_86 : decode cX2_live 86 = .ok (.iconst 1, 1) := by decide +kernel
theorem dX2_live_87 : decode cX2_live 87 = .ok (.iadd, 1) := by decide +kernel
theorem dX2_live_88 : decode cX2_live 88 = .ok (.aaload, 1) := by decide +kernel
theorem dX2_live_89 : decode cX2_live 89 = .ok (.aload_n 0, 1) := by decide +kernel
theorem dX2_live_90 : decode cX2_live 90 = .ok (.getfield 20, 3) := by decide +kernel
theorem dX2_live_93 : decode cX2_live 93 = .ok (.iload_n 1, 1) := by decide +kernel
theorem dX2_live_94 : decode cX2_live 94 = .ok (.aaload, 1) := by decide +kernel
theorem dX2_live_95 : decode cX2_live 95 = .ok (.invokevirtual 62, 3) := by decide +kernel
theorem dX2_live_98 : decode cX2_live 98 = .ok (.aload_n 0, 1) := by decide +kernel
theorem dX2_live_99 : decode cX2_live 99 = .ok (.dup, 1) := by decide +kernel
theorem dX2_live_100 : decode cX2_live 100 = .ok (.getfield 28, 3) := by decide +kernel
theorem dX2_live_103 : decode cX2_live 103 = .ok (.aload_n 0, 1) := by decide +kernel
theorem dX2_live_104 : decode cX2_live 104 = .ok (.aload_n 0, 1) := by decide +kernel
theorem dX2_live_105 : decode cX2_live 105 = .ok (.getfield 20, 3) := by decide +kernel
theorem dX2_live_108 : decode cX2_live 108 = .ok (.iload_n 1, 1) := by decide +kernel
theorem dX2_live_109 : decode cX2_live 109 = .ok (.iconst 1, 1) := by decide +kernel
theorem dX2_live_110 : decode cX2_live 110 = .ok (.iadd, 1) := by decide +kernel
theorem dX2_live_111 : decode cX2_live 111 = .ok (.aaload, 1) := by decide +kernel
theorem dX2_live_112 : decode cX2_live 112 = .ok (.iload_n 1, 1) := by decide +kernel
theorem dX2_live_113 : decode cX2_live 113 = .ok (.aload_n 0, 1) := by decide +kernel
theorem dX2_live_114 : decode cX2_live 114 = .ok (.getfield 12, 3) := by decide +kernel
theorem dX2_live_117 : decode cX2_live 117 = .ok (.invokevirtual 66, 3) := by decide +kernel
theorem dX2_live_120 : decode cX2_live 120 = .ok (.ior, 1) := by decide +kernel
theorem dX2_live_121 : decode cX2_live 121 = .ok (.putfield 28, 3) := by decide +kernel
theorem dX2_live_124 : decode cX2_live 124 = .ok (.aload_n 0, 1) := by decide +kernel
theorem dX2_live_125 : decode cX2_live 125 = .ok (.aload_n 0, 1) := by decide +kernel
theorem dX2_live_126 : decode cX2_live 126 = .ok (.getfield 20, 3) := by decide +kernel
theorem dX2_live_129 : decode cX2_live 129 = .ok (.iload_n 1, 1) := by decide +kernel
theorem dX2_live_130 : decode cX2_live 130 = .ok (.iconst 1, 1) := by decide +kernel
theorem dX2_live_131 : decode cX2_live 131 = .ok (.iadd, 1) := by decide +kernel
theorem dX2_live_132 : decode cX2_live 132 = .ok (.aaload, 1) := by decide +kernel
theorem dX2_live_133 : decode cX2_live 133 = .ok (.iload_n 1, 1) := by decide +kernel
theorem dX2_live_134 : decode cX2_live 134 = .ok (.invokevirtual 70, 3) := by decide +kernel
theorem dX2_live_137 : decode cX2_live 137 = .ok (.aload_n 0, 1) := by decide +kernel
theorem dX2_live_138 : decode cX2_live 138 = .ok (.aload_n 0, 1) := by decide +kernel
theorem dX2_live_139 : decode cX2_live 139 = .ok (.getfield 20, 3) := by decide +kernel
theorem dX2_live_142 : decode cX2_live 142 = .ok (.iload_n 1, 1) := by decide +kernel
theorem dX2_live_143 : decode cX2_live 143 = .ok (.iconst 1, 1) := by decide +kernel
theorem dX2_live_144 : decode cX2_live 144 = .ok (.iadd, 1) := by decide +kernel
theorem dX2_live_145 : decode cX2_live 145 = .ok (.aaload, 1) := by decide +kernel
theorem dX2_live_146 : decode cX2_live 146 = .ok (.iload_n 1, 1) := by decide +kernel
theorem dX2_live_147 : decode cX2_live 147 = .ok (.invokevirtual 74, 3) := by decide +kernel
theorem dX2_live_150 : decode cX2_live 150 = .ok (.iinc 1 1, 3) := by decide +kernel
theorem dX2_live_153 : decode cX2_live 153 = .ok (.goto (-78), 3) := by decide +kernel
theorem dX2_live_156 : decode cX2_live 156 = .ok (.return_, 1) := by decide +kernel
set_option maxRecDepth 4000 in
theorem s_X2_live_0 {w : GX} {d : Nat} {P : PN} {g : GI} 
    (h : Zm w (d + 1) mX0_asTold 0 [some (aR (some (28))), some (aR (some (18)))] [] g (fun r g1 => r = none ∧ (∀ g3 : GI, g3 = up2 g1 27 7 0 → (∀ g4 : GI, g4 = up2 g3 27 6 0 → Zm w (d + 2) mX2_live 23 [some (aR (some (27))), some (aI (0))] [] g4 P)))) :
    Zm w (d + 2) mX2_live 0 [some (aR (some (27))), none] [] g P := by
  refine z_aload_n dX2_live_0 rfl rfl ?_
  refine m_getR dX2_live_1 fl_X2_12 (by decide) kt_27 rv_27_4 ?_
  refine z_aload_n dX2_live_4 rfl rfl ?_
  refine m_getR dX2_live_5 fl_X2_31 (by decide) kt_27 rv_27_0 ?_
  refine m_callV (as := [aR (some (18))]) dX2_live_8 lk_X2_46 mok_X0_asTold in_X0_asTold sl_X0_asTold kt_28 rfl rfl rfl (Nat.le_of_ble_eq_true rfl) rfl (Nat.le_of_ble_eq_true rfl) rfl (m_mono (fun r g1 hr => ?_) h)
  obtain ⟨rfl, h⟩ := hr
  show Zm w (d + 2) mX2_live 11 [some (aR (some (27))), none] [] g1 P
  refine z_aload_n dX2_live_11 rfl rfl ?_
  refine z_iconst dX2_live_12 ?_
  replace h := h _ rfl
  refine z_putI dX2_live_13 fw_X2_28 (by decide) kt_27 ?_
  refine z_aload_n dX2_live_16 rfl rfl ?_
  refine z_iconst dX2_live_17 ?_
  replace h := h _ rfl
  refine z_putI dX2_live_18 fw_X2_24 (by decide) kt_27 ?_
  refine z_iconst dX2_live_21 ?_
  refine z_istore_n dX2_live_22 rfl (by decide) rfl ?_
  show Zm w (d + 2) mX2_live 23 [some (aR (some (27))), some (aI (0))] [] (up2 (up2 g1 27 7 0) 27 6 0) P
  exact z_weak (by simp [lle]) h
set_option maxRecDepth 4000 in
theorem s_X2_live_23 {w : GX} {d : Nat} {P : PN} {g : GI} (x1 : Int)
    (h : ((¬ nm x1 < nm (g 10 3) → Zm w (d + 1) mX8_begin 0 [some (aR (some (31))), some (aR (some (18))), none] [] g (fun r g2 => r = none ∧ Zm w (d + 2) mX2_live 75 [some (aR (some (27))), some (aI (0))] [] g2 P)) ∧ (nm x1 < nm (g 10 3) → (0 ≤ nm x1 ∧ nm x1 < 6 ∧ (∀ g8 : GI, g8 = up2 g 27 6 (iOr (g 27 6) (iShl 1 (g 11 (nm x1).toNat))) → Zm w (d + 2) mX2_live 23 [some (aR (some (27))), some (aI (x1 + 1))] [] g8 P))))) :
    Zm w (d + 2) mX2_live 23 [some (aR (some (27))), some (aI (x1))] [] g P := by
  refine z_iload_n dX2_live_23 rfl rfl ?_
  refine z_aload_n dX2_live_24 rfl rfl ?_
  refine m_getR dX2_live_25 fl_X2_42 (by decide) kt_27 rv_27_3 ?_
  refine z_getI dX2_live_28 fl_X2_50 (by decide) kt_10 ?_
  refine z_icmp_ge (tgt := 60) dX2_live_31 (by decide) (fun c1 => ?_) (fun c1 => ?_)
  · replace h := h.1 c1
    refine z_aload_n dX2_live_60 rfl rfl ?_
    refine m_getR dX2_live_61 fl_X2_20 (by decide) kt_27 rv_27_5 ?_
    refine z_iconst dX2_live_64 ?_
    refine m_aaldv (r := 31) dX2_live_65 kv_30 (by decide) (by decide) (by decide +kernel) ?_
    refine z_aload_n dX2_live_66 rfl rfl ?_
    refine m_getR dX2_live_67 fl_X2_31 (by decide) kt_27 rv_27_0 ?_
    refine m_callV (as := [aR (some (18))]) dX2_live_70 lk_X2_59 mok_X8_begin in_X8_begin sl_X8_begin kt_31 rfl rfl rfl (Nat.le_of_ble_eq_true rfl) rfl (Nat.le_of_ble_eq_true rfl) rfl (m_mono (fun r g2 hr => ?_) h)
    obtain ⟨rfl, h⟩ := hr
    show Zm w (d + 2) mX2_live 73 [some (aR (some (27))), some (aI (x1))] [] g2 P
    refine z_iconst dX2_live_73 ?_
    refine z_istore_n dX2_live_74 rfl (by decide) rfl ?_
    show Zm w (d + 2) mX2_live 75 [some (aR (some (27))), some (aI (0))] [] g2 P
    exact z_weak (by simp [lle]) h
  · replace h := h.2 (Decidable.not_not.mp c1)
    refine z_aload_n dX2_live_34 rfl rfl ?_
    refine z_dup dX2_live_35 rfl ?_
    refine z_getI dX2_live_36 fl_X2_24 (by decide) kt_27 ?_
    refine z_iconst dX2_live_39 ?_
    refine z_aload_n dX2_live_40 rfl rfl ?_
    refine m_getR dX2_live_41 fl_X2_42 (by decide) kt_27 rv_27_3 ?_
    refine m_getR dX2_live_44 fl_X2_55 (by decide) kt_10 rv_10_0 ?_
    refine z_iload_n dX2_live_47 rfl rfl ?_
    obtain ⟨q6, q7, h⟩ := h
    refine m_iald dX2_live_48 kv_11 q6 q7 ?_
    refine z_ishl dX2_live_49 ?_
    refine z_ior dX2_live_50 ?_
    replace h := h _ rfl
    refine z_putI dX2_live_51 fw_X2_24 (by decide) kt_27 ?_
    refine z_iinc dX2_live_54 rfl (by decide) rfl ?_
    show Zm w (d + 2) mX2_live 57 [some (aR (some (27))), some (aI (x1 + 1))] [] (up2 g 27 6 (iOr (g 27 6) (iShl 1 (g 11 (nm x1).toNat)))) P
    refine z_goto (tgt := 23) dX2_live_57 (by decide) ?_
    exact z_weak (by simp [lle]) h
set_option maxRecDepth 4000 in
theorem s_X2_live_75 {w : GX} {d : Nat} {P : PN} {g : GI} (x1 : Int)
    (h : ((¬ nm x1 < nm 20 → P none g) ∧ (nm x1 < nm 20 → (0 ≤ nm (x1 + 1) ∧ nm (x1 + 1) < 21 ∧ (0 ≤ nm x1 ∧ nm x1 < 21 ∧ Zm w (d + 1) mX8_become 0 [some (aR (some (31 + 5 * (nm (x1 + 1)).toNat))), some (aR (some (31 + 5 * (nm x1).toNat)))] [] g (fun r g8 => r = none ∧ (Zm w (d + 1) mX2_crossTold 0 [some (aR (some (27))), some (aR (some (31 + 5 * (nm (x1 + 1)).toNat))), some (aI (x1)), some (aR (some (28))), none, none, none] [] g8 (fun r g11 => ∃ z12 : Int, r = some (aI z12) ∧ (∀ g13 : GI, g13 = up2 g11 27 7 (iOr (g8 27 7) z12) → (Zm w (d + 1) mX2_catchTold 0 [some (aR (some (27))), some (aR (some (31 + 5 * (nm (x1 + 1)).toNat))), some (aI (x1)), none] [] g13 (fun r g15 => r = none ∧ (Zm w (d + 1) mX2_driftTold 0 [some (aR (some (27))), some (aR (some (31 + 5 * (nm (x1 + 1)).toNat))), some (aI (x1))] [] g15 (fun r g18 => r = none ∧ Zm w (d + 2) mX2_live 75 [some (aR (some (27))), some (aI (x1 + 1))] [] g18 P))))))))))))) :
    Zm w (d + 2) mX2_live 75 [some (aR (some (27))), some (aI (x1))] [] g P := by
  refine z_iload_n dX2_live_75 rfl rfl ?_
  refine z_bipush dX2_live_76 rfl ?_
  refine z_icmp_ge (tgt := 156) dX2_live_78 (by decide) (fun c1 => ?_) (fun c1 => ?_)
  · replace h := h.1 c1
    exact m_vret dX2_live_156 rfl h
  · replace h := h.2 (Decidable.not_not.mp c1)
    refine z_aload_n dX2_live_81 rfl rfl ?_
    refine m_getR dX2_live_82 fl_X2_20 (by decide) kt_27 rv_27_5 ?_
    refine z_iload_n dX2_live_85 rfl rfl ?_
    refine z_iconst dX2_live_86 ?_
    refine z_iadd dX2_live_87 ?_
    obtain ⟨q2, q3, h⟩ := h
    have t4 : (nm (x1 + 1)).toNat < 21 := by omega
    refine m_aaldv dX2_live_88 kv_30 q2 q3 (w_ahead _ t4) ?_
    refine z_aload_n dX2_live_89 rfl rfl ?_
    refine m_getR dX2_live_90 fl_X2_20 (by decide) kt_27 rv_27_5 ?_
    refine z_iload_n dX2_live_93 rfl rfl ?_
    obtain ⟨q5, q6, h⟩ := h
    have t7 : (nm x1).toNat < 21 := by omega
    refine m_aaldv dX2_live_94 kv_30 q5 q6 (w_ahead _ t7) ?_
    refine m_callV (as := [aR (some (31 + 5 * (nm x1).toNat))]) dX2_live_95 lk_X2_62 mok_X8_become in_X8_become sl_X8_become (congrArg Prod.fst (isW_ahead _ t4).1) rfl rfl rfl (Nat.le_of_ble_eq_true rfl) rfl (Nat.le_of_ble_eq_true rfl) rfl (m_mono (fun r g8 hr => ?_) h)
    obtain ⟨rfl, h⟩ := hr
    show Zm w (d + 2) mX2_live 98 [some (aR (some (27))), some (aI (x1))] [] g8 P
    refine z_aload_n dX2_live_98 rfl rfl ?_
    refine z_dup dX2_live_99 rfl ?_
    refine z_getI dX2_live_100 fl_X2_28 (by decide) kt_27 ?_
    refine z_aload_n dX2_live_103 rfl rfl ?_
    refine z_aload_n dX2_live_104 rfl rfl ?_
    refine m_getR dX2_live_105 fl_X2_20 (by decide) kt_27 rv_27_5 ?_
    refine z_iload_n dX2_live_108 rfl rfl ?_
    refine z_iconst dX2_live_109 ?_
    refine z_iadd dX2_live_110 ?_
    have t10 : (nm (x1 + 1)).toNat < 21 := by omega
    refine m_aaldv dX2_live_111 kv_30 q2 q3 (w_ahead _ t10) ?_
    refine z_iload_n dX2_live_112 rfl rfl ?_
    refine z_aload_n dX2_live_113 rfl rfl ?_
    refine m_getR dX2_live_114 fl_X2_12 (by decide) kt_27 rv_27_4 ?_
    refine m_callV (as := [aR (some (31 + 5 * (nm (x1 + 1)).toNat)), aI (x1), aR (some (28))]) dX2_live_117 lk_X2_66 mok_X2_crossTold in_X2_crossTold sl_X2_crossTold kt_27 rfl rfl rfl (Nat.le_of_ble_eq_true rfl) rfl (Nat.le_of_ble_eq_true rfl) rfl (m_mono (fun r g11 hr => ?_) h)
    obtain ⟨z12, rfl, h⟩ := hr
    show Zm w (d + 2) mX2_live 120 [some (aR (some (27))), some (aI (x1))] [aI (z12), aI (g8 27 7), aR (some (27))] g11 P
    refine z_ior dX2_live_120 ?_
    replace h := h _ rfl
    refine z_putI dX2_live_121 fw_X2_28 (by decide) kt_27 ?_
    refine z_aload_n dX2_live_124 rfl rfl ?_
    refine z_aload_n dX2_live_125 rfl rfl ?_
    refine m_getR dX2_live_126 fl_X2_20 (by decide) kt_27 rv_27_5 ?_
    refine z_iload_n dX2_live_129 rfl rfl ?_
    refine z_iconst dX2_live_130 ?_
    refine z_iadd dX2_live_131 ?_
    have t14 : (nm (x1 + 1)).toNat < 21 := by omega
    refine m_aaldv dX2_live_132 kv_30 q2 q3 (w_ahead _ t14) ?_
    refine z_iload_n dX2_live_133 rfl rfl ?_
    refine m_callV (as := [aR (some (31 + 5 * (nm (x1 + 1)).toNat)), aI (x1)]) dX2_live_134 lk_X2_70 mok_X2_catchTold in_X2_catchTold sl_X2_catchTold kt_27 rfl rfl rfl (Nat.le_of_ble_eq_true rfl) rfl (Nat.le_of_ble_eq_true rfl) rfl (m_mono (fun r g15 hr => ?_) h)
    obtain ⟨rfl, h⟩ := hr
    show Zm w (d + 2) mX2_live 137 [some (aR (some (27))), some (aI (x1))] [] g15 P
    refine z_aload_n dX2_live_137 rfl rfl ?_
    refine z_aload_n dX2_live_138 rfl rfl ?_
    refine m_getR dX2_live_139 fl_X2_20 (by decide) kt_27 rv_27_5 ?_
    refine z_iload_n dX2_live_142 rfl rfl ?_
    refine z_iconst dX2_live_143 ?_
    refine z_iadd dX2_live_144 ?_
    have t17 : (nm (x1 + 1)).toNat < 21 := by omega
    refine m_aaldv dX2_live_145 kv_30 q2 q3 (w_ahead _ t17) ?_
    refine z_iload_n dX2_live_146 rfl rfl ?_
    refine m_callV (as := [aR (some (31 + 5 * (nm (x1 + 1)).toNat)), aI (x1)]) dX2_live_147 lk_X2_74 mok_X2_driftTold in_X2_driftTold sl_X2_driftTold kt_27 rfl rfl rfl (Nat.le_of_ble_eq_true rfl) rfl (Nat.le_of_ble_eq_true rfl) rfl (m_mono (fun r g18 hr => ?_) h)
    obtain ⟨rfl, h⟩ := hr
    show Zm w (d + 2) mX2_live 150 [some (aR (some (27))), some (aI (x1))] [] g18 P
    refine z_iinc dX2_live_150 rfl (by decide) rfl ?_
    show Zm w (d + 2) mX2_live 153 [some (aR (some (27))), some (aI (x1 + 1))] [] g18 P
    refine z_goto (tgt := 75) dX2_live_153 (by decide) ?_
    exact z_weak (by simp [lle]) h
theorem dX2_crossTold_0 : decode cX2_crossTold 0 = .ok (.iconst 0, 1) := by decide +kernel
theorem dX2_crossTold_1 : decode cX2_crossTold 1 = .ok (.istore 4, 2) := by decide +kernel
theorem dX2_crossTold_3 : decode cX2_crossTold 3 = .ok (.iconst 0, 1) := by decide +kernel
theorem dX2_crossTold_4 : decode cX2_crossTold 4 = .ok (.istore 5, 2) := by decide +kernel
theorem dX2_crossTold_6 : decode cX2_crossTold 6 = .ok (.iload 5, 2) := by decide +kernel
theorem dX2_crossTold_8 : decode cX2_crossTold 8 = .ok (.aload_n 0, 1) := by decide +kernel
theorem dX2_crossTold_9 : decode cX2_crossTold 9 = .ok (.getfield 35, 3) := by decide +kernel
theorem dX2_crossTold_12 : decode cX2_crossTold 12 = .ok (.getfield 50, 3) := by decide +kernel
theorem dX2_crossTold_15 : decode cX2_crossTold 15 = .ok (.if_icmp .ge 81, 3) := by decide +kernel
theorem dX2_crossTold_18 : decode cX2_crossTold 18 = .ok (.aload_n 0, 1) := by decide +kernel
theorem dX2_crossTold_19 : decode cX2_crossTold 19 = .ok (.getfield 35, 3) := by decide +kernel
theorem dX2_crossTold_22 : decode cX2_crossTold 22 = .ok (.getfield 77, 3) := by decide +kernel
theorem dX2_crossTold_25 : decode cX2_crossTold 25 = .ok (.iload 5, 2) := by decide +kernel
theorem dX2_crossTold_27 : decode cX2_crossTold 27 = .ok (.iaload, 1) := by decide +kernel
theorem dX2_crossTold_28 : decode cX2_crossTold 28 = .ok (.istore 6, 2) := by decide +kernel
theorem dX2_crossTold_30 : decode cX2_crossTold 30 = .ok (.aload_n 0, 1) := by decide +kernel
theorem dX2_crossTold_31 : decode cX2_crossTold 31 = .ok (.getfield 35, 3) := by decide +kernel
theorem dX2_crossTold_34 : decode cX2_crossTold 34 = .ok (.getfield 55, 3) := by decide +kernel
theorem dX2_crossTold_37 : decode cX2_crossTold 37 = .ok (.iload 5, 2) := by decide +kernel
theorem dX2_crossTold_39 : decode cX2_crossTold 39 = .ok (.iaload, 1) := by decide +kernel
theorem dX2_crossTold_40 : decode cX2_crossTold 40 = .ok (.iload_n 2, 1) := by decide +kernel
theorem dX2_crossTold_41 : decode cX2_crossTold 41 = .ok (.if_icmp .ne 49, 3) := by decide +kernel
theorem dX2_crossTold_44 : decode cX2_crossTold 44 = .ok (.iload 5, 2) := by decide +kernel
theorem dX2_crossTold_46 : decode cX2_crossTold 46 = .ok (.aload_n 3, 1) := by decide +kernel
theorem dX2_crossTold_47 : decode cX2_crossTold 47 = .ok (.getfield 80, 3) := by decide +kernel
theorem dX2_crossTold_50 : decode cX2_crossTold 50 = .ok (.if_icmp .eq 40, 3) := by decide +kernel
theorem dX2_crossTold_53 : decode cX2_crossTold 53 = .ok (.iload 6, 2) := by decide +kernel
theorem dX2_crossTold_55 : decode cX2_crossTold 55 = .ok (.aload_n 0, 1) := by decide +kernel
theorem dX2_crossTold_56 : decode cX2_crossTold 56 = .ok (.getfield 31, 3) := by decide +kernel
theorem dX2_crossTold_59 : decode cX2_crossTold 59 = .ok (.getfield 83, 3) := by decide +kernel
theorem dX2_crossTold_62 : decode cX2_crossTold 62 = .ok (.if_icmp .ge 28, 3) := by decide +kernel
theorem dX2_crossTold_65 : decode cX2_crossTold 65 = .ok (.aload_n 1, 1) := by decide +kernel
theorem dX2_crossTold_66 : decode cX2_crossTold 66 = .ok (.iload 6, 2) := by decide +kernel
theorem dX2_crossTold_68 : decode cX2_crossTold 68 = .ok (.aload_n 3, 1) := by decide +kernel
theorem dX2_crossTold_69 : decode cX2_crossTold 69 = .ok (.getfield 88, 3) := by decide +kernel
theorem dX2_crossTold_72 : decode cX2_crossTold 72 = .ok (.iload 6, 2) := by decide +kernel
theorem dX2_crossTold_74 : decode cX2_crossTold 74 = .ok (.iaload, 1) := by decide +kernel
theorem dX2_crossTold_75 : decode cX2_crossTold 75 = .ok (.invokevirtual 91, 3) := by decide +kernel
theorem dX2_crossTold_78 : decode cX2_crossTold 78 = .ok (.ifCond .eq 12, 3) := by decide +kernel
theorem dX2_crossTold_81 : decode cX2_crossTold 81 = .ok (.iload 4, 2) := by decide +kernel
theorem dX2_crossTold_83 : decode cX2_crossTold 83 = .ok (.iconst 1, 1) := by decide +kernel
theorem dX2_crossTold_84 : decode cX2_crossTold 84 = .ok (.iload 5, 2) := by decide +kernel
theorem dX2_crossTold_86 : decode cX2_crossTold 86 = .ok (.ishl, 1) := by decide +kernel
theorem dX2_crossTold_87 : decode cX2_crossTold 87 = .ok (.ior, 1) := by decide +kernel
theorem dX2_crossTold_88 : decode cX2_crossTold 88 = .ok (.istore 4, 2) := by decide +kernel
theorem dX2_crossTold_90 : decode cX2_crossTold 90 = .ok (.iinc 5 1, 3) := by decide +kernel
theorem dX2_crossTold_93 : decode cX2_crossTold 93 = .ok (.goto (-87), 3) := by decide +kernel
theorem dX2_crossTold_96 : decode cX2_crossTold 96 = .ok (.iload 4, 2) := by decide +kernel
theorem dX2_crossTold_98 : decode cX2_crossTold 98 = .ok (.ireturn, 1) := by decide +kernel
set_option maxRecDepth 4000 in
theorem s_X2_crossTold_0 {w : GX} {d : Nat} {P : PN} {g : GI} {x1 : Nat} (hx1 : isW x1) (x2 : Int) {x3 : Nat} (hx3 : isC x3)
    (h : Zm w (d + 1) mX2_crossTold 6 [some (aR (some (27))), some (aR (some (x1))), some (aI (x2)), some (aR (some (x3))), some (aI (0)), some (aI (0)), none] [] g P) :
    Zm w (d + 1) mX2_crossTold 0 [some (aR (some (27))), some (aR (some (x1))), some (aI (x2)), some (aR (some (x3))), none, none, none] [] g P := by
  refine z_iconst dX2_crossTold_0 ?_
  refine z_istore dX2_crossTold_1 (by decide) rfl ?_
  show Zm w (d + 1) mX2_crossTold 3 [some (aR (some (27))), some (aR (some (x1))), some (aI (x2)), some (aR (some (x3))), some (aI (0)), none, none] [] g P
  refine z_iconst dX2_crossTold_3 ?_
  refine z_istore dX2_crossTold_4 (by decide) rfl ?_
  show Zm w (d + 1) mX2_crossTold 6 [some (aR (some (27))), some (aR (some (x1))), some (aI (x2)), some (aR (some (x3))), some (aI (0)), some (aI (0)), none] [] g P
  exact z_weak (by simp [lle]) h
set_option maxRecDepth 4000 in
theorem s_X2_crossTold_6 {w : GX} {d : Nat} {P : PN} {g : GI} {x1 : Nat} (hx1 : isW x1) (x2 : Int) {x3 : Nat} (hx3 : isC x3) (x4 : Int) (x5 : Int)
    (h : ((¬ nm x5 < nm (g 2 3) → P (some (aI (x4))) g) ∧ (nm x5 < nm (g 2 3) → (0 ≤ nm x5 ∧ nm x5 < 16 ∧ (∀ v6 : Int, v6 = g 4 (nm x5).toNat → (((¬ nm (g 3 (nm x5).toNat) = nm x2 → Zm w (d + 1) mX2_crossTold 6 [some (aR (some (27))), some (aR (some (x1))), some (aI (x2)), some (aR (some (x3))), some (aI (x4)), some (aI (x5 + 1)), none] [] g P) ∧ (nm (g 3 (nm x5).toNat) = nm x2 → ((nm x5 = nm (g x3 1) → Zm w (d + 1) mX2_crossTold 6 [some (aR (some (27))), some (aR (some (x1))), some (aI (x2)), some (aR (some (x3))), some (aI (x4)), some (aI (x5 + 1)), none] [] g P) ∧ (¬ nm x5 = nm (g x3 1) → ((¬ nm v6 < nm (g 18 10) → Zm w (d + 1) mX2_crossTold 6 [some (aR (some (27))), some (aR (some (x1))), some (aI (x2)), some (aR (some (x3))), some (aI (x4)), some (aI (x5 + 1)), none] [] g P) ∧ (nm v6 < nm (g 18 10) → (0 ≤ nm v6 ∧ nm v6 < 8 ∧ Zm w d mX8_exchange 0 [some (aR (some (x1))), some (aI (v6)), some (aI (g (x3 + 1) (nm v6).toNat)), none, none, none, none, none, none] [] g (fun r g16 => ∃ z17 : Int, r = some (aI z17) ∧ ((nm z17 = 0 → Zm w (d + 1) mX2_crossTold 6 [some (aR (some (27))), some (aR (some (x1))), some (aI (x2)), some (aR (some (x3))), some (aI (x4)), some (aI (x5 + 1)), none] [] g16 P) ∧ (¬ nm z17 = 0 → (∀ v19 : Int, v19 = iOr x4 (iShl 1 x5) → Zm w (d + 1) mX2_crossTold 6 [some (aR (some (27))), some (aR (some (x1))), some (aI (x2)), some (aR (some (x3))), some (aI (v19)), some (aI (x5 + 1)), none] [] g16 P))))))))))))))))) :
    Zm w (d + 1) mX2_crossTold 6 [some (aR (some (27))), some (aR (some (x1))), some (aI (x2)), some (aR (some (x3))), some (aI (x4)), some (aI (x5)), none] [] g P := by
  refine z_iload dX2_crossTold_6 rfl ?_
  refine z_aload_n dX2_crossTold_8 rfl rfl ?_
  refine m_getR dX2_crossTold_9 fl_X2_35 (by decide) kt_27 rv_27_1 ?_
  refine z_getI dX2_crossTold_12 fl_X2_50 (by decide) kt_2 ?_
  refine z_icmp_ge (tgt := 96) dX2_crossTold_15 (by decide) (fun c1 => ?_) (fun c1 => ?_)
  · replace h := h.1 c1
    refine z_iload dX2_crossTold_96 rfl ?_
    exact m_iret dX2_crossTold_98 rfl h
  · replace h := h.2 (Decidable.not_not.mp c1)
    refine z_aload_n dX2_crossTold_18 rfl rfl ?_
    refine m_getR dX2_crossTold_19 fl_X2_35 (by decide) kt_27 rv_27_1 ?_
    refine m_getR dX2_crossTold_22 fl_X2_77 (by decide) kt_2 rv_2_1 ?_
    refine z_iload dX2_crossTold_25 rfl ?_
    obtain ⟨q4, q5, h⟩ := h
    refine m_iald dX2_crossTold_27 kv_4 q4 q5 ?_
    replace h := h _ rfl
    refine z_istore dX2_crossTold_28 (by decide) rfl ?_
    show Zm w (d + 1) mX2_crossTold 30 [some (aR (some (27))), some (aR (some (x1))), some (aI (x2)), some (aR (some (x3))), some (aI (x4)), some (aI (x5)), some (aI (g 4 (nm x5).toNat))] [] g P
    refine z_aload_n dX2_crossTold_30 rfl rfl ?_
    refine m_getR dX2_crossTold_31 fl_X2_35 (by decide) kt_27 rv_27_1 ?_
    refine m_getR dX2_crossTold_34 fl_X2_55 (by decide) kt_2 rv_2_0 ?_
    refine z_iload dX2_crossTold_37 rfl ?_
    refine m_iald dX2_crossTold_39 kv_3 q4 q5 ?_
    refine z_iload_n dX2_crossTold_40 rfl rfl ?_
    refine z_icmp_ne (tgt := 90) dX2_crossTold_41 (by decide) (fun c9 => ?_) (fun c9 => ?_)
    · replace h := h.1 c9
      refine z_iinc dX2_crossTold_90 rfl (by decide) rfl ?_
      show Zm w (d + 1) mX2_crossTold 93 [some (aR (some (27))), some (aR (some (x1))), some (aI (x2)), some (aR (some (x3))), some (aI (x4)), some (aI (x5 + 1)), some (aI ((g 4 (nm x5).toNat)))] [] g P
      refine z_goto (tgt := 6) dX2_crossTold_93 (by decide) ?_
      exact z_weak (by simp [lle]) h
    · replace h := h.2 (Decidable.not_not.mp c9)
      refine z_iload dX2_crossTold_44 rfl ?_
      refine z_aload_n dX2_crossTold_46 rfl rfl ?_
      refine z_getI dX2_crossTold_47 fl_X2_80 (by decide) (congrArg Prod.fst hx3.1) ?_
      refine z_icmp_eq (tgt := 90) dX2_crossTold_50 (by decide) (fun c10 => ?_) (fun c10 => ?_)
      · replace h := h.1 c10
        refine z_iinc dX2_crossTold_90 rfl (by decide) rfl ?_
        show Zm w (d + 1) mX2_crossTold 93 [some (aR (some (27))), some (aR (some (x1))), some (aI (x2)), some (aR (some (x3))), some (aI (x4)), some (aI (x5 + 1)), some (aI ((g 4 (nm x5).toNat)))] [] g P
        refine z_goto (tgt := 6) dX2_crossTold_93 (by decide) ?_
        exact z_weak (by simp [lle]) h
      · replace h := h.2 c10
        refine z_iload dX2_crossTold_53 rfl ?_
        refine z_aload_n dX2_crossTold_55 rfl rfl ?_
        refine m_getR dX2_crossTold_56 fl_X2_31 (by decide) kt_27 rv_27_0 ?_
        refine z_getI dX2_crossTold_59 fl_X2_83 (by decide) kt_18 ?_
        refine z_icmp_ge (tgt := 90) dX2_crossTold_62 (by decide) (fun c11 => ?_) (fun c11 => ?_)
        · replace h := h.1 c11
          refine z_iinc dX2_crossTold_90 rfl (by decide) rfl ?_
          show Zm w (d + 1) mX2_crossTold 93 [some (aR (some (27))), some (aR (some (x1))), some (aI (x2)), some (aR (some (x3))), some (aI (x4)), some (aI (x5 + 1)), some (aI ((g 4 (nm x5).toNat)))] [] g P
          refine z_goto (tgt := 6) dX2_crossTold_93 (by decide) ?_
          exact z_weak (by simp [lle]) h
        · replace h := h.2 (Decidable.not_not.mp c11)
          refine z_aload_n dX2_crossTold_65 rfl rfl ?_
          refine z_iload dX2_crossTold_66 rfl ?_
          refine z_aload_n dX2_crossTold_68 rfl rfl ?_
          refine m_getR dX2_crossTold_69 fl_X2_88 (by decide) (congrArg Prod.fst hx3.1) hx3.2.1 ?_
          refine z_iload dX2_crossTold_72 rfl ?_
          obtain ⟨q14, q15, h⟩ := h
          refine m_iald dX2_crossTold_74 hx3.2.2 q14 q15 ?_
          refine m_callV (as := [aI ((g 4 (nm x5).toNat)), aI (g (x3 + 1) (nm (g 4 (nm x5).toNat)).toNat)]) dX2_crossTold_75 lk_X2_91 mok_X8_exchange in_X8_exchange sl_X8_exchange (congrArg Prod.fst hx1.1) rfl rfl rfl (Nat.le_of_ble_eq_true rfl) rfl (Nat.le_of_ble_eq_true rfl) rfl (m_mono (fun r g16 hr => ?_) h)
          obtain ⟨z17, rfl, h⟩ := hr
          show Zm w (d + 1) mX2_crossTold 78 [some (aR (some (27))), some (aR (some (x1))), some (aI (x2)), some (aR (some (x3))), some (aI (x4)), some (aI (x5)), some (aI ((g 4 (nm x5).toNat)))] [aI (z17)] g16 P
          refine z_if_eq (tgt := 90) dX2_crossTold_78 (by decide) (fun c18 => ?_) (fun c18 => ?_)
          · replace h := h.1 c18
            refine z_iinc dX2_crossTold_90 rfl (by decide) rfl ?_
            show Zm w (d + 1) mX2_crossTold 93 [some (aR (some (27))), some (aR (some (x1))), some (aI (x2)), some (aR (some (x3))), some (aI (x4)), some (aI (x5 + 1)), some (aI ((g 4 (nm x5).toNat)))] [] g16 P
            refine z_goto (tgt := 6) dX2_crossTold_93 (by decide) ?_
            exact z_weak (by simp [lle]) h
          · replace h := h.2 c18
            refine z_iload dX2_crossTold_81 rfl ?_
            refine z_iconst dX2_crossTold_83 ?_
            refine z_iload dX2_crossTold_84 rfl ?_
            refine z_ishl dX2_crossTold_86 ?_
            refine z_ior dX2_crossTold_87 ?_
            replace h := h _ rfl
            refine z_istore dX2_crossTold_88 (by decide) rfl ?_
            show Zm w (d + 1) mX2_crossTold 90 [some (aR (some (27))), some (aR (some (x1))), some (aI (x2)), some (aR (some (x3))), some (aI (iOr x4 (iShl 1 x5))), some (aI (x5)), some (aI ((g 4 (nm x5).toNat)))] [] g16 P
            refine z_iinc dX2_crossTold_90 rfl (by decide) rfl ?_
            show Zm w (d + 1) mX2_crossTold 93 [some (aR (some (27))), some (aR (some (x1))), some (aI (x2)), some (aR (some (x3))), some (aI ((iOr x4 (iShl 1 x5)))), some (aI (x5 + 1)), some (aI ((g 4 (nm x5).toNat)))] [] g16 P
            refine z_goto (tgt := 6) dX2_crossTold_93 (by decide) ?_
            exact z_weak (by simp [lle]) h
theorem dX2_catchTold_0 : decode cX2_catchTold 0 = .ok (.iconst 0, 1) := by decide +kernel
theorem dX2_catchTold_1 : decode cX2_catchTold 1 = .ok (.istore_n 3, 1) := by decide +kernel
theorem dX2_catchTold_2 : decode cX2_catchTold 2 = .ok (.iload_n 3, 1) := by decide +kernel
theorem dX2_catchTold_3 : decode cX2_catchTold 3 = .ok (.aload_n 0, 1) := by decide +kernel
theorem dX2_catchTold_4 : decode cX2_catchTold 4 = .ok (.getfield 39, 3) := by decide +kernel
theorem dX2_catchTold_7 : decode cX2_catchTold 7 = .ok (.getfield 50, 3) := by decide +kernel
theorem dX2_catchTold_10 : decode cX2_catchTold 10 = .ok (.if_icmp .ge 35, 3) := by decide +kernel
theorem dX2_catchTold_13 : decode cX2_catchTold 13 = .ok (.aload_n 0, 1) := by decide +kernel
theorem dX2_catchTold_14 : decode cX2_catchTold 14 = .ok (.getfield 39, 3) := by decide +kernel
theorem dX2_catchTold_17 : decode cX2_catchTold 17 = .ok (.getfield 55, 3) := by decide +kernel
theorem dX2_catchTold_20 : decode cX2_catchTold 20 = .ok (.iload_n 3, 1) := by decide +kernel
theorem dX2_catchTold_21 : decode cX2_catchTold 21 = .ok (.iaload, 1) := by decide +kernel
theorem dX2_catchTold_22 : decode cX2_catchTold 22 = .ok (.iload_n 2, 1) := by decide +kernel
theorem dX2_catchTold_23 : decode cX2_catchTold 23 = .ok (.if_icmp .ne 16, 3) := by decide +kernel
theorem dX2_catchTold_26 : decode cX2_catchTold 26 = .ok (.aload_n 1, 1) := by decide +kernel
theorem dX2_catchTold_27 : decode cX2_catchTold 27 = .ok (.aload_n 0, 1) := by decide +kernel
theorem dX2_catchTold_28 : decode cX2_catchTold 28 = .ok (.getfield 39, 3) := by decide +kernel
theorem dX2_catchTold_31 : decode cX2_catchTold 31 = .ok (.getfield 77, 3) := by decide +kernel
theorem dX2_catchTold_34 : decode cX2_catchTold 34 = .ok (.iload_n 3, 1) := by decide +kernel
theorem dX2_catchTold_35 : decode cX2_catchTold 35 = .ok (.iaload, 1) := by decide +kernel
theorem dX2_catchTold_36 : decode cX2_catchTold 36 = .ok (.invokevirtual 95, 3) := by decide +kernel
theorem dX2_catchTold_39 : decode cX2_catchTold 39 = .ok (.iinc 3 1, 3) := by decide +kernel
theorem dX2_catchTold_42 : decode cX2_catchTold 42 = .ok (.goto (-40), 3) := by decide +kernel
theorem dX2_catchTold_45 : decode cX2_catchTold 45 = .ok (.return_, 1) := by decide +kernel
set_option maxRecDepth 4000 in
theorem s_X2_catchTold_0 {w : GX} {d : Nat} {P : PN} {g : GI} {x1 : Nat} (hx1 : isW x1) (x2 : Int)
    (h : Zm w (d + 1) mX2_catchTold 2 [some (aR (some (27))), some (aR (some (x1))), some (aI (x2)), some (aI (0))] [] g P) :
    Zm w (d + 1) mX2_catchTold 0 [some (aR (some (27))), some (aR (some (x1))), some (aI (x2)), none] [] g P := by
  refine z_iconst dX2_catchTold_0 ?_
  refine z_istore_n dX2_catchTold_1 rfl (by decide) rfl ?_
  show Zm w (d + 1) mX2_catchTold 2 [some (aR (some (27))), some (aR (some (x1))), some (aI (x2)), some (aI (0))] [] g P
  exact z_weak (by simp [lle]) h
set_option maxRecDepth 4000 in
theorem s_X2_catchTold_2 {w : GX} {d : Nat} {P : PN} {g : GI} {x1 : Nat} (hx1 : isW x1) (x2 : Int) (x3 : Int)
    (h : ((¬ nm x3 < nm (g 6 3) → P none g) ∧ (nm x3 < nm (g 6 3) → (0 ≤ nm x3 ∧ nm x3 < 8 ∧ ((¬ nm (g 7 (nm x3).toNat) = nm x2 → Zm w (d + 1) mX2_catchTold 2 [some (aR (some (27))), some (aR (some (x1))), some (aI (x2)), some (aI (x3 + 1))] [] g P) ∧ (nm (g 7 (nm x3).toNat) = nm x2 → (Zm w d mX8_sell 0 [some (aR (some (x1))), some (aI (g 8 (nm x3).toNat)), none, none] [] g (fun r g9 => r = none ∧ Zm w (d + 1) mX2_catchTold 2 [some (aR (some (27))), some (aR (some (x1))), some (aI (x2)), some (aI (x3 + 1))] [] g9 P)))))))) :
    Zm w (d + 1) mX2_catchTold 2 [some (aR (some (27))), some (aR (some (x1))), some (aI (x2)), some (aI (x3))] [] g P := by
  refine z_iload_n dX2_catchTold_2 rfl rfl ?_
  refine z_aload_n dX2_catchTold_3 rfl rfl ?_
  refine m_getR dX2_catchTold_4 fl_X2_39 (by decide) kt_27 rv_27_2 ?_
  refine z_getI dX2_catchTold_7 fl_X2_50 (by decide) kt_6 ?_
  refine z_icmp_ge (tgt := 45) dX2_catchTold_10 (by decide) (fun c1 => ?_) (fun c1 => ?_)
  · replace h := h.1 c1
    exact m_vret dX2_catchTold_45 rfl h
  · replace h := h.2 (Decidable.not_not.mp c1)
    refine z_aload_n dX2_catchTold_13 rfl rfl ?_
    refine m_getR dX2_catchTold_14 fl_X2_39 (by decide) kt_27 rv_27_2 ?_
    refine m_getR dX2_catchTold_17 fl_X2_55 (by decide) kt_6 rv_6_0 ?_
    refine z_iload_n dX2_catchTold_20 rfl rfl ?_
    obtain ⟨q4, q5, h⟩ := h
    refine m_iald dX2_catchTold_21 kv_7 q4 q5 ?_
    refine z_iload_n dX2_catchTold_22 rfl rfl ?_
    refine z_icmp_ne (tgt := 39) dX2_catchTold_23 (by decide) (fun c6 => ?_) (fun c6 => ?_)
    · replace h := h.1 c6
      refine z_iinc dX2_catchTold_39 rfl (by decide) rfl ?_
      show Zm w (d + 1) mX2_catchTold 42 [some (aR (some (27))), some (aR (some (x1))), some (aI (x2)), some (aI (x3 + 1))] [] g P
      refine z_goto (tgt := 2) dX2_catchTold_42 (by decide) ?_
      exact z_weak (by simp [lle]) h
    · replace h := h.2 (Decidable.not_not.mp c6)
      refine z_aload_n dX2_catchTold_26 rfl rfl ?_
      refine z_aload_n dX2_catchTold_27 rfl rfl ?_
      refine m_getR dX2_catchTold_28 fl_X2_39 (by decide) kt_27 rv_27_2 ?_
      refine m_getR dX2_catchTold_31 fl_X2_77 (by decide) kt_6 rv_6_1 ?_
      refine z_iload_n dX2_catchTold_34 rfl rfl ?_
      refine m_iald dX2_catchTold_35 kv_8 q4 q5 ?_
      refine m_callV (as := [aI (g 8 (nm x3).toNat)]) dX2_catchTold_36 lk_X2_95 mok_X8_sell in_X8_sell sl_X8_sell (congrArg Prod.fst hx1.1) rfl rfl rfl (Nat.le_of_ble_eq_true rfl) rfl (Nat.le_of_ble_eq_true rfl) rfl (m_mono (fun r g9 hr => ?_) h)
      obtain ⟨rfl, h⟩ := hr
      show Zm w (d + 1) mX2_catchTold 39 [some (aR (some (27))), some (aR (some (x1))), some (aI (x2)), some (aI (x3))] [] g9 P
      refine z_iinc dX2_catchTold_39 rfl (by decide) rfl ?_
      show Zm w (d + 1) mX2_catchTold 42 [some (aR (some (27))), some (aR (some (x1))), some (aI (x2)), some (aI (x3 + 1))] [] g9 P
      refine z_goto (tgt := 2) dX2_catchTold_42 (by decide) ?_
      exact z_weak (by simp [lle]) h
theorem dX2_driftTold_0 : decode cX2_driftTold 0 = .ok (.aload_n 1, 1) := by decide +kernel
theorem dX2_driftTold_1 : decode cX2_driftTold 1 = .ok (.aload_n 0, 1) := by decide +kernel
theorem dX2_driftTold_2 : decode cX2_driftTold 2 = .ok (.getfield 31, 3) := by decide +kernel
theorem dX2_driftTold_5 : decode cX2_driftTold 5 = .ok (.iload_n 2, 1) := by decide +kernel
theorem dX2_driftTold_6 : decode cX2_driftTold 6 = .ok (.invokevirtual 99, 3) := by decide +kernel
theorem dX2_driftTold_9 : decode cX2_driftTold 9 = .ok (.aload_n 0, 1) := by decide +kernel
theorem dX2_driftTold_10 : decode cX2_driftTold 10 = .ok (.getfield 24, 3) := by decide +kernel
theorem dX2_driftTold_13 : decode cX2_driftTold 13 = .ok (.iload_n 2, 1) := by decide +kernel
theorem dX2_driftTold_14 : decode cX2_driftTold 14 = .ok (.ishr, 1) := by decide +kernel
theorem dX2_driftTold_15 : decode cX2_driftTold 15 = .ok (.iconst 1, 1) := by decide +kernel
theorem dX2_driftTold_16 : decode cX2_driftTold 16 = .ok (.iand, 1) := by decide +kernel
theorem dX2_driftTold_17 : decode cX2_driftTold 17 = .ok (.ifCond .eq 12, 3) := by decide +kernel
theorem dX2_driftTold_20 : decode cX2_driftTold 20 = .ok (.aload_n 1, 1) := by decide +kernel
theorem dX2_driftTold_21 : decode cX2_driftTold 21 = .ok (.aload_n 0, 1) := by decide +kernel
theorem dX2_driftTold_22 : decode cX2_driftTold 22 = .ok (.getfield 31, 3) := by decide +kernel
theorem dX2_driftTold_25 : decode cX2_driftTold 25 = .ok (.iload_n 2, 1) := by decide +kernel
theorem dX2_driftTold_26 : decode cX2_driftTold 26 = .ok (.invokevirtual 99, 3) := by decide +kernel
theorem dX2_driftTold_29 : decode cX2_driftTold 29 = .ok (.return_, 1) := by decide +kernel
set_option maxRecDepth 4000 in
theorem s_X2_driftTold_0 {w : GX} {d : Nat} {P : PN} {g : GI} {x1 : Nat} (hx1 : isW x1) (x2 : Int)
    (h : Zm w d mX8_drift 0 [some (aR (some (x1))), some (aR (some (18))), some (aI (x2)), none, none, none, none] [] g (fun r g1 => r = none ∧ ((nm (iAnd (iShr (g1 27 6) x2) 1) = 0 → P none g1) ∧ (¬ nm (iAnd (iShr (g1 27 6) x2) 1) = 0 → Zm w d mX8_drift 0 [some (aR (some (x1))), some (aR (some (18))), some (aI (x2)), none, none, none, none] [] g1 (fun r g4 => r = none ∧ P none g4))))) :
    Zm w (d + 1) mX2_driftTold 0 [some (aR (some (27))), some (aR (some (x1))), some (aI (x2))] [] g P := by
  refine z_aload_n dX2_driftTold_0 rfl rfl ?_
  refine z_aload_n dX2_driftTold_1 rfl rfl ?_
  refine m_getR dX2_driftTold_2 fl_X2_31 (by decide) kt_27 rv_27_0 ?_
  refine z_iload_n dX2_driftTold_5 rfl rfl ?_
  refine m_callV (as := [aR (some (18)), aI (x2)]) dX2_driftTold_6 lk_X2_99 mok_X8_drift in_X8_drift sl_X8_drift (congrArg Prod.fst hx1.1) rfl rfl rfl (Nat.le_of_ble_eq_true rfl) rfl (Nat.le_of_ble_eq_true rfl) rfl (m_mono (fun r g1 hr => ?_) h)
  obtain ⟨rfl, h⟩ := hr
  show Zm w (d + 1) mX2_driftTold 9 [some (aR (some (27))), some (aR (some (x1))), some (aI (x2))] [] g1 P
  refine z_aload_n dX2_driftTold_9 rfl rfl ?_
  refine z_getI dX2_driftTold_10 fl_X2_24 (by decide) kt_27 ?_
  refine z_iload_n dX2_driftTold_13 rfl rfl ?_
  refine z_ishr dX2_driftTold_14 ?_
  refine z_iconst dX2_driftTold_15 ?_
  refine z_iand dX2_driftTold_16 ?_
  refine z_if_eq (tgt := 29) dX2_driftTold_17 (by decide) (fun c3 => ?_) (fun c3 => ?_)
  · replace h := h.1 c3
    exact m_vret dX2_driftTold_29 rfl h
  · replace h := h.2 c3
    refine z_aload_n dX2_driftTold_20 rfl rfl ?_
    refine z_aload_n dX2_driftTold_21 rfl rfl ?_
    refine m_getR dX2_driftTold_22 fl_X2_31 (by decide) kt_27 rv_27_0 ?_
    refine z_iload_n dX2_driftTold_25 rfl rfl ?_
    refine m_callV (as := [aR (some (18)), aI (x2)]) dX2_driftTold_26 lk_X2_99 mok_X8_drift in_X8_drift sl_X8_drift (congrArg Prod.fst hx1.1) rfl rfl rfl (Nat.le_of_ble_eq_true rfl) rfl (Nat.le_of_ble_eq_true rfl) rfl (m_mono (fun r g4 hr => ?_) h)
    obtain ⟨rfl, h⟩ := hr
    show Zm w (d + 1) mX2_driftTold 29 [some (aR (some (27))), some (aR (some (x1))), some (aI (x2))] [] g4 P
    exact m_vret dX2_driftTold_29 rfl h
theorem dX2_go_0 : decode cX2_go 0 = .ok (.iload_n 2, 1) := by decide +kernel
theorem dX2_go_1 : decode cX2_go 1 = .ok (.istore 5, 2) := by decide +kernel
theorem dX2_go_3 : decode cX2_go 3 = .ok (.iload 5, 2) := by decide +kernel
theorem dX2_go_5 : decode cX2_go 5 = .ok (.iload_n 3, 1) := by decide +kernel
theorem dX2_go_6 : decode cX2_go 6 = .ok (.if_icmp .gt 40, 3) := by decide +kernel
theorem dX2_go_9 : decode cX2_go 9 = .ok (.iload 5, 2) := by decide +kernel
theorem dX2_go_11 : decode cX2_go 11 = .ok (.bipush 20, 2) := by decide +kernel
theorem dX2_go_13 : decode cX2_go 13 = .ok (.if_icmp .ge 33, 3) := by decide +kernel
theorem dX2_go_16 : decode cX2_go 16 = .ok (.aload_n 0, 1) := by decide +kernel
theorem dX2_go_17 : decode cX2_go 17 = .ok (.aload_n 1, 1) := by decide +kernel
theorem dX2_go_18 : decode cX2_go 18 = .ok (.iload 5, 2) := by decide +kernel
theorem dX2_go_20 : decode cX2_go 20 = .ok (.aload 4, 2) := by decide +kernel
theorem dX2_go_22 : decode cX2_go 22 = .ok (.invokevirtual 66, 3) := by decide +kernel
theorem dX2_go_25 : decode cX2_go 25 = .ok (.pop, 1) := by decide +kernel
theorem dX2_go_26 : decode cX2_go 26 = .ok (.aload_n 0, 1) := by decide +kernel
theorem dX2_go_27 : decode cX2_go 27 = .ok (.aload_n 1, 1) := by decide +kernel
theorem dX2_go_28 : decode cX2_go 28 = .ok (.iload 5, 2) := by decide +kernel
theorem dX2_go_30 : decode cX2_go 30 = .ok (.invokevirtual 70, 3) := by decide +kernel
theorem dX2_go_33 : decode cX2_go 33 = .ok (.aload_n 0, 1) := by decide +kernel
theorem dX2_go_34 : decode cX2_go 34 = .ok (.aload_n 1, 1) := by decide +kernel
theorem dX2_go_35 : decode cX2_go 35 = .ok (.iload 5, 2) := by decide +kernel
theorem dX2_go_37 : decode cX2_go 37 = .ok (.invokevirtual 74, 3) := by decide +kernel
theorem dX2_go_40 : decode cX2_go 40 = .ok (.iinc 5 1, 3) := by decide +kernel
theorem dX2_go_43 : decode cX2_go 43 = .ok (.goto (-40), 3) := by decide +kernel
theorem dX2_go_46 : decode cX2_go 46 = .ok (.return_, 1) := by decide +kernel
set_option maxRecDepth 4000 in
theorem s_X2_go_0 {w : GX} {d : Nat} {P : PN} {g : GI} {x1 : Nat} (hx1 : isW x1) (x2 : Int) (x3 : Int) {x4 : Nat} (hx4 : isC x4)
    (h : Zm w (d + 2) mX2_go 3 [some (aR (some (27))), some (aR (some (x1))), none, some (aI (x3)), some (aR (some (x4))), some (aI (x2))] [] g P) :
    Zm w (d + 2) mX2_go 0 [some (aR (some (27))), some (aR (some (x1))), some (aI (x2)), some (aI (x3)), some (aR (some (x4))), none] [] g P := by
  refine z_iload_n dX2_go_0 rfl rfl ?_
  refine z_istore dX2_go_1 (by decide) rfl ?_
  show Zm w (d + 2) mX2_go 3 [some (aR (some (27))), some (aR (some (x1))), some (aI (x2)), some (aI (x3)), some (aR (some (x4))), some (aI (x2))] [] g P
  exact z_weak (by simp [lle]) h
set_option maxRecDepth 4000 in
theorem s_X2_go_3 {w : GX} {d : Nat} {P : PN} {g : GI} {x1 : Nat} (hx1 : isW x1) (x3 : Int) {x4 : Nat} (hx4 : isC x4) (x5 : Int)
    (h : ((nm x3 < nm x5 → P none g) ∧ (¬ nm x3 < nm x5 → ((¬ nm x5 < nm 20 → P none g) ∧ (nm x5 < nm 20 → Zm w (d + 1) mX2_crossTold 0 [some (aR (some (27))), some (aR (some (x1))), some (aI (x5)), some (aR (some (x4))), none, none, none] [] g (fun r g3 => ∃ z4 : Int, r = some (aI z4) ∧ Zm w (d + 1) mX2_catchTold 0 [some (aR (some (27))), some (aR (some (x1))), some (aI (x5)), none] [] g3 (fun r g5 => r = none ∧ Zm w (d + 1) mX2_driftTold 0 [some (aR (some (27))), some (aR (some (x1))), some (aI (x5))] [] g5 (fun r g7 => r = none ∧ Zm w (d + 2) mX2_go 3 [some (aR (some (27))), some (aR (some (x1))), none, some (aI (x3)), some (aR (some (x4))), some (aI (x5 + 1))] [] g7 P)))))))) :
    Zm w (d + 2) mX2_go 3 [some (aR (some (27))), some (aR (some (x1))), none, some (aI (x3)), some (aR (some (x4))), some (aI (x5))] [] g P := by
  refine z_iload dX2_go_3 rfl ?_
  refine z_iload_n dX2_go_5 rfl rfl ?_
  refine z_icmp_gt (tgt := 46) dX2_go_6 (by decide) (fun c1 => ?_) (fun c1 => ?_)
  · replace h := h.1 c1
    exact m_vret dX2_go_46 rfl h
  · replace h := h.2 c1
    refine z_iload dX2_go_9 rfl ?_
    refine z_bipush dX2_go_11 rfl ?_
    refine z_icmp_ge (tgt := 46) dX2_go_13 (by decide) (fun c2 => ?_) (fun c2 => ?_)
    · replace h := h.1 c2
      exact m_vret dX2_go_46 rfl h
    · replace h := h.2 (Decidable.not_not.mp c2)
      refine z_aload_n dX2_go_16 rfl rfl ?_
      refine z_aload_n dX2_go_17 rfl rfl ?_
      refine z_iload dX2_go_18 rfl ?_
      refine z_aload dX2_go_20 rfl ?_
      refine m_callV (as := [aR (some (x1)), aI (x5), aR (some (x4))]) dX2_go_22 lk_X2_66 mok_X2_crossTold in_X2_crossTold sl_X2_crossTold kt_27 rfl rfl rfl (Nat.le_of_ble_eq_true rfl) rfl (Nat.le_of_ble_eq_true rfl) rfl (m_mono (fun r g3 hr => ?_) h)
      obtain ⟨z4, rfl, h⟩ := hr
      show Zm w (d + 2) mX2_go 25 [some (aR (some (27))), some (aR (some (x1))), none, some (aI (x3)), some (aR (some (x4))), some (aI (x5))] [aI (z4)] g3 P
      refine z_pop dX2_go_25 rfl ?_
      refine z_aload_n dX2_go_26 rfl rfl ?_
      refine z_aload_n dX2_go_27 rfl rfl ?_
      refine z_iload dX2_go_28 rfl ?_
      refine m_callV (as := [aR (some (x1)), aI (x5)]) dX2_go_30 lk_X2_70 mok_X2_catchTold in_X2_catchTold sl_X2_catchTold kt_27 rfl rfl rfl (Nat.le_of_ble_eq_true rfl) rfl (Nat.le_of_ble_eq_true rfl) rfl (m_mono (fun r g5 hr => ?_) h)
      obtain ⟨rfl, h⟩ := hr
      show Zm w (d + 2) mX2_go 33 [some (aR (some (27))), some (aR (some (x1))), none, some (aI (x3)), some (aR (some (x4))), some (aI (x5))] [] g5 P
      refine z_aload_n dX2_go_33 rfl rfl ?_
      refine z_aload_n dX2_go_34 rfl rfl ?_
      refine z_iload dX2_go_35 rfl ?_
      refine m_callV (as := [aR (some (x1)), aI (x5)]) dX2_go_37 lk_X2_74 mok_X2_driftTold in_X2_driftTold sl_X2_driftTold kt_27 rfl rfl rfl (Nat.le_of_ble_eq_true rfl) rfl (Nat.le_of_ble_eq_true rfl) rfl (m_mono (fun r g7 hr => ?_) h)
      obtain ⟨rfl, h⟩ := hr
      show Zm w (d + 2) mX2_go 40 [some (aR (some (27))), some (aR (some (x1))), none, some (aI (x3)), some (aR (some (x4))), some (aI (x5))] [] g7 P
      refine z_iinc dX2_go_40 rfl (by decide) rfl ?_
      show Zm w (d + 2) mX2_go 43 [some (aR (some (27))), some (aR (some (x1))), none, some (aI (x3)), some (aR (some (x4))), some (aI (x5 + 1))] [] g7 P
      refine z_goto (tgt := 3) dX2_go_43 (by decide) ?_
      exact z_weak (by simp [lle]) h
theorem dX2_goWithOneMore_0 : decode cX2_goWithOneMore 0 = .ok (.aload_n 0, 1) := by decide +kernel
theorem dX2_goWithOneMore_1 : decode cX2_goWithOneMore 1 = .ok (.aload_n 1, 1) := by decide +kernel
theorem dX2_goWithOneMore_2 : decode cX2_goWithOneMore 2 = .ok (.iload_n 2, 1) := by decide +kernel
theorem dX2_goWithOneMore_3 : decode cX2_goWithOneMore 3 = .ok (.aload_n 0, 1) := by decide +kernel
theorem dX2_goWithOneMore_4 : decode cX2_goWithOneMore 4 = .ok (.getfield 12, 3) := by decide +kernel
theorem dX2_goWithOneMore_7 : decode cX2_goWithOneMore 7 = .ok (.invokevirtual 66, 3) := by decide +kernel
theorem dX2_goWithOneMore_10 : decode cX2_goWithOneMore 10 = .ok (.pop, 1) := by decide +kernel
theorem dX2_goWithOneMore_11 : decode cX2_goWithOneMore 11 = .ok (.aload_n 1, 1) := by decide +kernel
theorem dX2_goWithOneMore_12 : decode cX2_goWithOneMore 12 = .ok (.iload_n 3, 1) := by decide +kernel
theorem dX2_goWithOneMore_13 : decode cX2_goWithOneMore 13 = .ok (.aload_n 0, 1) := by decide +kernel
theorem dX2_goWithOneMore_14 : decode cX2_goWithOneMore 14 = .ok (.getfield 12, 3) := by decide +kernel
theorem dX2_goWithOneMore_17 : decode cX2_goWithOneMore 17 = .ok (.getfield 88, 3) := by decide +kernel
theorem dX2_goWithOneMore_20 : decode cX2_goWithOneMore 20 = .ok (.iload_n 3, 1) := by decide +kernel
theorem dX2_goWithOneMore_21 : decode cX2_goWithOneMore 21 = .ok (.iaload, 1) := by decide +kernel
theorem dX2_goWithOneMore_22 : decode cX2_goWithOneMore 22 = .ok (.invokevirtual 91, 3) := by decide +kernel
theorem dX2_goWithOneMore_25 : decode cX2_goWithOneMore 25 = .ok (.pop, 1) := by decide +kernel
theorem dX2_goWithOneMore_26 : decode cX2_goWithOneMore 26 = .ok (.aload_n 0, 1) := by decide +kernel
theorem dX2_goWithOneMore_27 : decode cX2_goWithOneMore 27 = .ok (.aload_n 1, 1) := by decide +kernel
theorem dX2_goWithOneMore_28 : decode cX2_goWithOneMore 28 = .ok (.iload_n 2, 1) := by decide +kernel
theorem dX2_goWithOneMore_29 : decode cX2_goWithOneMore 29 = .ok (.invokevirtual 70, 3) := by decide +kernel
theorem dX2_goWithOneMore_32 : decode cX2_goWithOneMore 32 = .ok (.aload_n 0, 1) := by decide +kernel
theorem dX2_goWithOneMore_33 : decode cX2_goWithOneMore 33 = .ok (.aload_n 1, 1) := by decide +kernel
theorem dX2_goWithOneMore_34 : decode cX2_goWithOneMore 34 = .ok (.iload_n 2, 1) := by decide +kernel
theorem dX2_goWithOneMore_35 : decode cX2_goWithOneMore 35 = .ok (.invokevirtual 74, 3) := by decide +kernel
theorem dX2_goWithOneMore_38 : decode cX2_goWithOneMore 38 = .ok (.return_, 1) := by decide +kernel
set_option maxRecDepth 4000 in
theorem s_X2_goWithOneMore_0 {w : GX} {d : Nat} {P : PN} {g : GI} {x1 : Nat} (hx1 : isW x1) (x2 : Int) (x3 : Int)
    (h : Zm w (d + 1) mX2_crossTold 0 [some (aR (some (27))), some (aR (some (x1))), some (aI (x2)), some (aR (some (28))), none, none, none] [] g (fun r g1 => ∃ z2 : Int, r = some (aI z2) ∧ (0 ≤ nm x3 ∧ nm x3 < 8 ∧ Zm w (d + 1) mX8_exchange 0 [some (aR (some (x1))), some (aI (x3)), some (aI (g1 29 (nm x3).toNat)), none, none, none, none, none, none] [] g1 (fun r g7 => ∃ z8 : Int, r = some (aI z8) ∧ Zm w (d + 1) mX2_catchTold 0 [some (aR (some (27))), some (aR (some (x1))), some (aI (x2)), none] [] g7 (fun r g9 => r = none ∧ Zm w (d + 1) mX2_driftTold 0 [some (aR (some (27))), some (aR (some (x1))), some (aI (x2))] [] g9 (fun r g11 => r = none ∧ P none g11)))))) :
    Zm w (d + 2) mX2_goWithOneMore 0 [some (aR (some (27))), some (aR (some (x1))), some (aI (x2)), some (aI (x3))] [] g P := by
  refine z_aload_n dX2_goWithOneMore_0 rfl rfl ?_
  refine z_aload_n dX2_goWithOneMore_1 rfl rfl ?_
  refine z_iload_n dX2_goWithOneMore_2 rfl rfl ?_
  refine z_aload_n dX2_goWithOneMore_3 rfl rfl ?_
  refine m_getR dX2_goWithOneMore_4 fl_X2_12 (by decide) kt_27 rv_27_4 ?_
  refine m_callV (as := [aR (some (x1)), aI (x2), aR (some (28))]) dX2_goWithOneMore_7 lk_X2_66 mok_X2_crossTold in_X2_crossTold sl_X2_crossTold kt_27 rfl rfl rfl (Nat.le_of_ble_eq_true rfl) rfl (Nat.le_of_ble_eq_true rfl) rfl (m_mono (fun r g1 hr => ?_) h)
  obtain ⟨z2, rfl, h⟩ := hr
  show Zm w (d + 2) mX2_goWithOneMore 10 [some (aR (some (27))), some (aR (some (x1))), some (aI (x2)), some (aI (x3))] [aI (z2)] g1 P
  refine z_pop dX2_goWithOneMore_10 rfl ?_
  refine z_aload_n dX2_goWithOneMore_11 rfl rfl ?_
  refine z_iload_n dX2_goWithOneMore_12 rfl rfl ?_
  refine z_aload_n dX2_goWithOneMore_13 rfl rfl ?_
  refine m_getR dX2_goWithOneMore_14 fl_X2_12 (by decide) kt_27 rv_27_4 ?_
  refine m_getR dX2_goWithOneMore_17 fl_X2_88 (by decide) kt_28 rv_28_0 ?_
  refine z_iload_n dX2_goWithOneMore_20 rfl rfl ?_
  obtain ⟨q5, q6, h⟩ := h
  refine m_iald dX2_goWithOneMore_21 kv_29 q5 q6 ?_
  refine m_callV (as := [aI (x3), aI (g1 29 (nm x3).toNat)]) dX2_goWithOneMore_22 lk_X2_91 mok_X8_exchange in_X8_exchange sl_X8_exchange (congrArg Prod.fst hx1.1) rfl rfl rfl (Nat.le_of_ble_eq_true rfl) rfl (Nat.le_of_ble_eq_true rfl) rfl (m_mono (fun r g7 hr => ?_) h)
  obtain ⟨z8, rfl, h⟩ := hr
  show Zm w (d + 2) mX2_goWithOneMore 25 [some (aR (some (27))), some (aR (some (x1))), some (aI (x2)), some (aI (x3))] [aI (z8)] g7 P
  refine z_pop dX2_goWithOneMore_25 rfl ?_
  refine z_aload_n dX2_goWithOneMore_26 rfl rfl ?_
  refine z_aload_n dX2_goWithOneMore_27 rfl rfl ?_
  refine z_iload_n dX2_goWithOneMore_28 rfl rfl ?_
  refine m_callV (as := [aR (some (x1)), aI (x2)]) dX2_goWithOneMore_29 lk_X2_70 mok_X2_catchTold in_X2_catchTold sl_X2_catchTold kt_27 rfl rfl rfl (Nat.le_of_ble_eq_true rfl) rfl (Nat.le_of_ble_eq_true rfl) rfl (m_mono (fun r g9 hr => ?_) h)
  obtain ⟨rfl, h⟩ := hr
  show Zm w (d + 2) mX2_goWithOneMore 32 [some (aR (some (27))), some (aR (some (x1))), some (aI (x2)), some (aI (x3))] [] g9 P
  refine z_aload_n dX2_goWithOneMore_32 rfl rfl ?_
  refine z_aload_n dX2_goWithOneMore_33 rfl rfl ?_
  refine z_iload_n dX2_goWithOneMore_34 rfl rfl ?_
  refine m_callV (as := [aR (some (x1)), aI (x2)]) dX2_goWithOneMore_35 lk_X2_74 mok_X2_driftTold in_X2_driftTold sl_X2_driftTold kt_27 rfl rfl rfl (Nat.le_of_ble_eq_true rfl) rfl (Nat.le_of_ble_eq_true rfl) rfl (m_mono (fun r g11 hr => ?_) h)
  obtain ⟨rfl, h⟩ := hr
  show Zm w (d + 2) mX2_goWithOneMore 38 [some (aR (some (27))), some (aR (some (x1))), some (aI (x2)), some (aI (x3))] [] g11 P
  exact m_vret dX2_goWithOneMore_38 rfl h
theorem dX4_add_0 : decode cX4_add 0 = .ok (.aload_n 0, 1) := by decide +kernel
theorem dX4_add_1 : decode cX4_add 1 = .ok (.getfield 9, 3) := by decide +kernel
theorem dX4_add_4 : decode cX4_add 4 = .ok (.aload_n 0, 1) := by decide +kernel
theorem dX4_add_5 : decode cX4_add 5 = .ok (.getfield 21, 3) := by decide +kernel
theorem dX4_add_8 : decode cX4_add 8 = .ok (.arraylength, 1) := by decide +kernel
theorem dX4_add_9 : decode cX4_add 9 = .ok (.if_icmp .lt 6, 3) := by decide +kernel
theorem dX4_add_12 : decode cX4_add 12 = .ok (.bipush (-4), 2) := by decide +kernel
theorem dX4_add_14 : decode cX4_add 14 = .ok (.ireturn, 1) := by decide +kernel
theorem dX4_add_15 : decode cX4_add 15 = .ok (.aload_n 0, 1) := by decide +kernel
theorem dX4_add_16 : decode cX4_add 16 = .ok (.getfield 21, 3) := by decide +kernel
theorem dX4_add_19 : decode cX4_add 19 = .ok (.aload_n 0, 1) := by decide +kernel
theorem dX4_add_20 : decode cX4_add 20 = .ok (.getfield 9, 3) := by decide +kernel
theorem dX4_add_23 : decode cX4_add 23 = .ok (.iload_n 1, 1) := by decide +kernel
theorem dX4_add_24 : decode cX4_add 24 = .ok (.iastore, 1) := by decide +kernel
theorem dX4_add_25 : decode cX4_add 25 = .ok (.aload_n 0, 1) := by decide +kernel
theorem dX4_add_26 : decode cX4_add 26 = .ok (.getfield 25, 3) := by decide +kernel
theorem dX4_add_29 : decode cX4_add 29 = .ok (.aload_n 0, 1) := by decide +kernel
theorem dX4_add_30 : decode cX4_add 30 = .ok (.getfield 9, 3) := by decide +kernel
theorem dX4_add_33 : decode cX4_add 33 = .ok (.iload_n 2, 1) := by decide +kernel
theorem dX4_add_34 : decode cX4_add 34 = .ok (.iastore, 1) := by decide +kernel
theorem dX4_add_35 : decode cX4_add 35 = .ok (.aload_n 0, 1) := by decide +kernel
theorem dX4_add_36 : decode cX4_add 36 = .ok (.getfield 28, 3) := by decide +kernel
theorem dX4_add_39 : decode cX4_add 39 = .ok (.aload_n 0, 1) := by decide +kernel
theorem dX4_add_40 : decode cX4_add 40 = .ok (.getfield 9, 3) := by decide +kernel
theorem dX4_add_43 : decode cX4_add 43 = .ok (.iload_n 3, 1) := by decide +kernel
theorem dX4_add_44 : decode cX4_add 44 = .ok (.iastore, 1) := by decide +kernel
theorem dX4_add_45 : decode cX4_add 45 = .ok (.aload_n 0, 1) := by decide +kernel
theorem dX4_add_46 : decode cX4_add 46 = .ok (.dup, 1) := by decide +kernel
theorem dX4_add_47 : decode cX4_add 47 = .ok (.getfield 9, 3) := by decide +kernel
theorem dX4_add_50 : decode cX4_add 50 = .ok (.iconst 1, 1) := by decide +kernel
theorem dX4_add_51 : decode cX4_add 51 = .ok (.iadd, 1) := by decide +kernel
theorem dX4_add_52 : decode cX4_add 52 = .ok (.putfield 9, 3) := by decide +kernel
theorem dX4_add_55 : decode cX4_add 55 = .ok (.aload_n 0, 1) := by decide +kernel
theorem dX4_add_56 : decode cX4_add 56 = .ok (.getfield 9, 3) := by decide +kernel
theorem dX4_add_59 : decode cX4_add 59 = .ok (.ireturn, 1) := by decide +kernel
set_option maxRecDepth 4000 in
theorem s_X4_add_0 {w : GX} {d : Nat} {P : PN} {g : GI} {x0 : Nat} (hx0 : isLo x0) (x1 : Int) (x2 : Int) (x3 : Int)
    (h : ((nm (g x0 3) < nm ((((kd0 (x0 + 1)).2 : Nat) : Int)) → (0 ≤ nm (g x0 3) ∧ nm (g x0 3) < (((kd0 (x0 + 1)).2 : Nat) : Int) ∧ ∀ g2 : GI, g2 = up2 g (x0 + 1) (nm (g x0 3)).toNat x1 → (0 ≤ nm (g2 x0 3) ∧ nm (g2 x0 3) < (((kd0 (x0 + 2)).2 : Nat) : Int) ∧ ∀ g5 : GI, g5 = up2 g2 (x0 + 2) (nm (g2 x0 3)).toNat x2 → (0 ≤ nm (g5 x0 3) ∧ nm (g5 x0 3) < (((kd0 (x0 + 3)).2 : Nat) : Int) ∧ ∀ g8 : GI, g8 = up2 g5 (x0 + 3) (nm (g5 x0 3)).toNat x3 → (∀ g11 : GI, g11 = up2 g8 x0 3 ((g8 x0 3) + 1) → P (some (aI (g11 x0 3))) g11))))) ∧ (¬ nm (g x0 3) < nm ((((kd0 (x0 + 1)).2 : Nat) : Int)) → P (some (aI ((-4)))) g))) :
    Zm w d mX4_add 0 [some (aR (some (x0))), some (aI (x1)), some (aI (x2)), some (aI (x3))] [] g P := by
  refine z_aload_n dX4_add_0 rfl rfl ?_
  refine z_getI dX4_add_1 fl_X4_9 (by decide) (congrArg Prod.fst hx0.1) ?_
  refine z_aload_n dX4_add_4 rfl rfl ?_
  refine m_getR dX4_add_5 fl_X4_21 (by decide) (congrArg Prod.fst hx0.1) hx0.2.1 ?_
  refine m_alen dX4_add_8 (kd_of hx0.2.2.2.2.1) ?_
  refine z_icmp_lt (tgt := 15) dX4_add_9 (by decide) (fun c1 => ?_) (fun c1 => ?_)
  · replace h := h.1 c1
    refine z_aload_n dX4_add_15 rfl rfl ?_
    refine m_getR dX4_add_16 fl_X4_21 (by decide) (congrArg Prod.fst hx0.1) hx0.2.1 ?_
    refine z_aload_n dX4_add_19 rfl rfl ?_
    refine z_getI dX4_add_20 fl_X4_9 (by decide) (congrArg Prod.fst hx0.1) ?_
    refine z_iload_n dX4_add_23 rfl rfl ?_
    obtain ⟨q3, q4, h⟩ := h
    replace h := h _ rfl
    refine m_iast dX4_add_24 (kd_of hx0.2.2.2.2.1) q3 q4 ?_
    refine z_aload_n dX4_add_25 rfl rfl ?_
    refine m_getR dX4_add_26 fl_X4_25 (by decide) (congrArg Prod.fst hx0.1) hx0.2.2.1 ?_
    refine z_aload_n dX4_add_29 rfl rfl ?_
    refine z_getI dX4_add_30 fl_X4_9 (by decide) (congrArg Prod.fst hx0.1) ?_
    refine z_iload_n dX4_add_33 rfl rfl ?_
    obtain ⟨q6, q7, h⟩ := h
    replace h := h _ rfl
    refine m_iast dX4_add_34 (kd_of hx0.2.2.2.2.2.1) q6 q7 ?_
    refine z_aload_n dX4_add_35 rfl rfl ?_
    refine m_getR dX4_add_36 fl_X4_28 (by decide) (congrArg Prod.fst hx0.1) hx0.2.2.2.1 ?_
    refine z_aload_n dX4_add_39 rfl rfl ?_
    refine z_getI dX4_add_40 fl_X4_9 (by decide) (congrArg Prod.fst hx0.1) ?_
    refine z_iload_n dX4_add_43 rfl rfl ?_
    obtain ⟨q9, q10, h⟩ := h
    replace h := h _ rfl
    refine m_iast dX4_add_44 (kd_of hx0.2.2.2.2.2.2.1) q9 q10 ?_
    refine z_aload_n dX4_add_45 rfl rfl ?_
    refine z_dup dX4_add_46 rfl ?_
    refine z_getI dX4_add_47 fl_X4_9 (by decide) (congrArg Prod.fst hx0.1) ?_
    refine z_iconst dX4_add_50 ?_
    refine z_iadd dX4_add_51 ?_
    replace h := h _ rfl
    refine z_putI dX4_add_52 fw_X4_9 (by decide) (congrArg Prod.fst hx0.1) ?_
    refine z_aload_n dX4_add_55 rfl rfl ?_
    refine z_getI dX4_add_56 fl_X4_9 (by decide) (congrArg Prod.fst hx0.1) ?_
    exact m_iret dX4_add_59 rfl h
  · replace h := h.2 c1
    refine z_bipush dX4_add_12 rfl ?_
    exact m_iret dX4_add_14 rfl h
theorem dX4_dropLast_0 : decode cX4_dropLast 0 = .ok (.aload_n 0, 1) := by decide +kernel
theorem dX4_dropLast_1 : decode cX4_dropLast 1 = .ok (.getfield 9, 3) := by decide +kernel
theorem dX4_dropLast_4 : decode cX4_dropLast 4 = .ok (.ifCond .gt 6, 3) := by decide +kernel
theorem dX4_dropLast_7 : decode cX4_dropLast 7 = .ok (.bipush (-3), 2) := by decide +kernel
theorem dX4_dropLast_9 : decode cX4_dropLast 9 = .ok (.ireturn, 1) := by decide +kernel
theorem dX4_dropLast_10 : decode cX4_dropLast 10 = .ok (.aload_n 0, 1) := by decide +kernel
theorem dX4_dropLast_11 : decode cX4_dropLast 11 = .ok (.dup, 1) := by decide +kernel
theorem dX4_dropLast_12 : decode cX4_dropLast 12 = .ok (.getfield 9, 3) := by decide +kernel
theorem dX4_dropLast_15 : decode cX4_dropLast 15 = .ok (.iconst 1, 1) := by decide +kernel
theorem dX4_dropLast_16 : decode cX4_dropLast 16 = .ok (.isub, 1) := by decide +kernel
theorem dX4_dropLast_17 : decode cX4_dropLast 17 = .ok (.putfield 9, 3) := by decide +kernel
theorem dX4_dropLast_20 : decode cX4_dropLast 20 = .ok (.aload_n 0, 1) := by decide +kernel
theorem dX4_dropLast_21 : decode cX4_dropLast 21 = .ok (.getfield 9, 3) := by decide +kernel
theorem dX4_dropLast_24 : decode cX4_dropLast 24 = .ok (.ireturn, 1) := by decide +kernel
set_option maxRecDepth 4000 in
theorem s_X4_dropLast_0 {w : GX} {d : Nat} {P : PN} {g : GI} {x0 : Nat} (hx0 : isLo x0)
    (h : ((0 < nm (g x0 3) → (∀ g2 : GI, g2 = up2 g x0 3 ((g x0 3) - 1) → P (some (aI (g2 x0 3))) g2)) ∧ (¬ 0 < nm (g x0 3) → P (some (aI ((-3)))) g))) :
    Zm w d mX4_dropLast 0 [some (aR (some (x0)))] [] g P := by
  refine z_aload_n dX4_dropLast_0 rfl rfl ?_
  refine z_getI dX4_dropLast_1 fl_X4_9 (by decide) (congrArg Prod.fst hx0.1) ?_
  refine z_if_gt (tgt := 10) dX4_dropLast_4 (by decide) (fun c1 => ?_) (fun c1 => ?_)
  · replace h := h.1 c1
    refine z_aload_n dX4_dropLast_10 rfl rfl ?_
    refine z_dup dX4_dropLast_11 rfl ?_
    refine z_getI dX4_dropLast_12 fl_X4_9 (by decide) (congrArg Prod.fst hx0.1) ?_
    refine z_iconst dX4_dropLast_15 ?_
    refine z_isub dX4_dropLast_16 ?_
    replace h := h _ rfl
    refine z_putI dX4_dropLast_17 fw_X4_9 (by decide) (congrArg Prod.fst hx0.1) ?_
    refine z_aload_n dX4_dropLast_20 rfl rfl ?_
    refine z_getI dX4_dropLast_21 fl_X4_9 (by decide) (congrArg Prod.fst hx0.1) ?_
    exact m_iret dX4_dropLast_24 rfl h
  · replace h := h.2 c1
    refine z_bipush dX4_dropLast_7 rfl ?_
    exact m_iret dX4_dropLast_9 rfl h
theorem dX6_renew_0 : decode cX6_renew 0 = .ok (.aload_n 0, 1) := by decide +kernel
theorem dX6_renew_1 : decode cX6_renew 1 = .ok (.iload_n 1, 1) := by decide +kernel
theorem dX6_renew_2 : decode cX6_renew 2 = .ok (.putfield 15, 3) := by decide +kernel
theorem dX6_renew_5 : decode cX6_renew 5 = .ok (.aload_n 0, 1) := by decide +kernel
theorem dX6_renew_6 : decode cX6_renew 6 = .ok (.iload_n 2, 1) := by decide +kernel
theorem dX6_renew_7 : decode cX6_renew 7 = .ok (.putfield 19, 3) := by decide +kernel
theorem dX6_renew_10 : decode cX6_renew 10 = .ok (.aload_n 0, 1) := by decide +kernel
theorem dX6_renew_11 : decode cX6_renew 11 = .ok (.getfield 9, 3) := by decide +kernel
theorem dX6_renew_14 : decode cX6_renew 14 = .ok (.iconst 0, 1) := by decide +kernel
theorem dX6_renew_15 : decode cX6_renew 15 = .ok (.invokestatic 22, 3) := by decide +kernel
theorem dX6_renew_18 : decode cX6_renew 18 = .ok (.return_, 1) := by decide +kernel
set_option maxRecDepth 4000 in
theorem s_X6_renew_0 {w : GX} {d : Nat} {P : PN} {g : GI} {x0 : Nat} (hx0 : isS x0) (x1 : Int) (x2 : Int)
    (h : (∀ g1 : GI, g1 = up2 g x0 1 x1 → (∀ g2 : GI, g2 = up2 g1 x0 2 x2 → Zm w d mJ7_fill_53178 0 [some (aR (some (x0 + 1))), some (aI (0)), none, none] [] g2 (fun r g3 => r = none ∧ P none g3)))) :
    Zm w (d + 1) mX6_renew 0 [some (aR (some (x0))), some (aI (x1)), some (aI (x2))] [] g P := by
  refine z_aload_n dX6_renew_0 rfl rfl ?_
  refine z_iload_n dX6_renew_1 rfl rfl ?_
  replace h := h _ rfl
  refine z_putI dX6_renew_2 fw_X6_15 (by decide) (congrArg Prod.fst hx0.1) ?_
  refine z_aload_n dX6_renew_5 rfl rfl ?_
  refine z_iload_n dX6_renew_6 rfl rfl ?_
  replace h := h _ rfl
  refine z_putI dX6_renew_7 fw_X6_19 (by decide) (congrArg Prod.fst hx0.1) ?_
  refine z_aload_n dX6_renew_10 rfl rfl ?_
  refine m_getR dX6_renew_11 fl_X6_9 (by decide) (congrArg Prod.fst hx0.1) hx0.2.1 ?_
  refine z_iconst dX6_renew_14 ?_
  refine m_callS (as := [aR (some (x0 + 1)), aI (0)]) dX6_renew_15 lk_X6_22 mok_J7_fill_53178 st_J7_fill_53178 rfl (Nat.le_of_ble_eq_true rfl) rfl (Nat.le_of_ble_eq_true rfl) rfl (m_mono (fun r g3 hr => ?_) h)
  obtain ⟨rfl, h⟩ := hr
  show Zm w (d + 1) mX6_renew 18 [some (aR (some (x0))), some (aI (x1)), some (aI (x2))] [] g3 P
  exact m_vret dX6_renew_18 rfl h
theorem dX6_put_0 : decode cX6_put 0 = .ok (.aload_n 0, 1) := by decide +kernel
theorem dX6_put_1 : decode cX6_put 1 = .ok (.iload_n 1, 1) := by decide +kernel
theorem dX6_put_2 : decode cX6_put 2 = .ok (.iconst 1, 1) := by decide +kernel
theorem dX6_put_3 : decode cX6_put 3 = .ok (.invokevirtual 28, 3) := by decide +kernel
theorem dX6_put_6 : decode cX6_put 6 = .ok (.ifCond .ne 4, 3) := by decide +kernel
theorem dX6_put_9 : decode cX6_put 9 = .ok (.return_, 1) := by decide +kernel
theorem dX6_put_10 : decode cX6_put 10 = .ok (.aload_n 0, 1) := by decide +kernel
theorem dX6_put_11 : decode cX6_put 11 = .ok (.getfield 15, 3) := by decide +kernel
theorem dX6_put_14 : decode cX6_put 14 = .ok (.lookupswitch 48 #[(0, 26), (1, 37)], 26) := by decide +kernel
theorem dX6_put_40 : decode cX6_put 40 = .ok (.aload_n 0, 1) := by decide +kernel
theorem dX6_put_41 : decode cX6_put 41 = .ok (.getfield 9, 3) := by decide +kernel
theorem dX6_put_44 : decode cX6_put 44 = .ok (.iload_n 1, 1) := by decide +kernel
theorem dX6_put_45 : decode cX6_put 45 = .ok (.iload_n 2, 1) := by decide +kernel
theorem dX6_put_46 : decode cX6_put 46 = .ok (.i2b, 1) := by decide +kernel
theorem dX6_put_47 : decode cX6_put 47 = .ok (.iastore, 1) := by decide +kernel
theorem dX6_put_48 : decode cX6_put 48 = .ok (.goto 21, 3) := by decide +kernel
theorem dX6_put_51 : decode cX6_put 51 = .ok (.aload_n 0, 1) := by decide +kernel
theorem dX6_put_52 : decode cX6_put 52 = .ok (.getfield 9, 3) := by decide +kernel
theorem dX6_put_55 : decode cX6_put 55 = .ok (.iload_n 1, 1) := by decide +kernel
theorem dX6_put_56 : decode cX6_put 56 = .ok (.iload_n 2, 1) := by decide +kernel
theorem dX6_put_57 : decode cX6_put 57 = .ok (.i2s, 1) := by decide +kernel
theorem dX6_put_58 : decode cX6_put 58 = .ok (.iastore, 1) := by decide +kernel
theorem dX6_put_59 : decode cX6_put 59 = .ok (.goto 10, 3) := by decide +kernel
theorem dX6_put_62 : decode cX6_put 62 = .ok (.aload_n 0, 1) := by decide +kernel
theorem dX6_put_63 : decode cX6_put 63 = .ok (.getfield 9, 3) := by decide +kernel
theorem dX6_put_66 : decode cX6_put 66 = .ok (.iload_n 1, 1) := by decide +kernel
theorem dX6_put_67 : decode cX6_put 67 = .ok (.iload_n 2, 1) := by decide +kernel
theorem dX6_put_68 : decode cX6_put 68 = .ok (.iastore, 1) := by decide +kernel
theorem dX6_put_69 : decode cX6_put 69 = .ok (.return_, 1) := by decide +kernel
set_option maxRecDepth 4000 in
theorem s_X6_put_0 {w : GX} {d : Nat} {P : PN} {g : GI} {x0 : Nat} (hx0 : isS x0) (x1 : Int) (x2 : Int)
    (h : (((¬ nm (hld (g (x0) 2) (x1) (1)) = 0 → ((nm (g x0 1) = 0 → (0 ≤ nm x1 ∧ nm x1 < 60 ∧ ∀ g3 : GI, g3 = up2 g (x0 + 1) (nm x1).toNat (iByte x2) → P none g3)) ∧ (nm (g x0 1) = 1 → (0 ≤ nm x1 ∧ nm x1 < 60 ∧ ∀ g7 : GI, g7 = up2 g (x0 + 1) (nm x1).toNat (iShort x2) → P none g7)) ∧ (¬ nm (g x0 1) = 0 → ¬ nm (g x0 1) = 1 → (0 ≤ nm x1 ∧ nm x1 < 60 ∧ ∀ g10 : GI, g10 = up2 g (x0 + 1) (nm x1).toNat x2 → P none g10)))) ∧ (nm (hld (g (x0) 2) (x1) (1)) = 0 → P none g)))) :
    Zm w (d + 1) mX6_put 0 [some (aR (some (x0))), some (aI (x1)), some (aI (x2))] [] g P := by
  refine z_aload_n dX6_put_0 rfl rfl ?_
  refine z_iload_n dX6_put_1 rfl rfl ?_
  refine z_iconst dX6_put_2 ?_
  refine m_callV (as := [aI (x1), aI (1)]) dX6_put_3 lk_X6_28 mok_X6_holds in_X6_holds sl_X6_holds (congrArg Prod.fst hx0.1) rfl rfl rfl (Nat.le_of_ble_eq_true rfl) rfl (Nat.le_of_ble_eq_true rfl) rfl (c_X6_holds hx0 ?_)
  show Zm w (d + 1) mX6_put 6 [some (aR (some (x0))), some (aI (x1)), some (aI (x2))] [aI (hld (g (x0) 2) (x1) (1))] g P
  refine z_if_ne (tgt := 10) dX6_put_6 (by decide) (fun c1 => ?_) (fun c1 => ?_)
  · replace h := h.1 c1
    refine z_aload_n dX6_put_10 rfl rfl ?_
    refine z_getI dX6_put_11 fl_X6_15 (by decide) (congrArg Prod.fst hx0.1) ?_
    refine z_lsw (df := 62) (cs := [(0, 40), (1, 51)]) dX6_put_14 (by decide) (by decide) (by decide) (by decide) ?_
    by_cases c2 : nm (g x0 1) = 0
    · rw [sw_c c2]
      replace h := h.1 c2
      refine z_aload_n dX6_put_40 rfl rfl ?_
      refine m_getR dX6_put_41 fl_X6_9 (by decide) (congrArg Prod.fst hx0.1) hx0.2.1 ?_
      refine z_iload_n dX6_put_44 rfl rfl ?_
      refine z_iload_n dX6_put_45 rfl rfl ?_
      refine z_i2b dX6_put_46 ?_
      obtain ⟨q4, q5, h⟩ := h
      replace h := h _ rfl
      refine m_iast dX6_put_47 hx0.2.2 q4 q5 ?_
      refine z_goto (tgt := 69) dX6_put_48 (by decide) ?_
      exact m_vret dX6_put_69 rfl h
    rw [sw_n c2]; replace h := h.2
    by_cases c6 : nm (g x0 1) = 1
    · rw [sw_c c6]
      replace h := h.1 c6
      refine z_aload_n dX6_put_51 rfl rfl ?_
      refine m_getR dX6_put_52 fl_X6_9 (by decide) (congrArg Prod.fst hx0.1) hx0.2.1 ?_
      refine z_iload_n dX6_put_55 rfl rfl ?_
      refine z_iload_n dX6_put_56 rfl rfl ?_
      refine z_i2s dX6_put_57 ?_
      obtain ⟨q8, q9, h⟩ := h
      replace h := h _ rfl
      refine m_iast dX6_put_58 hx0.2.2 q8 q9 ?_
      refine z_goto (tgt := 69) dX6_put_59 (by decide) ?_
      exact m_vret dX6_put_69 rfl h
    rw [sw_n c6]; replace h := h.2
    replace h := h c2 c6
    rw [sw_e]
    refine z_aload_n dX6_put_62 rfl rfl ?_
    refine m_getR dX6_put_63 fl_X6_9 (by decide) (congrArg Prod.fst hx0.1) hx0.2.1 ?_
    refine z_iload_n dX6_put_66 rfl rfl ?_
    refine z_iload_n dX6_put_67 rfl rfl ?_
    obtain ⟨q11, q12, h⟩ := h
    replace h := h _ rfl
    refine m_iast dX6_put_68 hx0.2.2 q11 q12 ?_
    exact m_vret dX6_put_69 rfl h
  · replace h := h.2 (Decidable.not_not.mp c1)
    exact m_vret dX6_put_9 rfl h
theorem dX7_put_0 : decode cX7_put 0 = .ok (.aload_n 0, 1) := by decide +kernel
theorem dX7_put_1 : decode cX7_put 1 = .ok (.getfield 9, 3) := by decide +kernel
theorem dX7_put_4 : decode cX7_put 4 = .ok (.aload_n 0, 1) := by decide +kernel
theorem dX7_put_5 : decode cX7_put 5 = .ok (.getfield 21, 3) := by decide +kernel
theorem dX7_put_8 : decode cX7_put 8 = .ok (.arraylength, 1) := by decide +kernel
theorem dX7_put_9 : decode cX7_put 9 = .ok (.if_icmp .lt 6, 3) := by decide +kernel
theorem dX7_put_12 : decode cX7_put 12 = .ok (.bipush (-4), 2) := by decide +kernel
theorem dX7_put_14 : decode cX7_put 14 = .ok (.ireturn, 1) := by decide +kernel
theorem dX7_put_15 : decode cX7_put 15 = .ok (.aload_n 0, 1) := by decide +kernel
theorem dX7_put_16 : decode cX7_put 16 = .ok (.getfield 21, 3) := by decide +kernel
theorem dX7_put_19 : decode cX7_put 19 = .ok (.aload_n 0, 1) := by decide +kernel
theorem dX7_put_20 : decode cX7_put 20 = .ok (.getfield 9, 3) := by decide +kernel
theorem dX7_put_23 : decode cX7_put 23 = .ok (.iload_n 1, 1) := by decide +kernel
theorem dX7_put_24 : decode cX7_put 24 = .ok (.iastore, 1) := by decide +kernel
theorem dX7_put_25 : decode cX7_put 25 = .ok (.aload_n 0, 1) := by decide +kernel
theorem dX7_put_26 : decode cX7_put 26 = .ok (.dup, 1) := by decide +kernel
theorem dX7_put_27 : decode cX7_put 27 = .ok (.getfield 9, 3) := by decide +kernel
theorem dX7_put_30 : decode cX7_put 30 = .ok (.iconst 1, 1) := by decide +kernel
theorem dX7_put_31 : decode cX7_put 31 = .ok (.iadd, 1) := by decide +kernel
theorem dX7_put_32 : decode cX7_put 32 = .ok (.putfield 9, 3) := by decide +kernel
theorem dX7_put_35 : decode cX7_put 35 = .ok (.aload_n 0, 1) := by decide +kernel
theorem dX7_put_36 : decode cX7_put 36 = .ok (.getfield 9, 3) := by decide +kernel
theorem dX7_put_39 : decode cX7_put 39 = .ok (.ireturn, 1) := by decide +kernel
set_option maxRecDepth 4000 in
theorem s_X7_put_0 {w : GX} {d : Nat} {P : PN} {g : GI} {x0 : Nat} (hx0 : isT x0) (x1 : Int)
    (h : ((nm (g x0 1) < nm ((((kd0 (x0 + 1)).2 : Nat) : Int)) → (0 ≤ nm (g x0 1) ∧ nm (g x0 1) < (((kd0 (x0 + 1)).2 : Nat) : Int) ∧ ∀ g2 : GI, g2 = up2 g (x0 + 1) (nm (g x0 1)).toNat x1 → (∀ g5 : GI, g5 = up2 g2 x0 1 ((g2 x0 1) + 1) → P (some (aI (g5 x0 1))) g5))) ∧ (¬ nm (g x0 1) < nm ((((kd0 (x0 + 1)).2 : Nat) : Int)) → P (some (aI ((-4)))) g))) :
    Zm w d mX7_put 0 [some (aR (some (x0))), some (aI (x1))] [] g P := by
  refine z_aload_n dX7_put_0 rfl rfl ?_
  refine z_getI dX7_put_1 fl_X7_9 (by decide) (congrArg Prod.fst hx0.1) ?_
  refine z_aload_n dX7_put_4 rfl rfl ?_
  refine m_getR dX7_put_5 fl_X7_21 (by decide) (congrArg Prod.fst hx0.1) hx0.2.1 ?_
  refine m_alen dX7_put_8 (kd_of hx0.2.2) ?_
  refine z_icmp_lt (tgt := 15) dX7_put_9 (by decide) (fun c1 => ?_) (fun c1 => ?_)
  · replace h := h.1 c1
    refine z_aload_n dX7_put_15 rfl rfl ?_
    refine m_getR dX7_put_16 fl_X7_21 (by decide) (congrArg Prod.fst hx0.1) hx0.2.1 ?_
    refine z_aload_n dX7_put_19 rfl rfl ?_
    refine z_getI dX7_put_20 fl_X7_9 (by decide) (congrArg Prod.fst hx0.1) ?_
    refine z_iload_n dX7_put_23 rfl rfl ?_
    obtain ⟨q3, q4, h⟩ := h
    replace h := h _ rfl
    refine m_iast dX7_put_24 (kd_of hx0.2.2) q3 q4 ?_
    refine z_aload_n dX7_put_25 rfl rfl ?_
    refine z_dup dX7_put_26 rfl ?_
    refine z_getI dX7_put_27 fl_X7_9 (by decide) (congrArg Prod.fst hx0.1) ?_
    refine z_iconst dX7_put_30 ?_
    refine z_iadd dX7_put_31 ?_
    replace h := h _ rfl
    refine z_putI dX7_put_32 fw_X7_9 (by decide) (congrArg Prod.fst hx0.1) ?_
    refine z_aload_n dX7_put_35 rfl rfl ?_
    refine z_getI dX7_put_36 fl_X7_9 (by decide) (congrArg Prod.fst hx0.1) ?_
    exact m_iret dX7_put_39 rfl h
  · replace h := h.2 c1
    refine z_bipush dX7_put_12 rfl ?_
    exact m_iret dX7_put_14 rfl h
theorem dX7_dropLast_0 : decode cX7_dropLast 0 = .ok (.aload_n 0, 1) := by decide +kernel
theorem dX7_dropLast_1 : decode cX7_dropLast 1 = .ok (.getfield 9, 3) := by decide +kernel
theorem dX7_dropLast_4 : decode cX7_dropLast 4 = .ok (.ifCond .gt 6, 3) := by decide +kernel
theorem dX7_dropLast_7 : decode cX7_dropLast 7 = .ok (.bipush (-3), 2) := by decide +kernel
theorem dX7_dropLast_9 : decode cX7_dropLast 9 = .ok (.ireturn, 1) := by decide +kernel
theorem dX7_dropLast_10 : decode cX7_dropLast 10 = .ok (.aload_n 0, 1) := by decide +kernel
theorem dX7_dropLast_11 : decode cX7_dropLast 11 = .ok (.dup, 1) := by decide +kernel
theorem dX7_dropLast_12 : decode cX7_dropLast 12 = .ok (.getfield 9, 3) := by decide +kernel
theorem dX7_dropLast_15 : decode cX7_dropLast 15 = .ok (.iconst 1, 1) := by decide +kernel
theorem dX7_dropLast_16 : decode cX7_dropLast 16 = .ok (.isub, 1) := by decide +kernel
theorem dX7_dropLast_17 : decode cX7_dropLast 17 = .ok (.putfield 9, 3) := by decide +kernel
theorem dX7_dropLast_20 : decode cX7_dropLast 20 = .ok (.aload_n 0, 1) := by decide +kernel
theorem dX7_dropLast_21 : decode cX7_dropLast 21 = .ok (.getfield 9, 3) := by decide +kernel
theorem dX7_dropLast_24 : decode cX7_dropLast 24 = .ok (.ireturn, 1) := by decide +kernel
set_option maxRecDepth 4000 in
theorem s_X7_dropLast_0 {w : GX} {d : Nat} {P : PN} {g : GI} {x0 : Nat} (hx0 : isT x0)
    (h : ((0 < nm (g x0 1) → (∀ g2 : GI, g2 = up2 g x0 1 ((g x0 1) - 1) → P (some (aI (g2 x0 1))) g2)) ∧ (¬ 0 < nm (g x0 1) → P (some (aI ((-3)))) g))) :
    Zm w d mX7_dropLast 0 [some (aR (some (x0)))] [] g P := by
  refine z_aload_n dX7_dropLast_0 rfl rfl ?_
  refine z_getI dX7_dropLast_1 fl_X7_9 (by decide) (congrArg Prod.fst hx0.1) ?_
  refine z_if_gt (tgt := 10) dX7_dropLast_4 (by decide) (fun c1 => ?_) (fun c1 => ?_)
  · replace h := h.1 c1
    refine z_aload_n dX7_dropLast_10 rfl rfl ?_
    refine z_dup dX7_dropLast_11 rfl ?_
    refine z_getI dX7_dropLast_12 fl_X7_9 (by decide) (congrArg Prod.fst hx0.1) ?_
    refine z_iconst dX7_dropLast_15 ?_
    refine z_isub dX7_dropLast_16 ?_
    replace h := h _ rfl
    refine z_putI dX7_dropLast_17 fw_X7_9 (by decide) (congrArg Prod.fst hx0.1) ?_
    refine z_aload_n dX7_dropLast_20 rfl rfl ?_
    refine z_getI dX7_dropLast_21 fl_X7_9 (by decide) (congrArg Prod.fst hx0.1) ?_
    exact m_iret dX7_dropLast_24 rfl h
  · replace h := h.2 c1
    refine z_bipush dX7_dropLast_7 rfl ?_
    exact m_iret dX7_dropLast_9 rfl h
theorem dX7_riverFault_0 : decode cX7_riverFault 0 = .ok (.iconst 0, 1) := by decide +kernel
theorem dX7_riverFault_1 : decode cX7_riverFault 1 = .ok (.istore_n 1, 1) := by decide +kernel
theorem dX7_riverFault_2 : decode cX7_riverFault 2 = .ok (.iload_n 1, 1) := by decide +kernel
theorem dX7_riverFault_3 : decode cX7_riverFault 3 = .ok (.aload_n 0, 1) := by decide +kernel
theorem dX7_riverFault_4 : decode cX7_riverFault 4 = .ok (.getfield 9, 3) := by decide +kernel
theorem dX7_riverFault_7 : decode cX7_riverFault 7 = .ok (.if_icmp .ge 24, 3) := by decide +kernel
theorem dX7_riverFault_10 : decode cX7_riverFault 10 = .ok (.aload_n 0, 1) := by decide +kernel
theorem dX7_riverFault_11 : decode cX7_riverFault 11 = .ok (.getfield 21, 3) := by decide +kernel
theorem dX7_riverFault_14 : decode cX7_riverFault 14 = .ok (.iload_n 1, 1) := by decide +kernel
theorem dX7_riverFault_15 : decode cX7_riverFault 15 = .ok (.iaload, 1) := by decide +kernel
theorem dX7_riverFault_16 : decode cX7_riverFault 16 = .ok (.invokestatic 25, 3) := by decide +kernel
theorem dX7_riverFault_19 : decode cX7_riverFault 19 = .ok (.iconst (-1), 1) := by decide +kernel
theorem dX7_riverFault_20 : decode cX7_riverFault 20 = .ok (.if_icmp .ne 5, 3) := by decide +kernel
theorem dX7_riverFault_23 : decode cX7_riverFault 23 = .ok (.iload_n 1, 1) := by decide +kernel
theorem dX7_riverFault_24 : decode cX7_riverFault 24 = .ok (.ireturn, 1) := by decide +kernel
theorem dX7_riverFault_25 : decode cX7_riverFault 25 = .ok (.iinc 1 1, 3) := by decide +kernel
theorem dX7_riverFault_28 : decode cX7_riverFault 28 = .ok (.goto (-26), 3) := by decide +kernel
theorem dX7_riverFault_31 : decode cX7_riverFault 31 = .ok (.iconst (-1), 1) := by decide +kernel
theorem dX7_riverFault_32 : decode cX7_riverFault 32 = .ok (.ireturn, 1) := by decide +kernel
set_option maxRecDepth 4000 in
theorem s_X7_riverFault_0 {w : GX} {d : Nat} {P : PN} {g : GI} {x0 : Nat} (hx0 : isT x0)
    (h : Zm w (d + 2) mX7_riverFault 2 [some (aR (some (x0))), some (aI (0))] [] g P) :
    Zm w (d + 2) mX7_riverFault 0 [some (aR (some (x0))), none] [] g P := by
  refine z_iconst dX7_riverFault_0 ?_
  refine z_istore_n dX7_riverFault_1 rfl (by decide) rfl ?_
  show Zm w (d + 2) mX7_riverFault 2 [some (aR (some (x0))), some (aI (0))] [] g P
  exact z_weak (by simp [lle]) h
set_option maxRecDepth 4000 in
theorem s_X7_riverFault_2 {w : GX} {d : Nat} {P : PN} {g : GI} {x0 : Nat} (hx0 : isT x0) (x1 : Int)
    (h : ((¬ nm x1 < nm (g x0 1) → P (some (aI ((-1)))) g) ∧ (nm x1 < nm (g x0 1) → (0 ≤ nm x1 ∧ nm x1 < (((kd0 (x0 + 1)).2 : Nat) : Int) ∧ (((¬ nm (kob (g (x0 + 1) (nm x1).toNat)) = nm ((-1)) → Zm w (d + 2) mX7_riverFault 2 [some (aR (some (x0))), some (aI (x1 + 1))] [] g P) ∧ (nm (kob (g (x0 + 1) (nm x1).toNat)) = nm ((-1)) → P (some (aI (x1))) g))))))) :
    Zm w (d + 2) mX7_riverFault 2 [some (aR (some (x0))), some (aI (x1))] [] g P := by
  refine z_iload_n dX7_riverFault_2 rfl rfl ?_
  refine z_aload_n dX7_riverFault_3 rfl rfl ?_
  refine z_getI dX7_riverFault_4 fl_X7_9 (by decide) (congrArg Prod.fst hx0.1) ?_
  refine z_icmp_ge (tgt := 31) dX7_riverFault_7 (by decide) (fun c1 => ?_) (fun c1 => ?_)
  · replace h := h.1 c1
    refine z_iconst dX7_riverFault_31 ?_
    exact m_iret dX7_riverFault_32 rfl h
  · replace h := h.2 (Decidable.not_not.mp c1)
    refine z_aload_n dX7_riverFault_10 rfl rfl ?_
    refine m_getR dX7_riverFault_11 fl_X7_21 (by decide) (congrArg Prod.fst hx0.1) hx0.2.1 ?_
    refine z_iload_n dX7_riverFault_14 rfl rfl ?_
    obtain ⟨q4, q5, h⟩ := h
    refine m_iald dX7_riverFault_15 (kd_of hx0.2.2) q4 q5 ?_
    refine m_callS (as := [aI (g (x0 + 1) (nm x1).toNat)]) dX7_riverFault_16 lk_X7_25 mok_X7_kindOfByte st_X7_kindOfByte rfl (Nat.le_of_ble_eq_true rfl) rfl (Nat.le_of_ble_eq_true rfl) rfl (c_X7_kindOfByte  ?_)
    show Zm w (d + 2) mX7_riverFault 19 [some (aR (some (x0))), some (aI (x1))] [aI (kob (g (x0 + 1) (nm x1).toNat))] g P
    refine z_iconst dX7_riverFault_19 ?_
    refine z_icmp_ne (tgt := 25) dX7_riverFault_20 (by decide) (fun c6 => ?_) (fun c6 => ?_)
    · replace h := h.1 c6
      refine z_iinc dX7_riverFault_25 rfl (by decide) rfl ?_
      show Zm w (d + 2) mX7_riverFault 28 [some (aR (some (x0))), some (aI (x1 + 1))] [] g P
      refine z_goto (tgt := 2) dX7_riverFault_28 (by decide) ?_
      exact z_weak (by simp [lle]) h
    · replace h := h.2 (Decidable.not_not.mp c6)
      refine z_iload_n dX7_riverFault_23 rfl rfl ?_
      exact m_iret dX7_riverFault_24 rfl h
theorem dX7_peopleFault_0 : decode cX7_peopleFault 0 = .ok (.iconst 0, 1) := by decide +kernel
theorem dX7_peopleFault_1 : decode cX7_peopleFault 1 = .ok (.istore_n 1, 1) := by decide +kernel
theorem dX7_peopleFault_2 : decode cX7_peopleFault 2 = .ok (.iload_n 1, 1) := by decide +kernel
theorem dX7_peopleFault_3 : decode cX7_peopleFault 3 = .ok (.aload_n 0, 1) := by decide +kernel
theorem dX7_peopleFault_4 : decode cX7_peopleFault 4 = .ok (.getfield 9, 3) := by decide +kernel
theorem dX7_peopleFault_7 : decode cX7_peopleFault 7 = .ok (.if_icmp .ge 27, 3) := by decide +kernel
theorem dX7_peopleFault_10 : decode cX7_peopleFault 10 = .ok (.iload_n 1, 1) := by decide +kernel
theorem dX7_peopleFault_11 : decode cX7_peopleFault 11 = .ok (.bipush 6, 2) := by decide +kernel
theorem dX7_peopleFault_13 : decode cX7_peopleFault 13 = .ok (.irem, 1) := by decide +kernel
theorem dX7_peopleFault_14 : decode cX7_peopleFault 14 = .ok (.aload_n 0, 1) := by decide +kernel
theorem dX7_peopleFault_15 : decode cX7_peopleFault 15 = .ok (.getfield 21, 3) := by decide +kernel
theorem dX7_peopleFault_18 : decode cX7_peopleFault 18 = .ok (.iload_n 1, 1) := by decide +kernel
theorem dX7_peopleFault_19 : decode cX7_peopleFault 19 = .ok (.iaload, 1) := by decide +kernel
theorem dX7_peopleFault_20 : decode cX7_peopleFault 20 = .ok (.invokestatic 29, 3) := by decide +kernel
theorem dX7_peopleFault_23 : decode cX7_peopleFault 23 = .ok (.ifCond .ne 5, 3) := by decide +kernel
theorem dX7_peopleFault_26 : decode cX7_peopleFault 26 = .ok (.iload_n 1, 1) := by decide +kernel
theorem dX7_peopleFault_27 : decode cX7_peopleFault 27 = .ok (.ireturn, 1) := by decide +kernel
theorem dX7_peopleFault_28 : decode cX7_peopleFault 28 = .ok (.iinc 1 1, 3) := by decide +kernel
theorem dX7_peopleFault_31 : decode cX7_peopleFault 31 = .ok (.goto (-29), 3) := by decide +kernel
theorem dX7_peopleFault_34 : decode cX7_peopleFault 34 = .ok (.aload_n 0, 1) := by decide +kernel
theorem dX7_peopleFault_35 : decode cX7_peopleFault 35 = .ok (.getfield 9, 3) := by decide +kernel
theorem dX7_peopleFault_38 : decode cX7_peopleFault 38 = .ok (.ifCond .eq 14, 3) := by decide +kernel
theorem dX7_peopleFault_41 : decode cX7_peopleFault 41 = .ok (.aload_n 0, 1) := by decide +kernel
theorem dX7_peopleFault_42 : decode cX7_peopleFault 42 = .ok (.getfield 9, 3) := by decide +kernel
theorem dX7_peopleFault_45 : decode cX7_peopleFault 45 = .ok (.bipush 6, 2) := by decide +kernel
theorem dX7_peopleFault_47 : decode cX7_peopleFault 47 = .ok (.irem, 1) := by decide +kernel
theorem dX7_peopleFault_48 : decode cX7_peopleFault 48 = .ok (.iconst 5, 1) := by decide +kernel
theorem dX7_peopleFault_49 : decode cX7_peopleFault 49 = .ok (.if_icmp .ne 7, 3) := by decide +kernel
theorem dX7_peopleFault_52 : decode cX7_peopleFault 52 = .ok (.iconst (-1), 1) := by decide +kernel
theorem dX7_peopleFault_53 : decode cX7_peopleFault 53 = .ok (.goto 7, 3) := by decide +kernel
theorem dX7_peopleFault_56 : decode cX7_peopleFault 56 = .ok (.aload_n 0, 1) := by decide +kernel
theorem dX7_peopleFault_57 : decode cX7_peopleFault 57 = .ok (.getfield 9, 3) := by decide +kernel
theorem dX7_peopleFault_60 : decode cX7_peopleFault 60 = .ok (.ireturn, 1) := by decide +kernel
set_option maxRecDepth 4000 in
theorem s_X7_peopleFault_0 {w : GX} {d : Nat} {P : PN} {g : GI} {x0 : Nat} (hx0 : isT x0)
    (h : Zm w (d + 2) mX7_peopleFault 2 [some (aR (some (x0))), some (aI (0))] [] g P) :
    Zm w (d + 2) mX7_peopleFault 0 [some (aR (some (x0))), none] [] g P := by
  refine z_iconst dX7_peopleFault_0 ?_
  refine z_istore_n dX7_peopleFault_1 rfl (by decide) rfl ?_
  show Zm w (d + 2) mX7_peopleFault 2 [some (aR (some (x0))), some (aI (0))] [] g P
  exact z_weak (by simp [lle]) h
set_option maxRecDepth 4000 in
theorem s_X7_peopleFault_2 {w : GX} {d : Nat} {P : PN} {g : GI} {x0 : Nat} (hx0 : isT x0) (x1 : Int)
    (h : ((¬ nm x1 < nm (g x0 1) → ((nm (g x0 1) = 0 → P (some (aI ((-1)))) g) ∧ (¬ nm (g x0 1) = 0 → ((¬ nm (iRem (g x0 1) 6) = nm 5 → P (some (aI (g x0 1))) g) ∧ (nm (iRem (g x0 1) 6) = nm 5 → P (some (aI ((-1)))) g))))) ∧ (nm x1 < nm (g x0 1) → (0 ≤ nm x1 ∧ nm x1 < (((kd0 (x0 + 1)).2 : Nat) : Int) ∧ (((¬ nm (fitP (iRem x1 6) (g (x0 + 1) (nm x1).toNat)) = 0 → Zm w (d + 2) mX7_peopleFault 2 [some (aR (some (x0))), some (aI (x1 + 1))] [] g P) ∧ (nm (fitP (iRem x1 6) (g (x0 + 1) (nm x1).toNat)) = 0 → P (some (aI (x1))) g))))))) :
    Zm w (d + 2) mX7_peopleFault 2 [some (aR (some (x0))), some (aI (x1))] [] g P := by
  refine z_iload_n dX7_peopleFault_2 rfl rfl ?_
  refine z_aload_n dX7_peopleFault_3 rfl rfl ?_
  refine z_getI dX7_peopleFault_4 fl_X7_9 (by decide) (congrArg Prod.fst hx0.1) ?_
  refine z_icmp_ge (tgt := 34) dX7_peopleFault_7 (by decide) (fun c1 => ?_) (fun c1 => ?_)
  · replace h := h.1 c1
    refine z_aload_n dX7_peopleFault_34 rfl rfl ?_
    refine z_getI dX7_peopleFault_35 fl_X7_9 (by decide) (congrArg Prod.fst hx0.1) ?_
    refine z_if_eq (tgt := 52) dX7_peopleFault_38 (by decide) (fun c2 => ?_) (fun c2 => ?_)
    · replace h := h.1 c2
      refine z_iconst dX7_peopleFault_52 ?_
      refine z_goto (tgt := 60) dX7_peopleFault_53 (by decide) ?_
      exact m_iret dX7_peopleFault_60 rfl h
    · replace h := h.2 c2
      refine z_aload_n dX7_peopleFault_41 rfl rfl ?_
      refine z_getI dX7_peopleFault_42 fl_X7_9 (by decide) (congrArg Prod.fst hx0.1) ?_
      refine z_bipush dX7_peopleFault_45 rfl ?_
      refine z_irem dX7_peopleFault_47 (by decide) ?_
      refine z_iconst dX7_peopleFault_48 ?_
      refine z_icmp_ne (tgt := 56) dX7_peopleFault_49 (by decide) (fun c3 => ?_) (fun c3 => ?_)
      · replace h := h.1 c3
        refine z_aload_n dX7_peopleFault_56 rfl rfl ?_
        refine z_getI dX7_peopleFault_57 fl_X7_9 (by decide) (congrArg Prod.fst hx0.1) ?_
        exact m_iret dX7_peopleFault_60 rfl h
      · replace h := h.2 (Decidable.not_not.mp c3)
        refine z_iconst dX7_peopleFault_52 ?_
        refine z_goto (tgt := 60) dX7_peopleFault_53 (by decide) ?_
        exact m_iret dX7_peopleFault_60 rfl h
  · replace h := h.2 (Decidable.not_not.mp c1)
    refine z_iload_n dX7_peopleFault_10 rfl rfl ?_
    refine z_bipush dX7_peopleFault_11 rfl ?_
    refine z_irem dX7_peopleFault_13 (by decide) ?_
    refine z_aload_n dX7_peopleFault_14 rfl rfl ?_
    refine m_getR dX7_peopleFault_15 fl_X7_21 (by decide) (congrArg Prod.fst hx0.1) hx0.2.1 ?_
    refine z_iload_n dX7_peopleFault_18 rfl rfl ?_
    obtain ⟨q6, q7, h⟩ := h
    refine m_iald dX7_peopleFault_19 (kd_of hx0.2.2) q6 q7 ?_
    refine m_callS (as := [aI (iRem x1 6), aI (g (x0 + 1) (nm x1).toNat)]) dX7_peopleFault_20 lk_X7_29 mok_X7_fitsPerson st_X7_fitsPerson rfl (Nat.le_of_ble_eq_true rfl) rfl (Nat.le_of_ble_eq_true rfl) rfl (c_X7_fitsPerson  ?_)
    show Zm w (d + 2) mX7_peopleFault 23 [some (aR (some (x0))), some (aI (x1))] [aI (fitP (iRem x1 6) (g (x0 + 1) (nm x1).toNat))] g P
    refine z_if_ne (tgt := 28) dX7_peopleFault_23 (by decide) (fun c8 => ?_) (fun c8 => ?_)
    · replace h := h.1 c8
      refine z_iinc dX7_peopleFault_28 rfl (by decide) rfl ?_
      show Zm w (d + 2) mX7_peopleFault 31 [some (aR (some (x0))), some (aI (x1 + 1))] [] g P
      refine z_goto (tgt := 2) dX7_peopleFault_31 (by decide) ?_
      exact z_weak (by simp [lle]) h
    · replace h := h.2 (Decidable.not_not.mp c8)
      refine z_iload_n dX7_peopleFault_26 rfl rfl ?_
      exact m_iret dX7_peopleFault_27 rfl h
theorem dX8_begin_0 : decode cX8_begin 0 = .ok (.aload_n 0, 1) := by decide +kernel
theorem dX8_begin_1 : decode cX8_begin 1 = .ok (.getfield 15, 3) := by decide +kernel
theorem dX8_begin_4 : decode cX8_begin 4 = .ok (.iconst 0, 1) := by decide +kernel
theorem dX8_begin_5 : decode cX8_begin 5 = .ok (.invokestatic 28, 3) := by decide +kernel
theorem dX8_begin_8 : decode cX8_begin 8 = .ok (.aload_n 0, 1) := by decide +kernel
theorem dX8_begin_9 : decode cX8_begin 9 = .ok (.aload_n 1, 1) := by decide +kernel
theorem dX8_begin_10 : decode cX8_begin 10 = .ok (.getfield 34, 3) := by decide +kernel
theorem dX8_begin_13 : decode cX8_begin 13 = .ok (.putfield 24, 3) := by decide +kernel
theorem dX8_begin_16 : decode cX8_begin 16 = .ok (.iconst 0, 1) := by decide +kernel
theorem dX8_begin_17 : decode cX8_begin 17 = .ok (.istore_n 2, 1) := by decide +kernel
theorem dX8_begin_18 : decode cX8_begin 18 = .ok (.iload_n 2, 1) := by decide +kernel
theorem dX8_begin_19 : decode cX8_begin 19 = .ok (.aload_n 0, 1) := by decide +kernel
theorem dX8_begin_20 : decode cX8_begin 20 = .ok (.getfield 24, 3) := by decide +kernel
theorem dX8_begin_23 : decode cX8_begin 23 = .ok (.if_icmp .ge 35, 3) := by decide +kernel
theorem dX8_begin_26 : decode cX8_begin 26 = .ok (.aload_n 0, 1) := by decide +kernel
theorem dX8_begin_27 : decode cX8_begin 27 = .ok (.getfield 9, 3) := by decide +kernel
theorem dX8_begin_30 : decode cX8_begin 30 = .ok (.iload_n 2, 1) := by decide +kernel
theorem dX8_begin_31 : decode cX8_begin 31 = .ok (.aload_n 1, 1) := by decide +kernel
theorem dX8_begin_32 : decode cX8_begin 32 = .ok (.getfield 39, 3) := by decide +kernel
theorem dX8_begin_35 : decode cX8_begin 35 = .ok (.iload_n 2, 1) := by decide +kernel
theorem dX8_begin_36 : decode cX8_begin 36 = .ok (.iaload, 1) := by decide +kernel
theorem dX8_begin_37 : decode cX8_begin 37 = .ok (.iastore, 1) := by decide +kernel
theorem dX8_begin_38 : decode cX8_begin 38 = .ok (.aload_n 0, 1) := by decide +kernel
theorem dX8_begin_39 : decode cX8_begin 39 = .ok (.getfield 21, 3) := by decide +kernel
theorem dX8_begin_42 : decode cX8_begin 42 = .ok (.aload_n 0, 1) := by decide +kernel
theorem dX8_begin_43 : decode cX8_begin 43 = .ok (.getfield 24, 3) := by decide +kernel
theorem dX8_begin_46 : decode cX8_begin 46 = .ok (.iconst 1, 1) := by decide +kernel
theorem dX8_begin_47 : decode cX8_begin 47 = .ok (.isub, 1) := by decide +kernel
theorem dX8_begin_48 : decode cX8_begin 48 = .ok (.iload_n 2, 1) := by decide +kernel
theorem dX8_begin_49 : decode cX8_begin 49 = .ok (.isub, 1) := by decide +kernel
theorem dX8_begin_50 : decode cX8_begin 50 = .ok (.iload_n 2, 1) := by decide +kernel
theorem dX8_begin_51 : decode cX8_begin 51 = .ok (.iastore, 1) := by decide +kernel
theorem dX8_begin_52 : decode cX8_begin 52 = .ok (.iinc 2 1, 3) := by decide +kernel
theorem dX8_begin_55 : decode cX8_begin 55 = .ok (.goto (-37), 3) := by decide +kernel
theorem dX8_begin_58 : decode cX8_begin 58 = .ok (.iconst 0, 1) := by decide +kernel
theorem dX8_begin_59 : decode cX8_begin 59 = .ok (.istore_n 2, 1) := by decide +kernel
theorem dX8_begin_60 : decode cX8_begin 60 = .ok (.iload_n 2, 1) := by decide +kernel
theorem dX8_begin_61 : decode cX8_begin 61 = .ok (.aload_n 1, 1) := by decide +kernel
theorem dX8_begin_62 : decode cX8_begin 62 = .ok (.getfield 42, 3) := by decide +kernel
theorem dX8_begin_65 : decode cX8_begin 65 = .ok (.if_icmp .ge 36, 3) := by decide +kernel
theorem dX8_begin_68 : decode cX8_begin 68 = .ok (.aload_n 0, 1) := by decide +kernel
theorem dX8_begin_69 : decode cX8_begin 69 = .ok (.getfield 18, 3) := by decide +kernel
theorem dX8_begin_72 : decode cX8_begin 72 = .ok (.iload_n 2, 1) := by decide +kernel
theorem dX8_begin_73 : decode cX8_begin 73 = .ok (.aload_n 1, 1) := by decide +kernel
theorem dX8_begin_74 : decode cX8_begin 74 = .ok (.getfield 34, 3) := by decide +kernel
theorem dX8_begin_77 : decode cX8_begin 77 = .ok (.iload_n 2, 1) := by decide +kernel
theorem dX8_begin_78 : decode cX8_begin 78 = .ok (.iadd, 1) := by decide +kernel
theorem dX8_begin_79 : decode cX8_begin 79 = .ok (.iastore, 1) := by decide +kernel
theorem dX8_begin_80 : decode cX8_begin 80 = .ok (.aload_n 0, 1) := by decide +kernel
theorem dX8_begin_81 : decode cX8_begin 81 = .ok (.getfield 9, 3) := by decide +kernel
theorem dX8_begin_84 : decode cX8_begin 84 = .ok (.aload_n 1, 1) := by decide +kernel
theorem dX8_begin_85 : decode cX8_begin 85 = .ok (.getfield 34, 3) := by decide +kernel
theorem dX8_begin_88 : decode cX8_begin 88 = .ok (.iload_n 2, 1) := by decide +kernel
theorem dX8_begin_89 : decode cX8_begin 89 = .ok (.iadd, 1) := by decide +kernel
theorem dX8_begin_90 : decode cX8_begin 90 = .ok (.bipush 22, 2) := by decide +kernel
theorem dX8_begin_92 : decode cX8_begin 92 = .ok (.iload_n 2, 1) := by decide +kernel
theorem dX8_begin_93 : decode cX8_begin 93 = .ok (.iadd, 1) := by decide +kernel
theorem dX8_begin_94 : decode cX8_begin 94 = .ok (.iastore, 1) := by decide +kernel
theorem dX8_begin_95 : decode cX8_begin 95 = .ok (.iinc 2 1, 3) := by decide +kernel
theorem dX8_begin_98 : decode cX8_begin 98 = .ok (.goto (-38), 3) := by decide +kernel
theorem dX8_begin_101 : decode cX8_begin 101 = .ok (.return_, 1) := by decide +kernel
set_option maxRecDepth 4000 in
theorem s_X8_begin_0 {w : GX} {d : Nat} {P : PN} {g : GI} {x0 : Nat} (hx0 : isW x0)
    (h : Zm w d mJ7_fill_53178 0 [some (aR (some (x0 + 2))), some (aI (0)), none, none] [] g (fun r g1 => r = none ∧ (∀ g3 : GI, g3 = up2 g1 x0 4 (g1 18 9) → Zm w (d + 1) mX8_begin 18 [some (aR (some (x0))), some (aR (some (18))), some (aI (0))] [] g3 P))) :
    Zm w (d + 1) mX8_begin 0 [some (aR (some (x0))), some (aR (some (18))), none] [] g P := by
  refine z_aload_n dX8_begin_0 rfl rfl ?_
  refine m_getR dX8_begin_1 fl_X8_15 (by decide) (congrArg Prod.fst hx0.1) hx0.2.2.2.2.2.2.1 ?_
  refine z_iconst dX8_begin_4 ?_
  refine m_callS (as := [aR (some (x0 + 2)), aI (0)]) dX8_begin_5 lk_X8_28 mok_J7_fill_53178 st_J7_fill_53178 rfl (Nat.le_of_ble_eq_true rfl) rfl (Nat.le_of_ble_eq_true rfl) rfl (m_mono (fun r g1 hr => ?_) h)
  obtain ⟨rfl, h⟩ := hr
  show Zm w (d + 1) mX8_begin 8 [some (aR (some (x0))), some (aR (some (18))), none] [] g1 P
  refine z_aload_n dX8_begin_8 rfl rfl ?_
  refine z_aload_n dX8_begin_9 rfl rfl ?_
  refine z_getI dX8_begin_10 fl_X8_34 (by decide) kt_18 ?_
  replace h := h _ rfl
  refine z_putI dX8_begin_13 fw_X8_24 (by decide) (congrArg Prod.fst hx0.1) ?_
  refine z_iconst dX8_begin_16 ?_
  refine z_istore_n dX8_begin_17 rfl (by decide) rfl ?_
  show Zm w (d + 1) mX8_begin 18 [some (aR (some (x0))), some (aR (some (18))), some (aI (0))] [] (up2 g1 x0 4 (g1 18 9)) P
  exact z_weak (by simp [lle]) h
set_option maxRecDepth 4000 in
theorem s_X8_begin_18 {w : GX} {d : Nat} {P : PN} {g : GI} {x0 : Nat} (hx0 : isW x0) (x2 : Int)
    (h : ((¬ nm x2 < nm (g x0 4) → Zm w (d + 1) mX8_begin 60 [some (aR (some (x0))), some (aR (some (18))), some (aI (0))] [] g P) ∧ (nm x2 < nm (g x0 4) → (0 ≤ nm x2 ∧ nm x2 < 20 ∧ (0 ≤ nm x2 ∧ nm x2 < 28 ∧ ∀ g6 : GI, g6 = up2 g (x0 + 1) (nm x2).toNat (g 22 (nm x2).toNat) → (0 ≤ nm (((g6 x0 4) - 1) - x2) ∧ nm (((g6 x0 4) - 1) - x2) < 20 ∧ ∀ g9 : GI, g9 = up2 g6 (x0 + 4) (nm (((g6 x0 4) - 1) - x2)).toNat x2 → Zm w (d + 1) mX8_begin 18 [some (aR (some (x0))), some (aR (some (18))), some (aI (x2 + 1))] [] g9 P)))))) :
    Zm w (d + 1) mX8_begin 18 [some (aR (some (x0))), some (aR (some (18))), some (aI (x2))] [] g P := by
  refine z_iload_n dX8_begin_18 rfl rfl ?_
  refine z_aload_n dX8_begin_19 rfl rfl ?_
  refine z_getI dX8_begin_20 fl_X8_24 (by decide) (congrArg Prod.fst hx0.1) ?_
  refine z_icmp_ge (tgt := 58) dX8_begin_23 (by decide) (fun c1 => ?_) (fun c1 => ?_)
  · replace h := h.1 c1
    refine z_iconst dX8_begin_58 ?_
    refine z_istore_n dX8_begin_59 rfl (by decide) rfl ?_
    show Zm w (d + 1) mX8_begin 60 [some (aR (some (x0))), some (aR (some (18))), some (aI (0))] [] g P
    exact z_weak (by simp [lle]) h
  · replace h := h.2 (Decidable.not_not.mp c1)
    refine z_aload_n dX8_begin_26 rfl rfl ?_
    refine m_getR dX8_begin_27 fl_X8_9 (by decide) (congrArg Prod.fst hx0.1) hx0.2.2.2.2.2.1 ?_
    refine z_iload_n dX8_begin_30 rfl rfl ?_
    refine z_aload_n dX8_begin_31 rfl rfl ?_
    refine m_getR dX8_begin_32 fl_X8_39 (by decide) kt_18 rv_18_3 ?_
    refine z_iload_n dX8_begin_35 rfl rfl ?_
    obtain ⟨q4, q5, h⟩ := h
    refine m_iald dX8_begin_36 kv_22 q4 q5 ?_
    obtain ⟨q7, q8, h⟩ := h
    replace h := h _ rfl
    refine m_iast dX8_begin_37 hx0.2.1 q7 q8 ?_
    refine z_aload_n dX8_begin_38 rfl rfl ?_
    refine m_getR dX8_begin_39 fl_X8_21 (by decide) (congrArg Prod.fst hx0.1) hx0.2.2.2.2.2.2.2.2.1 ?_
    refine z_aload_n dX8_begin_42 rfl rfl ?_
    refine z_getI dX8_begin_43 fl_X8_24 (by decide) (congrArg Prod.fst hx0.1) ?_
    refine z_iconst dX8_begin_46 ?_
    refine z_isub dX8_begin_47 ?_
    refine z_iload_n dX8_begin_48 rfl rfl ?_
    refine z_isub dX8_begin_49 ?_
    refine z_iload_n dX8_begin_50 rfl rfl ?_
    obtain ⟨q10, q11, h⟩ := h
    replace h := h _ rfl
    refine m_iast dX8_begin_51 hx0.2.2.2.2.1 q10 q11 ?_
    refine z_iinc dX8_begin_52 rfl (by decide) rfl ?_
    show Zm w (d + 1) mX8_begin 55 [some (aR (some (x0))), some (aR (some (18))), some (aI (x2 + 1))] [] (up2 (up2 g (x0 + 1) (nm x2).toNat (g 22 (nm x2).toNat)) (x0 + 4) (nm ((((up2 g (x0 + 1) (nm x2).toNat (g 22 (nm x2).toNat)) x0 4) - 1) - x2)).toNat x2) P
    refine z_goto (tgt := 18) dX8_begin_55 (by decide) ?_
    exact z_weak (by simp [lle]) h
set_option maxRecDepth 4000 in
theorem s_X8_begin_60 {w : GX} {d : Nat} {P : PN} {g : GI} {x0 : Nat} (hx0 : isW x0) (x2 : Int)
    (h : ((¬ nm x2 < nm (g 18 10) → P none g) ∧ (nm x2 < nm (g 18 10) → (0 ≤ nm x2 ∧ nm x2 < 8 ∧ ∀ g2 : GI, g2 = up2 g (x0 + 3) (nm x2).toNat ((g 18 9) + x2) → (0 ≤ nm ((g2 18 9) + x2) ∧ nm ((g2 18 9) + x2) < 28 ∧ ∀ g5 : GI, g5 = up2 g2 (x0 + 1) (nm ((g2 18 9) + x2)).toNat (22 + x2) → Zm w (d + 1) mX8_begin 60 [some (aR (some (x0))), some (aR (some (18))), some (aI (x2 + 1))] [] g5 P))))) :
    Zm w (d + 1) mX8_begin 60 [some (aR (some (x0))), some (aR (some (18))), some (aI (x2))] [] g P := by
  refine z_iload_n dX8_begin_60 rfl rfl ?_
  refine z_aload_n dX8_begin_61 rfl rfl ?_
  refine z_getI dX8_begin_62 fl_X8_42 (by decide) kt_18 ?_
  refine z_icmp_ge (tgt := 101) dX8_begin_65 (by decide) (fun c1 => ?_) (fun c1 => ?_)
  · replace h := h.1 c1
    exact m_vret dX8_begin_101 rfl h
  · replace h := h.2 (Decidable.not_not.mp c1)
    refine z_aload_n dX8_begin_68 rfl rfl ?_
    refine m_getR dX8_begin_69 fl_X8_18 (by decide) (congrArg Prod.fst hx0.1) hx0.2.2.2.2.2.2.2.1 ?_
    refine z_iload_n dX8_begin_72 rfl rfl ?_
    refine z_aload_n dX8_begin_73 rfl rfl ?_
    refine z_getI dX8_begin_74 fl_X8_34 (by decide) kt_18 ?_
    refine z_iload_n dX8_begin_77 rfl rfl ?_
    refine z_iadd dX8_begin_78 ?_
    obtain ⟨q3, q4, h⟩ := h
    replace h := h _ rfl
    refine m_iast dX8_begin_79 hx0.2.2.2.1 q3 q4 ?_
    refine z_aload_n dX8_begin_80 rfl rfl ?_
    refine m_getR dX8_begin_81 fl_X8_9 (by decide) (congrArg Prod.fst hx0.1) hx0.2.2.2.2.2.1 ?_
    refine z_aload_n dX8_begin_84 rfl rfl ?_
    refine z_getI dX8_begin_85 fl_X8_34 (by decide) kt_18 ?_
    refine z_iload_n dX8_begin_88 rfl rfl ?_
    refine z_iadd dX8_begin_89 ?_
    refine z_bipush dX8_begin_90 rfl ?_
    refine z_iload_n dX8_begin_92 rfl rfl ?_
    refine z_iadd dX8_begin_93 ?_
    obtain ⟨q6, q7, h⟩ := h
    replace h := h _ rfl
    refine m_iast dX8_begin_94 hx0.2.1 q6 q7 ?_
    refine z_iinc dX8_begin_95 rfl (by decide) rfl ?_
    show Zm w (d + 1) mX8_begin 98 [some (aR (some (x0))), some (aR (some (18))), some (aI (x2 + 1))] [] (up2 (up2 g (x0 + 3) (nm x2).toNat ((g 18 9) + x2)) (x0 + 1) (nm (((up2 g (x0 + 3) (nm x2).toNat ((g 18 9) + x2)) 18 9) + x2)).toNat (22 + x2)) P
    refine z_goto (tgt := 60) dX8_begin_98 (by decide) ?_
    exact z_weak (by simp [lle]) h
theorem dX8_become_0 : decode cX8_become 0 = .ok (.aload_n 1, 1) := by decide +kernel
theorem dX8_become_1 : decode cX8_become 1 = .ok (.getfield 9, 3) := by decide +kernel
theorem dX8_become_4 : decode cX8_become 4 = .ok (.iconst 0, 1) := by decide +kernel
theorem dX8_become_5 : decode cX8_become 5 = .ok (.aload_n 0, 1) := by decide +kernel
theorem dX8_become_6 : decode cX8_become 6 = .ok (.getfield 9, 3) := by decide +kernel
theorem dX8_become_9 : decode cX8_become 9 = .ok (.iconst 0, 1) := by decide +kernel
theorem dX8_become_10 : decode cX8_become 10 = .ok (.bipush 28, 2) := by decide +kernel
theorem dX8_become_12 : decode cX8_become 12 = .ok (.invokestatic 45, 3) := by decide +kernel
theorem dX8_become_15 : decode cX8_become 15 = .ok (.aload_n 1, 1) := by decide +kernel
theorem dX8_become_16 : decode cX8_become 16 = .ok (.getfield 15, 3) := by decide +kernel
theorem dX8_become_19 : decode cX8_become 19 = .ok (.iconst 0, 1) := by decide +kernel
theorem dX8_become_20 : decode cX8_become 20 = .ok (.aload_n 0, 1) := by decide +kernel
theorem dX8_become_21 : decode cX8_become 21 = .ok (.getfield 15, 3) := by decide +kernel
theorem dX8_become_24 : decode cX8_become 24 = .ok (.iconst 0, 1) := by decide +kernel
theorem dX8_become_25 : decode cX8_become 25 = .ok (.bipush 28, 2) := by decide +kernel
theorem dX8_become_27 : decode cX8_become 27 = .ok (.invokestatic 45, 3) := by decide +kernel
theorem dX8_become_30 : decode cX8_become 30 = .ok (.aload_n 1, 1) := by decide +kernel
theorem dX8_become_31 : decode cX8_become 31 = .ok (.getfield 18, 3) := by decide +kernel
theorem dX8_become_34 : decode cX8_become 34 = .ok (.iconst 0, 1) := by decide +kernel
theorem dX8_become_35 : decode cX8_become 35 = .ok (.aload_n 0, 1) := by decide +kernel
theorem dX8_become_36 : decode cX8_become 36 = .ok (.getfield 18, 3) := by decide +kernel
theorem dX8_become_39 : decode cX8_become 39 = .ok (.iconst 0, 1) := by decide +kernel
theorem dX8_become_40 : decode cX8_become 40 = .ok (.bipush 8, 2) := by decide +kernel
theorem dX8_become_42 : decode cX8_become 42 = .ok (.invokestatic 45, 3) := by decide +kernel
theorem dX8_become_45 : decode cX8_become 45 = .ok (.aload_n 1, 1) := by decide +kernel
theorem dX8_become_46 : decode cX8_become 46 = .ok (.getfield 21, 3) := by decide +kernel
theorem dX8_become_49 : decode cX8_become 49 = .ok (.iconst 0, 1) := by decide +kernel
theorem dX8_become_50 : decode cX8_become 50 = .ok (.aload_n 0, 1) := by decide +kernel
theorem dX8_become_51 : decode cX8_become 51 = .ok (.getfield 21, 3) := by decide +kernel
theorem dX8_become_54 : decode cX8_become 54 = .ok (.iconst 0, 1) := by decide +kernel
theorem dX8_become_55 : decode cX8_become 55 = .ok (.aload_n 1, 1) := by decide +kernel
theorem dX8_become_56 : decode cX8_become 56 = .ok (.getfield 24, 3) := by decide +kernel
theorem dX8_become_59 : decode cX8_become 59 = .ok (.invokestatic 45, 3) := by decide +kernel
theorem dX8_become_62 : decode cX8_become 62 = .ok (.aload_n 0, 1) := by decide +kernel
theorem dX8_become_63 : decode cX8_become 63 = .ok (.aload_n 1, 1) := by decide +kernel
theorem dX8_become_64 : decode cX8_become 64 = .ok (.getfield 24, 3) := by decide +kernel
theorem dX8_become_67 : decode cX8_become 67 = .ok (.putfield 24, 3) := by decide +kernel
theorem dX8_become_70 : decode cX8_become 70 = .ok (.return_, 1) := by decide +kernel
set_option maxRecDepth 4000 in
theorem s_X8_become_0 {w : GX} {d : Nat} {P : PN} {g : GI} {x0 : Nat} (hx0 : isW x0) {x1 : Nat} (hx1 : isW x1)
    (h : (0 ≤ nm 0 ∧ 0 ≤ nm 0 ∧ 0 ≤ nm 28 ∧ nm 0 + nm 28 ≤ 28 ∧ nm 0 + nm 28 ≤ 28 ∧ ∀ g6 : GI, g6 = upf g (x0 + 1) (va_cpy (g (x1 + 1)) (g (x0 + 1)) (nm 0).toNat (nm 0).toNat (nm 28).toNat) → (0 ≤ nm 0 ∧ 0 ≤ nm 0 ∧ 0 ≤ nm 28 ∧ nm 0 + nm 28 ≤ 28 ∧ nm 0 + nm 28 ≤ 28 ∧ ∀ g12 : GI, g12 = upf g6 (x0 + 2) (va_cpy (g6 (x1 + 2)) (g6 (x0 + 2)) (nm 0).toNat (nm 0).toNat (nm 28).toNat) → (0 ≤ nm 0 ∧ 0 ≤ nm 0 ∧ 0 ≤ nm 8 ∧ nm 0 + nm 8 ≤ 8 ∧ nm 0 + nm 8 ≤ 8 ∧ ∀ g18 : GI, g18 = upf g12 (x0 + 3) (va_cpy (g12 (x1 + 3)) (g12 (x0 + 3)) (nm 0).toNat (nm 0).toNat (nm 8).toNat) → (0 ≤ nm 0 ∧ 0 ≤ nm 0 ∧ 0 ≤ nm (g18 x1 4) ∧ nm 0 + nm (g18 x1 4) ≤ 20 ∧ nm 0 + nm (g18 x1 4) ≤ 20 ∧ ∀ g24 : GI, g24 = upf g18 (x0 + 4) (va_cpy (g18 (x1 + 4)) (g18 (x0 + 4)) (nm 0).toNat (nm 0).toNat (nm (g18 x1 4)).toNat) → (∀ g25 : GI, g25 = up2 g24 x0 4 (g24 x1 4) → P none g25)))))) :
    Zm w (d + 1) mX8_become 0 [some (aR (some (x0))), some (aR (some (x1)))] [] g P := by
  refine z_aload_n dX8_become_0 rfl rfl ?_
  refine m_getR dX8_become_1 fl_X8_9 (by decide) (congrArg Prod.fst hx1.1) hx1.2.2.2.2.2.1 ?_
  refine z_iconst dX8_become_4 ?_
  refine z_aload_n dX8_become_5 rfl rfl ?_
  refine m_getR dX8_become_6 fl_X8_9 (by decide) (congrArg Prod.fst hx0.1) hx0.2.2.2.2.2.1 ?_
  refine z_iconst dX8_become_9 ?_
  refine z_bipush dX8_become_10 rfl ?_
  obtain ⟨q1, q2, q3, q4, q5, h⟩ := h
  replace h := h _ rfl
  refine m_acopyv dX8_become_12 lk_X8_45 (Nat.le_of_ble_eq_true rfl) hx1.2.1 hx0.2.1 q1 q2 q3 q4 q5 ?_
  refine z_aload_n dX8_become_15 rfl rfl ?_
  refine m_getR dX8_become_16 fl_X8_15 (by decide) (congrArg Prod.fst hx1.1) hx1.2.2.2.2.2.2.1 ?_
  refine z_iconst dX8_become_19 ?_
  refine z_aload_n dX8_become_20 rfl rfl ?_
  refine m_getR dX8_become_21 fl_X8_15 (by decide) (congrArg Prod.fst hx0.1) hx0.2.2.2.2.2.2.1 ?_
  refine z_iconst dX8_become_24 ?_
  refine z_bipush dX8_become_25 rfl ?_
  obtain ⟨q7, q8, q9, q10, q11, h⟩ := h
  replace h := h _ rfl
  refine m_acopyv dX8_become_27 lk_X8_45 (Nat.le_of_ble_eq_true rfl) hx1.2.2.1 hx0.2.2.1 q7 q8 q9 q10 q11 ?_
  refine z_aload_n dX8_become_30 rfl rfl ?_
  refine m_getR dX8_become_31 fl_X8_18 (by decide) (congrArg Prod.fst hx1.1) hx1.2.2.2.2.2.2.2.1 ?_
  refine z_iconst dX8_become_34 ?_
  refine z_aload_n dX8_become_35 rfl rfl ?_
  refine m_getR dX8_become_36 fl_X8_18 (by decide) (congrArg Prod.fst hx0.1) hx0.2.2.2.2.2.2.2.1 ?_
  refine z_iconst dX8_become_39 ?_
  refine z_bipush dX8_become_40 rfl ?_
  obtain ⟨q13, q14, q15, q16, q17, h⟩ := h
  replace h := h _ rfl
  refine m_acopyv dX8_become_42 lk_X8_45 (Nat.le_of_ble_eq_true rfl) hx1.2.2.2.1 hx0.2.2.2.1 q13 q14 q15 q16 q17 ?_
  refine z_aload_n dX8_become_45 rfl rfl ?_
  refine m_getR dX8_become_46 fl_X8_21 (by decide) (congrArg Prod.fst hx1.1) hx1.2.2.2.2.2.2.2.2.1 ?_
  refine z_iconst dX8_become_49 ?_
  refine z_aload_n dX8_become_50 rfl rfl ?_
  refine m_getR dX8_become_51 fl_X8_21 (by decide) (congrArg Prod.fst hx0.1) hx0.2.2.2.2.2.2.2.2.1 ?_
  refine z_iconst dX8_become_54 ?_
  refine z_aload_n dX8_become_55 rfl rfl ?_
  refine z_getI dX8_become_56 fl_X8_24 (by decide) (congrArg Prod.fst hx1.1) ?_
  obtain ⟨q19, q20, q21, q22, q23, h⟩ := h
  replace h := h _ rfl
  refine m_acopyv dX8_become_59 lk_X8_45 (Nat.le_of_ble_eq_true rfl) hx1.2.2.2.2.1 hx0.2.2.2.2.1 q19 q20 q21 q22 q23 ?_
  refine z_aload_n dX8_become_62 rfl rfl ?_
  refine z_aload_n dX8_become_63 rfl rfl ?_
  refine z_getI dX8_become_64 fl_X8_24 (by decide) (congrArg Prod.fst hx1.1) ?_
  replace h := h _ rfl
  refine z_putI dX8_become_67 fw_X8_24 (by decide) (congrArg Prod.fst hx0.1) ?_
  exact m_vret dX8_become_70 rfl h
theorem dX8_exchange_0 : decode cX8_exchange 0 = .ok (.aload_n 0, 1) := by decide +kernel
theorem dX8_exchange_1 : decode cX8_exchange 1 = .ok (.getfield 24, 3) := by decide +kernel
theorem dX8_exchange_4 : decode cX8_exchange 4 = .ok (.istore_n 3, 1) := by decide +kernel
theorem dX8_exchange_5 : decode cX8_exchange 5 = .ok (.iload_n 3, 1) := by decide +kernel
theorem dX8_exchange_6 : decode cX8_exchange 6 = .ok (.ifCond .le 25, 3) := by decide +kernel
theorem dX8_exchange_9 : decode cX8_exchange 9 = .ok (.aload_n 0, 1) := by decide +kernel
theorem dX8_exchange_10 : decode cX8_exchange 10 = .ok (.getfield 9, 3) := by decide +kernel
theorem dX8_exchange_13 : decode cX8_exchange 13 = .ok (.aload_n 0, 1) := by decide +kernel
theorem dX8_exchange_14 : decode cX8_exchange 14 = .ok (.getfield 21, 3) := by decide +kernel
theorem dX8_exchange_17 : decode cX8_exchange 17 = .ok (.iload_n 3, 1) := by decide +kernel
theorem dX8_exchange_18 : decode cX8_exchange 18 = .ok (.iconst 1, 1) := by decide +kernel
theorem dX8_exchange_19 : decode cX8_exchange 19 = .ok (.isub, 1) := by decide +kernel
theorem dX8_exchange_20 : decode cX8_exchange 20 = .ok (.iaload, 1) := by decide +kernel
theorem dX8_exchange_21 : decode cX8_exchange 21 = .ok (.iaload, 1) := by decide +kernel
theorem dX8_exchange_22 : decode cX8_exchange 22 = .ok (.ifCond .ne 9, 3) := by decide +kernel
theorem dX8_exchange_25 : decode cX8_exchange 25 = .ok (.iinc 3 (-1), 3) := by decide +kernel
theorem dX8_exchange_28 : decode cX8_exchange 28 = .ok (.goto (-23), 3) := by decide +kernel
theorem dX8_exchange_31 : decode cX8_exchange 31 = .ok (.aload_n 0, 1) := by decide +kernel
theorem dX8_exchange_32 : decode cX8_exchange 32 = .ok (.getfield 24, 3) := by decide +kernel
theorem dX8_exchange_35 : decode cX8_exchange 35 = .ok (.iload_n 3, 1) := by decide +kernel
theorem dX8_exchange_36 : decode cX8_exchange 36 = .ok (.isub, 1) := by decide +kernel
theorem dX8_exchange_37 : decode cX8_exchange 37 = .ok (.istore 4, 2) := by decide +kernel
theorem dX8_exchange_39 : decode cX8_exchange 39 = .ok (.iload 4, 2) := by decide +kernel
theorem dX8_exchange_41 : decode cX8_exchange 41 = .ok (.ifCond .gt 5, 3) := by decide +kernel
theorem dX8_exchange_44 : decode cX8_exchange 44 = .ok (.iconst 0, 1) := by decide +kernel
theorem dX8_exchange_45 : decode cX8_exchange 45 = .ok (.ireturn, 1) := by decide +kernel
theorem dX8_exchange_46 : decode cX8_exchange 46 = .ok (.iload_n 3, 1) := by decide +kernel
theorem dX8_exchange_47 : decode cX8_exchange 47 = .ok (.iload_n 2, 1) := by decide +kernel
theorem dX8_exchange_48 : decode cX8_exchange 48 = .ok (.iload 4, 2) := by decide +kernel
theorem dX8_exchange_50 : decode cX8_exchange 50 = .ok (.irem, 1) := by decide +kernel
theorem dX8_exchange_51 : decode cX8_exchange 51 = .ok (.iadd, 1) := by decide +kernel
theorem dX8_exchange_52 : decode cX8_exchange 52 = .ok (.istore 5, 2) := by decide +kernel
theorem dX8_exchange_54 : decode cX8_exchange 54 = .ok (.aload_n 0, 1) := by decide +kernel
theorem dX8_exchange_55 : decode cX8_exchange 55 = .ok (.getfield 21, 3) := by decide +kernel
theorem dX8_exchange_58 : decode cX8_exchange 58 = .ok (.iload 5, 2) := by decide +kernel
theorem dX8_exchange_60 : decode cX8_exchange 60 = .ok (.iaload, 1) := by decide +kernel
theorem dX8_exchange_61 : decode cX8_exchange 61 = .ok (.istore 6, 2) := by decide +kernel
theorem dX8_exchange_63 : decode cX8_exchange 63 = .ok (.aload_n 0, 1) := by decide +kernel
theorem dX8_exchange_64 : decode cX8_exchange 64 = .ok (.getfield 18, 3) := by decide +kernel
theorem dX8_exchange_67 : decode cX8_exchange 67 = .ok (.iload_n 1, 1) := by decide +kernel
theorem dX8_exchange_68 : decode cX8_exchange 68 = .ok (.iaload, 1) := by decide +kernel
theorem dX8_exchange_69 : decode cX8_exchange 69 = .ok (.istore 7, 2) := by decide +kernel
theorem dX8_exchange_71 : decode cX8_exchange 71 = .ok (.iload 5, 2) := by decide +kernel
theorem dX8_exchange_73 : decode cX8_exchange 73 = .ok (.istore 8, 2) := by decide +kernel
theorem dX8_exchange_75 : decode cX8_exchange 75 = .ok (.iload 8, 2) := by decide +kernel
theorem dX8_exchange_77 : decode cX8_exchange 77 = .ok (.iconst 1, 1) := by decide +kernel
theorem dX8_exchange_78 : decode cX8_exchange 78 = .ok (.iadd, 1) := by decide +kernel
theorem dX8_exchange_79 : decode cX8_exchange 79 = .ok (.aload_n 0, 1) := by decide +kernel
theorem dX8_exchange_80 : decode cX8_exchange 80 = .ok (.getfield 24, 3) := by decide +kernel
theorem dX8_exchange_83 : decode cX8_exchange 83 = .ok (.if_icmp .ge 25, 3) := by decide +kernel
theorem dX8_exchange_86 : decode cX8_exchange 86 = .ok (.aload_n 0, 1) := by decide +kernel
theorem dX8_exchange_87 : decode cX8_exchange 87 = .ok (.getfield 21, 3) := by decide +kernel
theorem dX8_exchange_90 : decode cX8_exchange 90 = .ok (.iload 8, 2) := by decide +kernel
theorem dX8_exchange_92 : decode cX8_exchange 92 = .ok (.aload_n 0, 1) := by decide +kernel
theorem dX8_exchange_93 : decode cX8_exchange 93 = .ok (.getfield 21, 3) := by decide +kernel
theorem dX8_exchange_96 : decode cX8_exchange 96 = .ok (.iload 8, 2) := by decide +kernel
theorem dX8_exchange_98 : decode cX8_exchange 98 = .ok (.iconst 1, 1) := by decide +kernel
theorem dX8_exchange_99 : decode cX8_exchange 99 = .ok (.iadd, 1) := by decide +kernel
theorem dX8_exchange_100 : decode cX8_exchange 100 = .ok (.iaload, 1) := by decide +kernel
theorem dX8_exchange_101 : decode cX8_exchange 101 = .ok (.iastore, 1) := by decide +kernel
theorem dX8_exchange_102 : decode cX8_exchange 102 = .ok (.iinc 8 1, 3) := by decide +kernel
theorem dX8_exchange_105 : decode cX8_exchange 105 = .ok (.goto (-30), 3) := by decide +kernel
theorem dX8_exchange_108 : decode cX8_exchange 108 = .ok (.aload_n 0, 1) := by decide +kernel
theorem dX8_exchange_109 : decode cX8_exchange 109 = .ok (.getfield 21, 3) := by decide +kernel
theorem dX8_exchange_112 : decode cX8_exchange 112 = .ok (.aload_n 0, 1) := by decide +kernel
theorem dX8_exchange_113 : decode cX8_exchange 113 = .ok (.getfield 24, 3) := by decide +kernel
theorem dX8_exchange_116 : decode cX8_exchange 116 = .ok (.iconst 1, 1) := by decide +kernel
theorem dX8_exchange_117 : decode cX8_exchange 117 = .ok (.isub, 1) := by decide +kernel
theorem dX8_exchange_118 : decode cX8_exchange 118 = .ok (.iload 7, 2) := by decide +kernel
theorem dX8_exchange_120 : decode cX8_exchange 120 = .ok (.iastore, 1) := by decide +kernel
theorem dX8_exchange_121 : decode cX8_exchange 121 = .ok (.aload_n 0, 1) := by decide +kernel
theorem dX8_exchange_122 : decode cX8_exchange 122 = .ok (.getfield 9, 3) := by decide +kernel
theorem dX8_exchange_125 : decode cX8_exchange 125 = .ok (.iload 7, 2) := by decide +kernel
theorem dX8_exchange_127 : decode cX8_exchange 127 = .ok (.iconst 0, 1) := by decide +kernel
theorem dX8_exchange_128 : decode cX8_exchange 128 = .ok (.iastore, 1) := by decide +kernel
theorem dX8_exchange_129 : decode cX8_exchange 129 = .ok (.aload_n 0, 1) := by decide +kernel
theorem dX8_exchange_130 : decode cX8_exchange 130 = .ok (.getfield 9, 3) := by decide +kernel
theorem dX8_exchange_133 : decode cX8_exchange 133 = .ok (.iload 6, 2) := by decide +kernel
theorem dX8_exchange_135 : decode cX8_exchange 135 = .ok (.bipush 22, 2) := by decide +kernel
theorem dX8_exchange_137 : decode cX8_exchange 137 = .ok (.iload_n 1, 1) := by decide +kernel
theorem dX8_exchange_138 : decode cX8_exchange 138 = .ok (.iadd, 1) := by decide +kernel
theorem dX8_exchange_139 : decode cX8_exchange 139 = .ok (.iastore, 1) := by decide +kernel
theorem dX8_exchange_140 : decode cX8_exchange 140 = .ok (.aload_n 0, 1) := by decide +kernel
theorem dX8_exchange_141 : decode cX8_exchange 141 = .ok (.getfield 18, 3) := by decide +kernel
theorem dX8_exchange_144 : decode cX8_exchange 144 = .ok (.iload_n 1, 1) := by decide +kernel
theorem dX8_exchange_145 : decode cX8_exchange 145 = .ok (.iload 6, 2) := by decide +kernel
theorem dX8_exchange_147 : decode cX8_exchange 147 = .ok (.iastore, 1) := by decide +kernel
theorem dX8_exchange_148 : decode cX8_exchange 148 = .ok (.iconst 1, 1) := by decide +kernel
theorem dX8_exchange_149 : decode cX8_exchange 149 = .ok (.ireturn, 1) := by decide +kernel
set_option maxRecDepth 4000 in
theorem s_X8_exchange_0 {w : GX} {d : Nat} {P : PN} {g : GI} {x0 : Nat} (hx0 : isW x0) (x1 : Int) (x2 : Int)
    (h : (∀ v1 : Int, v1 = g x0 4 → Zm w d mX8_exchange 5 [some (aR (some (x0))), some (aI (x1)), some (aI (x2)), some (aI (v1)), none, none, none, none, none] [] g P)) :
    Zm w d mX8_exchange 0 [some (aR (some (x0))), some (aI (x1)), some (aI (x2)), none, none, none, none, none, none] [] g P := by
  refine z_aload_n dX8_exchange_0 rfl rfl ?_
  refine z_getI dX8_exchange_1 fl_X8_24 (by decide) (congrArg Prod.fst hx0.1) ?_
  replace h := h _ rfl
  refine z_istore_n dX8_exchange_4 rfl (by decide) rfl ?_
  show Zm w d mX8_exchange 5 [some (aR (some (x0))), some (aI (x1)), some (aI (x2)), some (aI (g x0 4)), none, none, none, none, none] [] g P
  exact z_weak (by simp [lle]) h
set_option maxRecDepth 4000 in
theorem s_X8_exchange_5 {w : GX} {d : Nat} {P : PN} {g : GI} {x0 : Nat} (hx0 : isW x0) (x1 : Int) (x2 : Int) (x3 : Int)
    (h : ((¬ 0 < nm x3 → Zm w d mX8_exchange 31 [some (aR (some (x0))), some (aI (x1)), some (aI (x2)), some (aI (x3)), none, none, none, none, none] [] g P) ∧ (0 < nm x3 → (0 ≤ nm (x3 - 1) ∧ nm (x3 - 1) < 20 ∧ (0 ≤ nm (g (x0 + 4) (nm (x3 - 1)).toNat) ∧ nm (g (x0 + 4) (nm (x3 - 1)).toNat) < 28 ∧ ((¬ nm (g (x0 + 1) (nm (g (x0 + 4) (nm (x3 - 1)).toNat)).toNat) = 0 → Zm w d mX8_exchange 31 [some (aR (some (x0))), some (aI (x1)), some (aI (x2)), some (aI (x3)), none, none, none, none, none] [] g P) ∧ (nm (g (x0 + 1) (nm (g (x0 + 4) (nm (x3 - 1)).toNat)).toNat) = 0 → Zm w d mX8_exchange 5 [some (aR (some (x0))), some (aI (x1)), some (aI (x2)), some (aI (x3 + (-1))), none, none, none, none, none] [] g P))))))) :
    Zm w d mX8_exchange 5 [some (aR (some (x0))), some (aI (x1)), some (aI (x2)), some (aI (x3)), none, none, none, none, none] [] g P := by
  refine z_iload_n dX8_exchange_5 rfl rfl ?_
  refine z_if_le (tgt := 31) dX8_exchange_6 (by decide) (fun c1 => ?_) (fun c1 => ?_)
  · replace h := h.1 c1
    exact z_weak (by simp [lle]) h
  · replace h := h.2 (Decidable.not_not.mp c1)
    refine z_aload_n dX8_exchange_9 rfl rfl ?_
    refine m_getR dX8_exchange_10 fl_X8_9 (by decide) (congrArg Prod.fst hx0.1) hx0.2.2.2.2.2.1 ?_
    refine z_aload_n dX8_exchange_13 rfl rfl ?_
    refine m_getR dX8_exchange_14 fl_X8_21 (by decide) (congrArg Prod.fst hx0.1) hx0.2.2.2.2.2.2.2.2.1 ?_
    refine z_iload_n dX8_exchange_17 rfl rfl ?_
    refine z_iconst dX8_exchange_18 ?_
    refine z_isub dX8_exchange_19 ?_
    obtain ⟨q4, q5, h⟩ := h
    refine m_iald dX8_exchange_20 hx0.2.2.2.2.1 q4 q5 ?_
    obtain ⟨q8, q9, h⟩ := h
    refine m_iald dX8_exchange_21 hx0.2.1 q8 q9 ?_
    refine z_if_ne (tgt := 31) dX8_exchange_22 (by decide) (fun c10 => ?_) (fun c10 => ?_)
    · replace h := h.1 c10
      exact z_weak (by simp [lle]) h
    · replace h := h.2 (Decidable.not_not.mp c10)
      refine z_iinc dX8_exchange_25 rfl (by decide) rfl ?_
      show Zm w d mX8_exchange 28 [some (aR (some (x0))), some (aI (x1)), some (aI (x2)), some (aI (x3 + (-1))), none, none, none, none, none] [] g P
      refine z_goto (tgt := 5) dX8_exchange_28 (by decide) ?_
      exact z_weak (by simp [lle]) h
set_option maxRecDepth 4000 in
theorem s_X8_exchange_31 {w : GX} {d : Nat} {P : PN} {g : GI} {x0 : Nat} (hx0 : isW x0) (x1 : Int) (x2 : Int) (x3 : Int)
    (h : (∀ v1 : Int, v1 = (g x0 4) - x3 → ((0 < nm v1 → (¬ nm v1 = 0 ∧ (∀ v4 : Int, v4 = x3 + (iRem x2 v1) → (0 ≤ nm v4 ∧ nm v4 < 20 ∧ (∀ v9 : Int, v9 = g (x0 + 4) (nm v4).toNat → (0 ≤ nm x1 ∧ nm x1 < 8 ∧ (∀ v14 : Int, v14 = g (x0 + 3) (nm x1).toNat → Zm w d mX8_exchange 75 [some (aR (some (x0))), some (aI (x1)), none, none, none, none, some (aI (v9)), some (aI (v14)), some (aI (v4))] [] g P))))))) ∧ (¬ 0 < nm v1 → P (some (aI (0))) g)))) :
    Zm w d mX8_exchange 31 [some (aR (some (x0))), some (aI (x1)), some (aI (x2)), some (aI (x3)), none, none, none, none, none] [] g P := by
  refine z_aload_n dX8_exchange_31 rfl rfl ?_
  refine z_getI dX8_exchange_32 fl_X8_24 (by decide) (congrArg Prod.fst hx0.1) ?_
  refine z_iload_n dX8_exchange_35 rfl rfl ?_
  refine z_isub dX8_exchange_36 ?_
  replace h := h _ rfl
  refine z_istore dX8_exchange_37 (by decide) rfl ?_
  show Zm w d mX8_exchange 39 [some (aR (some (x0))), some (aI (x1)), some (aI (x2)), some (aI (x3)), some (aI ((g x0 4) - x3)), none, none, none, none] [] g P
  refine z_iload dX8_exchange_39 rfl ?_
  refine z_if_gt (tgt := 46) dX8_exchange_41 (by decide) (fun c2 => ?_) (fun c2 => ?_)
  · replace h := h.1 c2
    refine z_iload_n dX8_exchange_46 rfl rfl ?_
    refine z_iload_n dX8_exchange_47 rfl rfl ?_
    refine z_iload dX8_exchange_48 rfl ?_
    obtain ⟨q3, h⟩ := h
    refine z_irem dX8_exchange_50 q3 ?_
    refine z_iadd dX8_exchange_51 ?_
    replace h := h _ rfl
    refine z_istore dX8_exchange_52 (by decide) rfl ?_
    show Zm w d mX8_exchange 54 [some (aR (some (x0))), some (aI (x1)), some (aI (x2)), some (aI (x3)), some (aI (((g x0 4) - x3))), some (aI (x3 + (iRem x2 ((g x0 4) - x3)))), none, none, none] [] g P
    refine z_aload_n dX8_exchange_54 rfl rfl ?_
    refine m_getR dX8_exchange_55 fl_X8_21 (by decide) (congrArg Prod.fst hx0.1) hx0.2.2.2.2.2.2.2.2.1 ?_
    refine z_iload dX8_exchange_58 rfl ?_
    obtain ⟨q7, q8, h⟩ := h
    refine m_iald dX8_exchange_60 hx0.2.2.2.2.1 q7 q8 ?_
    replace h := h _ rfl
    refine z_istore dX8_exchange_61 (by decide) rfl ?_
    show Zm w d mX8_exchange 63 [some (aR (some (x0))), some (aI (x1)), some (aI (x2)), some (aI (x3)), some (aI (((g x0 4) - x3))), some (aI ((x3 + (iRem x2 ((g x0 4) - x3))))), some (aI (g (x0 + 4) (nm (x3 + (iRem x2 ((g x0 4) - x3)))).toNat)), none, none] [] g P
    refine z_aload_n dX8_exchange_63 rfl rfl ?_
    refine m_getR dX8_exchange_64 fl_X8_18 (by decide) (congrArg Prod.fst hx0.1) hx0.2.2.2.2.2.2.2.1 ?_
    refine z_iload_n dX8_exchange_67 rfl rfl ?_
    obtain ⟨q12, q13, h⟩ := h
    refine m_iald dX8_exchange_68 hx0.2.2.2.1 q12 q13 ?_
    replace h := h _ rfl
    refine z_istore dX8_exchange_69 (by decide) rfl ?_
    show Zm w d mX8_exchange 71 [some (aR (some (x0))), some (aI (x1)), some (aI (x2)), some (aI (x3)), some (aI (((g x0 4) - x3))), some (aI ((x3 + (iRem x2 ((g x0 4) - x3))))), some (aI ((g (x0 + 4) (nm (x3 + (iRem x2 ((g x0 4) - x3)))).toNat))), some (aI (g (x0 + 3) (nm x1).toNat)), none] [] g P
    refine z_iload dX8_exchange_71 rfl ?_
    refine z_istore dX8_exchange_73 (by decide) rfl ?_
    show Zm w d mX8_exchange 75 [some (aR (some (x0))), some (aI (x1)), some (aI (x2)), some (aI (x3)), some (aI (((g x0 4) - x3))), some (aI ((x3 + (iRem x2 ((g x0 4) - x3))))), some (aI ((g (x0 + 4) (nm (x3 + (iRem x2 ((g x0 4) - x3)))).toNat))), some (aI ((g (x0 + 3) (nm x1).toNat))), some (aI ((x3 + (iRem x2 ((g x0 4) - x3)))))] [] g P
    exact z_weak (by simp [lle]) h
  · replace h := h.2 c2
    refine z_iconst dX8_exchange_44 ?_
    exact m_zret dX8_exchange_45 rfl (by decide) h
set_option maxRecDepth 4000 in
theorem s_X8_exchange_75 {w : GX} {d : Nat} {P : PN} {g : GI} {x0 : Nat} (hx0 : isW x0) (x1 : Int) (x6 : Int) (x7 : Int) (x8 : Int)
    (h : ((¬ nm (x8 + 1) < nm (g x0 4) → (0 ≤ nm ((g x0 4) - 1) ∧ nm ((g x0 4) - 1) < 20 ∧ ∀ g2 : GI, g2 = up2 g (x0 + 4) (nm ((g x0 4) - 1)).toNat x7 → (0 ≤ nm x7 ∧ nm x7 < 28 ∧ ∀ g5 : GI, g5 = up2 g2 (x0 + 1) (nm x7).toNat 0 → (0 ≤ nm x6 ∧ nm x6 < 28 ∧ ∀ g8 : GI, g8 = up2 g5 (x0 + 1) (nm x6).toNat (22 + x1) → (0 ≤ nm x1 ∧ nm x1 < 8 ∧ ∀ g11 : GI, g11 = up2 g8 (x0 + 3) (nm x1).toNat x6 → P (some (aI (1))) g11))))) ∧ (nm (x8 + 1) < nm (g x0 4) → (0 ≤ nm (x8 + 1) ∧ nm (x8 + 1) < 20 ∧ (0 ≤ nm x8 ∧ nm x8 < 20 ∧ ∀ g18 : GI, g18 = up2 g (x0 + 4) (nm x8).toNat (g (x0 + 4) (nm (x8 + 1)).toNat) → Zm w d mX8_exchange 75 [some (aR (some (x0))), some (aI (x1)), none, none, none, none, some (aI (x6)), some (aI (x7)), some (aI (x8 + 1))] [] g18 P))))) :
    Zm w d mX8_exchange 75 [some (aR (some (x0))), some (aI (x1)), none, none, none, none, some (aI (x6)), some (aI (x7)), some (aI (x8))] [] g P := by
  refine z_iload dX8_exchange_75 rfl ?_
  refine z_iconst dX8_exchange_77 ?_
  refine z_iadd dX8_exchange_78 ?_
  refine z_aload_n dX8_exchange_79 rfl rfl ?_
  refine z_getI dX8_exchange_80 fl_X8_24 (by decide) (congrArg Prod.fst hx0.1) ?_
  refine z_icmp_ge (tgt := 108) dX8_exchange_83 (by decide) (fun c1 => ?_) (fun c1 => ?_)
  · replace h := h.1 c1
    refine z_aload_n dX8_exchange_108 rfl rfl ?_
    refine m_getR dX8_exchange_109 fl_X8_21 (by decide) (congrArg Prod.fst hx0.1) hx0.2.2.2.2.2.2.2.2.1 ?_
    refine z_aload_n dX8_exchange_112 rfl rfl ?_
    refine z_getI dX8_exchange_113 fl_X8_24 (by decide) (congrArg Prod.fst hx0.1) ?_
    refine z_iconst dX8_exchange_116 ?_
    refine z_isub dX8_exchange_117 ?_
    refine z_iload dX8_exchange_118 rfl ?_
    obtain ⟨q3, q4, h⟩ := h
    replace h := h _ rfl
    refine m_iast dX8_exchange_120 hx0.2.2.2.2.1 q3 q4 ?_
    refine z_aload_n dX8_exchange_121 rfl rfl ?_
    refine m_getR dX8_exchange_122 fl_X8_9 (by decide) (congrArg Prod.fst hx0.1) hx0.2.2.2.2.2.1 ?_
    refine z_iload dX8_exchange_125 rfl ?_
    refine z_iconst dX8_exchange_127 ?_
    obtain ⟨q6, q7, h⟩ := h
    replace h := h _ rfl
    refine m_iast dX8_exchange_128 hx0.2.1 q6 q7 ?_
    refine z_aload_n dX8_exchange_129 rfl rfl ?_
    refine m_getR dX8_exchange_130 fl_X8_9 (by decide) (congrArg Prod.fst hx0.1) hx0.2.2.2.2.2.1 ?_
    refine z_iload dX8_exchange_133 rfl ?_
    refine z_bipush dX8_exchange_135 rfl ?_
    refine z_iload_n dX8_exchange_137 rfl rfl ?_
    refine z_iadd dX8_exchange_138 ?_
    obtain ⟨q9, q10, h⟩ := h
    replace h := h _ rfl
    refine m_iast dX8_exchange_139 hx0.2.1 q9 q10 ?_
    refine z_aload_n dX8_exchange_140 rfl rfl ?_
    refine m_getR dX8_exchange_141 fl_X8_18 (by decide) (congrArg Prod.fst hx0.1) hx0.2.2.2.2.2.2.2.1 ?_
    refine z_iload_n dX8_exchange_144 rfl rfl ?_
    refine z_iload dX8_exchange_145 rfl ?_
    obtain ⟨q12, q13, h⟩ := h
    replace h := h _ rfl
    refine m_iast dX8_exchange_147 hx0.2.2.2.1 q12 q13 ?_
    refine z_iconst dX8_exchange_148 ?_
    exact m_zret dX8_exchange_149 rfl (by decide) h
  · replace h := h.2 (Decidable.not_not.mp c1)
    refine z_aload_n dX8_exchange_86 rfl rfl ?_
    refine m_getR dX8_exchange_87 fl_X8_21 (by decide) (congrArg Prod.fst hx0.1) hx0.2.2.2.2.2.2.2.2.1 ?_
    refine z_iload dX8_exchange_90 rfl ?_
    refine z_aload_n dX8_exchange_92 rfl rfl ?_
    refine m_getR dX8_exchange_93 fl_X8_21 (by decide) (congrArg Prod.fst hx0.1) hx0.2.2.2.2.2.2.2.2.1 ?_
    refine z_iload dX8_exchange_96 rfl ?_
    refine z_iconst dX8_exchange_98 ?_
    refine z_iadd dX8_exchange_99 ?_
    obtain ⟨q16, q17, h⟩ := h
    refine m_iald dX8_exchange_100 hx0.2.2.2.2.1 q16 q17 ?_
    obtain ⟨q19, q20, h⟩ := h
    replace h := h _ rfl
    refine m_iast dX8_exchange_101 hx0.2.2.2.2.1 q19 q20 ?_
    refine z_iinc dX8_exchange_102 rfl (by decide) rfl ?_
    show Zm w d mX8_exchange 105 [some (aR (some (x0))), some (aI (x1)), none, none, none, none, some (aI (x6)), some (aI (x7)), some (aI (x8 + 1))] [] (up2 g (x0 + 4) (nm x8).toNat (g (x0 + 4) (nm (x8 + 1)).toNat)) P
    refine z_goto (tgt := 75) dX8_exchange_105 (by decide) ?_
    exact z_weak (by simp [lle]) h
theorem dX8_sell_0 : decode cX8_sell 0 = .ok (.iconst 0, 1) := by decide +kernel
theorem dX8_sell_1 : decode cX8_sell 1 = .ok (.istore_n 2, 1) := by decide +kernel
theorem dX8_sell_2 : decode cX8_sell 2 = .ok (.iload_n 2, 1) := by decide +kernel
theorem dX8_sell_3 : decode cX8_sell 3 = .ok (.aload_n 0, 1) := by decide +kernel
theorem dX8_sell_4 : decode cX8_sell 4 = .ok (.getfield 24, 3) := by decide +kernel
theorem dX8_sell_7 : decode cX8_sell 7 = .ok (.if_icmp .ge 24, 3) := by decide +kernel
theorem dX8_sell_10 : decode cX8_sell 10 = .ok (.aload_n 0, 1) := by decide +kernel
theorem dX8_sell_11 : decode cX8_sell 11 = .ok (.getfield 9, 3) := by decide +kernel
theorem dX8_sell_14 : decode cX8_sell 14 = .ok (.aload_n 0, 1) := by decide +kernel
theorem dX8_sell_15 : decode cX8_sell 15 = .ok (.getfield 21, 3) := by decide +kernel
theorem dX8_sell_18 : decode cX8_sell 18 = .ok (.iload_n 2, 1) := by decide +kernel
theorem dX8_sell_19 : decode cX8_sell 19 = .ok (.iaload, 1) := by decide +kernel
theorem dX8_sell_20 : decode cX8_sell 20 = .ok (.iaload, 1) := by decide +kernel
theorem dX8_sell_21 : decode cX8_sell 21 = .ok (.iload_n 1, 1) := by decide +kernel
theorem dX8_sell_22 : decode cX8_sell 22 = .ok (.if_icmp .eq 9, 3) := by decide +kernel
theorem dX8_sell_25 : decode cX8_sell 25 = .ok (.iinc 2 1, 3) := by decide +kernel
theorem dX8_sell_28 : decode cX8_sell 28 = .ok (.goto (-26), 3) := by decide +kernel
theorem dX8_sell_31 : decode cX8_sell 31 = .ok (.iload_n 2, 1) := by decide +kernel
theorem dX8_sell_32 : decode cX8_sell 32 = .ok (.aload_n 0, 1) := by decide +kernel
theorem dX8_sell_33 : decode cX8_sell 33 = .ok (.getfield 24, 3) := by decide +kernel
theorem dX8_sell_36 : decode cX8_sell 36 = .ok (.if_icmp .lt 4, 3) := by decide +kernel
theorem dX8_sell_39 : decode cX8_sell 39 = .ok (.return_, 1) := by decide +kernel
theorem dX8_sell_40 : decode cX8_sell 40 = .ok (.aload_n 0, 1) := by decide +kernel
theorem dX8_sell_41 : decode cX8_sell 41 = .ok (.getfield 9, 3) := by decide +kernel
theorem dX8_sell_44 : decode cX8_sell 44 = .ok (.aload_n 0, 1) := by decide +kernel
theorem dX8_sell_45 : decode cX8_sell 45 = .ok (.getfield 21, 3) := by decide +kernel
theorem dX8_sell_48 : decode cX8_sell 48 = .ok (.iload_n 2, 1) := by decide +kernel
theorem dX8_sell_49 : decode cX8_sell 49 = .ok (.iaload, 1) := by decide +kernel
theorem dX8_sell_50 : decode cX8_sell 50 = .ok (.bipush 21, 2) := by decide +kernel
theorem dX8_sell_52 : decode cX8_sell 52 = .ok (.iastore, 1) := by decide +kernel
theorem dX8_sell_53 : decode cX8_sell 53 = .ok (.aload_n 0, 1) := by decide +kernel
theorem dX8_sell_54 : decode cX8_sell 54 = .ok (.dup, 1) := by decide +kernel
theorem dX8_sell_55 : decode cX8_sell 55 = .ok (.getfield 24, 3) := by decide +kernel
theorem dX8_sell_58 : decode cX8_sell 58 = .ok (.iconst 1, 1) := by decide +kernel
theorem dX8_sell_59 : decode cX8_sell 59 = .ok (.isub, 1) := by decide +kernel
theorem dX8_sell_60 : decode cX8_sell 60 = .ok (.putfield 24, 3) := by decide +kernel
theorem dX8_sell_63 : decode cX8_sell 63 = .ok (.iload_n 2, 1) := by decide +kernel
theorem dX8_sell_64 : decode cX8_sell 64 = .ok (.istore_n 3, 1) := by decide +kernel
theorem dX8_sell_65 : decode cX8_sell 65 = .ok (.iload_n 3, 1) := by decide +kernel
theorem dX8_sell_66 : decode cX8_sell 66 = .ok (.aload_n 0, 1) := by decide +kernel
theorem dX8_sell_67 : decode cX8_sell 67 = .ok (.getfield 24, 3) := by decide +kernel
theorem dX8_sell_70 : decode cX8_sell 70 = .ok (.if_icmp .ge 23, 3) := by decide +kernel
theorem dX8_sell_73 : decode cX8_sell 73 = .ok (.aload_n 0, 1) := by decide +kernel
theorem dX8_sell_74 : decode cX8_sell 74 = .ok (.getfield 21, 3) := by decide +kernel
theorem dX8_sell_77 : decode cX8_sell 77 = .ok (.iload_n 3, 1) := by decide +kernel
theorem dX8_sell_78 : decode cX8_sell 78 = .ok (.aload_n 0, 1) := by decide +kernel
theorem dX8_sell_79 : decode cX8_sell 79 = .ok (.getfield 21, 3) := by decide +kernel
theorem dX8_sell_82 : decode cX8_sell 82 = .ok (.iload_n 3, 1) := by decide +kernel
theorem dX8_sell_83 : decode cX8_sell 83 = .ok (.iconst 1, 1) := by decide +kernel
theorem dX8_sell_84 : decode cX8_sell 84 = .ok (.iadd, 1) := by decide +kernel
theorem dX8_sell_85 : decode cX8_sell 85 = .ok (.iaload, 1) := by decide +kernel
theorem dX8_sell_86 : decode cX8_sell 86 = .ok (.iastore, 1) := by decide +kernel
theorem dX8_sell_87 : decode cX8_sell 87 = .ok (.iinc 3 1, 3) := by decide +kernel
theorem dX8_sell_90 : decode cX8_sell 90 = .ok (.goto (-25), 3) := by decide +kernel
theorem dX8_sell_93 : decode cX8_sell 93 = .ok (.return_, 1) := by decide +kernel
set_option maxRecDepth 4000 in
theorem s_X8_sell_0 {w : GX} {d : Nat} {P : PN} {g : GI} {x0 : Nat} (hx0 : isW x0) (x1 : Int)
    (h : Zm w d mX8_sell 2 [some (aR (some (x0))), some (aI (x1)), some (aI (0)), none] [] g P) :
    Zm w d mX8_sell 0 [some (aR (some (x0))), some (aI (x1)), none, none] [] g P := by
  refine z_iconst dX8_sell_0 ?_
  refine z_istore_n dX8_sell_1 rfl (by decide) rfl ?_
  show Zm w d mX8_sell 2 [some (aR (some (x0))), some (aI (x1)), some (aI (0)), none] [] g P
  exact z_weak (by simp [lle]) h
set_option maxRecDepth 4000 in
theorem s_X8_sell_2 {w : GX} {d : Nat} {P : PN} {g : GI} {x0 : Nat} (hx0 : isW x0) (x1 : Int) (x2 : Int)
    (h : ((¬ nm x2 < nm (g x0 4) → Zm w d mX8_sell 31 [some (aR (some (x0))), none, some (aI (x2)), none] [] g P) ∧ (nm x2 < nm (g x0 4) → (0 ≤ nm x2 ∧ nm x2 < 20 ∧ (0 ≤ nm (g (x0 + 4) (nm x2).toNat) ∧ nm (g (x0 + 4) (nm x2).toNat) < 28 ∧ ((nm (g (x0 + 1) (nm (g (x0 + 4) (nm x2).toNat)).toNat) = nm x1 → Zm w d mX8_sell 31 [some (aR (some (x0))), none, some (aI (x2)), none] [] g P) ∧ (¬ nm (g (x0 + 1) (nm (g (x0 + 4) (nm x2).toNat)).toNat) = nm x1 → Zm w d mX8_sell 2 [some (aR (some (x0))), some (aI (x1)), some (aI (x2 + 1)), none] [] g P))))))) :
    Zm w d mX8_sell 2 [some (aR (some (x0))), some (aI (x1)), some (aI (x2)), none] [] g P := by
  refine z_iload_n dX8_sell_2 rfl rfl ?_
  refine z_aload_n dX8_sell_3 rfl rfl ?_
  refine z_getI dX8_sell_4 fl_X8_24 (by decide) (congrArg Prod.fst hx0.1) ?_
  refine z_icmp_ge (tgt := 31) dX8_sell_7 (by decide) (fun c1 => ?_) (fun c1 => ?_)
  · replace h := h.1 c1
    exact z_weak (by simp [lle]) h
  · replace h := h.2 (Decidable.not_not.mp c1)
    refine z_aload_n dX8_sell_10 rfl rfl ?_
    refine m_getR dX8_sell_11 fl_X8_9 (by decide) (congrArg Prod.fst hx0.1) hx0.2.2.2.2.2.1 ?_
    refine z_aload_n dX8_sell_14 rfl rfl ?_
    refine m_getR dX8_sell_15 fl_X8_21 (by decide) (congrArg Prod.fst hx0.1) hx0.2.2.2.2.2.2.2.2.1 ?_
    refine z_iload_n dX8_sell_18 rfl rfl ?_
    obtain ⟨q4, q5, h⟩ := h
    refine m_iald dX8_sell_19 hx0.2.2.2.2.1 q4 q5 ?_
    obtain ⟨q8, q9, h⟩ := h
    refine m_iald dX8_sell_20 hx0.2.1 q8 q9 ?_
    refine z_iload_n dX8_sell_21 rfl rfl ?_
    refine z_icmp_eq (tgt := 31) dX8_sell_22 (by decide) (fun c10 => ?_) (fun c10 => ?_)
    · replace h := h.1 c10
      exact z_weak (by simp [lle]) h
    · replace h := h.2 c10
      refine z_iinc dX8_sell_25 rfl (by decide) rfl ?_
      show Zm w d mX8_sell 28 [some (aR (some (x0))), some (aI (x1)), some (aI (x2 + 1)), none] [] g P
      refine z_goto (tgt := 2) dX8_sell_28 (by decide) ?_
      exact z_weak (by simp [lle]) h
set_option maxRecDepth 4000 in
theorem s_X8_sell_31 {w : GX} {d : Nat} {P : PN} {g : GI} {x0 : Nat} (hx0 : isW x0) (x2 : Int)
    (h : ((nm x2 < nm (g x0 4) → (0 ≤ nm x2 ∧ nm x2 < 20 ∧ (0 ≤ nm (g (x0 + 4) (nm x2).toNat) ∧ nm (g (x0 + 4) (nm x2).toNat) < 28 ∧ ∀ g6 : GI, g6 = up2 g (x0 + 1) (nm (g (x0 + 4) (nm x2).toNat)).toNat 21 → (∀ g9 : GI, g9 = up2 g6 x0 4 ((g6 x0 4) - 1) → Zm w d mX8_sell 65 [some (aR (some (x0))), none, none, some (aI (x2))] [] g9 P)))) ∧ (¬ nm x2 < nm (g x0 4) → P none g))) :
    Zm w d mX8_sell 31 [some (aR (some (x0))), none, some (aI (x2)), none] [] g P := by
  refine z_iload_n dX8_sell_31 rfl rfl ?_
  refine z_aload_n dX8_sell_32 rfl rfl ?_
  refine z_getI dX8_sell_33 fl_X8_24 (by decide) (congrArg Prod.fst hx0.1) ?_
  refine z_icmp_lt (tgt := 40) dX8_sell_36 (by decide) (fun c1 => ?_) (fun c1 => ?_)
  · replace h := h.1 c1
    refine z_aload_n dX8_sell_40 rfl rfl ?_
    refine m_getR dX8_sell_41 fl_X8_9 (by decide) (congrArg Prod.fst hx0.1) hx0.2.2.2.2.2.1 ?_
    refine z_aload_n dX8_sell_44 rfl rfl ?_
    refine m_getR dX8_sell_45 fl_X8_21 (by decide) (congrArg Prod.fst hx0.1) hx0.2.2.2.2.2.2.2.2.1 ?_
    refine z_iload_n dX8_sell_48 rfl rfl ?_
    obtain ⟨q4, q5, h⟩ := h
    refine m_iald dX8_sell_49 hx0.2.2.2.2.1 q4 q5 ?_
    refine z_bipush dX8_sell_50 rfl ?_
    obtain ⟨q7, q8, h⟩ := h
    replace h := h _ rfl
    refine m_iast dX8_sell_52 hx0.2.1 q7 q8 ?_
    refine z_aload_n dX8_sell_53 rfl rfl ?_
    refine z_dup dX8_sell_54 rfl ?_
    refine z_getI dX8_sell_55 fl_X8_24 (by decide) (congrArg Prod.fst hx0.1) ?_
    refine z_iconst dX8_sell_58 ?_
    refine z_isub dX8_sell_59 ?_
    replace h := h _ rfl
    refine z_putI dX8_sell_60 fw_X8_24 (by decide) (congrArg Prod.fst hx0.1) ?_
    refine z_iload_n dX8_sell_63 rfl rfl ?_
    refine z_istore_n dX8_sell_64 rfl (by decide) rfl ?_
    show Zm w d mX8_sell 65 [some (aR (some (x0))), none, some (aI (x2)), some (aI (x2))] [] (up2 (up2 g (x0 + 1) (nm (g (x0 + 4) (nm x2).toNat)).toNat 21) x0 4 (((up2 g (x0 + 1) (nm (g (x0 + 4) (nm x2).toNat)).toNat 21) x0 4) - 1)) P
    exact z_weak (by simp [lle]) h
  · replace h := h.2 c1
    exact m_vret dX8_sell_39 rfl h
set_option maxRecDepth 4000 in
theorem s_X8_sell_65 {w : GX} {d : Nat} {P : PN} {g : GI} {x0 : Nat} (hx0 : isW x0) (x3 : Int)
    (h : ((¬ nm x3 < nm (g x0 4) → P none g) ∧ (nm x3 < nm (g x0 4) → (0 ≤ nm (x3 + 1) ∧ nm (x3 + 1) < 20 ∧ (0 ≤ nm x3 ∧ nm x3 < 20 ∧ ∀ g6 : GI, g6 = up2 g (x0 + 4) (nm x3).toNat (g (x0 + 4) (nm (x3 + 1)).toNat) → Zm w d mX8_sell 65 [some (aR (some (x0))), none, none, some (aI (x3 + 1))] [] g6 P))))) :
    Zm w d mX8_sell 65 [some (aR (some (x0))), none, none, some (aI (x3))] [] g P := by
  refine z_iload_n dX8_sell_65 rfl rfl ?_
  refine z_aload_n dX8_sell_66 rfl rfl ?_
  refine z_getI dX8_sell_67 fl_X8_24 (by decide) (congrArg Prod.fst hx0.1) ?_
  refine z_icmp_ge (tgt := 93) dX8_sell_70 (by decide) (fun c1 => ?_) (fun c1 => ?_)
  · replace h := h.1 c1
    exact m_vret dX8_sell_93 rfl h
  · replace h := h.2 (Decidable.not_not.mp c1)
    refine z_aload_n dX8_sell_73 rfl rfl ?_
    refine m_getR dX8_sell_74 fl_X8_21 (by decide) (congrArg Prod.fst hx0.1) hx0.2.2.2.2.2.2.2.2.1 ?_
    refine z_iload_n dX8_sell_77 rfl rfl ?_
    refine z_aload_n dX8_sell_78 rfl rfl ?_
    refine m_getR dX8_sell_79 fl_X8_21 (by decide) (congrArg Prod.fst hx0.1) hx0.2.2.2.2.2.2.2.2.1 ?_
    refine z_iload_n dX8_sell_82 rfl rfl ?_
    refine z_iconst dX8_sell_83 ?_
    refine z_iadd dX8_sell_84 ?_
    obtain ⟨q4, q5, h⟩ := h
    refine m_iald dX8_sell_85 hx0.2.2.2.2.1 q4 q5 ?_
    obtain ⟨q7, q8, h⟩ := h
    replace h := h _ rfl
    refine m_iast dX8_sell_86 hx0.2.2.2.2.1 q7 q8 ?_
    refine z_iinc dX8_sell_87 rfl (by decide) rfl ?_
    show Zm w d mX8_sell 90 [some (aR (some (x0))), none, none, some (aI (x3 + 1))] [] (up2 g (x0 + 4) (nm x3).toNat (g (x0 + 4) (nm (x3 + 1)).toNat)) P
    refine z_goto (tgt := 65) dX8_sell_90 (by decide) ?_
    exact z_weak (by simp [lle]) h
theorem dX8_drift_0 : decode cX8_drift 0 = .ok (.iload_n 2, 1) := by decide +kernel
theorem dX8_drift_1 : decode cX8_drift 1 = .ok (.iconst 2, 1) := by decide +kernel
theorem dX8_drift_2 : decode cX8_drift 2 = .ok (.irem, 1) := by decide +kernel
theorem dX8_drift_3 : decode cX8_drift 3 = .ok (.ifCond .ne 10, 3) := by decide +kernel
theorem dX8_drift_6 : decode cX8_drift 6 = .ok (.aload_n 1, 1) := by decide +kernel
theorem dX8_drift_7 : decode cX8_drift 7 = .ok (.getfield 51, 3) := by decide +kernel
theorem dX8_drift_10 : decode cX8_drift 10 = .ok (.goto 7, 3) := by decide +kernel
theorem dX8_drift_13 : decode cX8_drift 13 = .ok (.aload_n 1, 1) := by decide +kernel
theorem dX8_drift_14 : decode cX8_drift 14 = .ok (.getfield 55, 3) := by decide +kernel
theorem dX8_drift_17 : decode cX8_drift 17 = .ok (.astore_n 3, 1) := by decide +kernel
theorem dX8_drift_18 : decode cX8_drift 18 = .ok (.iconst 0, 1) := by decide +kernel
theorem dX8_drift_19 : decode cX8_drift 19 = .ok (.istore 4, 2) := by decide +kernel
theorem dX8_drift_21 : decode cX8_drift 21 = .ok (.iconst 0, 1) := by decide +kernel
theorem dX8_drift_22 : decode cX8_drift 22 = .ok (.istore 5, 2) := by decide +kernel
theorem dX8_drift_24 : decode cX8_drift 24 = .ok (.iload 5, 2) := by decide +kernel
theorem dX8_drift_26 : decode cX8_drift 26 = .ok (.aload_n 0, 1) := by decide +kernel
theorem dX8_drift_27 : decode cX8_drift 27 = .ok (.getfield 24, 3) := by decide +kernel
theorem dX8_drift_30 : decode cX8_drift 30 = .ok (.if_icmp .ge 102, 3) := by decide +kernel
theorem dX8_drift_33 : decode cX8_drift 33 = .ok (.aload_n 0, 1) := by decide +kernel
theorem dX8_drift_34 : decode cX8_drift 34 = .ok (.getfield 21, 3) := by decide +kernel
theorem dX8_drift_37 : decode cX8_drift 37 = .ok (.iload 5, 2) := by decide +kernel
theorem dX8_drift_39 : decode cX8_drift 39 = .ok (.iaload, 1) := by decide +kernel
theorem dX8_drift_40 : decode cX8_drift 40 = .ok (.istore 6, 2) := by decide +kernel
theorem dX8_drift_42 : decode cX8_drift 42 = .ok (.aload_n 3, 1) := by decide +kernel
theorem dX8_drift_43 : decode cX8_drift 43 = .ok (.aload_n 0, 1) := by decide +kernel
theorem dX8_drift_44 : decode cX8_drift 44 = .ok (.getfield 9, 3) := by decide +kernel
theorem dX8_drift_47 : decode cX8_drift 47 = .ok (.iload 6, 2) := by decide +kernel
theorem dX8_drift_49 : decode cX8_drift 49 = .ok (.iaload, 1) := by decide +kernel
theorem dX8_drift_50 : decode cX8_drift 50 = .ok (.baload, 1) := by decide +kernel
theorem dX8_drift_51 : decode cX8_drift 51 = .ok (.ifCond .eq 51, 3) := by decide +kernel
theorem dX8_drift_54 : decode cX8_drift 54 = .ok (.aload_n 0, 1) := by decide +kernel
theorem dX8_drift_55 : decode cX8_drift 55 = .ok (.getfield 15, 3) := by decide +kernel
theorem dX8_drift_58 : decode cX8_drift 58 = .ok (.iload 6, 2) := by decide +kernel
theorem dX8_drift_60 : decode cX8_drift 60 = .ok (.dup2, 1) := by decide +kernel
theorem dX8_drift_61 : decode cX8_drift 61 = .ok (.iaload, 1) := by decide +kernel
theorem dX8_drift_62 : decode cX8_drift 62 = .ok (.iconst 1, 1) := by decide +kernel
theorem dX8_drift_63 : decode cX8_drift 63 = .ok (.iadd, 1) := by decide +kernel
theorem dX8_drift_64 : decode cX8_drift 64 = .ok (.iastore, 1) := by decide +kernel
theorem dX8_drift_65 : decode cX8_drift 65 = .ok (.aload_n 0, 1) := by decide +kernel
theorem dX8_drift_66 : decode cX8_drift 66 = .ok (.getfield 9, 3) := by decide +kernel
theorem dX8_drift_69 : decode cX8_drift 69 = .ok (.iload 6, 2) := by decide +kernel
theorem dX8_drift_71 : decode cX8_drift 71 = .ok (.aload_n 0, 1) := by decide +kernel
theorem dX8_drift_72 : decode cX8_drift 72 = .ok (.getfield 9, 3) := by decide +kernel
theorem dX8_drift_75 : decode cX8_drift 75 = .ok (.iload 6, 2) := by decide +kernel
theorem dX8_drift_77 : decode cX8_drift 77 = .ok (.iaload, 1) := by decide +kernel
theorem dX8_drift_78 : decode cX8_drift 78 = .ok (.iconst 1, 1) := by decide +kernel
theorem dX8_drift_79 : decode cX8_drift 79 = .ok (.iadd, 1) := by decide +kernel
theorem dX8_drift_80 : decode cX8_drift 80 = .ok (.aload_n 1, 1) := by decide +kernel
theorem dX8_drift_81 : decode cX8_drift 81 = .ok (.getfield 58, 3) := by decide +kernel
theorem dX8_drift_84 : decode cX8_drift 84 = .ok (.if_icmp .ge 15, 3) := by decide +kernel
theorem dX8_drift_87 : decode cX8_drift 87 = .ok (.aload_n 0, 1) := by decide +kernel
theorem dX8_drift_88 : decode cX8_drift 88 = .ok (.getfield 9, 3) := by decide +kernel
theorem dX8_drift_91 : decode cX8_drift 91 = .ok (.iload 6, 2) := by decide +kernel
theorem dX8_drift_93 : decode cX8_drift 93 = .ok (.iaload, 1) := by decide +kernel
theorem dX8_drift_94 : decode cX8_drift 94 = .ok (.iconst 1, 1) := by decide +kernel
theorem dX8_drift_95 : decode cX8_drift 95 = .ok (.iadd, 1) := by decide +kernel
theorem dX8_drift_96 : decode cX8_drift 96 = .ok (.goto 5, 3) := by decide +kernel
theorem dX8_drift_99 : decode cX8_drift 99 = .ok (.bipush 20, 2) := by decide +kernel
theorem dX8_drift_101 : decode cX8_drift 101 = .ok (.iastore, 1) := by decide +kernel
theorem dX8_drift_102 : decode cX8_drift 102 = .ok (.aload_n 0, 1) := by decide +kernel
theorem dX8_drift_103 : decode cX8_drift 103 = .ok (.getfield 9, 3) := by decide +kernel
theorem dX8_drift_106 : decode cX8_drift 106 = .ok (.iload 6, 2) := by decide +kernel
theorem dX8_drift_108 : decode cX8_drift 108 = .ok (.iaload, 1) := by decide +kernel
theorem dX8_drift_109 : decode cX8_drift 109 = .ok (.bipush 20, 2) := by decide +kernel
theorem dX8_drift_111 : decode cX8_drift 111 = .ok (.if_icmp .eq 15, 3) := by decide +kernel
theorem dX8_drift_114 : decode cX8_drift 114 = .ok (.aload_n 0, 1) := by decide +kernel
theorem dX8_drift_115 : decode cX8_drift 115 = .ok (.getfield 21, 3) := by decide +kernel
theorem dX8_drift_118 : decode cX8_drift 118 = .ok (.iload 4, 2) := by decide +kernel
theorem dX8_drift_120 : decode cX8_drift 120 = .ok (.iload 6, 2) := by decide +kernel
theorem dX8_drift_122 : decode cX8_drift 122 = .ok (.iastore, 1) := by decide +kernel
theorem dX8_drift_123 : decode cX8_drift 123 = .ok (.iinc 4 1, 3) := by decide +kernel
theorem dX8_drift_126 : decode cX8_drift 126 = .ok (.iinc 5 1, 3) := by decide +kernel
theorem dX8_drift_129 : decode cX8_drift 129 = .ok (.goto (-105), 3) := by decide +kernel
theorem dX8_drift_132 : decode cX8_drift 132 = .ok (.aload_n 0, 1) := by decide +kernel
theorem dX8_drift_133 : decode cX8_drift 133 = .ok (.iload 4, 2) := by decide +kernel
theorem dX8_drift_135 : decode cX8_drift 135 = .ok (.putfield 24, 3) := by decide +kernel
theorem dX8_drift_138 : decode cX8_drift 138 = .ok (.return_, 1) := by decide +kernel
set_option maxRecDepth 4000 in
theorem s_X8_drift_0 {w : GX} {d : Nat} {P : PN} {g : GI} {x0 : Nat} (hx0 : isW x0) (x2 : Int)
    (h : ((¬ nm (iRem x2 2) = 0 → Zm w d mX8_drift 17 [some (aR (some (x0))), some (aR (some (18))), none, none, none, none, none] [aR (some (21))] g P) ∧ (nm (iRem x2 2) = 0 → Zm w d mX8_drift 17 [some (aR (some (x0))), some (aR (some (18))), none, none, none, none, none] [aR (some (20))] g P))) :
    Zm w d mX8_drift 0 [some (aR (some (x0))), some (aR (some (18))), some (aI (x2)), none, none, none, none] [] g P := by
  refine z_iload_n dX8_drift_0 rfl rfl ?_
  refine z_iconst dX8_drift_1 ?_
  refine z_irem dX8_drift_2 (by decide) ?_
  refine z_if_ne (tgt := 13) dX8_drift_3 (by decide) (fun c1 => ?_) (fun c1 => ?_)
  · replace h := h.1 c1
    refine z_aload_n dX8_drift_13 rfl rfl ?_
    refine m_getR dX8_drift_14 fl_X8_55 (by decide) kt_18 rv_18_2 ?_
    exact z_weak (by simp [lle]) h
  · replace h := h.2 (Decidable.not_not.mp c1)
    refine z_aload_n dX8_drift_6 rfl rfl ?_
    refine m_getR dX8_drift_7 fl_X8_51 (by decide) kt_18 rv_18_1 ?_
    refine z_goto (tgt := 17) dX8_drift_10 (by decide) ?_
    exact z_weak (by simp [lle]) h
set_option maxRecDepth 4000 in
theorem s_X8_drift_17 {w : GX} {d : Nat} {P : PN} {g : GI} {x0 : Nat} (hx0 : isW x0) {y0 : Nat} (hy0 : kd0 y0 = (13, 20))
    (h : Zm w d mX8_drift 24 [some (aR (some (x0))), some (aR (some (18))), none, some (aR (some (y0))), some (aI (0)), some (aI (0)), none] [] g P) :
    Zm w d mX8_drift 17 [some (aR (some (x0))), some (aR (some (18))), none, none, none, none, none] [aR (some (y0))] g P := by
  refine z_astore_n dX8_drift_17 rfl (by decide) rfl ?_
  show Zm w d mX8_drift 18 [some (aR (some (x0))), some (aR (some (18))), none, some (aR (some (y0))), none, none, none] [] g P
  refine z_iconst dX8_drift_18 ?_
  refine z_istore dX8_drift_19 (by decide) rfl ?_
  show Zm w d mX8_drift 21 [some (aR (some (x0))), some (aR (some (18))), none, some (aR (some (y0))), some (aI (0)), none, none] [] g P
  refine z_iconst dX8_drift_21 ?_
  refine z_istore dX8_drift_22 (by decide) rfl ?_
  show Zm w d mX8_drift 24 [some (aR (some (x0))), some (aR (some (18))), none, some (aR (some (y0))), some (aI (0)), some (aI (0)), none] [] g P
  exact z_weak (by simp [lle]) h
set_option maxRecDepth 4000 in
theorem s_X8_drift_24 {w : GX} {d : Nat} {P : PN} {g : GI} {x0 : Nat} (hx0 : isW x0) {x3 : Nat} (hx3 : kd0 x3 = (13, 20)) (x4 : Int) (x5 : Int)
    (h : ((¬ nm x5 < nm (g x0 4) → (∀ g2 : GI, g2 = up2 g x0 4 x4 → P none g2)) ∧ (nm x5 < nm (g x0 4) → (0 ≤ nm x5 ∧ nm x5 < 20 ∧ (∀ v7 : Int, v7 = g (x0 + 4) (nm x5).toNat → (0 ≤ nm v7 ∧ nm v7 < 28 ∧ (0 ≤ nm (g (x0 + 1) (nm v7).toNat) ∧ nm (g (x0 + 1) (nm v7).toNat) < 20 ∧ ((nm (g x3 (nm (g (x0 + 1) (nm v7).toNat)).toNat) = 0 → Zm w d mX8_drift 102 [some (aR (some (x0))), some (aR (some (18))), none, some (aR (some (x3))), some (aI (x4)), some (aI (x5)), some (aI (v7))] [] g P) ∧ (¬ nm (g x3 (nm (g (x0 + 1) (nm v7).toNat)).toNat) = 0 → ((∀ g19 : GI, g19 = up2 g (x0 + 2) (nm v7).toNat ((g (x0 + 2) (nm v7).toNat) + 1) → (((¬ nm ((g19 (x0 + 1) (nm v7).toNat) + 1) < nm (g19 18 8) → Zm w d mX8_drift 101 [some (aR (some (x0))), some (aR (some (18))), none, some (aR (some (x3))), some (aI (x4)), some (aI (x5)), some (aI (v7))] [aI (20), aI (v7), aR (some (x0 + 1))] g19 P) ∧ (nm ((g19 (x0 + 1) (nm v7).toNat) + 1) < nm (g19 18 8) → (Zm w d mX8_drift 101 [some (aR (some (x0))), some (aR (some (18))), none, some (aR (some (x3))), some (aI (x4)), some (aI (x5)), some (aI (v7))] [aI ((g19 (x0 + 1) (nm v7).toNat) + 1), aI (v7), aR (some (x0 + 1))] g19 P))))))))))))))) :
    Zm w d mX8_drift 24 [some (aR (some (x0))), some (aR (some (18))), none, some (aR (some (x3))), some (aI (x4)), some (aI (x5)), none] [] g P := by
  refine z_iload dX8_drift_24 rfl ?_
  refine z_aload_n dX8_drift_26 rfl rfl ?_
  refine z_getI dX8_drift_27 fl_X8_24 (by decide) (congrArg Prod.fst hx0.1) ?_
  refine z_icmp_ge (tgt := 132) dX8_drift_30 (by decide) (fun c1 => ?_) (fun c1 => ?_)
  · replace h := h.1 c1
    refine z_aload_n dX8_drift_132 rfl rfl ?_
    refine z_iload dX8_drift_133 rfl ?_
    replace h := h _ rfl
    refine z_putI dX8_drift_135 fw_X8_24 (by decide) (congrArg Prod.fst hx0.1) ?_
    exact m_vret dX8_drift_138 rfl h
  · replace h := h.2 (Decidable.not_not.mp c1)
    refine z_aload_n dX8_drift_33 rfl rfl ?_
    refine m_getR dX8_drift_34 fl_X8_21 (by decide) (congrArg Prod.fst hx0.1) hx0.2.2.2.2.2.2.2.2.1 ?_
    refine z_iload dX8_drift_37 rfl ?_
    obtain ⟨q5, q6, h⟩ := h
    refine m_iald dX8_drift_39 hx0.2.2.2.2.1 q5 q6 ?_
    replace h := h _ rfl
    refine z_istore dX8_drift_40 (by decide) rfl ?_
    show Zm w d mX8_drift 42 [some (aR (some (x0))), some (aR (some (18))), none, some (aR (some (x3))), some (aI (x4)), some (aI (x5)), some (aI (g (x0 + 4) (nm x5).toNat))] [] g P
    refine z_aload_n dX8_drift_42 rfl rfl ?_
    refine z_aload_n dX8_drift_43 rfl rfl ?_
    refine m_getR dX8_drift_44 fl_X8_9 (by decide) (congrArg Prod.fst hx0.1) hx0.2.2.2.2.2.1 ?_
    refine z_iload dX8_drift_47 rfl ?_
    obtain ⟨q10, q11, h⟩ := h
    refine m_iald dX8_drift_49 hx0.2.1 q10 q11 ?_
    obtain ⟨q14, q15, h⟩ := h
    refine m_bald dX8_drift_50 hx3 q14 q15 ?_
    refine z_if_eq (tgt := 102) dX8_drift_51 (by decide) (fun c16 => ?_) (fun c16 => ?_)
    · replace h := h.1 c16
      exact z_weak (by simp [lle]) h
    · replace h := h.2 c16
      refine z_aload_n dX8_drift_54 rfl rfl ?_
      refine m_getR dX8_drift_55 fl_X8_15 (by decide) (congrArg Prod.fst hx0.1) hx0.2.2.2.2.2.2.1 ?_
      refine z_iload dX8_drift_58 rfl ?_
      refine z_dup2 dX8_drift_60 rfl rfl ?_
      refine m_iald dX8_drift_61 hx0.2.2.1 q10 q11 ?_
      refine z_iconst dX8_drift_62 ?_
      refine z_iadd dX8_drift_63 ?_
      replace h := h _ rfl
      refine m_iast dX8_drift_64 hx0.2.2.1 q10 q11 ?_
      refine z_aload_n dX8_drift_65 rfl rfl ?_
      refine m_getR dX8_drift_66 fl_X8_9 (by decide) (congrArg Prod.fst hx0.1) hx0.2.2.2.2.2.1 ?_
      refine z_iload dX8_drift_69 rfl ?_
      refine z_aload_n dX8_drift_71 rfl rfl ?_
      refine m_getR dX8_drift_72 fl_X8_9 (by decide) (congrArg Prod.fst hx0.1) hx0.2.2.2.2.2.1 ?_
      refine z_iload dX8_drift_75 rfl ?_
      refine m_iald dX8_drift_77 hx0.2.1 q10 q11 ?_
      refine z_iconst dX8_drift_78 ?_
      refine z_iadd dX8_drift_79 ?_
      refine z_aload_n dX8_drift_80 rfl rfl ?_
      refine z_getI dX8_drift_81 fl_X8_58 (by decide) kt_18 ?_
      refine z_icmp_ge (tgt := 99) dX8_drift_84 (by decide) (fun c22 => ?_) (fun c22 => ?_)
      · replace h := h.1 c22
        refine z_bipush dX8_drift_99 rfl ?_
        exact z_weak (by simp [lle]) h
      · replace h := h.2 (Decidable.not_not.mp c22)
        refine z_aload_n dX8_drift_87 rfl rfl ?_
        refine m_getR dX8_drift_88 fl_X8_9 (by decide) (congrArg Prod.fst hx0.1) hx0.2.2.2.2.2.1 ?_
        refine z_iload dX8_drift_91 rfl ?_
        refine m_iald dX8_drift_93 hx0.2.1 q10 q11 ?_
        refine z_iconst dX8_drift_94 ?_
        refine z_iadd dX8_drift_95 ?_
        refine z_goto (tgt := 101) dX8_drift_96 (by decide) ?_
        exact z_weak (by simp [lle]) h
set_option maxRecDepth 4000 in
theorem s_X8_drift_101 {w : GX} {d : Nat} {P : PN} {g : GI} {x0 : Nat} (hx0 : isW x0) {x3 : Nat} (hx3 : kd0 x3 = (13, 20)) (x4 : Int) (x5 : Int) (x6 : Int) {y0 : Nat} (hy0 : kd0 y0 = (12, 28)) (y1 : Int) (y2 : Int)
    (h : (0 ≤ nm y1 ∧ nm y1 < 28 ∧ ∀ g1 : GI, g1 = up2 g y0 (nm y1).toNat y2 → Zm w d mX8_drift 102 [some (aR (some (x0))), some (aR (some (18))), none, some (aR (some (x3))), some (aI (x4)), some (aI (x5)), some (aI (x6))] [] g1 P)) :
    Zm w d mX8_drift 101 [some (aR (some (x0))), some (aR (some (18))), none, some (aR (some (x3))), some (aI (x4)), some (aI (x5)), some (aI (x6))] [aI (y2), aI (y1), aR (some (y0))] g P := by
  obtain ⟨q2, q3, h⟩ := h
  replace h := h _ rfl
  refine m_iast dX8_drift_101 hy0 q2 q3 ?_
  exact z_weak (by simp [lle]) h
set_option maxRecDepth 4000 in
theorem s_X8_drift_102 {w : GX} {d : Nat} {P : PN} {g : GI} {x0 : Nat} (hx0 : isW x0) {x3 : Nat} (hx3 : kd0 x3 = (13, 20)) (x4 : Int) (x5 : Int) (x6 : Int)
    (h : (0 ≤ nm x6 ∧ nm x6 < 28 ∧ ((nm (g (x0 + 1) (nm x6).toNat) = nm 20 → Zm w d mX8_drift 24 [some (aR (some (x0))), some (aR (some (18))), none, some (aR (some (x3))), some (aI (x4)), some (aI (x5 + 1)), none] [] g P) ∧ (¬ nm (g (x0 + 1) (nm x6).toNat) = nm 20 → (0 ≤ nm x4 ∧ nm x4 < 20 ∧ ∀ g6 : GI, g6 = up2 g (x0 + 4) (nm x4).toNat x6 → Zm w d mX8_drift 24 [some (aR (some (x0))), some (aR (some (18))), none, some (aR (some (x3))), some (aI (x4 + 1)), some (aI (x5 + 1)), none] [] g6 P))))) :
    Zm w d mX8_drift 102 [some (aR (some (x0))), some (aR (some (18))), none, some (aR (some (x3))), some (aI (x4)), some (aI (x5)), some (aI (x6))] [] g P := by
  refine z_aload_n dX8_drift_102 rfl rfl ?_
  refine m_getR dX8_drift_103 fl_X8_9 (by decide) (congrArg Prod.fst hx0.1) hx0.2.2.2.2.2.1 ?_
  refine z_iload dX8_drift_106 rfl ?_
  obtain ⟨q3, q4, h⟩ := h
  refine m_iald dX8_drift_108 hx0.2.1 q3 q4 ?_
  refine z_bipush dX8_drift_109 rfl ?_
  refine z_icmp_eq (tgt := 126) dX8_drift_111 (by decide) (fun c5 => ?_) (fun c5 => ?_)
  · replace h := h.1 c5
    refine z_iinc dX8_drift_126 rfl (by decide) rfl ?_
    show Zm w d mX8_drift 129 [some (aR (some (x0))), some (aR (some (18))), none, some (aR (some (x3))), some (aI (x4)), some (aI (x5 + 1)), some (aI (x6))] [] g P
    refine z_goto (tgt := 24) dX8_drift_129 (by decide) ?_
    exact z_weak (by simp [lle]) h
  · replace h := h.2 c5
    refine z_aload_n dX8_drift_114 rfl rfl ?_
    refine m_getR dX8_drift_115 fl_X8_21 (by decide) (congrArg Prod.fst hx0.1) hx0.2.2.2.2.2.2.2.2.1 ?_
    refine z_iload dX8_drift_118 rfl ?_
    refine z_iload dX8_drift_120 rfl ?_
    obtain ⟨q7, q8, h⟩ := h
    replace h := h _ rfl
    refine m_iast dX8_drift_122 hx0.2.2.2.2.1 q7 q8 ?_
    refine z_iinc dX8_drift_123 rfl (by decide) rfl ?_
    show Zm w d mX8_drift 126 [some (aR (some (x0))), some (aR (some (18))), none, some (aR (some (x3))), some (aI (x4 + 1)), some (aI (x5)), some (aI (x6))] [] (up2 g (x0 + 4) (nm x4).toNat x6) P
    refine z_iinc dX8_drift_126 rfl (by decide) rfl ?_
    show Zm w d mX8_drift 129 [some (aR (some (x0))), some (aR (some (18))), none, some (aR (some (x3))), some (aI (x4 + 1)), some (aI (x5 + 1)), some (aI (x6))] [] (up2 g (x0 + 4) (nm x4).toNat x6) P
    refine z_goto (tgt := 24) dX8_drift_129 (by decide) ?_
    exact z_weak (by simp [lle]) h
theorem dX8_letterOf_0 : decode cX8_letterOf 0 = .ok (.aload_n 0, 1) := by decide +kernel
theorem dX8_letterOf_1 : decode cX8_letterOf 1 = .ok (.getfield 18, 3) := by decide +kernel
theorem dX8_letterOf_4 : decode cX8_letterOf 4 = .ok (.iload_n 2, 1) := by decide +kernel
theorem dX8_letterOf_5 : decode cX8_letterOf 5 = .ok (.iaload, 1) := by decide +kernel
theorem dX8_letterOf_6 : decode cX8_letterOf 6 = .ok (.istore_n 3, 1) := by decide +kernel
theorem dX8_letterOf_7 : decode cX8_letterOf 7 = .ok (.aload_n 1, 1) := by decide +kernel
theorem dX8_letterOf_8 : decode cX8_letterOf 8 = .ok (.iload_n 3, 1) := by decide +kernel
theorem dX8_letterOf_9 : decode cX8_letterOf 9 = .ok (.aload_n 0, 1) := by decide +kernel
theorem dX8_letterOf_10 : decode cX8_letterOf 10 = .ok (.getfield 15, 3) := by decide +kernel
theorem dX8_letterOf_13 : decode cX8_letterOf 13 = .ok (.iload_n 3, 1) := by decide +kernel
theorem dX8_letterOf_14 : decode cX8_letterOf 14 = .ok (.iaload, 1) := by decide +kernel
theorem dX8_letterOf_15 : decode cX8_letterOf 15 = .ok (.invokevirtual 61, 3) := by decide +kernel
theorem dX8_letterOf_18 : decode cX8_letterOf 18 = .ok (.ireturn, 1) := by decide +kernel
set_option maxRecDepth 4000 in
theorem s_X8_letterOf_0 {w : GX} {d : Nat} {P : PN} {g : GI} {x0 : Nat} (hx0 : isW x0) (x2 : Int)
    (h : (0 ≤ nm x2 ∧ nm x2 < 8 ∧ (∀ v5 : Int, v5 = g (x0 + 3) (nm x2).toNat → (0 ≤ nm v5 ∧ nm v5 < 28 ∧ (0 ≤ nm (v5) ∧ nm (v5) < 28 ∧ P (some (aI (lwh (g 23 (nm (v5)).toNat) (g (x0 + 2) (nm v5).toNat) (g 18 11)))) g))))) :
    Zm w (d + 1) mX8_letterOf 0 [some (aR (some (x0))), some (aR (some (18))), some (aI (x2)), none] [] g P := by
  refine z_aload_n dX8_letterOf_0 rfl rfl ?_
  refine m_getR dX8_letterOf_1 fl_X8_18 (by decide) (congrArg Prod.fst hx0.1) hx0.2.2.2.2.2.2.2.1 ?_
  refine z_iload_n dX8_letterOf_4 rfl rfl ?_
  obtain ⟨q3, q4, h⟩ := h
  refine m_iald dX8_letterOf_5 hx0.2.2.2.1 q3 q4 ?_
  replace h := h _ rfl
  refine z_istore_n dX8_letterOf_6 rfl (by decide) rfl ?_
  show Zm w (d + 1) mX8_letterOf 7 [some (aR (some (x0))), some (aR (some (18))), some (aI (x2)), some (aI (g (x0 + 3) (nm x2).toNat))] [] g P
  refine z_aload_n dX8_letterOf_7 rfl rfl ?_
  refine z_iload_n dX8_letterOf_8 rfl rfl ?_
  refine z_aload_n dX8_letterOf_9 rfl rfl ?_
  refine m_getR dX8_letterOf_10 fl_X8_15 (by decide) (congrArg Prod.fst hx0.1) hx0.2.2.2.2.2.2.1 ?_
  refine z_iload_n dX8_letterOf_13 rfl rfl ?_
  obtain ⟨q8, q9, h⟩ := h
  refine m_iald dX8_letterOf_14 hx0.2.2.1 q8 q9 ?_
  obtain ⟨q10, q11, h⟩ := h
  refine m_callV (as := [aI ((g (x0 + 3) (nm x2).toNat)), aI (g (x0 + 2) (nm (g (x0 + 3) (nm x2).toNat)).toNat)]) dX8_letterOf_15 lk_X8_61 mok_X9_letterWhen in_X9_letterWhen sl_X9_letterWhen kt_18 rfl rfl rfl (Nat.le_of_ble_eq_true rfl) rfl (Nat.le_of_ble_eq_true rfl) rfl (c_X9_letterWhen q10 q11 ?_)
  show Zm w (d + 1) mX8_letterOf 18 [some (aR (some (x0))), some (aR (some (18))), some (aI (x2)), some (aI ((g (x0 + 3) (nm x2).toNat)))] [aI (lwh (g 23 (nm ((g (x0 + 3) (nm x2).toNat))).toNat) (g (x0 + 2) (nm (g (x0 + 3) (nm x2).toNat)).toNat) (g 18 11))] g P
  exact m_iret dX8_letterOf_18 rfl h
theorem dX8_spouseOf_0 : decode cX8_spouseOf 0 = .ok (.aload_n 0, 1) := by decide +kernel
theorem dX8_spouseOf_1 : decode cX8_spouseOf 1 = .ok (.getfield 18, 3) := by decide +kernel
theorem dX8_spouseOf_4 : decode cX8_spouseOf 4 = .ok (.iload_n 2, 1) := by decide +kernel
theorem dX8_spouseOf_5 : decode cX8_spouseOf 5 = .ok (.iaload, 1) := by decide +kernel
theorem dX8_spouseOf_6 : decode cX8_spouseOf 6 = .ok (.aload_n 1, 1) := by decide +kernel
theorem dX8_spouseOf_7 : decode cX8_spouseOf 7 = .ok (.getfield 34, 3) := by decide +kernel
theorem dX8_spouseOf_10 : decode cX8_spouseOf 10 = .ok (.isub, 1) := by decide +kernel
theorem dX8_spouseOf_11 : decode cX8_spouseOf 11 = .ok (.istore_n 3, 1) := by decide +kernel
theorem dX8_spouseOf_12 : decode cX8_spouseOf 12 = .ok (.iload_n 3, 1) := by decide +kernel
theorem dX8_spouseOf_13 : decode cX8_spouseOf 13 = .ok (.aload_n 1, 1) := by decide +kernel
theorem dX8_spouseOf_14 : decode cX8_spouseOf 14 = .ok (.getfield 42, 3) := by decide +kernel
theorem dX8_spouseOf_17 : decode cX8_spouseOf 17 = .ok (.invokestatic 65, 3) := by decide +kernel
theorem dX8_spouseOf_20 : decode cX8_spouseOf 20 = .ok (.ifCond .eq 19, 3) := by decide +kernel
theorem dX8_spouseOf_23 : decode cX8_spouseOf 23 = .ok (.aload_n 1, 1) := by decide +kernel
theorem dX8_spouseOf_24 : decode cX8_spouseOf 24 = .ok (.getfield 69, 3) := by decide +kernel
theorem dX8_spouseOf_27 : decode cX8_spouseOf 27 = .ok (.iload_n 3, 1) := by decide +kernel
theorem dX8_spouseOf_28 : decode cX8_spouseOf 28 = .ok (.iaload, 1) := by decide +kernel
theorem dX8_spouseOf_29 : decode cX8_spouseOf 29 = .ok (.aload_n 1, 1) := by decide +kernel
theorem dX8_spouseOf_30 : decode cX8_spouseOf 30 = .ok (.getfield 42, 3) := by decide +kernel
theorem dX8_spouseOf_33 : decode cX8_spouseOf 33 = .ok (.invokestatic 65, 3) := by decide +kernel
theorem dX8_spouseOf_36 : decode cX8_spouseOf 36 = .ok (.ifCond .ne 5, 3) := by decide +kernel
theorem dX8_spouseOf_39 : decode cX8_spouseOf 39 = .ok (.iconst (-1), 1) := by decide +kernel
theorem dX8_spouseOf_40 : decode cX8_spouseOf 40 = .ok (.ireturn, 1) := by decide +kernel
theorem dX8_spouseOf_41 : decode cX8_spouseOf 41 = .ok (.aload_n 0, 1) := by decide +kernel
theorem dX8_spouseOf_42 : decode cX8_spouseOf 42 = .ok (.getfield 9, 3) := by decide +kernel
theorem dX8_spouseOf_45 : decode cX8_spouseOf 45 = .ok (.aload_n 1, 1) := by decide +kernel
theorem dX8_spouseOf_46 : decode cX8_spouseOf 46 = .ok (.getfield 34, 3) := by decide +kernel
theorem dX8_spouseOf_49 : decode cX8_spouseOf 49 = .ok (.aload_n 1, 1) := by decide +kernel
theorem dX8_spouseOf_50 : decode cX8_spouseOf 50 = .ok (.getfield 69, 3) := by decide +kernel
theorem dX8_spouseOf_53 : decode cX8_spouseOf 53 = .ok (.iload_n 3, 1) := by decide +kernel
theorem dX8_spouseOf_54 : decode cX8_spouseOf 54 = .ok (.iaload, 1) := by decide +kernel
theorem dX8_spouseOf_55 : decode cX8_spouseOf 55 = .ok (.iadd, 1) := by decide +kernel
theorem dX8_spouseOf_56 : decode cX8_spouseOf 56 = .ok (.iaload, 1) := by decide +kernel
theorem dX8_spouseOf_57 : decode cX8_spouseOf 57 = .ok (.istore 4, 2) := by decide +kernel
theorem dX8_spouseOf_59 : decode cX8_spouseOf 59 = .ok (.iload 4, 2) := by decide +kernel
theorem dX8_spouseOf_61 : decode cX8_spouseOf 61 = .ok (.bipush 22, 2) := by decide +kernel
theorem dX8_spouseOf_63 : decode cX8_spouseOf 63 = .ok (.if_icmp .lt 11, 3) := by decide +kernel
theorem dX8_spouseOf_66 : decode cX8_spouseOf 66 = .ok (.iload 4, 2) := by decide +kernel
theorem dX8_spouseOf_68 : decode cX8_spouseOf 68 = .ok (.bipush 22, 2) := by decide +kernel
theorem dX8_spouseOf_70 : decode cX8_spouseOf 70 = .ok (.isub, 1) := by decide +kernel
theorem dX8_spouseOf_71 : decode cX8_spouseOf 71 = .ok (.goto 4, 3) := by decide +kernel
theorem dX8_spouseOf_74 : decode cX8_spouseOf 74 = .ok (.iconst (-1), 1) := by decide +kernel
theorem dX8_spouseOf_75 : decode cX8_spouseOf 75 = .ok (.ireturn, 1) := by decide +kernel
set_option maxRecDepth 4000 in
theorem s_X8_spouseOf_0 {w : GX} {d : Nat} {P : PN} {g : GI} {x0 : Nat} (hx0 : isW x0) (x2 : Int)
    (h : (0 ≤ nm x2 ∧ nm x2 < 8 ∧ (∀ v5 : Int, v5 = (g (x0 + 3) (nm x2).toNat) - (g 18 9) → (((nm (wi (v5) (g 18 10)) = 0 → P (some (aI ((-1)))) g) ∧ (¬ nm (wi (v5) (g 18 10)) = 0 → (0 ≤ nm v5 ∧ nm v5 < 8 ∧ (((¬ nm (wi (g 25 (nm v5).toNat) (g 18 10)) = 0 → ((0 ≤ nm ((g 18 9) + (g 25 (nm v5).toNat)) ∧ nm ((g 18 9) + (g 25 (nm v5).toNat)) < 28 ∧ (∀ v18 : Int, v18 = g (x0 + 1) (nm ((g 18 9) + (g 25 (nm v5).toNat))).toNat → ((nm v18 < nm 22 → P (some (aI ((-1)))) g) ∧ (¬ nm v18 < nm 22 → P (some (aI (v18 - 22))) g)))))) ∧ (nm (wi (g 25 (nm v5).toNat) (g 18 10)) = 0 → P (some (aI ((-1)))) g)))))))))) :
    Zm w (d + 1) mX8_spouseOf 0 [some (aR (some (x0))), some (aR (some (18))), some (aI (x2)), none, none] [] g P := by
  refine z_aload_n dX8_spouseOf_0 rfl rfl ?_
  refine m_getR dX8_spouseOf_1 fl_X8_18 (by decide) (congrArg Prod.fst hx0.1) hx0.2.2.2.2.2.2.2.1 ?_
  refine z_iload_n dX8_spouseOf_4 rfl rfl ?_
  obtain ⟨q3, q4, h⟩ := h
  refine m_iald dX8_spouseOf_5 hx0.2.2.2.1 q3 q4 ?_
  refine z_aload_n dX8_spouseOf_6 rfl rfl ?_
  refine z_getI dX8_spouseOf_7 fl_X8_34 (by decide) kt_18 ?_
  refine z_isub dX8_spouseOf_10 ?_
  replace h := h _ rfl
  refine z_istore_n dX8_spouseOf_11 rfl (by decide) rfl ?_
  show Zm w (d + 1) mX8_spouseOf 12 [some (aR (some (x0))), some (aR (some (18))), some (aI (x2)), some (aI ((g (x0 + 3) (nm x2).toNat) - (g 18 9))), none] [] g P
  refine z_iload_n dX8_spouseOf_12 rfl rfl ?_
  refine z_aload_n dX8_spouseOf_13 rfl rfl ?_
  refine z_getI dX8_spouseOf_14 fl_X8_42 (by decide) kt_18 ?_
  refine m_callSN (as := [aI (((g (x0 + 3) (nm x2).toNat) - (g 18 9))), aI (g 18 10)]) dX8_spouseOf_17 lk_X8_65 mok_X10_within st_X10_within rfl (Nat.le_of_ble_eq_true rfl) rfl (Nat.le_of_ble_eq_true rfl) rfl (c_X10_within  ?_)
  show Zm w (d + 1) mX8_spouseOf 20 [some (aR (some (x0))), some (aR (some (18))), some (aI (x2)), some (aI (((g (x0 + 3) (nm x2).toNat) - (g 18 9)))), none] [aI (wi (((g (x0 + 3) (nm x2).toNat) - (g 18 9))) (g 18 10))] g P
  refine z_if_eq (tgt := 39) dX8_spouseOf_20 (by decide) (fun c6 => ?_) (fun c6 => ?_)
  · replace h := h.1 c6
    refine z_iconst dX8_spouseOf_39 ?_
    exact m_iret dX8_spouseOf_40 rfl h
  · replace h := h.2 c6
    refine z_aload_n dX8_spouseOf_23 rfl rfl ?_
    refine m_getR dX8_spouseOf_24 fl_X8_69 (by decide) kt_18 rv_18_6 ?_
    refine z_iload_n dX8_spouseOf_27 rfl rfl ?_
    obtain ⟨q9, q10, h⟩ := h
    refine m_iald dX8_spouseOf_28 kv_25 q9 q10 ?_
    refine z_aload_n dX8_spouseOf_29 rfl rfl ?_
    refine z_getI dX8_spouseOf_30 fl_X8_42 (by decide) kt_18 ?_
    refine m_callSN (as := [aI (g 25 (nm ((g (x0 + 3) (nm x2).toNat) - (g 18 9))).toNat), aI (g 18 10)]) dX8_spouseOf_33 lk_X8_65 mok_X10_within st_X10_within rfl (Nat.le_of_ble_eq_true rfl) rfl (Nat.le_of_ble_eq_true rfl) rfl (c_X10_within  ?_)
    show Zm w (d + 1) mX8_spouseOf 36 [some (aR (some (x0))), some (aR (some (18))), some (aI (x2)), some (aI (((g (x0 + 3) (nm x2).toNat) - (g 18 9)))), none] [aI (wi (g 25 (nm ((g (x0 + 3) (nm x2).toNat) - (g 18 9))).toNat) (g 18 10))] g P
    refine z_if_ne (tgt := 41) dX8_spouseOf_36 (by decide) (fun c11 => ?_) (fun c11 => ?_)
    · replace h := h.1 c11
      refine z_aload_n dX8_spouseOf_41 rfl rfl ?_
      refine m_getR dX8_spouseOf_42 fl_X8_9 (by decide) (congrArg Prod.fst hx0.1) hx0.2.2.2.2.2.1 ?_
      refine z_aload_n dX8_spouseOf_45 rfl rfl ?_
      refine z_getI dX8_spouseOf_46 fl_X8_34 (by decide) kt_18 ?_
      refine z_aload_n dX8_spouseOf_49 rfl rfl ?_
      refine m_getR dX8_spouseOf_50 fl_X8_69 (by decide) kt_18 rv_18_6 ?_
      refine z_iload_n dX8_spouseOf_53 rfl rfl ?_
      refine m_iald dX8_spouseOf_54 kv_25 q9 q10 ?_
      refine z_iadd dX8_spouseOf_55 ?_
      obtain ⟨q16, q17, h⟩ := h
      refine m_iald dX8_spouseOf_56 hx0.2.1 q16 q17 ?_
      replace h := h _ rfl
      refine z_istore dX8_spouseOf_57 (by decide) rfl ?_
      show Zm w (d + 1) mX8_spouseOf 59 [some (aR (some (x0))), some (aR (some (18))), some (aI (x2)), some (aI (((g (x0 + 3) (nm x2).toNat) - (g 18 9)))), some (aI (g (x0 + 1) (nm ((g 18 9) + (g 25 (nm ((g (x0 + 3) (nm x2).toNat) - (g 18 9))).toNat))).toNat))] [] g P
      refine z_iload dX8_spouseOf_59 rfl ?_
      refine z_bipush dX8_spouseOf_61 rfl ?_
      refine z_icmp_lt (tgt := 74) dX8_spouseOf_63 (by decide) (fun c19 => ?_) (fun c19 => ?_)
      · replace h := h.1 c19
        refine z_iconst dX8_spouseOf_74 ?_
        exact m_iret dX8_spouseOf_75 rfl h
      · replace h := h.2 c19
        refine z_iload dX8_spouseOf_66 rfl ?_
        refine z_bipush dX8_spouseOf_68 rfl ?_
        refine z_isub dX8_spouseOf_70 ?_
        refine z_goto (tgt := 75) dX8_spouseOf_71 (by decide) ?_
        exact m_iret dX8_spouseOf_75 rfl h
    · replace h := h.2 (Decidable.not_not.mp c11)
      refine z_iconst dX8_spouseOf_39 ?_
      exact m_iret dX8_spouseOf_40 rfl h
theorem dX8_owesSold_0 : decode cX8_owesSold 0 = .ok (.iconst 0, 1) := by decide +kernel
theorem dX8_owesSold_1 : decode cX8_owesSold 1 = .ok (.istore_n 2, 1) := by decide +kernel
theorem dX8_owesSold_2 : decode cX8_owesSold 2 = .ok (.iconst 0, 1) := by decide +kernel
theorem dX8_owesSold_3 : decode cX8_owesSold 3 = .ok (.istore_n 3, 1) := by decide +kernel
theorem dX8_owesSold_4 : decode cX8_owesSold 4 = .ok (.iload_n 3, 1) := by decide +kernel
theorem dX8_owesSold_5 : decode cX8_owesSold 5 = .ok (.aload_n 1, 1) := by decide +kernel
theorem dX8_owesSold_6 : decode cX8_owesSold 6 = .ok (.invokevirtual 72, 3) := by decide +kernel
theorem dX8_owesSold_9 : decode cX8_owesSold 9 = .ok (.if_icmp .ge 29, 3) := by decide +kernel
theorem dX8_owesSold_12 : decode cX8_owesSold 12 = .ok (.aload_n 0, 1) := by decide +kernel
theorem dX8_owesSold_13 : decode cX8_owesSold 13 = .ok (.getfield 9, 3) := by decide +kernel
theorem dX8_owesSold_16 : decode cX8_owesSold 16 = .ok (.iload_n 3, 1) := by decide +kernel
theorem dX8_owesSold_17 : decode cX8_owesSold 17 = .ok (.iaload, 1) := by decide +kernel
theorem dX8_owesSold_18 : decode cX8_owesSold 18 = .ok (.bipush 21, 2) := by decide +kernel
theorem dX8_owesSold_20 : decode cX8_owesSold 20 = .ok (.if_icmp .ne 12, 3) := by decide +kernel
theorem dX8_owesSold_23 : decode cX8_owesSold 23 = .ok (.iload_n 2, 1) := by decide +kernel
theorem dX8_owesSold_24 : decode cX8_owesSold 24 = .ok (.aload_n 1, 1) := by decide +kernel
theorem dX8_owesSold_25 : decode cX8_owesSold 25 = .ok (.getfield 76, 3) := by decide +kernel
theorem dX8_owesSold_28 : decode cX8_owesSold 28 = .ok (.iload_n 3, 1) := by decide +kernel
theorem dX8_owesSold_29 : decode cX8_owesSold 29 = .ok (.iaload, 1) := by decide +kernel
theorem dX8_owesSold_30 : decode cX8_owesSold 30 = .ok (.iadd, 1) := by decide +kernel
theorem dX8_owesSold_31 : decode cX8_owesSold 31 = .ok (.istore_n 2, 1) := by decide +kernel
theorem dX8_owesSold_32 : decode cX8_owesSold 32 = .ok (.iinc 3 1, 3) := by decide +kernel
theorem dX8_owesSold_35 : decode cX8_owesSold 35 = .ok (.goto (-31), 3) := by decide +kernel
theorem dX8_owesSold_38 : decode cX8_owesSold 38 = .ok (.iload_n 2, 1) := by decide +kernel
theorem dX8_owesSold_39 : decode cX8_owesSold 39 = .ok (.ireturn, 1) := by decide +kernel
set_option maxRecDepth 4000 in
theorem s_X8_owesSold_0 {w : GX} {d : Nat} {P : PN} {g : GI} {x0 : Nat} (hx0 : isW x0)
    (h : Zm w (d + 1) mX8_owesSold 4 [some (aR (some (x0))), some (aR (some (18))), some (aI (0)), some (aI (0))] [] g P) :
    Zm w (d + 1) mX8_owesSold 0 [some (aR (some (x0))), some (aR (some (18))), none, none] [] g P := by
  refine z_iconst dX8_owesSold_0 ?_
  refine z_istore_n dX8_owesSold_1 rfl (by decide) rfl ?_
  show Zm w (d + 1) mX8_owesSold 2 [some (aR (some (x0))), some (aR (some (18))), some (aI (0)), none] [] g P
  refine z_iconst dX8_owesSold_2 ?_
  refine z_istore_n dX8_owesSold_3 rfl (by decide) rfl ?_
  show Zm w (d + 1) mX8_owesSold 4 [some (aR (some (x0))), some (aR (some (18))), some (aI (0)), some (aI (0))] [] g P
  exact z_weak (by simp [lle]) h
set_option maxRecDepth 4000 in
theorem s_X8_owesSold_4 {w : GX} {d : Nat} {P : PN} {g : GI} {x0 : Nat} (hx0 : isW x0) (x2 : Int) (x3 : Int)
    (h : (((¬ nm x3 < nm (g 18 9 + g 18 10) → P (some (aI (x2))) g) ∧ (nm x3 < nm (g 18 9 + g 18 10) → (0 ≤ nm x3 ∧ nm x3 < 28 ∧ ((¬ nm (g (x0 + 1) (nm x3).toNat) = nm 21 → Zm w (d + 1) mX8_owesSold 4 [some (aR (some (x0))), some (aR (some (18))), some (aI (x2)), some (aI (x3 + 1))] [] g P) ∧ (nm (g (x0 + 1) (nm x3).toNat) = nm 21 → ((∀ v9 : Int, v9 = x2 + (g 24 (nm x3).toNat) → Zm w (d + 1) mX8_owesSold 4 [some (aR (some (x0))), some (aR (some (18))), some (aI (v9)), some (aI (x3 + 1))] [] g P))))))))) :
    Zm w (d + 1) mX8_owesSold 4 [some (aR (some (x0))), some (aR (some (18))), some (aI (x2)), some (aI (x3))] [] g P := by
  refine z_iload_n dX8_owesSold_4 rfl rfl ?_
  refine z_aload_n dX8_owesSold_5 rfl rfl ?_
  refine m_callV (as := []) dX8_owesSold_6 lk_X8_72 mok_X9_names in_X9_names sl_X9_names kt_18 rfl rfl rfl (Nat.le_of_ble_eq_true rfl) rfl (Nat.le_of_ble_eq_true rfl) rfl (c_X9_names  ?_)
  show Zm w (d + 1) mX8_owesSold 9 [some (aR (some (x0))), some (aR (some (18))), some (aI (x2)), some (aI (x3))] [aI (g 18 9 + g 18 10), aI (x3)] g P
  refine z_icmp_ge (tgt := 38) dX8_owesSold_9 (by decide) (fun c1 => ?_) (fun c1 => ?_)
  · replace h := h.1 c1
    refine z_iload_n dX8_owesSold_38 rfl rfl ?_
    exact m_iret dX8_owesSold_39 rfl h
  · replace h := h.2 (Decidable.not_not.mp c1)
    refine z_aload_n dX8_owesSold_12 rfl rfl ?_
    refine m_getR dX8_owesSold_13 fl_X8_9 (by decide) (congrArg Prod.fst hx0.1) hx0.2.2.2.2.2.1 ?_
    refine z_iload_n dX8_owesSold_16 rfl rfl ?_
    obtain ⟨q4, q5, h⟩ := h
    refine m_iald dX8_owesSold_17 hx0.2.1 q4 q5 ?_
    refine z_bipush dX8_owesSold_18 rfl ?_
    refine z_icmp_ne (tgt := 32) dX8_owesSold_20 (by decide) (fun c6 => ?_) (fun c6 => ?_)
    · replace h := h.1 c6
      refine z_iinc dX8_owesSold_32 rfl (by decide) rfl ?_
      show Zm w (d + 1) mX8_owesSold 35 [some (aR (some (x0))), some (aR (some (18))), some (aI (x2)), some (aI (x3 + 1))] [] g P
      refine z_goto (tgt := 4) dX8_owesSold_35 (by decide) ?_
      exact z_weak (by simp [lle]) h
    · replace h := h.2 (Decidable.not_not.mp c6)
      refine z_iload_n dX8_owesSold_23 rfl rfl ?_
      refine z_aload_n dX8_owesSold_24 rfl rfl ?_
      refine m_getR dX8_owesSold_25 fl_X8_76 (by decide) kt_18 rv_18_5 ?_
      refine z_iload_n dX8_owesSold_28 rfl rfl ?_
      refine m_iald dX8_owesSold_29 kv_24 q4 q5 ?_
      refine z_iadd dX8_owesSold_30 ?_
      replace h := h _ rfl
      refine z_istore_n dX8_owesSold_31 rfl (by decide) rfl ?_
      show Zm w (d + 1) mX8_owesSold 32 [some (aR (some (x0))), some (aR (some (18))), some (aI (x2 + (g 24 (nm x3).toNat))), some (aI (x3))] [] g P
      refine z_iinc dX8_owesSold_32 rfl (by decide) rfl ?_
      show Zm w (d + 1) mX8_owesSold 35 [some (aR (some (x0))), some (aR (some (18))), some (aI ((x2 + (g 24 (nm x3).toNat)))), some (aI (x3 + 1))] [] g P
      refine z_goto (tgt := 4) dX8_owesSold_35 (by decide) ?_
      exact z_weak (by simp [lle]) h
theorem dX8_lettersInUse_0 : decode cX8_lettersInUse 0 = .ok (.iconst 0, 1) := by decide +kernel
theorem dX8_lettersInUse_1 : decode cX8_lettersInUse 1 = .ok (.istore_n 2, 1) := by decide +kernel
theorem dX8_lettersInUse_2 : decode cX8_lettersInUse 2 = .ok (.iconst 0, 1) := by decide +kernel
theorem dX8_lettersInUse_3 : decode cX8_lettersInUse 3 = .ok (.istore_n 3, 1) := by decide +kernel
theorem dX8_lettersInUse_4 : decode cX8_lettersInUse 4 = .ok (.iload_n 3, 1) := by decide +kernel
theorem dX8_lettersInUse_5 : decode cX8_lettersInUse 5 = .ok (.aload_n 1, 1) := by decide +kernel
theorem dX8_lettersInUse_6 : decode cX8_lettersInUse 6 = .ok (.getfield 42, 3) := by decide +kernel
theorem dX8_lettersInUse_9 : decode cX8_lettersInUse 9 = .ok (.if_icmp .ge 20, 3) := by decide +kernel
theorem dX8_lettersInUse_12 : decode cX8_lettersInUse 12 = .ok (.iload_n 2, 1) := by decide +kernel
theorem dX8_lettersInUse_13 : decode cX8_lettersInUse 13 = .ok (.iconst 1, 1) := by decide +kernel
theorem dX8_lettersInUse_14 : decode cX8_lettersInUse 14 = .ok (.aload_n 0, 1) := by decide +kernel
theorem dX8_lettersInUse_15 : decode cX8_lettersInUse 15 = .ok (.aload_n 1, 1) := by decide +kernel
theorem dX8_lettersInUse_16 : decode cX8_lettersInUse 16 = .ok (.iload_n 3, 1) := by decide +kernel
theorem dX8_lettersInUse_17 : decode cX8_lettersInUse 17 = .ok (.invokevirtual 79, 3) := by decide +kernel
theorem dX8_lettersInUse_20 : decode cX8_lettersInUse 20 = .ok (.ishl, 1) := by decide +kernel
theorem dX8_lettersInUse_21 : decode cX8_lettersInUse 21 = .ok (.ior, 1) := by decide +kernel
theorem dX8_lettersInUse_22 : decode cX8_lettersInUse 22 = .ok (.istore_n 2, 1) := by decide +kernel
theorem dX8_lettersInUse_23 : decode cX8_lettersInUse 23 = .ok (.iinc 3 1, 3) := by decide +kernel
theorem dX8_lettersInUse_26 : decode cX8_lettersInUse 26 = .ok (.goto (-22), 3) := by decide +kernel
theorem dX8_lettersInUse_29 : decode cX8_lettersInUse 29 = .ok (.iload_n 2, 1) := by decide +kernel
theorem dX8_lettersInUse_30 : decode cX8_lettersInUse 30 = .ok (.invokestatic 83, 3) := by decide +kernel
theorem dX8_lettersInUse_33 : decode cX8_lettersInUse 33 = .ok (.ireturn, 1) := by decide +kernel
set_option maxRecDepth 4000 in
theorem s_X8_lettersInUse_0 {w : GX} {d : Nat} {P : PN} {g : GI} {x0 : Nat} (hx0 : isW x0)
    (h : Zm w (d + 2) mX8_lettersInUse 4 [some (aR (some (x0))), some (aR (some (18))), some (aI (0)), some (aI (0))] [] g P) :
    Zm w (d + 2) mX8_lettersInUse 0 [some (aR (some (x0))), some (aR (some (18))), none, none] [] g P := by
  refine z_iconst dX8_lettersInUse_0 ?_
  refine z_istore_n dX8_lettersInUse_1 rfl (by decide) rfl ?_
  show Zm w (d + 2) mX8_lettersInUse 2 [some (aR (some (x0))), some (aR (some (18))), some (aI (0)), none] [] g P
  refine z_iconst dX8_lettersInUse_2 ?_
  refine z_istore_n dX8_lettersInUse_3 rfl (by decide) rfl ?_
  show Zm w (d + 2) mX8_lettersInUse 4 [some (aR (some (x0))), some (aR (some (18))), some (aI (0)), some (aI (0))] [] g P
  exact z_weak (by simp [lle]) h
set_option maxRecDepth 4000 in
theorem s_X8_lettersInUse_4 {w : GX} {d : Nat} {P : PN} {g : GI} {x0 : Nat} (hx0 : isW x0) (x2 : Int) (x3 : Int)
    (h : ((¬ nm x3 < nm (g 18 10) → Zm w (d + 1) mJ6_bitCount_0f7a4 0 [some (aI (x2))] [] g (fun r g2 => ∃ z3 : Int, r = some (aI z3) ∧ P (some (aI (z3))) g2)) ∧ (nm x3 < nm (g 18 10) → Zm w (d + 1) mX8_letterOf 0 [some (aR (some (x0))), some (aR (some (18))), some (aI (x3)), none] [] g (fun r g4 => ∃ z5 : Int, r = some (aI z5) ∧ (∀ v6 : Int, v6 = iOr x2 (iShl 1 z5) → Zm w (d + 2) mX8_lettersInUse 4 [some (aR (some (x0))), some (aR (some (18))), some (aI (v6)), some (aI (x3 + 1))] [] g4 P))))) :
    Zm w (d + 2) mX8_lettersInUse 4 [some (aR (some (x0))), some (aR (some (18))), some (aI (x2)), some (aI (x3))] [] g P := by
  refine z_iload_n dX8_lettersInUse_4 rfl rfl ?_
  refine z_aload_n dX8_lettersInUse_5 rfl rfl ?_
  refine z_getI dX8_lettersInUse_6 fl_X8_42 (by decide) kt_18 ?_
  refine z_icmp_ge (tgt := 29) dX8_lettersInUse_9 (by decide) (fun c1 => ?_) (fun c1 => ?_)
  · replace h := h.1 c1
    refine z_iload_n dX8_lettersInUse_29 rfl rfl ?_
    refine m_callS (as := [aI (x2)]) dX8_lettersInUse_30 lk_X8_83 mok_J6_bitCount_0f7a4 st_J6_bitCount_0f7a4 rfl (Nat.le_of_ble_eq_true rfl) rfl (Nat.le_of_ble_eq_true rfl) rfl (m_mono (fun r g2 hr => ?_) h)
    obtain ⟨z3, rfl, h⟩ := hr
    show Zm w (d + 2) mX8_lettersInUse 33 [some (aR (some (x0))), some (aR (some (18))), some (aI (x2)), some (aI (x3))] [aI (z3)] g2 P
    exact m_iret dX8_lettersInUse_33 rfl h
  · replace h := h.2 (Decidable.not_not.mp c1)
    refine z_iload_n dX8_lettersInUse_12 rfl rfl ?_
    refine z_iconst dX8_lettersInUse_13 ?_
    refine z_aload_n dX8_lettersInUse_14 rfl rfl ?_
    refine z_aload_n dX8_lettersInUse_15 rfl rfl ?_
    refine z_iload_n dX8_lettersInUse_16 rfl rfl ?_
    refine m_callV (as := [aR (some (18)), aI (x3)]) dX8_lettersInUse_17 lk_X8_79 mok_X8_letterOf in_X8_letterOf sl_X8_letterOf (congrArg Prod.fst hx0.1) rfl rfl rfl (Nat.le_of_ble_eq_true rfl) rfl (Nat.le_of_ble_eq_true rfl) rfl (m_mono (fun r g4 hr => ?_) h)
    obtain ⟨z5, rfl, h⟩ := hr
    show Zm w (d + 2) mX8_lettersInUse 20 [some (aR (some (x0))), some (aR (some (18))), some (aI (x2)), some (aI (x3))] [aI (z5), aI (1), aI (x2)] g4 P
    refine z_ishl dX8_lettersInUse_20 ?_
    refine z_ior dX8_lettersInUse_21 ?_
    replace h := h _ rfl
    refine z_istore_n dX8_lettersInUse_22 rfl (by decide) rfl ?_
    show Zm w (d + 2) mX8_lettersInUse 23 [some (aR (some (x0))), some (aR (some (18))), some (aI (iOr x2 (iShl 1 z5))), some (aI (x3))] [] g4 P
    refine z_iinc dX8_lettersInUse_23 rfl (by decide) rfl ?_
    show Zm w (d + 2) mX8_lettersInUse 26 [some (aR (some (x0))), some (aR (some (18))), some (aI ((iOr x2 (iShl 1 z5)))), some (aI (x3 + 1))] [] g4 P
    refine z_goto (tgt := 4) dX8_lettersInUse_26 (by decide) ?_
    exact z_weak (by simp [lle]) h
theorem dX9_tellRiver_0 : decode cX9_tellRiver 0 = .ok (.aload_n 0, 1) := by decide +kernel
theorem dX9_tellRiver_1 : decode cX9_tellRiver 1 = .ok (.iconst 0, 1) := by decide +kernel
theorem dX9_tellRiver_2 : decode cX9_tellRiver 2 = .ok (.putfield 41, 3) := by decide +kernel
theorem dX9_tellRiver_5 : decode cX9_tellRiver 5 = .ok (.aload_n 0, 1) := by decide +kernel
theorem dX9_tellRiver_6 : decode cX9_tellRiver 6 = .ok (.aload_n 1, 1) := by decide +kernel
theorem dX9_tellRiver_7 : decode cX9_tellRiver 7 = .ok (.invokevirtual 50, 3) := by decide +kernel
theorem dX9_tellRiver_10 : decode cX9_tellRiver 10 = .ok (.iconst (-1), 1) := by decide +kernel
theorem dX9_tellRiver_11 : decode cX9_tellRiver 11 = .ok (.if_icmp .ne 15, 3) := by decide +kernel
theorem dX9_tellRiver_14 : decode cX9_tellRiver 14 = .ok (.aload_n 1, 1) := by decide +kernel
theorem dX9_tellRiver_15 : decode cX9_tellRiver 15 = .ok (.getfield 56, 3) := by decide +kernel
theorem dX9_tellRiver_18 : decode cX9_tellRiver 18 = .ok (.bipush 20, 2) := by decide +kernel
theorem dX9_tellRiver_20 : decode cX9_tellRiver 20 = .ok (.invokestatic 59, 3) := by decide +kernel
theorem dX9_tellRiver_23 : decode cX9_tellRiver 23 = .ok (.goto 4, 3) := by decide +kernel
theorem dX9_tellRiver_26 : decode cX9_tellRiver 26 = .ok (.iconst 0, 1) := by decide +kernel
theorem dX9_tellRiver_27 : decode cX9_tellRiver 27 = .ok (.putfield 37, 3) := by decide +kernel
theorem dX9_tellRiver_30 : decode cX9_tellRiver 30 = .ok (.iconst 0, 1) := by decide +kernel
theorem dX9_tellRiver_31 : decode cX9_tellRiver 31 = .ok (.istore_n 2, 1) := by decide +kernel
theorem dX9_tellRiver_32 : decode cX9_tellRiver 32 = .ok (.iload_n 2, 1) := by decide +kernel
theorem dX9_tellRiver_33 : decode cX9_tellRiver 33 = .ok (.aload_n 0, 1) := by decide +kernel
theorem dX9_tellRiver_34 : decode cX9_tellRiver 34 = .ok (.getfield 37, 3) := by decide +kernel
theorem dX9_tellRiver_37 : decode cX9_tellRiver 37 = .ok (.if_icmp .ge 82, 3) := by decide +kernel
theorem dX9_tellRiver_40 : decode cX9_tellRiver 40 = .ok (.aload_n 0, 1) := by decide +kernel
theorem dX9_tellRiver_41 : decode cX9_tellRiver 41 = .ok (.getfield 9, 3) := by decide +kernel
theorem dX9_tellRiver_44 : decode cX9_tellRiver 44 = .ok (.iload_n 2, 1) := by decide +kernel
theorem dX9_tellRiver_45 : decode cX9_tellRiver 45 = .ok (.aload_n 1, 1) := by decide +kernel
theorem dX9_tellRiver_46 : decode cX9_tellRiver 46 = .ok (.getfield 65, 3) := by decide +kernel
theorem dX9_tellRiver_49 : decode cX9_tellRiver 49 = .ok (.iload_n 2, 1) := by decide +kernel
theorem dX9_tellRiver_50 : decode cX9_tellRiver 50 = .ok (.iaload, 1) := by decide +kernel
theorem dX9_tellRiver_51 : decode cX9_tellRiver 51 = .ok (.invokestatic 68, 3) := by decide +kernel
theorem dX9_tellRiver_54 : decode cX9_tellRiver 54 = .ok (.iastore, 1) := by decide +kernel
theorem dX9_tellRiver_55 : decode cX9_tellRiver 55 = .ok (.aload_n 0, 1) := by decide +kernel
theorem dX9_tellRiver_56 : decode cX9_tellRiver 56 = .ok (.getfield 9, 3) := by decide +kernel
theorem dX9_tellRiver_59 : decode cX9_tellRiver 59 = .ok (.iload_n 2, 1) := by decide +kernel
theorem dX9_tellRiver_60 : decode cX9_tellRiver 60 = .ok (.iaload, 1) := by decide +kernel
theorem dX9_tellRiver_61 : decode cX9_tellRiver 61 = .ok (.iconst 3, 1) := by decide +kernel
theorem dX9_tellRiver_62 : decode cX9_tellRiver 62 = .ok (.if_icmp .ne 51, 3) := by decide +kernel
theorem dX9_tellRiver_65 : decode cX9_tellRiver 65 = .ok (.aload_n 0, 1) := by decide +kernel
theorem dX9_tellRiver_66 : decode cX9_tellRiver 66 = .ok (.getfield 25, 3) := by decide +kernel
theorem dX9_tellRiver_69 : decode cX9_tellRiver 69 = .ok (.aload_n 0, 1) := by decide +kernel
theorem dX9_tellRiver_70 : decode cX9_tellRiver 70 = .ok (.getfield 41, 3) := by decide +kernel
theorem dX9_tellRiver_73 : decode cX9_tellRiver 73 = .ok (.aload_n 1, 1) := by decide +kernel
theorem dX9_tellRiver_74 : decode cX9_tellRiver 74 = .ok (.getfield 65, 3) := by decide +kernel
theorem dX9_tellRiver_77 : decode cX9_tellRiver 77 = .ok (.iload_n 2, 1) := by decide +kernel
theorem dX9_tellRiver_78 : decode cX9_tellRiver 78 = .ok (.iaload, 1) := by decide +kernel
theorem dX9_tellRiver_79 : decode cX9_tellRiver 79 = .ok (.bipush 97, 2) := by decide +kernel
theorem dX9_tellRiver_81 : decode cX9_tellRiver 81 = .ok (.isub, 1) := by decide +kernel
theorem dX9_tellRiver_82 : decode cX9_tellRiver 82 = .ok (.iastore, 1) := by decide +kernel
theorem dX9_tellRiver_83 : decode cX9_tellRiver 83 = .ok (.aload_n 0, 1) := by decide +kernel
theorem dX9_tellRiver_84 : decode cX9_tellRiver 84 = .ok (.getfield 28, 3) := by decide +kernel
theorem dX9_tellRiver_87 : decode cX9_tellRiver 87 = .ok (.aload_n 0, 1) := by decide +kernel
theorem dX9_tellRiver_88 : decode cX9_tellRiver 88 = .ok (.getfield 41, 3) := by decide +kernel
theorem dX9_tellRiver_91 : decode cX9_tellRiver 91 = .ok (.iconst 0, 1) := by decide +kernel
theorem dX9_tellRiver_92 : decode cX9_tellRiver 92 = .ok (.iastore, 1) := by decide +kernel
theorem dX9_tellRiver_93 : decode cX9_tellRiver 93 = .ok (.aload_n 0, 1) := by decide +kernel
theorem dX9_tellRiver_94 : decode cX9_tellRiver 94 = .ok (.getfield 22, 3) := by decide +kernel
theorem dX9_tellRiver_97 : decode cX9_tellRiver 97 = .ok (.aload_n 0, 1) := by decide +kernel
theorem dX9_tellRiver_98 : decode cX9_tellRiver 98 = .ok (.getfield 41, 3) := by decide +kernel
theorem dX9_tellRiver_101 : decode cX9_tellRiver 101 = .ok (.iload_n 2, 1) := by decide +kernel
theorem dX9_tellRiver_102 : decode cX9_tellRiver 102 = .ok (.iastore, 1) := by decide +kernel
theorem dX9_tellRiver_103 : decode cX9_tellRiver 103 = .ok (.aload_n 0, 1) := by decide +kernel
theorem dX9_tellRiver_104 : decode cX9_tellRiver 104 = .ok (.dup, 1) := by decide +kernel
theorem dX9_tellRiver_105 : decode cX9_tellRiver 105 = .ok (.getfield 41, 3) := by decide +kernel
theorem dX9_tellRiver_108 : decode cX9_tellRiver 108 = .ok (.iconst 1, 1) := by decide +kernel
theorem dX9_tellRiver_109 : decode cX9_tellRiver 109 = .ok (.iadd, 1) := by decide +kernel
theorem dX9_tellRiver_110 : decode cX9_tellRiver 110 = .ok (.putfield 41, 3) := by decide +kernel
theorem dX9_tellRiver_113 : decode cX9_tellRiver 113 = .ok (.iinc 2 1, 3) := by decide +kernel
theorem dX9_tellRiver_116 : decode cX9_tellRiver 116 = .ok (.goto (-84), 3) := by decide +kernel
theorem dX9_tellRiver_119 : decode cX9_tellRiver 119 = .ok (.iconst 0, 1) := by decide +kernel
theorem dX9_tellRiver_120 : decode cX9_tellRiver 120 = .ok (.istore_n 2, 1) := by decide +kernel
theorem dX9_tellRiver_121 : decode cX9_tellRiver 121 = .ok (.iload_n 2, 1) := by decide +kernel
theorem dX9_tellRiver_122 : decode cX9_tellRiver 122 = .ok (.aload_n 0, 1) := by decide +kernel
theorem dX9_tellRiver_123 : decode cX9_tellRiver 123 = .ok (.getfield 37, 3) := by decide +kernel
theorem dX9_tellRiver_126 : decode cX9_tellRiver 126 = .ok (.if_icmp .ge 72, 3) := by decide +kernel
theorem dX9_tellRiver_129 : decode cX9_tellRiver 129 = .ok (.aload_n 0, 1) := by decide +kernel
theorem dX9_tellRiver_130 : decode cX9_tellRiver 130 = .ok (.getfield 15, 3) := by decide +kernel
theorem dX9_tellRiver_133 : decode cX9_tellRiver 133 = .ok (.iload_n 2, 1) := by decide +kernel
theorem dX9_tellRiver_134 : decode cX9_tellRiver 134 = .ok (.iload_n 2, 1) := by decide +kernel
theorem dX9_tellRiver_135 : decode cX9_tellRiver 135 = .ok (.iconst 1, 1) := by decide +kernel
theorem dX9_tellRiver_136 : decode cX9_tellRiver 136 = .ok (.iadd, 1) := by decide +kernel
theorem dX9_tellRiver_137 : decode cX9_tellRiver 137 = .ok (.aload_n 0, 1) := by decide +kernel
theorem dX9_tellRiver_138 : decode cX9_tellRiver 138 = .ok (.getfield 37, 3) := by decide +kernel
theorem dX9_tellRiver_141 : decode cX9_tellRiver 141 = .ok (.if_icmp .ge 15, 3) := by decide +kernel
theorem dX9_tellRiver_144 : decode cX9_tellRiver 144 = .ok (.aload_n 0, 1) := by decide +kernel
theorem dX9_tellRiver_145 : decode cX9_tellRiver 145 = .ok (.getfield 9, 3) := by decide +kernel
theorem dX9_tellRiver_148 : decode cX9_tellRiver 148 = .ok (.iload_n 2, 1) := by decide +kernel
theorem dX9_tellRiver_149 : decode cX9_tellRiver 149 = .ok (.iconst 1, 1) := by decide +kernel
theorem dX9_tellRiver_150 : decode cX9_tellRiver 150 = .ok (.iadd, 1) := by decide +kernel
theorem dX9_tellRiver_151 : decode cX9_tellRiver 151 = .ok (.iaload, 1) := by decide +kernel
theorem dX9_tellRiver_152 : decode cX9_tellRiver 152 = .ok (.iconst 2, 1) := by decide +kernel
theorem dX9_tellRiver_153 : decode cX9_tellRiver 153 = .ok (.if_icmp .eq 7, 3) := by decide +kernel
theorem dX9_tellRiver_156 : decode cX9_tellRiver 156 = .ok (.iconst 1, 1) := by decide +kernel
theorem dX9_tellRiver_157 : decode cX9_tellRiver 157 = .ok (.goto 4, 3) := by decide +kernel
theorem dX9_tellRiver_160 : decode cX9_tellRiver 160 = .ok (.iconst 0, 1) := by decide +kernel
theorem dX9_tellRiver_161 : decode cX9_tellRiver 161 = .ok (.bastore, 1) := by decide +kernel
theorem dX9_tellRiver_162 : decode cX9_tellRiver 162 = .ok (.aload_n 0, 1) := by decide +kernel
theorem dX9_tellRiver_163 : decode cX9_tellRiver 163 = .ok (.getfield 19, 3) := by decide +kernel
theorem dX9_tellRiver_166 : decode cX9_tellRiver 166 = .ok (.iload_n 2, 1) := by decide +kernel
theorem dX9_tellRiver_167 : decode cX9_tellRiver 167 = .ok (.aload_n 0, 1) := by decide +kernel
theorem dX9_tellRiver_168 : decode cX9_tellRiver 168 = .ok (.getfield 15, 3) := by decide +kernel
theorem dX9_tellRiver_171 : decode cX9_tellRiver 171 = .ok (.iload_n 2, 1) := by decide +kernel
theorem dX9_tellRiver_172 : decode cX9_tellRiver 172 = .ok (.baload, 1) := by decide +kernel
theorem dX9_tellRiver_173 : decode cX9_tellRiver 173 = .ok (.ifCond .eq 17, 3) := by decide +kernel
theorem dX9_tellRiver_176 : decode cX9_tellRiver 176 = .ok (.aload_n 0, 1) := by decide +kernel
theorem dX9_tellRiver_177 : decode cX9_tellRiver 177 = .ok (.getfield 9, 3) := by decide +kernel
theorem dX9_tellRiver_180 : decode cX9_tellRiver 180 = .ok (.iload_n 2, 1) := by decide +kernel
theorem dX9_tellRiver_181 : decode cX9_tellRiver 181 = .ok (.iaload, 1) := by decide +kernel
theorem dX9_tellRiver_182 : decode cX9_tellRiver 182 = .ok (.iconst 1, 1) := by decide +kernel
theorem dX9_tellRiver_183 : decode cX9_tellRiver 183 = .ok (.if_icmp .eq 7, 3) := by decide +kernel
theorem dX9_tellRiver_186 : decode cX9_tellRiver 186 = .ok (.iconst 1, 1) := by decide +kernel
theorem dX9_tellRiver_187 : decode cX9_tellRiver 187 = .ok (.goto 4, 3) := by decide +kernel
theorem dX9_tellRiver_190 : decode cX9_tellRiver 190 = .ok (.iconst 0, 1) := by decide +kernel
theorem dX9_tellRiver_191 : decode cX9_tellRiver 191 = .ok (.bastore, 1) := by decide +kernel
theorem dX9_tellRiver_192 : decode cX9_tellRiver 192 = .ok (.iinc 2 1, 3) := by decide +kernel
theorem dX9_tellRiver_195 : decode cX9_tellRiver 195 = .ok (.goto (-74), 3) := by decide +kernel
theorem dX9_tellRiver_198 : decode cX9_tellRiver 198 = .ok (.return_, 1) := by decide +kernel
set_option maxRecDepth 4000 in
theorem s_X9_tellRiver_0 {w : GX} {d : Nat} {P : PN} {g : GI} {x1 : Nat} (hx1 : isT x1)
    (h : (∀ g1 : GI, g1 = up2 g 18 9 0 → Zm w (d + 2) mX7_riverFault 0 [some (aR (some (x1))), none] [] g1 (fun r g2 => ∃ z3 : Int, r = some (aI z3) ∧ ((¬ nm z3 = nm ((-1)) → Zm w (d + 3) mX9_tellRiver 27 [some (aR (some (18))), some (aR (some (x1))), none] [aI (0), aR (some (18))] g2 P) ∧ (nm z3 = nm ((-1)) → Zm w (d + 3) mX9_tellRiver 27 [some (aR (some (18))), some (aR (some (x1))), none] [aI (iMin (g2 x1 1) 20), aR (some (18))] g2 P))))) :
    Zm w (d + 3) mX9_tellRiver 0 [some (aR (some (18))), some (aR (some (x1))), none] [] g P := by
  refine z_aload_n dX9_tellRiver_0 rfl rfl ?_
  refine z_iconst dX9_tellRiver_1 ?_
  replace h := h _ rfl
  refine z_putI dX9_tellRiver_2 fw_X9_41 (by decide) kt_18 ?_
  refine z_aload_n dX9_tellRiver_5 rfl rfl ?_
  refine z_aload_n dX9_tellRiver_6 rfl rfl ?_
  refine m_callV (as := []) dX9_tellRiver_7 lk_X9_50 mok_X7_riverFault in_X7_riverFault sl_X7_riverFault (congrArg Prod.fst hx1.1) rfl rfl rfl (Nat.le_of_ble_eq_true rfl) rfl (Nat.le_of_ble_eq_true rfl) rfl (m_mono (fun r g2 hr => ?_) h)
  obtain ⟨z3, rfl, h⟩ := hr
  show Zm w (d + 3) mX9_tellRiver 10 [some (aR (some (18))), some (aR (some (x1))), none] [aI (z3), aR (some (18))] g2 P
  refine z_iconst dX9_tellRiver_10 ?_
  refine z_icmp_ne (tgt := 26) dX9_tellRiver_11 (by decide) (fun c4 => ?_) (fun c4 => ?_)
  · replace h := h.1 c4
    refine z_iconst dX9_tellRiver_26 ?_
    exact z_weak (by simp [lle]) h
  · replace h := h.2 (Decidable.not_not.mp c4)
    refine z_aload_n dX9_tellRiver_14 rfl rfl ?_
    refine z_getI dX9_tellRiver_15 fl_X9_56 (by decide) (congrArg Prod.fst hx1.1) ?_
    refine z_bipush dX9_tellRiver_18 rfl ?_
    refine m_min dX9_tellRiver_20 lk_X9_59 (Nat.le_of_ble_eq_true rfl) ?_
    refine z_goto (tgt := 27) dX9_tellRiver_23 (by decide) ?_
    exact z_weak (by simp [lle]) h
set_option maxRecDepth 4000 in
theorem s_X9_tellRiver_27 {w : GX} {d : Nat} {P : PN} {g : GI} {x1 : Nat} (hx1 : isT x1) (y1 : Int)
    (h : (∀ g1 : GI, g1 = up2 g 18 8 y1 → Zm w (d + 3) mX9_tellRiver 32 [some (aR (some (18))), some (aR (some (x1))), some (aI (0))] [] g1 P)) :
    Zm w (d + 3) mX9_tellRiver 27 [some (aR (some (18))), some (aR (some (x1))), none] [aI (y1), aR (some (18))] g P := by
  replace h := h _ rfl
  refine z_putI dX9_tellRiver_27 fw_X9_37 (by decide) kt_18 ?_
  refine z_iconst dX9_tellRiver_30 ?_
  refine z_istore_n dX9_tellRiver_31 rfl (by decide) rfl ?_
  show Zm w (d + 3) mX9_tellRiver 32 [some (aR (some (18))), some (aR (some (x1))), some (aI (0))] [] (up2 g 18 8 y1) P
  exact z_weak (by simp [lle]) h
set_option maxRecDepth 4000 in
theorem s_X9_tellRiver_32 {w : GX} {d : Nat} {P : PN} {g : GI} {x1 : Nat} (hx1 : isT x1) (x2 : Int)
    (h : ((¬ nm x2 < nm (g 18 8) → Zm w (d + 3) mX9_tellRiver 121 [some (aR (some (18))), none, some (aI (0))] [] g P) ∧ (nm x2 < nm (g 18 8) → (0 ≤ nm x2 ∧ nm x2 < (((kd0 (x1 + 1)).2 : Nat) : Int) ∧ ((0 ≤ nm x2 ∧ nm x2 < 20 ∧ ∀ g6 : GI, g6 = up2 g 19 (nm x2).toNat (kob (g (x1 + 1) (nm x2).toNat)) → (((¬ nm (g6 19 (nm x2).toNat) = nm 3 → Zm w (d + 3) mX9_tellRiver 32 [some (aR (some (18))), some (aR (some (x1))), some (aI (x2 + 1))] [] g6 P) ∧ (nm (g6 19 (nm x2).toNat) = nm 3 → ((0 ≤ nm (g6 18 9) ∧ nm (g6 18 9) < 28 ∧ ∀ g14 : GI, g14 = up2 g6 23 (nm (g6 18 9)).toNat ((g6 (x1 + 1) (nm x2).toNat) - 97) → (0 ≤ nm (g14 18 9) ∧ nm (g14 18 9) < 28 ∧ ∀ g17 : GI, g17 = up2 g14 24 (nm (g14 18 9)).toNat 0 → (0 ≤ nm (g17 18 9) ∧ nm (g17 18 9) < 20 ∧ ∀ g20 : GI, g20 = up2 g17 22 (nm (g17 18 9)).toNat x2 → (∀ g23 : GI, g23 = up2 g20 18 9 ((g20 18 9) + 1) → Zm w (d + 3) mX9_tellRiver 32 [some (aR (some (18))), some (aR (some (x1))), some (aI (x2 + 1))] [] g23 P)))))))))))))) :
    Zm w (d + 3) mX9_tellRiver 32 [some (aR (some (18))), some (aR (some (x1))), some (aI (x2))] [] g P := by
  refine z_iload_n dX9_tellRiver_32 rfl rfl ?_
  refine z_aload_n dX9_tellRiver_33 rfl rfl ?_
  refine z_getI dX9_tellRiver_34 fl_X9_37 (by decide) kt_18 ?_
  refine z_icmp_ge (tgt := 119) dX9_tellRiver_37 (by decide) (fun c1 => ?_) (fun c1 => ?_)
  · replace h := h.1 c1
    refine z_iconst dX9_tellRiver_119 ?_
    refine z_istore_n dX9_tellRiver_120 rfl (by decide) rfl ?_
    show Zm w (d + 3) mX9_tellRiver 121 [some (aR (some (18))), some (aR (some (x1))), some (aI (0))] [] g P
    exact z_weak (by simp [lle]) h
  · replace h := h.2 (Decidable.not_not.mp c1)
    refine z_aload_n dX9_tellRiver_40 rfl rfl ?_
    refine m_getR dX9_tellRiver_41 fl_X9_9 (by decide) kt_18 rv_18_0 ?_
    refine z_iload_n dX9_tellRiver_44 rfl rfl ?_
    refine z_aload_n dX9_tellRiver_45 rfl rfl ?_
    refine m_getR dX9_tellRiver_46 fl_X9_65 (by decide) (congrArg Prod.fst hx1.1) hx1.2.1 ?_
    refine z_iload_n dX9_tellRiver_49 rfl rfl ?_
    obtain ⟨q4, q5, h⟩ := h
    refine m_iald dX9_tellRiver_50 (kd_of hx1.2.2) q4 q5 ?_
    refine m_callS (as := [aI (g (x1 + 1) (nm x2).toNat)]) dX9_tellRiver_51 lk_X9_68 mok_X7_kindOfByte st_X7_kindOfByte rfl (Nat.le_of_ble_eq_true rfl) rfl (Nat.le_of_ble_eq_true rfl) rfl (c_X7_kindOfByte  ?_)
    show Zm w (d + 3) mX9_tellRiver 54 [some (aR (some (18))), some (aR (some (x1))), some (aI (x2))] [aI (kob (g (x1 + 1) (nm x2).toNat)), aI (x2), aR (some (19))] g P
    obtain ⟨q7, q8, h⟩ := h
    replace h := h _ rfl
    refine m_iast dX9_tellRiver_54 kv_19 q7 q8 ?_
    refine z_aload_n dX9_tellRiver_55 rfl rfl ?_
    refine m_getR dX9_tellRiver_56 fl_X9_9 (by decide) kt_18 rv_18_0 ?_
    refine z_iload_n dX9_tellRiver_59 rfl rfl ?_
    refine m_iald dX9_tellRiver_60 kv_19 q7 q8 ?_
    refine z_iconst dX9_tellRiver_61 ?_
    refine z_icmp_ne (tgt := 113) dX9_tellRiver_62 (by decide) (fun c11 => ?_) (fun c11 => ?_)
    · replace h := h.1 c11
      refine z_iinc dX9_tellRiver_113 rfl (by decide) rfl ?_
      show Zm w (d + 3) mX9_tellRiver 116 [some (aR (some (18))), some (aR (some (x1))), some (aI (x2 + 1))] [] (up2 g 19 (nm x2).toNat (kob (g (x1 + 1) (nm x2).toNat))) P
      refine z_goto (tgt := 32) dX9_tellRiver_116 (by decide) ?_
      exact z_weak (by simp [lle]) h
    · replace h := h.2 (Decidable.not_not.mp c11)
      refine z_aload_n dX9_tellRiver_65 rfl rfl ?_
      refine m_getR dX9_tellRiver_66 fl_X9_25 (by decide) kt_18 rv_18_4 ?_
      refine z_aload_n dX9_tellRiver_69 rfl rfl ?_
      refine z_getI dX9_tellRiver_70 fl_X9_41 (by decide) kt_18 ?_
      refine z_aload_n dX9_tellRiver_73 rfl rfl ?_
      refine m_getR dX9_tellRiver_74 fl_X9_65 (by decide) (congrArg Prod.fst hx1.1) hx1.2.1 ?_
      refine z_iload_n dX9_tellRiver_77 rfl rfl ?_
      refine m_iald dX9_tellRiver_78 (kd_of hx1.2.2) q4 q5 ?_
      refine z_bipush dX9_tellRiver_79 rfl ?_
      refine z_isub dX9_tellRiver_81 ?_
      obtain ⟨q15, q16, h⟩ := h
      replace h := h _ rfl
      refine m_iast dX9_tellRiver_82 kv_23 q15 q16 ?_
      refine z_aload_n dX9_tellRiver_83 rfl rfl ?_
      refine m_getR dX9_tellRiver_84 fl_X9_28 (by decide) kt_18 rv_18_5 ?_
      refine z_aload_n dX9_tellRiver_87 rfl rfl ?_
      refine z_getI dX9_tellRiver_88 fl_X9_41 (by decide) kt_18 ?_
      refine z_iconst dX9_tellRiver_91 ?_
      obtain ⟨q18, q19, h⟩ := h
      replace h := h _ rfl
      refine m_iast dX9_tellRiver_92 kv_24 q18 q19 ?_
      refine z_aload_n dX9_tellRiver_93 rfl rfl ?_
      refine m_getR dX9_tellRiver_94 fl_X9_22 (by decide) kt_18 rv_18_3 ?_
      refine z_aload_n dX9_tellRiver_97 rfl rfl ?_
      refine z_getI dX9_tellRiver_98 fl_X9_41 (by decide) kt_18 ?_
      refine z_iload_n dX9_tellRiver_101 rfl rfl ?_
      obtain ⟨q21, q22, h⟩ := h
      replace h := h _ rfl
      refine m_iast dX9_tellRiver_102 kv_22 q21 q22 ?_
      refine z_aload_n dX9_tellRiver_103 rfl rfl ?_
      refine z_dup dX9_tellRiver_104 rfl ?_
      refine z_getI dX9_tellRiver_105 fl_X9_41 (by decide) kt_18 ?_
      refine z_iconst dX9_tellRiver_108 ?_
      refine z_iadd dX9_tellRiver_109 ?_
      replace h := h _ rfl
      refine z_putI dX9_tellRiver_110 fw_X9_41 (by decide) kt_18 ?_
      refine z_iinc dX9_tellRiver_113 rfl (by decide) rfl ?_
      show Zm w (d + 3) mX9_tellRiver 116 [some (aR (some (18))), some (aR (some (x1))), some (aI (x2 + 1))] [] (up2 (up2 (up2 (up2 (up2 g 19 (nm x2).toNat (kob (g (x1 + 1) (nm x2).toNat))) 23 (nm ((up2 g 19 (nm x2).toNat (kob (g (x1 + 1) (nm x2).toNat))) 18 9)).toNat (((up2 g 19 (nm x2).toNat (kob (g (x1 + 1) (nm x2).toNat))) (x1 + 1) (nm x2).toNat) - 97)) 24 (nm ((up2 (up2 g 19 (nm x2).toNat (kob (g (x1 + 1) (nm x2).toNat))) 23 (nm ((up2 g 19 (nm x2).toNat (kob (g (x1 + 1) (nm x2).toNat))) 18 9)).toNat (((up2 g 19 (nm x2).toNat (kob (g (x1 + 1) (nm x2).toNat))) (x1 + 1) (nm x2).toNat) - 97)) 18 9)).toNat 0) 22 (nm ((up2 (up2 (up2 g 19 (nm x2).toNat (kob (g (x1 + 1) (nm x2).toNat))) 23 (nm ((up2 g 19 (nm x2).toNat (kob (g (x1 + 1) (nm x2).toNat))) 18 9)).toNat (((up2 g 19 (nm x2).toNat (kob (g (x1 + 1) (nm x2).toNat))) (x1 + 1) (nm x2).toNat) - 97)) 24 (nm ((up2 (up2 g 19 (nm x2).toNat (kob (g (x1 + 1) (nm x2).toNat))) 23 (nm ((up2 g 19 (nm x2).toNat (kob (g (x1 + 1) (nm x2).toNat))) 18 9)).toNat (((up2 g 19 (nm x2).toNat (kob (g (x1 + 1) (nm x2).toNat))) (x1 + 1) (nm x2).toNat) - 97)) 18 9)).toNat 0) 18 9)).toNat x2) 18 9 (((up2 (up2 (up2 (up2 g 19 (nm x2).toNat (kob (g (x1 + 1) (nm x2).toNat))) 23 (nm ((up2 g 19 (nm x2).toNat (kob (g (x1 + 1) (nm x2).toNat))) 18 9)).toNat (((up2 g 19 (nm x2).toNat (kob (g (x1 + 1) (nm x2).toNat))) (x1 + 1) (nm x2).toNat) - 97)) 24 (nm ((up2 (up2 g 19 (nm x2).toNat (kob (g (x1 + 1) (nm x2).toNat))) 23 (nm ((up2 g 19 (nm x2).toNat (kob (g (x1 + 1) (nm x2).toNat))) 18 9)).toNat (((up2 g 19 (nm x2).toNat (kob (g (x1 + 1) (nm x2).toNat))) (x1 + 1) (nm x2).toNat) - 97)) 18 9)).toNat 0) 22 (nm ((up2 (up2 (up2 g 19 (nm x2).toNat (kob (g (x1 + 1) (nm x2).toNat))) 23 (nm ((up2 g 19 (nm x2).toNat (kob (g (x1 + 1) (nm x2).toNat))) 18 9)).toNat (((up2 g 19 (nm x2).toNat (kob (g (x1 + 1) (nm x2).toNat))) (x1 + 1) (nm x2).toNat) - 97)) 24 (nm ((up2 (up2 g 19 (nm x2).toNat (kob (g (x1 + 1) (nm x2).toNat))) 23 (nm ((up2 g 19 (nm x2).toNat (kob (g (x1 + 1) (nm x2).toNat))) 18 9)).toNat (((up2 g 19 (nm x2).toNat (kob (g (x1 + 1) (nm x2).toNat))) (x1 + 1) (nm x2).toNat) - 97)) 18 9)).toNat 0) 18 9)).toNat x2) 18 9) + 1)) P
      refine z_goto (tgt := 32) dX9_tellRiver_116 (by decide) ?_
      exact z_weak (by simp [lle]) h
set_option maxRecDepth 4000 in
theorem s_X9_tellRiver_121 {w : GX} {d : Nat} {P : PN} {g : GI} (x2 : Int)
    (h : ((¬ nm x2 < nm (g 18 8) → P none g) ∧ (nm x2 < nm (g 18 8) → ((¬ nm (x2 + 1) < nm (g 18 8) → Zm w (d + 3) mX9_tellRiver 156 [some (aR (some (18))), none, some (aI (x2))] [aI (x2), aR (some (20))] g P) ∧ (nm (x2 + 1) < nm (g 18 8) → (0 ≤ nm (x2 + 1) ∧ nm (x2 + 1) < 20 ∧ ((nm (g 19 (nm (x2 + 1)).toNat) = nm 2 → Zm w (d + 3) mX9_tellRiver 161 [some (aR (some (18))), none, some (aI (x2))] [aI (0), aI (x2), aR (some (20))] g P) ∧ (¬ nm (g 19 (nm (x2 + 1)).toNat) = nm 2 → Zm w (d + 3) mX9_tellRiver 156 [some (aR (some (18))), none, some (aI (x2))] [aI (x2), aR (some (20))] g P)))))))) :
    Zm w (d + 3) mX9_tellRiver 121 [some (aR (some (18))), none, some (aI (x2))] [] g P := by
  refine z_iload_n dX9_tellRiver_121 rfl rfl ?_
  refine z_aload_n dX9_tellRiver_122 rfl rfl ?_
  refine z_getI dX9_tellRiver_123 fl_X9_37 (by decide) kt_18 ?_
  refine z_icmp_ge (tgt := 198) dX9_tellRiver_126 (by decide) (fun c1 => ?_) (fun c1 => ?_)
  · replace h := h.1 c1
    exact m_vret dX9_tellRiver_198 rfl h
  · replace h := h.2 (Decidable.not_not.mp c1)
    refine z_aload_n dX9_tellRiver_129 rfl rfl ?_
    refine m_getR dX9_tellRiver_130 fl_X9_15 (by decide) kt_18 rv_18_1 ?_
    refine z_iload_n dX9_tellRiver_133 rfl rfl ?_
    refine z_iload_n dX9_tellRiver_134 rfl rfl ?_
    refine z_iconst dX9_tellRiver_135 ?_
    refine z_iadd dX9_tellRiver_136 ?_
    refine z_aload_n dX9_tellRiver_137 rfl rfl ?_
    refine z_getI dX9_tellRiver_138 fl_X9_37 (by decide) kt_18 ?_
    refine z_icmp_ge (tgt := 156) dX9_tellRiver_141 (by decide) (fun c2 => ?_) (fun c2 => ?_)
    · replace h := h.1 c2
      exact z_weak (by simp [lle]) h
    · replace h := h.2 (Decidable.not_not.mp c2)
      refine z_aload_n dX9_tellRiver_144 rfl rfl ?_
      refine m_getR dX9_tellRiver_145 fl_X9_9 (by decide) kt_18 rv_18_0 ?_
      refine z_iload_n dX9_tellRiver_148 rfl rfl ?_
      refine z_iconst dX9_tellRiver_149 ?_
      refine z_iadd dX9_tellRiver_150 ?_
      obtain ⟨q5, q6, h⟩ := h
      refine m_iald dX9_tellRiver_151 kv_19 q5 q6 ?_
      refine z_iconst dX9_tellRiver_152 ?_
      refine z_icmp_eq (tgt := 160) dX9_tellRiver_153 (by decide) (fun c7 => ?_) (fun c7 => ?_)
      · replace h := h.1 c7
        refine z_iconst dX9_tellRiver_160 ?_
        exact z_weak (by simp [lle]) h
      · replace h := h.2 c7
        exact z_weak (by simp [lle]) h
set_option maxRecDepth 4000 in
theorem s_X9_tellRiver_156 {w : GX} {d : Nat} {P : PN} {g : GI} (x2 : Int) (y1 : Int)
    (h : Zm w (d + 3) mX9_tellRiver 161 [some (aR (some (18))), none, some (aI (x2))] [aI (1), aI (y1), aR (some (20))] g P) :
    Zm w (d + 3) mX9_tellRiver 156 [some (aR (some (18))), none, some (aI (x2))] [aI (y1), aR (some (20))] g P := by
  refine z_iconst dX9_tellRiver_156 ?_
  refine z_goto (tgt := 161) dX9_tellRiver_157 (by decide) ?_
  exact z_weak (by simp [lle]) h
set_option maxRecDepth 4000 in
theorem s_X9_tellRiver_161 {w : GX} {d : Nat} {P : PN} {g : GI} (x2 : Int) (y1 : Int) (y2 : Int)
    (h : (0 ≤ nm y1 ∧ nm y1 < 20 ∧ (y2 = 0 ∨ y2 = 1) ∧ ∀ g1 : GI, g1 = up2 g 20 (nm y1).toNat y2 → (0 ≤ nm x2 ∧ nm x2 < 20 ∧ ((nm (g1 20 (nm x2).toNat) = 0 → (∀ g10 : GI, g10 = up2 g1 21 (nm x2).toNat 0 → Zm w (d + 3) mX9_tellRiver 121 [some (aR (some (18))), none, some (aI (x2 + 1))] [] g10 P)) ∧ (¬ nm (g1 20 (nm x2).toNat) = 0 → (((nm (g1 19 (nm x2).toNat) = nm 1 → (∀ g14 : GI, g14 = up2 g1 21 (nm x2).toNat 0 → Zm w (d + 3) mX9_tellRiver 121 [some (aR (some (18))), none, some (aI (x2 + 1))] [] g14 P)) ∧ (¬ nm (g1 19 (nm x2).toNat) = nm 1 → (∀ g15 : GI, g15 = up2 g1 21 (nm x2).toNat 1 → Zm w (d + 3) mX9_tellRiver 121 [some (aR (some (18))), none, some (aI (x2 + 1))] [] g15 P))))))))) :
    Zm w (d + 3) mX9_tellRiver 161 [some (aR (some (18))), none, some (aI (x2))] [aI (y2), aI (y1), aR (some (20))] g P := by
  obtain ⟨q2, q3, h⟩ := h
  obtain ⟨q4, h⟩ := h
  replace h := h _ rfl
  refine m_bast dX9_tellRiver_161 kv_20 q2 q3 q4 ?_
  refine z_aload_n dX9_tellRiver_162 rfl rfl ?_
  refine m_getR dX9_tellRiver_163 fl_X9_19 (by decide) kt_18 rv_18_2 ?_
  refine z_iload_n dX9_tellRiver_166 rfl rfl ?_
  refine z_aload_n dX9_tellRiver_167 rfl rfl ?_
  refine m_getR dX9_tellRiver_168 fl_X9_15 (by decide) kt_18 rv_18_1 ?_
  refine z_iload_n dX9_tellRiver_171 rfl rfl ?_
  obtain ⟨q7, q8, h⟩ := h
  refine m_bald dX9_tellRiver_172 kv_20 q7 q8 ?_
  refine z_if_eq (tgt := 190) dX9_tellRiver_173 (by decide) (fun c9 => ?_) (fun c9 => ?_)
  · replace h := h.1 c9
    refine z_iconst dX9_tellRiver_190 ?_
    replace h := h _ rfl
    refine m_bast dX9_tellRiver_191 kv_21 q7 q8 (by decide) ?_
    refine z_iinc dX9_tellRiver_192 rfl (by decide) rfl ?_
    show Zm w (d + 3) mX9_tellRiver 195 [some (aR (some (18))), none, some (aI (x2 + 1))] [] (up2 (up2 g 20 (nm y1).toNat y2) 21 (nm x2).toNat 0) P
    refine z_goto (tgt := 121) dX9_tellRiver_195 (by decide) ?_
    exact z_weak (by simp [lle]) h
  · replace h := h.2 c9
    refine z_aload_n dX9_tellRiver_176 rfl rfl ?_
    refine m_getR dX9_tellRiver_177 fl_X9_9 (by decide) kt_18 rv_18_0 ?_
    refine z_iload_n dX9_tellRiver_180 rfl rfl ?_
    refine m_iald dX9_tellRiver_181 kv_19 q7 q8 ?_
    refine z_iconst dX9_tellRiver_182 ?_
    refine z_icmp_eq (tgt := 190) dX9_tellRiver_183 (by decide) (fun c13 => ?_) (fun c13 => ?_)
    · replace h := h.1 c13
      refine z_iconst dX9_tellRiver_190 ?_
      replace h := h _ rfl
      refine m_bast dX9_tellRiver_191 kv_21 q7 q8 (by decide) ?_
      refine z_iinc dX9_tellRiver_192 rfl (by decide) rfl ?_
      show Zm w (d + 3) mX9_tellRiver 195 [some (aR (some (18))), none, some (aI (x2 + 1))] [] (up2 (up2 g 20 (nm y1).toNat y2) 21 (nm x2).toNat 0) P
      refine z_goto (tgt := 121) dX9_tellRiver_195 (by decide) ?_
      exact z_weak (by simp [lle]) h
    · replace h := h.2 c13
      refine z_iconst dX9_tellRiver_186 ?_
      refine z_goto (tgt := 191) dX9_tellRiver_187 (by decide) ?_
      replace h := h _ rfl
      refine m_bast dX9_tellRiver_191 kv_21 q7 q8 (by decide) ?_
      refine z_iinc dX9_tellRiver_192 rfl (by decide) rfl ?_
      show Zm w (d + 3) mX9_tellRiver 195 [some (aR (some (18))), none, some (aI (x2 + 1))] [] (up2 (up2 g 20 (nm y1).toNat y2) 21 (nm x2).toNat 1) P
      refine z_goto (tgt := 121) dX9_tellRiver_195 (by decide) ?_
      exact z_weak (by simp [lle]) h
theorem dX9_tellPeople_0 : decode cX9_tellPeople 0 = .ok (.aload_n 1, 1) := by decide +kernel
theorem dX9_tellPeople_1 : decode cX9_tellPeople 1 = .ok (.invokevirtual 72, 3) := by decide +kernel
theorem dX9_tellPeople_4 : decode cX9_tellPeople 4 = .ok (.iconst (-1), 1) := by decide +kernel
theorem dX9_tellPeople_5 : decode cX9_tellPeople 5 = .ok (.if_icmp .ne 15, 3) := by decide +kernel
theorem dX9_tellPeople_8 : decode cX9_tellPeople 8 = .ok (.aload_n 1, 1) := by decide +kernel
theorem dX9_tellPeople_9 : decode cX9_tellPeople 9 = .ok (.getfield 56, 3) := by decide +kernel
theorem dX9_tellPeople_12 : decode cX9_tellPeople 12 = .ok (.iconst 1, 1) := by decide +kernel
theorem dX9_tellPeople_13 : decode cX9_tellPeople 13 = .ok (.iadd, 1) := by decide +kernel
theorem dX9_tellPeople_14 : decode cX9_tellPeople 14 = .ok (.bipush 6, 2) := by decide +kernel
theorem dX9_tellPeople_16 : decode cX9_tellPeople 16 = .ok (.idiv, 1) := by decide +kernel
theorem dX9_tellPeople_17 : decode cX9_tellPeople 17 = .ok (.goto 4, 3) := by decide +kernel
theorem dX9_tellPeople_20 : decode cX9_tellPeople 20 = .ok (.iconst 0, 1) := by decide +kernel
theorem dX9_tellPeople_21 : decode cX9_tellPeople 21 = .ok (.istore_n 2, 1) := by decide +kernel
theorem dX9_tellPeople_22 : decode cX9_tellPeople 22 = .ok (.aload_n 0, 1) := by decide +kernel
theorem dX9_tellPeople_23 : decode cX9_tellPeople 23 = .ok (.iload_n 2, 1) := by decide +kernel
theorem dX9_tellPeople_24 : decode cX9_tellPeople 24 = .ok (.bipush 8, 2) := by decide +kernel
theorem dX9_tellPeople_26 : decode cX9_tellPeople 26 = .ok (.invokestatic 59, 3) := by decide +kernel
theorem dX9_tellPeople_29 : decode cX9_tellPeople 29 = .ok (.putfield 44, 3) := by decide +kernel
theorem dX9_tellPeople_32 : decode cX9_tellPeople 32 = .ok (.iconst 0, 1) := by decide +kernel
theorem dX9_tellPeople_33 : decode cX9_tellPeople 33 = .ok (.istore_n 3, 1) := by decide +kernel
theorem dX9_tellPeople_34 : decode cX9_tellPeople 34 = .ok (.iload_n 3, 1) := by decide +kernel
theorem dX9_tellPeople_35 : decode cX9_tellPeople 35 = .ok (.aload_n 0, 1) := by decide +kernel
theorem dX9_tellPeople_36 : decode cX9_tellPeople 36 = .ok (.getfield 44, 3) := by decide +kernel
theorem dX9_tellPeople_39 : decode cX9_tellPeople 39 = .ok (.if_icmp .ge 129, 3) := by decide +kernel
theorem dX9_tellPeople_42 : decode cX9_tellPeople 42 = .ok (.iload_n 3, 1) := by decide +kernel
theorem dX9_tellPeople_43 : decode cX9_tellPeople 43 = .ok (.bipush 6, 2) := by decide +kernel
theorem dX9_tellPeople_45 : decode cX9_tellPeople 45 = .ok (.imul, 1) := by decide +kernel
theorem dX9_tellPeople_46 : decode cX9_tellPeople 46 = .ok (.istore 4, 2) := by decide +kernel
theorem dX9_tellPeople_48 : decode cX9_tellPeople 48 = .ok (.aload_n 0, 1) := by decide +kernel
theorem dX9_tellPeople_49 : decode cX9_tellPeople 49 = .ok (.getfield 41, 3) := by decide +kernel
theorem dX9_tellPeople_52 : decode cX9_tellPeople 52 = .ok (.iload_n 3, 1) := by decide +kernel
theorem dX9_tellPeople_53 : decode cX9_tellPeople 53 = .ok (.iadd, 1) := by decide +kernel
theorem dX9_tellPeople_54 : decode cX9_tellPeople 54 = .ok (.istore 5, 2) := by decide +kernel
theorem dX9_tellPeople_56 : decode cX9_tellPeople 56 = .ok (.aload_n 0, 1) := by decide +kernel
theorem dX9_tellPeople_57 : decode cX9_tellPeople 57 = .ok (.getfield 25, 3) := by decide +kernel
theorem dX9_tellPeople_60 : decode cX9_tellPeople 60 = .ok (.iload 5, 2) := by decide +kernel
theorem dX9_tellPeople_62 : decode cX9_tellPeople 62 = .ok (.aload_n 1, 1) := by decide +kernel
theorem dX9_tellPeople_63 : decode cX9_tellPeople 63 = .ok (.getfield 65, 3) := by decide +kernel
theorem dX9_tellPeople_66 : decode cX9_tellPeople 66 = .ok (.iload 4, 2) := by decide +kernel
theorem dX9_tellPeople_68 : decode cX9_tellPeople 68 = .ok (.iaload, 1) := by decide +kernel
theorem dX9_tellPeople_69 : decode cX9_tellPeople 69 = .ok (.bipush 97, 2) := by decide +kernel
theorem dX9_tellPeople_71 : decode cX9_tellPeople 71 = .ok (.isub, 1) := by decide +kernel
theorem dX9_tellPeople_72 : decode cX9_tellPeople 72 = .ok (.iastore, 1) := by decide +kernel
theorem dX9_tellPeople_73 : decode cX9_tellPeople 73 = .ok (.aload_n 0, 1) := by decide +kernel
theorem dX9_tellPeople_74 : decode cX9_tellPeople 74 = .ok (.getfield 28, 3) := by decide +kernel
theorem dX9_tellPeople_77 : decode cX9_tellPeople 77 = .ok (.iload 5, 2) := by decide +kernel
theorem dX9_tellPeople_79 : decode cX9_tellPeople 79 = .ok (.bipush 10, 2) := by decide +kernel
theorem dX9_tellPeople_81 : decode cX9_tellPeople 81 = .ok (.aload_n 1, 1) := by decide +kernel
theorem dX9_tellPeople_82 : decode cX9_tellPeople 82 = .ok (.getfield 65, 3) := by decide +kernel
theorem dX9_tellPeople_85 : decode cX9_tellPeople 85 = .ok (.iload 4, 2) := by decide +kernel
theorem dX9_tellPeople_87 : decode cX9_tellPeople 87 = .ok (.iconst 1, 1) := by decide +kernel
theorem dX9_tellPeople_88 : decode cX9_tellPeople 88 = .ok (.iadd, 1) := by decide +kernel
theorem dX9_tellPeople_89 : decode cX9_tellPeople 89 = .ok (.iaload, 1) := by decide +kernel
theorem dX9_tellPeople_90 : decode cX9_tellPeople 90 = .ok (.bipush 48, 2) := by decide +kernel
theorem dX9_tellPeople_92 : decode cX9_tellPeople 92 = .ok (.isub, 1) := by decide +kernel
theorem dX9_tellPeople_93 : decode cX9_tellPeople 93 = .ok (.imul, 1) := by decide +kernel
theorem dX9_tellPeople_94 : decode cX9_tellPeople 94 = .ok (.aload_n 1, 1) := by decide +kernel
theorem dX9_tellPeople_95 : decode cX9_tellPeople 95 = .ok (.getfield 65, 3) := by decide +kernel
theorem dX9_tellPeople_98 : decode cX9_tellPeople 98 = .ok (.iload 4, 2) := by decide +kernel
theorem dX9_tellPeople_100 : decode cX9_tellPeople 100 = .ok (.iconst 2, 1) := by decide +kernel
theorem dX9_tellPeople_101 : decode cX9_tellPeople 101 = .ok (.iadd, 1) := by decide +kernel
theorem dX9_tellPeople_102 : decode cX9_tellPeople 102 = .ok (.iaload, 1) := by decide +kernel
theorem dX9_tellPeople_103 : decode cX9_tellPeople 103 = .ok (.iadd, 1) := by decide +kernel
theorem dX9_tellPeople_104 : decode cX9_tellPeople 104 = .ok (.bipush 48, 2) := by decide +kernel
theorem dX9_tellPeople_106 : decode cX9_tellPeople 106 = .ok (.isub, 1) := by decide +kernel
theorem dX9_tellPeople_107 : decode cX9_tellPeople 107 = .ok (.iastore, 1) := by decide +kernel
theorem dX9_tellPeople_108 : decode cX9_tellPeople 108 = .ok (.aload_n 0, 1) := by decide +kernel
theorem dX9_tellPeople_109 : decode cX9_tellPeople 109 = .ok (.getfield 31, 3) := by decide +kernel
theorem dX9_tellPeople_112 : decode cX9_tellPeople 112 = .ok (.iload_n 3, 1) := by decide +kernel
theorem dX9_tellPeople_113 : decode cX9_tellPeople 113 = .ok (.aload_n 1, 1) := by decide +kernel
theorem dX9_tellPeople_114 : decode cX9_tellPeople 114 = .ok (.getfield 65, 3) := by decide +kernel
theorem dX9_tellPeople_117 : decode cX9_tellPeople 117 = .ok (.iload 4, 2) := by decide +kernel
theorem dX9_tellPeople_119 : decode cX9_tellPeople 119 = .ok (.iconst 3, 1) := by decide +kernel
theorem dX9_tellPeople_120 : decode cX9_tellPeople 120 = .ok (.iadd, 1) := by decide +kernel
theorem dX9_tellPeople_121 : decode cX9_tellPeople 121 = .ok (.iaload, 1) := by decide +kernel
theorem dX9_tellPeople_122 : decode cX9_tellPeople 122 = .ok (.bipush 46, 2) := by decide +kernel
theorem dX9_tellPeople_124 : decode cX9_tellPeople 124 = .ok (.if_icmp .ne 7, 3) := by decide +kernel
theorem dX9_tellPeople_127 : decode cX9_tellPeople 127 = .ok (.iconst (-1), 1) := by decide +kernel
theorem dX9_tellPeople_128 : decode cX9_tellPeople 128 = .ok (.goto 15, 3) := by decide +kernel
theorem dX9_tellPeople_131 : decode cX9_tellPeople 131 = .ok (.aload_n 1, 1) := by decide +kernel
theorem dX9_tellPeople_132 : decode cX9_tellPeople 132 = .ok (.getfield 65, 3) := by decide +kernel
theorem dX9_tellPeople_135 : decode cX9_tellPeople 135 = .ok (.iload 4, 2) := by decide +kernel
theorem dX9_tellPeople_137 : decode cX9_tellPeople 137 = .ok (.iconst 3, 1) := by decide +kernel
theorem dX9_tellPeople_138 : decode cX9_tellPeople 138 = .ok (.iadd, 1) := by decide +kernel
theorem dX9_tellPeople_139 : decode cX9_tellPeople 139 = .ok (.iaload, 1) := by decide +kernel
theorem dX9_tellPeople_140 : decode cX9_tellPeople 140 = .ok (.bipush 48, 2) := by decide +kernel
theorem dX9_tellPeople_142 : decode cX9_tellPeople 142 = .ok (.isub, 1) := by decide +kernel
theorem dX9_tellPeople_143 : decode cX9_tellPeople 143 = .ok (.iastore, 1) := by decide +kernel
theorem dX9_tellPeople_144 : decode cX9_tellPeople 144 = .ok (.aload_n 0, 1) := by decide +kernel
theorem dX9_tellPeople_145 : decode cX9_tellPeople 145 = .ok (.getfield 34, 3) := by decide +kernel
theorem dX9_tellPeople_148 : decode cX9_tellPeople 148 = .ok (.iload_n 3, 1) := by decide +kernel
theorem dX9_tellPeople_149 : decode cX9_tellPeople 149 = .ok (.aload_n 1, 1) := by decide +kernel
theorem dX9_tellPeople_150 : decode cX9_tellPeople 150 = .ok (.getfield 65, 3) := by decide +kernel
theorem dX9_tellPeople_153 : decode cX9_tellPeople 153 = .ok (.iload 4, 2) := by decide +kernel
theorem dX9_tellPeople_155 : decode cX9_tellPeople 155 = .ok (.iconst 4, 1) := by decide +kernel
theorem dX9_tellPeople_156 : decode cX9_tellPeople 156 = .ok (.iadd, 1) := by decide +kernel
theorem dX9_tellPeople_157 : decode cX9_tellPeople 157 = .ok (.iaload, 1) := by decide +kernel
theorem dX9_tellPeople_158 : decode cX9_tellPeople 158 = .ok (.bipush 48, 2) := by decide +kernel
theorem dX9_tellPeople_160 : decode cX9_tellPeople 160 = .ok (.isub, 1) := by decide +kernel
theorem dX9_tellPeople_161 : decode cX9_tellPeople 161 = .ok (.iastore, 1) := by decide +kernel
theorem dX9_tellPeople_162 : decode cX9_tellPeople 162 = .ok (.iinc 3 1, 3) := by decide +kernel
theorem dX9_tellPeople_165 : decode cX9_tellPeople 165 = .ok (.goto (-131), 3) := by decide +kernel
theorem dX9_tellPeople_168 : decode cX9_tellPeople 168 = .ok (.return_, 1) := by decide +kernel
set_option maxRecDepth 4000 in
theorem s_X9_tellPeople_0 {w : GX} {d : Nat} {P : PN} {g : GI} {x1 : Nat} (hx1 : isT x1)
    (h : Zm w (d + 2) mX7_peopleFault 0 [some (aR (some (x1))), none] [] g (fun r g1 => ∃ z2 : Int, r = some (aI z2) ∧ ((¬ nm z2 = nm ((-1)) → Zm w (d + 3) mX9_tellPeople 21 [some (aR (some (18))), some (aR (some (x1))), none, none, none, none] [aI (0)] g1 P) ∧ (nm z2 = nm ((-1)) → Zm w (d + 3) mX9_tellPeople 21 [some (aR (some (18))), some (aR (some (x1))), none, none, none, none] [aI (iDiv ((g1 x1 1) + 1) 6)] g1 P)))) :
    Zm w (d + 3) mX9_tellPeople 0 [some (aR (some (18))), some (aR (some (x1))), none, none, none, none] [] g P := by
  refine z_aload_n dX9_tellPeople_0 rfl rfl ?_
  refine m_callV (as := []) dX9_tellPeople_1 lk_X9_72 mok_X7_peopleFault in_X7_peopleFault sl_X7_peopleFault (congrArg Prod.fst hx1.1) rfl rfl rfl (Nat.le_of_ble_eq_true rfl) rfl (Nat.le_of_ble_eq_true rfl) rfl (m_mono (fun r g1 hr => ?_) h)
  obtain ⟨z2, rfl, h⟩ := hr
  show Zm w (d + 3) mX9_tellPeople 4 [some (aR (some (18))), some (aR (some (x1))), none, none, none, none] [aI (z2)] g1 P
  refine z_iconst dX9_tellPeople_4 ?_
  refine z_icmp_ne (tgt := 20) dX9_tellPeople_5 (by decide) (fun c3 => ?_) (fun c3 => ?_)
  · replace h := h.1 c3
    refine z_iconst dX9_tellPeople_20 ?_
    exact z_weak (by simp [lle]) h
  · replace h := h.2 (Decidable.not_not.mp c3)
    refine z_aload_n dX9_tellPeople_8 rfl rfl ?_
    refine z_getI dX9_tellPeople_9 fl_X9_56 (by decide) (congrArg Prod.fst hx1.1) ?_
    refine z_iconst dX9_tellPeople_12 ?_
    refine z_iadd dX9_tellPeople_13 ?_
    refine z_bipush dX9_tellPeople_14 rfl ?_
    refine z_idiv dX9_tellPeople_16 (by decide) ?_
    refine z_goto (tgt := 21) dX9_tellPeople_17 (by decide) ?_
    exact z_weak (by simp [lle]) h
set_option maxRecDepth 4000 in
theorem s_X9_tellPeople_21 {w : GX} {d : Nat} {P : PN} {g : GI} {x1 : Nat} (hx1 : isT x1) (y0 : Int)
    (h : (∀ g1 : GI, g1 = up2 g 18 10 (iMin y0 8) → Zm w (d + 3) mX9_tellPeople 34 [some (aR (some (18))), some (aR (some (x1))), none, some (aI (0)), none, none] [] g1 P)) :
    Zm w (d + 3) mX9_tellPeople 21 [some (aR (some (18))), some (aR (some (x1))), none, none, none, none] [aI (y0)] g P := by
  refine z_istore_n dX9_tellPeople_21 rfl (by decide) rfl ?_
  show Zm w (d + 3) mX9_tellPeople 22 [some (aR (some (18))), some (aR (some (x1))), some (aI (y0)), none, none, none] [] g P
  refine z_aload_n dX9_tellPeople_22 rfl rfl ?_
  refine z_iload_n dX9_tellPeople_23 rfl rfl ?_
  refine z_bipush dX9_tellPeople_24 rfl ?_
  refine m_min dX9_tellPeople_26 lk_X9_59 (Nat.le_of_ble_eq_true rfl) ?_
  replace h := h _ rfl
  refine z_putI dX9_tellPeople_29 fw_X9_44 (by decide) kt_18 ?_
  refine z_iconst dX9_tellPeople_32 ?_
  refine z_istore_n dX9_tellPeople_33 rfl (by decide) rfl ?_
  show Zm w (d + 3) mX9_tellPeople 34 [some (aR (some (18))), some (aR (some (x1))), some (aI (y0)), some (aI (0)), none, none] [] (up2 g 18 10 (iMin y0 8)) P
  exact z_weak (by simp [lle]) h
set_option maxRecDepth 4000 in
theorem s_X9_tellPeople_34 {w : GX} {d : Nat} {P : PN} {g : GI} {x1 : Nat} (hx1 : isT x1) (x3 : Int)
    (h : ((¬ nm x3 < nm (g 18 10) → P none g) ∧ (nm x3 < nm (g 18 10) → (∀ v2 : Int, v2 = x3 * 6 → (∀ v3 : Int, v3 = (g 18 9) + x3 → (0 ≤ nm v2 ∧ nm v2 < (((kd0 (x1 + 1)).2 : Nat) : Int) ∧ (0 ≤ nm v3 ∧ nm v3 < 28 ∧ ∀ g8 : GI, g8 = up2 g 23 (nm v3).toNat ((g (x1 + 1) (nm v2).toNat) - 97) → (0 ≤ nm (v2 + 1) ∧ nm (v2 + 1) < (((kd0 (x1 + 1)).2 : Nat) : Int) ∧ (0 ≤ nm (v2 + 2) ∧ nm (v2 + 2) < (((kd0 (x1 + 1)).2 : Nat) : Int) ∧ (∀ g19 : GI, g19 = up2 g8 24 (nm v3).toNat (((10 * ((g8 (x1 + 1) (nm (v2 + 1)).toNat) - 48)) + (g8 (x1 + 1) (nm (v2 + 2)).toNat)) - 48) → (0 ≤ nm (v2 + 3) ∧ nm (v2 + 3) < (((kd0 (x1 + 1)).2 : Nat) : Int) ∧ ((¬ nm (g19 (x1 + 1) (nm (v2 + 3)).toNat) = nm 46 → (Zm w (d + 3) mX9_tellPeople 143 [some (aR (some (18))), some (aR (some (x1))), none, some (aI (x3)), some (aI (v2)), none] [aI ((g19 (x1 + 1) (nm (v2 + 3)).toNat) - 48), aI (x3), aR (some (25))] g19 P)) ∧ (nm (g19 (x1 + 1) (nm (v2 + 3)).toNat) = nm 46 → Zm w (d + 3) mX9_tellPeople 143 [some (aR (some (18))), some (aR (some (x1))), none, some (aI (x3)), some (aI (v2)), none] [aI ((-1)), aI (x3), aR (some (25))] g19 P))))))))))))) :
    Zm w (d + 3) mX9_tellPeople 34 [some (aR (some (18))), some (aR (some (x1))), none, some (aI (x3)), none, none] [] g P := by
  refine z_iload_n dX9_tellPeople_34 rfl rfl ?_
  refine z_aload_n dX9_tellPeople_35 rfl rfl ?_
  refine z_getI dX9_tellPeople_36 fl_X9_44 (by decide) kt_18 ?_
  refine z_icmp_ge (tgt := 168) dX9_tellPeople_39 (by decide) (fun c1 => ?_) (fun c1 => ?_)
  · replace h := h.1 c1
    exact m_vret dX9_tellPeople_168 rfl h
  · replace h := h.2 (Decidable.not_not.mp c1)
    refine z_iload_n dX9_tellPeople_42 rfl rfl ?_
    refine z_bipush dX9_tellPeople_43 rfl ?_
    refine z_imul dX9_tellPeople_45 ?_
    replace h := h _ rfl
    refine z_istore dX9_tellPeople_46 (by decide) rfl ?_
    show Zm w (d + 3) mX9_tellPeople 48 [some (aR (some (18))), some (aR (some (x1))), none, some (aI (x3)), some (aI (x3 * 6)), none] [] g P
    refine z_aload_n dX9_tellPeople_48 rfl rfl ?_
    refine z_getI dX9_tellPeople_49 fl_X9_41 (by decide) kt_18 ?_
    refine z_iload_n dX9_tellPeople_52 rfl rfl ?_
    refine z_iadd dX9_tellPeople_53 ?_
    replace h := h _ rfl
    refine z_istore dX9_tellPeople_54 (by decide) rfl ?_
    show Zm w (d + 3) mX9_tellPeople 56 [some (aR (some (18))), some (aR (some (x1))), none, some (aI (x3)), some (aI ((x3 * 6))), some (aI ((g 18 9) + x3))] [] g P
    refine z_aload_n dX9_tellPeople_56 rfl rfl ?_
    refine m_getR dX9_tellPeople_57 fl_X9_25 (by decide) kt_18 rv_18_4 ?_
    refine z_iload dX9_tellPeople_60 rfl ?_
    refine z_aload_n dX9_tellPeople_62 rfl rfl ?_
    refine m_getR dX9_tellPeople_63 fl_X9_65 (by decide) (congrArg Prod.fst hx1.1) hx1.2.1 ?_
    refine z_iload dX9_tellPeople_66 rfl ?_
    obtain ⟨q6, q7, h⟩ := h
    refine m_iald dX9_tellPeople_68 (kd_of hx1.2.2) q6 q7 ?_
    refine z_bipush dX9_tellPeople_69 rfl ?_
    refine z_isub dX9_tellPeople_71 ?_
    obtain ⟨q9, q10, h⟩ := h
    replace h := h _ rfl
    refine m_iast dX9_tellPeople_72 kv_23 q9 q10 ?_
    refine z_aload_n dX9_tellPeople_73 rfl rfl ?_
    refine m_getR dX9_tellPeople_74 fl_X9_28 (by decide) kt_18 rv_18_5 ?_
    refine z_iload dX9_tellPeople_77 rfl ?_
    refine z_bipush dX9_tellPeople_79 rfl ?_
    refine z_aload_n dX9_tellPeople_81 rfl rfl ?_
    refine m_getR dX9_tellPeople_82 fl_X9_65 (by decide) (congrArg Prod.fst hx1.1) hx1.2.1 ?_
    refine z_iload dX9_tellPeople_85 rfl ?_
    refine z_iconst dX9_tellPeople_87 ?_
    refine z_iadd dX9_tellPeople_88 ?_
    obtain ⟨q13, q14, h⟩ := h
    refine m_iald dX9_tellPeople_89 (kd_of hx1.2.2) q13 q14 ?_
    refine z_bipush dX9_tellPeople_90 rfl ?_
    refine z_isub dX9_tellPeople_92 ?_
    refine z_imul dX9_tellPeople_93 ?_
    refine z_aload_n dX9_tellPeople_94 rfl rfl ?_
    refine m_getR dX9_tellPeople_95 fl_X9_65 (by decide) (congrArg Prod.fst hx1.1) hx1.2.1 ?_
    refine z_iload dX9_tellPeople_98 rfl ?_
    refine z_iconst dX9_tellPeople_100 ?_
    refine z_iadd dX9_tellPeople_101 ?_
    obtain ⟨q17, q18, h⟩ := h
    refine m_iald dX9_tellPeople_102 (kd_of hx1.2.2) q17 q18 ?_
    refine z_iadd dX9_tellPeople_103 ?_
    refine z_bipush dX9_tellPeople_104 rfl ?_
    refine z_isub dX9_tellPeople_106 ?_
    replace h := h _ rfl
    refine m_iast dX9_tellPeople_107 kv_24 q9 q10 ?_
    refine z_aload_n dX9_tellPeople_108 rfl rfl ?_
    refine m_getR dX9_tellPeople_109 fl_X9_31 (by decide) kt_18 rv_18_6 ?_
    refine z_iload_n dX9_tellPeople_112 rfl rfl ?_
    refine z_aload_n dX9_tellPeople_113 rfl rfl ?_
    refine m_getR dX9_tellPeople_114 fl_X9_65 (by decide) (congrArg Prod.fst hx1.1) hx1.2.1 ?_
    refine z_iload dX9_tellPeople_117 rfl ?_
    refine z_iconst dX9_tellPeople_119 ?_
    refine z_iadd dX9_tellPeople_120 ?_
    obtain ⟨q22, q23, h⟩ := h
    refine m_iald dX9_tellPeople_121 (kd_of hx1.2.2) q22 q23 ?_
    refine z_bipush dX9_tellPeople_122 rfl ?_
    refine z_icmp_ne (tgt := 131) dX9_tellPeople_124 (by decide) (fun c24 => ?_) (fun c24 => ?_)
    · replace h := h.1 c24
      refine z_aload_n dX9_tellPeople_131 rfl rfl ?_
      refine m_getR dX9_tellPeople_132 fl_X9_65 (by decide) (congrArg Prod.fst hx1.1) hx1.2.1 ?_
      refine z_iload dX9_tellPeople_135 rfl ?_
      refine z_iconst dX9_tellPeople_137 ?_
      refine z_iadd dX9_tellPeople_138 ?_
      refine m_iald dX9_tellPeople_139 (kd_of hx1.2.2) q22 q23 ?_
      refine z_bipush dX9_tellPeople_140 rfl ?_
      refine z_isub dX9_tellPeople_142 ?_
      exact z_weak (by simp [lle]) h
    · replace h := h.2 (Decidable.not_not.mp c24)
      refine z_iconst dX9_tellPeople_127 ?_
      refine z_goto (tgt := 143) dX9_tellPeople_128 (by decide) ?_
      exact z_weak (by simp [lle]) h
set_option maxRecDepth 4000 in
theorem s_X9_tellPeople_143 {w : GX} {d : Nat} {P : PN} {g : GI} {x1 : Nat} (hx1 : isT x1) (x3 : Int) (x4 : Int) (y1 : Int) (y2 : Int)
    (h : (0 ≤ nm y1 ∧ nm y1 < 8 ∧ ∀ g1 : GI, g1 = up2 g 25 (nm y1).toNat y2 → (0 ≤ nm (x4 + 4) ∧ nm (x4 + 4) < (((kd0 (x1 + 1)).2 : Nat) : Int) ∧ (0 ≤ nm x3 ∧ nm x3 < 8 ∧ ∀ g8 : GI, g8 = up2 g1 26 (nm x3).toNat ((g1 (x1 + 1) (nm (x4 + 4)).toNat) - 48) → Zm w (d + 3) mX9_tellPeople 34 [some (aR (some (18))), some (aR (some (x1))), none, some (aI (x3 + 1)), none, none] [] g8 P)))) :
    Zm w (d + 3) mX9_tellPeople 143 [some (aR (some (18))), some (aR (some (x1))), none, some (aI (x3)), some (aI (x4)), none] [aI (y2), aI (y1), aR (some (25))] g P := by
  obtain ⟨q2, q3, h⟩ := h
  replace h := h _ rfl
  refine m_iast dX9_tellPeople_143 kv_25 q2 q3 ?_
  refine z_aload_n dX9_tellPeople_144 rfl rfl ?_
  refine m_getR dX9_tellPeople_145 fl_X9_34 (by decide) kt_18 rv_18_7 ?_
  refine z_iload_n dX9_tellPeople_148 rfl rfl ?_
  refine z_aload_n dX9_tellPeople_149 rfl rfl ?_
  refine m_getR dX9_tellPeople_150 fl_X9_65 (by decide) (congrArg Prod.fst hx1.1) hx1.2.1 ?_
  refine z_iload dX9_tellPeople_153 rfl ?_
  refine z_iconst dX9_tellPeople_155 ?_
  refine z_iadd dX9_tellPeople_156 ?_
  obtain ⟨q6, q7, h⟩ := h
  refine m_iald dX9_tellPeople_157 (kd_of hx1.2.2) q6 q7 ?_
  refine z_bipush dX9_tellPeople_158 rfl ?_
  refine z_isub dX9_tellPeople_160 ?_
  obtain ⟨q9, q10, h⟩ := h
  replace h := h _ rfl
  refine m_iast dX9_tellPeople_161 kv_26 q9 q10 ?_
  refine z_iinc dX9_tellPeople_162 rfl (by decide) rfl ?_
  show Zm w (d + 3) mX9_tellPeople 165 [some (aR (some (18))), some (aR (some (x1))), none, some (aI (x3 + 1)), some (aI (x4)), none] [] (up2 (up2 g 25 (nm y1).toNat y2) 26 (nm x3).toNat (((up2 g 25 (nm y1).toNat y2) (x1 + 1) (nm (x4 + 4)).toNat) - 48)) P
  refine z_goto (tgt := 34) dX9_tellPeople_165 (by decide) ?_
  exact z_weak (by simp [lle]) h
theorem dJ6_bitCount_0f7a4_0 : decode cJ6_bitCount_0f7a4 0 = .ok (.iload_n 0, 1) := by decide +kernel
theorem dJ6_bitCount_0f7a4_1 : decode cJ6_bitCount_0f7a4 1 = .ok (.iload_n 0, 1) := by decide +kernel
theorem dJ6_bitCount_0f7a4_2 : decode cJ6_bitCount_0f7a4 2 = .ok (.iconst 1, 1) := by decide +kernel
theorem dJ6_bitCount_0f7a4_3 : decode cJ6_bitCount_0f7a4 3 = .ok (.iushr, 1) := by decide +kernel
theorem dJ6_bitCount_0f7a4_4 : decode cJ6_bitCount_0f7a4 4 = .ok (.ldc_w 265, 3) := by decide +kernel
theorem dJ6_bitCount_0f7a4_7 : decode cJ6_bitCount_0f7a4 7 = .ok (.iand, 1) := by decide +kernel
theorem dJ6_bitCount_0f7a4_8 : decode cJ6_bitCount_0f7a4 8 = .ok (.isub, 1) := by decide +kernel
theorem dJ6_bitCount_0f7a4_9 : decode cJ6_bitCount_0f7a4 9 = .ok (.istore_n 0, 1) := by decide +kernel
theorem dJ6_bitCount_0f7a4_10 : decode cJ6_bitCount_0f7a4 10 = .ok (.iload_n 0, 1) := by decide +kernel
theorem dJ6_bitCount_0f7a4_11 : decode cJ6_bitCount_0f7a4 11 = .ok (.ldc_w 266, 3) := by decide +kernel
theorem dJ6_bitCount_0f7a4_14 : decode cJ6_bitCount_0f7a4 14 = .ok (.iand, 1) := by decide +kernel
theorem dJ6_bitCount_0f7a4_15 : decode cJ6_bitCount_0f7a4 15 = .ok (.iload_n 0, 1) := by decide +kernel
theorem dJ6_bitCount_0f7a4_16 : decode cJ6_bitCount_0f7a4 16 = .ok (.iconst 2, 1) := by decide +kernel
theorem dJ6_bitCount_0f7a4_17 : decode cJ6_bitCount_0f7a4 17 = .ok (.iushr, 1) := by decide +kernel
theorem dJ6_bitCount_0f7a4_18 : decode cJ6_bitCount_0f7a4 18 = .ok (.ldc_w 266, 3) := by decide +kernel
theorem dJ6_bitCount_0f7a4_21 : decode cJ6_bitCount_0f7a4 21 = .ok (.iand, 1) := by decide +kernel
theorem dJ6_bitCount_0f7a4_22 : decode cJ6_bitCount_0f7a4 22 = .ok (.iadd, 1) := by decide +kernel
theorem dJ6_bitCount_0f7a4_23 : decode cJ6_bitCount_0f7a4 23 = .ok (.istore_n 0, 1) := by decide +kernel
theorem dJ6_bitCount_0f7a4_24 : decode cJ6_bitCount_0f7a4 24 = .ok (.iload_n 0, 1) := by decide +kernel
theorem dJ6_bitCount_0f7a4_25 : decode cJ6_bitCount_0f7a4 25 = .ok (.iload_n 0, 1) := by decide +kernel
theorem dJ6_bitCount_0f7a4_26 : decode cJ6_bitCount_0f7a4 26 = .ok (.iconst 4, 1) := by decide +kernel
theorem dJ6_bitCount_0f7a4_27 : decode cJ6_bitCount_0f7a4 27 = .ok (.iushr, 1) := by decide +kernel
theorem dJ6_bitCount_0f7a4_28 : decode cJ6_bitCount_0f7a4 28 = .ok (.iadd, 1) := by decide +kernel
theorem dJ6_bitCount_0f7a4_29 : decode cJ6_bitCount_0f7a4 29 = .ok (.ldc_w 267, 3) := by decide +kernel
theorem dJ6_bitCount_0f7a4_32 : decode cJ6_bitCount_0f7a4 32 = .ok (.iand, 1) := by decide +kernel
theorem dJ6_bitCount_0f7a4_33 : decode cJ6_bitCount_0f7a4 33 = .ok (.istore_n 0, 1) := by decide +kernel
theorem dJ6_bitCount_0f7a4_34 : decode cJ6_bitCount_0f7a4 34 = .ok (.iload_n 0, 1) := by decide +kernel
theorem dJ6_bitCount_0f7a4_35 : decode cJ6_bitCount_0f7a4 35 = .ok (.iload_n 0, 1) := by decide +kernel
theorem dJ6_bitCount_0f7a4_36 : decode cJ6_bitCount_0f7a4 36 = .ok (.bipush 8, 2) := by decide +kernel
theorem dJ6_bitCount_0f7a4_38 : decode cJ6_bitCount_0f7a4 38 = .ok (.iushr, 1) := by decide +kernel
theorem dJ6_bitCount_0f7a4_39 : decode cJ6_bitCount_0f7a4 39 = .ok (.iadd, 1) := by decide +kernel
theorem dJ6_bitCount_0f7a4_40 : decode cJ6_bitCount_0f7a4 40 = .ok (.istore_n 0, 1) := by decide +kernel
theorem dJ6_bitCount_0f7a4_41 : decode cJ6_bitCount_0f7a4 41 = .ok (.iload_n 0, 1) := by decide +kernel
theorem dJ6_bitCount_0f7a4_42 : decode cJ6_bitCount_0f7a4 42 = .ok (.iload_n 0, 1) := by decide +kernel
theorem dJ6_bitCount_0f7a4_43 : decode cJ6_bitCount_0f7a4 43 = .ok (.bipush 16, 2) := by decide +kernel
theorem dJ6_bitCount_0f7a4_45 : decode cJ6_bitCount_0f7a4 45 = .ok (.iushr, 1) := by decide +kernel
theorem dJ6_bitCount_0f7a4_46 : decode cJ6_bitCount_0f7a4 46 = .ok (.iadd, 1) := by decide +kernel
theorem dJ6_bitCount_0f7a4_47 : decode cJ6_bitCount_0f7a4 47 = .ok (.istore_n 0, 1) := by decide +kernel
theorem dJ6_bitCount_0f7a4_48 : decode cJ6_bitCount_0f7a4 48 = .ok (.iload_n 0, 1) := by decide +kernel
theorem dJ6_bitCount_0f7a4_49 : decode cJ6_bitCount_0f7a4 49 = .ok (.bipush 63, 2) := by decide +kernel
theorem dJ6_bitCount_0f7a4_51 : decode cJ6_bitCount_0f7a4 51 = .ok (.iand, 1) := by decide +kernel
theorem dJ6_bitCount_0f7a4_52 : decode cJ6_bitCount_0f7a4 52 = .ok (.ireturn, 1) := by decide +kernel
set_option maxRecDepth 4000 in
theorem s_J6_bitCount_0f7a4_0 {w : GX} {d : Nat} {P : PN} {g : GI} (x0 : Int)
    (h : (∀ v1 : Int, v1 = x0 - (iAnd (iUshr x0 1) 1431655765) → (∀ v2 : Int, v2 = (iAnd v1 858993459) + (iAnd (iUshr v1 2) 858993459) → (∀ v3 : Int, v3 = iAnd (v2 + (iUshr v2 4)) 252645135 → (∀ v4 : Int, v4 = v3 + (iUshr v3 8) → (∀ v5 : Int, v5 = v4 + (iUshr v4 16) → P (some (aI (iAnd v5 63))) g)))))) :
    Zm w d mJ6_bitCount_0f7a4 0 [some (aI (x0))] [] g P := by
  refine z_iload_n dJ6_bitCount_0f7a4_0 rfl rfl ?_
  refine z_iload_n dJ6_bitCount_0f7a4_1 rfl rfl ?_
  refine z_iconst dJ6_bitCount_0f7a4_2 ?_
  refine z_iushr dJ6_bitCount_0f7a4_3 ?_
  refine z_ldcw dJ6_bitCount_0f7a4_4 kc_J6_265 ?_
  refine z_iand dJ6_bitCount_0f7a4_7 ?_
  refine z_isub dJ6_bitCount_0f7a4_8 ?_
  replace h := h _ rfl
  refine z_istore_n dJ6_bitCount_0f7a4_9 rfl (by decide) rfl ?_
  show Zm w d mJ6_bitCount_0f7a4 10 [some (aI (x0 - (iAnd (iUshr x0 1) 1431655765)))] [] g P
  refine z_iload_n dJ6_bitCount_0f7a4_10 rfl rfl ?_
  refine z_ldcw dJ6_bitCount_0f7a4_11 kc_J6_266 ?_
  refine z_iand dJ6_bitCount_0f7a4_14 ?_
  refine z_iload_n dJ6_bitCount_0f7a4_15 rfl rfl ?_
  refine z_iconst dJ6_bitCount_0f7a4_16 ?_
  refine z_iushr dJ6_bitCount_0f7a4_17 ?_
  refine z_ldcw dJ6_bitCount_0f7a4_18 kc_J6_266 ?_
  refine z_iand dJ6_bitCount_0f7a4_21 ?_
  refine z_iadd dJ6_bitCount_0f7a4_22 ?_
  replace h := h _ rfl
  refine z_istore_n dJ6_bitCount_0f7a4_23 rfl (by decide) rfl ?_
  show Zm w d mJ6_bitCount_0f7a4 24 [some (aI ((iAnd (x0 - (iAnd (iUshr x0 1) 1431655765)) 858993459) + (iAnd (iUshr (x0 - (iAnd (iUshr x0 1) 1431655765)) 2) 858993459)))] [] g P
  refine z_iload_n dJ6_bitCount_0f7a4_24 rfl rfl ?_
  refine z_iload_n dJ6_bitCount_0f7a4_25 rfl rfl ?_
  refine z_iconst dJ6_bitCount_0f7a4_26 ?_
  refine z_iushr dJ6_bitCount_0f7a4_27 ?_
  refine z_iadd dJ6_bitCount_0f7a4_28 ?_
  refine z_ldcw dJ6_bitCount_0f7a4_29 kc_J6_267 ?_
  refine z_iand dJ6_bitCount_0f7a4_32 ?_
  replace h := h _ rfl
  refine z_istore_n dJ6_bitCount_0f7a4_33 rfl (by decide) rfl ?_
  show Zm w d mJ6_bitCount_0f7a4 34 [some (aI (iAnd (((iAnd (x0 - (iAnd (iUshr x0 1) 1431655765)) 858993459) + (iAnd (iUshr (x0 - (iAnd (iUshr x0 1) 1431655765)) 2) 858993459)) + (iUshr ((iAnd (x0 - (iAnd (iUshr x0 1) 1431655765)) 858993459) + (iAnd (iUshr (x0 - (iAnd (iUshr x0 1) 1431655765)) 2) 858993459)) 4)) 252645135))] [] g P
  refine z_iload_n dJ6_bitCount_0f7a4_34 rfl rfl ?_
  refine z_iload_n dJ6_bitCount_0f7a4_35 rfl rfl ?_
  refine z_bipush dJ6_bitCount_0f7a4_36 rfl ?_
  refine z_iushr dJ6_bitCount_0f7a4_38 ?_
  refine z_iadd dJ6_bitCount_0f7a4_39 ?_
  replace h := h _ rfl
  refine z_istore_n dJ6_bitCount_0f7a4_40 rfl (by decide) rfl ?_
  show Zm w d mJ6_bitCount_0f7a4 41 [some (aI ((iAnd (((iAnd (x0 - (iAnd (iUshr x0 1) 1431655765)) 858993459) + (iAnd (iUshr (x0 - (iAnd (iUshr x0 1) 1431655765)) 2) 858993459)) + (iUshr ((iAnd (x0 - (iAnd (iUshr x0 1) 1431655765)) 858993459) + (iAnd (iUshr (x0 - (iAnd (iUshr x0 1) 1431655765)) 2) 858993459)) 4)) 252645135) + (iUshr (iAnd (((iAnd (x0 - (iAnd (iUshr x0 1) 1431655765)) 858993459) + (iAnd (iUshr (x0 - (iAnd (iUshr x0 1) 1431655765)) 2) 858993459)) + (iUshr ((iAnd (x0 - (iAnd (iUshr x0 1) 1431655765)) 858993459) + (iAnd (iUshr (x0 - (iAnd (iUshr x0 1) 1431655765)) 2) 858993459)) 4)) 252645135) 8)))] [] g P
  refine z_iload_n dJ6_bitCount_0f7a4_41 rfl rfl ?_
  refine z_iload_n dJ6_bitCount_0f7a4_42 rfl rfl ?_
  refine z_bipush dJ6_bitCount_0f7a4_43 rfl ?_
  refine z_iushr dJ6_bitCount_0f7a4_45 ?_
  refine z_iadd dJ6_bitCount_0f7a4_46 ?_
  replace h := h _ rfl
  refine z_istore_n dJ6_bitCount_0f7a4_47 rfl (by decide) rfl ?_
  show Zm w d mJ6_bitCount_0f7a4 48 [some (aI (((iAnd (((iAnd (x0 - (iAnd (iUshr x0 1) 1431655765)) 858993459) + (iAnd (iUshr (x0 - (iAnd (iUshr x0 1) 1431655765)) 2) 858993459)) + (iUshr ((iAnd (x0 - (iAnd (iUshr x0 1) 1431655765)) 858993459) + (iAnd (iUshr (x0 - (iAnd (iUshr x0 1) 1431655765)) 2) 858993459)) 4)) 252645135) + (iUshr (iAnd (((iAnd (x0 - (iAnd (iUshr x0 1) 1431655765)) 858993459) + (iAnd (iUshr (x0 - (iAnd (iUshr x0 1) 1431655765)) 2) 858993459)) + (iUshr ((iAnd (x0 - (iAnd (iUshr x0 1) 1431655765)) 858993459) + (iAnd (iUshr (x0 - (iAnd (iUshr x0 1) 1431655765)) 2) 858993459)) 4)) 252645135) 8)) + (iUshr ((iAnd (((iAnd (x0 - (iAnd (iUshr x0 1) 1431655765)) 858993459) + (iAnd (iUshr (x0 - (iAnd (iUshr x0 1) 1431655765)) 2) 858993459)) + (iUshr ((iAnd (x0 - (iAnd (iUshr x0 1) 1431655765)) 858993459) + (iAnd (iUshr (x0 - (iAnd (iUshr x0 1) 1431655765)) 2) 858993459)) 4)) 252645135) + (iUshr (iAnd (((iAnd (x0 - (iAnd (iUshr x0 1) 1431655765)) 858993459) + (iAnd (iUshr (x0 - (iAnd (iUshr x0 1) 1431655765)) 2) 858993459)) + (iUshr ((iAnd (x0 - (iAnd (iUshr x0 1) 1431655765)) 858993459) + (iAnd (iUshr (x0 - (iAnd (iUshr x0 1) 1431655765)) 2) 858993459)) 4)) 252645135) 8)) 16)))] [] g P
  refine z_iload_n dJ6_bitCount_0f7a4_48 rfl rfl ?_
  refine z_bipush dJ6_bitCount_0f7a4_49 rfl ?_
  refine z_iand dJ6_bitCount_0f7a4_51 ?_
  exact m_iret dJ6_bitCount_0f7a4_52 rfl h
theorem dJ7_fill_53178_0 : decode cJ7_fill_53178 0 = .ok (.iconst 0, 1) := by decide +kernel
theorem dJ7_fill_53178_1 : decode cJ7_fill_53178 1 = .ok (.istore_n 2, 1) := by decide +kernel
theorem dJ7_fill_53178_2 : decode cJ7_fill_53178 2 = .ok (.aload_n 0, 1) := by decide +kernel
theorem dJ7_fill_53178_3 : decode cJ7_fill_53178 3 = .ok (.arraylength, 1) := by decide +kernel
theorem dJ7_fill_53178_4 : decode cJ7_fill_53178 4 = .ok (.istore_n 3, 1) := by decide +kernel
theorem dJ7_fill_53178_5 : decode cJ7_fill_53178 5 = .ok (.iload_n 2, 1) := by decide +kernel
theorem dJ7_fill_53178_6 : decode cJ7_fill_53178 6 = .ok (.iload_n 3, 1) := by decide +kernel
theorem dJ7_fill_53178_7 : decode cJ7_fill_53178 7 = .ok (.if_icmp .ge 13, 3) := by decide +kernel
theorem dJ7_fill_53178_10 : decode cJ7_fill_53178 10 = .ok (.aload_n 0, 1) := by decide +kernel
theorem dJ7_fill_53178_11 : decode cJ7_fill_53178 11 = .ok (.iload_n 2, 1) := by decide +kernel
theorem dJ7_fill_53178_12 : decode cJ7_fill_53178 12 = .ok (.iload_n 1, 1) := by decide +kernel
theorem dJ7_fill_53178_13 : decode cJ7_fill_53178 13 = .ok (.iastore, 1) := by decide +kernel
theorem dJ7_fill_53178_14 : decode cJ7_fill_53178 14 = .ok (.iinc 2 1, 3) := by decide +kernel
theorem dJ7_fill_53178_17 : decode cJ7_fill_53178 17 = .ok (.goto (-12), 3) := by decide +kernel
theorem dJ7_fill_53178_20 : decode cJ7_fill_53178 20 = .ok (.return_, 1) := by decide +kernel
set_option maxRecDepth 4000 in
theorem s_J7_fill_53178_0 {w : GX} {d : Nat} {P : PN} {g : GI} {x0 lx0 : Nat} (hx0 : kd0 x0 = (12, lx0)) (x1 : Int)
    (h : (∀ v1 : Int, v1 = ((lx0 : Nat) : Int) → Zm w d mJ7_fill_53178 5 [some (aR (some (x0))), some (aI (x1)), some (aI (0)), some (aI (v1))] [] g P)) :
    Zm w d mJ7_fill_53178 0 [some (aR (some (x0))), some (aI (x1)), none, none] [] g P := by
  refine z_iconst dJ7_fill_53178_0 ?_
  refine z_istore_n dJ7_fill_53178_1 rfl (by decide) rfl ?_
  show Zm w d mJ7_fill_53178 2 [some (aR (some (x0))), some (aI (x1)), some (aI (0)), none] [] g P
  refine z_aload_n dJ7_fill_53178_2 rfl rfl ?_
  refine m_alen dJ7_fill_53178_3 hx0 ?_
  replace h := h _ rfl
  refine z_istore_n dJ7_fill_53178_4 rfl (by decide) rfl ?_
  show Zm w d mJ7_fill_53178 5 [some (aR (some (x0))), some (aI (x1)), some (aI (0)), some (aI (((lx0 : Nat) : Int)))] [] g P
  exact z_weak (by simp [lle]) h
set_option maxRecDepth 4000 in
theorem s_J7_fill_53178_5 {w : GX} {d : Nat} {P : PN} {g : GI} {x0 lx0 : Nat} (hx0 : kd0 x0 = (12, lx0)) (x1 : Int) (x2 : Int) (x3 : Int)
    (h : ((¬ nm x2 < nm x3 → P none g) ∧ (nm x2 < nm x3 → (0 ≤ nm x2 ∧ nm x2 < ((lx0 : Nat) : Int) ∧ ∀ g2 : GI, g2 = up2 g x0 (nm x2).toNat x1 → Zm w d mJ7_fill_53178 5 [some (aR (some (x0))), some (aI (x1)), some (aI (x2 + 1)), some (aI (x3))] [] g2 P)))) :
    Zm w d mJ7_fill_53178 5 [some (aR (some (x0))), some (aI (x1)), some (aI (x2)), some (aI (x3))] [] g P := by
  refine z_iload_n dJ7_fill_53178_5 rfl rfl ?_
  refine z_iload_n dJ7_fill_53178_6 rfl rfl ?_
  refine z_icmp_ge (tgt := 20) dJ7_fill_53178_7 (by decide) (fun c1 => ?_) (fun c1 => ?_)
  · replace h := h.1 c1
    exact m_vret dJ7_fill_53178_20 rfl h
  · replace h := h.2 (Decidable.not_not.mp c1)
    refine z_aload_n dJ7_fill_53178_10 rfl rfl ?_
    refine z_iload_n dJ7_fill_53178_11 rfl rfl ?_
    refine z_iload_n dJ7_fill_53178_12 rfl rfl ?_
    obtain ⟨q3, q4, h⟩ := h
    replace h := h _ rfl
    refine m_iast dJ7_fill_53178_13 hx0 q3 q4 ?_
    refine z_iinc dJ7_fill_53178_14 rfl (by decide) rfl ?_
    show Zm w d mJ7_fill_53178 17 [some (aR (some (x0))), some (aI (x1)), some (aI (x2 + 1)), some (aI (x3))] [] (up2 g x0 (nm x2).toNat x1) P
    refine z_goto (tgt := 5) dJ7_fill_53178_17 (by decide) ?_
    exact z_weak (by simp [lle]) h
