theorem dX11_ones_0 : decode cX11_ones 0 = .ok (.iconst 0, 1) := by decide +kernel
theorem dX11_ones_1 : decode cX11_ones 1 = .ok (.istore_n 1, 1) := by decide +kernel
theorem dX11_ones_2 : decode cX11_ones 2 = .ok (.iload_n 0, 1) := by decide +kernel
theorem dX11_ones_3 : decode cX11_ones 3 = .ok (.istore_n 2, 1) := by decide +kernel
theorem dX11_ones_4 : decode cX11_ones 4 = .ok (.iload_n 2, 1) := by decide +kernel
theorem dX11_ones_5 : decode cX11_ones 5 = .ok (.ifCond .eq 15, 3) := by decide +kernel
theorem dX11_ones_8 : decode cX11_ones 8 = .ok (.iinc 1 1, 3) := by decide +kernel
theorem dX11_ones_11 : decode cX11_ones 11 = .ok (.iload_n 2, 1) := by decide +kernel
theorem dX11_ones_12 : decode cX11_ones 12 = .ok (.iload_n 2, 1) := by decide +kernel
theorem dX11_ones_13 : decode cX11_ones 13 = .ok (.iconst 1, 1) := by decide +kernel
theorem dX11_ones_14 : decode cX11_ones 14 = .ok (.isub, 1) := by decide +kernel
theorem dX11_ones_15 : decode cX11_ones 15 = .ok (.iand, 1) := by decide +kernel
theorem dX11_ones_16 : decode cX11_ones 16 = .ok (.istore_n 2, 1) := by decide +kernel
theorem dX11_ones_17 : decode cX11_ones 17 = .ok (.goto (-13), 3) := by decide +kernel
theorem dX11_ones_20 : decode cX11_ones 20 = .ok (.iload_n 1, 1) := by decide +kernel
theorem dX11_ones_21 : decode cX11_ones 21 = .ok (.ireturn, 1) := by decide +kernel
set_option maxRecDepth 4000 in
theorem s_X11_ones_0 {w : GX} {d : Nat} {P : PN} {g : GI} (x0 : Int)
    (h : Zm w d mX11_ones 4 [none, some (aI (0)), some (aI (x0))] [] g P) :
    Zm w d mX11_ones 0 [some (aI (x0)), none, none] [] g P := by
  refine z_iconst dX11_ones_0 ?_
  refine z_istore_n dX11_ones_1 rfl (by decide) rfl ?_
  show Zm w d mX11_ones 2 [some (aI (x0)), some (aI (0)), none] [] g P
  refine z_iload_n dX11_ones_2 rfl rfl ?_
  refine z_istore_n dX11_ones_3 rfl (by decide) rfl ?_
  show Zm w d mX11_ones 4 [some (aI (x0)), some (aI (0)), some (aI (x0))] [] g P
  exact z_weak (by simp [lle]) h
set_option maxRecDepth 4000 in
theorem s_X11_ones_4 {w : GX} {d : Nat} {P : PN} {g : GI} (x1 : Int) (x2 : Int)
    (h : ((nm x2 = 0 → P (some (aI (x1))) g) ∧ (¬ nm x2 = 0 → (∀ v2 : Int, v2 = iAnd x2 (x2 - 1) → Zm w d mX11_ones 4 [none, some (aI (x1 + 1)), some (aI (v2))] [] g P)))) :
    Zm w d mX11_ones 4 [none, some (aI (x1)), some (aI (x2))] [] g P := by
  refine z_iload_n dX11_ones_4 rfl rfl ?_
  refine z_if_eq (tgt := 20) dX11_ones_5 (by decide) (fun c1 => ?_) (fun c1 => ?_)
  · replace h := h.1 c1
    refine z_iload_n dX11_ones_20 rfl rfl ?_
    exact m_iret dX11_ones_21 rfl h
  · replace h := h.2 c1
    refine z_iinc dX11_ones_8 rfl (by decide) rfl ?_
    show Zm w d mX11_ones 11 [none, some (aI (x1 + 1)), some (aI (x2))] [] g P
    refine z_iload_n dX11_ones_11 rfl rfl ?_
    refine z_iload_n dX11_ones_12 rfl rfl ?_
    refine z_iconst dX11_ones_13 ?_
    refine z_isub dX11_ones_14 ?_
    refine z_iand dX11_ones_15 ?_
    replace h := h _ rfl
    refine z_istore_n dX11_ones_16 rfl (by decide) rfl ?_
    show Zm w d mX11_ones 17 [none, some (aI (x1 + 1)), some (aI (iAnd x2 (x2 - 1)))] [] g P
    refine z_goto (tgt := 4) dX11_ones_17 (by decide) ?_
    exact z_weak (by simp [lle]) h
theorem dX11_part_0 : decode cX11_part 0 = .ok (.lload_n 0, 1) := by decide +kernel
theorem dX11_part_1 : decode cX11_part 1 = .ok (.lstore 5, 2) := by decide +kernel
theorem dX11_part_3 : decode cX11_part 3 = .ok (.lload_n 2, 1) := by decide +kernel
theorem dX11_part_4 : decode cX11_part 4 = .ok (.lstore 7, 2) := by decide +kernel
theorem dX11_part_6 : decode cX11_part 6 = .ok (.lload 7, 2) := by decide +kernel
theorem dX11_part_8 : decode cX11_part 8 = .ok (.lconst 0, 1) := by decide +kernel
theorem dX11_part_9 : decode cX11_part 9 = .ok (.lcmp, 1) := by decide +kernel
theorem dX11_part_10 : decode cX11_part 10 = .ok (.ifCond .eq 21, 3) := by decide +kernel
theorem dX11_part_13 : decode cX11_part 13 = .ok (.lload 5, 2) := by decide +kernel
theorem dX11_part_15 : decode cX11_part 15 = .ok (.lload 7, 2) := by decide +kernel
theorem dX11_part_17 : decode cX11_part 17 = .ok (.lrem, 1) := by decide +kernel
theorem dX11_part_18 : decode cX11_part 18 = .ok (.lstore 9, 2) := by decide +kernel
theorem dX11_part_20 : decode cX11_part 20 = .ok (.lload 7, 2) := by decide +kernel
theorem dX11_part_22 : decode cX11_part 22 = .ok (.lstore 5, 2) := by decide +kernel
theorem dX11_part_24 : decode cX11_part 24 = .ok (.lload 9, 2) := by decide +kernel
theorem dX11_part_26 : decode cX11_part 26 = .ok (.lstore 7, 2) := by decide +kernel
theorem dX11_part_28 : decode cX11_part 28 = .ok (.goto (-22), 3) := by decide +kernel
theorem dX11_part_31 : decode cX11_part 31 = .ok (.iload 4, 2) := by decide +kernel
theorem dX11_part_33 : decode cX11_part 33 = .ok (.ifCond .ne 7, 3) := by decide +kernel
theorem dX11_part_36 : decode cX11_part 36 = .ok (.lload_n 0, 1) := by decide +kernel
theorem dX11_part_37 : decode cX11_part 37 = .ok (.goto 4, 3) := by decide +kernel
theorem dX11_part_40 : decode cX11_part 40 = .ok (.lload_n 2, 1) := by decide +kernel
theorem dX11_part_41 : decode cX11_part 41 = .ok (.lload 5, 2) := by decide +kernel
theorem dX11_part_43 : decode cX11_part 43 = .ok (.ldiv, 1) := by decide +kernel
theorem dX11_part_44 : decode cX11_part 44 = .ok (.lreturn, 1) := by decide +kernel
set_option maxRecDepth 4000 in
theorem s_X11_part_0 {w : GX} {d : Nat} {P : PN} {g : GI} (x0 : Int) (x2 : Int) (x4 : Int)
    (h : Zm w d mX11_part 6 [some (aL (x0)), none, some (aL (x2)), none, some (aI (x4)), some (aL (x0)), none, some (aL (x2)), none, none, none] [] g P) :
    Zm w d mX11_part 0 [some (aL (x0)), none, some (aL (x2)), none, some (aI (x4)), none, none, none, none, none, none] [] g P := by
  refine z_lload_n dX11_part_0 rfl rfl ?_
  refine z_lstore dX11_part_1 (by decide) rfl ?_
  show Zm w d mX11_part 3 [some (aL (x0)), none, some (aL (x2)), none, some (aI (x4)), some (aL (x0)), none, none, none, none, none] [] g P
  refine z_lload_n dX11_part_3 rfl rfl ?_
  refine z_lstore dX11_part_4 (by decide) rfl ?_
  show Zm w d mX11_part 6 [some (aL (x0)), none, some (aL (x2)), none, some (aI (x4)), some (aL (x0)), none, some (aL (x2)), none, none, none] [] g P
  exact z_weak (by simp [lle]) h
set_option maxRecDepth 4000 in
theorem s_X11_part_6 {w : GX} {d : Nat} {P : PN} {g : GI} (x0 : Int) (x2 : Int) (x4 : Int) (x5 : Int) (x7 : Int)
    (h : ((nm (lCmp x7 0) = 0 → ((¬ nm x4 = 0 → (¬ nml x5 = 0 ∧ P (some (aL (lDiv x2 x5))) g)) ∧ (nm x4 = 0 → (¬ nml x5 = 0 ∧ P (some (aL (lDiv x0 x5))) g)))) ∧ (¬ nm (lCmp x7 0) = 0 → (¬ nml x7 = 0 ∧ (∀ v6 : Int, v6 = lRem x5 x7 → Zm w d mX11_part 6 [some (aL (x0)), none, some (aL (x2)), none, some (aI (x4)), some (aL (x7)), none, some (aL (v6)), none, none, none] [] g P))))) :
    Zm w d mX11_part 6 [some (aL (x0)), none, some (aL (x2)), none, some (aI (x4)), some (aL (x5)), none, some (aL (x7)), none, none, none] [] g P := by
  refine z_lload dX11_part_6 rfl ?_
  refine z_lconst (z := 0) dX11_part_8 rfl ?_
  refine z_lcmp dX11_part_9 ?_
  refine z_if_eq (tgt := 31) dX11_part_10 (by decide) (fun c1 => ?_) (fun c1 => ?_)
  · replace h := h.1 c1
    refine z_iload dX11_part_31 rfl ?_
    refine z_if_ne (tgt := 40) dX11_part_33 (by decide) (fun c2 => ?_) (fun c2 => ?_)
    · replace h := h.1 c2
      refine z_lload_n dX11_part_40 rfl rfl ?_
      refine z_lload dX11_part_41 rfl ?_
      obtain ⟨q3, h⟩ := h
      refine z_ldiv dX11_part_43 q3 ?_
      exact m_lret dX11_part_44 rfl h
    · replace h := h.2 (Decidable.not_not.mp c2)
      refine z_lload_n dX11_part_36 rfl rfl ?_
      refine z_goto (tgt := 41) dX11_part_37 (by decide) ?_
      refine z_lload dX11_part_41 rfl ?_
      obtain ⟨q4, h⟩ := h
      refine z_ldiv dX11_part_43 q4 ?_
      exact m_lret dX11_part_44 rfl h
  · replace h := h.2 c1
    refine z_lload dX11_part_13 rfl ?_
    refine z_lload dX11_part_15 rfl ?_
    obtain ⟨q5, h⟩ := h
    refine z_lrem dX11_part_17 q5 ?_
    replace h := h _ rfl
    refine z_lstore dX11_part_18 (by decide) rfl ?_
    show Zm w d mX11_part 20 [some (aL (x0)), none, some (aL (x2)), none, some (aI (x4)), some (aL (x5)), none, some (aL (x7)), none, some (aL (lRem x5 x7)), none] [] g P
    refine z_lload dX11_part_20 rfl ?_
    refine z_lstore dX11_part_22 (by decide) rfl ?_
    show Zm w d mX11_part 24 [some (aL (x0)), none, some (aL (x2)), none, some (aI (x4)), some (aL (x7)), none, some (aL (x7)), none, some (aL ((lRem x5 x7))), none] [] g P
    refine z_lload dX11_part_24 rfl ?_
    refine z_lstore dX11_part_26 (by decide) rfl ?_
    show Zm w d mX11_part 28 [some (aL (x0)), none, some (aL (x2)), none, some (aI (x4)), some (aL (x7)), none, some (aL ((lRem x5 x7))), none, some (aL ((lRem x5 x7))), none] [] g P
    refine z_goto (tgt := 6) dX11_part_28 (by decide) ?_
    exact z_weak (by simp [lle]) h
theorem dX11_sheet_0 : decode cX11_sheet 0 = .ok (.iload_n 1, 1) := by decide +kernel
theorem dX11_sheet_1 : decode cX11_sheet 1 = .ok (.invokestatic 97, 3) := by decide +kernel
theorem dX11_sheet_4 : decode cX11_sheet 4 = .ok (.ifCond .eq 21, 3) := by decide +kernel
theorem dX11_sheet_7 : decode cX11_sheet 7 = .ok (.iload_n 2, 1) := by decide +kernel
theorem dX11_sheet_8 : decode cX11_sheet 8 = .ok (.i2l, 1) := by decide +kernel
theorem dX11_sheet_9 : decode cX11_sheet 9 = .ok (.lconst 0, 1) := by decide +kernel
theorem dX11_sheet_10 : decode cX11_sheet 10 = .ok (.ldc2_w 101, 3) := by decide +kernel
theorem dX11_sheet_13 : decode cX11_sheet 13 = .ok (.invokestatic 88, 3) := by decide +kernel
theorem dX11_sheet_16 : decode cX11_sheet 16 = .ok (.ifCond .eq 9, 3) := by decide +kernel
theorem dX11_sheet_19 : decode cX11_sheet 19 = .ok (.iload_n 3, 1) := by decide +kernel
theorem dX11_sheet_20 : decode cX11_sheet 20 = .ok (.bipush 60, 2) := by decide +kernel
theorem dX11_sheet_22 : decode cX11_sheet 22 = .ok (.if_icmp .le 6, 3) := by decide +kernel
theorem dX11_sheet_25 : decode cX11_sheet 25 = .ok (.bipush (-2), 2) := by decide +kernel
theorem dX11_sheet_27 : decode cX11_sheet 27 = .ok (.ireturn, 1) := by decide +kernel
theorem dX11_sheet_28 : decode cX11_sheet 28 = .ok (.iload_n 3, 1) := by decide +kernel
theorem dX11_sheet_29 : decode cX11_sheet 29 = .ok (.ifCond .ge 9, 3) := by decide +kernel
theorem dX11_sheet_32 : decode cX11_sheet 32 = .ok (.aload_n 0, 1) := by decide +kernel
theorem dX11_sheet_33 : decode cX11_sheet 33 = .ok (.iconst 5, 1) := by decide +kernel
theorem dX11_sheet_34 : decode cX11_sheet 34 = .ok (.invokevirtual 103, 3) := by decide +kernel
theorem dX11_sheet_37 : decode cX11_sheet 37 = .ok (.ireturn, 1) := by decide +kernel
theorem dX11_sheet_38 : decode cX11_sheet 38 = .ok (.aload_n 0, 1) := by decide +kernel
theorem dX11_sheet_39 : decode cX11_sheet 39 = .ok (.getfield 7, 3) := by decide +kernel
theorem dX11_sheet_42 : decode cX11_sheet 42 = .ok (.iload_n 1, 1) := by decide +kernel
theorem dX11_sheet_43 : decode cX11_sheet 43 = .ok (.iload_n 2, 1) := by decide +kernel
theorem dX11_sheet_44 : decode cX11_sheet 44 = .ok (.iastore, 1) := by decide +kernel
theorem dX11_sheet_45 : decode cX11_sheet 45 = .ok (.aload_n 0, 1) := by decide +kernel
theorem dX11_sheet_46 : decode cX11_sheet 46 = .ok (.getfield 13, 3) := by decide +kernel
theorem dX11_sheet_49 : decode cX11_sheet 49 = .ok (.iload_n 1, 1) := by decide +kernel
theorem dX11_sheet_50 : decode cX11_sheet 50 = .ok (.iload_n 3, 1) := by decide +kernel
theorem dX11_sheet_51 : decode cX11_sheet 51 = .ok (.iastore, 1) := by decide +kernel
theorem dX11_sheet_52 : decode cX11_sheet 52 = .ok (.iconst 0, 1) := by decide +kernel
theorem dX11_sheet_53 : decode cX11_sheet 53 = .ok (.istore 4, 2) := by decide +kernel
theorem dX11_sheet_55 : decode cX11_sheet 55 = .ok (.iload 4, 2) := by decide +kernel
theorem dX11_sheet_57 : decode cX11_sheet 57 = .ok (.iload_n 3, 1) := by decide +kernel
theorem dX11_sheet_58 : decode cX11_sheet 58 = .ok (.if_icmp .ge 22, 3) := by decide +kernel
theorem dX11_sheet_61 : decode cX11_sheet 61 = .ok (.aload_n 0, 1) := by decide +kernel
theorem dX11_sheet_62 : decode cX11_sheet 62 = .ok (.getfield 16, 3) := by decide +kernel
theorem dX11_sheet_65 : decode cX11_sheet 65 = .ok (.bipush 60, 2) := by decide +kernel
theorem dX11_sheet_67 : decode cX11_sheet 67 = .ok (.iload_n 1, 1) := by decide +kernel
theorem dX11_sheet_68 : decode cX11_sheet 68 = .ok (.imul, 1) := by decide +kernel
theorem dX11_sheet_69 : decode cX11_sheet 69 = .ok (.iload 4, 2) := by decide +kernel
theorem dX11_sheet_71 : decode cX11_sheet 71 = .ok (.iadd, 1) := by decide +kernel
theorem dX11_sheet_72 : decode cX11_sheet 72 = .ok (.iconst 0, 1) := by decide +kernel
theorem dX11_sheet_73 : decode cX11_sheet 73 = .ok (.iastore, 1) := by decide +kernel
theorem dX11_sheet_74 : decode cX11_sheet 74 = .ok (.iinc 4 1, 3) := by decide +kernel
theorem dX11_sheet_77 : decode cX11_sheet 77 = .ok (.goto (-22), 3) := by decide +kernel
theorem dX11_sheet_80 : decode cX11_sheet 80 = .ok (.iload_n 3, 1) := by decide +kernel
theorem dX11_sheet_81 : decode cX11_sheet 81 = .ok (.ireturn, 1) := by decide +kernel
set_option maxRecDepth 4000 in
theorem s_X11_sheet_0 {w : GX} {d : Nat} {P : PN} {g : GI} (x1 : Int) (x2 : Int) (x3 : Int)
    (h : (((nm (inn (x1) 0 3) = 0 → P (some (aI ((-2)))) g) ∧ (¬ nm (inn (x1) 0 3) = 0 → (((nm (lin (nm x2) (0) (2)) = 0 → P (some (aI ((-2)))) g) ∧ (¬ nm (lin (nm x2) (0) (2)) = 0 → ((¬ nm 60 < nm x3 → ((¬ nm x3 < 0 → (0 ≤ nm x1 ∧ nm x1 < 4 ∧ ∀ g5 : GI, g5 = up2 g 229 (nm x1).toNat x2 → (∀ g8 : GI, g8 = up2 g5 230 (nm x1).toNat x3 → Zm w (d + 2) mX11_sheet 55 [some (aR (some (228))), some (aI (x1)), none, some (aI (x3)), some (aI (0))] [] g8 P))) ∧ (nm x3 < 0 → (∀ g9 : GI, g9 = up2 g 228 4 (5) → P (some (aI ((-10) - (5)))) g9)))) ∧ (nm 60 < nm x3 → P (some (aI ((-2)))) g))))))))) :
    Zm w (d + 2) mX11_sheet 0 [some (aR (some (228))), some (aI (x1)), some (aI (x2)), some (aI (x3)), none] [] g P := by
  refine z_iload_n dX11_sheet_0 rfl rfl ?_
  refine m_callS (as := [aI (x1)]) dX11_sheet_1 lk_X11_97 mok_X11_isSheet st_X11_isSheet rfl (Nat.le_of_ble_eq_true rfl) rfl (Nat.le_of_ble_eq_true rfl) rfl (c_X11_isSheet  ?_)
  show Zm w (d + 2) mX11_sheet 4 [some (aR (some (228))), some (aI (x1)), some (aI (x2)), some (aI (x3)), none] [aI (inn (x1) 0 3)] g P
  refine z_if_eq (tgt := 25) dX11_sheet_4 (by decide) (fun c1 => ?_) (fun c1 => ?_)
  · replace h := h.1 c1
    refine z_bipush dX11_sheet_25 rfl ?_
    exact m_iret dX11_sheet_27 rfl h
  · replace h := h.2 c1
    refine z_iload_n dX11_sheet_7 rfl rfl ?_
    refine z_i2l dX11_sheet_8 ?_
    refine z_lconst (z := 0) dX11_sheet_9 rfl ?_
    refine z_ldc2 dX11_sheet_10 kl_X11_101 ?_
    refine m_callS (as := [aL (nm x2), aL (0), aL (2)]) dX11_sheet_13 lk_X11_88 mok_X11_in st_X11_in rfl (Nat.le_of_ble_eq_true rfl) rfl (Nat.le_of_ble_eq_true rfl) rfl (c_X11_in  ?_)
    show Zm w (d + 2) mX11_sheet 16 [some (aR (some (228))), some (aI (x1)), some (aI (x2)), some (aI (x3)), none] [aI (lin (nm x2) (0) (2))] g P
    refine z_if_eq (tgt := 25) dX11_sheet_16 (by decide) (fun c2 => ?_) (fun c2 => ?_)
    · replace h := h.1 c2
      refine z_bipush dX11_sheet_25 rfl ?_
      exact m_iret dX11_sheet_27 rfl h
    · replace h := h.2 c2
      refine z_iload_n dX11_sheet_19 rfl rfl ?_
      refine z_bipush dX11_sheet_20 rfl ?_
      refine z_icmp_le (tgt := 28) dX11_sheet_22 (by decide) (fun c3 => ?_) (fun c3 => ?_)
      · replace h := h.1 c3
        refine z_iload_n dX11_sheet_28 rfl rfl ?_
        refine z_if_ge (tgt := 38) dX11_sheet_29 (by decide) (fun c4 => ?_) (fun c4 => ?_)
        · replace h := h.1 c4
          refine z_aload_n dX11_sheet_38 rfl rfl ?_
          refine m_getR dX11_sheet_39 fl_X11_7 (by decide) kt_228 rv_228_0 ?_
          refine z_iload_n dX11_sheet_42 rfl rfl ?_
          refine z_iload_n dX11_sheet_43 rfl rfl ?_
          obtain ⟨q6, q7, h⟩ := h
          replace h := h _ rfl
          refine m_iast dX11_sheet_44 kv_229 q6 q7 ?_
          refine z_aload_n dX11_sheet_45 rfl rfl ?_
          refine m_getR dX11_sheet_46 fl_X11_13 (by decide) kt_228 rv_228_1 ?_
          refine z_iload_n dX11_sheet_49 rfl rfl ?_
          refine z_iload_n dX11_sheet_50 rfl rfl ?_
          replace h := h _ rfl
          refine m_iast dX11_sheet_51 kv_230 q6 q7 ?_
          refine z_iconst dX11_sheet_52 ?_
          refine z_istore dX11_sheet_53 (by decide) rfl ?_
          show Zm w (d + 2) mX11_sheet 55 [some (aR (some (228))), some (aI (x1)), some (aI (x2)), some (aI (x3)), some (aI (0))] [] (up2 (up2 g 229 (nm x1).toNat x2) 230 (nm x1).toNat x3) P
          exact z_weak (by simp [lle]) h
        · replace h := h.2 (Decidable.not_not.mp c4)
          refine z_aload_n dX11_sheet_32 rfl rfl ?_
          refine z_iconst dX11_sheet_33 ?_
          refine m_callV (as := [aI (5)]) dX11_sheet_34 lk_X11_103 mok_X11_finds in_X11_finds sl_X11_finds kt_228 rfl rfl rfl (Nat.le_of_ble_eq_true rfl) rfl (Nat.le_of_ble_eq_true rfl) rfl (c_X11_finds  ?_)
          replace h := h _ rfl
          show Zm w (d + 2) mX11_sheet 37 [some (aR (some (228))), some (aI (x1)), some (aI (x2)), some (aI (x3)), none] [aI ((-10) - (5))] (up2 g 228 4 (5)) P
          exact m_iret dX11_sheet_37 rfl h
      · replace h := h.2 (Decidable.not_not.mp c3)
        refine z_bipush dX11_sheet_25 rfl ?_
        exact m_iret dX11_sheet_27 rfl h
set_option maxRecDepth 4000 in
theorem s_X11_sheet_55 {w : GX} {d : Nat} {P : PN} {g : GI} (x1 : Int) (x3 : Int) (x4 : Int)
    (h : ((¬ nm x4 < nm x3 → P (some (aI (x3))) g) ∧ (nm x4 < nm x3 → (0 ≤ nm ((60 * x1) + x4) ∧ nm ((60 * x1) + x4) < 240 ∧ ∀ g2 : GI, g2 = up2 g 231 (nm ((60 * x1) + x4)).toNat 0 → Zm w (d + 2) mX11_sheet 55 [some (aR (some (228))), some (aI (x1)), none, some (aI (x3)), some (aI (x4 + 1))] [] g2 P)))) :
    Zm w (d + 2) mX11_sheet 55 [some (aR (some (228))), some (aI (x1)), none, some (aI (x3)), some (aI (x4))] [] g P := by
  refine z_iload dX11_sheet_55 rfl ?_
  refine z_iload_n dX11_sheet_57 rfl rfl ?_
  refine z_icmp_ge (tgt := 80) dX11_sheet_58 (by decide) (fun c1 => ?_) (fun c1 => ?_)
  · replace h := h.1 c1
    refine z_iload_n dX11_sheet_80 rfl rfl ?_
    exact m_iret dX11_sheet_81 rfl h
  · replace h := h.2 (Decidable.not_not.mp c1)
    refine z_aload_n dX11_sheet_61 rfl rfl ?_
    refine m_getR dX11_sheet_62 fl_X11_16 (by decide) kt_228 rv_228_2 ?_
    refine z_bipush dX11_sheet_65 rfl ?_
    refine z_iload_n dX11_sheet_67 rfl rfl ?_
    refine z_imul dX11_sheet_68 ?_
    refine z_iload dX11_sheet_69 rfl ?_
    refine z_iadd dX11_sheet_71 ?_
    refine z_iconst dX11_sheet_72 ?_
    obtain ⟨q3, q4, h⟩ := h
    replace h := h _ rfl
    refine m_iast dX11_sheet_73 kv_231 q3 q4 ?_
    refine z_iinc dX11_sheet_74 rfl (by decide) rfl ?_
    show Zm w (d + 2) mX11_sheet 77 [some (aR (some (228))), some (aI (x1)), none, some (aI (x3)), some (aI (x4 + 1))] [] (up2 g 231 (nm ((60 * x1) + x4)).toNat 0) P
    refine z_goto (tgt := 55) dX11_sheet_77 (by decide) ?_
    exact z_weak (by simp [lle]) h
theorem dX11_lose_0 : decode cX11_lose 0 = .ok (.iload_n 1, 1) := by decide +kernel
theorem dX11_lose_1 : decode cX11_lose 1 = .ok (.invokestatic 97, 3) := by decide +kernel
theorem dX11_lose_4 : decode cX11_lose 4 = .ok (.ifCond .ne 6, 3) := by decide +kernel
theorem dX11_lose_7 : decode cX11_lose 7 = .ok (.bipush (-2), 2) := by decide +kernel
theorem dX11_lose_9 : decode cX11_lose 9 = .ok (.ireturn, 1) := by decide +kernel
theorem dX11_lose_10 : decode cX11_lose 10 = .ok (.aload_n 0, 1) := by decide +kernel
theorem dX11_lose_11 : decode cX11_lose 11 = .ok (.getfield 7, 3) := by decide +kernel
theorem dX11_lose_14 : decode cX11_lose 14 = .ok (.iload_n 1, 1) := by decide +kernel
theorem dX11_lose_15 : decode cX11_lose 15 = .ok (.iaload, 1) := by decide +kernel
theorem dX11_lose_16 : decode cX11_lose 16 = .ok (.ifCond .ge 9, 3) := by decide +kernel
theorem dX11_lose_19 : decode cX11_lose 19 = .ok (.aload_n 0, 1) := by decide +kernel
theorem dX11_lose_20 : decode cX11_lose 20 = .ok (.iconst 1, 1) := by decide +kernel
theorem dX11_lose_21 : decode cX11_lose 21 = .ok (.invokevirtual 103, 3) := by decide +kernel
theorem dX11_lose_24 : decode cX11_lose 24 = .ok (.ireturn, 1) := by decide +kernel
theorem dX11_lose_25 : decode cX11_lose 25 = .ok (.aload_n 0, 1) := by decide +kernel
theorem dX11_lose_26 : decode cX11_lose 26 = .ok (.getfield 7, 3) := by decide +kernel
theorem dX11_lose_29 : decode cX11_lose 29 = .ok (.iload_n 1, 1) := by decide +kernel
theorem dX11_lose_30 : decode cX11_lose 30 = .ok (.iconst (-1), 1) := by decide +kernel
theorem dX11_lose_31 : decode cX11_lose 31 = .ok (.iastore, 1) := by decide +kernel
theorem dX11_lose_32 : decode cX11_lose 32 = .ok (.aload_n 0, 1) := by decide +kernel
theorem dX11_lose_33 : decode cX11_lose 33 = .ok (.getfield 13, 3) := by decide +kernel
theorem dX11_lose_36 : decode cX11_lose 36 = .ok (.iload_n 1, 1) := by decide +kernel
theorem dX11_lose_37 : decode cX11_lose 37 = .ok (.iaload, 1) := by decide +kernel
theorem dX11_lose_38 : decode cX11_lose 38 = .ok (.ireturn, 1) := by decide +kernel
set_option maxRecDepth 4000 in
theorem s_X11_lose_0 {w : GX} {d : Nat} {P : PN} {g : GI} (x1 : Int)
    (h : (((¬ nm (inn (x1) 0 3) = 0 → (0 ≤ nm x1 ∧ nm x1 < 4 ∧ ((¬ nm (g 229 (nm x1).toNat) < 0 → (∀ g7 : GI, g7 = up2 g 229 (nm x1).toNat ((-1)) → (P (some (aI (g7 230 (nm x1).toNat))) g7))) ∧ (nm (g 229 (nm x1).toNat) < 0 → (∀ g10 : GI, g10 = up2 g 228 4 (1) → P (some (aI ((-10) - (1)))) g10))))) ∧ (nm (inn (x1) 0 3) = 0 → P (some (aI ((-2)))) g)))) :
    Zm w (d + 2) mX11_lose 0 [some (aR (some (228))), some (aI (x1))] [] g P := by
  refine z_iload_n dX11_lose_0 rfl rfl ?_
  refine m_callS (as := [aI (x1)]) dX11_lose_1 lk_X11_97 mok_X11_isSheet st_X11_isSheet rfl (Nat.le_of_ble_eq_true rfl) rfl (Nat.le_of_ble_eq_true rfl) rfl (c_X11_isSheet  ?_)
  show Zm w (d + 2) mX11_lose 4 [some (aR (some (228))), some (aI (x1))] [aI (inn (x1) 0 3)] g P
  refine z_if_ne (tgt := 10) dX11_lose_4 (by decide) (fun c1 => ?_) (fun c1 => ?_)
  · replace h := h.1 c1
    refine z_aload_n dX11_lose_10 rfl rfl ?_
    refine m_getR dX11_lose_11 fl_X11_7 (by decide) kt_228 rv_228_0 ?_
    refine z_iload_n dX11_lose_14 rfl rfl ?_
    obtain ⟨q4, q5, h⟩ := h
    refine m_iald dX11_lose_15 kv_229 q4 q5 ?_
    refine z_if_ge (tgt := 25) dX11_lose_16 (by decide) (fun c6 => ?_) (fun c6 => ?_)
    · replace h := h.1 c6
      refine z_aload_n dX11_lose_25 rfl rfl ?_
      refine m_getR dX11_lose_26 fl_X11_7 (by decide) kt_228 rv_228_0 ?_
      refine z_iload_n dX11_lose_29 rfl rfl ?_
      refine z_iconst dX11_lose_30 ?_
      replace h := h _ rfl
      refine m_iast dX11_lose_31 kv_229 q4 q5 ?_
      refine z_aload_n dX11_lose_32 rfl rfl ?_
      refine m_getR dX11_lose_33 fl_X11_13 (by decide) kt_228 rv_228_1 ?_
      refine z_iload_n dX11_lose_36 rfl rfl ?_
      refine m_iald dX11_lose_37 kv_230 q4 q5 ?_
      exact m_iret dX11_lose_38 rfl h
    · replace h := h.2 (Decidable.not_not.mp c6)
      refine z_aload_n dX11_lose_19 rfl rfl ?_
      refine z_iconst dX11_lose_20 ?_
      refine m_callV (as := [aI (1)]) dX11_lose_21 lk_X11_103 mok_X11_finds in_X11_finds sl_X11_finds kt_228 rfl rfl rfl (Nat.le_of_ble_eq_true rfl) rfl (Nat.le_of_ble_eq_true rfl) rfl (c_X11_finds  ?_)
      replace h := h _ rfl
      show Zm w (d + 2) mX11_lose 24 [some (aR (some (228))), some (aI (x1))] [aI ((-10) - (1))] (up2 g 228 4 (1)) P
      exact m_iret dX11_lose_24 rfl h
  · replace h := h.2 (Decidable.not_not.mp c1)
    refine z_bipush dX11_lose_7 rfl ?_
    exact m_iret dX11_lose_9 rfl h
theorem dX11_lacks_0 : decode cX11_lacks 0 = .ok (.aload_n 0, 1) := by decide +kernel
theorem dX11_lacks_1 : decode cX11_lacks 1 = .ok (.getfield 7, 3) := by decide +kernel
theorem dX11_lacks_4 : decode cX11_lacks 4 = .ok (.iload_n 1, 1) := by decide +kernel
theorem dX11_lacks_5 : decode cX11_lacks 5 = .ok (.iaload, 1) := by decide +kernel
theorem dX11_lacks_6 : decode cX11_lacks 6 = .ok (.ifCond .ge 9, 3) := by decide +kernel
theorem dX11_lacks_9 : decode cX11_lacks 9 = .ok (.aload_n 0, 1) := by decide +kernel
theorem dX11_lacks_10 : decode cX11_lacks 10 = .ok (.iconst 1, 1) := by decide +kernel
theorem dX11_lacks_11 : decode cX11_lacks 11 = .ok (.invokevirtual 103, 3) := by decide +kernel
theorem dX11_lacks_14 : decode cX11_lacks 14 = .ok (.ireturn, 1) := by decide +kernel
theorem dX11_lacks_15 : decode cX11_lacks 15 = .ok (.aload_n 0, 1) := by decide +kernel
theorem dX11_lacks_16 : decode cX11_lacks 16 = .ok (.getfield 7, 3) := by decide +kernel
theorem dX11_lacks_19 : decode cX11_lacks 19 = .ok (.iload_n 1, 1) := by decide +kernel
theorem dX11_lacks_20 : decode cX11_lacks 20 = .ok (.iaload, 1) := by decide +kernel
theorem dX11_lacks_21 : decode cX11_lacks 21 = .ok (.iload_n 2, 1) := by decide +kernel
theorem dX11_lacks_22 : decode cX11_lacks 22 = .ok (.if_icmp .eq 9, 3) := by decide +kernel
theorem dX11_lacks_25 : decode cX11_lacks 25 = .ok (.aload_n 0, 1) := by decide +kernel
theorem dX11_lacks_26 : decode cX11_lacks 26 = .ok (.iconst 3, 1) := by decide +kernel
theorem dX11_lacks_27 : decode cX11_lacks 27 = .ok (.invokevirtual 103, 3) := by decide +kernel
theorem dX11_lacks_30 : decode cX11_lacks 30 = .ok (.ireturn, 1) := by decide +kernel
theorem dX11_lacks_31 : decode cX11_lacks 31 = .ok (.iload_n 3, 1) := by decide +kernel
theorem dX11_lacks_32 : decode cX11_lacks 32 = .ok (.i2l, 1) := by decide +kernel
theorem dX11_lacks_33 : decode cX11_lacks 33 = .ok (.lconst 0, 1) := by decide +kernel
theorem dX11_lacks_34 : decode cX11_lacks 34 = .ok (.aload_n 0, 1) := by decide +kernel
theorem dX11_lacks_35 : decode cX11_lacks 35 = .ok (.getfield 13, 3) := by decide +kernel
theorem dX11_lacks_38 : decode cX11_lacks 38 = .ok (.iload_n 1, 1) := by decide +kernel
theorem dX11_lacks_39 : decode cX11_lacks 39 = .ok (.iaload, 1) := by decide +kernel
theorem dX11_lacks_40 : decode cX11_lacks 40 = .ok (.iconst 1, 1) := by decide +kernel
theorem dX11_lacks_41 : decode cX11_lacks 41 = .ok (.isub, 1) := by decide +kernel
theorem dX11_lacks_42 : decode cX11_lacks 42 = .ok (.i2l, 1) := by decide +kernel
theorem dX11_lacks_43 : decode cX11_lacks 43 = .ok (.invokestatic 88, 3) := by decide +kernel
theorem dX11_lacks_46 : decode cX11_lacks 46 = .ok (.ifCond .eq 7, 3) := by decide +kernel
theorem dX11_lacks_49 : decode cX11_lacks 49 = .ok (.iconst 0, 1) := by decide +kernel
theorem dX11_lacks_50 : decode cX11_lacks 50 = .ok (.goto 8, 3) := by decide +kernel
theorem dX11_lacks_53 : decode cX11_lacks 53 = .ok (.aload_n 0, 1) := by decide +kernel
theorem dX11_lacks_54 : decode cX11_lacks 54 = .ok (.iconst 2, 1) := by decide +kernel
theorem dX11_lacks_55 : decode cX11_lacks 55 = .ok (.invokevirtual 103, 3) := by decide +kernel
theorem dX11_lacks_58 : decode cX11_lacks 58 = .ok (.ireturn, 1) := by decide +kernel
set_option maxRecDepth 4000 in
theorem s_X11_lacks_0 {w : GX} {d : Nat} {P : PN} {g : GI} (x1 : Int) (x2 : Int) (x3 : Int)
    (h : (0 ≤ nm x1 ∧ nm x1 < 4 ∧ ((¬ nm (g 229 (nm x1).toNat) < 0 → (((nm (g 229 (nm x1).toNat) = nm x2 → ((((nm (lin (nm x3) (0) (nm ((g 230 (nm x1).toNat) - 1))) = 0 → (∀ g12 : GI, g12 = up2 g 228 4 (2) → P (some (aI ((-10) - (2)))) g12)) ∧ (¬ nm (lin (nm x3) (0) (nm ((g 230 (nm x1).toNat) - 1))) = 0 → P (some (aI (0))) g))))) ∧ (¬ nm (g 229 (nm x1).toNat) = nm x2 → (∀ g13 : GI, g13 = up2 g 228 4 (3) → P (some (aI ((-10) - (3)))) g13))))) ∧ (nm (g 229 (nm x1).toNat) < 0 → (∀ g14 : GI, g14 = up2 g 228 4 (1) → P (some (aI ((-10) - (1)))) g14))))) :
    Zm w (d + 1) mX11_lacks 0 [some (aR (some (228))), some (aI (x1)), some (aI (x2)), some (aI (x3))] [] g P := by
  refine z_aload_n dX11_lacks_0 rfl rfl ?_
  refine m_getR dX11_lacks_1 fl_X11_7 (by decide) kt_228 rv_228_0 ?_
  refine z_iload_n dX11_lacks_4 rfl rfl ?_
  obtain ⟨q3, q4, h⟩ := h
  refine m_iald dX11_lacks_5 kv_229 q3 q4 ?_
  refine z_if_ge (tgt := 15) dX11_lacks_6 (by decide) (fun c5 => ?_) (fun c5 => ?_)
  · replace h := h.1 c5
    refine z_aload_n dX11_lacks_15 rfl rfl ?_
    refine m_getR dX11_lacks_16 fl_X11_7 (by decide) kt_228 rv_228_0 ?_
    refine z_iload_n dX11_lacks_19 rfl rfl ?_
    refine m_iald dX11_lacks_20 kv_229 q3 q4 ?_
    refine z_iload_n dX11_lacks_21 rfl rfl ?_
    refine z_icmp_eq (tgt := 31) dX11_lacks_22 (by decide) (fun c8 => ?_) (fun c8 => ?_)
    · replace h := h.1 c8
      refine z_iload_n dX11_lacks_31 rfl rfl ?_
      refine z_i2l dX11_lacks_32 ?_
      refine z_lconst (z := 0) dX11_lacks_33 rfl ?_
      refine z_aload_n dX11_lacks_34 rfl rfl ?_
      refine m_getR dX11_lacks_35 fl_X11_13 (by decide) kt_228 rv_228_1 ?_
      refine z_iload_n dX11_lacks_38 rfl rfl ?_
      refine m_iald dX11_lacks_39 kv_230 q3 q4 ?_
      refine z_iconst dX11_lacks_40 ?_
      refine z_isub dX11_lacks_41 ?_
      refine z_i2l dX11_lacks_42 ?_
      refine m_callS (as := [aL (nm x3), aL (0), aL (nm ((g 230 (nm x1).toNat) - 1))]) dX11_lacks_43 lk_X11_88 mok_X11_in st_X11_in rfl (Nat.le_of_ble_eq_true rfl) rfl (Nat.le_of_ble_eq_true rfl) rfl (c_X11_in  ?_)
      show Zm w (d + 1) mX11_lacks 46 [some (aR (some (228))), some (aI (x1)), some (aI (x2)), some (aI (x3))] [aI (lin (nm x3) (0) (nm ((g 230 (nm x1).toNat) - 1)))] g P
      refine z_if_eq (tgt := 53) dX11_lacks_46 (by decide) (fun c11 => ?_) (fun c11 => ?_)
      · replace h := h.1 c11
        refine z_aload_n dX11_lacks_53 rfl rfl ?_
        refine z_iconst dX11_lacks_54 ?_
        refine m_callV (as := [aI (2)]) dX11_lacks_55 lk_X11_103 mok_X11_finds in_X11_finds sl_X11_finds kt_228 rfl rfl rfl (Nat.le_of_ble_eq_true rfl) rfl (Nat.le_of_ble_eq_true rfl) rfl (c_X11_finds  ?_)
        replace h := h _ rfl
        show Zm w (d + 1) mX11_lacks 58 [some (aR (some (228))), some (aI (x1)), some (aI (x2)), some (aI (x3))] [aI ((-10) - (2))] (up2 g 228 4 (2)) P
        exact m_iret dX11_lacks_58 rfl h
      · replace h := h.2 c11
        refine z_iconst dX11_lacks_49 ?_
        refine z_goto (tgt := 58) dX11_lacks_50 (by decide) ?_
        exact m_iret dX11_lacks_58 rfl h
    · replace h := h.2 c8
      refine z_aload_n dX11_lacks_25 rfl rfl ?_
      refine z_iconst dX11_lacks_26 ?_
      refine m_callV (as := [aI (3)]) dX11_lacks_27 lk_X11_103 mok_X11_finds in_X11_finds sl_X11_finds kt_228 rfl rfl rfl (Nat.le_of_ble_eq_true rfl) rfl (Nat.le_of_ble_eq_true rfl) rfl (c_X11_finds  ?_)
      replace h := h _ rfl
      show Zm w (d + 1) mX11_lacks 30 [some (aR (some (228))), some (aI (x1)), some (aI (x2)), some (aI (x3))] [aI ((-10) - (3))] (up2 g 228 4 (3)) P
      exact m_iret dX11_lacks_30 rfl h
  · replace h := h.2 (Decidable.not_not.mp c5)
    refine z_aload_n dX11_lacks_9 rfl rfl ?_
    refine z_iconst dX11_lacks_10 ?_
    refine m_callV (as := [aI (1)]) dX11_lacks_11 lk_X11_103 mok_X11_finds in_X11_finds sl_X11_finds kt_228 rfl rfl rfl (Nat.le_of_ble_eq_true rfl) rfl (Nat.le_of_ble_eq_true rfl) rfl (c_X11_finds  ?_)
    replace h := h _ rfl
    show Zm w (d + 1) mX11_lacks 14 [some (aR (some (228))), some (aI (x1)), some (aI (x2)), some (aI (x3))] [aI ((-10) - (1))] (up2 g 228 4 (1)) P
    exact m_iret dX11_lacks_14 rfl h
theorem dX11_lay_0 : decode cX11_lay 0 = .ok (.iload_n 1, 1) := by decide +kernel
theorem dX11_lay_1 : decode cX11_lay 1 = .ok (.invokestatic 97, 3) := by decide +kernel
theorem dX11_lay_4 : decode cX11_lay 4 = .ok (.ifCond .eq 15, 3) := by decide +kernel
theorem dX11_lay_7 : decode cX11_lay 7 = .ok (.iload_n 2, 1) := by decide +kernel
theorem dX11_lay_8 : decode cX11_lay 8 = .ok (.i2l, 1) := by decide +kernel
theorem dX11_lay_9 : decode cX11_lay 9 = .ok (.lconst 0, 1) := by decide +kernel
theorem dX11_lay_10 : decode cX11_lay 10 = .ok (.ldc2_w 101, 3) := by decide +kernel
theorem dX11_lay_13 : decode cX11_lay 13 = .ok (.invokestatic 88, 3) := by decide +kernel
theorem dX11_lay_16 : decode cX11_lay 16 = .ok (.ifCond .ne 6, 3) := by decide +kernel
theorem dX11_lay_19 : decode cX11_lay 19 = .ok (.bipush (-2), 2) := by decide +kernel
theorem dX11_lay_21 : decode cX11_lay 21 = .ok (.ireturn, 1) := by decide +kernel
theorem dX11_lay_22 : decode cX11_lay 22 = .ok (.aload_n 0, 1) := by decide +kernel
theorem dX11_lay_23 : decode cX11_lay 23 = .ok (.iload_n 1, 1) := by decide +kernel
theorem dX11_lay_24 : decode cX11_lay 24 = .ok (.iload_n 2, 1) := by decide +kernel
theorem dX11_lay_25 : decode cX11_lay 25 = .ok (.iload_n 3, 1) := by decide +kernel
theorem dX11_lay_26 : decode cX11_lay 26 = .ok (.invokevirtual 107, 3) := by decide +kernel
theorem dX11_lay_29 : decode cX11_lay 29 = .ok (.istore 5, 2) := by decide +kernel
theorem dX11_lay_31 : decode cX11_lay 31 = .ok (.iload 5, 2) := by decide +kernel
theorem dX11_lay_33 : decode cX11_lay 33 = .ok (.ifCond .eq 6, 3) := by decide +kernel
theorem dX11_lay_36 : decode cX11_lay 36 = .ok (.iload 5, 2) := by decide +kernel
theorem dX11_lay_38 : decode cX11_lay 38 = .ok (.ireturn, 1) := by decide +kernel
theorem dX11_lay_39 : decode cX11_lay 39 = .ok (.aload_n 0, 1) := by decide +kernel
theorem dX11_lay_40 : decode cX11_lay 40 = .ok (.getfield 16, 3) := by decide +kernel
theorem dX11_lay_43 : decode cX11_lay 43 = .ok (.bipush 60, 2) := by decide +kernel
theorem dX11_lay_45 : decode cX11_lay 45 = .ok (.iload_n 1, 1) := by decide +kernel
theorem dX11_lay_46 : decode cX11_lay 46 = .ok (.imul, 1) := by decide +kernel
theorem dX11_lay_47 : decode cX11_lay 47 = .ok (.iload_n 3, 1) := by decide +kernel
theorem dX11_lay_48 : decode cX11_lay 48 = .ok (.iadd, 1) := by decide +kernel
theorem dX11_lay_49 : decode cX11_lay 49 = .ok (.iload_n 2, 1) := by decide +kernel
theorem dX11_lay_50 : decode cX11_lay 50 = .ok (.iload 4, 2) := by decide +kernel
theorem dX11_lay_52 : decode cX11_lay 52 = .ok (.invokestatic 111, 3) := by decide +kernel
theorem dX11_lay_55 : decode cX11_lay 55 = .ok (.iastore, 1) := by decide +kernel
theorem dX11_lay_56 : decode cX11_lay 56 = .ok (.iconst 1, 1) := by decide +kernel
theorem dX11_lay_57 : decode cX11_lay 57 = .ok (.ireturn, 1) := by decide +kernel
set_option maxRecDepth 4000 in
theorem s_X11_lay_0 {w : GX} {d : Nat} {P : PN} {g : GI} (x1 : Int) (x2 : Int) (x3 : Int) (x4 : Int)
    (h : (((nm (inn (x1) 0 3) = 0 → P (some (aI ((-2)))) g) ∧ (¬ nm (inn (x1) 0 3) = 0 → (((¬ nm (lin (nm x2) (0) (2)) = 0 → Zm w (d + 1) mX11_lacks 0 [some (aR (some (228))), some (aI (x1)), some (aI (x2)), some (aI (x3))] [] g (fun r g3 => ∃ z4 : Int, r = some (aI z4) ∧ ((nm z4 = 0 → ((0 ≤ nm ((60 * x1) + x3) ∧ nm ((60 * x1) + x3) < 240 ∧ ∀ g6 : GI, g6 = up2 g3 231 (nm ((60 * x1) + x3)).toNat (cutI (x2) (x4)) → P (some (aI (1))) g6))) ∧ (¬ nm z4 = 0 → P (some (aI (z4))) g3)))) ∧ (nm (lin (nm x2) (0) (2)) = 0 → P (some (aI ((-2)))) g))))))) :
    Zm w (d + 2) mX11_lay 0 [some (aR (some (228))), some (aI (x1)), some (aI (x2)), some (aI (x3)), some (aI (x4)), none] [] g P := by
  refine z_iload_n dX11_lay_0 rfl rfl ?_
  refine m_callS (as := [aI (x1)]) dX11_lay_1 lk_X11_97 mok_X11_isSheet st_X11_isSheet rfl (Nat.le_of_ble_eq_true rfl) rfl (Nat.le_of_ble_eq_true rfl) rfl (c_X11_isSheet  ?_)
  show Zm w (d + 2) mX11_lay 4 [some (aR (some (228))), some (aI (x1)), some (aI (x2)), some (aI (x3)), some (aI (x4)), none] [aI (inn (x1) 0 3)] g P
  refine z_if_eq (tgt := 19) dX11_lay_4 (by decide) (fun c1 => ?_) (fun c1 => ?_)
  · replace h := h.1 c1
    refine z_bipush dX11_lay_19 rfl ?_
    exact m_iret dX11_lay_21 rfl h
  · replace h := h.2 c1
    refine z_iload_n dX11_lay_7 rfl rfl ?_
    refine z_i2l dX11_lay_8 ?_
    refine z_lconst (z := 0) dX11_lay_9 rfl ?_
    refine z_ldc2 dX11_lay_10 kl_X11_101 ?_
    refine m_callS (as := [aL (nm x2), aL (0), aL (2)]) dX11_lay_13 lk_X11_88 mok_X11_in st_X11_in rfl (Nat.le_of_ble_eq_true rfl) rfl (Nat.le_of_ble_eq_true rfl) rfl (c_X11_in  ?_)
    show Zm w (d + 2) mX11_lay 16 [some (aR (some (228))), some (aI (x1)), some (aI (x2)), some (aI (x3)), some (aI (x4)), none] [aI (lin (nm x2) (0) (2))] g P
    refine z_if_ne (tgt := 22) dX11_lay_16 (by decide) (fun c2 => ?_) (fun c2 => ?_)
    · replace h := h.1 c2
      refine z_aload_n dX11_lay_22 rfl rfl ?_
      refine z_iload_n dX11_lay_23 rfl rfl ?_
      refine z_iload_n dX11_lay_24 rfl rfl ?_
      refine z_iload_n dX11_lay_25 rfl rfl ?_
      refine m_callV (as := [aI (x1), aI (x2), aI (x3)]) dX11_lay_26 lk_X11_107 mok_X11_lacks in_X11_lacks sl_X11_lacks kt_228 rfl rfl rfl (Nat.le_of_ble_eq_true rfl) rfl (Nat.le_of_ble_eq_true rfl) rfl (m_mono (fun r g3 hr => ?_) h)
      obtain ⟨z4, rfl, h⟩ := hr
      show Zm w (d + 2) mX11_lay 29 [some (aR (some (228))), some (aI (x1)), some (aI (x2)), some (aI (x3)), some (aI (x4)), none] [aI (z4)] g3 P
      refine z_istore dX11_lay_29 (by decide) rfl ?_
      show Zm w (d + 2) mX11_lay 31 [some (aR (some (228))), some (aI (x1)), some (aI (x2)), some (aI (x3)), some (aI (x4)), some (aI (z4))] [] g3 P
      refine z_iload dX11_lay_31 rfl ?_
      refine z_if_eq (tgt := 39) dX11_lay_33 (by decide) (fun c5 => ?_) (fun c5 => ?_)
      · replace h := h.1 c5
        refine z_aload_n dX11_lay_39 rfl rfl ?_
        refine m_getR dX11_lay_40 fl_X11_16 (by decide) kt_228 rv_228_2 ?_
        refine z_bipush dX11_lay_43 rfl ?_
        refine z_iload_n dX11_lay_45 rfl rfl ?_
        refine z_imul dX11_lay_46 ?_
        refine z_iload_n dX11_lay_47 rfl rfl ?_
        refine z_iadd dX11_lay_48 ?_
        refine z_iload_n dX11_lay_49 rfl rfl ?_
        refine z_iload dX11_lay_50 rfl ?_
        refine m_callS (as := [aI (x2), aI (x4)]) dX11_lay_52 lk_X11_111 mok_X11_cut st_X11_cut rfl (Nat.le_of_ble_eq_true rfl) rfl (Nat.le_of_ble_eq_true rfl) rfl (c_X11_cut  ?_)
        show Zm w (d + 2) mX11_lay 55 [some (aR (some (228))), some (aI (x1)), some (aI (x2)), some (aI (x3)), some (aI (x4)), some (aI (z4))] [aI (cutI (x2) (x4)), aI ((60 * x1) + x3), aR (some (231))] g3 P
        obtain ⟨q7, q8, h⟩ := h
        replace h := h _ rfl
        refine m_iast dX11_lay_55 kv_231 q7 q8 ?_
        refine z_iconst dX11_lay_56 ?_
        exact m_iret dX11_lay_57 rfl h
      · replace h := h.2 c5
        refine z_iload dX11_lay_36 rfl ?_
        exact m_iret dX11_lay_38 rfl h
    · replace h := h.2 (Decidable.not_not.mp c2)
      refine z_bipush dX11_lay_19 rfl ?_
      exact m_iret dX11_lay_21 rfl h
theorem dX11_get_0 : decode cX11_get 0 = .ok (.iload_n 1, 1) := by decide +kernel
theorem dX11_get_1 : decode cX11_get 1 = .ok (.invokestatic 97, 3) := by decide +kernel
theorem dX11_get_4 : decode cX11_get 4 = .ok (.ifCond .eq 25, 3) := by decide +kernel
theorem dX11_get_7 : decode cX11_get 7 = .ok (.iload_n 2, 1) := by decide +kernel
theorem dX11_get_8 : decode cX11_get 8 = .ok (.i2l, 1) := by decide +kernel
theorem dX11_get_9 : decode cX11_get 9 = .ok (.lconst 0, 1) := by decide +kernel
theorem dX11_get_10 : decode cX11_get 10 = .ok (.ldc2_w 101, 3) := by decide +kernel
theorem dX11_get_13 : decode cX11_get 13 = .ok (.invokestatic 88, 3) := by decide +kernel
theorem dX11_get_16 : decode cX11_get 16 = .ok (.ifCond .eq 13, 3) := by decide +kernel
theorem dX11_get_19 : decode cX11_get 19 = .ok (.aload_n 0, 1) := by decide +kernel
theorem dX11_get_20 : decode cX11_get 20 = .ok (.iload_n 1, 1) := by decide +kernel
theorem dX11_get_21 : decode cX11_get 21 = .ok (.iload_n 2, 1) := by decide +kernel
theorem dX11_get_22 : decode cX11_get 22 = .ok (.iload_n 3, 1) := by decide +kernel
theorem dX11_get_23 : decode cX11_get 23 = .ok (.invokevirtual 107, 3) := by decide +kernel
theorem dX11_get_26 : decode cX11_get 26 = .ok (.ifCond .eq 6, 3) := by decide +kernel
theorem dX11_get_29 : decode cX11_get 29 = .ok (.ldc 115, 2) := by decide +kernel
theorem dX11_get_31 : decode cX11_get 31 = .ok (.ireturn, 1) := by decide +kernel
theorem dX11_get_32 : decode cX11_get 32 = .ok (.aload_n 0, 1) := by decide +kernel
theorem dX11_get_33 : decode cX11_get 33 = .ok (.getfield 16, 3) := by decide +kernel
theorem dX11_get_36 : decode cX11_get 36 = .ok (.bipush 60, 2) := by decide +kernel
theorem dX11_get_38 : decode cX11_get 38 = .ok (.iload_n 1, 1) := by decide +kernel
theorem dX11_get_39 : decode cX11_get 39 = .ok (.imul, 1) := by decide +kernel
theorem dX11_get_40 : decode cX11_get 40 = .ok (.iload_n 3, 1) := by decide +kernel
theorem dX11_get_41 : decode cX11_get 41 = .ok (.iadd, 1) := by decide +kernel
theorem dX11_get_42 : decode cX11_get 42 = .ok (.iaload, 1) := by decide +kernel
theorem dX11_get_43 : decode cX11_get 43 = .ok (.ireturn, 1) := by decide +kernel
set_option maxRecDepth 4000 in
theorem s_X11_get_0 {w : GX} {d : Nat} {P : PN} {g : GI} (x1 : Int) (x2 : Int) (x3 : Int)
    (h : (((nm (inn (x1) 0 3) = 0 → P (some (aI ((-2147483648)))) g) ∧ (¬ nm (inn (x1) 0 3) = 0 → (((nm (lin (nm x2) (0) (2)) = 0 → P (some (aI ((-2147483648)))) g) ∧ (¬ nm (lin (nm x2) (0) (2)) = 0 → Zm w (d + 1) mX11_lacks 0 [some (aR (some (228))), some (aI (x1)), some (aI (x2)), some (aI (x3))] [] g (fun r g3 => ∃ z4 : Int, r = some (aI z4) ∧ ((nm z4 = 0 → (0 ≤ nm ((60 * x1) + x3) ∧ nm ((60 * x1) + x3) < 240 ∧ P (some (aI (g3 231 (nm ((60 * x1) + x3)).toNat))) g3)) ∧ (¬ nm z4 = 0 → P (some (aI ((-2147483648)))) g3)))))))))) :
    Zm w (d + 2) mX11_get 0 [some (aR (some (228))), some (aI (x1)), some (aI (x2)), some (aI (x3))] [] g P := by
  refine z_iload_n dX11_get_0 rfl rfl ?_
  refine m_callS (as := [aI (x1)]) dX11_get_1 lk_X11_97 mok_X11_isSheet st_X11_isSheet rfl (Nat.le_of_ble_eq_true rfl) rfl (Nat.le_of_ble_eq_true rfl) rfl (c_X11_isSheet  ?_)
  show Zm w (d + 2) mX11_get 4 [some (aR (some (228))), some (aI (x1)), some (aI (x2)), some (aI (x3))] [aI (inn (x1) 0 3)] g P
  refine z_if_eq (tgt := 29) dX11_get_4 (by decide) (fun c1 => ?_) (fun c1 => ?_)
  · replace h := h.1 c1
    refine z_ldc dX11_get_29 kc_X11_115 ?_
    exact m_iret dX11_get_31 rfl h
  · replace h := h.2 c1
    refine z_iload_n dX11_get_7 rfl rfl ?_
    refine z_i2l dX11_get_8 ?_
    refine z_lconst (z := 0) dX11_get_9 rfl ?_
    refine z_ldc2 dX11_get_10 kl_X11_101 ?_
    refine m_callS (as := [aL (nm x2), aL (0), aL (2)]) dX11_get_13 lk_X11_88 mok_X11_in st_X11_in rfl (Nat.le_of_ble_eq_true rfl) rfl (Nat.le_of_ble_eq_true rfl) rfl (c_X11_in  ?_)
    show Zm w (d + 2) mX11_get 16 [some (aR (some (228))), some (aI (x1)), some (aI (x2)), some (aI (x3))] [aI (lin (nm x2) (0) (2))] g P
    refine z_if_eq (tgt := 29) dX11_get_16 (by decide) (fun c2 => ?_) (fun c2 => ?_)
    · replace h := h.1 c2
      refine z_ldc dX11_get_29 kc_X11_115 ?_
      exact m_iret dX11_get_31 rfl h
    · replace h := h.2 c2
      refine z_aload_n dX11_get_19 rfl rfl ?_
      refine z_iload_n dX11_get_20 rfl rfl ?_
      refine z_iload_n dX11_get_21 rfl rfl ?_
      refine z_iload_n dX11_get_22 rfl rfl ?_
      refine m_callV (as := [aI (x1), aI (x2), aI (x3)]) dX11_get_23 lk_X11_107 mok_X11_lacks in_X11_lacks sl_X11_lacks kt_228 rfl rfl rfl (Nat.le_of_ble_eq_true rfl) rfl (Nat.le_of_ble_eq_true rfl) rfl (m_mono (fun r g3 hr => ?_) h)
      obtain ⟨z4, rfl, h⟩ := hr
      show Zm w (d + 2) mX11_get 26 [some (aR (some (228))), some (aI (x1)), some (aI (x2)), some (aI (x3))] [aI (z4)] g3 P
      refine z_if_eq (tgt := 32) dX11_get_26 (by decide) (fun c5 => ?_) (fun c5 => ?_)
      · replace h := h.1 c5
        refine z_aload_n dX11_get_32 rfl rfl ?_
        refine m_getR dX11_get_33 fl_X11_16 (by decide) kt_228 rv_228_2 ?_
        refine z_bipush dX11_get_36 rfl ?_
        refine z_iload_n dX11_get_38 rfl rfl ?_
        refine z_imul dX11_get_39 ?_
        refine z_iload_n dX11_get_40 rfl rfl ?_
        refine z_iadd dX11_get_41 ?_
        obtain ⟨q8, q9, h⟩ := h
        refine m_iald dX11_get_42 kv_231 q8 q9 ?_
        exact m_iret dX11_get_43 rfl h
      · replace h := h.2 c5
        refine z_ldc dX11_get_29 kc_X11_115 ?_
        exact m_iret dX11_get_31 rfl h
theorem dX11_copy_0 : decode cX11_copy 0 = .ok (.iload_n 1, 1) := by decide +kernel
theorem dX11_copy_1 : decode cX11_copy 1 = .ok (.invokestatic 97, 3) := by decide +kernel
theorem dX11_copy_4 : decode cX11_copy 4 = .ok (.ifCond .eq 10, 3) := by decide +kernel
theorem dX11_copy_7 : decode cX11_copy 7 = .ok (.iload_n 3, 1) := by decide +kernel
theorem dX11_copy_8 : decode cX11_copy 8 = .ok (.invokestatic 97, 3) := by decide +kernel
theorem dX11_copy_11 : decode cX11_copy 11 = .ok (.ifCond .ne 6, 3) := by decide +kernel
theorem dX11_copy_14 : decode cX11_copy 14 = .ok (.bipush (-2), 2) := by decide +kernel
theorem dX11_copy_16 : decode cX11_copy 16 = .ok (.ireturn, 1) := by decide +kernel
theorem dX11_copy_17 : decode cX11_copy 17 = .ok (.aload_n 0, 1) := by decide +kernel
theorem dX11_copy_18 : decode cX11_copy 18 = .ok (.getfield 7, 3) := by decide +kernel
theorem dX11_copy_21 : decode cX11_copy 21 = .ok (.iload_n 1, 1) := by decide +kernel
theorem dX11_copy_22 : decode cX11_copy 22 = .ok (.iaload, 1) := by decide +kernel
theorem dX11_copy_23 : decode cX11_copy 23 = .ok (.ifCond .lt 12, 3) := by decide +kernel
theorem dX11_copy_26 : decode cX11_copy 26 = .ok (.aload_n 0, 1) := by decide +kernel
theorem dX11_copy_27 : decode cX11_copy 27 = .ok (.getfield 7, 3) := by decide +kernel
theorem dX11_copy_30 : decode cX11_copy 30 = .ok (.iload_n 3, 1) := by decide +kernel
theorem dX11_copy_31 : decode cX11_copy 31 = .ok (.iaload, 1) := by decide +kernel
theorem dX11_copy_32 : decode cX11_copy 32 = .ok (.ifCond .ge 9, 3) := by decide +kernel
theorem dX11_copy_35 : decode cX11_copy 35 = .ok (.aload_n 0, 1) := by decide +kernel
theorem dX11_copy_36 : decode cX11_copy 36 = .ok (.iconst 1, 1) := by decide +kernel
theorem dX11_copy_37 : decode cX11_copy 37 = .ok (.invokevirtual 103, 3) := by decide +kernel
theorem dX11_copy_40 : decode cX11_copy 40 = .ok (.ireturn, 1) := by decide +kernel
theorem dX11_copy_41 : decode cX11_copy 41 = .ok (.aload_n 0, 1) := by decide +kernel
theorem dX11_copy_42 : decode cX11_copy 42 = .ok (.getfield 7, 3) := by decide +kernel
theorem dX11_copy_45 : decode cX11_copy 45 = .ok (.iload_n 1, 1) := by decide +kernel
theorem dX11_copy_46 : decode cX11_copy 46 = .ok (.iaload, 1) := by decide +kernel
theorem dX11_copy_47 : decode cX11_copy 47 = .ok (.aload_n 0, 1) := by decide +kernel
theorem dX11_copy_48 : decode cX11_copy 48 = .ok (.getfield 7, 3) := by decide +kernel
theorem dX11_copy_51 : decode cX11_copy 51 = .ok (.iload_n 3, 1) := by decide +kernel
theorem dX11_copy_52 : decode cX11_copy 52 = .ok (.iaload, 1) := by decide +kernel
theorem dX11_copy_53 : decode cX11_copy 53 = .ok (.if_icmp .eq 9, 3) := by decide +kernel
theorem dX11_copy_56 : decode cX11_copy 56 = .ok (.aload_n 0, 1) := by decide +kernel
theorem dX11_copy_57 : decode cX11_copy 57 = .ok (.iconst 4, 1) := by decide +kernel
theorem dX11_copy_58 : decode cX11_copy 58 = .ok (.invokevirtual 103, 3) := by decide +kernel
theorem dX11_copy_61 : decode cX11_copy 61 = .ok (.ireturn, 1) := by decide +kernel
theorem dX11_copy_62 : decode cX11_copy 62 = .ok (.iload_n 2, 1) := by decide +kernel
theorem dX11_copy_63 : decode cX11_copy 63 = .ok (.ifCond .lt 48, 3) := by decide +kernel
theorem dX11_copy_66 : decode cX11_copy 66 = .ok (.iload 4, 2) := by decide +kernel
theorem dX11_copy_68 : decode cX11_copy 68 = .ok (.ifCond .lt 43, 3) := by decide +kernel
theorem dX11_copy_71 : decode cX11_copy 71 = .ok (.iload 5, 2) := by decide +kernel
theorem dX11_copy_73 : decode cX11_copy 73 = .ok (.ifCond .lt 38, 3) := by decide +kernel
theorem dX11_copy_76 : decode cX11_copy 76 = .ok (.iload_n 2, 1) := by decide +kernel
theorem dX11_copy_77 : decode cX11_copy 77 = .ok (.i2l, 1) := by decide +kernel
theorem dX11_copy_78 : decode cX11_copy 78 = .ok (.iload 5, 2) := by decide +kernel
theorem dX11_copy_80 : decode cX11_copy 80 = .ok (.i2l, 1) := by decide +kernel
theorem dX11_copy_81 : decode cX11_copy 81 = .ok (.ladd, 1) := by decide +kernel
theorem dX11_copy_82 : decode cX11_copy 82 = .ok (.aload_n 0, 1) := by decide +kernel
theorem dX11_copy_83 : decode cX11_copy 83 = .ok (.getfield 13, 3) := by decide +kernel
theorem dX11_copy_86 : decode cX11_copy 86 = .ok (.iload_n 1, 1) := by decide +kernel
theorem dX11_copy_87 : decode cX11_copy 87 = .ok (.iaload, 1) := by decide +kernel
theorem dX11_copy_88 : decode cX11_copy 88 = .ok (.i2l, 1) := by decide +kernel
theorem dX11_copy_89 : decode cX11_copy 89 = .ok (.lcmp, 1) := by decide +kernel
theorem dX11_copy_90 : decode cX11_copy 90 = .ok (.ifCond .gt 21, 3) := by decide +kernel
theorem dX11_copy_93 : decode cX11_copy 93 = .ok (.iload 4, 2) := by decide +kernel
theorem dX11_copy_95 : decode cX11_copy 95 = .ok (.i2l, 1) := by decide +kernel
theorem dX11_copy_96 : decode cX11_copy 96 = .ok (.iload 5, 2) := by decide +kernel
theorem dX11_copy_98 : decode cX11_copy 98 = .ok (.i2l, 1) := by decide +kernel
theorem dX11_copy_99 : decode cX11_copy 99 = .ok (.ladd, 1) := by decide +kernel
theorem dX11_copy_100 : decode cX11_copy 100 = .ok (.aload_n 0, 1) := by decide +kernel
theorem dX11_copy_101 : decode cX11_copy 101 = .ok (.getfield 13, 3) := by decide +kernel
theorem dX11_copy_104 : decode cX11_copy 104 = .ok (.iload_n 3, 1) := by decide +kernel
theorem dX11_copy_105 : decode cX11_copy 105 = .ok (.iaload, 1) := by decide +kernel
theorem dX11_copy_106 : decode cX11_copy 106 = .ok (.i2l, 1) := by decide +kernel
theorem dX11_copy_107 : decode cX11_copy 107 = .ok (.lcmp, 1) := by decide +kernel
theorem dX11_copy_108 : decode cX11_copy 108 = .ok (.ifCond .le 9, 3) := by decide +kernel
theorem dX11_copy_111 : decode cX11_copy 111 = .ok (.aload_n 0, 1) := by decide +kernel
theorem dX11_copy_112 : decode cX11_copy 112 = .ok (.iconst 2, 1) := by decide +kernel
theorem dX11_copy_113 : decode cX11_copy 113 = .ok (.invokevirtual 103, 3) := by decide +kernel
theorem dX11_copy_116 : decode cX11_copy 116 = .ok (.ireturn, 1) := by decide +kernel
theorem dX11_copy_117 : decode cX11_copy 117 = .ok (.iconst 0, 1) := by decide +kernel
theorem dX11_copy_118 : decode cX11_copy 118 = .ok (.istore 6, 2) := by decide +kernel
theorem dX11_copy_120 : decode cX11_copy 120 = .ok (.iload 6, 2) := by decide +kernel
theorem dX11_copy_122 : decode cX11_copy 122 = .ok (.iload 5, 2) := by decide +kernel
theorem dX11_copy_124 : decode cX11_copy 124 = .ok (.if_icmp .ge 30, 3) := by decide +kernel
theorem dX11_copy_127 : decode cX11_copy 127 = .ok (.aload_n 0, 1) := by decide +kernel
theorem dX11_copy_128 : decode cX11_copy 128 = .ok (.getfield 19, 3) := by decide +kernel
theorem dX11_copy_131 : decode cX11_copy 131 = .ok (.iload 6, 2) := by decide +kernel
theorem dX11_copy_133 : decode cX11_copy 133 = .ok (.aload_n 0, 1) := by decide +kernel
theorem dX11_copy_134 : decode cX11_copy 134 = .ok (.getfield 16, 3) := by decide +kernel
theorem dX11_copy_137 : decode cX11_copy 137 = .ok (.bipush 60, 2) := by decide +kernel
theorem dX11_copy_139 : decode cX11_copy 139 = .ok (.iload_n 1, 1) := by decide +kernel
theorem dX11_copy_140 : decode cX11_copy 140 = .ok (.imul, 1) := by decide +kernel
theorem dX11_copy_141 : decode cX11_copy 141 = .ok (.iload_n 2, 1) := by decide +kernel
theorem dX11_copy_142 : decode cX11_copy 142 = .ok (.iadd, 1) := by decide +kernel
theorem dX11_copy_143 : decode cX11_copy 143 = .ok (.iload 6, 2) := by decide +kernel
theorem dX11_copy_145 : decode cX11_copy 145 = .ok (.iadd, 1) := by decide +kernel
theorem dX11_copy_146 : decode cX11_copy 146 = .ok (.iaload, 1) := by decide +kernel
theorem dX11_copy_147 : decode cX11_copy 147 = .ok (.iastore, 1) := by decide +kernel
theorem dX11_copy_148 : decode cX11_copy 148 = .ok (.iinc 6 1, 3) := by decide +kernel
theorem dX11_copy_151 : decode cX11_copy 151 = .ok (.goto (-31), 3) := by decide +kernel
theorem dX11_copy_154 : decode cX11_copy 154 = .ok (.iconst 0, 1) := by decide +kernel
theorem dX11_copy_155 : decode cX11_copy 155 = .ok (.istore 6, 2) := by decide +kernel
theorem dX11_copy_157 : decode cX11_copy 157 = .ok (.iload 6, 2) := by decide +kernel
theorem dX11_copy_159 : decode cX11_copy 159 = .ok (.iload 5, 2) := by decide +kernel
theorem dX11_copy_161 : decode cX11_copy 161 = .ok (.if_icmp .ge 31, 3) := by decide +kernel
theorem dX11_copy_164 : decode cX11_copy 164 = .ok (.aload_n 0, 1) := by decide +kernel
theorem dX11_copy_165 : decode cX11_copy 165 = .ok (.getfield 16, 3) := by decide +kernel
theorem dX11_copy_168 : decode cX11_copy 168 = .ok (.bipush 60, 2) := by decide +kernel
theorem dX11_copy_170 : decode cX11_copy 170 = .ok (.iload_n 3, 1) := by decide +kernel
theorem dX11_copy_171 : decode cX11_copy 171 = .ok (.imul, 1) := by decide +kernel
theorem dX11_copy_172 : decode cX11_copy 172 = .ok (.iload 4, 2) := by decide +kernel
theorem dX11_copy_174 : decode cX11_copy 174 = .ok (.iadd, 1) := by decide +kernel
theorem dX11_copy_175 : decode cX11_copy 175 = .ok (.iload 6, 2) := by decide +kernel
theorem dX11_copy_177 : decode cX11_copy 177 = .ok (.iadd, 1) := by decide +kernel
theorem dX11_copy_178 : decode cX11_copy 178 = .ok (.aload_n 0, 1) := by decide +kernel
theorem dX11_copy_179 : decode cX11_copy 179 = .ok (.getfield 19, 3) := by decide +kernel
theorem dX11_copy_182 : decode cX11_copy 182 = .ok (.iload 6, 2) := by decide +kernel
theorem dX11_copy_184 : decode cX11_copy 184 = .ok (.iaload, 1) := by decide +kernel
theorem dX11_copy_185 : decode cX11_copy 185 = .ok (.iastore, 1) := by decide +kernel
theorem dX11_copy_186 : decode cX11_copy 186 = .ok (.iinc 6 1, 3) := by decide +kernel
theorem dX11_copy_189 : decode cX11_copy 189 = .ok (.goto (-32), 3) := by decide +kernel
theorem dX11_copy_192 : decode cX11_copy 192 = .ok (.iconst 1, 1) := by decide +kernel
theorem dX11_copy_193 : decode cX11_copy 193 = .ok (.ireturn, 1) := by decide +kernel
set_option maxRecDepth 4000 in
theorem s_X11_copy_0 {w : GX} {d : Nat} {P : PN} {g : GI} (x1 : Int) (x2 : Int) (x3 : Int) (x4 : Int) (x5 : Int)
    (h : (((nm (inn (x1) 0 3) = 0 → P (some (aI ((-2)))) g) ∧ (¬ nm (inn (x1) 0 3) = 0 → (((¬ nm (inn (x3) 0 3) = 0 → (0 ≤ nm x1 ∧ nm x1 < 4 ∧ ((nm (g 229 (nm x1).toNat) < 0 → Zm w (d + 2) mX11_copy 35 [some (aR (some (228))), none, none, none, none, none, none] [] g P) ∧ (¬ nm (g 229 (nm x1).toNat) < 0 → (0 ≤ nm x3 ∧ nm x3 < 4 ∧ ((¬ nm (g 229 (nm x3).toNat) < 0 → ((((nm (g 229 (nm x1).toNat) = nm (g 229 (nm x3).toNat) → ((nm x2 < 0 → Zm w (d + 2) mX11_copy 111 [some (aR (some (228))), none, none, none, none, none, none] [] g P) ∧ (¬ nm x2 < 0 → ((nm x4 < 0 → Zm w (d + 2) mX11_copy 111 [some (aR (some (228))), none, none, none, none, none, none] [] g P) ∧ (¬ nm x4 < 0 → ((nm x5 < 0 → Zm w (d + 2) mX11_copy 111 [some (aR (some (228))), none, none, none, none, none, none] [] g P) ∧ (¬ nm x5 < 0 → (((0 < nm (lCmp ((nm x2) + (nm x5)) (nm (g 230 (nm x1).toNat))) → Zm w (d + 2) mX11_copy 111 [some (aR (some (228))), none, none, none, none, none, none] [] g P) ∧ (¬ 0 < nm (lCmp ((nm x2) + (nm x5)) (nm (g 230 (nm x1).toNat))) → (((¬ 0 < nm (lCmp ((nm x4) + (nm x5)) (nm (g 230 (nm x3).toNat))) → Zm w (d + 2) mX11_copy 120 [some (aR (some (228))), some (aI (x1)), some (aI (x2)), some (aI (x3)), some (aI (x4)), some (aI (x5)), some (aI (0))] [] g P) ∧ (0 < nm (lCmp ((nm x4) + (nm x5)) (nm (g 230 (nm x3).toNat))) → Zm w (d + 2) mX11_copy 111 [some (aR (some (228))), none, none, none, none, none, none] [] g P))))))))))))) ∧ (¬ nm (g 229 (nm x1).toNat) = nm (g 229 (nm x3).toNat) → (∀ g27 : GI, g27 = up2 g 228 4 (4) → P (some (aI ((-10) - (4)))) g27)))))) ∧ (nm (g 229 (nm x3).toNat) < 0 → Zm w (d + 2) mX11_copy 35 [some (aR (some (228))), none, none, none, none, none, none] [] g P))))))) ∧ (nm (inn (x3) 0 3) = 0 → P (some (aI ((-2)))) g))))))) :
    Zm w (d + 2) mX11_copy 0 [some (aR (some (228))), some (aI (x1)), some (aI (x2)), some (aI (x3)), some (aI (x4)), some (aI (x5)), none] [] g P := by
  refine z_iload_n dX11_copy_0 rfl rfl ?_
  refine m_callS (as := [aI (x1)]) dX11_copy_1 lk_X11_97 mok_X11_isSheet st_X11_isSheet rfl (Nat.le_of_ble_eq_true rfl) rfl (Nat.le_of_ble_eq_true rfl) rfl (c_X11_isSheet  ?_)
  show Zm w (d + 2) mX11_copy 4 [some (aR (some (228))), some (aI (x1)), some (aI (x2)), some (aI (x3)), some (aI (x4)), some (aI (x5)), none] [aI (inn (x1) 0 3)] g P
  refine z_if_eq (tgt := 14) dX11_copy_4 (by decide) (fun c1 => ?_) (fun c1 => ?_)
  · replace h := h.1 c1
    refine z_bipush dX11_copy_14 rfl ?_
    exact m_iret dX11_copy_16 rfl h
  · replace h := h.2 c1
    refine z_iload_n dX11_copy_7 rfl rfl ?_
    refine m_callS (as := [aI (x3)]) dX11_copy_8 lk_X11_97 mok_X11_isSheet st_X11_isSheet rfl (Nat.le_of_ble_eq_true rfl) rfl (Nat.le_of_ble_eq_true rfl) rfl (c_X11_isSheet  ?_)
    show Zm w (d + 2) mX11_copy 11 [some (aR (some (228))), some (aI (x1)), some (aI (x2)), some (aI (x3)), some (aI (x4)), some (aI (x5)), none] [aI (inn (x3) 0 3)] g P
    refine z_if_ne (tgt := 17) dX11_copy_11 (by decide) (fun c2 => ?_) (fun c2 => ?_)
    · replace h := h.1 c2
      refine z_aload_n dX11_copy_17 rfl rfl ?_
      refine m_getR dX11_copy_18 fl_X11_7 (by decide) kt_228 rv_228_0 ?_
      refine z_iload_n dX11_copy_21 rfl rfl ?_
      obtain ⟨q5, q6, h⟩ := h
      refine m_iald dX11_copy_22 kv_229 q5 q6 ?_
      refine z_if_lt (tgt := 35) dX11_copy_23 (by decide) (fun c7 => ?_) (fun c7 => ?_)
      · replace h := h.1 c7
        exact z_weak (by simp [lle]) h
      · replace h := h.2 c7
        refine z_aload_n dX11_copy_26 rfl rfl ?_
        refine m_getR dX11_copy_27 fl_X11_7 (by decide) kt_228 rv_228_0 ?_
        refine z_iload_n dX11_copy_30 rfl rfl ?_
        obtain ⟨q10, q11, h⟩ := h
        refine m_iald dX11_copy_31 kv_229 q10 q11 ?_
        refine z_if_ge (tgt := 41) dX11_copy_32 (by decide) (fun c12 => ?_) (fun c12 => ?_)
        · replace h := h.1 c12
          refine z_aload_n dX11_copy_41 rfl rfl ?_
          refine m_getR dX11_copy_42 fl_X11_7 (by decide) kt_228 rv_228_0 ?_
          refine z_iload_n dX11_copy_45 rfl rfl ?_
          refine m_iald dX11_copy_46 kv_229 q5 q6 ?_
          refine z_aload_n dX11_copy_47 rfl rfl ?_
          refine m_getR dX11_copy_48 fl_X11_7 (by decide) kt_228 rv_228_0 ?_
          refine z_iload_n dX11_copy_51 rfl rfl ?_
          refine m_iald dX11_copy_52 kv_229 q10 q11 ?_
          refine z_icmp_eq (tgt := 62) dX11_copy_53 (by decide) (fun c17 => ?_) (fun c17 => ?_)
          · replace h := h.1 c17
            refine z_iload_n dX11_copy_62 rfl rfl ?_
            refine z_if_lt (tgt := 111) dX11_copy_63 (by decide) (fun c18 => ?_) (fun c18 => ?_)
            · replace h := h.1 c18
              exact z_weak (by simp [lle]) h
            · replace h := h.2 c18
              refine z_iload dX11_copy_66 rfl ?_
              refine z_if_lt (tgt := 111) dX11_copy_68 (by decide) (fun c19 => ?_) (fun c19 => ?_)
              · replace h := h.1 c19
                exact z_weak (by simp [lle]) h
              · replace h := h.2 c19
                refine z_iload dX11_copy_71 rfl ?_
                refine z_if_lt (tgt := 111) dX11_copy_73 (by decide) (fun c20 => ?_) (fun c20 => ?_)
                · replace h := h.1 c20
                  exact z_weak (by simp [lle]) h
                · replace h := h.2 c20
                  refine z_iload_n dX11_copy_76 rfl rfl ?_
                  refine z_i2l dX11_copy_77 ?_
                  refine z_iload dX11_copy_78 rfl ?_
                  refine z_i2l dX11_copy_80 ?_
                  refine z_ladd dX11_copy_81 ?_
                  refine z_aload_n dX11_copy_82 rfl rfl ?_
                  refine m_getR dX11_copy_83 fl_X11_13 (by decide) kt_228 rv_228_1 ?_
                  refine z_iload_n dX11_copy_86 rfl rfl ?_
                  refine m_iald dX11_copy_87 kv_230 q5 q6 ?_
                  refine z_i2l dX11_copy_88 ?_
                  refine z_lcmp dX11_copy_89 ?_
                  refine z_if_gt (tgt := 111) dX11_copy_90 (by decide) (fun c23 => ?_) (fun c23 => ?_)
                  · replace h := h.1 c23
                    exact z_weak (by simp [lle]) h
                  · replace h := h.2 c23
                    refine z_iload dX11_copy_93 rfl ?_
                    refine z_i2l dX11_copy_95 ?_
                    refine z_iload dX11_copy_96 rfl ?_
                    refine z_i2l dX11_copy_98 ?_
                    refine z_ladd dX11_copy_99 ?_
                    refine z_aload_n dX11_copy_100 rfl rfl ?_
                    refine m_getR dX11_copy_101 fl_X11_13 (by decide) kt_228 rv_228_1 ?_
                    refine z_iload_n dX11_copy_104 rfl rfl ?_
                    refine m_iald dX11_copy_105 kv_230 q10 q11 ?_
                    refine z_i2l dX11_copy_106 ?_
                    refine z_lcmp dX11_copy_107 ?_
                    refine z_if_le (tgt := 117) dX11_copy_108 (by decide) (fun c26 => ?_) (fun c26 => ?_)
                    · replace h := h.1 c26
                      refine z_iconst dX11_copy_117 ?_
                      refine z_istore dX11_copy_118 (by decide) rfl ?_
                      show Zm w (d + 2) mX11_copy 120 [some (aR (some (228))), some (aI (x1)), some (aI (x2)), some (aI (x3)), some (aI (x4)), some (aI (x5)), some (aI (0))] [] g P
                      exact z_weak (by simp [lle]) h
                    · replace h := h.2 (Decidable.not_not.mp c26)
                      exact z_weak (by simp [lle]) h
          · replace h := h.2 c17
            refine z_aload_n dX11_copy_56 rfl rfl ?_
            refine z_iconst dX11_copy_57 ?_
            refine m_callV (as := [aI (4)]) dX11_copy_58 lk_X11_103 mok_X11_finds in_X11_finds sl_X11_finds kt_228 rfl rfl rfl (Nat.le_of_ble_eq_true rfl) rfl (Nat.le_of_ble_eq_true rfl) rfl (c_X11_finds  ?_)
            replace h := h _ rfl
            show Zm w (d + 2) mX11_copy 61 [some (aR (some (228))), some (aI (x1)), some (aI (x2)), some (aI (x3)), some (aI (x4)), some (aI (x5)), none] [aI ((-10) - (4))] (up2 g 228 4 (4)) P
            exact m_iret dX11_copy_61 rfl h
        · replace h := h.2 (Decidable.not_not.mp c12)
          exact z_weak (by simp [lle]) h
    · replace h := h.2 (Decidable.not_not.mp c2)
      refine z_bipush dX11_copy_14 rfl ?_
      exact m_iret dX11_copy_16 rfl h
set_option maxRecDepth 4000 in
theorem s_X11_copy_35 {w : GX} {d : Nat} {P : PN} {g : GI} 
    (h : (∀ g1 : GI, g1 = up2 g 228 4 (1) → P (some (aI ((-10) - (1)))) g1)) :
    Zm w (d + 2) mX11_copy 35 [some (aR (some (228))), none, none, none, none, none, none] [] g P := by
  refine z_aload_n dX11_copy_35 rfl rfl ?_
  refine z_iconst dX11_copy_36 ?_
  refine m_callV (as := [aI (1)]) dX11_copy_37 lk_X11_103 mok_X11_finds in_X11_finds sl_X11_finds kt_228 rfl rfl rfl (Nat.le_of_ble_eq_true rfl) rfl (Nat.le_of_ble_eq_true rfl) rfl (c_X11_finds  ?_)
  replace h := h _ rfl
  show Zm w (d + 2) mX11_copy 40 [some (aR (some (228))), none, none, none, none, none, none] [aI ((-10) - (1))] (up2 g 228 4 (1)) P
  exact m_iret dX11_copy_40 rfl h
set_option maxRecDepth 4000 in
theorem s_X11_copy_111 {w : GX} {d : Nat} {P : PN} {g : GI} 
    (h : (∀ g1 : GI, g1 = up2 g 228 4 (2) → P (some (aI ((-10) - (2)))) g1)) :
    Zm w (d + 2) mX11_copy 111 [some (aR (some (228))), none, none, none, none, none, none] [] g P := by
  refine z_aload_n dX11_copy_111 rfl rfl ?_
  refine z_iconst dX11_copy_112 ?_
  refine m_callV (as := [aI (2)]) dX11_copy_113 lk_X11_103 mok_X11_finds in_X11_finds sl_X11_finds kt_228 rfl rfl rfl (Nat.le_of_ble_eq_true rfl) rfl (Nat.le_of_ble_eq_true rfl) rfl (c_X11_finds  ?_)
  replace h := h _ rfl
  show Zm w (d + 2) mX11_copy 116 [some (aR (some (228))), none, none, none, none, none, none] [aI ((-10) - (2))] (up2 g 228 4 (2)) P
  exact m_iret dX11_copy_116 rfl h
set_option maxRecDepth 4000 in
theorem s_X11_copy_120 {w : GX} {d : Nat} {P : PN} {g : GI} (x1 : Int) (x2 : Int) (x3 : Int) (x4 : Int) (x5 : Int) (x6 : Int)
    (h : ((¬ nm x6 < nm x5 → Zm w (d + 2) mX11_copy 157 [some (aR (some (228))), none, none, some (aI (x3)), some (aI (x4)), some (aI (x5)), some (aI (0))] [] g P) ∧ (nm x6 < nm x5 → (0 ≤ nm (((60 * x1) + x2) + x6) ∧ nm (((60 * x1) + x2) + x6) < 240 ∧ (0 ≤ nm x6 ∧ nm x6 < 60 ∧ ∀ g6 : GI, g6 = up2 g 232 (nm x6).toNat (g 231 (nm (((60 * x1) + x2) + x6)).toNat) → Zm w (d + 2) mX11_copy 120 [some (aR (some (228))), some (aI (x1)), some (aI (x2)), some (aI (x3)), some (aI (x4)), some (aI (x5)), some (aI (x6 + 1))] [] g6 P))))) :
    Zm w (d + 2) mX11_copy 120 [some (aR (some (228))), some (aI (x1)), some (aI (x2)), some (aI (x3)), some (aI (x4)), some (aI (x5)), some (aI (x6))] [] g P := by
  refine z_iload dX11_copy_120 rfl ?_
  refine z_iload dX11_copy_122 rfl ?_
  refine z_icmp_ge (tgt := 154) dX11_copy_124 (by decide) (fun c1 => ?_) (fun c1 => ?_)
  · replace h := h.1 c1
    refine z_iconst dX11_copy_154 ?_
    refine z_istore dX11_copy_155 (by decide) rfl ?_
    show Zm w (d + 2) mX11_copy 157 [some (aR (some (228))), some (aI (x1)), some (aI (x2)), some (aI (x3)), some (aI (x4)), some (aI (x5)), some (aI (0))] [] g P
    exact z_weak (by simp [lle]) h
  · replace h := h.2 (Decidable.not_not.mp c1)
    refine z_aload_n dX11_copy_127 rfl rfl ?_
    refine m_getR dX11_copy_128 fl_X11_19 (by decide) kt_228 rv_228_3 ?_
    refine z_iload dX11_copy_131 rfl ?_
    refine z_aload_n dX11_copy_133 rfl rfl ?_
    refine m_getR dX11_copy_134 fl_X11_16 (by decide) kt_228 rv_228_2 ?_
    refine z_bipush dX11_copy_137 rfl ?_
    refine z_iload_n dX11_copy_139 rfl rfl ?_
    refine z_imul dX11_copy_140 ?_
    refine z_iload_n dX11_copy_141 rfl rfl ?_
    refine z_iadd dX11_copy_142 ?_
    refine z_iload dX11_copy_143 rfl ?_
    refine z_iadd dX11_copy_145 ?_
    obtain ⟨q4, q5, h⟩ := h
    refine m_iald dX11_copy_146 kv_231 q4 q5 ?_
    obtain ⟨q7, q8, h⟩ := h
    replace h := h _ rfl
    refine m_iast dX11_copy_147 kv_232 q7 q8 ?_
    refine z_iinc dX11_copy_148 rfl (by decide) rfl ?_
    show Zm w (d + 2) mX11_copy 151 [some (aR (some (228))), some (aI (x1)), some (aI (x2)), some (aI (x3)), some (aI (x4)), some (aI (x5)), some (aI (x6 + 1))] [] (up2 g 232 (nm x6).toNat (g 231 (nm (((60 * x1) + x2) + x6)).toNat)) P
    refine z_goto (tgt := 120) dX11_copy_151 (by decide) ?_
    exact z_weak (by simp [lle]) h
set_option maxRecDepth 4000 in
theorem s_X11_copy_157 {w : GX} {d : Nat} {P : PN} {g : GI} (x3 : Int) (x4 : Int) (x5 : Int) (x6 : Int)
    (h : ((¬ nm x6 < nm x5 → P (some (aI (1))) g) ∧ (nm x6 < nm x5 → (0 ≤ nm x6 ∧ nm x6 < 60 ∧ (0 ≤ nm (((60 * x3) + x4) + x6) ∧ nm (((60 * x3) + x4) + x6) < 240 ∧ ∀ g6 : GI, g6 = up2 g 231 (nm (((60 * x3) + x4) + x6)).toNat (g 232 (nm x6).toNat) → Zm w (d + 2) mX11_copy 157 [some (aR (some (228))), none, none, some (aI (x3)), some (aI (x4)), some (aI (x5)), some (aI (x6 + 1))] [] g6 P))))) :
    Zm w (d + 2) mX11_copy 157 [some (aR (some (228))), none, none, some (aI (x3)), some (aI (x4)), some (aI (x5)), some (aI (x6))] [] g P := by
  refine z_iload dX11_copy_157 rfl ?_
  refine z_iload dX11_copy_159 rfl ?_
  refine z_icmp_ge (tgt := 192) dX11_copy_161 (by decide) (fun c1 => ?_) (fun c1 => ?_)
  · replace h := h.1 c1
    refine z_iconst dX11_copy_192 ?_
    exact m_iret dX11_copy_193 rfl h
  · replace h := h.2 (Decidable.not_not.mp c1)
    refine z_aload_n dX11_copy_164 rfl rfl ?_
    refine m_getR dX11_copy_165 fl_X11_16 (by decide) kt_228 rv_228_2 ?_
    refine z_bipush dX11_copy_168 rfl ?_
    refine z_iload_n dX11_copy_170 rfl rfl ?_
    refine z_imul dX11_copy_171 ?_
    refine z_iload dX11_copy_172 rfl ?_
    refine z_iadd dX11_copy_174 ?_
    refine z_iload dX11_copy_175 rfl ?_
    refine z_iadd dX11_copy_177 ?_
    refine z_aload_n dX11_copy_178 rfl rfl ?_
    refine m_getR dX11_copy_179 fl_X11_19 (by decide) kt_228 rv_228_3 ?_
    refine z_iload dX11_copy_182 rfl ?_
    obtain ⟨q4, q5, h⟩ := h
    refine m_iald dX11_copy_184 kv_232 q4 q5 ?_
    obtain ⟨q7, q8, h⟩ := h
    replace h := h _ rfl
    refine m_iast dX11_copy_185 kv_231 q7 q8 ?_
    refine z_iinc dX11_copy_186 rfl (by decide) rfl ?_
    show Zm w (d + 2) mX11_copy 189 [some (aR (some (228))), none, none, some (aI (x3)), some (aI (x4)), some (aI (x5)), some (aI (x6 + 1))] [] (up2 g 231 (nm (((60 * x3) + x4) + x6)).toNat (g 232 (nm x6).toNat)) P
    refine z_goto (tgt := 157) dX11_copy_189 (by decide) ?_
    exact z_weak (by simp [lle]) h
theorem dX11_type_0 : decode cX11_type 0 = .ok (.iload_n 1, 1) := by decide +kernel
theorem dX11_type_1 : decode cX11_type 1 = .ok (.invokestatic 116, 3) := by decide +kernel
theorem dX11_type_4 : decode cX11_type 4 = .ok (.ifCond .eq 15, 3) := by decide +kernel
theorem dX11_type_7 : decode cX11_type 7 = .ok (.iload_n 2, 1) := by decide +kernel
theorem dX11_type_8 : decode cX11_type 8 = .ok (.i2l, 1) := by decide +kernel
theorem dX11_type_9 : decode cX11_type 9 = .ok (.lconst 0, 1) := by decide +kernel
theorem dX11_type_10 : decode cX11_type 10 = .ok (.ldc2_w 119, 3) := by decide +kernel
theorem dX11_type_13 : decode cX11_type 13 = .ok (.invokestatic 88, 3) := by decide +kernel
theorem dX11_type_16 : decode cX11_type 16 = .ok (.ifCond .ne 6, 3) := by decide +kernel
theorem dX11_type_19 : decode cX11_type 19 = .ok (.bipush (-2), 2) := by decide +kernel
theorem dX11_type_21 : decode cX11_type 21 = .ok (.ireturn, 1) := by decide +kernel
theorem dX11_type_22 : decode cX11_type 22 = .ok (.aload_n 0, 1) := by decide +kernel
theorem dX11_type_23 : decode cX11_type 23 = .ok (.getfield 25, 3) := by decide +kernel
theorem dX11_type_26 : decode cX11_type 26 = .ok (.iload_n 1, 1) := by decide +kernel
theorem dX11_type_27 : decode cX11_type 27 = .ok (.iaload, 1) := by decide +kernel
theorem dX11_type_28 : decode cX11_type 28 = .ok (.iload_n 1, 1) := by decide +kernel
theorem dX11_type_29 : decode cX11_type 29 = .ok (.ifCond .ne 8, 3) := by decide +kernel
theorem dX11_type_32 : decode cX11_type 32 = .ok (.bipush 20, 2) := by decide +kernel
theorem dX11_type_34 : decode cX11_type 34 = .ok (.goto 5, 3) := by decide +kernel
theorem dX11_type_37 : decode cX11_type 37 = .ok (.bipush 47, 2) := by decide +kernel
theorem dX11_type_39 : decode cX11_type 39 = .ok (.if_icmp .ne 6, 3) := by decide +kernel
theorem dX11_type_42 : decode cX11_type 42 = .ok (.bipush (-4), 2) := by decide +kernel
theorem dX11_type_44 : decode cX11_type 44 = .ok (.ireturn, 1) := by decide +kernel
theorem dX11_type_45 : decode cX11_type 45 = .ok (.aload_n 0, 1) := by decide +kernel
theorem dX11_type_46 : decode cX11_type 46 = .ok (.getfield 22, 3) := by decide +kernel
theorem dX11_type_49 : decode cX11_type 49 = .ok (.bipush 48, 2) := by decide +kernel
theorem dX11_type_51 : decode cX11_type 51 = .ok (.iload_n 1, 1) := by decide +kernel
theorem dX11_type_52 : decode cX11_type 52 = .ok (.imul, 1) := by decide +kernel
theorem dX11_type_53 : decode cX11_type 53 = .ok (.aload_n 0, 1) := by decide +kernel
theorem dX11_type_54 : decode cX11_type 54 = .ok (.getfield 25, 3) := by decide +kernel
theorem dX11_type_57 : decode cX11_type 57 = .ok (.iload_n 1, 1) := by decide +kernel
theorem dX11_type_58 : decode cX11_type 58 = .ok (.iaload, 1) := by decide +kernel
theorem dX11_type_59 : decode cX11_type 59 = .ok (.iadd, 1) := by decide +kernel
theorem dX11_type_60 : decode cX11_type 60 = .ok (.iload_n 2, 1) := by decide +kernel
theorem dX11_type_61 : decode cX11_type 61 = .ok (.iastore, 1) := by decide +kernel
theorem dX11_type_62 : decode cX11_type 62 = .ok (.aload_n 0, 1) := by decide +kernel
theorem dX11_type_63 : decode cX11_type 63 = .ok (.getfield 25, 3) := by decide +kernel
theorem dX11_type_66 : decode cX11_type 66 = .ok (.iload_n 1, 1) := by decide +kernel
theorem dX11_type_67 : decode cX11_type 67 = .ok (.dup2, 1) := by decide +kernel
theorem dX11_type_68 : decode cX11_type 68 = .ok (.iaload, 1) := by decide +kernel
theorem dX11_type_69 : decode cX11_type 69 = .ok (.iconst 1, 1) := by decide +kernel
theorem dX11_type_70 : decode cX11_type 70 = .ok (.iadd, 1) := by decide +kernel
theorem dX11_type_71 : decode cX11_type 71 = .ok (.iastore, 1) := by decide +kernel
theorem dX11_type_72 : decode cX11_type 72 = .ok (.aload_n 0, 1) := by decide +kernel
theorem dX11_type_73 : decode cX11_type 73 = .ok (.getfield 25, 3) := by decide +kernel
theorem dX11_type_76 : decode cX11_type 76 = .ok (.iload_n 1, 1) := by decide +kernel
theorem dX11_type_77 : decode cX11_type 77 = .ok (.iaload, 1) := by decide +kernel
theorem dX11_type_78 : decode cX11_type 78 = .ok (.ireturn, 1) := by decide +kernel
set_option maxRecDepth 4000 in
theorem s_X11_type_0 {w : GX} {d : Nat} {P : PN} {g : GI} (x1 : Int) (x2 : Int)
    (h : (((nm (inn (x1) 0 1) = 0 → P (some (aI ((-2)))) g) ∧ (¬ nm (inn (x1) 0 1) = 0 → (((¬ nm (lin (nm x2) (0) (255)) = 0 → (0 ≤ nm x1 ∧ nm x1 < 2 ∧ ((¬ nm x1 = 0 → Zm w (d + 2) mX11_type 39 [some (aR (some (228))), some (aI (x1)), some (aI (x2))] [aI (47), aI (g 234 (nm x1).toNat)] g P) ∧ (nm x1 = 0 → Zm w (d + 2) mX11_type 39 [some (aR (some (228))), some (aI (x1)), some (aI (x2))] [aI (20), aI (g 234 (nm x1).toNat)] g P)))) ∧ (nm (lin (nm x2) (0) (255)) = 0 → P (some (aI ((-2)))) g))))))) :
    Zm w (d + 2) mX11_type 0 [some (aR (some (228))), some (aI (x1)), some (aI (x2))] [] g P := by
  refine z_iload_n dX11_type_0 rfl rfl ?_
  refine m_callS (as := [aI (x1)]) dX11_type_1 lk_X11_116 mok_X11_isTwo st_X11_isTwo rfl (Nat.le_of_ble_eq_true rfl) rfl (Nat.le_of_ble_eq_true rfl) rfl (c_X11_isTwo  ?_)
  show Zm w (d + 2) mX11_type 4 [some (aR (some (228))), some (aI (x1)), some (aI (x2))] [aI (inn (x1) 0 1)] g P
  refine z_if_eq (tgt := 19) dX11_type_4 (by decide) (fun c1 => ?_) (fun c1 => ?_)
  · replace h := h.1 c1
    refine z_bipush dX11_type_19 rfl ?_
    exact m_iret dX11_type_21 rfl h
  · replace h := h.2 c1
    refine z_iload_n dX11_type_7 rfl rfl ?_
    refine z_i2l dX11_type_8 ?_
    refine z_lconst (z := 0) dX11_type_9 rfl ?_
    refine z_ldc2 dX11_type_10 kl_X11_119 ?_
    refine m_callS (as := [aL (nm x2), aL (0), aL (255)]) dX11_type_13 lk_X11_88 mok_X11_in st_X11_in rfl (Nat.le_of_ble_eq_true rfl) rfl (Nat.le_of_ble_eq_true rfl) rfl (c_X11_in  ?_)
    show Zm w (d + 2) mX11_type 16 [some (aR (some (228))), some (aI (x1)), some (aI (x2))] [aI (lin (nm x2) (0) (255))] g P
    refine z_if_ne (tgt := 22) dX11_type_16 (by decide) (fun c2 => ?_) (fun c2 => ?_)
    · replace h := h.1 c2
      refine z_aload_n dX11_type_22 rfl rfl ?_
      refine m_getR dX11_type_23 fl_X11_25 (by decide) kt_228 rv_228_6 ?_
      refine z_iload_n dX11_type_26 rfl rfl ?_
      obtain ⟨q5, q6, h⟩ := h
      refine m_iald dX11_type_27 kv_234 q5 q6 ?_
      refine z_iload_n dX11_type_28 rfl rfl ?_
      refine z_if_ne (tgt := 37) dX11_type_29 (by decide) (fun c7 => ?_) (fun c7 => ?_)
      · replace h := h.1 c7
        refine z_bipush dX11_type_37 rfl ?_
        exact z_weak (by simp [lle]) h
      · replace h := h.2 (Decidable.not_not.mp c7)
        refine z_bipush dX11_type_32 rfl ?_
        refine z_goto (tgt := 39) dX11_type_34 (by decide) ?_
        exact z_weak (by simp [lle]) h
    · replace h := h.2 (Decidable.not_not.mp c2)
      refine z_bipush dX11_type_19 rfl ?_
      exact m_iret dX11_type_21 rfl h
set_option maxRecDepth 4000 in
theorem s_X11_type_39 {w : GX} {d : Nat} {P : PN} {g : GI} (x1 : Int) (x2 : Int) (y0 : Int) (y1 : Int)
    (h : ((¬ nm y0 = nm y1 → (0 ≤ nm x1 ∧ nm x1 < 2 ∧ (0 ≤ nm ((48 * x1) + (g 234 (nm x1).toNat)) ∧ nm ((48 * x1) + (g 234 (nm x1).toNat)) < 96 ∧ ∀ g6 : GI, g6 = up2 g 233 (nm ((48 * x1) + (g 234 (nm x1).toNat))).toNat x2 → ((∀ g11 : GI, g11 = up2 g6 234 (nm x1).toNat ((g6 234 (nm x1).toNat) + 1) → (P (some (aI (g11 234 (nm x1).toNat))) g11)))))) ∧ (nm y0 = nm y1 → P (some (aI ((-4)))) g))) :
    Zm w (d + 2) mX11_type 39 [some (aR (some (228))), some (aI (x1)), some (aI (x2))] [aI (y1), aI (y0)] g P := by
  refine z_icmp_ne (tgt := 45) dX11_type_39 (by decide) (fun c1 => ?_) (fun c1 => ?_)
  · replace h := h.1 c1
    refine z_aload_n dX11_type_45 rfl rfl ?_
    refine m_getR dX11_type_46 fl_X11_22 (by decide) kt_228 rv_228_5 ?_
    refine z_bipush dX11_type_49 rfl ?_
    refine z_iload_n dX11_type_51 rfl rfl ?_
    refine z_imul dX11_type_52 ?_
    refine z_aload_n dX11_type_53 rfl rfl ?_
    refine m_getR dX11_type_54 fl_X11_25 (by decide) kt_228 rv_228_6 ?_
    refine z_iload_n dX11_type_57 rfl rfl ?_
    obtain ⟨q4, q5, h⟩ := h
    refine m_iald dX11_type_58 kv_234 q4 q5 ?_
    refine z_iadd dX11_type_59 ?_
    refine z_iload_n dX11_type_60 rfl rfl ?_
    obtain ⟨q7, q8, h⟩ := h
    replace h := h _ rfl
    refine m_iast dX11_type_61 kv_233 q7 q8 ?_
    refine z_aload_n dX11_type_62 rfl rfl ?_
    refine m_getR dX11_type_63 fl_X11_25 (by decide) kt_228 rv_228_6 ?_
    refine z_iload_n dX11_type_66 rfl rfl ?_
    refine z_dup2 dX11_type_67 rfl rfl ?_
    refine m_iald dX11_type_68 kv_234 q4 q5 ?_
    refine z_iconst dX11_type_69 ?_
    refine z_iadd dX11_type_70 ?_
    replace h := h _ rfl
    refine m_iast dX11_type_71 kv_234 q4 q5 ?_
    refine z_aload_n dX11_type_72 rfl rfl ?_
    refine m_getR dX11_type_73 fl_X11_25 (by decide) kt_228 rv_228_6 ?_
    refine z_iload_n dX11_type_76 rfl rfl ?_
    refine m_iald dX11_type_77 kv_234 q4 q5 ?_
    exact m_iret dX11_type_78 rfl h
  · replace h := h.2 (Decidable.not_not.mp c1)
    refine z_bipush dX11_type_42 rfl ?_
    exact m_iret dX11_type_44 rfl h
theorem dX11_wipe_0 : decode cX11_wipe 0 = .ok (.iload_n 1, 1) := by decide +kernel
theorem dX11_wipe_1 : decode cX11_wipe 1 = .ok (.invokestatic 116, 3) := by decide +kernel
theorem dX11_wipe_4 : decode cX11_wipe 4 = .ok (.ifCond .ne 6, 3) := by decide +kernel
theorem dX11_wipe_7 : decode cX11_wipe 7 = .ok (.bipush (-2), 2) := by decide +kernel
theorem dX11_wipe_9 : decode cX11_wipe 9 = .ok (.ireturn, 1) := by decide +kernel
theorem dX11_wipe_10 : decode cX11_wipe 10 = .ok (.aload_n 0, 1) := by decide +kernel
theorem dX11_wipe_11 : decode cX11_wipe 11 = .ok (.getfield 25, 3) := by decide +kernel
theorem dX11_wipe_14 : decode cX11_wipe 14 = .ok (.iload_n 1, 1) := by decide +kernel
theorem dX11_wipe_15 : decode cX11_wipe 15 = .ok (.iaload, 1) := by decide +kernel
theorem dX11_wipe_16 : decode cX11_wipe 16 = .ok (.istore_n 2, 1) := by decide +kernel
theorem dX11_wipe_17 : decode cX11_wipe 17 = .ok (.aload_n 0, 1) := by decide +kernel
theorem dX11_wipe_18 : decode cX11_wipe 18 = .ok (.getfield 25, 3) := by decide +kernel
theorem dX11_wipe_21 : decode cX11_wipe 21 = .ok (.iload_n 1, 1) := by decide +kernel
theorem dX11_wipe_22 : decode cX11_wipe 22 = .ok (.iconst 0, 1) := by decide +kernel
theorem dX11_wipe_23 : decode cX11_wipe 23 = .ok (.iastore, 1) := by decide +kernel
theorem dX11_wipe_24 : decode cX11_wipe 24 = .ok (.iload_n 2, 1) := by decide +kernel
theorem dX11_wipe_25 : decode cX11_wipe 25 = .ok (.ireturn, 1) := by decide +kernel
set_option maxRecDepth 4000 in
theorem s_X11_wipe_0 {w : GX} {d : Nat} {P : PN} {g : GI} (x1 : Int)
    (h : (((¬ nm (inn (x1) 0 1) = 0 → (0 ≤ nm x1 ∧ nm x1 < 2 ∧ (∀ v6 : Int, v6 = g 234 (nm x1).toNat → (∀ g7 : GI, g7 = up2 g 234 (nm x1).toNat 0 → P (some (aI (v6))) g7)))) ∧ (nm (inn (x1) 0 1) = 0 → P (some (aI ((-2)))) g)))) :
    Zm w (d + 2) mX11_wipe 0 [some (aR (some (228))), some (aI (x1)), none] [] g P := by
  refine z_iload_n dX11_wipe_0 rfl rfl ?_
  refine m_callS (as := [aI (x1)]) dX11_wipe_1 lk_X11_116 mok_X11_isTwo st_X11_isTwo rfl (Nat.le_of_ble_eq_true rfl) rfl (Nat.le_of_ble_eq_true rfl) rfl (c_X11_isTwo  ?_)
  show Zm w (d + 2) mX11_wipe 4 [some (aR (some (228))), some (aI (x1)), none] [aI (inn (x1) 0 1)] g P
  refine z_if_ne (tgt := 10) dX11_wipe_4 (by decide) (fun c1 => ?_) (fun c1 => ?_)
  · replace h := h.1 c1
    refine z_aload_n dX11_wipe_10 rfl rfl ?_
    refine m_getR dX11_wipe_11 fl_X11_25 (by decide) kt_228 rv_228_6 ?_
    refine z_iload_n dX11_wipe_14 rfl rfl ?_
    obtain ⟨q4, q5, h⟩ := h
    refine m_iald dX11_wipe_15 kv_234 q4 q5 ?_
    replace h := h _ rfl
    refine z_istore_n dX11_wipe_16 rfl (by decide) rfl ?_
    show Zm w (d + 2) mX11_wipe 17 [some (aR (some (228))), some (aI (x1)), some (aI (g 234 (nm x1).toNat))] [] g P
    refine z_aload_n dX11_wipe_17 rfl rfl ?_
    refine m_getR dX11_wipe_18 fl_X11_25 (by decide) kt_228 rv_228_6 ?_
    refine z_iload_n dX11_wipe_21 rfl rfl ?_
    refine z_iconst dX11_wipe_22 ?_
    replace h := h _ rfl
    refine m_iast dX11_wipe_23 kv_234 q4 q5 ?_
    refine z_iload_n dX11_wipe_24 rfl rfl ?_
    exact m_iret dX11_wipe_25 rfl h
  · replace h := h.2 (Decidable.not_not.mp c1)
    refine z_bipush dX11_wipe_7 rfl ?_
    exact m_iret dX11_wipe_9 rfl h
theorem dX11_undo_0 : decode cX11_undo 0 = .ok (.iload_n 1, 1) := by decide +kernel
theorem dX11_undo_1 : decode cX11_undo 1 = .ok (.invokestatic 116, 3) := by decide +kernel
theorem dX11_undo_4 : decode cX11_undo 4 = .ok (.ifCond .ne 6, 3) := by decide +kernel
theorem dX11_undo_7 : decode cX11_undo 7 = .ok (.bipush (-2), 2) := by decide +kernel
theorem dX11_undo_9 : decode cX11_undo 9 = .ok (.ireturn, 1) := by decide +kernel
theorem dX11_undo_10 : decode cX11_undo 10 = .ok (.aload_n 0, 1) := by decide +kernel
theorem dX11_undo_11 : decode cX11_undo 11 = .ok (.getfield 25, 3) := by decide +kernel
theorem dX11_undo_14 : decode cX11_undo 14 = .ok (.iload_n 1, 1) := by decide +kernel
theorem dX11_undo_15 : decode cX11_undo 15 = .ok (.iaload, 1) := by decide +kernel
theorem dX11_undo_16 : decode cX11_undo 16 = .ok (.ifCond .ne 6, 3) := by decide +kernel
theorem dX11_undo_19 : decode cX11_undo 19 = .ok (.bipush (-3), 2) := by decide +kernel
theorem dX11_undo_21 : decode cX11_undo 21 = .ok (.ireturn, 1) := by decide +kernel
theorem dX11_undo_22 : decode cX11_undo 22 = .ok (.aload_n 0, 1) := by decide +kernel
theorem dX11_undo_23 : decode cX11_undo 23 = .ok (.getfield 25, 3) := by decide +kernel
theorem dX11_undo_26 : decode cX11_undo 26 = .ok (.iload_n 1, 1) := by decide +kernel
theorem dX11_undo_27 : decode cX11_undo 27 = .ok (.dup2, 1) := by decide +kernel
theorem dX11_undo_28 : decode cX11_undo 28 = .ok (.iaload, 1) := by decide +kernel
theorem dX11_undo_29 : decode cX11_undo 29 = .ok (.iconst 1, 1) := by decide +kernel
theorem dX11_undo_30 : decode cX11_undo 30 = .ok (.isub, 1) := by decide +kernel
theorem dX11_undo_31 : decode cX11_undo 31 = .ok (.iastore, 1) := by decide +kernel
theorem dX11_undo_32 : decode cX11_undo 32 = .ok (.aload_n 0, 1) := by decide +kernel
theorem dX11_undo_33 : decode cX11_undo 33 = .ok (.getfield 25, 3) := by decide +kernel
theorem dX11_undo_36 : decode cX11_undo 36 = .ok (.iload_n 1, 1) := by decide +kernel
theorem dX11_undo_37 : decode cX11_undo 37 = .ok (.iaload, 1) := by decide +kernel
theorem dX11_undo_38 : decode cX11_undo 38 = .ok (.ireturn, 1) := by decide +kernel
set_option maxRecDepth 4000 in
theorem s_X11_undo_0 {w : GX} {d : Nat} {P : PN} {g : GI} (x1 : Int)
    (h : (((¬ nm (inn (x1) 0 1) = 0 → (0 ≤ nm x1 ∧ nm x1 < 2 ∧ ((¬ nm (g 234 (nm x1).toNat) = 0 → ((∀ g9 : GI, g9 = up2 g 234 (nm x1).toNat ((g 234 (nm x1).toNat) - 1) → (P (some (aI (g9 234 (nm x1).toNat))) g9)))) ∧ (nm (g 234 (nm x1).toNat) = 0 → P (some (aI ((-3)))) g)))) ∧ (nm (inn (x1) 0 1) = 0 → P (some (aI ((-2)))) g)))) :
    Zm w (d + 2) mX11_undo 0 [some (aR (some (228))), some (aI (x1))] [] g P := by
  refine z_iload_n dX11_undo_0 rfl rfl ?_
  refine m_callS (as := [aI (x1)]) dX11_undo_1 lk_X11_116 mok_X11_isTwo st_X11_isTwo rfl (Nat.le_of_ble_eq_true rfl) rfl (Nat.le_of_ble_eq_true rfl) rfl (c_X11_isTwo  ?_)
  show Zm w (d + 2) mX11_undo 4 [some (aR (some (228))), some (aI (x1))] [aI (inn (x1) 0 1)] g P
  refine z_if_ne (tgt := 10) dX11_undo_4 (by decide) (fun c1 => ?_) (fun c1 => ?_)
  · replace h := h.1 c1
    refine z_aload_n dX11_undo_10 rfl rfl ?_
    refine m_getR dX11_undo_11 fl_X11_25 (by decide) kt_228 rv_228_6 ?_
    refine z_iload_n dX11_undo_14 rfl rfl ?_
    obtain ⟨q4, q5, h⟩ := h
    refine m_iald dX11_undo_15 kv_234 q4 q5 ?_
    refine z_if_ne (tgt := 22) dX11_undo_16 (by decide) (fun c6 => ?_) (fun c6 => ?_)
    · replace h := h.1 c6
      refine z_aload_n dX11_undo_22 rfl rfl ?_
      refine m_getR dX11_undo_23 fl_X11_25 (by decide) kt_228 rv_228_6 ?_
      refine z_iload_n dX11_undo_26 rfl rfl ?_
      refine z_dup2 dX11_undo_27 rfl rfl ?_
      refine m_iald dX11_undo_28 kv_234 q4 q5 ?_
      refine z_iconst dX11_undo_29 ?_
      refine z_isub dX11_undo_30 ?_
      replace h := h _ rfl
      refine m_iast dX11_undo_31 kv_234 q4 q5 ?_
      refine z_aload_n dX11_undo_32 rfl rfl ?_
      refine m_getR dX11_undo_33 fl_X11_25 (by decide) kt_228 rv_228_6 ?_
      refine z_iload_n dX11_undo_36 rfl rfl ?_
      refine m_iald dX11_undo_37 kv_234 q4 q5 ?_
      exact m_iret dX11_undo_38 rfl h
    · replace h := h.2 (Decidable.not_not.mp c6)
      refine z_bipush dX11_undo_19 rfl ?_
      exact m_iret dX11_undo_21 rfl h
  · replace h := h.2 (Decidable.not_not.mp c1)
    refine z_bipush dX11_undo_7 rfl ?_
    exact m_iret dX11_undo_9 rfl h
theorem dX11_readsRiver_0 : decode cX11_readsRiver 0 = .ok (.aload_n 0, 1) := by decide +kernel
theorem dX11_readsRiver_1 : decode cX11_readsRiver 1 = .ok (.iconst 0, 1) := by decide +kernel
theorem dX11_readsRiver_2 : decode cX11_readsRiver 2 = .ok (.putfield 125, 3) := by decide +kernel
theorem dX11_readsRiver_5 : decode cX11_readsRiver 5 = .ok (.aload_n 0, 1) := by decide +kernel
theorem dX11_readsRiver_6 : decode cX11_readsRiver 6 = .ok (.iconst 0, 1) := by decide +kernel
theorem dX11_readsRiver_7 : decode cX11_readsRiver 7 = .ok (.putfield 128, 3) := by decide +kernel
theorem dX11_readsRiver_10 : decode cX11_readsRiver 10 = .ok (.iconst 0, 1) := by decide +kernel
theorem dX11_readsRiver_11 : decode cX11_readsRiver 11 = .ok (.istore_n 1, 1) := by decide +kernel
theorem dX11_readsRiver_12 : decode cX11_readsRiver 12 = .ok (.iload_n 1, 1) := by decide +kernel
theorem dX11_readsRiver_13 : decode cX11_readsRiver 13 = .ok (.aload_n 0, 1) := by decide +kernel
theorem dX11_readsRiver_14 : decode cX11_readsRiver 14 = .ok (.getfield 25, 3) := by decide +kernel
theorem dX11_readsRiver_17 : decode cX11_readsRiver 17 = .ok (.iconst 0, 1) := by decide +kernel
theorem dX11_readsRiver_18 : decode cX11_readsRiver 18 = .ok (.iaload, 1) := by decide +kernel
theorem dX11_readsRiver_19 : decode cX11_readsRiver 19 = .ok (.if_icmp .ge 124, 3) := by decide +kernel
theorem dX11_readsRiver_22 : decode cX11_readsRiver 22 = .ok (.aload_n 0, 1) := by decide +kernel
theorem dX11_readsRiver_23 : decode cX11_readsRiver 23 = .ok (.getfield 22, 3) := by decide +kernel
theorem dX11_readsRiver_26 : decode cX11_readsRiver 26 = .ok (.iload_n 1, 1) := by decide +kernel
theorem dX11_readsRiver_27 : decode cX11_readsRiver 27 = .ok (.iaload, 1) := by decide +kernel
theorem dX11_readsRiver_28 : decode cX11_readsRiver 28 = .ok (.istore_n 2, 1) := by decide +kernel
theorem dX11_readsRiver_29 : decode cX11_readsRiver 29 = .ok (.iload_n 2, 1) := by decide +kernel
theorem dX11_readsRiver_30 : decode cX11_readsRiver 30 = .ok (.invokestatic 131, 3) := by decide +kernel
theorem dX11_readsRiver_33 : decode cX11_readsRiver 33 = .ok (.ifCond .eq 7, 3) := by decide +kernel
theorem dX11_readsRiver_36 : decode cX11_readsRiver 36 = .ok (.iconst 3, 1) := by decide +kernel
theorem dX11_readsRiver_37 : decode cX11_readsRiver 37 = .ok (.goto 35, 3) := by decide +kernel
theorem dX11_readsRiver_40 : decode cX11_readsRiver 40 = .ok (.iload_n 2, 1) := by decide +kernel
theorem dX11_readsRiver_41 : decode cX11_readsRiver 41 = .ok (.bipush 46, 2) := by decide +kernel
theorem dX11_readsRiver_43 : decode cX11_readsRiver 43 = .ok (.if_icmp .ne 7, 3) := by decide +kernel
theorem dX11_readsRiver_46 : decode cX11_readsRiver 46 = .ok (.iconst 0, 1) := by decide +kernel
theorem dX11_readsRiver_47 : decode cX11_readsRiver 47 = .ok (.goto 25, 3) := by decide +kernel
theorem dX11_readsRiver_50 : decode cX11_readsRiver 50 = .ok (.iload_n 2, 1) := by decide +kernel
theorem dX11_readsRiver_51 : decode cX11_readsRiver 51 = .ok (.bipush 126, 2) := by decide +kernel
theorem dX11_readsRiver_53 : decode cX11_readsRiver 53 = .ok (.if_icmp .ne 7, 3) := by decide +kernel
theorem dX11_readsRiver_56 : decode cX11_readsRiver 56 = .ok (.iconst 1, 1) := by decide +kernel
theorem dX11_readsRiver_57 : decode cX11_readsRiver 57 = .ok (.goto 15, 3) := by decide +kernel
theorem dX11_readsRiver_60 : decode cX11_readsRiver 60 = .ok (.iload_n 2, 1) := by decide +kernel
theorem dX11_readsRiver_61 : decode cX11_readsRiver 61 = .ok (.bipush 61, 2) := by decide +kernel
theorem dX11_readsRiver_63 : decode cX11_readsRiver 63 = .ok (.if_icmp .ne 7, 3) := by decide +kernel
theorem dX11_readsRiver_66 : decode cX11_readsRiver 66 = .ok (.iconst 2, 1) := by decide +kernel
theorem dX11_readsRiver_67 : decode cX11_readsRiver 67 = .ok (.goto 5, 3) := by decide +kernel
theorem dX11_readsRiver_70 : decode cX11_readsRiver 70 = .ok (.bipush (-9), 2) := by decide +kernel
theorem dX11_readsRiver_72 : decode cX11_readsRiver 72 = .ok (.istore_n 3, 1) := by decide +kernel
theorem dX11_readsRiver_73 : decode cX11_readsRiver 73 = .ok (.iload_n 3, 1) := by decide +kernel
theorem dX11_readsRiver_74 : decode cX11_readsRiver 74 = .ok (.bipush (-9), 2) := by decide +kernel
theorem dX11_readsRiver_76 : decode cX11_readsRiver 76 = .ok (.if_icmp .ne 15, 3) := by decide +kernel
theorem dX11_readsRiver_79 : decode cX11_readsRiver 79 = .ok (.aload_n 0, 1) := by decide +kernel
theorem dX11_readsRiver_80 : decode cX11_readsRiver 80 = .ok (.iconst 0, 1) := by decide +kernel
theorem dX11_readsRiver_81 : decode cX11_readsRiver 81 = .ok (.putfield 125, 3) := by decide +kernel
theorem dX11_readsRiver_84 : decode cX11_readsRiver 84 = .ok (.aload_n 0, 1) := by decide +kernel
theorem dX11_readsRiver_85 : decode cX11_readsRiver 85 = .ok (.iconst 0, 1) := by decide +kernel
theorem dX11_readsRiver_86 : decode cX11_readsRiver 86 = .ok (.putfield 128, 3) := by decide +kernel
theorem dX11_readsRiver_89 : decode cX11_readsRiver 89 = .ok (.iload_n 1, 1) := by decide +kernel
theorem dX11_readsRiver_90 : decode cX11_readsRiver 90 = .ok (.ireturn, 1) := by decide +kernel
theorem dX11_readsRiver_91 : decode cX11_readsRiver 91 = .ok (.aload_n 0, 1) := by decide +kernel
theorem dX11_readsRiver_92 : decode cX11_readsRiver 92 = .ok (.getfield 28, 3) := by decide +kernel
theorem dX11_readsRiver_95 : decode cX11_readsRiver 95 = .ok (.iload_n 1, 1) := by decide +kernel
theorem dX11_readsRiver_96 : decode cX11_readsRiver 96 = .ok (.iload_n 3, 1) := by decide +kernel
theorem dX11_readsRiver_97 : decode cX11_readsRiver 97 = .ok (.iastore, 1) := by decide +kernel
theorem dX11_readsRiver_98 : decode cX11_readsRiver 98 = .ok (.aload_n 0, 1) := by decide +kernel
theorem dX11_readsRiver_99 : decode cX11_readsRiver 99 = .ok (.getfield 31, 3) := by decide +kernel
theorem dX11_readsRiver_102 : decode cX11_readsRiver 102 = .ok (.iload_n 1, 1) := by decide +kernel
theorem dX11_readsRiver_103 : decode cX11_readsRiver 103 = .ok (.iload_n 2, 1) := by decide +kernel
theorem dX11_readsRiver_104 : decode cX11_readsRiver 104 = .ok (.bipush 97, 2) := by decide +kernel
theorem dX11_readsRiver_106 : decode cX11_readsRiver 106 = .ok (.isub, 1) := by decide +kernel
theorem dX11_readsRiver_107 : decode cX11_readsRiver 107 = .ok (.iastore, 1) := by decide +kernel
theorem dX11_readsRiver_108 : decode cX11_readsRiver 108 = .ok (.aload_n 0, 1) := by decide +kernel
theorem dX11_readsRiver_109 : decode cX11_readsRiver 109 = .ok (.dup, 1) := by decide +kernel
theorem dX11_readsRiver_110 : decode cX11_readsRiver 110 = .ok (.getfield 125, 3) := by decide +kernel
theorem dX11_readsRiver_113 : decode cX11_readsRiver 113 = .ok (.iconst 1, 1) := by decide +kernel
theorem dX11_readsRiver_114 : decode cX11_readsRiver 114 = .ok (.iadd, 1) := by decide +kernel
theorem dX11_readsRiver_115 : decode cX11_readsRiver 115 = .ok (.putfield 125, 3) := by decide +kernel
theorem dX11_readsRiver_118 : decode cX11_readsRiver 118 = .ok (.aload_n 0, 1) := by decide +kernel
theorem dX11_readsRiver_119 : decode cX11_readsRiver 119 = .ok (.dup, 1) := by decide +kernel
theorem dX11_readsRiver_120 : decode cX11_readsRiver 120 = .ok (.getfield 128, 3) := by decide +kernel
theorem dX11_readsRiver_123 : decode cX11_readsRiver 123 = .ok (.iload_n 3, 1) := by decide +kernel
theorem dX11_readsRiver_124 : decode cX11_readsRiver 124 = .ok (.iconst 3, 1) := by decide +kernel
theorem dX11_readsRiver_125 : decode cX11_readsRiver 125 = .ok (.if_icmp .ne 7, 3) := by decide +kernel
theorem dX11_readsRiver_128 : decode cX11_readsRiver 128 = .ok (.iconst 1, 1) := by decide +kernel
theorem dX11_readsRiver_129 : decode cX11_readsRiver 129 = .ok (.goto 4, 3) := by decide +kernel
theorem dX11_readsRiver_132 : decode cX11_readsRiver 132 = .ok (.iconst 0, 1) := by decide +kernel
theorem dX11_readsRiver_133 : decode cX11_readsRiver 133 = .ok (.iadd, 1) := by decide +kernel
theorem dX11_readsRiver_134 : decode cX11_readsRiver 134 = .ok (.putfield 128, 3) := by decide +kernel
theorem dX11_readsRiver_137 : decode cX11_readsRiver 137 = .ok (.iinc 1 1, 3) := by decide +kernel
theorem dX11_readsRiver_140 : decode cX11_readsRiver 140 = .ok (.goto (-128), 3) := by decide +kernel
theorem dX11_readsRiver_143 : decode cX11_readsRiver 143 = .ok (.iconst (-1), 1) := by decide +kernel
theorem dX11_readsRiver_144 : decode cX11_readsRiver 144 = .ok (.ireturn, 1) := by decide +kernel
set_option maxRecDepth 4000 in
theorem s_X11_readsRiver_0 {w : GX} {d : Nat} {P : PN} {g : GI} 
    (h : (∀ g1 : GI, g1 = up2 g 228 7 0 → (∀ g2 : GI, g2 = up2 g1 228 12 0 → Zm w (d + 2) mX11_readsRiver 12 [some (aR (some (228))), some (aI (0)), none, none] [] g2 P))) :
    Zm w (d + 2) mX11_readsRiver 0 [some (aR (some (228))), none, none, none] [] g P := by
  refine z_aload_n dX11_readsRiver_0 rfl rfl ?_
  refine z_iconst dX11_readsRiver_1 ?_
  replace h := h _ rfl
  refine z_putI dX11_readsRiver_2 fw_X11_125 (by decide) kt_228 ?_
  refine z_aload_n dX11_readsRiver_5 rfl rfl ?_
  refine z_iconst dX11_readsRiver_6 ?_
  replace h := h _ rfl
  refine z_putI dX11_readsRiver_7 fw_X11_128 (by decide) kt_228 ?_
  refine z_iconst dX11_readsRiver_10 ?_
  refine z_istore_n dX11_readsRiver_11 rfl (by decide) rfl ?_
  show Zm w (d + 2) mX11_readsRiver 12 [some (aR (some (228))), some (aI (0)), none, none] [] (up2 (up2 g 228 7 0) 228 12 0) P
  exact z_weak (by simp [lle]) h
set_option maxRecDepth 4000 in
theorem s_X11_readsRiver_12 {w : GX} {d : Nat} {P : PN} {g : GI} (x1 : Int)
    (h : (((¬ nm x1 < nm (g 234 (nm 0).toNat) → P (some (aI ((-1)))) g) ∧ (nm x1 < nm (g 234 (nm 0).toNat) → (0 ≤ nm x1 ∧ nm x1 < 96 ∧ (∀ v8 : Int, v8 = g 233 (nm x1).toNat → (((nm (inn (v8) 97 122) = 0 → ((¬ nm v8 = nm 46 → ((¬ nm v8 = nm 126 → ((¬ nm v8 = nm 61 → Zm w (d + 2) mX11_readsRiver 72 [some (aR (some (228))), some (aI (x1)), some (aI (v8)), none] [aI ((-9))] g P) ∧ (nm v8 = nm 61 → Zm w (d + 2) mX11_readsRiver 72 [some (aR (some (228))), some (aI (x1)), some (aI (v8)), none] [aI (2)] g P))) ∧ (nm v8 = nm 126 → Zm w (d + 2) mX11_readsRiver 72 [some (aR (some (228))), some (aI (x1)), some (aI (v8)), none] [aI (1)] g P))) ∧ (nm v8 = nm 46 → Zm w (d + 2) mX11_readsRiver 72 [some (aR (some (228))), some (aI (x1)), some (aI (v8)), none] [aI (0)] g P))) ∧ (¬ nm (inn (v8) 97 122) = 0 → Zm w (d + 2) mX11_readsRiver 72 [some (aR (some (228))), some (aI (x1)), some (aI (v8)), none] [aI (3)] g P))))))))) :
    Zm w (d + 2) mX11_readsRiver 12 [some (aR (some (228))), some (aI (x1)), none, none] [] g P := by
  refine z_iload_n dX11_readsRiver_12 rfl rfl ?_
  refine z_aload_n dX11_readsRiver_13 rfl rfl ?_
  refine m_getR dX11_readsRiver_14 fl_X11_25 (by decide) kt_228 rv_228_6 ?_
  refine z_iconst dX11_readsRiver_17 ?_
  refine m_iald dX11_readsRiver_18 kv_234 (by decide) (by decide) ?_
  refine z_icmp_ge (tgt := 143) dX11_readsRiver_19 (by decide) (fun c3 => ?_) (fun c3 => ?_)
  · replace h := h.1 c3
    refine z_iconst dX11_readsRiver_143 ?_
    exact m_iret dX11_readsRiver_144 rfl h
  · replace h := h.2 (Decidable.not_not.mp c3)
    refine z_aload_n dX11_readsRiver_22 rfl rfl ?_
    refine m_getR dX11_readsRiver_23 fl_X11_22 (by decide) kt_228 rv_228_5 ?_
    refine z_iload_n dX11_readsRiver_26 rfl rfl ?_
    obtain ⟨q6, q7, h⟩ := h
    refine m_iald dX11_readsRiver_27 kv_233 q6 q7 ?_
    replace h := h _ rfl
    refine z_istore_n dX11_readsRiver_28 rfl (by decide) rfl ?_
    show Zm w (d + 2) mX11_readsRiver 29 [some (aR (some (228))), some (aI (x1)), some (aI (g 233 (nm x1).toNat)), none] [] g P
    refine z_iload_n dX11_readsRiver_29 rfl rfl ?_
    refine m_callS (as := [aI ((g 233 (nm x1).toNat))]) dX11_readsRiver_30 lk_X11_131 mok_X11_isLetter st_X11_isLetter rfl (Nat.le_of_ble_eq_true rfl) rfl (Nat.le_of_ble_eq_true rfl) rfl (c_X11_isLetter  ?_)
    show Zm w (d + 2) mX11_readsRiver 33 [some (aR (some (228))), some (aI (x1)), some (aI ((g 233 (nm x1).toNat))), none] [aI (inn ((g 233 (nm x1).toNat)) 97 122)] g P
    refine z_if_eq (tgt := 40) dX11_readsRiver_33 (by decide) (fun c9 => ?_) (fun c9 => ?_)
    · replace h := h.1 c9
      refine z_iload_n dX11_readsRiver_40 rfl rfl ?_
      refine z_bipush dX11_readsRiver_41 rfl ?_
      refine z_icmp_ne (tgt := 50) dX11_readsRiver_43 (by decide) (fun c10 => ?_) (fun c10 => ?_)
      · replace h := h.1 c10
        refine z_iload_n dX11_readsRiver_50 rfl rfl ?_
        refine z_bipush dX11_readsRiver_51 rfl ?_
        refine z_icmp_ne (tgt := 60) dX11_readsRiver_53 (by decide) (fun c11 => ?_) (fun c11 => ?_)
        · replace h := h.1 c11
          refine z_iload_n dX11_readsRiver_60 rfl rfl ?_
          refine z_bipush dX11_readsRiver_61 rfl ?_
          refine z_icmp_ne (tgt := 70) dX11_readsRiver_63 (by decide) (fun c12 => ?_) (fun c12 => ?_)
          · replace h := h.1 c12
            refine z_bipush dX11_readsRiver_70 rfl ?_
            exact z_weak (by simp [lle]) h
          · replace h := h.2 (Decidable.not_not.mp c12)
            refine z_iconst dX11_readsRiver_66 ?_
            refine z_goto (tgt := 72) dX11_readsRiver_67 (by decide) ?_
            exact z_weak (by simp [lle]) h
        · replace h := h.2 (Decidable.not_not.mp c11)
          refine z_iconst dX11_readsRiver_56 ?_
          refine z_goto (tgt := 72) dX11_readsRiver_57 (by decide) ?_
          exact z_weak (by simp [lle]) h
      · replace h := h.2 (Decidable.not_not.mp c10)
        refine z_iconst dX11_readsRiver_46 ?_
        refine z_goto (tgt := 72) dX11_readsRiver_47 (by decide) ?_
        exact z_weak (by simp [lle]) h
    · replace h := h.2 c9
      refine z_iconst dX11_readsRiver_36 ?_
      refine z_goto (tgt := 72) dX11_readsRiver_37 (by decide) ?_
      exact z_weak (by simp [lle]) h
set_option maxRecDepth 4000 in
theorem s_X11_readsRiver_72 {w : GX} {d : Nat} {P : PN} {g : GI} (x1 : Int) (x2 : Int) (y0 : Int)
    (h : ((¬ nm y0 = nm ((-9)) → (0 ≤ nm x1 ∧ nm x1 < 20 ∧ ∀ g2 : GI, g2 = up2 g 235 (nm x1).toNat y0 → (∀ g5 : GI, g5 = up2 g2 236 (nm x1).toNat (x2 - 97) → (∀ g6 : GI, g6 = up2 g5 228 7 ((g5 228 7) + 1) → ((¬ nm y0 = nm 3 → (∀ g8 : GI, g8 = up2 g6 228 12 ((g6 228 12) + 0) → Zm w (d + 2) mX11_readsRiver 12 [some (aR (some (228))), some (aI (x1 + 1)), none, none] [] g8 P)) ∧ (nm y0 = nm 3 → (∀ g9 : GI, g9 = up2 g6 228 12 ((g6 228 12) + 1) → Zm w (d + 2) mX11_readsRiver 12 [some (aR (some (228))), some (aI (x1 + 1)), none, none] [] g9 P))))))) ∧ (nm y0 = nm ((-9)) → (∀ g10 : GI, g10 = up2 g 228 7 0 → (∀ g11 : GI, g11 = up2 g10 228 12 0 → P (some (aI (x1))) g11))))) :
    Zm w (d + 2) mX11_readsRiver 72 [some (aR (some (228))), some (aI (x1)), some (aI (x2)), none] [aI (y0)] g P := by
  refine z_istore_n dX11_readsRiver_72 rfl (by decide) rfl ?_
  show Zm w (d + 2) mX11_readsRiver 73 [some (aR (some (228))), some (aI (x1)), some (aI (x2)), some (aI (y0))] [] g P
  refine z_iload_n dX11_readsRiver_73 rfl rfl ?_
  refine z_bipush dX11_readsRiver_74 rfl ?_
  refine z_icmp_ne (tgt := 91) dX11_readsRiver_76 (by decide) (fun c1 => ?_) (fun c1 => ?_)
  · replace h := h.1 c1
    refine z_aload_n dX11_readsRiver_91 rfl rfl ?_
    refine m_getR dX11_readsRiver_92 fl_X11_28 (by decide) kt_228 rv_228_8 ?_
    refine z_iload_n dX11_readsRiver_95 rfl rfl ?_
    refine z_iload_n dX11_readsRiver_96 rfl rfl ?_
    obtain ⟨q3, q4, h⟩ := h
    replace h := h _ rfl
    refine m_iast dX11_readsRiver_97 kv_235 q3 q4 ?_
    refine z_aload_n dX11_readsRiver_98 rfl rfl ?_
    refine m_getR dX11_readsRiver_99 fl_X11_31 (by decide) kt_228 rv_228_9 ?_
    refine z_iload_n dX11_readsRiver_102 rfl rfl ?_
    refine z_iload_n dX11_readsRiver_103 rfl rfl ?_
    refine z_bipush dX11_readsRiver_104 rfl ?_
    refine z_isub dX11_readsRiver_106 ?_
    replace h := h _ rfl
    refine m_iast dX11_readsRiver_107 kv_236 q3 q4 ?_
    refine z_aload_n dX11_readsRiver_108 rfl rfl ?_
    refine z_dup dX11_readsRiver_109 rfl ?_
    refine z_getI dX11_readsRiver_110 fl_X11_125 (by decide) kt_228 ?_
    refine z_iconst dX11_readsRiver_113 ?_
    refine z_iadd dX11_readsRiver_114 ?_
    replace h := h _ rfl
    refine z_putI dX11_readsRiver_115 fw_X11_125 (by decide) kt_228 ?_
    refine z_aload_n dX11_readsRiver_118 rfl rfl ?_
    refine z_dup dX11_readsRiver_119 rfl ?_
    refine z_getI dX11_readsRiver_120 fl_X11_128 (by decide) kt_228 ?_
    refine z_iload_n dX11_readsRiver_123 rfl rfl ?_
    refine z_iconst dX11_readsRiver_124 ?_
    refine z_icmp_ne (tgt := 132) dX11_readsRiver_125 (by decide) (fun c7 => ?_) (fun c7 => ?_)
    · replace h := h.1 c7
      refine z_iconst dX11_readsRiver_132 ?_
      refine z_iadd dX11_readsRiver_133 ?_
      replace h := h _ rfl
      refine z_putI dX11_readsRiver_134 fw_X11_128 (by decide) kt_228 ?_
      refine z_iinc dX11_readsRiver_137 rfl (by decide) rfl ?_
      show Zm w (d + 2) mX11_readsRiver 140 [some (aR (some (228))), some (aI (x1 + 1)), some (aI (x2)), some (aI (y0))] [] (up2 (up2 (up2 (up2 g 235 (nm x1).toNat y0) 236 (nm x1).toNat (x2 - 97)) 228 7 (((up2 (up2 g 235 (nm x1).toNat y0) 236 (nm x1).toNat (x2 - 97)) 228 7) + 1)) 228 12 (((up2 (up2 (up2 g 235 (nm x1).toNat y0) 236 (nm x1).toNat (x2 - 97)) 228 7 (((up2 (up2 g 235 (nm x1).toNat y0) 236 (nm x1).toNat (x2 - 97)) 228 7) + 1)) 228 12) + 0)) P
      refine z_goto (tgt := 12) dX11_readsRiver_140 (by decide) ?_
      exact z_weak (by simp [lle]) h
    · replace h := h.2 (Decidable.not_not.mp c7)
      refine z_iconst dX11_readsRiver_128 ?_
      refine z_goto (tgt := 133) dX11_readsRiver_129 (by decide) ?_
      refine z_iadd dX11_readsRiver_133 ?_
      replace h := h _ rfl
      refine z_putI dX11_readsRiver_134 fw_X11_128 (by decide) kt_228 ?_
      refine z_iinc dX11_readsRiver_137 rfl (by decide) rfl ?_
      show Zm w (d + 2) mX11_readsRiver 140 [some (aR (some (228))), some (aI (x1 + 1)), some (aI (x2)), some (aI (y0))] [] (up2 (up2 (up2 (up2 g 235 (nm x1).toNat y0) 236 (nm x1).toNat (x2 - 97)) 228 7 (((up2 (up2 g 235 (nm x1).toNat y0) 236 (nm x1).toNat (x2 - 97)) 228 7) + 1)) 228 12 (((up2 (up2 (up2 g 235 (nm x1).toNat y0) 236 (nm x1).toNat (x2 - 97)) 228 7 (((up2 (up2 g 235 (nm x1).toNat y0) 236 (nm x1).toNat (x2 - 97)) 228 7) + 1)) 228 12) + 1)) P
      refine z_goto (tgt := 12) dX11_readsRiver_140 (by decide) ?_
      exact z_weak (by simp [lle]) h
  · replace h := h.2 (Decidable.not_not.mp c1)
    refine z_aload_n dX11_readsRiver_79 rfl rfl ?_
    refine z_iconst dX11_readsRiver_80 ?_
    replace h := h _ rfl
    refine z_putI dX11_readsRiver_81 fw_X11_125 (by decide) kt_228 ?_
    refine z_aload_n dX11_readsRiver_84 rfl rfl ?_
    refine z_iconst dX11_readsRiver_85 ?_
    replace h := h _ rfl
    refine z_putI dX11_readsRiver_86 fw_X11_128 (by decide) kt_228 ?_
    refine z_iload_n dX11_readsRiver_89 rfl rfl ?_
    exact m_iret dX11_readsRiver_90 rfl h
theorem dX11_tells_0 : decode cX11_tells 0 = .ok (.iload_n 2, 1) := by decide +kernel
theorem dX11_tells_1 : decode cX11_tells 1 = .ok (.tableswitch 89 0 4 #[35, 43, 56, 69, 79], 35) := by decide +kernel
theorem dX11_tells_36 : decode cX11_tells 36 = .ok (.aload_n 0, 1) := by decide +kernel
theorem dX11_tells_37 : decode cX11_tells 37 = .ok (.getfield 34, 3) := by decide +kernel
theorem dX11_tells_40 : decode cX11_tells 40 = .ok (.iload_n 1, 1) := by decide +kernel
theorem dX11_tells_41 : decode cX11_tells 41 = .ok (.iload_n 3, 1) := by decide +kernel
theorem dX11_tells_42 : decode cX11_tells 42 = .ok (.iastore, 1) := by decide +kernel
theorem dX11_tells_43 : decode cX11_tells 43 = .ok (.return_, 1) := by decide +kernel
theorem dX11_tells_44 : decode cX11_tells 44 = .ok (.aload_n 0, 1) := by decide +kernel
theorem dX11_tells_45 : decode cX11_tells 45 = .ok (.getfield 34, 3) := by decide +kernel
theorem dX11_tells_48 : decode cX11_tells 48 = .ok (.iload_n 1, 1) := by decide +kernel
theorem dX11_tells_49 : decode cX11_tells 49 = .ok (.iconst 1, 1) := by decide +kernel
theorem dX11_tells_50 : decode cX11_tells 50 = .ok (.iadd, 1) := by decide +kernel
theorem dX11_tells_51 : decode cX11_tells 51 = .ok (.bipush 10, 2) := by decide +kernel
theorem dX11_tells_53 : decode cX11_tells 53 = .ok (.iload_n 3, 1) := by decide +kernel
theorem dX11_tells_54 : decode cX11_tells 54 = .ok (.imul, 1) := by decide +kernel
theorem dX11_tells_55 : decode cX11_tells 55 = .ok (.iastore, 1) := by decide +kernel
theorem dX11_tells_56 : decode cX11_tells 56 = .ok (.return_, 1) := by decide +kernel
theorem dX11_tells_57 : decode cX11_tells 57 = .ok (.aload_n 0, 1) := by decide +kernel
theorem dX11_tells_58 : decode cX11_tells 58 = .ok (.getfield 34, 3) := by decide +kernel
theorem dX11_tells_61 : decode cX11_tells 61 = .ok (.iload_n 1, 1) := by decide +kernel
theorem dX11_tells_62 : decode cX11_tells 62 = .ok (.iconst 1, 1) := by decide +kernel
theorem dX11_tells_63 : decode cX11_tells 63 = .ok (.iadd, 1) := by decide +kernel
theorem dX11_tells_64 : decode cX11_tells 64 = .ok (.dup2, 1) := by decide +kernel
theorem dX11_tells_65 : decode cX11_tells 65 = .ok (.iaload, 1) := by decide +kernel
theorem dX11_tells_66 : decode cX11_tells 66 = .ok (.iload_n 3, 1) := by decide +kernel
theorem dX11_tells_67 : decode cX11_tells 67 = .ok (.iadd, 1) := by decide +kernel
theorem dX11_tells_68 : decode cX11_tells 68 = .ok (.iastore, 1) := by decide +kernel
theorem dX11_tells_69 : decode cX11_tells 69 = .ok (.return_, 1) := by decide +kernel
theorem dX11_tells_70 : decode cX11_tells 70 = .ok (.aload_n 0, 1) := by decide +kernel
theorem dX11_tells_71 : decode cX11_tells 71 = .ok (.getfield 34, 3) := by decide +kernel
theorem dX11_tells_74 : decode cX11_tells 74 = .ok (.iload_n 1, 1) := by decide +kernel
theorem dX11_tells_75 : decode cX11_tells 75 = .ok (.iconst 2, 1) := by decide +kernel
theorem dX11_tells_76 : decode cX11_tells 76 = .ok (.iadd, 1) := by decide +kernel
theorem dX11_tells_77 : decode cX11_tells 77 = .ok (.iload_n 3, 1) := by decide +kernel
theorem dX11_tells_78 : decode cX11_tells 78 = .ok (.iastore, 1) := by decide +kernel
theorem dX11_tells_79 : decode cX11_tells 79 = .ok (.return_, 1) := by decide +kernel
theorem dX11_tells_80 : decode cX11_tells 80 = .ok (.aload_n 0, 1) := by decide +kernel
theorem dX11_tells_81 : decode cX11_tells 81 = .ok (.getfield 34, 3) := by decide +kernel
theorem dX11_tells_84 : decode cX11_tells 84 = .ok (.iload_n 1, 1) := by decide +kernel
theorem dX11_tells_85 : decode cX11_tells 85 = .ok (.iconst 3, 1) := by decide +kernel
theorem dX11_tells_86 : decode cX11_tells 86 = .ok (.iadd, 1) := by decide +kernel
theorem dX11_tells_87 : decode cX11_tells 87 = .ok (.iload_n 3, 1) := by decide +kernel
theorem dX11_tells_88 : decode cX11_tells 88 = .ok (.iastore, 1) := by decide +kernel
theorem dX11_tells_89 : decode cX11_tells 89 = .ok (.return_, 1) := by decide +kernel
theorem dX11_tells_90 : decode cX11_tells 90 = .ok (.return_, 1) := by decide +kernel
set_option maxRecDepth 4000 in
theorem s_X11_tells_0 {w : GX} {d : Nat} {P : PN} {g : GI} (x1 : Int) (x2 : Int) (x3 : Int)
    (h : ((nm x2 = 0 → (0 ≤ nm x1 ∧ nm x1 < 32 ∧ ∀ g2 : GI, g2 = up2 g 237 (nm x1).toNat x3 → P none g2)) ∧ (nm x2 = 1 → (0 ≤ nm (x1 + 1) ∧ nm (x1 + 1) < 32 ∧ ∀ g6 : GI, g6 = up2 g 237 (nm (x1 + 1)).toNat (10 * x3) → P none g6)) ∧ (nm x2 = 2 → (0 ≤ nm (x1 + 1) ∧ nm (x1 + 1) < 32 ∧ (∀ g14 : GI, g14 = up2 g 237 (nm (x1 + 1)).toNat ((g 237 (nm (x1 + 1)).toNat) + x3) → P none g14))) ∧ (nm x2 = 3 → (0 ≤ nm (x1 + 2) ∧ nm (x1 + 2) < 32 ∧ ∀ g16 : GI, g16 = up2 g 237 (nm (x1 + 2)).toNat x3 → P none g16)) ∧ (nm x2 = 4 → (0 ≤ nm (x1 + 3) ∧ nm (x1 + 3) < 32 ∧ ∀ g20 : GI, g20 = up2 g 237 (nm (x1 + 3)).toNat x3 → P none g20)) ∧ (¬ nm x2 = 0 → ¬ nm x2 = 1 → ¬ nm x2 = 2 → ¬ nm x2 = 3 → ¬ nm x2 = 4 → P none g))) :
    Zm w d mX11_tells 0 [some (aR (some (228))), some (aI (x1)), some (aI (x2)), some (aI (x3))] [] g P := by
  refine z_iload_n dX11_tells_0 rfl rfl ?_
  refine z_tsw (df := 90) (cs := [(0, 36), (1, 44), (2, 57), (3, 70), (4, 80)]) dX11_tells_1 (by decide) (by decide) (by decide) (by decide) ?_
  by_cases c1 : nm x2 = 0
  · rw [sw_c c1]
    replace h := h.1 c1
    refine z_aload_n dX11_tells_36 rfl rfl ?_
    refine m_getR dX11_tells_37 fl_X11_34 (by decide) kt_228 rv_228_11 ?_
    refine z_iload_n dX11_tells_40 rfl rfl ?_
    refine z_iload_n dX11_tells_41 rfl rfl ?_
    obtain ⟨q3, q4, h⟩ := h
    replace h := h _ rfl
    refine m_iast dX11_tells_42 kv_237 q3 q4 ?_
    exact m_vret dX11_tells_43 rfl h
  rw [sw_n c1]; replace h := h.2
  by_cases c5 : nm x2 = 1
  · rw [sw_c c5]
    replace h := h.1 c5
    refine z_aload_n dX11_tells_44 rfl rfl ?_
    refine m_getR dX11_tells_45 fl_X11_34 (by decide) kt_228 rv_228_11 ?_
    refine z_iload_n dX11_tells_48 rfl rfl ?_
    refine z_iconst dX11_tells_49 ?_
    refine z_iadd dX11_tells_50 ?_
    refine z_bipush dX11_tells_51 rfl ?_
    refine z_iload_n dX11_tells_53 rfl rfl ?_
    refine z_imul dX11_tells_54 ?_
    obtain ⟨q7, q8, h⟩ := h
    replace h := h _ rfl
    refine m_iast dX11_tells_55 kv_237 q7 q8 ?_
    exact m_vret dX11_tells_56 rfl h
  rw [sw_n c5]; replace h := h.2
  by_cases c9 : nm x2 = 2
  · rw [sw_c c9]
    replace h := h.1 c9
    refine z_aload_n dX11_tells_57 rfl rfl ?_
    refine m_getR dX11_tells_58 fl_X11_34 (by decide) kt_228 rv_228_11 ?_
    refine z_iload_n dX11_tells_61 rfl rfl ?_
    refine z_iconst dX11_tells_62 ?_
    refine z_iadd dX11_tells_63 ?_
    refine z_dup2 dX11_tells_64 rfl rfl ?_
    obtain ⟨q12, q13, h⟩ := h
    refine m_iald dX11_tells_65 kv_237 q12 q13 ?_
    refine z_iload_n dX11_tells_66 rfl rfl ?_
    refine z_iadd dX11_tells_67 ?_
    replace h := h _ rfl
    refine m_iast dX11_tells_68 kv_237 q12 q13 ?_
    exact m_vret dX11_tells_69 rfl h
  rw [sw_n c9]; replace h := h.2
  by_cases c15 : nm x2 = 3
  · rw [sw_c c15]
    replace h := h.1 c15
    refine z_aload_n dX11_tells_70 rfl rfl ?_
    refine m_getR dX11_tells_71 fl_X11_34 (by decide) kt_228 rv_228_11 ?_
    refine z_iload_n dX11_tells_74 rfl rfl ?_
    refine z_iconst dX11_tells_75 ?_
    refine z_iadd dX11_tells_76 ?_
    refine z_iload_n dX11_tells_77 rfl rfl ?_
    obtain ⟨q17, q18, h⟩ := h
    replace h := h _ rfl
    refine m_iast dX11_tells_78 kv_237 q17 q18 ?_
    exact m_vret dX11_tells_79 rfl h
  rw [sw_n c15]; replace h := h.2
  by_cases c19 : nm x2 = 4
  · rw [sw_c c19]
    replace h := h.1 c19
    refine z_aload_n dX11_tells_80 rfl rfl ?_
    refine m_getR dX11_tells_81 fl_X11_34 (by decide) kt_228 rv_228_11 ?_
    refine z_iload_n dX11_tells_84 rfl rfl ?_
    refine z_iconst dX11_tells_85 ?_
    refine z_iadd dX11_tells_86 ?_
    refine z_iload_n dX11_tells_87 rfl rfl ?_
    obtain ⟨q21, q22, h⟩ := h
    replace h := h _ rfl
    refine m_iast dX11_tells_88 kv_237 q21 q22 ?_
    exact m_vret dX11_tells_89 rfl h
  rw [sw_n c19]; replace h := h.2
  replace h := h c1 c5 c9 c15 c19
  rw [sw_e]
  exact m_vret dX11_tells_90 rfl h
theorem dX11_readsPeople_0 : decode cX11_readsPeople 0 = .ok (.aload_n 0, 1) := by decide +kernel
theorem dX11_readsPeople_1 : decode cX11_readsPeople 1 = .ok (.iconst 0, 1) := by decide +kernel
theorem dX11_readsPeople_2 : decode cX11_readsPeople 2 = .ok (.putfield 140, 3) := by decide +kernel
theorem dX11_readsPeople_5 : decode cX11_readsPeople 5 = .ok (.aload_n 0, 1) := by decide +kernel
theorem dX11_readsPeople_6 : decode cX11_readsPeople 6 = .ok (.getfield 25, 3) := by decide +kernel
theorem dX11_readsPeople_9 : decode cX11_readsPeople 9 = .ok (.iconst 1, 1) := by decide +kernel
theorem dX11_readsPeople_10 : decode cX11_readsPeople 10 = .ok (.iaload, 1) := by decide +kernel
theorem dX11_readsPeople_11 : decode cX11_readsPeople 11 = .ok (.istore_n 1, 1) := by decide +kernel
theorem dX11_readsPeople_12 : decode cX11_readsPeople 12 = .ok (.iconst 0, 1) := by decide +kernel
theorem dX11_readsPeople_13 : decode cX11_readsPeople 13 = .ok (.istore_n 2, 1) := by decide +kernel
theorem dX11_readsPeople_14 : decode cX11_readsPeople 14 = .ok (.iload_n 2, 1) := by decide +kernel
theorem dX11_readsPeople_15 : decode cX11_readsPeople 15 = .ok (.iload_n 1, 1) := by decide +kernel
theorem dX11_readsPeople_16 : decode cX11_readsPeople 16 = .ok (.if_icmp .ge 75, 3) := by decide +kernel
theorem dX11_readsPeople_19 : decode cX11_readsPeople 19 = .ok (.iload_n 2, 1) := by decide +kernel
theorem dX11_readsPeople_20 : decode cX11_readsPeople 20 = .ok (.bipush 6, 2) := by decide +kernel
theorem dX11_readsPeople_22 : decode cX11_readsPeople 22 = .ok (.irem, 1) := by decide +kernel
theorem dX11_readsPeople_23 : decode cX11_readsPeople 23 = .ok (.istore_n 3, 1) := by decide +kernel
theorem dX11_readsPeople_24 : decode cX11_readsPeople 24 = .ok (.iload_n 3, 1) := by decide +kernel
theorem dX11_readsPeople_25 : decode cX11_readsPeople 25 = .ok (.aload_n 0, 1) := by decide +kernel
theorem dX11_readsPeople_26 : decode cX11_readsPeople 26 = .ok (.getfield 22, 3) := by decide +kernel
theorem dX11_readsPeople_29 : decode cX11_readsPeople 29 = .ok (.bipush 48, 2) := by decide +kernel
theorem dX11_readsPeople_31 : decode cX11_readsPeople 31 = .ok (.iload_n 2, 1) := by decide +kernel
theorem dX11_readsPeople_32 : decode cX11_readsPeople 32 = .ok (.iadd, 1) := by decide +kernel
theorem dX11_readsPeople_33 : decode cX11_readsPeople 33 = .ok (.iaload, 1) := by decide +kernel
theorem dX11_readsPeople_34 : decode cX11_readsPeople 34 = .ok (.invokestatic 143, 3) := by decide +kernel
theorem dX11_readsPeople_37 : decode cX11_readsPeople 37 = .ok (.istore 4, 2) := by decide +kernel
theorem dX11_readsPeople_39 : decode cX11_readsPeople 39 = .ok (.iload 4, 2) := by decide +kernel
theorem dX11_readsPeople_41 : decode cX11_readsPeople 41 = .ok (.bipush (-9), 2) := by decide +kernel
theorem dX11_readsPeople_43 : decode cX11_readsPeople 43 = .ok (.if_icmp .ne 10, 3) := by decide +kernel
theorem dX11_readsPeople_46 : decode cX11_readsPeople 46 = .ok (.aload_n 0, 1) := by decide +kernel
theorem dX11_readsPeople_47 : decode cX11_readsPeople 47 = .ok (.iconst 0, 1) := by decide +kernel
theorem dX11_readsPeople_48 : decode cX11_readsPeople 48 = .ok (.putfield 140, 3) := by decide +kernel
theorem dX11_readsPeople_51 : decode cX11_readsPeople 51 = .ok (.iload_n 2, 1) := by decide +kernel
theorem dX11_readsPeople_52 : decode cX11_readsPeople 52 = .ok (.ireturn, 1) := by decide +kernel
theorem dX11_readsPeople_53 : decode cX11_readsPeople 53 = .ok (.aload_n 0, 1) := by decide +kernel
theorem dX11_readsPeople_54 : decode cX11_readsPeople 54 = .ok (.iconst 4, 1) := by decide +kernel
theorem dX11_readsPeople_55 : decode cX11_readsPeople 55 = .ok (.iload_n 2, 1) := by decide +kernel
theorem dX11_readsPeople_56 : decode cX11_readsPeople 56 = .ok (.bipush 6, 2) := by decide +kernel
theorem dX11_readsPeople_58 : decode cX11_readsPeople 58 = .ok (.idiv, 1) := by decide +kernel
theorem dX11_readsPeople_59 : decode cX11_readsPeople 59 = .ok (.imul, 1) := by decide +kernel
theorem dX11_readsPeople_60 : decode cX11_readsPeople 60 = .ok (.iload_n 3, 1) := by decide +kernel
theorem dX11_readsPeople_61 : decode cX11_readsPeople 61 = .ok (.iload 4, 2) := by decide +kernel
theorem dX11_readsPeople_63 : decode cX11_readsPeople 63 = .ok (.invokevirtual 146, 3) := by decide +kernel
theorem dX11_readsPeople_66 : decode cX11_readsPeople 66 = .ok (.aload_n 0, 1) := by decide +kernel
theorem dX11_readsPeople_67 : decode cX11_readsPeople 67 = .ok (.dup, 1) := by decide +kernel
theorem dX11_readsPeople_68 : decode cX11_readsPeople 68 = .ok (.getfield 140, 3) := by decide +kernel
theorem dX11_readsPeople_71 : decode cX11_readsPeople 71 = .ok (.iload_n 3, 1) := by decide +kernel
theorem dX11_readsPeople_72 : decode cX11_readsPeople 72 = .ok (.iconst 4, 1) := by decide +kernel
theorem dX11_readsPeople_73 : decode cX11_readsPeople 73 = .ok (.if_icmp .ne 7, 3) := by decide +kernel
theorem dX11_readsPeople_76 : decode cX11_readsPeople 76 = .ok (.iconst 1, 1) := by decide +kernel
theorem dX11_readsPeople_77 : decode cX11_readsPeople 77 = .ok (.goto 4, 3) := by decide +kernel
theorem dX11_readsPeople_80 : decode cX11_readsPeople 80 = .ok (.iconst 0, 1) := by decide +kernel
theorem dX11_readsPeople_81 : decode cX11_readsPeople 81 = .ok (.iadd, 1) := by decide +kernel
theorem dX11_readsPeople_82 : decode cX11_readsPeople 82 = .ok (.putfield 140, 3) := by decide +kernel
theorem dX11_readsPeople_85 : decode cX11_readsPeople 85 = .ok (.iinc 2 1, 3) := by decide +kernel
theorem dX11_readsPeople_88 : decode cX11_readsPeople 88 = .ok (.goto (-74), 3) := by decide +kernel
theorem dX11_readsPeople_91 : decode cX11_readsPeople 91 = .ok (.iload_n 1, 1) := by decide +kernel
theorem dX11_readsPeople_92 : decode cX11_readsPeople 92 = .ok (.ifCond .le 18, 3) := by decide +kernel
theorem dX11_readsPeople_95 : decode cX11_readsPeople 95 = .ok (.iload_n 1, 1) := by decide +kernel
theorem dX11_readsPeople_96 : decode cX11_readsPeople 96 = .ok (.bipush 6, 2) := by decide +kernel
theorem dX11_readsPeople_98 : decode cX11_readsPeople 98 = .ok (.irem, 1) := by decide +kernel
theorem dX11_readsPeople_99 : decode cX11_readsPeople 99 = .ok (.iconst 5, 1) := by decide +kernel
theorem dX11_readsPeople_100 : decode cX11_readsPeople 100 = .ok (.if_icmp .eq 10, 3) := by decide +kernel
theorem dX11_readsPeople_103 : decode cX11_readsPeople 103 = .ok (.aload_n 0, 1) := by decide +kernel
theorem dX11_readsPeople_104 : decode cX11_readsPeople 104 = .ok (.iconst 0, 1) := by decide +kernel
theorem dX11_readsPeople_105 : decode cX11_readsPeople 105 = .ok (.putfield 140, 3) := by decide +kernel
theorem dX11_readsPeople_108 : decode cX11_readsPeople 108 = .ok (.iload_n 1, 1) := by decide +kernel
theorem dX11_readsPeople_109 : decode cX11_readsPeople 109 = .ok (.ireturn, 1) := by decide +kernel
theorem dX11_readsPeople_110 : decode cX11_readsPeople 110 = .ok (.iconst (-1), 1) := by decide +kernel
theorem dX11_readsPeople_111 : decode cX11_readsPeople 111 = .ok (.ireturn, 1) := by decide +kernel
set_option maxRecDepth 4000 in
theorem s_X11_readsPeople_0 {w : GX} {d : Nat} {P : PN} {g : GI} 
    (h : (∀ g1 : GI, g1 = up2 g 228 10 0 → ((∀ v4 : Int, v4 = g1 234 (nm 1).toNat → Zm w (d + 3) mX11_readsPeople 14 [some (aR (some (228))), some (aI (v4)), some (aI (0)), none, none] [] g1 P)))) :
    Zm w (d + 3) mX11_readsPeople 0 [some (aR (some (228))), none, none, none, none] [] g P := by
  refine z_aload_n dX11_readsPeople_0 rfl rfl ?_
  refine z_iconst dX11_readsPeople_1 ?_
  replace h := h _ rfl
  refine z_putI dX11_readsPeople_2 fw_X11_140 (by decide) kt_228 ?_
  refine z_aload_n dX11_readsPeople_5 rfl rfl ?_
  refine m_getR dX11_readsPeople_6 fl_X11_25 (by decide) kt_228 rv_228_6 ?_
  refine z_iconst dX11_readsPeople_9 ?_
  refine m_iald dX11_readsPeople_10 kv_234 (by decide) (by decide) ?_
  replace h := h _ rfl
  refine z_istore_n dX11_readsPeople_11 rfl (by decide) rfl ?_
  show Zm w (d + 3) mX11_readsPeople 12 [some (aR (some (228))), some (aI ((up2 g 228 10 0) 234 (nm 1).toNat)), none, none, none] [] (up2 g 228 10 0) P
  refine z_iconst dX11_readsPeople_12 ?_
  refine z_istore_n dX11_readsPeople_13 rfl (by decide) rfl ?_
  show Zm w (d + 3) mX11_readsPeople 14 [some (aR (some (228))), some (aI (((up2 g 228 10 0) 234 (nm 1).toNat))), some (aI (0)), none, none] [] (up2 g 228 10 0) P
  exact z_weak (by simp [lle]) h
set_option maxRecDepth 4000 in
theorem s_X11_readsPeople_14 {w : GX} {d : Nat} {P : PN} {g : GI} (x1 : Int) (x2 : Int)
    (h : ((¬ nm x2 < nm x1 → ((¬ 0 < nm x1 → P (some (aI ((-1)))) g) ∧ (0 < nm x1 → ((nm (iRem x1 6) = nm 5 → P (some (aI ((-1)))) g) ∧ (¬ nm (iRem x1 6) = nm 5 → (∀ g4 : GI, g4 = up2 g 228 10 0 → P (some (aI (x1))) g4)))))) ∧ (nm x2 < nm x1 → (∀ v5 : Int, v5 = iRem x2 6 → (0 ≤ nm (48 + x2) ∧ nm (48 + x2) < 96 ∧ ((∀ v10 : Int, v10 = tof (v5) (g 233 (nm (48 + x2)).toNat) → ((¬ nm v10 = nm ((-9)) → Zm w (d + 2) mX11_tells 0 [some (aR (some (228))), some (aI (4 * (iDiv x2 6))), some (aI (v5)), some (aI (v10))] [] g (fun r g12 => r = none ∧ ((¬ nm v5 = nm 4 → (∀ g15 : GI, g15 = up2 g12 228 10 ((g12 228 10) + 0) → Zm w (d + 3) mX11_readsPeople 14 [some (aR (some (228))), some (aI (x1)), some (aI (x2 + 1)), none, none] [] g15 P)) ∧ (nm v5 = nm 4 → (∀ g16 : GI, g16 = up2 g12 228 10 ((g12 228 10) + 1) → Zm w (d + 3) mX11_readsPeople 14 [some (aR (some (228))), some (aI (x1)), some (aI (x2 + 1)), none, none] [] g16 P))))) ∧ (nm v10 = nm ((-9)) → (∀ g17 : GI, g17 = up2 g 228 10 0 → P (some (aI (x2))) g17)))))))))) :
    Zm w (d + 3) mX11_readsPeople 14 [some (aR (some (228))), some (aI (x1)), some (aI (x2)), none, none] [] g P := by
  refine z_iload_n dX11_readsPeople_14 rfl rfl ?_
  refine z_iload_n dX11_readsPeople_15 rfl rfl ?_
  refine z_icmp_ge (tgt := 91) dX11_readsPeople_16 (by decide) (fun c1 => ?_) (fun c1 => ?_)
  · replace h := h.1 c1
    refine z_iload_n dX11_readsPeople_91 rfl rfl ?_
    refine z_if_le (tgt := 110) dX11_readsPeople_92 (by decide) (fun c2 => ?_) (fun c2 => ?_)
    · replace h := h.1 c2
      refine z_iconst dX11_readsPeople_110 ?_
      exact m_iret dX11_readsPeople_111 rfl h
    · replace h := h.2 (Decidable.not_not.mp c2)
      refine z_iload_n dX11_readsPeople_95 rfl rfl ?_
      refine z_bipush dX11_readsPeople_96 rfl ?_
      refine z_irem dX11_readsPeople_98 (by decide) ?_
      refine z_iconst dX11_readsPeople_99 ?_
      refine z_icmp_eq (tgt := 110) dX11_readsPeople_100 (by decide) (fun c3 => ?_) (fun c3 => ?_)
      · replace h := h.1 c3
        refine z_iconst dX11_readsPeople_110 ?_
        exact m_iret dX11_readsPeople_111 rfl h
      · replace h := h.2 c3
        refine z_aload_n dX11_readsPeople_103 rfl rfl ?_
        refine z_iconst dX11_readsPeople_104 ?_
        replace h := h _ rfl
        refine z_putI dX11_readsPeople_105 fw_X11_140 (by decide) kt_228 ?_
        refine z_iload_n dX11_readsPeople_108 rfl rfl ?_
        exact m_iret dX11_readsPeople_109 rfl h
  · replace h := h.2 (Decidable.not_not.mp c1)
    refine z_iload_n dX11_readsPeople_19 rfl rfl ?_
    refine z_bipush dX11_readsPeople_20 rfl ?_
    refine z_irem dX11_readsPeople_22 (by decide) ?_
    replace h := h _ rfl
    refine z_istore_n dX11_readsPeople_23 rfl (by decide) rfl ?_
    show Zm w (d + 3) mX11_readsPeople 24 [some (aR (some (228))), some (aI (x1)), some (aI (x2)), some (aI (iRem x2 6)), none] [] g P
    refine z_iload_n dX11_readsPeople_24 rfl rfl ?_
    refine z_aload_n dX11_readsPeople_25 rfl rfl ?_
    refine m_getR dX11_readsPeople_26 fl_X11_22 (by decide) kt_228 rv_228_5 ?_
    refine z_bipush dX11_readsPeople_29 rfl ?_
    refine z_iload_n dX11_readsPeople_31 rfl rfl ?_
    refine z_iadd dX11_readsPeople_32 ?_
    obtain ⟨q8, q9, h⟩ := h
    refine m_iald dX11_readsPeople_33 kv_233 q8 q9 ?_
    refine m_callS (as := [aI ((iRem x2 6)), aI (g 233 (nm (48 + x2)).toNat)]) dX11_readsPeople_34 lk_X11_143 mok_X11_tellsOf st_X11_tellsOf rfl (Nat.le_of_ble_eq_true rfl) rfl (Nat.le_of_ble_eq_true rfl) rfl (c_X11_tellsOf  ?_)
    show Zm w (d + 3) mX11_readsPeople 37 [some (aR (some (228))), some (aI (x1)), some (aI (x2)), some (aI ((iRem x2 6))), none] [aI (tof ((iRem x2 6)) (g 233 (nm (48 + x2)).toNat))] g P
    replace h := h _ rfl
    refine z_istore dX11_readsPeople_37 (by decide) rfl ?_
    show Zm w (d + 3) mX11_readsPeople 39 [some (aR (some (228))), some (aI (x1)), some (aI (x2)), some (aI ((iRem x2 6))), some (aI (tof ((iRem x2 6)) (g 233 (nm (48 + x2)).toNat)))] [] g P
    refine z_iload dX11_readsPeople_39 rfl ?_
    refine z_bipush dX11_readsPeople_41 rfl ?_
    refine z_icmp_ne (tgt := 53) dX11_readsPeople_43 (by decide) (fun c11 => ?_) (fun c11 => ?_)
    · replace h := h.1 c11
      refine z_aload_n dX11_readsPeople_53 rfl rfl ?_
      refine z_iconst dX11_readsPeople_54 ?_
      refine z_iload_n dX11_readsPeople_55 rfl rfl ?_
      refine z_bipush dX11_readsPeople_56 rfl ?_
      refine z_idiv dX11_readsPeople_58 (by decide) ?_
      refine z_imul dX11_readsPeople_59 ?_
      refine z_iload_n dX11_readsPeople_60 rfl rfl ?_
      refine z_iload dX11_readsPeople_61 rfl ?_
      refine m_callV (as := [aI (4 * (iDiv x2 6)), aI ((iRem x2 6)), aI ((tof ((iRem x2 6)) (g 233 (nm (48 + x2)).toNat)))]) dX11_readsPeople_63 lk_X11_146 mok_X11_tells in_X11_tells sl_X11_tells kt_228 rfl rfl rfl (Nat.le_of_ble_eq_true rfl) rfl (Nat.le_of_ble_eq_true rfl) rfl (m_mono (fun r g12 hr => ?_) h)
      obtain ⟨rfl, h⟩ := hr
      show Zm w (d + 3) mX11_readsPeople 66 [some (aR (some (228))), some (aI (x1)), some (aI (x2)), some (aI ((iRem x2 6))), some (aI ((tof ((iRem x2 6)) (g 233 (nm (48 + x2)).toNat))))] [] g12 P
      refine z_aload_n dX11_readsPeople_66 rfl rfl ?_
      refine z_dup dX11_readsPeople_67 rfl ?_
      refine z_getI dX11_readsPeople_68 fl_X11_140 (by decide) kt_228 ?_
      refine z_iload_n dX11_readsPeople_71 rfl rfl ?_
      refine z_iconst dX11_readsPeople_72 ?_
      refine z_icmp_ne (tgt := 80) dX11_readsPeople_73 (by decide) (fun c14 => ?_) (fun c14 => ?_)
      · replace h := h.1 c14
        refine z_iconst dX11_readsPeople_80 ?_
        refine z_iadd dX11_readsPeople_81 ?_
        replace h := h _ rfl
        refine z_putI dX11_readsPeople_82 fw_X11_140 (by decide) kt_228 ?_
        refine z_iinc dX11_readsPeople_85 rfl (by decide) rfl ?_
        show Zm w (d + 3) mX11_readsPeople 88 [some (aR (some (228))), some (aI (x1)), some (aI (x2 + 1)), some (aI ((iRem x2 6))), some (aI ((tof ((iRem x2 6)) (g 233 (nm (48 + x2)).toNat))))] [] (up2 g12 228 10 ((g12 228 10) + 0)) P
        refine z_goto (tgt := 14) dX11_readsPeople_88 (by decide) ?_
        exact z_weak (by simp [lle]) h
      · replace h := h.2 (Decidable.not_not.mp c14)
        refine z_iconst dX11_readsPeople_76 ?_
        refine z_goto (tgt := 81) dX11_readsPeople_77 (by decide) ?_
        refine z_iadd dX11_readsPeople_81 ?_
        replace h := h _ rfl
        refine z_putI dX11_readsPeople_82 fw_X11_140 (by decide) kt_228 ?_
        refine z_iinc dX11_readsPeople_85 rfl (by decide) rfl ?_
        show Zm w (d + 3) mX11_readsPeople 88 [some (aR (some (228))), some (aI (x1)), some (aI (x2 + 1)), some (aI ((iRem x2 6))), some (aI ((tof ((iRem x2 6)) (g 233 (nm (48 + x2)).toNat))))] [] (up2 g12 228 10 ((g12 228 10) + 1)) P
        refine z_goto (tgt := 14) dX11_readsPeople_88 (by decide) ?_
        exact z_weak (by simp [lle]) h
    · replace h := h.2 (Decidable.not_not.mp c11)
      refine z_aload_n dX11_readsPeople_46 rfl rfl ?_
      refine z_iconst dX11_readsPeople_47 ?_
      replace h := h _ rfl
      refine z_putI dX11_readsPeople_48 fw_X11_140 (by decide) kt_228 ?_
      refine z_iload_n dX11_readsPeople_51 rfl rfl ?_
      exact m_iret dX11_readsPeople_52 rfl h
theorem dX11_fault_0 : decode cX11_fault 0 = .ok (.iload_n 1, 1) := by decide +kernel
theorem dX11_fault_1 : decode cX11_fault 1 = .ok (.invokestatic 116, 3) := by decide +kernel
theorem dX11_fault_4 : decode cX11_fault 4 = .ok (.ifCond .ne 8, 3) := by decide +kernel
theorem dX11_fault_7 : decode cX11_fault 7 = .ok (.bipush (-2), 2) := by decide +kernel
theorem dX11_fault_9 : decode cX11_fault 9 = .ok (.goto 18, 3) := by decide +kernel
theorem dX11_fault_12 : decode cX11_fault 12 = .ok (.iload_n 1, 1) := by decide +kernel
theorem dX11_fault_13 : decode cX11_fault 13 = .ok (.ifCond .ne 10, 3) := by decide +kernel
theorem dX11_fault_16 : decode cX11_fault 16 = .ok (.aload_n 0, 1) := by decide +kernel
theorem dX11_fault_17 : decode cX11_fault 17 = .ok (.invokevirtual 150, 3) := by decide +kernel
theorem dX11_fault_20 : decode cX11_fault 20 = .ok (.goto 7, 3) := by decide +kernel
theorem dX11_fault_23 : decode cX11_fault 23 = .ok (.aload_n 0, 1) := by decide +kernel
theorem dX11_fault_24 : decode cX11_fault 24 = .ok (.invokevirtual 154, 3) := by decide +kernel
theorem dX11_fault_27 : decode cX11_fault 27 = .ok (.ireturn, 1) := by decide +kernel
set_option maxRecDepth 4000 in
theorem s_X11_fault_0 {w : GX} {d : Nat} {P : PN} {g : GI} (x1 : Int)
    (h : (((¬ nm (inn (x1) 0 1) = 0 → ((¬ nm x1 = 0 → Zm w (d + 3) mX11_readsPeople 0 [some (aR (some (228))), none, none, none, none] [] g (fun r g3 => ∃ z4 : Int, r = some (aI z4) ∧ P (some (aI (z4))) g3)) ∧ (nm x1 = 0 → Zm w (d + 3) mX11_readsRiver 0 [some (aR (some (228))), none, none, none] [] g (fun r g5 => ∃ z6 : Int, r = some (aI z6) ∧ P (some (aI (z6))) g5)))) ∧ (nm (inn (x1) 0 1) = 0 → P (some (aI ((-2)))) g)))) :
    Zm w (d + 4) mX11_fault 0 [some (aR (some (228))), some (aI (x1))] [] g P := by
  refine z_iload_n dX11_fault_0 rfl rfl ?_
  refine m_callS (as := [aI (x1)]) dX11_fault_1 lk_X11_116 mok_X11_isTwo st_X11_isTwo rfl (Nat.le_of_ble_eq_true rfl) rfl (Nat.le_of_ble_eq_true rfl) rfl (c_X11_isTwo  ?_)
  show Zm w (d + 4) mX11_fault 4 [some (aR (some (228))), some (aI (x1))] [aI (inn (x1) 0 1)] g P
  refine z_if_ne (tgt := 12) dX11_fault_4 (by decide) (fun c1 => ?_) (fun c1 => ?_)
  · replace h := h.1 c1
    refine z_iload_n dX11_fault_12 rfl rfl ?_
    refine z_if_ne (tgt := 23) dX11_fault_13 (by decide) (fun c2 => ?_) (fun c2 => ?_)
    · replace h := h.1 c2
      refine z_aload_n dX11_fault_23 rfl rfl ?_
      refine m_callV (as := []) dX11_fault_24 lk_X11_154 mok_X11_readsPeople in_X11_readsPeople sl_X11_readsPeople kt_228 rfl rfl rfl (Nat.le_of_ble_eq_true rfl) rfl (Nat.le_of_ble_eq_true rfl) rfl (m_mono (fun r g3 hr => ?_) h)
      obtain ⟨z4, rfl, h⟩ := hr
      show Zm w (d + 4) mX11_fault 27 [some (aR (some (228))), some (aI (x1))] [aI (z4)] g3 P
      exact m_iret dX11_fault_27 rfl h
    · replace h := h.2 (Decidable.not_not.mp c2)
      refine z_aload_n dX11_fault_16 rfl rfl ?_
      refine m_callV (as := []) dX11_fault_17 lk_X11_150 mok_X11_readsRiver in_X11_readsRiver sl_X11_readsRiver kt_228 rfl rfl rfl (Nat.le_of_ble_eq_true rfl) rfl (Nat.le_of_ble_eq_true rfl) rfl (m_mono (fun r g5 hr => ?_) h)
      obtain ⟨z6, rfl, h⟩ := hr
      show Zm w (d + 4) mX11_fault 20 [some (aR (some (228))), some (aI (x1))] [aI (z6)] g5 P
      refine z_goto (tgt := 27) dX11_fault_20 (by decide) ?_
      exact m_iret dX11_fault_27 rfl h
  · replace h := h.2 (Decidable.not_not.mp c1)
    refine z_bipush dX11_fault_7 rfl ?_
    refine z_goto (tgt := 27) dX11_fault_9 (by decide) ?_
    exact m_iret dX11_fault_27 rfl h
theorem dX11_reads_0 : decode cX11_reads 0 = .ok (.aload_n 0, 1) := by decide +kernel
theorem dX11_reads_1 : decode cX11_reads 1 = .ok (.invokevirtual 150, 3) := by decide +kernel
theorem dX11_reads_4 : decode cX11_reads 4 = .ok (.pop, 1) := by decide +kernel
theorem dX11_reads_5 : decode cX11_reads 5 = .ok (.aload_n 0, 1) := by decide +kernel
theorem dX11_reads_6 : decode cX11_reads 6 = .ok (.invokevirtual 154, 3) := by decide +kernel
theorem dX11_reads_9 : decode cX11_reads 9 = .ok (.pop, 1) := by decide +kernel
theorem dX11_reads_10 : decode cX11_reads 10 = .ok (.return_, 1) := by decide +kernel
set_option maxRecDepth 4000 in
theorem s_X11_reads_0 {w : GX} {d : Nat} {P : PN} {g : GI} 
    (h : Zm w (d + 3) mX11_readsRiver 0 [some (aR (some (228))), none, none, none] [] g (fun r g1 => ∃ z2 : Int, r = some (aI z2) ∧ Zm w (d + 3) mX11_readsPeople 0 [some (aR (some (228))), none, none, none, none] [] g1 (fun r g3 => ∃ z4 : Int, r = some (aI z4) ∧ P none g3))) :
    Zm w (d + 4) mX11_reads 0 [some (aR (some (228)))] [] g P := by
  refine z_aload_n dX11_reads_0 rfl rfl ?_
  refine m_callV (as := []) dX11_reads_1 lk_X11_150 mok_X11_readsRiver in_X11_readsRiver sl_X11_readsRiver kt_228 rfl rfl rfl (Nat.le_of_ble_eq_true rfl) rfl (Nat.le_of_ble_eq_true rfl) rfl (m_mono (fun r g1 hr => ?_) h)
  obtain ⟨z2, rfl, h⟩ := hr
  show Zm w (d + 4) mX11_reads 4 [some (aR (some (228)))] [aI (z2)] g1 P
  refine z_pop dX11_reads_4 rfl ?_
  refine z_aload_n dX11_reads_5 rfl rfl ?_
  refine m_callV (as := []) dX11_reads_6 lk_X11_154 mok_X11_readsPeople in_X11_readsPeople sl_X11_readsPeople kt_228 rfl rfl rfl (Nat.le_of_ble_eq_true rfl) rfl (Nat.le_of_ble_eq_true rfl) rfl (m_mono (fun r g3 hr => ?_) h)
  obtain ⟨z4, rfl, h⟩ := hr
  show Zm w (d + 4) mX11_reads 9 [some (aR (some (228)))] [aI (z4)] g3 P
  refine z_pop dX11_reads_9 rfl ?_
  exact m_vret dX11_reads_10 rfl h
theorem dX11_cell_0 : decode cX11_cell 0 = .ok (.aload_n 0, 1) := by decide +kernel
theorem dX11_cell_1 : decode cX11_cell 1 = .ok (.invokevirtual 161, 3) := by decide +kernel
theorem dX11_cell_4 : decode cX11_cell 4 = .ok (.iload_n 1, 1) := by decide +kernel
theorem dX11_cell_5 : decode cX11_cell 5 = .ok (.i2l, 1) := by decide +kernel
theorem dX11_cell_6 : decode cX11_cell 6 = .ok (.lconst 0, 1) := by decide +kernel
theorem dX11_cell_7 : decode cX11_cell 7 = .ok (.ldc2_w 159, 3) := by decide +kernel
theorem dX11_cell_10 : decode cX11_cell 10 = .ok (.invokestatic 88, 3) := by decide +kernel
theorem dX11_cell_13 : decode cX11_cell 13 = .ok (.ifCond .ne 8, 3) := by decide +kernel
theorem dX11_cell_16 : decode cX11_cell 16 = .ok (.bipush (-2), 2) := by decide +kernel
theorem dX11_cell_18 : decode cX11_cell 18 = .ok (.goto 21, 3) := by decide +kernel
theorem dX11_cell_21 : decode cX11_cell 21 = .ok (.iload_n 1, 1) := by decide +kernel
theorem dX11_cell_22 : decode cX11_cell 22 = .ok (.aload_n 0, 1) := by decide +kernel
theorem dX11_cell_23 : decode cX11_cell 23 = .ok (.getfield 125, 3) := by decide +kernel
theorem dX11_cell_26 : decode cX11_cell 26 = .ok (.if_icmp .ge 12, 3) := by decide +kernel
theorem dX11_cell_29 : decode cX11_cell 29 = .ok (.aload_n 0, 1) := by decide +kernel
theorem dX11_cell_30 : decode cX11_cell 30 = .ok (.getfield 28, 3) := by decide +kernel
theorem dX11_cell_33 : decode cX11_cell 33 = .ok (.iload_n 1, 1) := by decide +kernel
theorem dX11_cell_34 : decode cX11_cell 34 = .ok (.iaload, 1) := by decide +kernel
theorem dX11_cell_35 : decode cX11_cell 35 = .ok (.goto 4, 3) := by decide +kernel
theorem dX11_cell_38 : decode cX11_cell 38 = .ok (.iconst (-1), 1) := by decide +kernel
theorem dX11_cell_39 : decode cX11_cell 39 = .ok (.ireturn, 1) := by decide +kernel
set_option maxRecDepth 4000 in
theorem s_X11_cell_0 {w : GX} {d : Nat} {P : PN} {g : GI} (x1 : Int)
    (h : Zm w (d + 4) mX11_reads 0 [some (aR (some (228)))] [] g (fun r g1 => r = none ∧ (((¬ nm (lin (nm x1) (0) (19)) = 0 → ((¬ nm x1 < nm (g1 228 7) → P (some (aI ((-1)))) g1) ∧ (nm x1 < nm (g1 228 7) → (0 ≤ nm x1 ∧ nm x1 < 20 ∧ P (some (aI (g1 235 (nm x1).toNat))) g1)))) ∧ (nm (lin (nm x1) (0) (19)) = 0 → P (some (aI ((-2)))) g1))))) :
    Zm w (d + 5) mX11_cell 0 [some (aR (some (228))), some (aI (x1))] [] g P := by
  refine z_aload_n dX11_cell_0 rfl rfl ?_
  refine m_callV (as := []) dX11_cell_1 lk_X11_161 mok_X11_reads in_X11_reads sl_X11_reads kt_228 rfl rfl rfl (Nat.le_of_ble_eq_true rfl) rfl (Nat.le_of_ble_eq_true rfl) rfl (m_mono (fun r g1 hr => ?_) h)
  obtain ⟨rfl, h⟩ := hr
  show Zm w (d + 5) mX11_cell 4 [some (aR (some (228))), some (aI (x1))] [] g1 P
  refine z_iload_n dX11_cell_4 rfl rfl ?_
  refine z_i2l dX11_cell_5 ?_
  refine z_lconst (z := 0) dX11_cell_6 rfl ?_
  refine z_ldc2 dX11_cell_7 kl_X11_159 ?_
  refine m_callS (as := [aL (nm x1), aL (0), aL (19)]) dX11_cell_10 lk_X11_88 mok_X11_in st_X11_in rfl (Nat.le_of_ble_eq_true rfl) rfl (Nat.le_of_ble_eq_true rfl) rfl (c_X11_in  ?_)
  show Zm w (d + 5) mX11_cell 13 [some (aR (some (228))), some (aI (x1))] [aI (lin (nm x1) (0) (19))] g1 P
  refine z_if_ne (tgt := 21) dX11_cell_13 (by decide) (fun c3 => ?_) (fun c3 => ?_)
  · replace h := h.1 c3
    refine z_iload_n dX11_cell_21 rfl rfl ?_
    refine z_aload_n dX11_cell_22 rfl rfl ?_
    refine z_getI dX11_cell_23 fl_X11_125 (by decide) kt_228 ?_
    refine z_icmp_ge (tgt := 38) dX11_cell_26 (by decide) (fun c4 => ?_) (fun c4 => ?_)
    · replace h := h.1 c4
      refine z_iconst dX11_cell_38 ?_
      exact m_iret dX11_cell_39 rfl h
    · replace h := h.2 (Decidable.not_not.mp c4)
      refine z_aload_n dX11_cell_29 rfl rfl ?_
      refine m_getR dX11_cell_30 fl_X11_28 (by decide) kt_228 rv_228_8 ?_
      refine z_iload_n dX11_cell_33 rfl rfl ?_
      obtain ⟨q7, q8, h⟩ := h
      refine m_iald dX11_cell_34 kv_235 q7 q8 ?_
      refine z_goto (tgt := 39) dX11_cell_35 (by decide) ?_
      exact m_iret dX11_cell_39 rfl h
  · replace h := h.2 (Decidable.not_not.mp c3)
    refine z_bipush dX11_cell_16 rfl ?_
    refine z_goto (tgt := 39) dX11_cell_18 (by decide) ?_
    exact m_iret dX11_cell_39 rfl h
theorem dX11_person_0 : decode cX11_person 0 = .ok (.aload_n 0, 1) := by decide +kernel
theorem dX11_person_1 : decode cX11_person 1 = .ok (.invokevirtual 161, 3) := by decide +kernel
theorem dX11_person_4 : decode cX11_person 4 = .ok (.aload_n 0, 1) := by decide +kernel
theorem dX11_person_5 : decode cX11_person 5 = .ok (.iload_n 1, 1) := by decide +kernel
theorem dX11_person_6 : decode cX11_person 6 = .ok (.invokevirtual 164, 3) := by decide +kernel
theorem dX11_person_9 : decode cX11_person 9 = .ok (.ifCond .eq 28, 3) := by decide +kernel
theorem dX11_person_12 : decode cX11_person 12 = .ok (.iload_n 2, 1) := by decide +kernel
theorem dX11_person_13 : decode cX11_person 13 = .ok (.i2l, 1) := by decide +kernel
theorem dX11_person_14 : decode cX11_person 14 = .ok (.lconst 0, 1) := by decide +kernel
theorem dX11_person_15 : decode cX11_person 15 = .ok (.ldc2_w 95, 3) := by decide +kernel
theorem dX11_person_18 : decode cX11_person 18 = .ok (.invokestatic 88, 3) := by decide +kernel
theorem dX11_person_21 : decode cX11_person 21 = .ok (.ifCond .eq 16, 3) := by decide +kernel
theorem dX11_person_24 : decode cX11_person 24 = .ok (.aload_n 0, 1) := by decide +kernel
theorem dX11_person_25 : decode cX11_person 25 = .ok (.getfield 34, 3) := by decide +kernel
theorem dX11_person_28 : decode cX11_person 28 = .ok (.iconst 4, 1) := by decide +kernel
theorem dX11_person_29 : decode cX11_person 29 = .ok (.iload_n 1, 1) := by decide +kernel
theorem dX11_person_30 : decode cX11_person 30 = .ok (.imul, 1) := by decide +kernel
theorem dX11_person_31 : decode cX11_person 31 = .ok (.iload_n 2, 1) := by decide +kernel
theorem dX11_person_32 : decode cX11_person 32 = .ok (.iadd, 1) := by decide +kernel
theorem dX11_person_33 : decode cX11_person 33 = .ok (.iaload, 1) := by decide +kernel
theorem dX11_person_34 : decode cX11_person 34 = .ok (.goto 5, 3) := by decide +kernel
theorem dX11_person_37 : decode cX11_person 37 = .ok (.bipush (-2), 2) := by decide +kernel
theorem dX11_person_39 : decode cX11_person 39 = .ok (.ireturn, 1) := by decide +kernel
set_option maxRecDepth 4000 in
theorem s_X11_person_0 {w : GX} {d : Nat} {P : PN} {g : GI} (x1 : Int) (x2 : Int)
    (h : Zm w (d + 4) mX11_reads 0 [some (aR (some (228)))] [] g (fun r g1 => r = none ∧ (((nm (inn (x1) 0 (nm (g1 228 10 - 1))) = 0 → P (some (aI ((-2)))) g1) ∧ (¬ nm (inn (x1) 0 (nm (g1 228 10 - 1))) = 0 → (((nm (lin (nm x2) (0) (3)) = 0 → P (some (aI ((-2)))) g1) ∧ (¬ nm (lin (nm x2) (0) (3)) = 0 → (0 ≤ nm ((4 * x1) + x2) ∧ nm ((4 * x1) + x2) < 32 ∧ P (some (aI (g1 237 (nm ((4 * x1) + x2)).toNat))) g1))))))))) :
    Zm w (d + 5) mX11_person 0 [some (aR (some (228))), some (aI (x1)), some (aI (x2))] [] g P := by
  refine z_aload_n dX11_person_0 rfl rfl ?_
  refine m_callV (as := []) dX11_person_1 lk_X11_161 mok_X11_reads in_X11_reads sl_X11_reads kt_228 rfl rfl rfl (Nat.le_of_ble_eq_true rfl) rfl (Nat.le_of_ble_eq_true rfl) rfl (m_mono (fun r g1 hr => ?_) h)
  obtain ⟨rfl, h⟩ := hr
  show Zm w (d + 5) mX11_person 4 [some (aR (some (228))), some (aI (x1)), some (aI (x2))] [] g1 P
  refine z_aload_n dX11_person_4 rfl rfl ?_
  refine z_iload_n dX11_person_5 rfl rfl ?_
  refine m_callV (as := [aI (x1)]) dX11_person_6 lk_X11_164 mok_X11_isPerson in_X11_isPerson sl_X11_isPerson kt_228 rfl rfl rfl (Nat.le_of_ble_eq_true rfl) rfl (Nat.le_of_ble_eq_true rfl) rfl (c_X11_isPerson  ?_)
  show Zm w (d + 5) mX11_person 9 [some (aR (some (228))), some (aI (x1)), some (aI (x2))] [aI (inn (x1) 0 (nm (g1 228 10 - 1)))] g1 P
  refine z_if_eq (tgt := 37) dX11_person_9 (by decide) (fun c3 => ?_) (fun c3 => ?_)
  · replace h := h.1 c3
    refine z_bipush dX11_person_37 rfl ?_
    exact m_iret dX11_person_39 rfl h
  · replace h := h.2 c3
    refine z_iload_n dX11_person_12 rfl rfl ?_
    refine z_i2l dX11_person_13 ?_
    refine z_lconst (z := 0) dX11_person_14 rfl ?_
    refine z_ldc2 dX11_person_15 kl_X11_95 ?_
    refine m_callS (as := [aL (nm x2), aL (0), aL (3)]) dX11_person_18 lk_X11_88 mok_X11_in st_X11_in rfl (Nat.le_of_ble_eq_true rfl) rfl (Nat.le_of_ble_eq_true rfl) rfl (c_X11_in  ?_)
    show Zm w (d + 5) mX11_person 21 [some (aR (some (228))), some (aI (x1)), some (aI (x2))] [aI (lin (nm x2) (0) (3))] g1 P
    refine z_if_eq (tgt := 37) dX11_person_21 (by decide) (fun c4 => ?_) (fun c4 => ?_)
    · replace h := h.1 c4
      refine z_bipush dX11_person_37 rfl ?_
      exact m_iret dX11_person_39 rfl h
    · replace h := h.2 c4
      refine z_aload_n dX11_person_24 rfl rfl ?_
      refine m_getR dX11_person_25 fl_X11_34 (by decide) kt_228 rv_228_11 ?_
      refine z_iconst dX11_person_28 ?_
      refine z_iload_n dX11_person_29 rfl rfl ?_
      refine z_imul dX11_person_30 ?_
      refine z_iload_n dX11_person_31 rfl rfl ?_
      refine z_iadd dX11_person_32 ?_
      obtain ⟨q7, q8, h⟩ := h
      refine m_iald dX11_person_33 kv_237 q7 q8 ?_
      refine z_goto (tgt := 39) dX11_person_34 (by decide) ?_
      exact m_iret dX11_person_39 rfl h
theorem dX11_wear_0 : decode cX11_wear 0 = .ok (.iload_n 1, 1) := by decide +kernel
theorem dX11_wear_1 : decode cX11_wear 1 = .ok (.i2l, 1) := by decide +kernel
theorem dX11_wear_2 : decode cX11_wear 2 = .ok (.lconst 1, 1) := by decide +kernel
theorem dX11_wear_3 : decode cX11_wear 3 = .ok (.ldc2_w 167, 3) := by decide +kernel
theorem dX11_wear_6 : decode cX11_wear 6 = .ok (.invokestatic 88, 3) := by decide +kernel
theorem dX11_wear_9 : decode cX11_wear 9 = .ok (.ifCond .ne 6, 3) := by decide +kernel
theorem dX11_wear_12 : decode cX11_wear 12 = .ok (.bipush (-2), 2) := by decide +kernel
theorem dX11_wear_14 : decode cX11_wear 14 = .ok (.ireturn, 1) := by decide +kernel
theorem dX11_wear_15 : decode cX11_wear 15 = .ok (.aload_n 0, 1) := by decide +kernel
theorem dX11_wear_16 : decode cX11_wear 16 = .ok (.getfield 73, 3) := by decide +kernel
theorem dX11_wear_19 : decode cX11_wear 19 = .ok (.istore_n 2, 1) := by decide +kernel
theorem dX11_wear_20 : decode cX11_wear 20 = .ok (.aload_n 0, 1) := by decide +kernel
theorem dX11_wear_21 : decode cX11_wear 21 = .ok (.iload_n 1, 1) := by decide +kernel
theorem dX11_wear_22 : decode cX11_wear 22 = .ok (.putfield 73, 3) := by decide +kernel
theorem dX11_wear_25 : decode cX11_wear 25 = .ok (.iload_n 2, 1) := by decide +kernel
theorem dX11_wear_26 : decode cX11_wear 26 = .ok (.ireturn, 1) := by decide +kernel
set_option maxRecDepth 4000 in
theorem s_X11_wear_0 {w : GX} {d : Nat} {P : PN} {g : GI} (x1 : Int)
    (h : (((¬ nm (lin (nm x1) (1) (20)) = 0 → (∀ v2 : Int, v2 = g 228 13 → (∀ g3 : GI, g3 = up2 g 228 13 x1 → P (some (aI (v2))) g3))) ∧ (nm (lin (nm x1) (1) (20)) = 0 → P (some (aI ((-2)))) g)))) :
    Zm w (d + 1) mX11_wear 0 [some (aR (some (228))), some (aI (x1)), none] [] g P := by
  refine z_iload_n dX11_wear_0 rfl rfl ?_
  refine z_i2l dX11_wear_1 ?_
  refine z_lconst (z := 1) dX11_wear_2 rfl ?_
  refine z_ldc2 dX11_wear_3 kl_X11_167 ?_
  refine m_callS (as := [aL (nm x1), aL (1), aL (20)]) dX11_wear_6 lk_X11_88 mok_X11_in st_X11_in rfl (Nat.le_of_ble_eq_true rfl) rfl (Nat.le_of_ble_eq_true rfl) rfl (c_X11_in  ?_)
  show Zm w (d + 1) mX11_wear 9 [some (aR (some (228))), some (aI (x1)), none] [aI (lin (nm x1) (1) (20))] g P
  refine z_if_ne (tgt := 15) dX11_wear_9 (by decide) (fun c1 => ?_) (fun c1 => ?_)
  · replace h := h.1 c1
    refine z_aload_n dX11_wear_15 rfl rfl ?_
    refine z_getI dX11_wear_16 fl_X11_73 (by decide) kt_228 ?_
    replace h := h _ rfl
    refine z_istore_n dX11_wear_19 rfl (by decide) rfl ?_
    show Zm w (d + 1) mX11_wear 20 [some (aR (some (228))), some (aI (x1)), some (aI (g 228 13))] [] g P
    refine z_aload_n dX11_wear_20 rfl rfl ?_
    refine z_iload_n dX11_wear_21 rfl rfl ?_
    replace h := h _ rfl
    refine z_putI dX11_wear_22 fw_X11_73 (by decide) kt_228 ?_
    refine z_iload_n dX11_wear_25 rfl rfl ?_
    exact m_iret dX11_wear_26 rfl h
  · replace h := h.2 (Decidable.not_not.mp c1)
    refine z_bipush dX11_wear_12 rfl ?_
    exact m_iret dX11_wear_14 rfl h
theorem dX11_crosses_0 : decode cX11_crosses 0 = .ok (.aload_n 0, 1) := by decide +kernel
theorem dX11_crosses_1 : decode cX11_crosses 1 = .ok (.getfield 37, 3) := by decide +kernel
theorem dX11_crosses_4 : decode cX11_crosses 4 = .ok (.iconst 2, 1) := by decide +kernel
theorem dX11_crosses_5 : decode cX11_crosses 5 = .ok (.aload_n 0, 1) := by decide +kernel
theorem dX11_crosses_6 : decode cX11_crosses 6 = .ok (.getfield 169, 3) := by decide +kernel
theorem dX11_crosses_9 : decode cX11_crosses 9 = .ok (.imul, 1) := by decide +kernel
theorem dX11_crosses_10 : decode cX11_crosses 10 = .ok (.iload_n 1, 1) := by decide +kernel
theorem dX11_crosses_11 : decode cX11_crosses 11 = .ok (.iastore, 1) := by decide +kernel
theorem dX11_crosses_12 : decode cX11_crosses 12 = .ok (.aload_n 0, 1) := by decide +kernel
theorem dX11_crosses_13 : decode cX11_crosses 13 = .ok (.getfield 37, 3) := by decide +kernel
theorem dX11_crosses_16 : decode cX11_crosses 16 = .ok (.iconst 2, 1) := by decide +kernel
theorem dX11_crosses_17 : decode cX11_crosses 17 = .ok (.aload_n 0, 1) := by decide +kernel
theorem dX11_crosses_18 : decode cX11_crosses 18 = .ok (.getfield 169, 3) := by decide +kernel
theorem dX11_crosses_21 : decode cX11_crosses 21 = .ok (.imul, 1) := by decide +kernel
theorem dX11_crosses_22 : decode cX11_crosses 22 = .ok (.iconst 1, 1) := by decide +kernel
theorem dX11_crosses_23 : decode cX11_crosses 23 = .ok (.iadd, 1) := by decide +kernel
theorem dX11_crosses_24 : decode cX11_crosses 24 = .ok (.iload_n 2, 1) := by decide +kernel
theorem dX11_crosses_25 : decode cX11_crosses 25 = .ok (.iastore, 1) := by decide +kernel
theorem dX11_crosses_26 : decode cX11_crosses 26 = .ok (.aload_n 0, 1) := by decide +kernel
theorem dX11_crosses_27 : decode cX11_crosses 27 = .ok (.dup, 1) := by decide +kernel
theorem dX11_crosses_28 : decode cX11_crosses 28 = .ok (.getfield 169, 3) := by decide +kernel
theorem dX11_crosses_31 : decode cX11_crosses 31 = .ok (.iconst 1, 1) := by decide +kernel
theorem dX11_crosses_32 : decode cX11_crosses 32 = .ok (.iadd, 1) := by decide +kernel
theorem dX11_crosses_33 : decode cX11_crosses 33 = .ok (.putfield 169, 3) := by decide +kernel
theorem dX11_crosses_36 : decode cX11_crosses 36 = .ok (.return_, 1) := by decide +kernel
set_option maxRecDepth 4000 in
theorem s_X11_crosses_0 {w : GX} {d : Nat} {P : PN} {g : GI} (x1 : Int) (x2 : Int)
    (h : (0 ≤ nm (2 * (g 228 14)) ∧ nm (2 * (g 228 14)) < 72 ∧ ∀ g1 : GI, g1 = up2 g 238 (nm (2 * (g 228 14))).toNat x1 → (0 ≤ nm ((2 * (g1 228 14)) + 1) ∧ nm ((2 * (g1 228 14)) + 1) < 72 ∧ ∀ g4 : GI, g4 = up2 g1 238 (nm ((2 * (g1 228 14)) + 1)).toNat x2 → (∀ g7 : GI, g7 = up2 g4 228 14 ((g4 228 14) + 1) → P none g7)))) :
    Zm w d mX11_crosses 0 [some (aR (some (228))), some (aI (x1)), some (aI (x2))] [] g P := by
  refine z_aload_n dX11_crosses_0 rfl rfl ?_
  refine m_getR dX11_crosses_1 fl_X11_37 (by decide) kt_228 rv_228_15 ?_
  refine z_iconst dX11_crosses_4 ?_
  refine z_aload_n dX11_crosses_5 rfl rfl ?_
  refine z_getI dX11_crosses_6 fl_X11_169 (by decide) kt_228 ?_
  refine z_imul dX11_crosses_9 ?_
  refine z_iload_n dX11_crosses_10 rfl rfl ?_
  obtain ⟨q2, q3, h⟩ := h
  replace h := h _ rfl
  refine m_iast dX11_crosses_11 kv_238 q2 q3 ?_
  refine z_aload_n dX11_crosses_12 rfl rfl ?_
  refine m_getR dX11_crosses_13 fl_X11_37 (by decide) kt_228 rv_228_15 ?_
  refine z_iconst dX11_crosses_16 ?_
  refine z_aload_n dX11_crosses_17 rfl rfl ?_
  refine z_getI dX11_crosses_18 fl_X11_169 (by decide) kt_228 ?_
  refine z_imul dX11_crosses_21 ?_
  refine z_iconst dX11_crosses_22 ?_
  refine z_iadd dX11_crosses_23 ?_
  refine z_iload_n dX11_crosses_24 rfl rfl ?_
  obtain ⟨q5, q6, h⟩ := h
  replace h := h _ rfl
  refine m_iast dX11_crosses_25 kv_238 q5 q6 ?_
  refine z_aload_n dX11_crosses_26 rfl rfl ?_
  refine z_dup dX11_crosses_27 rfl ?_
  refine z_getI dX11_crosses_28 fl_X11_169 (by decide) kt_228 ?_
  refine z_iconst dX11_crosses_31 ?_
  refine z_iadd dX11_crosses_32 ?_
  replace h := h _ rfl
  refine z_putI dX11_crosses_33 fw_X11_169 (by decide) kt_228 ?_
  exact m_vret dX11_crosses_36 rfl h
theorem dX11_cross_0 : decode cX11_cross 0 = .ok (.iload_n 1, 1) := by decide +kernel
theorem dX11_cross_1 : decode cX11_cross 1 = .ok (.invokestatic 172, 3) := by decide +kernel
theorem dX11_cross_4 : decode cX11_cross 4 = .ok (.ifCond .eq 10, 3) := by decide +kernel
theorem dX11_cross_7 : decode cX11_cross 7 = .ok (.iload_n 2, 1) := by decide +kernel
theorem dX11_cross_8 : decode cX11_cross 8 = .ok (.invokestatic 175, 3) := by decide +kernel
theorem dX11_cross_11 : decode cX11_cross 11 = .ok (.ifCond .ne 6, 3) := by decide +kernel
theorem dX11_cross_14 : decode cX11_cross 14 = .ok (.bipush (-2), 2) := by decide +kernel
theorem dX11_cross_16 : decode cX11_cross 16 = .ok (.ireturn, 1) := by decide +kernel
theorem dX11_cross_17 : decode cX11_cross 17 = .ok (.aload_n 0, 1) := by decide +kernel
theorem dX11_cross_18 : decode cX11_cross 18 = .ok (.getfield 169, 3) := by decide +kernel
theorem dX11_cross_21 : decode cX11_cross 21 = .ok (.bipush 16, 2) := by decide +kernel
theorem dX11_cross_23 : decode cX11_cross 23 = .ok (.if_icmp .ne 6, 3) := by decide +kernel
theorem dX11_cross_26 : decode cX11_cross 26 = .ok (.bipush (-4), 2) := by decide +kernel
theorem dX11_cross_28 : decode cX11_cross 28 = .ok (.ireturn, 1) := by decide +kernel
theorem dX11_cross_29 : decode cX11_cross 29 = .ok (.aload_n 0, 1) := by decide +kernel
theorem dX11_cross_30 : decode cX11_cross 30 = .ok (.iload_n 1, 1) := by decide +kernel
theorem dX11_cross_31 : decode cX11_cross 31 = .ok (.iload_n 2, 1) := by decide +kernel
theorem dX11_cross_32 : decode cX11_cross 32 = .ok (.invokevirtual 178, 3) := by decide +kernel
theorem dX11_cross_35 : decode cX11_cross 35 = .ok (.aload_n 0, 1) := by decide +kernel
theorem dX11_cross_36 : decode cX11_cross 36 = .ok (.getfield 169, 3) := by decide +kernel
theorem dX11_cross_39 : decode cX11_cross 39 = .ok (.ireturn, 1) := by decide +kernel
set_option maxRecDepth 4000 in
theorem s_X11_cross_0 {w : GX} {d : Nat} {P : PN} {g : GI} (x1 : Int) (x2 : Int)
    (h : (((nm (inn (x1) 0 19) = 0 → P (some (aI ((-2)))) g) ∧ (¬ nm (inn (x1) 0 19) = 0 → (((¬ nm (inn (x2) 0 7) = 0 → ((¬ nm (g 228 14) = nm 16 → Zm w (d + 1) mX11_crosses 0 [some (aR (some (228))), some (aI (x1)), some (aI (x2))] [] g (fun r g4 => r = none ∧ P (some (aI (g4 228 14))) g4)) ∧ (nm (g 228 14) = nm 16 → P (some (aI ((-4)))) g))) ∧ (nm (inn (x2) 0 7) = 0 → P (some (aI ((-2)))) g))))))) :
    Zm w (d + 2) mX11_cross 0 [some (aR (some (228))), some (aI (x1)), some (aI (x2))] [] g P := by
  refine z_iload_n dX11_cross_0 rfl rfl ?_
  refine m_callS (as := [aI (x1)]) dX11_cross_1 lk_X11_172 mok_X11_isDay st_X11_isDay rfl (Nat.le_of_ble_eq_true rfl) rfl (Nat.le_of_ble_eq_true rfl) rfl (c_X11_isDay  ?_)
  show Zm w (d + 2) mX11_cross 4 [some (aR (some (228))), some (aI (x1)), some (aI (x2))] [aI (inn (x1) 0 19)] g P
  refine z_if_eq (tgt := 14) dX11_cross_4 (by decide) (fun c1 => ?_) (fun c1 => ?_)
  · replace h := h.1 c1
    refine z_bipush dX11_cross_14 rfl ?_
    exact m_iret dX11_cross_16 rfl h
  · replace h := h.2 c1
    refine z_iload_n dX11_cross_7 rfl rfl ?_
    refine m_callS (as := [aI (x2)]) dX11_cross_8 lk_X11_175 mok_X11_isAnyone st_X11_isAnyone rfl (Nat.le_of_ble_eq_true rfl) rfl (Nat.le_of_ble_eq_true rfl) rfl (c_X11_isAnyone  ?_)
    show Zm w (d + 2) mX11_cross 11 [some (aR (some (228))), some (aI (x1)), some (aI (x2))] [aI (inn (x2) 0 7)] g P
    refine z_if_ne (tgt := 17) dX11_cross_11 (by decide) (fun c2 => ?_) (fun c2 => ?_)
    · replace h := h.1 c2
      refine z_aload_n dX11_cross_17 rfl rfl ?_
      refine z_getI dX11_cross_18 fl_X11_169 (by decide) kt_228 ?_
      refine z_bipush dX11_cross_21 rfl ?_
      refine z_icmp_ne (tgt := 29) dX11_cross_23 (by decide) (fun c3 => ?_) (fun c3 => ?_)
      · replace h := h.1 c3
        refine z_aload_n dX11_cross_29 rfl rfl ?_
        refine z_iload_n dX11_cross_30 rfl rfl ?_
        refine z_iload_n dX11_cross_31 rfl rfl ?_
        refine m_callV (as := [aI (x1), aI (x2)]) dX11_cross_32 lk_X11_178 mok_X11_crosses in_X11_crosses sl_X11_crosses kt_228 rfl rfl rfl (Nat.le_of_ble_eq_true rfl) rfl (Nat.le_of_ble_eq_true rfl) rfl (m_mono (fun r g4 hr => ?_) h)
        obtain ⟨rfl, h⟩ := hr
        show Zm w (d + 2) mX11_cross 35 [some (aR (some (228))), some (aI (x1)), some (aI (x2))] [] g4 P
        refine z_aload_n dX11_cross_35 rfl rfl ?_
        refine z_getI dX11_cross_36 fl_X11_169 (by decide) kt_228 ?_
        exact m_iret dX11_cross_39 rfl h
      · replace h := h.2 (Decidable.not_not.mp c3)
        refine z_bipush dX11_cross_26 rfl ?_
        exact m_iret dX11_cross_28 rfl h
    · replace h := h.2 (Decidable.not_not.mp c2)
      refine z_bipush dX11_cross_14 rfl ?_
      exact m_iret dX11_cross_16 rfl h
theorem dX11_catchesMore_0 : decode cX11_catchesMore 0 = .ok (.aload_n 0, 1) := by decide +kernel
theorem dX11_catchesMore_1 : decode cX11_catchesMore 1 = .ok (.getfield 40, 3) := by decide +kernel
theorem dX11_catchesMore_4 : decode cX11_catchesMore 4 = .ok (.iconst 2, 1) := by decide +kernel
theorem dX11_catchesMore_5 : decode cX11_catchesMore 5 = .ok (.aload_n 0, 1) := by decide +kernel
theorem dX11_catchesMore_6 : decode cX11_catchesMore 6 = .ok (.getfield 182, 3) := by decide +kernel
theorem dX11_catchesMore_9 : decode cX11_catchesMore 9 = .ok (.imul, 1) := by decide +kernel
theorem dX11_catchesMore_10 : decode cX11_catchesMore 10 = .ok (.iload_n 1, 1) := by decide +kernel
theorem dX11_catchesMore_11 : decode cX11_catchesMore 11 = .ok (.iastore, 1) := by decide +kernel
theorem dX11_catchesMore_12 : decode cX11_catchesMore 12 = .ok (.aload_n 0, 1) := by decide +kernel
theorem dX11_catchesMore_13 : decode cX11_catchesMore 13 = .ok (.getfield 40, 3) := by decide +kernel
theorem dX11_catchesMore_16 : decode cX11_catchesMore 16 = .ok (.iconst 2, 1) := by decide +kernel
theorem dX11_catchesMore_17 : decode cX11_catchesMore 17 = .ok (.aload_n 0, 1) := by decide +kernel
theorem dX11_catchesMore_18 : decode cX11_catchesMore 18 = .ok (.getfield 182, 3) := by decide +kernel
theorem dX11_catchesMore_21 : decode cX11_catchesMore 21 = .ok (.imul, 1) := by decide +kernel
theorem dX11_catchesMore_22 : decode cX11_catchesMore 22 = .ok (.iconst 1, 1) := by decide +kernel
theorem dX11_catchesMore_23 : decode cX11_catchesMore 23 = .ok (.iadd, 1) := by decide +kernel
theorem dX11_catchesMore_24 : decode cX11_catchesMore 24 = .ok (.iload_n 2, 1) := by decide +kernel
theorem dX11_catchesMore_25 : decode cX11_catchesMore 25 = .ok (.iastore, 1) := by decide +kernel
theorem dX11_catchesMore_26 : decode cX11_catchesMore 26 = .ok (.aload_n 0, 1) := by decide +kernel
theorem dX11_catchesMore_27 : decode cX11_catchesMore 27 = .ok (.dup, 1) := by decide +kernel
theorem dX11_catchesMore_28 : decode cX11_catchesMore 28 = .ok (.getfield 182, 3) := by decide +kernel
theorem dX11_catchesMore_31 : decode cX11_catchesMore 31 = .ok (.iconst 1, 1) := by decide +kernel
theorem dX11_catchesMore_32 : decode cX11_catchesMore 32 = .ok (.iadd, 1) := by decide +kernel
theorem dX11_catchesMore_33 : decode cX11_catchesMore 33 = .ok (.putfield 182, 3) := by decide +kernel
theorem dX11_catchesMore_36 : decode cX11_catchesMore 36 = .ok (.return_, 1) := by decide +kernel
set_option maxRecDepth 4000 in
theorem s_X11_catchesMore_0 {w : GX} {d : Nat} {P : PN} {g : GI} (x1 : Int) (x2 : Int)
    (h : (0 ≤ nm (2 * (g 228 16)) ∧ nm (2 * (g 228 16)) < 20 ∧ ∀ g1 : GI, g1 = up2 g 239 (nm (2 * (g 228 16))).toNat x1 → (0 ≤ nm ((2 * (g1 228 16)) + 1) ∧ nm ((2 * (g1 228 16)) + 1) < 20 ∧ ∀ g4 : GI, g4 = up2 g1 239 (nm ((2 * (g1 228 16)) + 1)).toNat x2 → (∀ g7 : GI, g7 = up2 g4 228 16 ((g4 228 16) + 1) → P none g7)))) :
    Zm w d mX11_catchesMore 0 [some (aR (some (228))), some (aI (x1)), some (aI (x2))] [] g P := by
  refine z_aload_n dX11_catchesMore_0 rfl rfl ?_
  refine m_getR dX11_catchesMore_1 fl_X11_40 (by decide) kt_228 rv_228_17 ?_
  refine z_iconst dX11_catchesMore_4 ?_
  refine z_aload_n dX11_catchesMore_5 rfl rfl ?_
  refine z_getI dX11_catchesMore_6 fl_X11_182 (by decide) kt_228 ?_
  refine z_imul dX11_catchesMore_9 ?_
  refine z_iload_n dX11_catchesMore_10 rfl rfl ?_
  obtain ⟨q2, q3, h⟩ := h
  replace h := h _ rfl
  refine m_iast dX11_catchesMore_11 kv_239 q2 q3 ?_
  refine z_aload_n dX11_catchesMore_12 rfl rfl ?_
  refine m_getR dX11_catchesMore_13 fl_X11_40 (by decide) kt_228 rv_228_17 ?_
  refine z_iconst dX11_catchesMore_16 ?_
  refine z_aload_n dX11_catchesMore_17 rfl rfl ?_
  refine z_getI dX11_catchesMore_18 fl_X11_182 (by decide) kt_228 ?_
  refine z_imul dX11_catchesMore_21 ?_
  refine z_iconst dX11_catchesMore_22 ?_
  refine z_iadd dX11_catchesMore_23 ?_
  refine z_iload_n dX11_catchesMore_24 rfl rfl ?_
  obtain ⟨q5, q6, h⟩ := h
  replace h := h _ rfl
  refine m_iast dX11_catchesMore_25 kv_239 q5 q6 ?_
  refine z_aload_n dX11_catchesMore_26 rfl rfl ?_
  refine z_dup dX11_catchesMore_27 rfl ?_
  refine z_getI dX11_catchesMore_28 fl_X11_182 (by decide) kt_228 ?_
  refine z_iconst dX11_catchesMore_31 ?_
  refine z_iadd dX11_catchesMore_32 ?_
  replace h := h _ rfl
  refine z_putI dX11_catchesMore_33 fw_X11_182 (by decide) kt_228 ?_
  exact m_vret dX11_catchesMore_36 rfl h
theorem dX11_angle_0 : decode cX11_angle 0 = .ok (.iload_n 1, 1) := by decide +kernel
theorem dX11_angle_1 : decode cX11_angle 1 = .ok (.invokestatic 172, 3) := by decide +kernel
theorem dX11_angle_4 : decode cX11_angle 4 = .ok (.ifCond .eq 15, 3) := by decide +kernel
theorem dX11_angle_7 : decode cX11_angle 7 = .ok (.iload_n 2, 1) := by decide +kernel
theorem dX11_angle_8 : decode cX11_angle 8 = .ok (.i2l, 1) := by decide +kernel
theorem dX11_angle_9 : decode cX11_angle 9 = .ok (.lconst 0, 1) := by decide +kernel
theorem dX11_angle_10 : decode cX11_angle 10 = .ok (.ldc2_w 159, 3) := by decide +kernel
theorem dX11_angle_13 : decode cX11_angle 13 = .ok (.invokestatic 88, 3) := by decide +kernel
theorem dX11_angle_16 : decode cX11_angle 16 = .ok (.ifCond .ne 6, 3) := by decide +kernel
theorem dX11_angle_19 : decode cX11_angle 19 = .ok (.bipush (-2), 2) := by decide +kernel
theorem dX11_angle_21 : decode cX11_angle 21 = .ok (.ireturn, 1) := by decide +kernel
theorem dX11_angle_22 : decode cX11_angle 22 = .ok (.aload_n 0, 1) := by decide +kernel
theorem dX11_angle_23 : decode cX11_angle 23 = .ok (.getfield 182, 3) := by decide +kernel
theorem dX11_angle_26 : decode cX11_angle 26 = .ok (.bipush 8, 2) := by decide +kernel
theorem dX11_angle_28 : decode cX11_angle 28 = .ok (.if_icmp .ne 6, 3) := by decide +kernel
theorem dX11_angle_31 : decode cX11_angle 31 = .ok (.bipush (-4), 2) := by decide +kernel
theorem dX11_angle_33 : decode cX11_angle 33 = .ok (.ireturn, 1) := by decide +kernel
theorem dX11_angle_34 : decode cX11_angle 34 = .ok (.aload_n 0, 1) := by decide +kernel
theorem dX11_angle_35 : decode cX11_angle 35 = .ok (.iload_n 1, 1) := by decide +kernel
theorem dX11_angle_36 : decode cX11_angle 36 = .ok (.iload_n 2, 1) := by decide +kernel
theorem dX11_angle_37 : decode cX11_angle 37 = .ok (.invokevirtual 185, 3) := by decide +kernel
theorem dX11_angle_40 : decode cX11_angle 40 = .ok (.aload_n 0, 1) := by decide +kernel
theorem dX11_angle_41 : decode cX11_angle 41 = .ok (.getfield 182, 3) := by decide +kernel
theorem dX11_angle_44 : decode cX11_angle 44 = .ok (.ireturn, 1) := by decide +kernel
set_option maxRecDepth 4000 in
theorem s_X11_angle_0 {w : GX} {d : Nat} {P : PN} {g : GI} (x1 : Int) (x2 : Int)
    (h : (((nm (inn (x1) 0 19) = 0 → P (some (aI ((-2)))) g) ∧ (¬ nm (inn (x1) 0 19) = 0 → (((¬ nm (lin (nm x2) (0) (19)) = 0 → ((¬ nm (g 228 16) = nm 8 → Zm w (d + 1) mX11_catchesMore 0 [some (aR (some (228))), some (aI (x1)), some (aI (x2))] [] g (fun r g4 => r = none ∧ P (some (aI (g4 228 16))) g4)) ∧ (nm (g 228 16) = nm 8 → P (some (aI ((-4)))) g))) ∧ (nm (lin (nm x2) (0) (19)) = 0 → P (some (aI ((-2)))) g))))))) :
    Zm w (d + 2) mX11_angle 0 [some (aR (some (228))), some (aI (x1)), some (aI (x2))] [] g P := by
  refine z_iload_n dX11_angle_0 rfl rfl ?_
  refine m_callS (as := [aI (x1)]) dX11_angle_1 lk_X11_172 mok_X11_isDay st_X11_isDay rfl (Nat.le_of_ble_eq_true rfl) rfl (Nat.le_of_ble_eq_true rfl) rfl (c_X11_isDay  ?_)
  show Zm w (d + 2) mX11_angle 4 [some (aR (some (228))), some (aI (x1)), some (aI (x2))] [aI (inn (x1) 0 19)] g P
  refine z_if_eq (tgt := 19) dX11_angle_4 (by decide) (fun c1 => ?_) (fun c1 => ?_)
  · replace h := h.1 c1
    refine z_bipush dX11_angle_19 rfl ?_
    exact m_iret dX11_angle_21 rfl h
  · replace h := h.2 c1
    refine z_iload_n dX11_angle_7 rfl rfl ?_
    refine z_i2l dX11_angle_8 ?_
    refine z_lconst (z := 0) dX11_angle_9 rfl ?_
    refine z_ldc2 dX11_angle_10 kl_X11_159 ?_
    refine m_callS (as := [aL (nm x2), aL (0), aL (19)]) dX11_angle_13 lk_X11_88 mok_X11_in st_X11_in rfl (Nat.le_of_ble_eq_true rfl) rfl (Nat.le_of_ble_eq_true rfl) rfl (c_X11_in  ?_)
    show Zm w (d + 2) mX11_angle 16 [some (aR (some (228))), some (aI (x1)), some (aI (x2))] [aI (lin (nm x2) (0) (19))] g P
    refine z_if_ne (tgt := 22) dX11_angle_16 (by decide) (fun c2 => ?_) (fun c2 => ?_)
    · replace h := h.1 c2
      refine z_aload_n dX11_angle_22 rfl rfl ?_
      refine z_getI dX11_angle_23 fl_X11_182 (by decide) kt_228 ?_
      refine z_bipush dX11_angle_26 rfl ?_
      refine z_icmp_ne (tgt := 34) dX11_angle_28 (by decide) (fun c3 => ?_) (fun c3 => ?_)
      · replace h := h.1 c3
        refine z_aload_n dX11_angle_34 rfl rfl ?_
        refine z_iload_n dX11_angle_35 rfl rfl ?_
        refine z_iload_n dX11_angle_36 rfl rfl ?_
        refine m_callV (as := [aI (x1), aI (x2)]) dX11_angle_37 lk_X11_185 mok_X11_catchesMore in_X11_catchesMore sl_X11_catchesMore kt_228 rfl rfl rfl (Nat.le_of_ble_eq_true rfl) rfl (Nat.le_of_ble_eq_true rfl) rfl (m_mono (fun r g4 hr => ?_) h)
        obtain ⟨rfl, h⟩ := hr
        show Zm w (d + 2) mX11_angle 40 [some (aR (some (228))), some (aI (x1)), some (aI (x2))] [] g4 P
        refine z_aload_n dX11_angle_40 rfl rfl ?_
        refine z_getI dX11_angle_41 fl_X11_182 (by decide) kt_228 ?_
        exact m_iret dX11_angle_44 rfl h
      · replace h := h.2 (Decidable.not_not.mp c3)
        refine z_bipush dX11_angle_31 rfl ?_
        exact m_iret dX11_angle_33 rfl h
    · replace h := h.2 (Decidable.not_not.mp c2)
      refine z_bipush dX11_angle_19 rfl ?_
      exact m_iret dX11_angle_21 rfl h
theorem dX11_flood_0 : decode cX11_flood 0 = .ok (.iload_n 1, 1) := by decide +kernel
theorem dX11_flood_1 : decode cX11_flood 1 = .ok (.invokestatic 172, 3) := by decide +kernel
theorem dX11_flood_4 : decode cX11_flood 4 = .ok (.ifCond .ne 6, 3) := by decide +kernel
theorem dX11_flood_7 : decode cX11_flood 7 = .ok (.bipush (-2), 2) := by decide +kernel
theorem dX11_flood_9 : decode cX11_flood 9 = .ok (.ireturn, 1) := by decide +kernel
theorem dX11_flood_10 : decode cX11_flood 10 = .ok (.aload_n 0, 1) := by decide +kernel
theorem dX11_flood_11 : decode cX11_flood 11 = .ok (.getfield 188, 3) := by decide +kernel
theorem dX11_flood_14 : decode cX11_flood 14 = .ok (.bipush 6, 2) := by decide +kernel
theorem dX11_flood_16 : decode cX11_flood 16 = .ok (.if_icmp .ne 6, 3) := by decide +kernel
theorem dX11_flood_19 : decode cX11_flood 19 = .ok (.bipush (-4), 2) := by decide +kernel
theorem dX11_flood_21 : decode cX11_flood 21 = .ok (.ireturn, 1) := by decide +kernel
theorem dX11_flood_22 : decode cX11_flood 22 = .ok (.aload_n 0, 1) := by decide +kernel
theorem dX11_flood_23 : decode cX11_flood 23 = .ok (.getfield 43, 3) := by decide +kernel
theorem dX11_flood_26 : decode cX11_flood 26 = .ok (.aload_n 0, 1) := by decide +kernel
theorem dX11_flood_27 : decode cX11_flood 27 = .ok (.getfield 188, 3) := by decide +kernel
theorem dX11_flood_30 : decode cX11_flood 30 = .ok (.iload_n 1, 1) := by decide +kernel
theorem dX11_flood_31 : decode cX11_flood 31 = .ok (.iastore, 1) := by decide +kernel
theorem dX11_flood_32 : decode cX11_flood 32 = .ok (.aload_n 0, 1) := by decide +kernel
theorem dX11_flood_33 : decode cX11_flood 33 = .ok (.dup, 1) := by decide +kernel
theorem dX11_flood_34 : decode cX11_flood 34 = .ok (.getfield 188, 3) := by decide +kernel
theorem dX11_flood_37 : decode cX11_flood 37 = .ok (.iconst 1, 1) := by decide +kernel
theorem dX11_flood_38 : decode cX11_flood 38 = .ok (.iadd, 1) := by decide +kernel
theorem dX11_flood_39 : decode cX11_flood 39 = .ok (.putfield 188, 3) := by decide +kernel
theorem dX11_flood_42 : decode cX11_flood 42 = .ok (.aload_n 0, 1) := by decide +kernel
theorem dX11_flood_43 : decode cX11_flood 43 = .ok (.getfield 188, 3) := by decide +kernel
theorem dX11_flood_46 : decode cX11_flood 46 = .ok (.ireturn, 1) := by decide +kernel
set_option maxRecDepth 4000 in
theorem s_X11_flood_0 {w : GX} {d : Nat} {P : PN} {g : GI} (x1 : Int)
    (h : (((¬ nm (inn (x1) 0 19) = 0 → ((¬ nm (g 228 18) = nm 6 → (0 ≤ nm (g 228 18) ∧ nm (g 228 18) < 6 ∧ ∀ g3 : GI, g3 = up2 g 240 (nm (g 228 18)).toNat x1 → (∀ g6 : GI, g6 = up2 g3 228 18 ((g3 228 18) + 1) → P (some (aI (g6 228 18))) g6))) ∧ (nm (g 228 18) = nm 6 → P (some (aI ((-4)))) g))) ∧ (nm (inn (x1) 0 19) = 0 → P (some (aI ((-2)))) g)))) :
    Zm w (d + 2) mX11_flood 0 [some (aR (some (228))), some (aI (x1))] [] g P := by
  refine z_iload_n dX11_flood_0 rfl rfl ?_
  refine m_callS (as := [aI (x1)]) dX11_flood_1 lk_X11_172 mok_X11_isDay st_X11_isDay rfl (Nat.le_of_ble_eq_true rfl) rfl (Nat.le_of_ble_eq_true rfl) rfl (c_X11_isDay  ?_)
  show Zm w (d + 2) mX11_flood 4 [some (aR (some (228))), some (aI (x1))] [aI (inn (x1) 0 19)] g P
  refine z_if_ne (tgt := 10) dX11_flood_4 (by decide) (fun c1 => ?_) (fun c1 => ?_)
  · replace h := h.1 c1
    refine z_aload_n dX11_flood_10 rfl rfl ?_
    refine z_getI dX11_flood_11 fl_X11_188 (by decide) kt_228 ?_
    refine z_bipush dX11_flood_14 rfl ?_
    refine z_icmp_ne (tgt := 22) dX11_flood_16 (by decide) (fun c2 => ?_) (fun c2 => ?_)
    · replace h := h.1 c2
      refine z_aload_n dX11_flood_22 rfl rfl ?_
      refine m_getR dX11_flood_23 fl_X11_43 (by decide) kt_228 rv_228_19 ?_
      refine z_aload_n dX11_flood_26 rfl rfl ?_
      refine z_getI dX11_flood_27 fl_X11_188 (by decide) kt_228 ?_
      refine z_iload_n dX11_flood_30 rfl rfl ?_
      obtain ⟨q4, q5, h⟩ := h
      replace h := h _ rfl
      refine m_iast dX11_flood_31 kv_240 q4 q5 ?_
      refine z_aload_n dX11_flood_32 rfl rfl ?_
      refine z_dup dX11_flood_33 rfl ?_
      refine z_getI dX11_flood_34 fl_X11_188 (by decide) kt_228 ?_
      refine z_iconst dX11_flood_37 ?_
      refine z_iadd dX11_flood_38 ?_
      replace h := h _ rfl
      refine z_putI dX11_flood_39 fw_X11_188 (by decide) kt_228 ?_
      refine z_aload_n dX11_flood_42 rfl rfl ?_
      refine z_getI dX11_flood_43 fl_X11_188 (by decide) kt_228 ?_
      exact m_iret dX11_flood_46 rfl h
    · replace h := h.2 (Decidable.not_not.mp c2)
      refine z_bipush dX11_flood_19 rfl ?_
      exact m_iret dX11_flood_21 rfl h
  · replace h := h.2 (Decidable.not_not.mp c1)
    refine z_bipush dX11_flood_7 rfl ?_
    exact m_iret dX11_flood_9 rfl h
theorem dX11_back_0 : decode cX11_back 0 = .ok (.iload_n 1, 1) := by decide +kernel
theorem dX11_back_1 : decode cX11_back 1 = .ok (.i2l, 1) := by decide +kernel
theorem dX11_back_2 : decode cX11_back 2 = .ok (.lconst 0, 1) := by decide +kernel
theorem dX11_back_3 : decode cX11_back 3 = .ok (.ldc2_w 101, 3) := by decide +kernel
theorem dX11_back_6 : decode cX11_back 6 = .ok (.invokestatic 88, 3) := by decide +kernel
theorem dX11_back_9 : decode cX11_back 9 = .ok (.ifCond .ne 6, 3) := by decide +kernel
theorem dX11_back_12 : decode cX11_back 12 = .ok (.bipush (-2), 2) := by decide +kernel
theorem dX11_back_14 : decode cX11_back 14 = .ok (.ireturn, 1) := by decide +kernel
theorem dX11_back_15 : decode cX11_back 15 = .ok (.iload_n 1, 1) := by decide +kernel
theorem dX11_back_16 : decode cX11_back 16 = .ok (.ifCond .ne 10, 3) := by decide +kernel
theorem dX11_back_19 : decode cX11_back 19 = .ok (.aload_n 0, 1) := by decide +kernel
theorem dX11_back_20 : decode cX11_back 20 = .ok (.getfield 169, 3) := by decide +kernel
theorem dX11_back_23 : decode cX11_back 23 = .ok (.goto 19, 3) := by decide +kernel
theorem dX11_back_26 : decode cX11_back 26 = .ok (.iload_n 1, 1) := by decide +kernel
theorem dX11_back_27 : decode cX11_back 27 = .ok (.iconst 1, 1) := by decide +kernel
theorem dX11_back_28 : decode cX11_back 28 = .ok (.if_icmp .ne 10, 3) := by decide +kernel
theorem dX11_back_31 : decode cX11_back 31 = .ok (.aload_n 0, 1) := by decide +kernel
theorem dX11_back_32 : decode cX11_back 32 = .ok (.getfield 182, 3) := by decide +kernel
theorem dX11_back_35 : decode cX11_back 35 = .ok (.goto 7, 3) := by decide +kernel
theorem dX11_back_38 : decode cX11_back 38 = .ok (.aload_n 0, 1) := by decide +kernel
theorem dX11_back_39 : decode cX11_back 39 = .ok (.getfield 188, 3) := by decide +kernel
theorem dX11_back_42 : decode cX11_back 42 = .ok (.istore_n 2, 1) := by decide +kernel
theorem dX11_back_43 : decode cX11_back 43 = .ok (.iload_n 2, 1) := by decide +kernel
theorem dX11_back_44 : decode cX11_back 44 = .ok (.ifCond .ne 6, 3) := by decide +kernel
theorem dX11_back_47 : decode cX11_back 47 = .ok (.bipush (-3), 2) := by decide +kernel
theorem dX11_back_49 : decode cX11_back 49 = .ok (.ireturn, 1) := by decide +kernel
theorem dX11_back_50 : decode cX11_back 50 = .ok (.aload_n 0, 1) := by decide +kernel
theorem dX11_back_51 : decode cX11_back 51 = .ok (.dup, 1) := by decide +kernel
theorem dX11_back_52 : decode cX11_back 52 = .ok (.getfield 169, 3) := by decide +kernel
theorem dX11_back_55 : decode cX11_back 55 = .ok (.iload_n 1, 1) := by decide +kernel
theorem dX11_back_56 : decode cX11_back 56 = .ok (.ifCond .ne 7, 3) := by decide +kernel
theorem dX11_back_59 : decode cX11_back 59 = .ok (.iconst 1, 1) := by decide +kernel
theorem dX11_back_60 : decode cX11_back 60 = .ok (.goto 4, 3) := by decide +kernel
theorem dX11_back_63 : decode cX11_back 63 = .ok (.iconst 0, 1) := by decide +kernel
theorem dX11_back_64 : decode cX11_back 64 = .ok (.isub, 1) := by decide +kernel
theorem dX11_back_65 : decode cX11_back 65 = .ok (.putfield 169, 3) := by decide +kernel
theorem dX11_back_68 : decode cX11_back 68 = .ok (.aload_n 0, 1) := by decide +kernel
theorem dX11_back_69 : decode cX11_back 69 = .ok (.dup, 1) := by decide +kernel
theorem dX11_back_70 : decode cX11_back 70 = .ok (.getfield 182, 3) := by decide +kernel
theorem dX11_back_73 : decode cX11_back 73 = .ok (.iload_n 1, 1) := by decide +kernel
theorem dX11_back_74 : decode cX11_back 74 = .ok (.iconst 1, 1) := by decide +kernel
theorem dX11_back_75 : decode cX11_back 75 = .ok (.if_icmp .ne 7, 3) := by decide +kernel
theorem dX11_back_78 : decode cX11_back 78 = .ok (.iconst 1, 1) := by decide +kernel
theorem dX11_back_79 : decode cX11_back 79 = .ok (.goto 4, 3) := by decide +kernel
theorem dX11_back_82 : decode cX11_back 82 = .ok (.iconst 0, 1) := by decide +kernel
theorem dX11_back_83 : decode cX11_back 83 = .ok (.isub, 1) := by decide +kernel
theorem dX11_back_84 : decode cX11_back 84 = .ok (.putfield 182, 3) := by decide +kernel
theorem dX11_back_87 : decode cX11_back 87 = .ok (.aload_n 0, 1) := by decide +kernel
theorem dX11_back_88 : decode cX11_back 88 = .ok (.dup, 1) := by decide +kernel
theorem dX11_back_89 : decode cX11_back 89 = .ok (.getfield 188, 3) := by decide +kernel
theorem dX11_back_92 : decode cX11_back 92 = .ok (.iload_n 1, 1) := by decide +kernel
theorem dX11_back_93 : decode cX11_back 93 = .ok (.iconst 2, 1) := by decide +kernel
theorem dX11_back_94 : decode cX11_back 94 = .ok (.if_icmp .ne 7, 3) := by decide +kernel
theorem dX11_back_97 : decode cX11_back 97 = .ok (.iconst 1, 1) := by decide +kernel
theorem dX11_back_98 : decode cX11_back 98 = .ok (.goto 4, 3) := by decide +kernel
theorem dX11_back_101 : decode cX11_back 101 = .ok (.iconst 0, 1) := by decide +kernel
theorem dX11_back_102 : decode cX11_back 102 = .ok (.isub, 1) := by decide +kernel
theorem dX11_back_103 : decode cX11_back 103 = .ok (.putfield 188, 3) := by decide +kernel
theorem dX11_back_106 : decode cX11_back 106 = .ok (.iload_n 2, 1) := by decide +kernel
theorem dX11_back_107 : decode cX11_back 107 = .ok (.iconst 1, 1) := by decide +kernel
theorem dX11_back_108 : decode cX11_back 108 = .ok (.isub, 1) := by decide +kernel
theorem dX11_back_109 : decode cX11_back 109 = .ok (.ireturn, 1) := by decide +kernel
set_option maxRecDepth 4000 in
theorem s_X11_back_0 {w : GX} {d : Nat} {P : PN} {g : GI} (x1 : Int)
    (h : (((¬ nm (lin (nm x1) (0) (2)) = 0 → ((¬ nm x1 = 0 → ((¬ nm x1 = nm 1 → Zm w (d + 1) mX11_back 42 [some (aR (some (228))), some (aI (x1)), none] [aI (g 228 18)] g P) ∧ (nm x1 = nm 1 → Zm w (d + 1) mX11_back 42 [some (aR (some (228))), some (aI (x1)), none] [aI (g 228 16)] g P))) ∧ (nm x1 = 0 → Zm w (d + 1) mX11_back 42 [some (aR (some (228))), some (aI (x1)), none] [aI (g 228 14)] g P))) ∧ (nm (lin (nm x1) (0) (2)) = 0 → P (some (aI ((-2)))) g)))) :
    Zm w (d + 1) mX11_back 0 [some (aR (some (228))), some (aI (x1)), none] [] g P := by
  refine z_iload_n dX11_back_0 rfl rfl ?_
  refine z_i2l dX11_back_1 ?_
  refine z_lconst (z := 0) dX11_back_2 rfl ?_
  refine z_ldc2 dX11_back_3 kl_X11_101 ?_
  refine m_callS (as := [aL (nm x1), aL (0), aL (2)]) dX11_back_6 lk_X11_88 mok_X11_in st_X11_in rfl (Nat.le_of_ble_eq_true rfl) rfl (Nat.le_of_ble_eq_true rfl) rfl (c_X11_in  ?_)
  show Zm w (d + 1) mX11_back 9 [some (aR (some (228))), some (aI (x1)), none] [aI (lin (nm x1) (0) (2))] g P
  refine z_if_ne (tgt := 15) dX11_back_9 (by decide) (fun c1 => ?_) (fun c1 => ?_)
  · replace h := h.1 c1
    refine z_iload_n dX11_back_15 rfl rfl ?_
    refine z_if_ne (tgt := 26) dX11_back_16 (by decide) (fun c2 => ?_) (fun c2 => ?_)
    · replace h := h.1 c2
      refine z_iload_n dX11_back_26 rfl rfl ?_
      refine z_iconst dX11_back_27 ?_
      refine z_icmp_ne (tgt := 38) dX11_back_28 (by decide) (fun c3 => ?_) (fun c3 => ?_)
      · replace h := h.1 c3
        refine z_aload_n dX11_back_38 rfl rfl ?_
        refine z_getI dX11_back_39 fl_X11_188 (by decide) kt_228 ?_
        exact z_weak (by simp [lle]) h
      · replace h := h.2 (Decidable.not_not.mp c3)
        refine z_aload_n dX11_back_31 rfl rfl ?_
        refine z_getI dX11_back_32 fl_X11_182 (by decide) kt_228 ?_
        refine z_goto (tgt := 42) dX11_back_35 (by decide) ?_
        exact z_weak (by simp [lle]) h
    · replace h := h.2 (Decidable.not_not.mp c2)
      refine z_aload_n dX11_back_19 rfl rfl ?_
      refine z_getI dX11_back_20 fl_X11_169 (by decide) kt_228 ?_
      refine z_goto (tgt := 42) dX11_back_23 (by decide) ?_
      exact z_weak (by simp [lle]) h
  · replace h := h.2 (Decidable.not_not.mp c1)
    refine z_bipush dX11_back_12 rfl ?_
    exact m_iret dX11_back_14 rfl h
set_option maxRecDepth 4000 in
theorem s_X11_back_42 {w : GX} {d : Nat} {P : PN} {g : GI} (x1 : Int) (y0 : Int)
    (h : ((¬ nm y0 = 0 → ((¬ nm x1 = 0 → Zm w (d + 1) mX11_back 64 [some (aR (some (228))), some (aI (x1)), some (aI (y0))] [aI (0), aI (g 228 14), aR (some (228))] g P) ∧ (nm x1 = 0 → Zm w (d + 1) mX11_back 64 [some (aR (some (228))), some (aI (x1)), some (aI (y0))] [aI (1), aI (g 228 14), aR (some (228))] g P))) ∧ (nm y0 = 0 → P (some (aI ((-3)))) g))) :
    Zm w (d + 1) mX11_back 42 [some (aR (some (228))), some (aI (x1)), none] [aI (y0)] g P := by
  refine z_istore_n dX11_back_42 rfl (by decide) rfl ?_
  show Zm w (d + 1) mX11_back 43 [some (aR (some (228))), some (aI (x1)), some (aI (y0))] [] g P
  refine z_iload_n dX11_back_43 rfl rfl ?_
  refine z_if_ne (tgt := 50) dX11_back_44 (by decide) (fun c1 => ?_) (fun c1 => ?_)
  · replace h := h.1 c1
    refine z_aload_n dX11_back_50 rfl rfl ?_
    refine z_dup dX11_back_51 rfl ?_
    refine z_getI dX11_back_52 fl_X11_169 (by decide) kt_228 ?_
    refine z_iload_n dX11_back_55 rfl rfl ?_
    refine z_if_ne (tgt := 63) dX11_back_56 (by decide) (fun c2 => ?_) (fun c2 => ?_)
    · replace h := h.1 c2
      refine z_iconst dX11_back_63 ?_
      exact z_weak (by simp [lle]) h
    · replace h := h.2 (Decidable.not_not.mp c2)
      refine z_iconst dX11_back_59 ?_
      refine z_goto (tgt := 64) dX11_back_60 (by decide) ?_
      exact z_weak (by simp [lle]) h
  · replace h := h.2 (Decidable.not_not.mp c1)
    refine z_bipush dX11_back_47 rfl ?_
    exact m_iret dX11_back_49 rfl h
set_option maxRecDepth 4000 in
theorem s_X11_back_64 {w : GX} {d : Nat} {P : PN} {g : GI} (x1 : Int) (x2 : Int) (y1 : Int) (y2 : Int)
    (h : (∀ g1 : GI, g1 = up2 g 228 14 (y1 - y2) → ((¬ nm x1 = nm 1 → Zm w (d + 1) mX11_back 83 [some (aR (some (228))), some (aI (x1)), some (aI (x2))] [aI (0), aI (g1 228 16), aR (some (228))] g1 P) ∧ (nm x1 = nm 1 → Zm w (d + 1) mX11_back 83 [some (aR (some (228))), some (aI (x1)), some (aI (x2))] [aI (1), aI (g1 228 16), aR (some (228))] g1 P)))) :
    Zm w (d + 1) mX11_back 64 [some (aR (some (228))), some (aI (x1)), some (aI (x2))] [aI (y2), aI (y1), aR (some (228))] g P := by
  refine z_isub dX11_back_64 ?_
  replace h := h _ rfl
  refine z_putI dX11_back_65 fw_X11_169 (by decide) kt_228 ?_
  refine z_aload_n dX11_back_68 rfl rfl ?_
  refine z_dup dX11_back_69 rfl ?_
  refine z_getI dX11_back_70 fl_X11_182 (by decide) kt_228 ?_
  refine z_iload_n dX11_back_73 rfl rfl ?_
  refine z_iconst dX11_back_74 ?_
  refine z_icmp_ne (tgt := 82) dX11_back_75 (by decide) (fun c2 => ?_) (fun c2 => ?_)
  · replace h := h.1 c2
    refine z_iconst dX11_back_82 ?_
    exact z_weak (by simp [lle]) h
  · replace h := h.2 (Decidable.not_not.mp c2)
    refine z_iconst dX11_back_78 ?_
    refine z_goto (tgt := 83) dX11_back_79 (by decide) ?_
    exact z_weak (by simp [lle]) h
set_option maxRecDepth 4000 in
theorem s_X11_back_83 {w : GX} {d : Nat} {P : PN} {g : GI} (x1 : Int) (x2 : Int) (y1 : Int) (y2 : Int)
    (h : (∀ g1 : GI, g1 = up2 g 228 16 (y1 - y2) → ((¬ nm x1 = nm 2 → (∀ g3 : GI, g3 = up2 g1 228 18 ((g1 228 18) - 0) → P (some (aI (x2 - 1))) g3)) ∧ (nm x1 = nm 2 → (∀ g4 : GI, g4 = up2 g1 228 18 ((g1 228 18) - 1) → P (some (aI (x2 - 1))) g4))))) :
    Zm w (d + 1) mX11_back 83 [some (aR (some (228))), some (aI (x1)), some (aI (x2))] [aI (y2), aI (y1), aR (some (228))] g P := by
  refine z_isub dX11_back_83 ?_
  replace h := h _ rfl
  refine z_putI dX11_back_84 fw_X11_182 (by decide) kt_228 ?_
  refine z_aload_n dX11_back_87 rfl rfl ?_
  refine z_dup dX11_back_88 rfl ?_
  refine z_getI dX11_back_89 fl_X11_188 (by decide) kt_228 ?_
  refine z_iload_n dX11_back_92 rfl rfl ?_
  refine z_iconst dX11_back_93 ?_
  refine z_icmp_ne (tgt := 101) dX11_back_94 (by decide) (fun c2 => ?_) (fun c2 => ?_)
  · replace h := h.1 c2
    refine z_iconst dX11_back_101 ?_
    refine z_isub dX11_back_102 ?_
    replace h := h _ rfl
    refine z_putI dX11_back_103 fw_X11_188 (by decide) kt_228 ?_
    refine z_iload_n dX11_back_106 rfl rfl ?_
    refine z_iconst dX11_back_107 ?_
    refine z_isub dX11_back_108 ?_
    exact m_iret dX11_back_109 rfl h
  · replace h := h.2 (Decidable.not_not.mp c2)
    refine z_iconst dX11_back_97 ?_
    refine z_goto (tgt := 102) dX11_back_98 (by decide) ?_
    refine z_isub dX11_back_102 ?_
    replace h := h _ rfl
    refine z_putI dX11_back_103 fw_X11_188 (by decide) kt_228 ?_
    refine z_iload_n dX11_back_106 rfl rfl ?_
    refine z_iconst dX11_back_107 ?_
    refine z_isub dX11_back_108 ?_
    exact m_iret dX11_back_109 rfl h
theorem dX11_read_0 : decode cX11_read 0 = .ok (.iload_n 1, 1) := by decide +kernel
theorem dX11_read_1 : decode cX11_read 1 = .ok (.invokestatic 97, 3) := by decide +kernel
theorem dX11_read_4 : decode cX11_read 4 = .ok (.ifCond .ne 6, 3) := by decide +kernel
theorem dX11_read_7 : decode cX11_read 7 = .ok (.bipush (-2), 2) := by decide +kernel
theorem dX11_read_9 : decode cX11_read 9 = .ok (.ireturn, 1) := by decide +kernel
theorem dX11_read_10 : decode cX11_read 10 = .ok (.aload_n 0, 1) := by decide +kernel
theorem dX11_read_11 : decode cX11_read 11 = .ok (.getfield 7, 3) := by decide +kernel
theorem dX11_read_14 : decode cX11_read 14 = .ok (.iload_n 1, 1) := by decide +kernel
theorem dX11_read_15 : decode cX11_read 15 = .ok (.iaload, 1) := by decide +kernel
theorem dX11_read_16 : decode cX11_read 16 = .ok (.ifCond .ge 9, 3) := by decide +kernel
theorem dX11_read_19 : decode cX11_read 19 = .ok (.aload_n 0, 1) := by decide +kernel
theorem dX11_read_20 : decode cX11_read 20 = .ok (.iconst 1, 1) := by decide +kernel
theorem dX11_read_21 : decode cX11_read 21 = .ok (.invokevirtual 103, 3) := by decide +kernel
theorem dX11_read_24 : decode cX11_read 24 = .ok (.ireturn, 1) := by decide +kernel
theorem dX11_read_25 : decode cX11_read 25 = .ok (.iconst 0, 1) := by decide +kernel
theorem dX11_read_26 : decode cX11_read 26 = .ok (.istore_n 2, 1) := by decide +kernel
theorem dX11_read_27 : decode cX11_read 27 = .ok (.iconst 1, 1) := by decide +kernel
theorem dX11_read_28 : decode cX11_read 28 = .ok (.istore_n 3, 1) := by decide +kernel
theorem dX11_read_29 : decode cX11_read 29 = .ok (.iload_n 3, 1) := by decide +kernel
theorem dX11_read_30 : decode cX11_read 30 = .ok (.ifCond .eq 73, 3) := by decide +kernel
theorem dX11_read_33 : decode cX11_read 33 = .ok (.iconst 2, 1) := by decide +kernel
theorem dX11_read_34 : decode cX11_read 34 = .ok (.iload_n 2, 1) := by decide +kernel
theorem dX11_read_35 : decode cX11_read 35 = .ok (.imul, 1) := by decide +kernel
theorem dX11_read_36 : decode cX11_read 36 = .ok (.iconst 2, 1) := by decide +kernel
theorem dX11_read_37 : decode cX11_read 37 = .ok (.iadd, 1) := by decide +kernel
theorem dX11_read_38 : decode cX11_read 38 = .ok (.aload_n 0, 1) := by decide +kernel
theorem dX11_read_39 : decode cX11_read 39 = .ok (.getfield 13, 3) := by decide +kernel
theorem dX11_read_42 : decode cX11_read 42 = .ok (.iload_n 1, 1) := by decide +kernel
theorem dX11_read_43 : decode cX11_read 43 = .ok (.iaload, 1) := by decide +kernel
theorem dX11_read_44 : decode cX11_read 44 = .ok (.if_icmp .gt 59, 3) := by decide +kernel
theorem dX11_read_47 : decode cX11_read 47 = .ok (.aload_n 0, 1) := by decide +kernel
theorem dX11_read_48 : decode cX11_read 48 = .ok (.aload_n 0, 1) := by decide +kernel
theorem dX11_read_49 : decode cX11_read 49 = .ok (.getfield 16, 3) := by decide +kernel
theorem dX11_read_52 : decode cX11_read 52 = .ok (.bipush 60, 2) := by decide +kernel
theorem dX11_read_54 : decode cX11_read 54 = .ok (.iload_n 1, 1) := by decide +kernel
theorem dX11_read_55 : decode cX11_read 55 = .ok (.imul, 1) := by decide +kernel
theorem dX11_read_56 : decode cX11_read 56 = .ok (.iconst 2, 1) := by decide +kernel
theorem dX11_read_57 : decode cX11_read 57 = .ok (.iload_n 2, 1) := by decide +kernel
theorem dX11_read_58 : decode cX11_read 58 = .ok (.imul, 1) := by decide +kernel
theorem dX11_read_59 : decode cX11_read 59 = .ok (.iadd, 1) := by decide +kernel
theorem dX11_read_60 : decode cX11_read 60 = .ok (.iaload, 1) := by decide +kernel
theorem dX11_read_61 : decode cX11_read 61 = .ok (.aload_n 0, 1) := by decide +kernel
theorem dX11_read_62 : decode cX11_read 62 = .ok (.getfield 16, 3) := by decide +kernel
theorem dX11_read_65 : decode cX11_read 65 = .ok (.bipush 60, 2) := by decide +kernel
theorem dX11_read_67 : decode cX11_read 67 = .ok (.iload_n 1, 1) := by decide +kernel
theorem dX11_read_68 : decode cX11_read 68 = .ok (.imul, 1) := by decide +kernel
theorem dX11_read_69 : decode cX11_read 69 = .ok (.iconst 2, 1) := by decide +kernel
theorem dX11_read_70 : decode cX11_read 70 = .ok (.iload_n 2, 1) := by decide +kernel
theorem dX11_read_71 : decode cX11_read 71 = .ok (.imul, 1) := by decide +kernel
theorem dX11_read_72 : decode cX11_read 72 = .ok (.iadd, 1) := by decide +kernel
theorem dX11_read_73 : decode cX11_read 73 = .ok (.iconst 1, 1) := by decide +kernel
theorem dX11_read_74 : decode cX11_read 74 = .ok (.iadd, 1) := by decide +kernel
theorem dX11_read_75 : decode cX11_read 75 = .ok (.iaload, 1) := by decide +kernel
theorem dX11_read_76 : decode cX11_read 76 = .ok (.invokevirtual 191, 3) := by decide +kernel
theorem dX11_read_79 : decode cX11_read 79 = .ok (.ifCond .lt 7, 3) := by decide +kernel
theorem dX11_read_82 : decode cX11_read 82 = .ok (.iconst 1, 1) := by decide +kernel
theorem dX11_read_83 : decode cX11_read 83 = .ok (.goto 4, 3) := by decide +kernel
theorem dX11_read_86 : decode cX11_read 86 = .ok (.iconst 0, 1) := by decide +kernel
theorem dX11_read_87 : decode cX11_read 87 = .ok (.istore_n 3, 1) := by decide +kernel
theorem dX11_read_88 : decode cX11_read 88 = .ok (.iload_n 2, 1) := by decide +kernel
theorem dX11_read_89 : decode cX11_read 89 = .ok (.iload_n 3, 1) := by decide +kernel
theorem dX11_read_90 : decode cX11_read 90 = .ok (.ifCond .eq 7, 3) := by decide +kernel
theorem dX11_read_93 : decode cX11_read 93 = .ok (.iconst 1, 1) := by decide +kernel
theorem dX11_read_94 : decode cX11_read 94 = .ok (.goto 4, 3) := by decide +kernel
theorem dX11_read_97 : decode cX11_read 97 = .ok (.iconst 0, 1) := by decide +kernel
theorem dX11_read_98 : decode cX11_read 98 = .ok (.iadd, 1) := by decide +kernel
theorem dX11_read_99 : decode cX11_read 99 = .ok (.istore_n 2, 1) := by decide +kernel
theorem dX11_read_100 : decode cX11_read 100 = .ok (.goto (-71), 3) := by decide +kernel
theorem dX11_read_103 : decode cX11_read 103 = .ok (.iload_n 2, 1) := by decide +kernel
theorem dX11_read_104 : decode cX11_read 104 = .ok (.ireturn, 1) := by decide +kernel
set_option maxRecDepth 4000 in
theorem s_X11_read_0 {w : GX} {d : Nat} {P : PN} {g : GI} (x1 : Int)
    (h : (((¬ nm (inn (x1) 0 3) = 0 → (0 ≤ nm x1 ∧ nm x1 < 4 ∧ ((¬ nm (g 229 (nm x1).toNat) < 0 → Zm w (d + 3) mX11_read 29 [some (aR (some (228))), some (aI (x1)), some (aI (0)), some (aI (1))] [] g P) ∧ (nm (g 229 (nm x1).toNat) < 0 → (∀ g7 : GI, g7 = up2 g 228 4 (1) → P (some (aI ((-10) - (1)))) g7))))) ∧ (nm (inn (x1) 0 3) = 0 → P (some (aI ((-2)))) g)))) :
    Zm w (d + 3) mX11_read 0 [some (aR (some (228))), some (aI (x1)), none, none] [] g P := by
  refine z_iload_n dX11_read_0 rfl rfl ?_
  refine m_callS (as := [aI (x1)]) dX11_read_1 lk_X11_97 mok_X11_isSheet st_X11_isSheet rfl (Nat.le_of_ble_eq_true rfl) rfl (Nat.le_of_ble_eq_true rfl) rfl (c_X11_isSheet  ?_)
  show Zm w (d + 3) mX11_read 4 [some (aR (some (228))), some (aI (x1)), none, none] [aI (inn (x1) 0 3)] g P
  refine z_if_ne (tgt := 10) dX11_read_4 (by decide) (fun c1 => ?_) (fun c1 => ?_)
  · replace h := h.1 c1
    refine z_aload_n dX11_read_10 rfl rfl ?_
    refine m_getR dX11_read_11 fl_X11_7 (by decide) kt_228 rv_228_0 ?_
    refine z_iload_n dX11_read_14 rfl rfl ?_
    obtain ⟨q4, q5, h⟩ := h
    refine m_iald dX11_read_15 kv_229 q4 q5 ?_
    refine z_if_ge (tgt := 25) dX11_read_16 (by decide) (fun c6 => ?_) (fun c6 => ?_)
    · replace h := h.1 c6
      refine z_iconst dX11_read_25 ?_
      refine z_istore_n dX11_read_26 rfl (by decide) rfl ?_
      show Zm w (d + 3) mX11_read 27 [some (aR (some (228))), some (aI (x1)), some (aI (0)), none] [] g P
      refine z_iconst dX11_read_27 ?_
      refine z_istore_n dX11_read_28 rfl (by decide) rfl ?_
      show Zm w (d + 3) mX11_read 29 [some (aR (some (228))), some (aI (x1)), some (aI (0)), some (aI (1))] [] g P
      exact z_weak (by simp [lle]) h
    · replace h := h.2 (Decidable.not_not.mp c6)
      refine z_aload_n dX11_read_19 rfl rfl ?_
      refine z_iconst dX11_read_20 ?_
      refine m_callV (as := [aI (1)]) dX11_read_21 lk_X11_103 mok_X11_finds in_X11_finds sl_X11_finds kt_228 rfl rfl rfl (Nat.le_of_ble_eq_true rfl) rfl (Nat.le_of_ble_eq_true rfl) rfl (c_X11_finds  ?_)
      replace h := h _ rfl
      show Zm w (d + 3) mX11_read 24 [some (aR (some (228))), some (aI (x1)), none, none] [aI ((-10) - (1))] (up2 g 228 4 (1)) P
      exact m_iret dX11_read_24 rfl h
  · replace h := h.2 (Decidable.not_not.mp c1)
    refine z_bipush dX11_read_7 rfl ?_
    exact m_iret dX11_read_9 rfl h
set_option maxRecDepth 4000 in
theorem s_X11_read_29 {w : GX} {d : Nat} {P : PN} {g : GI} (x1 : Int) (x2 : Int) (x3 : Int)
    (h : ((nm x3 = 0 → P (some (aI (x2))) g) ∧ (¬ nm x3 = 0 → (0 ≤ nm x1 ∧ nm x1 < 4 ∧ ((nm (g 230 (nm x1).toNat) < nm ((2 * x2) + 2) → P (some (aI (x2))) g) ∧ (¬ nm (g 230 (nm x1).toNat) < nm ((2 * x2) + 2) → (0 ≤ nm ((60 * x1) + (2 * x2)) ∧ nm ((60 * x1) + (2 * x2)) < 240 ∧ (0 ≤ nm (((60 * x1) + (2 * x2)) + 1) ∧ nm (((60 * x1) + (2 * x2)) + 1) < 240 ∧ Zm w (d + 2) mX11_cross 0 [some (aR (some (228))), some (aI (g 231 (nm ((60 * x1) + (2 * x2))).toNat)), some (aI (g 231 (nm (((60 * x1) + (2 * x2)) + 1)).toNat))] [] g (fun r g15 => ∃ z16 : Int, r = some (aI z16) ∧ ((nm z16 < 0 → Zm w (d + 3) mX11_read 87 [some (aR (some (228))), some (aI (x1)), some (aI (x2)), none] [aI (0)] g15 P) ∧ (¬ nm z16 < 0 → Zm w (d + 3) mX11_read 87 [some (aR (some (228))), some (aI (x1)), some (aI (x2)), none] [aI (1)] g15 P))))))))))) :
    Zm w (d + 3) mX11_read 29 [some (aR (some (228))), some (aI (x1)), some (aI (x2)), some (aI (x3))] [] g P := by
  refine z_iload_n dX11_read_29 rfl rfl ?_
  refine z_if_eq (tgt := 103) dX11_read_30 (by decide) (fun c1 => ?_) (fun c1 => ?_)
  · replace h := h.1 c1
    refine z_iload_n dX11_read_103 rfl rfl ?_
    exact m_iret dX11_read_104 rfl h
  · replace h := h.2 c1
    refine z_iconst dX11_read_33 ?_
    refine z_iload_n dX11_read_34 rfl rfl ?_
    refine z_imul dX11_read_35 ?_
    refine z_iconst dX11_read_36 ?_
    refine z_iadd dX11_read_37 ?_
    refine z_aload_n dX11_read_38 rfl rfl ?_
    refine m_getR dX11_read_39 fl_X11_13 (by decide) kt_228 rv_228_1 ?_
    refine z_iload_n dX11_read_42 rfl rfl ?_
    obtain ⟨q4, q5, h⟩ := h
    refine m_iald dX11_read_43 kv_230 q4 q5 ?_
    refine z_icmp_gt (tgt := 103) dX11_read_44 (by decide) (fun c6 => ?_) (fun c6 => ?_)
    · replace h := h.1 c6
      refine z_iload_n dX11_read_103 rfl rfl ?_
      exact m_iret dX11_read_104 rfl h
    · replace h := h.2 c6
      refine z_aload_n dX11_read_47 rfl rfl ?_
      refine z_aload_n dX11_read_48 rfl rfl ?_
      refine m_getR dX11_read_49 fl_X11_16 (by decide) kt_228 rv_228_2 ?_
      refine z_bipush dX11_read_52 rfl ?_
      refine z_iload_n dX11_read_54 rfl rfl ?_
      refine z_imul dX11_read_55 ?_
      refine z_iconst dX11_read_56 ?_
      refine z_iload_n dX11_read_57 rfl rfl ?_
      refine z_imul dX11_read_58 ?_
      refine z_iadd dX11_read_59 ?_
      obtain ⟨q9, q10, h⟩ := h
      refine m_iald dX11_read_60 kv_231 q9 q10 ?_
      refine z_aload_n dX11_read_61 rfl rfl ?_
      refine m_getR dX11_read_62 fl_X11_16 (by decide) kt_228 rv_228_2 ?_
      refine z_bipush dX11_read_65 rfl ?_
      refine z_iload_n dX11_read_67 rfl rfl ?_
      refine z_imul dX11_read_68 ?_
      refine z_iconst dX11_read_69 ?_
      refine z_iload_n dX11_read_70 rfl rfl ?_
      refine z_imul dX11_read_71 ?_
      refine z_iadd dX11_read_72 ?_
      refine z_iconst dX11_read_73 ?_
      refine z_iadd dX11_read_74 ?_
      obtain ⟨q13, q14, h⟩ := h
      refine m_iald dX11_read_75 kv_231 q13 q14 ?_
      refine m_callV (as := [aI (g 231 (nm ((60 * x1) + (2 * x2))).toNat), aI (g 231 (nm (((60 * x1) + (2 * x2)) + 1)).toNat)]) dX11_read_76 lk_X11_191 mok_X11_cross in_X11_cross sl_X11_cross kt_228 rfl rfl rfl (Nat.le_of_ble_eq_true rfl) rfl (Nat.le_of_ble_eq_true rfl) rfl (m_mono (fun r g15 hr => ?_) h)
      obtain ⟨z16, rfl, h⟩ := hr
      show Zm w (d + 3) mX11_read 79 [some (aR (some (228))), some (aI (x1)), some (aI (x2)), some (aI (x3))] [aI (z16)] g15 P
      refine z_if_lt (tgt := 86) dX11_read_79 (by decide) (fun c17 => ?_) (fun c17 => ?_)
      · replace h := h.1 c17
        refine z_iconst dX11_read_86 ?_
        exact z_weak (by simp [lle]) h
      · replace h := h.2 c17
        refine z_iconst dX11_read_82 ?_
        refine z_goto (tgt := 87) dX11_read_83 (by decide) ?_
        exact z_weak (by simp [lle]) h
set_option maxRecDepth 4000 in
theorem s_X11_read_87 {w : GX} {d : Nat} {P : PN} {g : GI} (x1 : Int) (x2 : Int) (y0 : Int)
    (h : ((nm y0 = 0 → (∀ v2 : Int, v2 = x2 + 0 → Zm w (d + 3) mX11_read 29 [some (aR (some (228))), some (aI (x1)), some (aI (v2)), some (aI (y0))] [] g P)) ∧ (¬ nm y0 = 0 → (∀ v3 : Int, v3 = x2 + 1 → Zm w (d + 3) mX11_read 29 [some (aR (some (228))), some (aI (x1)), some (aI (v3)), some (aI (y0))] [] g P)))) :
    Zm w (d + 3) mX11_read 87 [some (aR (some (228))), some (aI (x1)), some (aI (x2)), none] [aI (y0)] g P := by
  refine z_istore_n dX11_read_87 rfl (by decide) rfl ?_
  show Zm w (d + 3) mX11_read 88 [some (aR (some (228))), some (aI (x1)), some (aI (x2)), some (aI (y0))] [] g P
  refine z_iload_n dX11_read_88 rfl rfl ?_
  refine z_iload_n dX11_read_89 rfl rfl ?_
  refine z_if_eq (tgt := 97) dX11_read_90 (by decide) (fun c1 => ?_) (fun c1 => ?_)
  · replace h := h.1 c1
    refine z_iconst dX11_read_97 ?_
    refine z_iadd dX11_read_98 ?_
    replace h := h _ rfl
    refine z_istore_n dX11_read_99 rfl (by decide) rfl ?_
    show Zm w (d + 3) mX11_read 100 [some (aR (some (228))), some (aI (x1)), some (aI (x2 + 0)), some (aI (y0))] [] g P
    refine z_goto (tgt := 29) dX11_read_100 (by decide) ?_
    exact z_weak (by simp [lle]) h
  · replace h := h.2 c1
    refine z_iconst dX11_read_93 ?_
    refine z_goto (tgt := 98) dX11_read_94 (by decide) ?_
    refine z_iadd dX11_read_98 ?_
    replace h := h _ rfl
    refine z_istore_n dX11_read_99 rfl (by decide) rfl ?_
    show Zm w (d + 3) mX11_read 100 [some (aR (some (228))), some (aI (x1)), some (aI (x2 + 1)), some (aI (y0))] [] g P
    refine z_goto (tgt := 29) dX11_read_100 (by decide) ?_
    exact z_weak (by simp [lle]) h
theorem dX11_comesInto_0 : decode cX11_comesInto 0 = .ok (.aload_n 0, 1) := by decide +kernel
theorem dX11_comesInto_1 : decode cX11_comesInto 1 = .ok (.getfield 46, 3) := by decide +kernel
theorem dX11_comesInto_4 : decode cX11_comesInto 4 = .ok (.bipush 28, 2) := by decide +kernel
theorem dX11_comesInto_6 : decode cX11_comesInto 6 = .ok (.iload_n 2, 1) := by decide +kernel
theorem dX11_comesInto_7 : decode cX11_comesInto 7 = .ok (.imul, 1) := by decide +kernel
theorem dX11_comesInto_8 : decode cX11_comesInto 8 = .ok (.aload_n 0, 1) := by decide +kernel
theorem dX11_comesInto_9 : decode cX11_comesInto 9 = .ok (.getfield 49, 3) := by decide +kernel
theorem dX11_comesInto_12 : decode cX11_comesInto 12 = .ok (.iload_n 2, 1) := by decide +kernel
theorem dX11_comesInto_13 : decode cX11_comesInto 13 = .ok (.iaload, 1) := by decide +kernel
theorem dX11_comesInto_14 : decode cX11_comesInto 14 = .ok (.iadd, 1) := by decide +kernel
theorem dX11_comesInto_15 : decode cX11_comesInto 15 = .ok (.iload_n 1, 1) := by decide +kernel
theorem dX11_comesInto_16 : decode cX11_comesInto 16 = .ok (.iastore, 1) := by decide +kernel
theorem dX11_comesInto_17 : decode cX11_comesInto 17 = .ok (.aload_n 0, 1) := by decide +kernel
theorem dX11_comesInto_18 : decode cX11_comesInto 18 = .ok (.getfield 49, 3) := by decide +kernel
theorem dX11_comesInto_21 : decode cX11_comesInto 21 = .ok (.iload_n 2, 1) := by decide +kernel
theorem dX11_comesInto_22 : decode cX11_comesInto 22 = .ok (.dup2, 1) := by decide +kernel
theorem dX11_comesInto_23 : decode cX11_comesInto 23 = .ok (.iaload, 1) := by decide +kernel
theorem dX11_comesInto_24 : decode cX11_comesInto 24 = .ok (.iconst 1, 1) := by decide +kernel
theorem dX11_comesInto_25 : decode cX11_comesInto 25 = .ok (.iadd, 1) := by decide +kernel
theorem dX11_comesInto_26 : decode cX11_comesInto 26 = .ok (.iastore, 1) := by decide +kernel
theorem dX11_comesInto_27 : decode cX11_comesInto 27 = .ok (.aload_n 0, 1) := by decide +kernel
theorem dX11_comesInto_28 : decode cX11_comesInto 28 = .ok (.getfield 52, 3) := by decide +kernel
theorem dX11_comesInto_31 : decode cX11_comesInto 31 = .ok (.iload_n 1, 1) := by decide +kernel
theorem dX11_comesInto_32 : decode cX11_comesInto 32 = .ok (.iload_n 2, 1) := by decide +kernel
theorem dX11_comesInto_33 : decode cX11_comesInto 33 = .ok (.iastore, 1) := by decide +kernel
theorem dX11_comesInto_34 : decode cX11_comesInto 34 = .ok (.return_, 1) := by decide +kernel
set_option maxRecDepth 4000 in
theorem s_X11_comesInto_0 {w : GX} {d : Nat} {P : PN} {g : GI} (x1 : Int) (x2 : Int)
    (h : (0 ≤ nm x2 ∧ nm x2 < 20 ∧ (0 ≤ nm ((28 * x2) + (g 242 (nm x2).toNat)) ∧ nm ((28 * x2) + (g 242 (nm x2).toNat)) < 560 ∧ ∀ g5 : GI, g5 = up2 g 241 (nm ((28 * x2) + (g 242 (nm x2).toNat))).toNat x1 → ((∀ g10 : GI, g10 = up2 g5 242 (nm x2).toNat ((g5 242 (nm x2).toNat) + 1) → (0 ≤ nm x1 ∧ nm x1 < 28 ∧ ∀ g11 : GI, g11 = up2 g10 243 (nm x1).toNat x2 → P none g11)))))) :
    Zm w d mX11_comesInto 0 [some (aR (some (228))), some (aI (x1)), some (aI (x2))] [] g P := by
  refine z_aload_n dX11_comesInto_0 rfl rfl ?_
  refine m_getR dX11_comesInto_1 fl_X11_46 (by decide) kt_228 rv_228_20 ?_
  refine z_bipush dX11_comesInto_4 rfl ?_
  refine z_iload_n dX11_comesInto_6 rfl rfl ?_
  refine z_imul dX11_comesInto_7 ?_
  refine z_aload_n dX11_comesInto_8 rfl rfl ?_
  refine m_getR dX11_comesInto_9 fl_X11_49 (by decide) kt_228 rv_228_21 ?_
  refine z_iload_n dX11_comesInto_12 rfl rfl ?_
  obtain ⟨q3, q4, h⟩ := h
  refine m_iald dX11_comesInto_13 kv_242 q3 q4 ?_
  refine z_iadd dX11_comesInto_14 ?_
  refine z_iload_n dX11_comesInto_15 rfl rfl ?_
  obtain ⟨q6, q7, h⟩ := h
  replace h := h _ rfl
  refine m_iast dX11_comesInto_16 kv_241 q6 q7 ?_
  refine z_aload_n dX11_comesInto_17 rfl rfl ?_
  refine m_getR dX11_comesInto_18 fl_X11_49 (by decide) kt_228 rv_228_21 ?_
  refine z_iload_n dX11_comesInto_21 rfl rfl ?_
  refine z_dup2 dX11_comesInto_22 rfl rfl ?_
  refine m_iald dX11_comesInto_23 kv_242 q3 q4 ?_
  refine z_iconst dX11_comesInto_24 ?_
  refine z_iadd dX11_comesInto_25 ?_
  replace h := h _ rfl
  refine m_iast dX11_comesInto_26 kv_242 q3 q4 ?_
  refine z_aload_n dX11_comesInto_27 rfl rfl ?_
  refine m_getR dX11_comesInto_28 fl_X11_52 (by decide) kt_228 rv_228_22 ?_
  refine z_iload_n dX11_comesInto_31 rfl rfl ?_
  refine z_iload_n dX11_comesInto_32 rfl rfl ?_
  obtain ⟨q12, q13, h⟩ := h
  replace h := h _ rfl
  refine m_iast dX11_comesInto_33 kv_243 q12 q13 ?_
  exact m_vret dX11_comesInto_34 rfl h
theorem dX11_taken_0 : decode cX11_taken 0 = .ok (.aload_n 0, 1) := by decide +kernel
theorem dX11_taken_1 : decode cX11_taken 1 = .ok (.getfield 46, 3) := by decide +kernel
theorem dX11_taken_4 : decode cX11_taken 4 = .ok (.bipush 28, 2) := by decide +kernel
theorem dX11_taken_6 : decode cX11_taken 6 = .ok (.iload_n 1, 1) := by decide +kernel
theorem dX11_taken_7 : decode cX11_taken 7 = .ok (.imul, 1) := by decide +kernel
theorem dX11_taken_8 : decode cX11_taken 8 = .ok (.iload_n 2, 1) := by decide +kernel
theorem dX11_taken_9 : decode cX11_taken 9 = .ok (.iadd, 1) := by decide +kernel
theorem dX11_taken_10 : decode cX11_taken 10 = .ok (.iaload, 1) := by decide +kernel
theorem dX11_taken_11 : decode cX11_taken 11 = .ok (.istore_n 3, 1) := by decide +kernel
theorem dX11_taken_12 : decode cX11_taken 12 = .ok (.iload_n 2, 1) := by decide +kernel
theorem dX11_taken_13 : decode cX11_taken 13 = .ok (.iconst 1, 1) := by decide +kernel
theorem dX11_taken_14 : decode cX11_taken 14 = .ok (.iadd, 1) := by decide +kernel
theorem dX11_taken_15 : decode cX11_taken 15 = .ok (.istore 4, 2) := by decide +kernel
theorem dX11_taken_17 : decode cX11_taken 17 = .ok (.iload 4, 2) := by decide +kernel
theorem dX11_taken_19 : decode cX11_taken 19 = .ok (.aload_n 0, 1) := by decide +kernel
theorem dX11_taken_20 : decode cX11_taken 20 = .ok (.getfield 49, 3) := by decide +kernel
theorem dX11_taken_23 : decode cX11_taken 23 = .ok (.iload_n 1, 1) := by decide +kernel
theorem dX11_taken_24 : decode cX11_taken 24 = .ok (.iaload, 1) := by decide +kernel
theorem dX11_taken_25 : decode cX11_taken 25 = .ok (.if_icmp .ge 35, 3) := by decide +kernel
theorem dX11_taken_28 : decode cX11_taken 28 = .ok (.aload_n 0, 1) := by decide +kernel
theorem dX11_taken_29 : decode cX11_taken 29 = .ok (.getfield 46, 3) := by decide +kernel
theorem dX11_taken_32 : decode cX11_taken 32 = .ok (.bipush 28, 2) := by decide +kernel
theorem dX11_taken_34 : decode cX11_taken 34 = .ok (.iload_n 1, 1) := by decide +kernel
theorem dX11_taken_35 : decode cX11_taken 35 = .ok (.imul, 1) := by decide +kernel
theorem dX11_taken_36 : decode cX11_taken 36 = .ok (.iload 4, 2) := by decide +kernel
theorem dX11_taken_38 : decode cX11_taken 38 = .ok (.iadd, 1) := by decide +kernel
theorem dX11_taken_39 : decode cX11_taken 39 = .ok (.iconst 1, 1) := by decide +kernel
theorem dX11_taken_40 : decode cX11_taken 40 = .ok (.isub, 1) := by decide +kernel
theorem dX11_taken_41 : decode cX11_taken 41 = .ok (.aload_n 0, 1) := by decide +kernel
theorem dX11_taken_42 : decode cX11_taken 42 = .ok (.getfield 46, 3) := by decide +kernel
theorem dX11_taken_45 : decode cX11_taken 45 = .ok (.bipush 28, 2) := by decide +kernel
theorem dX11_taken_47 : decode cX11_taken 47 = .ok (.iload_n 1, 1) := by decide +kernel
theorem dX11_taken_48 : decode cX11_taken 48 = .ok (.imul, 1) := by decide +kernel
theorem dX11_taken_49 : decode cX11_taken 49 = .ok (.iload 4, 2) := by decide +kernel
theorem dX11_taken_51 : decode cX11_taken 51 = .ok (.iadd, 1) := by decide +kernel
theorem dX11_taken_52 : decode cX11_taken 52 = .ok (.iaload, 1) := by decide +kernel
theorem dX11_taken_53 : decode cX11_taken 53 = .ok (.iastore, 1) := by decide +kernel
theorem dX11_taken_54 : decode cX11_taken 54 = .ok (.iinc 4 1, 3) := by decide +kernel
theorem dX11_taken_57 : decode cX11_taken 57 = .ok (.goto (-40), 3) := by decide +kernel
theorem dX11_taken_60 : decode cX11_taken 60 = .ok (.aload_n 0, 1) := by decide +kernel
theorem dX11_taken_61 : decode cX11_taken 61 = .ok (.getfield 49, 3) := by decide +kernel
theorem dX11_taken_64 : decode cX11_taken 64 = .ok (.iload_n 1, 1) := by decide +kernel
theorem dX11_taken_65 : decode cX11_taken 65 = .ok (.dup2, 1) := by decide +kernel
theorem dX11_taken_66 : decode cX11_taken 66 = .ok (.iaload, 1) := by decide +kernel
theorem dX11_taken_67 : decode cX11_taken 67 = .ok (.iconst 1, 1) := by decide +kernel
theorem dX11_taken_68 : decode cX11_taken 68 = .ok (.isub, 1) := by decide +kernel
theorem dX11_taken_69 : decode cX11_taken 69 = .ok (.iastore, 1) := by decide +kernel
theorem dX11_taken_70 : decode cX11_taken 70 = .ok (.iload_n 3, 1) := by decide +kernel
theorem dX11_taken_71 : decode cX11_taken 71 = .ok (.ireturn, 1) := by decide +kernel
set_option maxRecDepth 4000 in
theorem s_X11_taken_0 {w : GX} {d : Nat} {P : PN} {g : GI} (x1 : Int) (x2 : Int)
    (h : (0 ≤ nm ((28 * x1) + x2) ∧ nm ((28 * x1) + x2) < 560 ∧ (∀ v5 : Int, v5 = g 241 (nm ((28 * x1) + x2)).toNat → (∀ v6 : Int, v6 = x2 + 1 → Zm w d mX11_taken 17 [some (aR (some (228))), some (aI (x1)), none, some (aI (v5)), some (aI (v6))] [] g P)))) :
    Zm w d mX11_taken 0 [some (aR (some (228))), some (aI (x1)), some (aI (x2)), none, none] [] g P := by
  refine z_aload_n dX11_taken_0 rfl rfl ?_
  refine m_getR dX11_taken_1 fl_X11_46 (by decide) kt_228 rv_228_20 ?_
  refine z_bipush dX11_taken_4 rfl ?_
  refine z_iload_n dX11_taken_6 rfl rfl ?_
  refine z_imul dX11_taken_7 ?_
  refine z_iload_n dX11_taken_8 rfl rfl ?_
  refine z_iadd dX11_taken_9 ?_
  obtain ⟨q3, q4, h⟩ := h
  refine m_iald dX11_taken_10 kv_241 q3 q4 ?_
  replace h := h _ rfl
  refine z_istore_n dX11_taken_11 rfl (by decide) rfl ?_
  show Zm w d mX11_taken 12 [some (aR (some (228))), some (aI (x1)), some (aI (x2)), some (aI (g 241 (nm ((28 * x1) + x2)).toNat)), none] [] g P
  refine z_iload_n dX11_taken_12 rfl rfl ?_
  refine z_iconst dX11_taken_13 ?_
  refine z_iadd dX11_taken_14 ?_
  replace h := h _ rfl
  refine z_istore dX11_taken_15 (by decide) rfl ?_
  show Zm w d mX11_taken 17 [some (aR (some (228))), some (aI (x1)), some (aI (x2)), some (aI ((g 241 (nm ((28 * x1) + x2)).toNat))), some (aI (x2 + 1))] [] g P
  exact z_weak (by simp [lle]) h
set_option maxRecDepth 4000 in
theorem s_X11_taken_17 {w : GX} {d : Nat} {P : PN} {g : GI} (x1 : Int) (x3 : Int) (x4 : Int)
    (h : (0 ≤ nm x1 ∧ nm x1 < 20 ∧ ((¬ nm x4 < nm (g 242 (nm x1).toNat) → ((∀ g8 : GI, g8 = up2 g 242 (nm x1).toNat ((g 242 (nm x1).toNat) - 1) → P (some (aI (x3))) g8))) ∧ (nm x4 < nm (g 242 (nm x1).toNat) → (0 ≤ nm ((28 * x1) + x4) ∧ nm ((28 * x1) + x4) < 560 ∧ (0 ≤ nm (((28 * x1) + x4) - 1) ∧ nm (((28 * x1) + x4) - 1) < 560 ∧ ∀ g13 : GI, g13 = up2 g 241 (nm (((28 * x1) + x4) - 1)).toNat (g 241 (nm ((28 * x1) + x4)).toNat) → Zm w d mX11_taken 17 [some (aR (some (228))), some (aI (x1)), none, some (aI (x3)), some (aI (x4 + 1))] [] g13 P)))))) :
    Zm w d mX11_taken 17 [some (aR (some (228))), some (aI (x1)), none, some (aI (x3)), some (aI (x4))] [] g P := by
  refine z_iload dX11_taken_17 rfl ?_
  refine z_aload_n dX11_taken_19 rfl rfl ?_
  refine m_getR dX11_taken_20 fl_X11_49 (by decide) kt_228 rv_228_21 ?_
  refine z_iload_n dX11_taken_23 rfl rfl ?_
  obtain ⟨q3, q4, h⟩ := h
  refine m_iald dX11_taken_24 kv_242 q3 q4 ?_
  refine z_icmp_ge (tgt := 60) dX11_taken_25 (by decide) (fun c5 => ?_) (fun c5 => ?_)
  · replace h := h.1 c5
    refine z_aload_n dX11_taken_60 rfl rfl ?_
    refine m_getR dX11_taken_61 fl_X11_49 (by decide) kt_228 rv_228_21 ?_
    refine z_iload_n dX11_taken_64 rfl rfl ?_
    refine z_dup2 dX11_taken_65 rfl rfl ?_
    refine m_iald dX11_taken_66 kv_242 q3 q4 ?_
    refine z_iconst dX11_taken_67 ?_
    refine z_isub dX11_taken_68 ?_
    replace h := h _ rfl
    refine m_iast dX11_taken_69 kv_242 q3 q4 ?_
    refine z_iload_n dX11_taken_70 rfl rfl ?_
    exact m_iret dX11_taken_71 rfl h
  · replace h := h.2 (Decidable.not_not.mp c5)
    refine z_aload_n dX11_taken_28 rfl rfl ?_
    refine m_getR dX11_taken_29 fl_X11_46 (by decide) kt_228 rv_228_20 ?_
    refine z_bipush dX11_taken_32 rfl ?_
    refine z_iload_n dX11_taken_34 rfl rfl ?_
    refine z_imul dX11_taken_35 ?_
    refine z_iload dX11_taken_36 rfl ?_
    refine z_iadd dX11_taken_38 ?_
    refine z_iconst dX11_taken_39 ?_
    refine z_isub dX11_taken_40 ?_
    refine z_aload_n dX11_taken_41 rfl rfl ?_
    refine m_getR dX11_taken_42 fl_X11_46 (by decide) kt_228 rv_228_20 ?_
    refine z_bipush dX11_taken_45 rfl ?_
    refine z_iload_n dX11_taken_47 rfl rfl ?_
    refine z_imul dX11_taken_48 ?_
    refine z_iload dX11_taken_49 rfl ?_
    refine z_iadd dX11_taken_51 ?_
    obtain ⟨q11, q12, h⟩ := h
    refine m_iald dX11_taken_52 kv_241 q11 q12 ?_
    obtain ⟨q14, q15, h⟩ := h
    replace h := h _ rfl
    refine m_iast dX11_taken_53 kv_241 q14 q15 ?_
    refine z_iinc dX11_taken_54 rfl (by decide) rfl ?_
    show Zm w d mX11_taken 57 [some (aR (some (228))), some (aI (x1)), none, some (aI (x3)), some (aI (x4 + 1))] [] (up2 g 241 (nm (((28 * x1) + x4) - 1)).toNat (g 241 (nm ((28 * x1) + x4)).toNat)) P
    refine z_goto (tgt := 17) dX11_taken_57 (by decide) ?_
    exact z_weak (by simp [lle]) h
theorem dX11_begins_0 : decode cX11_begins 0 = .ok (.iconst 0, 1) := by decide +kernel
theorem dX11_begins_1 : decode cX11_begins 1 = .ok (.istore_n 1, 1) := by decide +kernel
theorem dX11_begins_2 : decode cX11_begins 2 = .ok (.iconst 0, 1) := by decide +kernel
theorem dX11_begins_3 : decode cX11_begins 3 = .ok (.istore_n 2, 1) := by decide +kernel
theorem dX11_begins_4 : decode cX11_begins 4 = .ok (.iload_n 2, 1) := by decide +kernel
theorem dX11_begins_5 : decode cX11_begins 5 = .ok (.bipush 20, 2) := by decide +kernel
theorem dX11_begins_7 : decode cX11_begins 7 = .ok (.if_icmp .ge 16, 3) := by decide +kernel
theorem dX11_begins_10 : decode cX11_begins 10 = .ok (.aload_n 0, 1) := by decide +kernel
theorem dX11_begins_11 : decode cX11_begins 11 = .ok (.getfield 49, 3) := by decide +kernel
theorem dX11_begins_14 : decode cX11_begins 14 = .ok (.iload_n 2, 1) := by decide +kernel
theorem dX11_begins_15 : decode cX11_begins 15 = .ok (.iconst 0, 1) := by decide +kernel
theorem dX11_begins_16 : decode cX11_begins 16 = .ok (.iastore, 1) := by decide +kernel
theorem dX11_begins_17 : decode cX11_begins 17 = .ok (.iinc 2 1, 3) := by decide +kernel
theorem dX11_begins_20 : decode cX11_begins 20 = .ok (.goto (-16), 3) := by decide +kernel
theorem dX11_begins_23 : decode cX11_begins 23 = .ok (.iconst 0, 1) := by decide +kernel
theorem dX11_begins_24 : decode cX11_begins 24 = .ok (.istore_n 2, 1) := by decide +kernel
theorem dX11_begins_25 : decode cX11_begins 25 = .ok (.iload_n 2, 1) := by decide +kernel
theorem dX11_begins_26 : decode cX11_begins 26 = .ok (.aload_n 0, 1) := by decide +kernel
theorem dX11_begins_27 : decode cX11_begins 27 = .ok (.getfield 125, 3) := by decide +kernel
theorem dX11_begins_30 : decode cX11_begins 30 = .ok (.if_icmp .ge 47, 3) := by decide +kernel
theorem dX11_begins_33 : decode cX11_begins 33 = .ok (.aload_n 0, 1) := by decide +kernel
theorem dX11_begins_34 : decode cX11_begins 34 = .ok (.getfield 28, 3) := by decide +kernel
theorem dX11_begins_37 : decode cX11_begins 37 = .ok (.iload_n 2, 1) := by decide +kernel
theorem dX11_begins_38 : decode cX11_begins 38 = .ok (.iaload, 1) := by decide +kernel
theorem dX11_begins_39 : decode cX11_begins 39 = .ok (.iconst 3, 1) := by decide +kernel
theorem dX11_begins_40 : decode cX11_begins 40 = .ok (.if_icmp .ne 31, 3) := by decide +kernel
theorem dX11_begins_43 : decode cX11_begins 43 = .ok (.aload_n 0, 1) := by decide +kernel
theorem dX11_begins_44 : decode cX11_begins 44 = .ok (.getfield 58, 3) := by decide +kernel
theorem dX11_begins_47 : decode cX11_begins 47 = .ok (.iload_n 1, 1) := by decide +kernel
theorem dX11_begins_48 : decode cX11_begins 48 = .ok (.aload_n 0, 1) := by decide +kernel
theorem dX11_begins_49 : decode cX11_begins 49 = .ok (.getfield 31, 3) := by decide +kernel
theorem dX11_begins_52 : decode cX11_begins 52 = .ok (.iload_n 2, 1) := by decide +kernel
theorem dX11_begins_53 : decode cX11_begins 53 = .ok (.iaload, 1) := by decide +kernel
theorem dX11_begins_54 : decode cX11_begins 54 = .ok (.iastore, 1) := by decide +kernel
theorem dX11_begins_55 : decode cX11_begins 55 = .ok (.aload_n 0, 1) := by decide +kernel
theorem dX11_begins_56 : decode cX11_begins 56 = .ok (.getfield 55, 3) := by decide +kernel
theorem dX11_begins_59 : decode cX11_begins 59 = .ok (.iload_n 1, 1) := by decide +kernel
theorem dX11_begins_60 : decode cX11_begins 60 = .ok (.iconst 0, 1) := by decide +kernel
theorem dX11_begins_61 : decode cX11_begins 61 = .ok (.iastore, 1) := by decide +kernel
theorem dX11_begins_62 : decode cX11_begins 62 = .ok (.aload_n 0, 1) := by decide +kernel
theorem dX11_begins_63 : decode cX11_begins 63 = .ok (.iload_n 1, 1) := by decide +kernel
theorem dX11_begins_64 : decode cX11_begins 64 = .ok (.iload_n 2, 1) := by decide +kernel
theorem dX11_begins_65 : decode cX11_begins 65 = .ok (.invokevirtual 194, 3) := by decide +kernel
theorem dX11_begins_68 : decode cX11_begins 68 = .ok (.iinc 1 1, 3) := by decide +kernel
theorem dX11_begins_71 : decode cX11_begins 71 = .ok (.iinc 2 1, 3) := by decide +kernel
theorem dX11_begins_74 : decode cX11_begins 74 = .ok (.goto (-49), 3) := by decide +kernel
theorem dX11_begins_77 : decode cX11_begins 77 = .ok (.iconst 0, 1) := by decide +kernel
theorem dX11_begins_78 : decode cX11_begins 78 = .ok (.istore_n 2, 1) := by decide +kernel
theorem dX11_begins_79 : decode cX11_begins 79 = .ok (.iload_n 2, 1) := by decide +kernel
theorem dX11_begins_80 : decode cX11_begins 80 = .ok (.aload_n 0, 1) := by decide +kernel
theorem dX11_begins_81 : decode cX11_begins 81 = .ok (.getfield 140, 3) := by decide +kernel
theorem dX11_begins_84 : decode cX11_begins 84 = .ok (.if_icmp .ge 67, 3) := by decide +kernel
theorem dX11_begins_87 : decode cX11_begins 87 = .ok (.aload_n 0, 1) := by decide +kernel
theorem dX11_begins_88 : decode cX11_begins 88 = .ok (.getfield 58, 3) := by decide +kernel
theorem dX11_begins_91 : decode cX11_begins 91 = .ok (.aload_n 0, 1) := by decide +kernel
theorem dX11_begins_92 : decode cX11_begins 92 = .ok (.getfield 128, 3) := by decide +kernel
theorem dX11_begins_95 : decode cX11_begins 95 = .ok (.iload_n 2, 1) := by decide +kernel
theorem dX11_begins_96 : decode cX11_begins 96 = .ok (.iadd, 1) := by decide +kernel
theorem dX11_begins_97 : decode cX11_begins 97 = .ok (.aload_n 0, 1) := by decide +kernel
theorem dX11_begins_98 : decode cX11_begins 98 = .ok (.getfield 34, 3) := by decide +kernel
theorem dX11_begins_101 : decode cX11_begins 101 = .ok (.iconst 4, 1) := by decide +kernel
theorem dX11_begins_102 : decode cX11_begins 102 = .ok (.iload_n 2, 1) := by decide +kernel
theorem dX11_begins_103 : decode cX11_begins 103 = .ok (.imul, 1) := by decide +kernel
theorem dX11_begins_104 : decode cX11_begins 104 = .ok (.iaload, 1) := by decide +kernel
theorem dX11_begins_105 : decode cX11_begins 105 = .ok (.iastore, 1) := by decide +kernel
theorem dX11_begins_106 : decode cX11_begins 106 = .ok (.aload_n 0, 1) := by decide +kernel
theorem dX11_begins_107 : decode cX11_begins 107 = .ok (.getfield 55, 3) := by decide +kernel
theorem dX11_begins_110 : decode cX11_begins 110 = .ok (.aload_n 0, 1) := by decide +kernel
theorem dX11_begins_111 : decode cX11_begins 111 = .ok (.getfield 128, 3) := by decide +kernel
theorem dX11_begins_114 : decode cX11_begins 114 = .ok (.iload_n 2, 1) := by decide +kernel
theorem dX11_begins_115 : decode cX11_begins 115 = .ok (.iadd, 1) := by decide +kernel
theorem dX11_begins_116 : decode cX11_begins 116 = .ok (.iconst 0, 1) := by decide +kernel
theorem dX11_begins_117 : decode cX11_begins 117 = .ok (.iastore, 1) := by decide +kernel
theorem dX11_begins_118 : decode cX11_begins 118 = .ok (.aload_n 0, 1) := by decide +kernel
theorem dX11_begins_119 : decode cX11_begins 119 = .ok (.getfield 52, 3) := by decide +kernel
theorem dX11_begins_122 : decode cX11_begins 122 = .ok (.aload_n 0, 1) := by decide +kernel
theorem dX11_begins_123 : decode cX11_begins 123 = .ok (.getfield 128, 3) := by decide +kernel
theorem dX11_begins_126 : decode cX11_begins 126 = .ok (.iload_n 2, 1) := by decide +kernel
theorem dX11_begins_127 : decode cX11_begins 127 = .ok (.iadd, 1) := by decide +kernel
theorem dX11_begins_128 : decode cX11_begins 128 = .ok (.bipush 22, 2) := by decide +kernel
theorem dX11_begins_130 : decode cX11_begins 130 = .ok (.iload_n 2, 1) := by decide +kernel
theorem dX11_begins_131 : decode cX11_begins 131 = .ok (.iadd, 1) := by decide +kernel
theorem dX11_begins_132 : decode cX11_begins 132 = .ok (.iastore, 1) := by decide +kernel
theorem dX11_begins_133 : decode cX11_begins 133 = .ok (.aload_n 0, 1) := by decide +kernel
theorem dX11_begins_134 : decode cX11_begins 134 = .ok (.getfield 61, 3) := by decide +kernel
theorem dX11_begins_137 : decode cX11_begins 137 = .ok (.iload_n 2, 1) := by decide +kernel
theorem dX11_begins_138 : decode cX11_begins 138 = .ok (.aload_n 0, 1) := by decide +kernel
theorem dX11_begins_139 : decode cX11_begins 139 = .ok (.getfield 128, 3) := by decide +kernel
theorem dX11_begins_142 : decode cX11_begins 142 = .ok (.iload_n 2, 1) := by decide +kernel
theorem dX11_begins_143 : decode cX11_begins 143 = .ok (.iadd, 1) := by decide +kernel
theorem dX11_begins_144 : decode cX11_begins 144 = .ok (.iastore, 1) := by decide +kernel
theorem dX11_begins_145 : decode cX11_begins 145 = .ok (.iinc 2 1, 3) := by decide +kernel
theorem dX11_begins_148 : decode cX11_begins 148 = .ok (.goto (-69), 3) := by decide +kernel
theorem dX11_begins_151 : decode cX11_begins 151 = .ok (.iconst 0, 1) := by decide +kernel
theorem dX11_begins_152 : decode cX11_begins 152 = .ok (.istore_n 2, 1) := by decide +kernel
theorem dX11_begins_153 : decode cX11_begins 153 = .ok (.iload_n 2, 1) := by decide +kernel
theorem dX11_begins_154 : decode cX11_begins 154 = .ok (.aload_n 0, 1) := by decide +kernel
theorem dX11_begins_155 : decode cX11_begins 155 = .ok (.getfield 169, 3) := by decide +kernel
theorem dX11_begins_158 : decode cX11_begins 158 = .ok (.if_icmp .ge 16, 3) := by decide +kernel
theorem dX11_begins_161 : decode cX11_begins 161 = .ok (.aload_n 0, 1) := by decide +kernel
theorem dX11_begins_162 : decode cX11_begins 162 = .ok (.getfield 64, 3) := by decide +kernel
theorem dX11_begins_165 : decode cX11_begins 165 = .ok (.iload_n 2, 1) := by decide +kernel
theorem dX11_begins_166 : decode cX11_begins 166 = .ok (.iconst 0, 1) := by decide +kernel
theorem dX11_begins_167 : decode cX11_begins 167 = .ok (.iastore, 1) := by decide +kernel
theorem dX11_begins_168 : decode cX11_begins 168 = .ok (.iinc 2 1, 3) := by decide +kernel
theorem dX11_begins_171 : decode cX11_begins 171 = .ok (.goto (-18), 3) := by decide +kernel
theorem dX11_begins_174 : decode cX11_begins 174 = .ok (.return_, 1) := by decide +kernel
set_option maxRecDepth 4000 in
theorem s_X11_begins_0 {w : GX} {d : Nat} {P : PN} {g : GI} 
    (h : Zm w (d + 1) mX11_begins 4 [some (aR (some (228))), some (aI (0)), some (aI (0))] [] g P) :
    Zm w (d + 1) mX11_begins 0 [some (aR (some (228))), none, none] [] g P := by
  refine z_iconst dX11_begins_0 ?_
  refine z_istore_n dX11_begins_1 rfl (by decide) rfl ?_
  show Zm w (d + 1) mX11_begins 2 [some (aR (some (228))), some (aI (0)), none] [] g P
  refine z_iconst dX11_begins_2 ?_
  refine z_istore_n dX11_begins_3 rfl (by decide) rfl ?_
  show Zm w (d + 1) mX11_begins 4 [some (aR (some (228))), some (aI (0)), some (aI (0))] [] g P
  exact z_weak (by simp [lle]) h
set_option maxRecDepth 4000 in
theorem s_X11_begins_4 {w : GX} {d : Nat} {P : PN} {g : GI} (x1 : Int) (x2 : Int)
    (h : ((¬ nm x2 < nm 20 → Zm w (d + 1) mX11_begins 25 [some (aR (some (228))), some (aI (x1)), some (aI (0))] [] g P) ∧ (nm x2 < nm 20 → (0 ≤ nm x2 ∧ nm x2 < 20 ∧ ∀ g2 : GI, g2 = up2 g 242 (nm x2).toNat 0 → Zm w (d + 1) mX11_begins 4 [some (aR (some (228))), some (aI (x1)), some (aI (x2 + 1))] [] g2 P)))) :
    Zm w (d + 1) mX11_begins 4 [some (aR (some (228))), some (aI (x1)), some (aI (x2))] [] g P := by
  refine z_iload_n dX11_begins_4 rfl rfl ?_
  refine z_bipush dX11_begins_5 rfl ?_
  refine z_icmp_ge (tgt := 23) dX11_begins_7 (by decide) (fun c1 => ?_) (fun c1 => ?_)
  · replace h := h.1 c1
    refine z_iconst dX11_begins_23 ?_
    refine z_istore_n dX11_begins_24 rfl (by decide) rfl ?_
    show Zm w (d + 1) mX11_begins 25 [some (aR (some (228))), some (aI (x1)), some (aI (0))] [] g P
    exact z_weak (by simp [lle]) h
  · replace h := h.2 (Decidable.not_not.mp c1)
    refine z_aload_n dX11_begins_10 rfl rfl ?_
    refine m_getR dX11_begins_11 fl_X11_49 (by decide) kt_228 rv_228_21 ?_
    refine z_iload_n dX11_begins_14 rfl rfl ?_
    refine z_iconst dX11_begins_15 ?_
    obtain ⟨q3, q4, h⟩ := h
    replace h := h _ rfl
    refine m_iast dX11_begins_16 kv_242 q3 q4 ?_
    refine z_iinc dX11_begins_17 rfl (by decide) rfl ?_
    show Zm w (d + 1) mX11_begins 20 [some (aR (some (228))), some (aI (x1)), some (aI (x2 + 1))] [] (up2 g 242 (nm x2).toNat 0) P
    refine z_goto (tgt := 4) dX11_begins_20 (by decide) ?_
    exact z_weak (by simp [lle]) h
set_option maxRecDepth 4000 in
theorem s_X11_begins_25 {w : GX} {d : Nat} {P : PN} {g : GI} (x1 : Int) (x2 : Int)
    (h : ((¬ nm x2 < nm (g 228 7) → Zm w (d + 1) mX11_begins 79 [some (aR (some (228))), none, some (aI (0))] [] g P) ∧ (nm x2 < nm (g 228 7) → (0 ≤ nm x2 ∧ nm x2 < 20 ∧ ((¬ nm (g 235 (nm x2).toNat) = nm 3 → Zm w (d + 1) mX11_begins 25 [some (aR (some (228))), some (aI (x1)), some (aI (x2 + 1))] [] g P) ∧ (nm (g 235 (nm x2).toNat) = nm 3 → ((0 ≤ nm x1 ∧ nm x1 < 28 ∧ ∀ g9 : GI, g9 = up2 g 245 (nm x1).toNat (g 236 (nm x2).toNat) → (∀ g12 : GI, g12 = up2 g9 244 (nm x1).toNat 0 → Zm w d mX11_comesInto 0 [some (aR (some (228))), some (aI (x1)), some (aI (x2))] [] g12 (fun r g13 => r = none ∧ Zm w (d + 1) mX11_begins 25 [some (aR (some (228))), some (aI (x1 + 1)), some (aI (x2 + 1))] [] g13 P)))))))))) :
    Zm w (d + 1) mX11_begins 25 [some (aR (some (228))), some (aI (x1)), some (aI (x2))] [] g P := by
  refine z_iload_n dX11_begins_25 rfl rfl ?_
  refine z_aload_n dX11_begins_26 rfl rfl ?_
  refine z_getI dX11_begins_27 fl_X11_125 (by decide) kt_228 ?_
  refine z_icmp_ge (tgt := 77) dX11_begins_30 (by decide) (fun c1 => ?_) (fun c1 => ?_)
  · replace h := h.1 c1
    refine z_iconst dX11_begins_77 ?_
    refine z_istore_n dX11_begins_78 rfl (by decide) rfl ?_
    show Zm w (d + 1) mX11_begins 79 [some (aR (some (228))), some (aI (x1)), some (aI (0))] [] g P
    exact z_weak (by simp [lle]) h
  · replace h := h.2 (Decidable.not_not.mp c1)
    refine z_aload_n dX11_begins_33 rfl rfl ?_
    refine m_getR dX11_begins_34 fl_X11_28 (by decide) kt_228 rv_228_8 ?_
    refine z_iload_n dX11_begins_37 rfl rfl ?_
    obtain ⟨q4, q5, h⟩ := h
    refine m_iald dX11_begins_38 kv_235 q4 q5 ?_
    refine z_iconst dX11_begins_39 ?_
    refine z_icmp_ne (tgt := 71) dX11_begins_40 (by decide) (fun c6 => ?_) (fun c6 => ?_)
    · replace h := h.1 c6
      refine z_iinc dX11_begins_71 rfl (by decide) rfl ?_
      show Zm w (d + 1) mX11_begins 74 [some (aR (some (228))), some (aI (x1)), some (aI (x2 + 1))] [] g P
      refine z_goto (tgt := 25) dX11_begins_74 (by decide) ?_
      exact z_weak (by simp [lle]) h
    · replace h := h.2 (Decidable.not_not.mp c6)
      refine z_aload_n dX11_begins_43 rfl rfl ?_
      refine m_getR dX11_begins_44 fl_X11_58 (by decide) kt_228 rv_228_24 ?_
      refine z_iload_n dX11_begins_47 rfl rfl ?_
      refine z_aload_n dX11_begins_48 rfl rfl ?_
      refine m_getR dX11_begins_49 fl_X11_31 (by decide) kt_228 rv_228_9 ?_
      refine z_iload_n dX11_begins_52 rfl rfl ?_
      refine m_iald dX11_begins_53 kv_236 q4 q5 ?_
      obtain ⟨q10, q11, h⟩ := h
      replace h := h _ rfl
      refine m_iast dX11_begins_54 kv_245 q10 q11 ?_
      refine z_aload_n dX11_begins_55 rfl rfl ?_
      refine m_getR dX11_begins_56 fl_X11_55 (by decide) kt_228 rv_228_23 ?_
      refine z_iload_n dX11_begins_59 rfl rfl ?_
      refine z_iconst dX11_begins_60 ?_
      replace h := h _ rfl
      refine m_iast dX11_begins_61 kv_244 q10 q11 ?_
      refine z_aload_n dX11_begins_62 rfl rfl ?_
      refine z_iload_n dX11_begins_63 rfl rfl ?_
      refine z_iload_n dX11_begins_64 rfl rfl ?_
      refine m_callV (as := [aI (x1), aI (x2)]) dX11_begins_65 lk_X11_194 mok_X11_comesInto in_X11_comesInto sl_X11_comesInto kt_228 rfl rfl rfl (Nat.le_of_ble_eq_true rfl) rfl (Nat.le_of_ble_eq_true rfl) rfl (m_mono (fun r g13 hr => ?_) h)
      obtain ⟨rfl, h⟩ := hr
      show Zm w (d + 1) mX11_begins 68 [some (aR (some (228))), some (aI (x1)), some (aI (x2))] [] g13 P
      refine z_iinc dX11_begins_68 rfl (by decide) rfl ?_
      show Zm w (d + 1) mX11_begins 71 [some (aR (some (228))), some (aI (x1 + 1)), some (aI (x2))] [] g13 P
      refine z_iinc dX11_begins_71 rfl (by decide) rfl ?_
      show Zm w (d + 1) mX11_begins 74 [some (aR (some (228))), some (aI (x1 + 1)), some (aI (x2 + 1))] [] g13 P
      refine z_goto (tgt := 25) dX11_begins_74 (by decide) ?_
      exact z_weak (by simp [lle]) h
set_option maxRecDepth 4000 in
theorem s_X11_begins_79 {w : GX} {d : Nat} {P : PN} {g : GI} (x2 : Int)
    (h : ((¬ nm x2 < nm (g 228 10) → Zm w (d + 1) mX11_begins 153 [some (aR (some (228))), none, some (aI (0))] [] g P) ∧ (nm x2 < nm (g 228 10) → (0 ≤ nm (4 * x2) ∧ nm (4 * x2) < 32 ∧ (0 ≤ nm ((g 228 12) + x2) ∧ nm ((g 228 12) + x2) < 28 ∧ ∀ g6 : GI, g6 = up2 g 245 (nm ((g 228 12) + x2)).toNat (g 237 (nm (4 * x2)).toNat) → (0 ≤ nm ((g6 228 12) + x2) ∧ nm ((g6 228 12) + x2) < 28 ∧ ∀ g9 : GI, g9 = up2 g6 244 (nm ((g6 228 12) + x2)).toNat 0 → (0 ≤ nm ((g9 228 12) + x2) ∧ nm ((g9 228 12) + x2) < 28 ∧ ∀ g12 : GI, g12 = up2 g9 243 (nm ((g9 228 12) + x2)).toNat (22 + x2) → (0 ≤ nm x2 ∧ nm x2 < 8 ∧ ∀ g15 : GI, g15 = up2 g12 246 (nm x2).toNat ((g12 228 12) + x2) → Zm w (d + 1) mX11_begins 79 [some (aR (some (228))), none, some (aI (x2 + 1))] [] g15 P)))))))) :
    Zm w (d + 1) mX11_begins 79 [some (aR (some (228))), none, some (aI (x2))] [] g P := by
  refine z_iload_n dX11_begins_79 rfl rfl ?_
  refine z_aload_n dX11_begins_80 rfl rfl ?_
  refine z_getI dX11_begins_81 fl_X11_140 (by decide) kt_228 ?_
  refine z_icmp_ge (tgt := 151) dX11_begins_84 (by decide) (fun c1 => ?_) (fun c1 => ?_)
  · replace h := h.1 c1
    refine z_iconst dX11_begins_151 ?_
    refine z_istore_n dX11_begins_152 rfl (by decide) rfl ?_
    show Zm w (d + 1) mX11_begins 153 [some (aR (some (228))), none, some (aI (0))] [] g P
    exact z_weak (by simp [lle]) h
  · replace h := h.2 (Decidable.not_not.mp c1)
    refine z_aload_n dX11_begins_87 rfl rfl ?_
    refine m_getR dX11_begins_88 fl_X11_58 (by decide) kt_228 rv_228_24 ?_
    refine z_aload_n dX11_begins_91 rfl rfl ?_
    refine z_getI dX11_begins_92 fl_X11_128 (by decide) kt_228 ?_
    refine z_iload_n dX11_begins_95 rfl rfl ?_
    refine z_iadd dX11_begins_96 ?_
    refine z_aload_n dX11_begins_97 rfl rfl ?_
    refine m_getR dX11_begins_98 fl_X11_34 (by decide) kt_228 rv_228_11 ?_
    refine z_iconst dX11_begins_101 ?_
    refine z_iload_n dX11_begins_102 rfl rfl ?_
    refine z_imul dX11_begins_103 ?_
    obtain ⟨q4, q5, h⟩ := h
    refine m_iald dX11_begins_104 kv_237 q4 q5 ?_
    obtain ⟨q7, q8, h⟩ := h
    replace h := h _ rfl
    refine m_iast dX11_begins_105 kv_245 q7 q8 ?_
    refine z_aload_n dX11_begins_106 rfl rfl ?_
    refine m_getR dX11_begins_107 fl_X11_55 (by decide) kt_228 rv_228_23 ?_
    refine z_aload_n dX11_begins_110 rfl rfl ?_
    refine z_getI dX11_begins_111 fl_X11_128 (by decide) kt_228 ?_
    refine z_iload_n dX11_begins_114 rfl rfl ?_
    refine z_iadd dX11_begins_115 ?_
    refine z_iconst dX11_begins_116 ?_
    obtain ⟨q10, q11, h⟩ := h
    replace h := h _ rfl
    refine m_iast dX11_begins_117 kv_244 q10 q11 ?_
    refine z_aload_n dX11_begins_118 rfl rfl ?_
    refine m_getR dX11_begins_119 fl_X11_52 (by decide) kt_228 rv_228_22 ?_
    refine z_aload_n dX11_begins_122 rfl rfl ?_
    refine z_getI dX11_begins_123 fl_X11_128 (by decide) kt_228 ?_
    refine z_iload_n dX11_begins_126 rfl rfl ?_
    refine z_iadd dX11_begins_127 ?_
    refine z_bipush dX11_begins_128 rfl ?_
    refine z_iload_n dX11_begins_130 rfl rfl ?_
    refine z_iadd dX11_begins_131 ?_
    obtain ⟨q13, q14, h⟩ := h
    replace h := h _ rfl
    refine m_iast dX11_begins_132 kv_243 q13 q14 ?_
    refine z_aload_n dX11_begins_133 rfl rfl ?_
    refine m_getR dX11_begins_134 fl_X11_61 (by decide) kt_228 rv_228_25 ?_
    refine z_iload_n dX11_begins_137 rfl rfl ?_
    refine z_aload_n dX11_begins_138 rfl rfl ?_
    refine z_getI dX11_begins_139 fl_X11_128 (by decide) kt_228 ?_
    refine z_iload_n dX11_begins_142 rfl rfl ?_
    refine z_iadd dX11_begins_143 ?_
    obtain ⟨q16, q17, h⟩ := h
    replace h := h _ rfl
    refine m_iast dX11_begins_144 kv_246 q16 q17 ?_
    refine z_iinc dX11_begins_145 rfl (by decide) rfl ?_
    show Zm w (d + 1) mX11_begins 148 [some (aR (some (228))), none, some (aI (x2 + 1))] [] (up2 (up2 (up2 (up2 g 245 (nm ((g 228 12) + x2)).toNat (g 237 (nm (4 * x2)).toNat)) 244 (nm (((up2 g 245 (nm ((g 228 12) + x2)).toNat (g 237 (nm (4 * x2)).toNat)) 228 12) + x2)).toNat 0) 243 (nm (((up2 (up2 g 245 (nm ((g 228 12) + x2)).toNat (g 237 (nm (4 * x2)).toNat)) 244 (nm (((up2 g 245 (nm ((g 228 12) + x2)).toNat (g 237 (nm (4 * x2)).toNat)) 228 12) + x2)).toNat 0) 228 12) + x2)).toNat (22 + x2)) 246 (nm x2).toNat (((up2 (up2 (up2 g 245 (nm ((g 228 12) + x2)).toNat (g 237 (nm (4 * x2)).toNat)) 244 (nm (((up2 g 245 (nm ((g 228 12) + x2)).toNat (g 237 (nm (4 * x2)).toNat)) 228 12) + x2)).toNat 0) 243 (nm (((up2 (up2 g 245 (nm ((g 228 12) + x2)).toNat (g 237 (nm (4 * x2)).toNat)) 244 (nm (((up2 g 245 (nm ((g 228 12) + x2)).toNat (g 237 (nm (4 * x2)).toNat)) 228 12) + x2)).toNat 0) 228 12) + x2)).toNat (22 + x2)) 228 12) + x2)) P
    refine z_goto (tgt := 79) dX11_begins_148 (by decide) ?_
    exact z_weak (by simp [lle]) h
set_option maxRecDepth 4000 in
theorem s_X11_begins_153 {w : GX} {d : Nat} {P : PN} {g : GI} (x2 : Int)
    (h : ((¬ nm x2 < nm (g 228 14) → P none g) ∧ (nm x2 < nm (g 228 14) → (0 ≤ nm x2 ∧ nm x2 < 36 ∧ ∀ g2 : GI, g2 = up2 g 247 (nm x2).toNat 0 → Zm w (d + 1) mX11_begins 153 [some (aR (some (228))), none, some (aI (x2 + 1))] [] g2 P)))) :
    Zm w (d + 1) mX11_begins 153 [some (aR (some (228))), none, some (aI (x2))] [] g P := by
  refine z_iload_n dX11_begins_153 rfl rfl ?_
  refine z_aload_n dX11_begins_154 rfl rfl ?_
  refine z_getI dX11_begins_155 fl_X11_169 (by decide) kt_228 ?_
  refine z_icmp_ge (tgt := 174) dX11_begins_158 (by decide) (fun c1 => ?_) (fun c1 => ?_)
  · replace h := h.1 c1
    exact m_vret dX11_begins_174 rfl h
  · replace h := h.2 (Decidable.not_not.mp c1)
    refine z_aload_n dX11_begins_161 rfl rfl ?_
    refine m_getR dX11_begins_162 fl_X11_64 (by decide) kt_228 rv_228_26 ?_
    refine z_iload_n dX11_begins_165 rfl rfl ?_
    refine z_iconst dX11_begins_166 ?_
    obtain ⟨q3, q4, h⟩ := h
    replace h := h _ rfl
    refine m_iast dX11_begins_167 kv_247 q3 q4 ?_
    refine z_iinc dX11_begins_168 rfl (by decide) rfl ?_
    show Zm w (d + 1) mX11_begins 171 [some (aR (some (228))), none, some (aI (x2 + 1))] [] (up2 g 247 (nm x2).toNat 0) P
    refine z_goto (tgt := 153) dX11_begins_171 (by decide) ?_
    exact z_weak (by simp [lle]) h
theorem dX11_trades_0 : decode cX11_trades 0 = .ok (.aload_n 0, 1) := by decide +kernel
theorem dX11_trades_1 : decode cX11_trades 1 = .ok (.getfield 125, 3) := by decide +kernel
theorem dX11_trades_4 : decode cX11_trades 4 = .ok (.ifCond .eq 22, 3) := by decide +kernel
theorem dX11_trades_7 : decode cX11_trades 7 = .ok (.aload_n 0, 1) := by decide +kernel
theorem dX11_trades_8 : decode cX11_trades 8 = .ok (.getfield 28, 3) := by decide +kernel
theorem dX11_trades_11 : decode cX11_trades 11 = .ok (.iconst 0, 1) := by decide +kernel
theorem dX11_trades_12 : decode cX11_trades 12 = .ok (.iaload, 1) := by decide +kernel
theorem dX11_trades_13 : decode cX11_trades 13 = .ok (.iconst 2, 1) := by decide +kernel
theorem dX11_trades_14 : decode cX11_trades 14 = .ok (.if_icmp .eq 12, 3) := by decide +kernel
theorem dX11_trades_17 : decode cX11_trades 17 = .ok (.aload_n 0, 1) := by decide +kernel
theorem dX11_trades_18 : decode cX11_trades 18 = .ok (.getfield 49, 3) := by decide +kernel
theorem dX11_trades_21 : decode cX11_trades 21 = .ok (.iconst 0, 1) := by decide +kernel
theorem dX11_trades_22 : decode cX11_trades 22 = .ok (.iaload, 1) := by decide +kernel
theorem dX11_trades_23 : decode cX11_trades 23 = .ok (.ifCond .ne 4, 3) := by decide +kernel
theorem dX11_trades_26 : decode cX11_trades 26 = .ok (.return_, 1) := by decide +kernel
theorem dX11_trades_27 : decode cX11_trades 27 = .ok (.iload_n 2, 1) := by decide +kernel
theorem dX11_trades_28 : decode cX11_trades 28 = .ok (.aload_n 0, 1) := by decide +kernel
theorem dX11_trades_29 : decode cX11_trades 29 = .ok (.getfield 80, 3) := by decide +kernel
theorem dX11_trades_32 : decode cX11_trades 32 = .ok (.if_icmp .ne 10, 3) := by decide +kernel
theorem dX11_trades_35 : decode cX11_trades 35 = .ok (.aload_n 0, 1) := by decide +kernel
theorem dX11_trades_36 : decode cX11_trades 36 = .ok (.getfield 197, 3) := by decide +kernel
theorem dX11_trades_39 : decode cX11_trades 39 = .ok (.goto 13, 3) := by decide +kernel
theorem dX11_trades_42 : decode cX11_trades 42 = .ok (.aload_n 0, 1) := by decide +kernel
theorem dX11_trades_43 : decode cX11_trades 43 = .ok (.getfield 34, 3) := by decide +kernel
theorem dX11_trades_46 : decode cX11_trades 46 = .ok (.iconst 4, 1) := by decide +kernel
theorem dX11_trades_47 : decode cX11_trades 47 = .ok (.iload_n 2, 1) := by decide +kernel
theorem dX11_trades_48 : decode cX11_trades 48 = .ok (.imul, 1) := by decide +kernel
theorem dX11_trades_49 : decode cX11_trades 49 = .ok (.iconst 3, 1) := by decide +kernel
theorem dX11_trades_50 : decode cX11_trades 50 = .ok (.iadd, 1) := by decide +kernel
theorem dX11_trades_51 : decode cX11_trades 51 = .ok (.iaload, 1) := by decide +kernel
theorem dX11_trades_52 : decode cX11_trades 52 = .ok (.istore_n 3, 1) := by decide +kernel
theorem dX11_trades_53 : decode cX11_trades 53 = .ok (.aload_n 0, 1) := by decide +kernel
theorem dX11_trades_54 : decode cX11_trades 54 = .ok (.iconst 0, 1) := by decide +kernel
theorem dX11_trades_55 : decode cX11_trades 55 = .ok (.iload_n 3, 1) := by decide +kernel
theorem dX11_trades_56 : decode cX11_trades 56 = .ok (.aload_n 0, 1) := by decide +kernel
theorem dX11_trades_57 : decode cX11_trades 57 = .ok (.getfield 49, 3) := by decide +kernel
theorem dX11_trades_60 : decode cX11_trades 60 = .ok (.iconst 0, 1) := by decide +kernel
theorem dX11_trades_61 : decode cX11_trades 61 = .ok (.iaload, 1) := by decide +kernel
theorem dX11_trades_62 : decode cX11_trades 62 = .ok (.irem, 1) := by decide +kernel
theorem dX11_trades_63 : decode cX11_trades 63 = .ok (.invokevirtual 200, 3) := by decide +kernel
theorem dX11_trades_66 : decode cX11_trades 66 = .ok (.istore 4, 2) := by decide +kernel
theorem dX11_trades_68 : decode cX11_trades 68 = .ok (.aload_n 0, 1) := by decide +kernel
theorem dX11_trades_69 : decode cX11_trades 69 = .ok (.aload_n 0, 1) := by decide +kernel
theorem dX11_trades_70 : decode cX11_trades 70 = .ok (.getfield 61, 3) := by decide +kernel
theorem dX11_trades_73 : decode cX11_trades 73 = .ok (.iload_n 2, 1) := by decide +kernel
theorem dX11_trades_74 : decode cX11_trades 74 = .ok (.iaload, 1) := by decide +kernel
theorem dX11_trades_75 : decode cX11_trades 75 = .ok (.iconst 0, 1) := by decide +kernel
theorem dX11_trades_76 : decode cX11_trades 76 = .ok (.invokevirtual 194, 3) := by decide +kernel
theorem dX11_trades_79 : decode cX11_trades 79 = .ok (.aload_n 0, 1) := by decide +kernel
theorem dX11_trades_80 : decode cX11_trades 80 = .ok (.getfield 61, 3) := by decide +kernel
theorem dX11_trades_83 : decode cX11_trades 83 = .ok (.iload_n 2, 1) := by decide +kernel
theorem dX11_trades_84 : decode cX11_trades 84 = .ok (.iload 4, 2) := by decide +kernel
theorem dX11_trades_86 : decode cX11_trades 86 = .ok (.iastore, 1) := by decide +kernel
theorem dX11_trades_87 : decode cX11_trades 87 = .ok (.aload_n 0, 1) := by decide +kernel
theorem dX11_trades_88 : decode cX11_trades 88 = .ok (.getfield 52, 3) := by decide +kernel
theorem dX11_trades_91 : decode cX11_trades 91 = .ok (.iload 4, 2) := by decide +kernel
theorem dX11_trades_93 : decode cX11_trades 93 = .ok (.bipush 22, 2) := by decide +kernel
theorem dX11_trades_95 : decode cX11_trades 95 = .ok (.iload_n 2, 1) := by decide +kernel
theorem dX11_trades_96 : decode cX11_trades 96 = .ok (.iadd, 1) := by decide +kernel
theorem dX11_trades_97 : decode cX11_trades 97 = .ok (.iastore, 1) := by decide +kernel
theorem dX11_trades_98 : decode cX11_trades 98 = .ok (.aload_n 0, 1) := by decide +kernel
theorem dX11_trades_99 : decode cX11_trades 99 = .ok (.getfield 64, 3) := by decide +kernel
theorem dX11_trades_102 : decode cX11_trades 102 = .ok (.iload_n 1, 1) := by decide +kernel
theorem dX11_trades_103 : decode cX11_trades 103 = .ok (.iconst 1, 1) := by decide +kernel
theorem dX11_trades_104 : decode cX11_trades 104 = .ok (.iastore, 1) := by decide +kernel
theorem dX11_trades_105 : decode cX11_trades 105 = .ok (.return_, 1) := by decide +kernel
set_option maxRecDepth 4000 in
theorem s_X11_trades_0 {w : GX} {d : Nat} {P : PN} {g : GI} (x1 : Int) (x2 : Int)
    (h : ((nm (g 228 7) = 0 → P none g) ∧ (¬ nm (g 228 7) = 0 → (((nm (g 235 (nm 0).toNat) = nm 2 → P none g) ∧ (¬ nm (g 235 (nm 0).toNat) = nm 2 → (((¬ nm (g 242 (nm 0).toNat) = 0 → ((¬ nm x2 = nm (g 228 28) → (0 ≤ nm ((4 * x2) + 3) ∧ nm ((4 * x2) + 3) < 32 ∧ Zm w (d + 1) mX11_trades 52 [some (aR (some (228))), some (aI (x1)), some (aI (x2)), none, none] [aI (g 237 (nm ((4 * x2) + 3)).toNat)] g P)) ∧ (nm x2 = nm (g 228 28) → Zm w (d + 1) mX11_trades 52 [some (aR (some (228))), some (aI (x1)), some (aI (x2)), none, none] [aI (g 228 29)] g P))) ∧ (nm (g 242 (nm 0).toNat) = 0 → P none g))))))))) :
    Zm w (d + 1) mX11_trades 0 [some (aR (some (228))), some (aI (x1)), some (aI (x2)), none, none] [] g P := by
  refine z_aload_n dX11_trades_0 rfl rfl ?_
  refine z_getI dX11_trades_1 fl_X11_125 (by decide) kt_228 ?_
  refine z_if_eq (tgt := 26) dX11_trades_4 (by decide) (fun c1 => ?_) (fun c1 => ?_)
  · replace h := h.1 c1
    exact m_vret dX11_trades_26 rfl h
  · replace h := h.2 c1
    refine z_aload_n dX11_trades_7 rfl rfl ?_
    refine m_getR dX11_trades_8 fl_X11_28 (by decide) kt_228 rv_228_8 ?_
    refine z_iconst dX11_trades_11 ?_
    refine m_iald dX11_trades_12 kv_235 (by decide) (by decide) ?_
    refine z_iconst dX11_trades_13 ?_
    refine z_icmp_eq (tgt := 26) dX11_trades_14 (by decide) (fun c4 => ?_) (fun c4 => ?_)
    · replace h := h.1 c4
      exact m_vret dX11_trades_26 rfl h
    · replace h := h.2 c4
      refine z_aload_n dX11_trades_17 rfl rfl ?_
      refine m_getR dX11_trades_18 fl_X11_49 (by decide) kt_228 rv_228_21 ?_
      refine z_iconst dX11_trades_21 ?_
      refine m_iald dX11_trades_22 kv_242 (by decide) (by decide) ?_
      refine z_if_ne (tgt := 27) dX11_trades_23 (by decide) (fun c7 => ?_) (fun c7 => ?_)
      · replace h := h.1 c7
        refine z_iload_n dX11_trades_27 rfl rfl ?_
        refine z_aload_n dX11_trades_28 rfl rfl ?_
        refine z_getI dX11_trades_29 fl_X11_80 (by decide) kt_228 ?_
        refine z_icmp_ne (tgt := 42) dX11_trades_32 (by decide) (fun c8 => ?_) (fun c8 => ?_)
        · replace h := h.1 c8
          refine z_aload_n dX11_trades_42 rfl rfl ?_
          refine m_getR dX11_trades_43 fl_X11_34 (by decide) kt_228 rv_228_11 ?_
          refine z_iconst dX11_trades_46 ?_
          refine z_iload_n dX11_trades_47 rfl rfl ?_
          refine z_imul dX11_trades_48 ?_
          refine z_iconst dX11_trades_49 ?_
          refine z_iadd dX11_trades_50 ?_
          obtain ⟨q11, q12, h⟩ := h
          refine m_iald dX11_trades_51 kv_237 q11 q12 ?_
          exact z_weak (by simp [lle]) h
        · replace h := h.2 (Decidable.not_not.mp c8)
          refine z_aload_n dX11_trades_35 rfl rfl ?_
          refine z_getI dX11_trades_36 fl_X11_197 (by decide) kt_228 ?_
          refine z_goto (tgt := 52) dX11_trades_39 (by decide) ?_
          exact z_weak (by simp [lle]) h
      · replace h := h.2 (Decidable.not_not.mp c7)
        exact m_vret dX11_trades_26 rfl h
set_option maxRecDepth 4000 in
theorem s_X11_trades_52 {w : GX} {d : Nat} {P : PN} {g : GI} (x1 : Int) (x2 : Int) (y0 : Int)
    (h : ((¬ nm (g 242 (nm 0).toNat) = 0 ∧ Zm w d mX11_taken 0 [some (aR (some (228))), some (aI (0)), some (aI (iRem y0 (g 242 (nm 0).toNat))), none, none] [] g (fun r g4 => ∃ z5 : Int, r = some (aI z5) ∧ (0 ≤ nm x2 ∧ nm x2 < 8 ∧ Zm w d mX11_comesInto 0 [some (aR (some (228))), some (aI (g4 246 (nm x2).toNat)), some (aI (0))] [] g4 (fun r g10 => r = none ∧ (∀ g12 : GI, g12 = up2 g10 246 (nm x2).toNat z5 → (0 ≤ nm z5 ∧ nm z5 < 28 ∧ ∀ g13 : GI, g13 = up2 g12 243 (nm z5).toNat (22 + x2) → (0 ≤ nm x1 ∧ nm x1 < 36 ∧ ∀ g16 : GI, g16 = up2 g13 247 (nm x1).toNat 1 → P none g16))))))))) :
    Zm w (d + 1) mX11_trades 52 [some (aR (some (228))), some (aI (x1)), some (aI (x2)), none, none] [aI (y0)] g P := by
  refine z_istore_n dX11_trades_52 rfl (by decide) rfl ?_
  show Zm w (d + 1) mX11_trades 53 [some (aR (some (228))), some (aI (x1)), some (aI (x2)), some (aI (y0)), none] [] g P
  refine z_aload_n dX11_trades_53 rfl rfl ?_
  refine z_iconst dX11_trades_54 ?_
  refine z_iload_n dX11_trades_55 rfl rfl ?_
  refine z_aload_n dX11_trades_56 rfl rfl ?_
  refine m_getR dX11_trades_57 fl_X11_49 (by decide) kt_228 rv_228_21 ?_
  refine z_iconst dX11_trades_60 ?_
  refine m_iald dX11_trades_61 kv_242 (by decide) (by decide) ?_
  obtain ⟨q3, h⟩ := h
  refine z_irem dX11_trades_62 q3 ?_
  refine m_callV (as := [aI (0), aI (iRem y0 (g 242 (nm 0).toNat))]) dX11_trades_63 lk_X11_200 mok_X11_taken in_X11_taken sl_X11_taken kt_228 rfl rfl rfl (Nat.le_of_ble_eq_true rfl) rfl (Nat.le_of_ble_eq_true rfl) rfl (m_mono (fun r g4 hr => ?_) h)
  obtain ⟨z5, rfl, h⟩ := hr
  show Zm w (d + 1) mX11_trades 66 [some (aR (some (228))), some (aI (x1)), some (aI (x2)), some (aI (y0)), none] [aI (z5)] g4 P
  refine z_istore dX11_trades_66 (by decide) rfl ?_
  show Zm w (d + 1) mX11_trades 68 [some (aR (some (228))), some (aI (x1)), some (aI (x2)), some (aI (y0)), some (aI (z5))] [] g4 P
  refine z_aload_n dX11_trades_68 rfl rfl ?_
  refine z_aload_n dX11_trades_69 rfl rfl ?_
  refine m_getR dX11_trades_70 fl_X11_61 (by decide) kt_228 rv_228_25 ?_
  refine z_iload_n dX11_trades_73 rfl rfl ?_
  obtain ⟨q8, q9, h⟩ := h
  refine m_iald dX11_trades_74 kv_246 q8 q9 ?_
  refine z_iconst dX11_trades_75 ?_
  refine m_callV (as := [aI (g4 246 (nm x2).toNat), aI (0)]) dX11_trades_76 lk_X11_194 mok_X11_comesInto in_X11_comesInto sl_X11_comesInto kt_228 rfl rfl rfl (Nat.le_of_ble_eq_true rfl) rfl (Nat.le_of_ble_eq_true rfl) rfl (m_mono (fun r g10 hr => ?_) h)
  obtain ⟨rfl, h⟩ := hr
  show Zm w (d + 1) mX11_trades 79 [some (aR (some (228))), some (aI (x1)), some (aI (x2)), some (aI (y0)), some (aI (z5))] [] g10 P
  refine z_aload_n dX11_trades_79 rfl rfl ?_
  refine m_getR dX11_trades_80 fl_X11_61 (by decide) kt_228 rv_228_25 ?_
  refine z_iload_n dX11_trades_83 rfl rfl ?_
  refine z_iload dX11_trades_84 rfl ?_
  replace h := h _ rfl
  refine m_iast dX11_trades_86 kv_246 q8 q9 ?_
  refine z_aload_n dX11_trades_87 rfl rfl ?_
  refine m_getR dX11_trades_88 fl_X11_52 (by decide) kt_228 rv_228_22 ?_
  refine z_iload dX11_trades_91 rfl ?_
  refine z_bipush dX11_trades_93 rfl ?_
  refine z_iload_n dX11_trades_95 rfl rfl ?_
  refine z_iadd dX11_trades_96 ?_
  obtain ⟨q14, q15, h⟩ := h
  replace h := h _ rfl
  refine m_iast dX11_trades_97 kv_243 q14 q15 ?_
  refine z_aload_n dX11_trades_98 rfl rfl ?_
  refine m_getR dX11_trades_99 fl_X11_64 (by decide) kt_228 rv_228_26 ?_
  refine z_iload_n dX11_trades_102 rfl rfl ?_
  refine z_iconst dX11_trades_103 ?_
  obtain ⟨q17, q18, h⟩ := h
  replace h := h _ rfl
  refine m_iast dX11_trades_104 kv_247 q17 q18 ?_
  exact m_vret dX11_trades_105 rfl h
theorem dX11_drift_0 : decode cX11_drift 0 = .ok (.aload_n 0, 1) := by decide +kernel
theorem dX11_drift_1 : decode cX11_drift 1 = .ok (.getfield 125, 3) := by decide +kernel
theorem dX11_drift_4 : decode cX11_drift 4 = .ok (.iconst 1, 1) := by decide +kernel
theorem dX11_drift_5 : decode cX11_drift 5 = .ok (.isub, 1) := by decide +kernel
theorem dX11_drift_6 : decode cX11_drift 6 = .ok (.istore_n 2, 1) := by decide +kernel
theorem dX11_drift_7 : decode cX11_drift 7 = .ok (.iload_n 2, 1) := by decide +kernel
theorem dX11_drift_8 : decode cX11_drift 8 = .ok (.ifCond .lt 207, 3) := by decide +kernel
theorem dX11_drift_11 : decode cX11_drift 11 = .ok (.iload_n 2, 1) := by decide +kernel
theorem dX11_drift_12 : decode cX11_drift 12 = .ok (.iconst 1, 1) := by decide +kernel
theorem dX11_drift_13 : decode cX11_drift 13 = .ok (.iadd, 1) := by decide +kernel
theorem dX11_drift_14 : decode cX11_drift 14 = .ok (.aload_n 0, 1) := by decide +kernel
theorem dX11_drift_15 : decode cX11_drift 15 = .ok (.getfield 125, 3) := by decide +kernel
theorem dX11_drift_18 : decode cX11_drift 18 = .ok (.if_icmp .eq 15, 3) := by decide +kernel
theorem dX11_drift_21 : decode cX11_drift 21 = .ok (.aload_n 0, 1) := by decide +kernel
theorem dX11_drift_22 : decode cX11_drift 22 = .ok (.getfield 28, 3) := by decide +kernel
theorem dX11_drift_25 : decode cX11_drift 25 = .ok (.iload_n 2, 1) := by decide +kernel
theorem dX11_drift_26 : decode cX11_drift 26 = .ok (.iconst 1, 1) := by decide +kernel
theorem dX11_drift_27 : decode cX11_drift 27 = .ok (.iadd, 1) := by decide +kernel
theorem dX11_drift_28 : decode cX11_drift 28 = .ok (.iaload, 1) := by decide +kernel
theorem dX11_drift_29 : decode cX11_drift 29 = .ok (.iconst 2, 1) := by decide +kernel
theorem dX11_drift_30 : decode cX11_drift 30 = .ok (.if_icmp .eq 7, 3) := by decide +kernel
theorem dX11_drift_33 : decode cX11_drift 33 = .ok (.iconst 1, 1) := by decide +kernel
theorem dX11_drift_34 : decode cX11_drift 34 = .ok (.goto 4, 3) := by decide +kernel
theorem dX11_drift_37 : decode cX11_drift 37 = .ok (.iconst 0, 1) := by decide +kernel
theorem dX11_drift_38 : decode cX11_drift 38 = .ok (.istore_n 3, 1) := by decide +kernel
theorem dX11_drift_39 : decode cX11_drift 39 = .ok (.iload_n 3, 1) := by decide +kernel
theorem dX11_drift_40 : decode cX11_drift 40 = .ok (.ifCond .eq 23, 3) := by decide +kernel
theorem dX11_drift_43 : decode cX11_drift 43 = .ok (.aload_n 0, 1) := by decide +kernel
theorem dX11_drift_44 : decode cX11_drift 44 = .ok (.getfield 28, 3) := by decide +kernel
theorem dX11_drift_47 : decode cX11_drift 47 = .ok (.iload_n 2, 1) := by decide +kernel
theorem dX11_drift_48 : decode cX11_drift 48 = .ok (.iaload, 1) := by decide +kernel
theorem dX11_drift_49 : decode cX11_drift 49 = .ok (.iconst 1, 1) := by decide +kernel
theorem dX11_drift_50 : decode cX11_drift 50 = .ok (.if_icmp .ne 9, 3) := by decide +kernel
theorem dX11_drift_53 : decode cX11_drift 53 = .ok (.iload_n 1, 1) := by decide +kernel
theorem dX11_drift_54 : decode cX11_drift 54 = .ok (.iconst 2, 1) := by decide +kernel
theorem dX11_drift_55 : decode cX11_drift 55 = .ok (.irem, 1) := by decide +kernel
theorem dX11_drift_56 : decode cX11_drift 56 = .ok (.ifCond .ne 7, 3) := by decide +kernel
theorem dX11_drift_59 : decode cX11_drift 59 = .ok (.iconst 1, 1) := by decide +kernel
theorem dX11_drift_60 : decode cX11_drift 60 = .ok (.goto 4, 3) := by decide +kernel
theorem dX11_drift_63 : decode cX11_drift 63 = .ok (.iconst 0, 1) := by decide +kernel
theorem dX11_drift_64 : decode cX11_drift 64 = .ok (.istore 4, 2) := by decide +kernel
theorem dX11_drift_66 : decode cX11_drift 66 = .ok (.iconst 0, 1) := by decide +kernel
theorem dX11_drift_67 : decode cX11_drift 67 = .ok (.istore 5, 2) := by decide +kernel
theorem dX11_drift_69 : decode cX11_drift 69 = .ok (.iload 5, 2) := by decide +kernel
theorem dX11_drift_71 : decode cX11_drift 71 = .ok (.aload_n 0, 1) := by decide +kernel
theorem dX11_drift_72 : decode cX11_drift 72 = .ok (.getfield 49, 3) := by decide +kernel
theorem dX11_drift_75 : decode cX11_drift 75 = .ok (.iload_n 2, 1) := by decide +kernel
theorem dX11_drift_76 : decode cX11_drift 76 = .ok (.iaload, 1) := by decide +kernel
theorem dX11_drift_77 : decode cX11_drift 77 = .ok (.if_icmp .ge 111, 3) := by decide +kernel
theorem dX11_drift_80 : decode cX11_drift 80 = .ok (.iload 4, 2) := by decide +kernel
theorem dX11_drift_82 : decode cX11_drift 82 = .ok (.ifCond .eq 106, 3) := by decide +kernel
theorem dX11_drift_85 : decode cX11_drift 85 = .ok (.aload_n 0, 1) := by decide +kernel
theorem dX11_drift_86 : decode cX11_drift 86 = .ok (.getfield 46, 3) := by decide +kernel
theorem dX11_drift_89 : decode cX11_drift 89 = .ok (.bipush 28, 2) := by decide +kernel
theorem dX11_drift_91 : decode cX11_drift 91 = .ok (.iload_n 2, 1) := by decide +kernel
theorem dX11_drift_92 : decode cX11_drift 92 = .ok (.imul, 1) := by decide +kernel
theorem dX11_drift_93 : decode cX11_drift 93 = .ok (.iload 5, 2) := by decide +kernel
theorem dX11_drift_95 : decode cX11_drift 95 = .ok (.iadd, 1) := by decide +kernel
theorem dX11_drift_96 : decode cX11_drift 96 = .ok (.iaload, 1) := by decide +kernel
theorem dX11_drift_97 : decode cX11_drift 97 = .ok (.istore 6, 2) := by decide +kernel
theorem dX11_drift_99 : decode cX11_drift 99 = .ok (.aload_n 0, 1) := by decide +kernel
theorem dX11_drift_100 : decode cX11_drift 100 = .ok (.getfield 55, 3) := by decide +kernel
theorem dX11_drift_103 : decode cX11_drift 103 = .ok (.iload 6, 2) := by decide +kernel
theorem dX11_drift_105 : decode cX11_drift 105 = .ok (.dup2, 1) := by decide +kernel
theorem dX11_drift_106 : decode cX11_drift 106 = .ok (.iaload, 1) := by decide +kernel
theorem dX11_drift_107 : decode cX11_drift 107 = .ok (.iconst 1, 1) := by decide +kernel
theorem dX11_drift_108 : decode cX11_drift 108 = .ok (.iadd, 1) := by decide +kernel
theorem dX11_drift_109 : decode cX11_drift 109 = .ok (.iastore, 1) := by decide +kernel
theorem dX11_drift_110 : decode cX11_drift 110 = .ok (.aload_n 0, 1) := by decide +kernel
theorem dX11_drift_111 : decode cX11_drift 111 = .ok (.getfield 58, 3) := by decide +kernel
theorem dX11_drift_114 : decode cX11_drift 114 = .ok (.iload 6, 2) := by decide +kernel
theorem dX11_drift_116 : decode cX11_drift 116 = .ok (.aload_n 0, 1) := by decide +kernel
theorem dX11_drift_117 : decode cX11_drift 117 = .ok (.getfield 55, 3) := by decide +kernel
theorem dX11_drift_120 : decode cX11_drift 120 = .ok (.iload 6, 2) := by decide +kernel
theorem dX11_drift_122 : decode cX11_drift 122 = .ok (.iaload, 1) := by decide +kernel
theorem dX11_drift_123 : decode cX11_drift 123 = .ok (.aload_n 0, 1) := by decide +kernel
theorem dX11_drift_124 : decode cX11_drift 124 = .ok (.getfield 73, 3) := by decide +kernel
theorem dX11_drift_127 : decode cX11_drift 127 = .ok (.if_icmp .ne 16, 3) := by decide +kernel
theorem dX11_drift_130 : decode cX11_drift 130 = .ok (.aload_n 0, 1) := by decide +kernel
theorem dX11_drift_131 : decode cX11_drift 131 = .ok (.getfield 58, 3) := by decide +kernel
theorem dX11_drift_134 : decode cX11_drift 134 = .ok (.iload 6, 2) := by decide +kernel
theorem dX11_drift_136 : decode cX11_drift 136 = .ok (.iaload, 1) := by decide +kernel
theorem dX11_drift_137 : decode cX11_drift 137 = .ok (.invokestatic 203, 3) := by decide +kernel
theorem dX11_drift_140 : decode cX11_drift 140 = .ok (.goto 10, 3) := by decide +kernel
theorem dX11_drift_143 : decode cX11_drift 143 = .ok (.aload_n 0, 1) := by decide +kernel
theorem dX11_drift_144 : decode cX11_drift 144 = .ok (.getfield 58, 3) := by decide +kernel
theorem dX11_drift_147 : decode cX11_drift 147 = .ok (.iload 6, 2) := by decide +kernel
theorem dX11_drift_149 : decode cX11_drift 149 = .ok (.iaload, 1) := by decide +kernel
theorem dX11_drift_150 : decode cX11_drift 150 = .ok (.iastore, 1) := by decide +kernel
theorem dX11_drift_151 : decode cX11_drift 151 = .ok (.iload_n 2, 1) := by decide +kernel
theorem dX11_drift_152 : decode cX11_drift 152 = .ok (.iconst 1, 1) := by decide +kernel
theorem dX11_drift_153 : decode cX11_drift 153 = .ok (.iadd, 1) := by decide +kernel
theorem dX11_drift_154 : decode cX11_drift 154 = .ok (.aload_n 0, 1) := by decide +kernel
theorem dX11_drift_155 : decode cX11_drift 155 = .ok (.getfield 125, 3) := by decide +kernel
theorem dX11_drift_158 : decode cX11_drift 158 = .ok (.if_icmp .ne 15, 3) := by decide +kernel
theorem dX11_drift_161 : decode cX11_drift 161 = .ok (.aload_n 0, 1) := by decide +kernel
theorem dX11_drift_162 : decode cX11_drift 162 = .ok (.getfield 52, 3) := by decide +kernel
theorem dX11_drift_165 : decode cX11_drift 165 = .ok (.iload 6, 2) := by decide +kernel
theorem dX11_drift_167 : decode cX11_drift 167 = .ok (.bipush 20, 2) := by decide +kernel
theorem dX11_drift_169 : decode cX11_drift 169 = .ok (.iastore, 1) := by decide +kernel
theorem dX11_drift_170 : decode cX11_drift 170 = .ok (.goto 12, 3) := by decide +kernel
theorem dX11_drift_173 : decode cX11_drift 173 = .ok (.aload_n 0, 1) := by decide +kernel
theorem dX11_drift_174 : decode cX11_drift 174 = .ok (.iload 6, 2) := by decide +kernel
theorem dX11_drift_176 : decode cX11_drift 176 = .ok (.iload_n 2, 1) := by decide +kernel
theorem dX11_drift_177 : decode cX11_drift 177 = .ok (.iconst 1, 1) := by decide +kernel
theorem dX11_drift_178 : decode cX11_drift 178 = .ok (.iadd, 1) := by decide +kernel
theorem dX11_drift_179 : decode cX11_drift 179 = .ok (.invokevirtual 194, 3) := by decide +kernel
theorem dX11_drift_182 : decode cX11_drift 182 = .ok (.iinc 5 1, 3) := by decide +kernel
theorem dX11_drift_185 : decode cX11_drift 185 = .ok (.goto (-116), 3) := by decide +kernel
theorem dX11_drift_188 : decode cX11_drift 188 = .ok (.aload_n 0, 1) := by decide +kernel
theorem dX11_drift_189 : decode cX11_drift 189 = .ok (.getfield 49, 3) := by decide +kernel
theorem dX11_drift_192 : decode cX11_drift 192 = .ok (.iload_n 2, 1) := by decide +kernel
theorem dX11_drift_193 : decode cX11_drift 193 = .ok (.iload 4, 2) := by decide +kernel
theorem dX11_drift_195 : decode cX11_drift 195 = .ok (.ifCond .eq 7, 3) := by decide +kernel
theorem dX11_drift_198 : decode cX11_drift 198 = .ok (.iconst 0, 1) := by decide +kernel
theorem dX11_drift_199 : decode cX11_drift 199 = .ok (.goto 9, 3) := by decide +kernel
theorem dX11_drift_202 : decode cX11_drift 202 = .ok (.aload_n 0, 1) := by decide +kernel
theorem dX11_drift_203 : decode cX11_drift 203 = .ok (.getfield 49, 3) := by decide +kernel
theorem dX11_drift_206 : decode cX11_drift 206 = .ok (.iload_n 2, 1) := by decide +kernel
theorem dX11_drift_207 : decode cX11_drift 207 = .ok (.iaload, 1) := by decide +kernel
theorem dX11_drift_208 : decode cX11_drift 208 = .ok (.iastore, 1) := by decide +kernel
theorem dX11_drift_209 : decode cX11_drift 209 = .ok (.iinc 2 (-1), 3) := by decide +kernel
theorem dX11_drift_212 : decode cX11_drift 212 = .ok (.goto (-205), 3) := by decide +kernel
theorem dX11_drift_215 : decode cX11_drift 215 = .ok (.return_, 1) := by decide +kernel
set_option maxRecDepth 4000 in
theorem s_X11_drift_0 {w : GX} {d : Nat} {P : PN} {g : GI} (x1 : Int)
    (h : (∀ v1 : Int, v1 = (g 228 7) - 1 → Zm w (d + 1) mX11_drift 7 [some (aR (some (228))), some (aI (x1)), some (aI (v1)), none, none, none, none] [] g P)) :
    Zm w (d + 1) mX11_drift 0 [some (aR (some (228))), some (aI (x1)), none, none, none, none, none] [] g P := by
  refine z_aload_n dX11_drift_0 rfl rfl ?_
  refine z_getI dX11_drift_1 fl_X11_125 (by decide) kt_228 ?_
  refine z_iconst dX11_drift_4 ?_
  refine z_isub dX11_drift_5 ?_
  replace h := h _ rfl
  refine z_istore_n dX11_drift_6 rfl (by decide) rfl ?_
  show Zm w (d + 1) mX11_drift 7 [some (aR (some (228))), some (aI (x1)), some (aI ((g 228 7) - 1)), none, none, none, none] [] g P
  exact z_weak (by simp [lle]) h
set_option maxRecDepth 4000 in
theorem s_X11_drift_7 {w : GX} {d : Nat} {P : PN} {g : GI} (x1 : Int) (x2 : Int)
    (h : ((nm x2 < 0 → P none g) ∧ (¬ nm x2 < 0 → ((nm (x2 + 1) = nm (g 228 7) → Zm w (d + 1) mX11_drift 33 [some (aR (some (228))), some (aI (x1)), some (aI (x2)), none, none, none, none] [] g P) ∧ (¬ nm (x2 + 1) = nm (g 228 7) → (0 ≤ nm (x2 + 1) ∧ nm (x2 + 1) < 20 ∧ ((nm (g 235 (nm (x2 + 1)).toNat) = nm 2 → Zm w (d + 1) mX11_drift 38 [some (aR (some (228))), some (aI (x1)), some (aI (x2)), none, none, none, none] [aI (0)] g P) ∧ (¬ nm (g 235 (nm (x2 + 1)).toNat) = nm 2 → Zm w (d + 1) mX11_drift 33 [some (aR (some (228))), some (aI (x1)), some (aI (x2)), none, none, none, none] [] g P)))))))) :
    Zm w (d + 1) mX11_drift 7 [some (aR (some (228))), some (aI (x1)), some (aI (x2)), none, none, none, none] [] g P := by
  refine z_iload_n dX11_drift_7 rfl rfl ?_
  refine z_if_lt (tgt := 215) dX11_drift_8 (by decide) (fun c1 => ?_) (fun c1 => ?_)
  · replace h := h.1 c1
    exact m_vret dX11_drift_215 rfl h
  · replace h := h.2 c1
    refine z_iload_n dX11_drift_11 rfl rfl ?_
    refine z_iconst dX11_drift_12 ?_
    refine z_iadd dX11_drift_13 ?_
    refine z_aload_n dX11_drift_14 rfl rfl ?_
    refine z_getI dX11_drift_15 fl_X11_125 (by decide) kt_228 ?_
    refine z_icmp_eq (tgt := 33) dX11_drift_18 (by decide) (fun c2 => ?_) (fun c2 => ?_)
    · replace h := h.1 c2
      exact z_weak (by simp [lle]) h
    · replace h := h.2 c2
      refine z_aload_n dX11_drift_21 rfl rfl ?_
      refine m_getR dX11_drift_22 fl_X11_28 (by decide) kt_228 rv_228_8 ?_
      refine z_iload_n dX11_drift_25 rfl rfl ?_
      refine z_iconst dX11_drift_26 ?_
      refine z_iadd dX11_drift_27 ?_
      obtain ⟨q5, q6, h⟩ := h
      refine m_iald dX11_drift_28 kv_235 q5 q6 ?_
      refine z_iconst dX11_drift_29 ?_
      refine z_icmp_eq (tgt := 37) dX11_drift_30 (by decide) (fun c7 => ?_) (fun c7 => ?_)
      · replace h := h.1 c7
        refine z_iconst dX11_drift_37 ?_
        exact z_weak (by simp [lle]) h
      · replace h := h.2 c7
        exact z_weak (by simp [lle]) h
set_option maxRecDepth 4000 in
theorem s_X11_drift_33 {w : GX} {d : Nat} {P : PN} {g : GI} (x1 : Int) (x2 : Int)
    (h : Zm w (d + 1) mX11_drift 38 [some (aR (some (228))), some (aI (x1)), some (aI (x2)), none, none, none, none] [aI (1)] g P) :
    Zm w (d + 1) mX11_drift 33 [some (aR (some (228))), some (aI (x1)), some (aI (x2)), none, none, none, none] [] g P := by
  refine z_iconst dX11_drift_33 ?_
  refine z_goto (tgt := 38) dX11_drift_34 (by decide) ?_
  exact z_weak (by simp [lle]) h
set_option maxRecDepth 4000 in
theorem s_X11_drift_38 {w : GX} {d : Nat} {P : PN} {g : GI} (x1 : Int) (x2 : Int) (y0 : Int)
    (h : ((nm y0 = 0 → Zm w (d + 1) mX11_drift 63 [some (aR (some (228))), some (aI (x1)), some (aI (x2)), none, none, none, none] [] g P) ∧ (¬ nm y0 = 0 → (0 ≤ nm x2 ∧ nm x2 < 20 ∧ ((¬ nm (g 235 (nm x2).toNat) = nm 1 → Zm w (d + 1) mX11_drift 59 [some (aR (some (228))), some (aI (x1)), some (aI (x2)), none, none, none, none] [] g P) ∧ (nm (g 235 (nm x2).toNat) = nm 1 → ((¬ nm (iRem x1 2) = 0 → Zm w (d + 1) mX11_drift 63 [some (aR (some (228))), some (aI (x1)), some (aI (x2)), none, none, none, none] [] g P) ∧ (nm (iRem x1 2) = 0 → Zm w (d + 1) mX11_drift 59 [some (aR (some (228))), some (aI (x1)), some (aI (x2)), none, none, none, none] [] g P)))))))) :
    Zm w (d + 1) mX11_drift 38 [some (aR (some (228))), some (aI (x1)), some (aI (x2)), none, none, none, none] [aI (y0)] g P := by
  refine z_istore_n dX11_drift_38 rfl (by decide) rfl ?_
  show Zm w (d + 1) mX11_drift 39 [some (aR (some (228))), some (aI (x1)), some (aI (x2)), some (aI (y0)), none, none, none] [] g P
  refine z_iload_n dX11_drift_39 rfl rfl ?_
  refine z_if_eq (tgt := 63) dX11_drift_40 (by decide) (fun c1 => ?_) (fun c1 => ?_)
  · replace h := h.1 c1
    exact z_weak (by simp [lle]) h
  · replace h := h.2 c1
    refine z_aload_n dX11_drift_43 rfl rfl ?_
    refine m_getR dX11_drift_44 fl_X11_28 (by decide) kt_228 rv_228_8 ?_
    refine z_iload_n dX11_drift_47 rfl rfl ?_
    obtain ⟨q4, q5, h⟩ := h
    refine m_iald dX11_drift_48 kv_235 q4 q5 ?_
    refine z_iconst dX11_drift_49 ?_
    refine z_icmp_ne (tgt := 59) dX11_drift_50 (by decide) (fun c6 => ?_) (fun c6 => ?_)
    · replace h := h.1 c6
      exact z_weak (by simp [lle]) h
    · replace h := h.2 (Decidable.not_not.mp c6)
      refine z_iload_n dX11_drift_53 rfl rfl ?_
      refine z_iconst dX11_drift_54 ?_
      refine z_irem dX11_drift_55 (by decide) ?_
      refine z_if_ne (tgt := 63) dX11_drift_56 (by decide) (fun c7 => ?_) (fun c7 => ?_)
      · replace h := h.1 c7
        exact z_weak (by simp [lle]) h
      · replace h := h.2 (Decidable.not_not.mp c7)
        exact z_weak (by simp [lle]) h
set_option maxRecDepth 4000 in
theorem s_X11_drift_59 {w : GX} {d : Nat} {P : PN} {g : GI} (x1 : Int) (x2 : Int)
    (h : Zm w (d + 1) mX11_drift 64 [some (aR (some (228))), some (aI (x1)), some (aI (x2)), none, none, none, none] [aI (1)] g P) :
    Zm w (d + 1) mX11_drift 59 [some (aR (some (228))), some (aI (x1)), some (aI (x2)), none, none, none, none] [] g P := by
  refine z_iconst dX11_drift_59 ?_
  refine z_goto (tgt := 64) dX11_drift_60 (by decide) ?_
  exact z_weak (by simp [lle]) h
set_option maxRecDepth 4000 in
theorem s_X11_drift_63 {w : GX} {d : Nat} {P : PN} {g : GI} (x1 : Int) (x2 : Int)
    (h : Zm w (d + 1) mX11_drift 64 [some (aR (some (228))), some (aI (x1)), some (aI (x2)), none, none, none, none] [aI (0)] g P) :
    Zm w (d + 1) mX11_drift 63 [some (aR (some (228))), some (aI (x1)), some (aI (x2)), none, none, none, none] [] g P := by
  refine z_iconst dX11_drift_63 ?_
  exact z_weak (by simp [lle]) h
set_option maxRecDepth 4000 in
theorem s_X11_drift_64 {w : GX} {d : Nat} {P : PN} {g : GI} (x1 : Int) (x2 : Int) (y0 : Int)
    (h : Zm w (d + 1) mX11_drift 69 [some (aR (some (228))), some (aI (x1)), some (aI (x2)), none, some (aI (y0)), some (aI (0)), none] [] g P) :
    Zm w (d + 1) mX11_drift 64 [some (aR (some (228))), some (aI (x1)), some (aI (x2)), none, none, none, none] [aI (y0)] g P := by
  refine z_istore dX11_drift_64 (by decide) rfl ?_
  show Zm w (d + 1) mX11_drift 66 [some (aR (some (228))), some (aI (x1)), some (aI (x2)), none, some (aI (y0)), none, none] [] g P
  refine z_iconst dX11_drift_66 ?_
  refine z_istore dX11_drift_67 (by decide) rfl ?_
  show Zm w (d + 1) mX11_drift 69 [some (aR (some (228))), some (aI (x1)), some (aI (x2)), none, some (aI (y0)), some (aI (0)), none] [] g P
  exact z_weak (by simp [lle]) h
set_option maxRecDepth 4000 in
theorem s_X11_drift_69 {w : GX} {d : Nat} {P : PN} {g : GI} (x1 : Int) (x2 : Int) (x4 : Int) (x5 : Int)
    (h : (0 ≤ nm x2 ∧ nm x2 < 20 ∧ ((¬ nm x5 < nm (g 242 (nm x2).toNat) → Zm w (d + 1) mX11_drift 188 [some (aR (some (228))), some (aI (x1)), some (aI (x2)), none, some (aI (x4)), none, none] [] g P) ∧ (nm x5 < nm (g 242 (nm x2).toNat) → ((nm x4 = 0 → Zm w (d + 1) mX11_drift 188 [some (aR (some (228))), some (aI (x1)), some (aI (x2)), none, some (aI (x4)), none, none] [] g P) ∧ (¬ nm x4 = 0 → (0 ≤ nm ((28 * x2) + x5) ∧ nm ((28 * x2) + x5) < 560 ∧ (∀ v11 : Int, v11 = g 241 (nm ((28 * x2) + x5)).toNat → (0 ≤ nm v11 ∧ nm v11 < 28 ∧ (∀ g16 : GI, g16 = up2 g 244 (nm v11).toNat ((g 244 (nm v11).toNat) + 1) → (((¬ nm (g16 244 (nm v11).toNat) = nm (g16 228 13) → (Zm w (d + 1) mX11_drift 150 [some (aR (some (228))), some (aI (x1)), some (aI (x2)), none, some (aI (x4)), some (aI (x5)), some (aI (v11))] [aI (g16 245 (nm v11).toNat), aI (v11), aR (some (245))] g16 P)) ∧ (nm (g16 244 (nm v11).toNat) = nm (g16 228 13) → ((Zm w (d + 1) mX11_drift 150 [some (aR (some (228))), some (aI (x1)), some (aI (x2)), none, some (aI (x4)), some (aI (x5)), some (aI (v11))] [aI (vow (nm (g16 245 (nm v11).toNat))), aI (v11), aR (some (245))] g16 P))))))))))))))) :
    Zm w (d + 1) mX11_drift 69 [some (aR (some (228))), some (aI (x1)), some (aI (x2)), none, some (aI (x4)), some (aI (x5)), none] [] g P := by
  refine z_iload dX11_drift_69 rfl ?_
  refine z_aload_n dX11_drift_71 rfl rfl ?_
  refine m_getR dX11_drift_72 fl_X11_49 (by decide) kt_228 rv_228_21 ?_
  refine z_iload_n dX11_drift_75 rfl rfl ?_
  obtain ⟨q3, q4, h⟩ := h
  refine m_iald dX11_drift_76 kv_242 q3 q4 ?_
  refine z_icmp_ge (tgt := 188) dX11_drift_77 (by decide) (fun c5 => ?_) (fun c5 => ?_)
  · replace h := h.1 c5
    exact z_weak (by simp [lle]) h
  · replace h := h.2 (Decidable.not_not.mp c5)
    refine z_iload dX11_drift_80 rfl ?_
    refine z_if_eq (tgt := 188) dX11_drift_82 (by decide) (fun c6 => ?_) (fun c6 => ?_)
    · replace h := h.1 c6
      exact z_weak (by simp [lle]) h
    · replace h := h.2 c6
      refine z_aload_n dX11_drift_85 rfl rfl ?_
      refine m_getR dX11_drift_86 fl_X11_46 (by decide) kt_228 rv_228_20 ?_
      refine z_bipush dX11_drift_89 rfl ?_
      refine z_iload_n dX11_drift_91 rfl rfl ?_
      refine z_imul dX11_drift_92 ?_
      refine z_iload dX11_drift_93 rfl ?_
      refine z_iadd dX11_drift_95 ?_
      obtain ⟨q9, q10, h⟩ := h
      refine m_iald dX11_drift_96 kv_241 q9 q10 ?_
      replace h := h _ rfl
      refine z_istore dX11_drift_97 (by decide) rfl ?_
      show Zm w (d + 1) mX11_drift 99 [some (aR (some (228))), some (aI (x1)), some (aI (x2)), none, some (aI (x4)), some (aI (x5)), some (aI (g 241 (nm ((28 * x2) + x5)).toNat))] [] g P
      refine z_aload_n dX11_drift_99 rfl rfl ?_
      refine m_getR dX11_drift_100 fl_X11_55 (by decide) kt_228 rv_228_23 ?_
      refine z_iload dX11_drift_103 rfl ?_
      refine z_dup2 dX11_drift_105 rfl rfl ?_
      obtain ⟨q14, q15, h⟩ := h
      refine m_iald dX11_drift_106 kv_244 q14 q15 ?_
      refine z_iconst dX11_drift_107 ?_
      refine z_iadd dX11_drift_108 ?_
      replace h := h _ rfl
      refine m_iast dX11_drift_109 kv_244 q14 q15 ?_
      refine z_aload_n dX11_drift_110 rfl rfl ?_
      refine m_getR dX11_drift_111 fl_X11_58 (by decide) kt_228 rv_228_24 ?_
      refine z_iload dX11_drift_114 rfl ?_
      refine z_aload_n dX11_drift_116 rfl rfl ?_
      refine m_getR dX11_drift_117 fl_X11_55 (by decide) kt_228 rv_228_23 ?_
      refine z_iload dX11_drift_120 rfl ?_
      refine m_iald dX11_drift_122 kv_244 q14 q15 ?_
      refine z_aload_n dX11_drift_123 rfl rfl ?_
      refine z_getI dX11_drift_124 fl_X11_73 (by decide) kt_228 ?_
      refine z_icmp_ne (tgt := 143) dX11_drift_127 (by decide) (fun c19 => ?_) (fun c19 => ?_)
      · replace h := h.1 c19
        refine z_aload_n dX11_drift_143 rfl rfl ?_
        refine m_getR dX11_drift_144 fl_X11_58 (by decide) kt_228 rv_228_24 ?_
        refine z_iload dX11_drift_147 rfl ?_
        refine m_iald dX11_drift_149 kv_245 q14 q15 ?_
        exact z_weak (by simp [lle]) h
      · replace h := h.2 (Decidable.not_not.mp c19)
        refine z_aload_n dX11_drift_130 rfl rfl ?_
        refine m_getR dX11_drift_131 fl_X11_58 (by decide) kt_228 rv_228_24 ?_
        refine z_iload dX11_drift_134 rfl ?_
        refine m_iald dX11_drift_136 kv_245 q14 q15 ?_
        refine m_callS (as := [aI ((up2 g 244 (nm (g 241 (nm ((28 * x2) + x5)).toNat)).toNat ((g 244 (nm (g 241 (nm ((28 * x2) + x5)).toNat)).toNat) + 1)) 245 (nm (g 241 (nm ((28 * x2) + x5)).toNat)).toNat)]) dX11_drift_137 lk_X11_203 mok_X11_vowelOf st_X11_vowelOf rfl (Nat.le_of_ble_eq_true rfl) rfl (Nat.le_of_ble_eq_true rfl) rfl (c_X11_vowelOf  ?_)
        show Zm w (d + 1) mX11_drift 140 [some (aR (some (228))), some (aI (x1)), some (aI (x2)), none, some (aI (x4)), some (aI (x5)), some (aI ((g 241 (nm ((28 * x2) + x5)).toNat)))] [aI (vow (nm ((up2 g 244 (nm (g 241 (nm ((28 * x2) + x5)).toNat)).toNat ((g 244 (nm (g 241 (nm ((28 * x2) + x5)).toNat)).toNat) + 1)) 245 (nm (g 241 (nm ((28 * x2) + x5)).toNat)).toNat))), aI ((g 241 (nm ((28 * x2) + x5)).toNat)), aR (some (245))] (up2 g 244 (nm (g 241 (nm ((28 * x2) + x5)).toNat)).toNat ((g 244 (nm (g 241 (nm ((28 * x2) + x5)).toNat)).toNat) + 1)) P
        refine z_goto (tgt := 150) dX11_drift_140 (by decide) ?_
        exact z_weak (by simp [lle]) h
set_option maxRecDepth 4000 in
theorem s_X11_drift_150 {w : GX} {d : Nat} {P : PN} {g : GI} (x1 : Int) (x2 : Int) (x4 : Int) (x5 : Int) (x6 : Int) (y1 : Int) (y2 : Int)
    (h : (0 ≤ nm y1 ∧ nm y1 < 28 ∧ ∀ g1 : GI, g1 = up2 g 245 (nm y1).toNat y2 → ((¬ nm (x2 + 1) = nm (g1 228 7) → Zm w d mX11_comesInto 0 [some (aR (some (228))), some (aI (x6)), some (aI (x2 + 1))] [] g1 (fun r g5 => r = none ∧ Zm w (d + 1) mX11_drift 69 [some (aR (some (228))), some (aI (x1)), some (aI (x2)), none, some (aI (x4)), some (aI (x5 + 1)), none] [] g5 P)) ∧ (nm (x2 + 1) = nm (g1 228 7) → (0 ≤ nm x6 ∧ nm x6 < 28 ∧ ∀ g7 : GI, g7 = up2 g1 243 (nm x6).toNat 20 → Zm w (d + 1) mX11_drift 69 [some (aR (some (228))), some (aI (x1)), some (aI (x2)), none, some (aI (x4)), some (aI (x5 + 1)), none] [] g7 P))))) :
    Zm w (d + 1) mX11_drift 150 [some (aR (some (228))), some (aI (x1)), some (aI (x2)), none, some (aI (x4)), some (aI (x5)), some (aI (x6))] [aI (y2), aI (y1), aR (some (245))] g P := by
  obtain ⟨q2, q3, h⟩ := h
  replace h := h _ rfl
  refine m_iast dX11_drift_150 kv_245 q2 q3 ?_
  refine z_iload_n dX11_drift_151 rfl rfl ?_
  refine z_iconst dX11_drift_152 ?_
  refine z_iadd dX11_drift_153 ?_
  refine z_aload_n dX11_drift_154 rfl rfl ?_
  refine z_getI dX11_drift_155 fl_X11_125 (by decide) kt_228 ?_
  refine z_icmp_ne (tgt := 173) dX11_drift_158 (by decide) (fun c4 => ?_) (fun c4 => ?_)
  · replace h := h.1 c4
    refine z_aload_n dX11_drift_173 rfl rfl ?_
    refine z_iload dX11_drift_174 rfl ?_
    refine z_iload_n dX11_drift_176 rfl rfl ?_
    refine z_iconst dX11_drift_177 ?_
    refine z_iadd dX11_drift_178 ?_
    refine m_callV (as := [aI (x6), aI (x2 + 1)]) dX11_drift_179 lk_X11_194 mok_X11_comesInto in_X11_comesInto sl_X11_comesInto kt_228 rfl rfl rfl (Nat.le_of_ble_eq_true rfl) rfl (Nat.le_of_ble_eq_true rfl) rfl (m_mono (fun r g5 hr => ?_) h)
    obtain ⟨rfl, h⟩ := hr
    show Zm w (d + 1) mX11_drift 182 [some (aR (some (228))), some (aI (x1)), some (aI (x2)), none, some (aI (x4)), some (aI (x5)), some (aI (x6))] [] g5 P
    refine z_iinc dX11_drift_182 rfl (by decide) rfl ?_
    show Zm w (d + 1) mX11_drift 185 [some (aR (some (228))), some (aI (x1)), some (aI (x2)), none, some (aI (x4)), some (aI (x5 + 1)), some (aI (x6))] [] g5 P
    refine z_goto (tgt := 69) dX11_drift_185 (by decide) ?_
    exact z_weak (by simp [lle]) h
  · replace h := h.2 (Decidable.not_not.mp c4)
    refine z_aload_n dX11_drift_161 rfl rfl ?_
    refine m_getR dX11_drift_162 fl_X11_52 (by decide) kt_228 rv_228_22 ?_
    refine z_iload dX11_drift_165 rfl ?_
    refine z_bipush dX11_drift_167 rfl ?_
    obtain ⟨q8, q9, h⟩ := h
    replace h := h _ rfl
    refine m_iast dX11_drift_169 kv_243 q8 q9 ?_
    refine z_goto (tgt := 182) dX11_drift_170 (by decide) ?_
    refine z_iinc dX11_drift_182 rfl (by decide) rfl ?_
    show Zm w (d + 1) mX11_drift 185 [some (aR (some (228))), some (aI (x1)), some (aI (x2)), none, some (aI (x4)), some (aI (x5 + 1)), some (aI (x6))] [] (up2 (up2 g 245 (nm y1).toNat y2) 243 (nm x6).toNat 20) P
    refine z_goto (tgt := 69) dX11_drift_185 (by decide) ?_
    exact z_weak (by simp [lle]) h
set_option maxRecDepth 4000 in
theorem s_X11_drift_188 {w : GX} {d : Nat} {P : PN} {g : GI} (x1 : Int) (x2 : Int) (x4 : Int)
    (h : ((nm x4 = 0 → (0 ≤ nm x2 ∧ nm x2 < 20 ∧ (∀ g6 : GI, g6 = up2 g 242 (nm x2).toNat (g 242 (nm x2).toNat) → Zm w (d + 1) mX11_drift 7 [some (aR (some (228))), some (aI (x1)), some (aI (x2 + (-1))), none, none, none, none] [] g6 P))) ∧ (¬ nm x4 = 0 → (0 ≤ nm x2 ∧ nm x2 < 20 ∧ ∀ g7 : GI, g7 = up2 g 242 (nm x2).toNat 0 → Zm w (d + 1) mX11_drift 7 [some (aR (some (228))), some (aI (x1)), some (aI (x2 + (-1))), none, none, none, none] [] g7 P)))) :
    Zm w (d + 1) mX11_drift 188 [some (aR (some (228))), some (aI (x1)), some (aI (x2)), none, some (aI (x4)), none, none] [] g P := by
  refine z_aload_n dX11_drift_188 rfl rfl ?_
  refine m_getR dX11_drift_189 fl_X11_49 (by decide) kt_228 rv_228_21 ?_
  refine z_iload_n dX11_drift_192 rfl rfl ?_
  refine z_iload dX11_drift_193 rfl ?_
  refine z_if_eq (tgt := 202) dX11_drift_195 (by decide) (fun c1 => ?_) (fun c1 => ?_)
  · replace h := h.1 c1
    refine z_aload_n dX11_drift_202 rfl rfl ?_
    refine m_getR dX11_drift_203 fl_X11_49 (by decide) kt_228 rv_228_21 ?_
    refine z_iload_n dX11_drift_206 rfl rfl ?_
    obtain ⟨q4, q5, h⟩ := h
    refine m_iald dX11_drift_207 kv_242 q4 q5 ?_
    replace h := h _ rfl
    refine m_iast dX11_drift_208 kv_242 q4 q5 ?_
    refine z_iinc dX11_drift_209 rfl (by decide) rfl ?_
    show Zm w (d + 1) mX11_drift 212 [some (aR (some (228))), some (aI (x1)), some (aI (x2 + (-1))), none, some (aI (x4)), none, none] [] (up2 g 242 (nm x2).toNat (g 242 (nm x2).toNat)) P
    refine z_goto (tgt := 7) dX11_drift_212 (by decide) ?_
    exact z_weak (by simp [lle]) h
  · replace h := h.2 c1
    refine z_iconst dX11_drift_198 ?_
    refine z_goto (tgt := 208) dX11_drift_199 (by decide) ?_
    obtain ⟨q8, q9, h⟩ := h
    replace h := h _ rfl
    refine m_iast dX11_drift_208 kv_242 q8 q9 ?_
    refine z_iinc dX11_drift_209 rfl (by decide) rfl ?_
    show Zm w (d + 1) mX11_drift 212 [some (aR (some (228))), some (aI (x1)), some (aI (x2 + (-1))), none, some (aI (x4)), none, none] [] (up2 g 242 (nm x2).toNat 0) P
    refine z_goto (tgt := 7) dX11_drift_212 (by decide) ?_
    exact z_weak (by simp [lle]) h
theorem dX11_isFlood_0 : decode cX11_isFlood 0 = .ok (.iconst 0, 1) := by decide +kernel
theorem dX11_isFlood_1 : decode cX11_isFlood 1 = .ok (.istore_n 2, 1) := by decide +kernel
theorem dX11_isFlood_2 : decode cX11_isFlood 2 = .ok (.iconst 0, 1) := by decide +kernel
theorem dX11_isFlood_3 : decode cX11_isFlood 3 = .ok (.istore_n 3, 1) := by decide +kernel
theorem dX11_isFlood_4 : decode cX11_isFlood 4 = .ok (.iload_n 3, 1) := by decide +kernel
theorem dX11_isFlood_5 : decode cX11_isFlood 5 = .ok (.aload_n 0, 1) := by decide +kernel
theorem dX11_isFlood_6 : decode cX11_isFlood 6 = .ok (.getfield 188, 3) := by decide +kernel
theorem dX11_isFlood_9 : decode cX11_isFlood 9 = .ok (.if_icmp .ge 29, 3) := by decide +kernel
theorem dX11_isFlood_12 : decode cX11_isFlood 12 = .ok (.iload_n 2, 1) := by decide +kernel
theorem dX11_isFlood_13 : decode cX11_isFlood 13 = .ok (.ifCond .ne 13, 3) := by decide +kernel
theorem dX11_isFlood_16 : decode cX11_isFlood 16 = .ok (.aload_n 0, 1) := by decide +kernel
theorem dX11_isFlood_17 : decode cX11_isFlood 17 = .ok (.getfield 43, 3) := by decide +kernel
theorem dX11_isFlood_20 : decode cX11_isFlood 20 = .ok (.iload_n 3, 1) := by decide +kernel
theorem dX11_isFlood_21 : decode cX11_isFlood 21 = .ok (.iaload, 1) := by decide +kernel
theorem dX11_isFlood_22 : decode cX11_isFlood 22 = .ok (.iload_n 1, 1) := by decide +kernel
theorem dX11_isFlood_23 : decode cX11_isFlood 23 = .ok (.if_icmp .ne 7, 3) := by decide +kernel
theorem dX11_isFlood_26 : decode cX11_isFlood 26 = .ok (.iconst 1, 1) := by decide +kernel
theorem dX11_isFlood_27 : decode cX11_isFlood 27 = .ok (.goto 4, 3) := by decide +kernel
theorem dX11_isFlood_30 : decode cX11_isFlood 30 = .ok (.iconst 0, 1) := by decide +kernel
theorem dX11_isFlood_31 : decode cX11_isFlood 31 = .ok (.istore_n 2, 1) := by decide +kernel
theorem dX11_isFlood_32 : decode cX11_isFlood 32 = .ok (.iinc 3 1, 3) := by decide +kernel
theorem dX11_isFlood_35 : decode cX11_isFlood 35 = .ok (.goto (-31), 3) := by decide +kernel
theorem dX11_isFlood_38 : decode cX11_isFlood 38 = .ok (.aload_n 0, 1) := by decide +kernel
theorem dX11_isFlood_39 : decode cX11_isFlood 39 = .ok (.getfield 83, 3) := by decide +kernel
theorem dX11_isFlood_42 : decode cX11_isFlood 42 = .ok (.iconst (-1), 1) := by decide +kernel
theorem dX11_isFlood_43 : decode cX11_isFlood 43 = .ok (.if_icmp .ne 7, 3) := by decide +kernel
theorem dX11_isFlood_46 : decode cX11_isFlood 46 = .ok (.iload_n 2, 1) := by decide +kernel
theorem dX11_isFlood_47 : decode cX11_isFlood 47 = .ok (.goto 11, 3) := by decide +kernel
theorem dX11_isFlood_50 : decode cX11_isFlood 50 = .ok (.aload_n 0, 1) := by decide +kernel
theorem dX11_isFlood_51 : decode cX11_isFlood 51 = .ok (.getfield 83, 3) := by decide +kernel
theorem dX11_isFlood_54 : decode cX11_isFlood 54 = .ok (.iload_n 1, 1) := by decide +kernel
theorem dX11_isFlood_55 : decode cX11_isFlood 55 = .ok (.invokestatic 206, 3) := by decide +kernel
theorem dX11_isFlood_58 : decode cX11_isFlood 58 = .ok (.ireturn, 1) := by decide +kernel
set_option maxRecDepth 4000 in
theorem s_X11_isFlood_0 {w : GX} {d : Nat} {P : PN} {g : GI} (x1 : Int)
    (h : Zm w (d + 1) mX11_isFlood 4 [some (aR (some (228))), some (aI (x1)), some (aI (0)), some (aI (0))] [] g P) :
    Zm w (d + 1) mX11_isFlood 0 [some (aR (some (228))), some (aI (x1)), none, none] [] g P := by
  refine z_iconst dX11_isFlood_0 ?_
  refine z_istore_n dX11_isFlood_1 rfl (by decide) rfl ?_
  show Zm w (d + 1) mX11_isFlood 2 [some (aR (some (228))), some (aI (x1)), some (aI (0)), none] [] g P
  refine z_iconst dX11_isFlood_2 ?_
  refine z_istore_n dX11_isFlood_3 rfl (by decide) rfl ?_
  show Zm w (d + 1) mX11_isFlood 4 [some (aR (some (228))), some (aI (x1)), some (aI (0)), some (aI (0))] [] g P
  exact z_weak (by simp [lle]) h
set_option maxRecDepth 4000 in
theorem s_X11_isFlood_4 {w : GX} {d : Nat} {P : PN} {g : GI} (x1 : Int) (x2 : Int) (x3 : Int)
    (h : ((¬ nm x3 < nm (g 228 18) → ((¬ nm (g 228 30) = nm ((-1)) → (((isB (g 228 30) (x1) = 0 ∨ isB (g 228 30) (x1) = 1) ∧ P (some (aI (isB (g 228 30) (x1)))) g))) ∧ (nm (g 228 30) = nm ((-1)) → ((x2 = 0 ∨ x2 = 1) ∧ P (some (aI (x2))) g)))) ∧ (nm x3 < nm (g 228 18) → ((¬ nm x2 = 0 → Zm w (d + 1) mX11_isFlood 4 [some (aR (some (228))), some (aI (x1)), some (aI (1)), some (aI (x3 + 1))] [] g P) ∧ (nm x2 = 0 → (0 ≤ nm x3 ∧ nm x3 < 6 ∧ ((¬ nm (g 240 (nm x3).toNat) = nm x1 → Zm w (d + 1) mX11_isFlood 4 [some (aR (some (228))), some (aI (x1)), some (aI (0)), some (aI (x3 + 1))] [] g P) ∧ (nm (g 240 (nm x3).toNat) = nm x1 → Zm w (d + 1) mX11_isFlood 4 [some (aR (some (228))), some (aI (x1)), some (aI (1)), some (aI (x3 + 1))] [] g P)))))))) :
    Zm w (d + 1) mX11_isFlood 4 [some (aR (some (228))), some (aI (x1)), some (aI (x2)), some (aI (x3))] [] g P := by
  refine z_iload_n dX11_isFlood_4 rfl rfl ?_
  refine z_aload_n dX11_isFlood_5 rfl rfl ?_
  refine z_getI dX11_isFlood_6 fl_X11_188 (by decide) kt_228 ?_
  refine z_icmp_ge (tgt := 38) dX11_isFlood_9 (by decide) (fun c1 => ?_) (fun c1 => ?_)
  · replace h := h.1 c1
    refine z_aload_n dX11_isFlood_38 rfl rfl ?_
    refine z_getI dX11_isFlood_39 fl_X11_83 (by decide) kt_228 ?_
    refine z_iconst dX11_isFlood_42 ?_
    refine z_icmp_ne (tgt := 50) dX11_isFlood_43 (by decide) (fun c2 => ?_) (fun c2 => ?_)
    · replace h := h.1 c2
      refine z_aload_n dX11_isFlood_50 rfl rfl ?_
      refine z_getI dX11_isFlood_51 fl_X11_83 (by decide) kt_228 ?_
      refine z_iload_n dX11_isFlood_54 rfl rfl ?_
      refine m_callS (as := [aI (g 228 30), aI (x1)]) dX11_isFlood_55 lk_X11_206 mok_X11_isIn st_X11_isIn rfl (Nat.le_of_ble_eq_true rfl) rfl (Nat.le_of_ble_eq_true rfl) rfl (c_X11_isIn  ?_)
      show Zm w (d + 1) mX11_isFlood 58 [some (aR (some (228))), some (aI (x1)), some (aI (x2)), some (aI (x3))] [aI (isB (g 228 30) (x1))] g P
      obtain ⟨q3, h⟩ := h
      exact m_zret dX11_isFlood_58 rfl q3 h
    · replace h := h.2 (Decidable.not_not.mp c2)
      refine z_iload_n dX11_isFlood_46 rfl rfl ?_
      refine z_goto (tgt := 58) dX11_isFlood_47 (by decide) ?_
      obtain ⟨q4, h⟩ := h
      exact m_zret dX11_isFlood_58 rfl q4 h
  · replace h := h.2 (Decidable.not_not.mp c1)
    refine z_iload_n dX11_isFlood_12 rfl rfl ?_
    refine z_if_ne (tgt := 26) dX11_isFlood_13 (by decide) (fun c5 => ?_) (fun c5 => ?_)
    · replace h := h.1 c5
      refine z_iconst dX11_isFlood_26 ?_
      refine z_goto (tgt := 31) dX11_isFlood_27 (by decide) ?_
      refine z_istore_n dX11_isFlood_31 rfl (by decide) rfl ?_
      show Zm w (d + 1) mX11_isFlood 32 [some (aR (some (228))), some (aI (x1)), some (aI (1)), some (aI (x3))] [] g P
      refine z_iinc dX11_isFlood_32 rfl (by decide) rfl ?_
      show Zm w (d + 1) mX11_isFlood 35 [some (aR (some (228))), some (aI (x1)), some (aI (1)), some (aI (x3 + 1))] [] g P
      refine z_goto (tgt := 4) dX11_isFlood_35 (by decide) ?_
      exact z_weak (by simp [lle]) h
    · replace h := h.2 (Decidable.not_not.mp c5)
      refine z_aload_n dX11_isFlood_16 rfl rfl ?_
      refine m_getR dX11_isFlood_17 fl_X11_43 (by decide) kt_228 rv_228_19 ?_
      refine z_iload_n dX11_isFlood_20 rfl rfl ?_
      obtain ⟨q8, q9, h⟩ := h
      refine m_iald dX11_isFlood_21 kv_240 q8 q9 ?_
      refine z_iload_n dX11_isFlood_22 rfl rfl ?_
      refine z_icmp_ne (tgt := 30) dX11_isFlood_23 (by decide) (fun c10 => ?_) (fun c10 => ?_)
      · replace h := h.1 c10
        refine z_iconst dX11_isFlood_30 ?_
        refine z_istore_n dX11_isFlood_31 rfl (by decide) rfl ?_
        show Zm w (d + 1) mX11_isFlood 32 [some (aR (some (228))), some (aI (x1)), some (aI (0)), some (aI (x3))] [] g P
        refine z_iinc dX11_isFlood_32 rfl (by decide) rfl ?_
        show Zm w (d + 1) mX11_isFlood 35 [some (aR (some (228))), some (aI (x1)), some (aI (0)), some (aI (x3 + 1))] [] g P
        refine z_goto (tgt := 4) dX11_isFlood_35 (by decide) ?_
        exact z_weak (by simp [lle]) h
      · replace h := h.2 (Decidable.not_not.mp c10)
        refine z_iconst dX11_isFlood_26 ?_
        refine z_goto (tgt := 31) dX11_isFlood_27 (by decide) ?_
        refine z_istore_n dX11_isFlood_31 rfl (by decide) rfl ?_
        show Zm w (d + 1) mX11_isFlood 32 [some (aR (some (228))), some (aI (x1)), some (aI (1)), some (aI (x3))] [] g P
        refine z_iinc dX11_isFlood_32 rfl (by decide) rfl ?_
        show Zm w (d + 1) mX11_isFlood 35 [some (aR (some (228))), some (aI (x1)), some (aI (1)), some (aI (x3 + 1))] [] g P
        refine z_goto (tgt := 4) dX11_isFlood_35 (by decide) ?_
        exact z_weak (by simp [lle]) h
theorem dX11_day_0 : decode cX11_day 0 = .ok (.iconst 0, 1) := by decide +kernel
theorem dX11_day_1 : decode cX11_day 1 = .ok (.istore_n 2, 1) := by decide +kernel
theorem dX11_day_2 : decode cX11_day 2 = .ok (.iload_n 2, 1) := by decide +kernel
theorem dX11_day_3 : decode cX11_day 3 = .ok (.aload_n 0, 1) := by decide +kernel
theorem dX11_day_4 : decode cX11_day 4 = .ok (.getfield 169, 3) := by decide +kernel
theorem dX11_day_7 : decode cX11_day 7 = .ok (.if_icmp .ge 61, 3) := by decide +kernel
theorem dX11_day_10 : decode cX11_day 10 = .ok (.iload_n 2, 1) := by decide +kernel
theorem dX11_day_11 : decode cX11_day 11 = .ok (.aload_n 0, 1) := by decide +kernel
theorem dX11_day_12 : decode cX11_day 12 = .ok (.getfield 77, 3) := by decide +kernel
theorem dX11_day_15 : decode cX11_day 15 = .ok (.if_icmp .eq 47, 3) := by decide +kernel
theorem dX11_day_18 : decode cX11_day 18 = .ok (.aload_n 0, 1) := by decide +kernel
theorem dX11_day_19 : decode cX11_day 19 = .ok (.getfield 37, 3) := by decide +kernel
theorem dX11_day_22 : decode cX11_day 22 = .ok (.iconst 2, 1) := by decide +kernel
theorem dX11_day_23 : decode cX11_day 23 = .ok (.iload_n 2, 1) := by decide +kernel
theorem dX11_day_24 : decode cX11_day 24 = .ok (.imul, 1) := by decide +kernel
theorem dX11_day_25 : decode cX11_day 25 = .ok (.iaload, 1) := by decide +kernel
theorem dX11_day_26 : decode cX11_day 26 = .ok (.iload_n 1, 1) := by decide +kernel
theorem dX11_day_27 : decode cX11_day 27 = .ok (.if_icmp .ne 35, 3) := by decide +kernel
theorem dX11_day_30 : decode cX11_day 30 = .ok (.aload_n 0, 1) := by decide +kernel
theorem dX11_day_31 : decode cX11_day 31 = .ok (.aload_n 0, 1) := by decide +kernel
theorem dX11_day_32 : decode cX11_day 32 = .ok (.getfield 37, 3) := by decide +kernel
theorem dX11_day_35 : decode cX11_day 35 = .ok (.iconst 2, 1) := by decide +kernel
theorem dX11_day_36 : decode cX11_day 36 = .ok (.iload_n 2, 1) := by decide +kernel
theorem dX11_day_37 : decode cX11_day 37 = .ok (.imul, 1) := by decide +kernel
theorem dX11_day_38 : decode cX11_day 38 = .ok (.iconst 1, 1) := by decide +kernel
theorem dX11_day_39 : decode cX11_day 39 = .ok (.iadd, 1) := by decide +kernel
theorem dX11_day_40 : decode cX11_day 40 = .ok (.iaload, 1) := by decide +kernel
theorem dX11_day_41 : decode cX11_day 41 = .ok (.invokevirtual 164, 3) := by decide +kernel
theorem dX11_day_44 : decode cX11_day 44 = .ok (.ifCond .eq 18, 3) := by decide +kernel
theorem dX11_day_47 : decode cX11_day 47 = .ok (.aload_n 0, 1) := by decide +kernel
theorem dX11_day_48 : decode cX11_day 48 = .ok (.iload_n 2, 1) := by decide +kernel
theorem dX11_day_49 : decode cX11_day 49 = .ok (.aload_n 0, 1) := by decide +kernel
theorem dX11_day_50 : decode cX11_day 50 = .ok (.getfield 37, 3) := by decide +kernel
theorem dX11_day_53 : decode cX11_day 53 = .ok (.iconst 2, 1) := by decide +kernel
theorem dX11_day_54 : decode cX11_day 54 = .ok (.iload_n 2, 1) := by decide +kernel
theorem dX11_day_55 : decode cX11_day 55 = .ok (.imul, 1) := by decide +kernel
theorem dX11_day_56 : decode cX11_day 56 = .ok (.iconst 1, 1) := by decide +kernel
theorem dX11_day_57 : decode cX11_day 57 = .ok (.iadd, 1) := by decide +kernel
theorem dX11_day_58 : decode cX11_day 58 = .ok (.iaload, 1) := by decide +kernel
theorem dX11_day_59 : decode cX11_day 59 = .ok (.invokevirtual 210, 3) := by decide +kernel
theorem dX11_day_62 : decode cX11_day 62 = .ok (.iinc 2 1, 3) := by decide +kernel
theorem dX11_day_65 : decode cX11_day 65 = .ok (.goto (-63), 3) := by decide +kernel
theorem dX11_day_68 : decode cX11_day 68 = .ok (.iconst 0, 1) := by decide +kernel
theorem dX11_day_69 : decode cX11_day 69 = .ok (.istore_n 2, 1) := by decide +kernel
theorem dX11_day_70 : decode cX11_day 70 = .ok (.iload_n 2, 1) := by decide +kernel
theorem dX11_day_71 : decode cX11_day 71 = .ok (.aload_n 0, 1) := by decide +kernel
theorem dX11_day_72 : decode cX11_day 72 = .ok (.getfield 182, 3) := by decide +kernel
theorem dX11_day_75 : decode cX11_day 75 = .ok (.if_icmp .ge 54, 3) := by decide +kernel
theorem dX11_day_78 : decode cX11_day 78 = .ok (.aload_n 0, 1) := by decide +kernel
theorem dX11_day_79 : decode cX11_day 79 = .ok (.getfield 40, 3) := by decide +kernel
theorem dX11_day_82 : decode cX11_day 82 = .ok (.iconst 2, 1) := by decide +kernel
theorem dX11_day_83 : decode cX11_day 83 = .ok (.iload_n 2, 1) := by decide +kernel
theorem dX11_day_84 : decode cX11_day 84 = .ok (.imul, 1) := by decide +kernel
theorem dX11_day_85 : decode cX11_day 85 = .ok (.iconst 1, 1) := by decide +kernel
theorem dX11_day_86 : decode cX11_day 86 = .ok (.iadd, 1) := by decide +kernel
theorem dX11_day_87 : decode cX11_day 87 = .ok (.iaload, 1) := by decide +kernel
theorem dX11_day_88 : decode cX11_day 88 = .ok (.istore_n 3, 1) := by decide +kernel
theorem dX11_day_89 : decode cX11_day 89 = .ok (.aload_n 0, 1) := by decide +kernel
theorem dX11_day_90 : decode cX11_day 90 = .ok (.getfield 40, 3) := by decide +kernel
theorem dX11_day_93 : decode cX11_day 93 = .ok (.iconst 2, 1) := by decide +kernel
theorem dX11_day_94 : decode cX11_day 94 = .ok (.iload_n 2, 1) := by decide +kernel
theorem dX11_day_95 : decode cX11_day 95 = .ok (.imul, 1) := by decide +kernel
theorem dX11_day_96 : decode cX11_day 96 = .ok (.iaload, 1) := by decide +kernel
theorem dX11_day_97 : decode cX11_day 97 = .ok (.iload_n 1, 1) := by decide +kernel
theorem dX11_day_98 : decode cX11_day 98 = .ok (.if_icmp .ne 25, 3) := by decide +kernel
theorem dX11_day_101 : decode cX11_day 101 = .ok (.aload_n 0, 1) := by decide +kernel
theorem dX11_day_102 : decode cX11_day 102 = .ok (.getfield 49, 3) := by decide +kernel
theorem dX11_day_105 : decode cX11_day 105 = .ok (.iload_n 3, 1) := by decide +kernel
theorem dX11_day_106 : decode cX11_day 106 = .ok (.iaload, 1) := by decide +kernel
theorem dX11_day_107 : decode cX11_day 107 = .ok (.ifCond .le 16, 3) := by decide +kernel
theorem dX11_day_110 : decode cX11_day 110 = .ok (.aload_n 0, 1) := by decide +kernel
theorem dX11_day_111 : decode cX11_day 111 = .ok (.getfield 52, 3) := by decide +kernel
theorem dX11_day_114 : decode cX11_day 114 = .ok (.aload_n 0, 1) := by decide +kernel
theorem dX11_day_115 : decode cX11_day 115 = .ok (.iload_n 3, 1) := by decide +kernel
theorem dX11_day_116 : decode cX11_day 116 = .ok (.iconst 0, 1) := by decide +kernel
theorem dX11_day_117 : decode cX11_day 117 = .ok (.invokevirtual 200, 3) := by decide +kernel
theorem dX11_day_120 : decode cX11_day 120 = .ok (.bipush 21, 2) := by decide +kernel
theorem dX11_day_122 : decode cX11_day 122 = .ok (.iastore, 1) := by decide +kernel
theorem dX11_day_123 : decode cX11_day 123 = .ok (.iinc 2 1, 3) := by decide +kernel
theorem dX11_day_126 : decode cX11_day 126 = .ok (.goto (-56), 3) := by decide +kernel
theorem dX11_day_129 : decode cX11_day 129 = .ok (.aload_n 0, 1) := by decide +kernel
theorem dX11_day_130 : decode cX11_day 130 = .ok (.iload_n 1, 1) := by decide +kernel
theorem dX11_day_131 : decode cX11_day 131 = .ok (.invokevirtual 213, 3) := by decide +kernel
theorem dX11_day_134 : decode cX11_day 134 = .ok (.aload_n 0, 1) := by decide +kernel
theorem dX11_day_135 : decode cX11_day 135 = .ok (.iload_n 1, 1) := by decide +kernel
theorem dX11_day_136 : decode cX11_day 136 = .ok (.invokevirtual 217, 3) := by decide +kernel
theorem dX11_day_139 : decode cX11_day 139 = .ok (.ifCond .eq 8, 3) := by decide +kernel
theorem dX11_day_142 : decode cX11_day 142 = .ok (.aload_n 0, 1) := by decide +kernel
theorem dX11_day_143 : decode cX11_day 143 = .ok (.iload_n 1, 1) := by decide +kernel
theorem dX11_day_144 : decode cX11_day 144 = .ok (.invokevirtual 213, 3) := by decide +kernel
theorem dX11_day_147 : decode cX11_day 147 = .ok (.return_, 1) := by decide +kernel
set_option maxRecDepth 4000 in
theorem s_X11_day_0 {w : GX} {d : Nat} {P : PN} {g : GI} (x1 : Int)
    (h : Zm w (d + 2) mX11_day 2 [some (aR (some (228))), some (aI (x1)), some (aI (0)), none] [] g P) :
    Zm w (d + 2) mX11_day 0 [some (aR (some (228))), some (aI (x1)), none, none] [] g P := by
  refine z_iconst dX11_day_0 ?_
  refine z_istore_n dX11_day_1 rfl (by decide) rfl ?_
  show Zm w (d + 2) mX11_day 2 [some (aR (some (228))), some (aI (x1)), some (aI (0)), none] [] g P
  exact z_weak (by simp [lle]) h
set_option maxRecDepth 4000 in
theorem s_X11_day_2 {w : GX} {d : Nat} {P : PN} {g : GI} (x1 : Int) (x2 : Int)
    (h : ((¬ nm x2 < nm (g 228 14) → Zm w (d + 2) mX11_day 70 [some (aR (some (228))), some (aI (x1)), some (aI (0)), none] [] g P) ∧ (nm x2 < nm (g 228 14) → ((nm x2 = nm (g 228 27) → Zm w (d + 2) mX11_day 2 [some (aR (some (228))), some (aI (x1)), some (aI (x2 + 1)), none] [] g P) ∧ (¬ nm x2 = nm (g 228 27) → (0 ≤ nm (2 * x2) ∧ nm (2 * x2) < 72 ∧ ((¬ nm (g 238 (nm (2 * x2)).toNat) = nm x1 → Zm w (d + 2) mX11_day 2 [some (aR (some (228))), some (aI (x1)), some (aI (x2 + 1)), none] [] g P) ∧ (nm (g 238 (nm (2 * x2)).toNat) = nm x1 → (0 ≤ nm ((2 * x2) + 1) ∧ nm ((2 * x2) + 1) < 72 ∧ (((nm (inn (g 238 (nm ((2 * x2) + 1)).toNat) 0 (nm (g 228 10 - 1))) = 0 → Zm w (d + 2) mX11_day 2 [some (aR (some (228))), some (aI (x1)), some (aI (x2 + 1)), none] [] g P) ∧ (¬ nm (inn (g 238 (nm ((2 * x2) + 1)).toNat) 0 (nm (g 228 10 - 1))) = 0 → (Zm w (d + 1) mX11_trades 0 [some (aR (some (228))), some (aI (x2)), some (aI (g 238 (nm ((2 * x2) + 1)).toNat)), none, none] [] g (fun r g15 => r = none ∧ Zm w (d + 2) mX11_day 2 [some (aR (some (228))), some (aI (x1)), some (aI (x2 + 1)), none] [] g15 P)))))))))))))) :
    Zm w (d + 2) mX11_day 2 [some (aR (some (228))), some (aI (x1)), some (aI (x2)), none] [] g P := by
  refine z_iload_n dX11_day_2 rfl rfl ?_
  refine z_aload_n dX11_day_3 rfl rfl ?_
  refine z_getI dX11_day_4 fl_X11_169 (by decide) kt_228 ?_
  refine z_icmp_ge (tgt := 68) dX11_day_7 (by decide) (fun c1 => ?_) (fun c1 => ?_)
  · replace h := h.1 c1
    refine z_iconst dX11_day_68 ?_
    refine z_istore_n dX11_day_69 rfl (by decide) rfl ?_
    show Zm w (d + 2) mX11_day 70 [some (aR (some (228))), some (aI (x1)), some (aI (0)), none] [] g P
    exact z_weak (by simp [lle]) h
  · replace h := h.2 (Decidable.not_not.mp c1)
    refine z_iload_n dX11_day_10 rfl rfl ?_
    refine z_aload_n dX11_day_11 rfl rfl ?_
    refine z_getI dX11_day_12 fl_X11_77 (by decide) kt_228 ?_
    refine z_icmp_eq (tgt := 62) dX11_day_15 (by decide) (fun c2 => ?_) (fun c2 => ?_)
    · replace h := h.1 c2
      refine z_iinc dX11_day_62 rfl (by decide) rfl ?_
      show Zm w (d + 2) mX11_day 65 [some (aR (some (228))), some (aI (x1)), some (aI (x2 + 1)), none] [] g P
      refine z_goto (tgt := 2) dX11_day_65 (by decide) ?_
      exact z_weak (by simp [lle]) h
    · replace h := h.2 c2
      refine z_aload_n dX11_day_18 rfl rfl ?_
      refine m_getR dX11_day_19 fl_X11_37 (by decide) kt_228 rv_228_15 ?_
      refine z_iconst dX11_day_22 ?_
      refine z_iload_n dX11_day_23 rfl rfl ?_
      refine z_imul dX11_day_24 ?_
      obtain ⟨q5, q6, h⟩ := h
      refine m_iald dX11_day_25 kv_238 q5 q6 ?_
      refine z_iload_n dX11_day_26 rfl rfl ?_
      refine z_icmp_ne (tgt := 62) dX11_day_27 (by decide) (fun c7 => ?_) (fun c7 => ?_)
      · replace h := h.1 c7
        refine z_iinc dX11_day_62 rfl (by decide) rfl ?_
        show Zm w (d + 2) mX11_day 65 [some (aR (some (228))), some (aI (x1)), some (aI (x2 + 1)), none] [] g P
        refine z_goto (tgt := 2) dX11_day_65 (by decide) ?_
        exact z_weak (by simp [lle]) h
      · replace h := h.2 (Decidable.not_not.mp c7)
        refine z_aload_n dX11_day_30 rfl rfl ?_
        refine z_aload_n dX11_day_31 rfl rfl ?_
        refine m_getR dX11_day_32 fl_X11_37 (by decide) kt_228 rv_228_15 ?_
        refine z_iconst dX11_day_35 ?_
        refine z_iload_n dX11_day_36 rfl rfl ?_
        refine z_imul dX11_day_37 ?_
        refine z_iconst dX11_day_38 ?_
        refine z_iadd dX11_day_39 ?_
        obtain ⟨q10, q11, h⟩ := h
        refine m_iald dX11_day_40 kv_238 q10 q11 ?_
        refine m_callV (as := [aI (g 238 (nm ((2 * x2) + 1)).toNat)]) dX11_day_41 lk_X11_164 mok_X11_isPerson in_X11_isPerson sl_X11_isPerson kt_228 rfl rfl rfl (Nat.le_of_ble_eq_true rfl) rfl (Nat.le_of_ble_eq_true rfl) rfl (c_X11_isPerson  ?_)
        show Zm w (d + 2) mX11_day 44 [some (aR (some (228))), some (aI (x1)), some (aI (x2)), none] [aI (inn (g 238 (nm ((2 * x2) + 1)).toNat) 0 (nm (g 228 10 - 1)))] g P
        refine z_if_eq (tgt := 62) dX11_day_44 (by decide) (fun c12 => ?_) (fun c12 => ?_)
        · replace h := h.1 c12
          refine z_iinc dX11_day_62 rfl (by decide) rfl ?_
          show Zm w (d + 2) mX11_day 65 [some (aR (some (228))), some (aI (x1)), some (aI (x2 + 1)), none] [] g P
          refine z_goto (tgt := 2) dX11_day_65 (by decide) ?_
          exact z_weak (by simp [lle]) h
        · replace h := h.2 c12
          refine z_aload_n dX11_day_47 rfl rfl ?_
          refine z_iload_n dX11_day_48 rfl rfl ?_
          refine z_aload_n dX11_day_49 rfl rfl ?_
          refine m_getR dX11_day_50 fl_X11_37 (by decide) kt_228 rv_228_15 ?_
          refine z_iconst dX11_day_53 ?_
          refine z_iload_n dX11_day_54 rfl rfl ?_
          refine z_imul dX11_day_55 ?_
          refine z_iconst dX11_day_56 ?_
          refine z_iadd dX11_day_57 ?_
          refine m_iald dX11_day_58 kv_238 q10 q11 ?_
          refine m_callV (as := [aI (x2), aI (g 238 (nm ((2 * x2) + 1)).toNat)]) dX11_day_59 lk_X11_210 mok_X11_trades in_X11_trades sl_X11_trades kt_228 rfl rfl rfl (Nat.le_of_ble_eq_true rfl) rfl (Nat.le_of_ble_eq_true rfl) rfl (m_mono (fun r g15 hr => ?_) h)
          obtain ⟨rfl, h⟩ := hr
          show Zm w (d + 2) mX11_day 62 [some (aR (some (228))), some (aI (x1)), some (aI (x2)), none] [] g15 P
          refine z_iinc dX11_day_62 rfl (by decide) rfl ?_
          show Zm w (d + 2) mX11_day 65 [some (aR (some (228))), some (aI (x1)), some (aI (x2 + 1)), none] [] g15 P
          refine z_goto (tgt := 2) dX11_day_65 (by decide) ?_
          exact z_weak (by simp [lle]) h
set_option maxRecDepth 4000 in
theorem s_X11_day_70 {w : GX} {d : Nat} {P : PN} {g : GI} (x1 : Int) (x2 : Int)
    (h : ((¬ nm x2 < nm (g 228 16) → Zm w (d + 1) mX11_drift 0 [some (aR (some (228))), some (aI (x1)), none, none, none, none, none] [] g (fun r g2 => r = none ∧ Zm w (d + 1) mX11_isFlood 0 [some (aR (some (228))), some (aI (x1)), none, none] [] g2 (fun r g4 => ∃ z5 : Int, r = some (aI z5) ∧ ((nm z5 = 0 → P none g4) ∧ (¬ nm z5 = 0 → Zm w (d + 1) mX11_drift 0 [some (aR (some (228))), some (aI (x1)), none, none, none, none, none] [] g4 (fun r g7 => r = none ∧ P none g7)))))) ∧ (nm x2 < nm (g 228 16) → (0 ≤ nm ((2 * x2) + 1) ∧ nm ((2 * x2) + 1) < 20 ∧ (∀ v13 : Int, v13 = g 239 (nm ((2 * x2) + 1)).toNat → (0 ≤ nm (2 * x2) ∧ nm (2 * x2) < 20 ∧ ((¬ nm (g 239 (nm (2 * x2)).toNat) = nm x1 → Zm w (d + 2) mX11_day 70 [some (aR (some (228))), some (aI (x1)), some (aI (x2 + 1)), none] [] g P) ∧ (nm (g 239 (nm (2 * x2)).toNat) = nm x1 → (0 ≤ nm v13 ∧ nm v13 < 20 ∧ ((¬ 0 < nm (g 242 (nm v13).toNat) → Zm w (d + 2) mX11_day 70 [some (aR (some (228))), some (aI (x1)), some (aI (x2 + 1)), none] [] g P) ∧ (0 < nm (g 242 (nm v13).toNat) → Zm w (d + 1) mX11_taken 0 [some (aR (some (228))), some (aI (v13)), some (aI (0)), none, none] [] g (fun r g24 => ∃ z25 : Int, r = some (aI z25) ∧ (0 ≤ nm z25 ∧ nm z25 < 28 ∧ ∀ g26 : GI, g26 = up2 g24 243 (nm z25).toNat 21 → Zm w (d + 2) mX11_day 70 [some (aR (some (228))), some (aI (x1)), some (aI (x2 + 1)), none] [] g26 P))))))))))))) :
    Zm w (d + 2) mX11_day 70 [some (aR (some (228))), some (aI (x1)), some (aI (x2)), none] [] g P := by
  refine z_iload_n dX11_day_70 rfl rfl ?_
  refine z_aload_n dX11_day_71 rfl rfl ?_
  refine z_getI dX11_day_72 fl_X11_182 (by decide) kt_228 ?_
  refine z_icmp_ge (tgt := 129) dX11_day_75 (by decide) (fun c1 => ?_) (fun c1 => ?_)
  · replace h := h.1 c1
    refine z_aload_n dX11_day_129 rfl rfl ?_
    refine z_iload_n dX11_day_130 rfl rfl ?_
    refine m_callV (as := [aI (x1)]) dX11_day_131 lk_X11_213 mok_X11_drift in_X11_drift sl_X11_drift kt_228 rfl rfl rfl (Nat.le_of_ble_eq_true rfl) rfl (Nat.le_of_ble_eq_true rfl) rfl (m_mono (fun r g2 hr => ?_) h)
    obtain ⟨rfl, h⟩ := hr
    show Zm w (d + 2) mX11_day 134 [some (aR (some (228))), some (aI (x1)), some (aI (x2)), none] [] g2 P
    refine z_aload_n dX11_day_134 rfl rfl ?_
    refine z_iload_n dX11_day_135 rfl rfl ?_
    refine m_callV (as := [aI (x1)]) dX11_day_136 lk_X11_217 mok_X11_isFlood in_X11_isFlood sl_X11_isFlood kt_228 rfl rfl rfl (Nat.le_of_ble_eq_true rfl) rfl (Nat.le_of_ble_eq_true rfl) rfl (m_mono (fun r g4 hr => ?_) h)
    obtain ⟨z5, rfl, h⟩ := hr
    show Zm w (d + 2) mX11_day 139 [some (aR (some (228))), some (aI (x1)), some (aI (x2)), none] [aI (z5)] g4 P
    refine z_if_eq (tgt := 147) dX11_day_139 (by decide) (fun c6 => ?_) (fun c6 => ?_)
    · replace h := h.1 c6
      exact m_vret dX11_day_147 rfl h
    · replace h := h.2 c6
      refine z_aload_n dX11_day_142 rfl rfl ?_
      refine z_iload_n dX11_day_143 rfl rfl ?_
      refine m_callV (as := [aI (x1)]) dX11_day_144 lk_X11_213 mok_X11_drift in_X11_drift sl_X11_drift kt_228 rfl rfl rfl (Nat.le_of_ble_eq_true rfl) rfl (Nat.le_of_ble_eq_true rfl) rfl (m_mono (fun r g7 hr => ?_) h)
      obtain ⟨rfl, h⟩ := hr
      show Zm w (d + 2) mX11_day 147 [some (aR (some (228))), some (aI (x1)), some (aI (x2)), none] [] g7 P
      exact m_vret dX11_day_147 rfl h
  · replace h := h.2 (Decidable.not_not.mp c1)
    refine z_aload_n dX11_day_78 rfl rfl ?_
    refine m_getR dX11_day_79 fl_X11_40 (by decide) kt_228 rv_228_17 ?_
    refine z_iconst dX11_day_82 ?_
    refine z_iload_n dX11_day_83 rfl rfl ?_
    refine z_imul dX11_day_84 ?_
    refine z_iconst dX11_day_85 ?_
    refine z_iadd dX11_day_86 ?_
    obtain ⟨q11, q12, h⟩ := h
    refine m_iald dX11_day_87 kv_239 q11 q12 ?_
    replace h := h _ rfl
    refine z_istore_n dX11_day_88 rfl (by decide) rfl ?_
    show Zm w (d + 2) mX11_day 89 [some (aR (some (228))), some (aI (x1)), some (aI (x2)), some (aI (g 239 (nm ((2 * x2) + 1)).toNat))] [] g P
    refine z_aload_n dX11_day_89 rfl rfl ?_
    refine m_getR dX11_day_90 fl_X11_40 (by decide) kt_228 rv_228_17 ?_
    refine z_iconst dX11_day_93 ?_
    refine z_iload_n dX11_day_94 rfl rfl ?_
    refine z_imul dX11_day_95 ?_
    obtain ⟨q16, q17, h⟩ := h
    refine m_iald dX11_day_96 kv_239 q16 q17 ?_
    refine z_iload_n dX11_day_97 rfl rfl ?_
    refine z_icmp_ne (tgt := 123) dX11_day_98 (by decide) (fun c18 => ?_) (fun c18 => ?_)
    · replace h := h.1 c18
      refine z_iinc dX11_day_123 rfl (by decide) rfl ?_
      show Zm w (d + 2) mX11_day 126 [some (aR (some (228))), some (aI (x1)), some (aI (x2 + 1)), some (aI ((g 239 (nm ((2 * x2) + 1)).toNat)))] [] g P
      refine z_goto (tgt := 70) dX11_day_126 (by decide) ?_
      exact z_weak (by simp [lle]) h
    · replace h := h.2 (Decidable.not_not.mp c18)
      refine z_aload_n dX11_day_101 rfl rfl ?_
      refine m_getR dX11_day_102 fl_X11_49 (by decide) kt_228 rv_228_21 ?_
      refine z_iload_n dX11_day_105 rfl rfl ?_
      obtain ⟨q21, q22, h⟩ := h
      refine m_iald dX11_day_106 kv_242 q21 q22 ?_
      refine z_if_le (tgt := 123) dX11_day_107 (by decide) (fun c23 => ?_) (fun c23 => ?_)
      · replace h := h.1 c23
        refine z_iinc dX11_day_123 rfl (by decide) rfl ?_
        show Zm w (d + 2) mX11_day 126 [some (aR (some (228))), some (aI (x1)), some (aI (x2 + 1)), some (aI ((g 239 (nm ((2 * x2) + 1)).toNat)))] [] g P
        refine z_goto (tgt := 70) dX11_day_126 (by decide) ?_
        exact z_weak (by simp [lle]) h
      · replace h := h.2 (Decidable.not_not.mp c23)
        refine z_aload_n dX11_day_110 rfl rfl ?_
        refine m_getR dX11_day_111 fl_X11_52 (by decide) kt_228 rv_228_22 ?_
        refine z_aload_n dX11_day_114 rfl rfl ?_
        refine z_iload_n dX11_day_115 rfl rfl ?_
        refine z_iconst dX11_day_116 ?_
        refine m_callV (as := [aI ((g 239 (nm ((2 * x2) + 1)).toNat)), aI (0)]) dX11_day_117 lk_X11_200 mok_X11_taken in_X11_taken sl_X11_taken kt_228 rfl rfl rfl (Nat.le_of_ble_eq_true rfl) rfl (Nat.le_of_ble_eq_true rfl) rfl (m_mono (fun r g24 hr => ?_) h)
        obtain ⟨z25, rfl, h⟩ := hr
        show Zm w (d + 2) mX11_day 120 [some (aR (some (228))), some (aI (x1)), some (aI (x2)), some (aI ((g 239 (nm ((2 * x2) + 1)).toNat)))] [aI (z25), aR (some (243))] g24 P
        refine z_bipush dX11_day_120 rfl ?_
        obtain ⟨q27, q28, h⟩ := h
        replace h := h _ rfl
        refine m_iast dX11_day_122 kv_243 q27 q28 ?_
        refine z_iinc dX11_day_123 rfl (by decide) rfl ?_
        show Zm w (d + 2) mX11_day 126 [some (aR (some (228))), some (aI (x1)), some (aI (x2 + 1)), some (aI ((g 239 (nm ((2 * x2) + 1)).toNat)))] [] (up2 g24 243 (nm z25).toNat 21) P
        refine z_goto (tgt := 70) dX11_day_126 (by decide) ?_
        exact z_weak (by simp [lle]) h
theorem dX11_lives_0 : decode cX11_lives 0 = .ok (.aload_n 0, 1) := by decide +kernel
theorem dX11_lives_1 : decode cX11_lives 1 = .ok (.invokevirtual 220, 3) := by decide +kernel
theorem dX11_lives_4 : decode cX11_lives 4 = .ok (.iconst 0, 1) := by decide +kernel
theorem dX11_lives_5 : decode cX11_lives 5 = .ok (.istore_n 2, 1) := by decide +kernel
theorem dX11_lives_6 : decode cX11_lives 6 = .ok (.iload_n 2, 1) := by decide +kernel
theorem dX11_lives_7 : decode cX11_lives 7 = .ok (.iload_n 1, 1) := by decide +kernel
theorem dX11_lives_8 : decode cX11_lives 8 = .ok (.if_icmp .gt 14, 3) := by decide +kernel
theorem dX11_lives_11 : decode cX11_lives 11 = .ok (.aload_n 0, 1) := by decide +kernel
theorem dX11_lives_12 : decode cX11_lives 12 = .ok (.iload_n 2, 1) := by decide +kernel
theorem dX11_lives_13 : decode cX11_lives 13 = .ok (.invokevirtual 223, 3) := by decide +kernel
theorem dX11_lives_16 : decode cX11_lives 16 = .ok (.iinc 2 1, 3) := by decide +kernel
theorem dX11_lives_19 : decode cX11_lives 19 = .ok (.goto (-13), 3) := by decide +kernel
theorem dX11_lives_22 : decode cX11_lives 22 = .ok (.return_, 1) := by decide +kernel
set_option maxRecDepth 4000 in
theorem s_X11_lives_0 {w : GX} {d : Nat} {P : PN} {g : GI} (x1 : Int)
    (h : Zm w (d + 2) mX11_begins 0 [some (aR (some (228))), none, none] [] g (fun r g1 => r = none ∧ Zm w (d + 3) mX11_lives 6 [some (aR (some (228))), some (aI (x1)), some (aI (0))] [] g1 P)) :
    Zm w (d + 3) mX11_lives 0 [some (aR (some (228))), some (aI (x1)), none] [] g P := by
  refine z_aload_n dX11_lives_0 rfl rfl ?_
  refine m_callV (as := []) dX11_lives_1 lk_X11_220 mok_X11_begins in_X11_begins sl_X11_begins kt_228 rfl rfl rfl (Nat.le_of_ble_eq_true rfl) rfl (Nat.le_of_ble_eq_true rfl) rfl (m_mono (fun r g1 hr => ?_) h)
  obtain ⟨rfl, h⟩ := hr
  show Zm w (d + 3) mX11_lives 4 [some (aR (some (228))), some (aI (x1)), none] [] g1 P
  refine z_iconst dX11_lives_4 ?_
  refine z_istore_n dX11_lives_5 rfl (by decide) rfl ?_
  show Zm w (d + 3) mX11_lives 6 [some (aR (some (228))), some (aI (x1)), some (aI (0))] [] g1 P
  exact z_weak (by simp [lle]) h
set_option maxRecDepth 4000 in
theorem s_X11_lives_6 {w : GX} {d : Nat} {P : PN} {g : GI} (x1 : Int) (x2 : Int)
    (h : ((nm x1 < nm x2 → P none g) ∧ (¬ nm x1 < nm x2 → Zm w (d + 2) mX11_day 0 [some (aR (some (228))), some (aI (x2)), none, none] [] g (fun r g2 => r = none ∧ Zm w (d + 3) mX11_lives 6 [some (aR (some (228))), some (aI (x1)), some (aI (x2 + 1))] [] g2 P)))) :
    Zm w (d + 3) mX11_lives 6 [some (aR (some (228))), some (aI (x1)), some (aI (x2))] [] g P := by
  refine z_iload_n dX11_lives_6 rfl rfl ?_
  refine z_iload_n dX11_lives_7 rfl rfl ?_
  refine z_icmp_gt (tgt := 22) dX11_lives_8 (by decide) (fun c1 => ?_) (fun c1 => ?_)
  · replace h := h.1 c1
    exact m_vret dX11_lives_22 rfl h
  · replace h := h.2 c1
    refine z_aload_n dX11_lives_11 rfl rfl ?_
    refine z_iload_n dX11_lives_12 rfl rfl ?_
    refine m_callV (as := [aI (x2)]) dX11_lives_13 lk_X11_223 mok_X11_day in_X11_day sl_X11_day kt_228 rfl rfl rfl (Nat.le_of_ble_eq_true rfl) rfl (Nat.le_of_ble_eq_true rfl) rfl (m_mono (fun r g2 hr => ?_) h)
    obtain ⟨rfl, h⟩ := hr
    show Zm w (d + 3) mX11_lives 16 [some (aR (some (228))), some (aI (x1)), some (aI (x2))] [] g2 P
    refine z_iinc dX11_lives_16 rfl (by decide) rfl ?_
    show Zm w (d + 3) mX11_lives 19 [some (aR (some (228))), some (aI (x1)), some (aI (x2 + 1))] [] g2 P
    refine z_goto (tgt := 6) dX11_lives_19 (by decide) ?_
    exact z_weak (by simp [lle]) h
theorem dX11_owesBy_0 : decode cX11_owesBy 0 = .ok (.iload_n 1, 1) := by decide +kernel
theorem dX11_owesBy_1 : decode cX11_owesBy 1 = .ok (.aload_n 0, 1) := by decide +kernel
theorem dX11_owesBy_2 : decode cX11_owesBy 2 = .ok (.getfield 128, 3) := by decide +kernel
theorem dX11_owesBy_5 : decode cX11_owesBy 5 = .ok (.if_icmp .ge 7, 3) := by decide +kernel
theorem dX11_owesBy_8 : decode cX11_owesBy 8 = .ok (.iconst 0, 1) := by decide +kernel
theorem dX11_owesBy_9 : decode cX11_owesBy 9 = .ok (.goto 18, 3) := by decide +kernel
theorem dX11_owesBy_12 : decode cX11_owesBy 12 = .ok (.aload_n 0, 1) := by decide +kernel
theorem dX11_owesBy_13 : decode cX11_owesBy 13 = .ok (.getfield 34, 3) := by decide +kernel
theorem dX11_owesBy_16 : decode cX11_owesBy 16 = .ok (.iconst 4, 1) := by decide +kernel
theorem dX11_owesBy_17 : decode cX11_owesBy 17 = .ok (.iload_n 1, 1) := by decide +kernel
theorem dX11_owesBy_18 : decode cX11_owesBy 18 = .ok (.aload_n 0, 1) := by decide +kernel
theorem dX11_owesBy_19 : decode cX11_owesBy 19 = .ok (.getfield 128, 3) := by decide +kernel
theorem dX11_owesBy_22 : decode cX11_owesBy 22 = .ok (.isub, 1) := by decide +kernel
theorem dX11_owesBy_23 : decode cX11_owesBy 23 = .ok (.imul, 1) := by decide +kernel
theorem dX11_owesBy_24 : decode cX11_owesBy 24 = .ok (.iconst 1, 1) := by decide +kernel
theorem dX11_owesBy_25 : decode cX11_owesBy 25 = .ok (.iadd, 1) := by decide +kernel
theorem dX11_owesBy_26 : decode cX11_owesBy 26 = .ok (.iaload, 1) := by decide +kernel
theorem dX11_owesBy_27 : decode cX11_owesBy 27 = .ok (.ireturn, 1) := by decide +kernel
set_option maxRecDepth 4000 in
theorem s_X11_owesBy_0 {w : GX} {d : Nat} {P : PN} {g : GI} (x1 : Int)
    (h : ((¬ nm x1 < nm (g 228 12) → (0 ≤ nm ((4 * (x1 - (g 228 12))) + 1) ∧ nm ((4 * (x1 - (g 228 12))) + 1) < 32 ∧ P (some (aI (g 237 (nm ((4 * (x1 - (g 228 12))) + 1)).toNat))) g)) ∧ (nm x1 < nm (g 228 12) → P (some (aI (0))) g))) :
    Zm w d mX11_owesBy 0 [some (aR (some (228))), some (aI (x1))] [] g P := by
  refine z_iload_n dX11_owesBy_0 rfl rfl ?_
  refine z_aload_n dX11_owesBy_1 rfl rfl ?_
  refine z_getI dX11_owesBy_2 fl_X11_128 (by decide) kt_228 ?_
  refine z_icmp_ge (tgt := 12) dX11_owesBy_5 (by decide) (fun c1 => ?_) (fun c1 => ?_)
  · replace h := h.1 c1
    refine z_aload_n dX11_owesBy_12 rfl rfl ?_
    refine m_getR dX11_owesBy_13 fl_X11_34 (by decide) kt_228 rv_228_11 ?_
    refine z_iconst dX11_owesBy_16 ?_
    refine z_iload_n dX11_owesBy_17 rfl rfl ?_
    refine z_aload_n dX11_owesBy_18 rfl rfl ?_
    refine z_getI dX11_owesBy_19 fl_X11_128 (by decide) kt_228 ?_
    refine z_isub dX11_owesBy_22 ?_
    refine z_imul dX11_owesBy_23 ?_
    refine z_iconst dX11_owesBy_24 ?_
    refine z_iadd dX11_owesBy_25 ?_
    obtain ⟨q4, q5, h⟩ := h
    refine m_iald dX11_owesBy_26 kv_237 q4 q5 ?_
    exact m_iret dX11_owesBy_27 rfl h
  · replace h := h.2 (Decidable.not_not.mp c1)
    refine z_iconst dX11_owesBy_8 ?_
    refine z_goto (tgt := 27) dX11_owesBy_9 (by decide) ?_
    exact m_iret dX11_owesBy_27 rfl h
theorem dX11_spouseOf_0 : decode cX11_spouseOf 0 = .ok (.aload_n 0, 1) := by decide +kernel
theorem dX11_spouseOf_1 : decode cX11_spouseOf 1 = .ok (.getfield 61, 3) := by decide +kernel
theorem dX11_spouseOf_4 : decode cX11_spouseOf 4 = .ok (.iload_n 1, 1) := by decide +kernel
theorem dX11_spouseOf_5 : decode cX11_spouseOf 5 = .ok (.iaload, 1) := by decide +kernel
theorem dX11_spouseOf_6 : decode cX11_spouseOf 6 = .ok (.aload_n 0, 1) := by decide +kernel
theorem dX11_spouseOf_7 : decode cX11_spouseOf 7 = .ok (.getfield 128, 3) := by decide +kernel
theorem dX11_spouseOf_10 : decode cX11_spouseOf 10 = .ok (.if_icmp .ge 7, 3) := by decide +kernel
theorem dX11_spouseOf_13 : decode cX11_spouseOf 13 = .ok (.iconst (-1), 1) := by decide +kernel
theorem dX11_spouseOf_14 : decode cX11_spouseOf 14 = .ok (.goto 23, 3) := by decide +kernel
theorem dX11_spouseOf_17 : decode cX11_spouseOf 17 = .ok (.aload_n 0, 1) := by decide +kernel
theorem dX11_spouseOf_18 : decode cX11_spouseOf 18 = .ok (.getfield 34, 3) := by decide +kernel
theorem dX11_spouseOf_21 : decode cX11_spouseOf 21 = .ok (.iconst 4, 1) := by decide +kernel
theorem dX11_spouseOf_22 : decode cX11_spouseOf 22 = .ok (.aload_n 0, 1) := by decide +kernel
theorem dX11_spouseOf_23 : decode cX11_spouseOf 23 = .ok (.getfield 61, 3) := by decide +kernel
theorem dX11_spouseOf_26 : decode cX11_spouseOf 26 = .ok (.iload_n 1, 1) := by decide +kernel
theorem dX11_spouseOf_27 : decode cX11_spouseOf 27 = .ok (.iaload, 1) := by decide +kernel
theorem dX11_spouseOf_28 : decode cX11_spouseOf 28 = .ok (.aload_n 0, 1) := by decide +kernel
theorem dX11_spouseOf_29 : decode cX11_spouseOf 29 = .ok (.getfield 128, 3) := by decide +kernel
theorem dX11_spouseOf_32 : decode cX11_spouseOf 32 = .ok (.isub, 1) := by decide +kernel
theorem dX11_spouseOf_33 : decode cX11_spouseOf 33 = .ok (.imul, 1) := by decide +kernel
theorem dX11_spouseOf_34 : decode cX11_spouseOf 34 = .ok (.iconst 2, 1) := by decide +kernel
theorem dX11_spouseOf_35 : decode cX11_spouseOf 35 = .ok (.iadd, 1) := by decide +kernel
theorem dX11_spouseOf_36 : decode cX11_spouseOf 36 = .ok (.iaload, 1) := by decide +kernel
theorem dX11_spouseOf_37 : decode cX11_spouseOf 37 = .ok (.istore_n 2, 1) := by decide +kernel
theorem dX11_spouseOf_38 : decode cX11_spouseOf 38 = .ok (.aload_n 0, 1) := by decide +kernel
theorem dX11_spouseOf_39 : decode cX11_spouseOf 39 = .ok (.iload_n 2, 1) := by decide +kernel
theorem dX11_spouseOf_40 : decode cX11_spouseOf 40 = .ok (.invokevirtual 164, 3) := by decide +kernel
theorem dX11_spouseOf_43 : decode cX11_spouseOf 43 = .ok (.ifCond .ne 5, 3) := by decide +kernel
theorem dX11_spouseOf_46 : decode cX11_spouseOf 46 = .ok (.iconst (-1), 1) := by decide +kernel
theorem dX11_spouseOf_47 : decode cX11_spouseOf 47 = .ok (.ireturn, 1) := by decide +kernel
theorem dX11_spouseOf_48 : decode cX11_spouseOf 48 = .ok (.aload_n 0, 1) := by decide +kernel
theorem dX11_spouseOf_49 : decode cX11_spouseOf 49 = .ok (.getfield 52, 3) := by decide +kernel
theorem dX11_spouseOf_52 : decode cX11_spouseOf 52 = .ok (.aload_n 0, 1) := by decide +kernel
theorem dX11_spouseOf_53 : decode cX11_spouseOf 53 = .ok (.getfield 128, 3) := by decide +kernel
theorem dX11_spouseOf_56 : decode cX11_spouseOf 56 = .ok (.iload_n 2, 1) := by decide +kernel
theorem dX11_spouseOf_57 : decode cX11_spouseOf 57 = .ok (.iadd, 1) := by decide +kernel
theorem dX11_spouseOf_58 : decode cX11_spouseOf 58 = .ok (.iaload, 1) := by decide +kernel
theorem dX11_spouseOf_59 : decode cX11_spouseOf 59 = .ok (.istore_n 3, 1) := by decide +kernel
theorem dX11_spouseOf_60 : decode cX11_spouseOf 60 = .ok (.iload_n 3, 1) := by decide +kernel
theorem dX11_spouseOf_61 : decode cX11_spouseOf 61 = .ok (.bipush 22, 2) := by decide +kernel
theorem dX11_spouseOf_63 : decode cX11_spouseOf 63 = .ok (.if_icmp .ge 7, 3) := by decide +kernel
theorem dX11_spouseOf_66 : decode cX11_spouseOf 66 = .ok (.iconst (-1), 1) := by decide +kernel
theorem dX11_spouseOf_67 : decode cX11_spouseOf 67 = .ok (.goto 7, 3) := by decide +kernel
theorem dX11_spouseOf_70 : decode cX11_spouseOf 70 = .ok (.iload_n 3, 1) := by decide +kernel
theorem dX11_spouseOf_71 : decode cX11_spouseOf 71 = .ok (.bipush 22, 2) := by decide +kernel
theorem dX11_spouseOf_73 : decode cX11_spouseOf 73 = .ok (.isub, 1) := by decide +kernel
theorem dX11_spouseOf_74 : decode cX11_spouseOf 74 = .ok (.ireturn, 1) := by decide +kernel
set_option maxRecDepth 4000 in
theorem s_X11_spouseOf_0 {w : GX} {d : Nat} {P : PN} {g : GI} (x1 : Int)
    (h : (0 ≤ nm x1 ∧ nm x1 < 8 ∧ ((¬ nm (g 246 (nm x1).toNat) < nm (g 228 12) → ((0 ≤ nm ((4 * ((g 246 (nm x1).toNat) - (g 228 12))) + 2) ∧ nm ((4 * ((g 246 (nm x1).toNat) - (g 228 12))) + 2) < 32 ∧ Zm w (d + 2) mX11_spouseOf 37 [some (aR (some (228))), none, none, none] [aI (g 237 (nm ((4 * ((g 246 (nm x1).toNat) - (g 228 12))) + 2)).toNat)] g P))) ∧ (nm (g 246 (nm x1).toNat) < nm (g 228 12) → Zm w (d + 2) mX11_spouseOf 37 [some (aR (some (228))), none, none, none] [aI ((-1))] g P)))) :
    Zm w (d + 2) mX11_spouseOf 0 [some (aR (some (228))), some (aI (x1)), none, none] [] g P := by
  refine z_aload_n dX11_spouseOf_0 rfl rfl ?_
  refine m_getR dX11_spouseOf_1 fl_X11_61 (by decide) kt_228 rv_228_25 ?_
  refine z_iload_n dX11_spouseOf_4 rfl rfl ?_
  obtain ⟨q3, q4, h⟩ := h
  refine m_iald dX11_spouseOf_5 kv_246 q3 q4 ?_
  refine z_aload_n dX11_spouseOf_6 rfl rfl ?_
  refine z_getI dX11_spouseOf_7 fl_X11_128 (by decide) kt_228 ?_
  refine z_icmp_ge (tgt := 17) dX11_spouseOf_10 (by decide) (fun c5 => ?_) (fun c5 => ?_)
  · replace h := h.1 c5
    refine z_aload_n dX11_spouseOf_17 rfl rfl ?_
    refine m_getR dX11_spouseOf_18 fl_X11_34 (by decide) kt_228 rv_228_11 ?_
    refine z_iconst dX11_spouseOf_21 ?_
    refine z_aload_n dX11_spouseOf_22 rfl rfl ?_
    refine m_getR dX11_spouseOf_23 fl_X11_61 (by decide) kt_228 rv_228_25 ?_
    refine z_iload_n dX11_spouseOf_26 rfl rfl ?_
    refine m_iald dX11_spouseOf_27 kv_246 q3 q4 ?_
    refine z_aload_n dX11_spouseOf_28 rfl rfl ?_
    refine z_getI dX11_spouseOf_29 fl_X11_128 (by decide) kt_228 ?_
    refine z_isub dX11_spouseOf_32 ?_
    refine z_imul dX11_spouseOf_33 ?_
    refine z_iconst dX11_spouseOf_34 ?_
    refine z_iadd dX11_spouseOf_35 ?_
    obtain ⟨q10, q11, h⟩ := h
    refine m_iald dX11_spouseOf_36 kv_237 q10 q11 ?_
    exact z_weak (by simp [lle]) h
  · replace h := h.2 (Decidable.not_not.mp c5)
    refine z_iconst dX11_spouseOf_13 ?_
    refine z_goto (tgt := 37) dX11_spouseOf_14 (by decide) ?_
    exact z_weak (by simp [lle]) h
set_option maxRecDepth 4000 in
theorem s_X11_spouseOf_37 {w : GX} {d : Nat} {P : PN} {g : GI} (y0 : Int)
    (h : (((¬ nm (inn (y0) 0 (nm (g 228 10 - 1))) = 0 → (0 ≤ nm ((g 228 12) + y0) ∧ nm ((g 228 12) + y0) < 28 ∧ (∀ v6 : Int, v6 = g 243 (nm ((g 228 12) + y0)).toNat → ((¬ nm v6 < nm 22 → P (some (aI (v6 - 22))) g) ∧ (nm v6 < nm 22 → P (some (aI ((-1)))) g))))) ∧ (nm (inn (y0) 0 (nm (g 228 10 - 1))) = 0 → P (some (aI ((-1)))) g)))) :
    Zm w (d + 2) mX11_spouseOf 37 [some (aR (some (228))), none, none, none] [aI (y0)] g P := by
  refine z_istore_n dX11_spouseOf_37 rfl (by decide) rfl ?_
  show Zm w (d + 2) mX11_spouseOf 38 [some (aR (some (228))), none, some (aI (y0)), none] [] g P
  refine z_aload_n dX11_spouseOf_38 rfl rfl ?_
  refine z_iload_n dX11_spouseOf_39 rfl rfl ?_
  refine m_callV (as := [aI (y0)]) dX11_spouseOf_40 lk_X11_164 mok_X11_isPerson in_X11_isPerson sl_X11_isPerson kt_228 rfl rfl rfl (Nat.le_of_ble_eq_true rfl) rfl (Nat.le_of_ble_eq_true rfl) rfl (c_X11_isPerson  ?_)
  show Zm w (d + 2) mX11_spouseOf 43 [some (aR (some (228))), none, some (aI (y0)), none] [aI (inn (y0) 0 (nm (g 228 10 - 1)))] g P
  refine z_if_ne (tgt := 48) dX11_spouseOf_43 (by decide) (fun c1 => ?_) (fun c1 => ?_)
  · replace h := h.1 c1
    refine z_aload_n dX11_spouseOf_48 rfl rfl ?_
    refine m_getR dX11_spouseOf_49 fl_X11_52 (by decide) kt_228 rv_228_22 ?_
    refine z_aload_n dX11_spouseOf_52 rfl rfl ?_
    refine z_getI dX11_spouseOf_53 fl_X11_128 (by decide) kt_228 ?_
    refine z_iload_n dX11_spouseOf_56 rfl rfl ?_
    refine z_iadd dX11_spouseOf_57 ?_
    obtain ⟨q4, q5, h⟩ := h
    refine m_iald dX11_spouseOf_58 kv_243 q4 q5 ?_
    replace h := h _ rfl
    refine z_istore_n dX11_spouseOf_59 rfl (by decide) rfl ?_
    show Zm w (d + 2) mX11_spouseOf 60 [some (aR (some (228))), none, some (aI (y0)), some (aI (g 243 (nm ((g 228 12) + y0)).toNat))] [] g P
    refine z_iload_n dX11_spouseOf_60 rfl rfl ?_
    refine z_bipush dX11_spouseOf_61 rfl ?_
    refine z_icmp_ge (tgt := 70) dX11_spouseOf_63 (by decide) (fun c7 => ?_) (fun c7 => ?_)
    · replace h := h.1 c7
      refine z_iload_n dX11_spouseOf_70 rfl rfl ?_
      refine z_bipush dX11_spouseOf_71 rfl ?_
      refine z_isub dX11_spouseOf_73 ?_
      exact m_iret dX11_spouseOf_74 rfl h
    · replace h := h.2 (Decidable.not_not.mp c7)
      refine z_iconst dX11_spouseOf_66 ?_
      refine z_goto (tgt := 74) dX11_spouseOf_67 (by decide) ?_
      exact m_iret dX11_spouseOf_74 rfl h
  · replace h := h.2 (Decidable.not_not.mp c1)
    refine z_iconst dX11_spouseOf_46 ?_
    exact m_iret dX11_spouseOf_47 rfl h
theorem dX11_calledNow_0 : decode cX11_calledNow 0 = .ok (.iload_n 2, 1) := by decide +kernel
theorem dX11_calledNow_1 : decode cX11_calledNow 1 = .ok (.tableswitch 57 0 2 #[27, 34, 46], 27) := by decide +kernel
theorem dX11_calledNow_28 : decode cX11_calledNow 28 = .ok (.aload_n 0, 1) := by decide +kernel
theorem dX11_calledNow_29 : decode cX11_calledNow 29 = .ok (.getfield 61, 3) := by decide +kernel
theorem dX11_calledNow_32 : decode cX11_calledNow 32 = .ok (.iload_n 1, 1) := by decide +kernel
theorem dX11_calledNow_33 : decode cX11_calledNow 33 = .ok (.iaload, 1) := by decide +kernel
theorem dX11_calledNow_34 : decode cX11_calledNow 34 = .ok (.ireturn, 1) := by decide +kernel
theorem dX11_calledNow_35 : decode cX11_calledNow 35 = .ok (.aload_n 0, 1) := by decide +kernel
theorem dX11_calledNow_36 : decode cX11_calledNow 36 = .ok (.getfield 58, 3) := by decide +kernel
theorem dX11_calledNow_39 : decode cX11_calledNow 39 = .ok (.aload_n 0, 1) := by decide +kernel
theorem dX11_calledNow_40 : decode cX11_calledNow 40 = .ok (.getfield 61, 3) := by decide +kernel
theorem dX11_calledNow_43 : decode cX11_calledNow 43 = .ok (.iload_n 1, 1) := by decide +kernel
theorem dX11_calledNow_44 : decode cX11_calledNow 44 = .ok (.iaload, 1) := by decide +kernel
theorem dX11_calledNow_45 : decode cX11_calledNow 45 = .ok (.iaload, 1) := by decide +kernel
theorem dX11_calledNow_46 : decode cX11_calledNow 46 = .ok (.ireturn, 1) := by decide +kernel
theorem dX11_calledNow_47 : decode cX11_calledNow 47 = .ok (.aload_n 0, 1) := by decide +kernel
theorem dX11_calledNow_48 : decode cX11_calledNow 48 = .ok (.aload_n 0, 1) := by decide +kernel
theorem dX11_calledNow_49 : decode cX11_calledNow 49 = .ok (.getfield 61, 3) := by decide +kernel
theorem dX11_calledNow_52 : decode cX11_calledNow 52 = .ok (.iload_n 1, 1) := by decide +kernel
theorem dX11_calledNow_53 : decode cX11_calledNow 53 = .ok (.iaload, 1) := by decide +kernel
theorem dX11_calledNow_54 : decode cX11_calledNow 54 = .ok (.invokevirtual 226, 3) := by decide +kernel
theorem dX11_calledNow_57 : decode cX11_calledNow 57 = .ok (.ireturn, 1) := by decide +kernel
theorem dX11_calledNow_58 : decode cX11_calledNow 58 = .ok (.aload_n 0, 1) := by decide +kernel
theorem dX11_calledNow_59 : decode cX11_calledNow 59 = .ok (.iload_n 1, 1) := by decide +kernel
theorem dX11_calledNow_60 : decode cX11_calledNow 60 = .ok (.invokevirtual 229, 3) := by decide +kernel
theorem dX11_calledNow_63 : decode cX11_calledNow 63 = .ok (.ireturn, 1) := by decide +kernel
set_option maxRecDepth 4000 in
theorem s_X11_calledNow_0 {w : GX} {d : Nat} {P : PN} {g : GI} (x1 : Int) (x2 : Int)
    (h : ((nm x2 = 0 → (0 ≤ nm x1 ∧ nm x1 < 8 ∧ P (some (aI (g 246 (nm x1).toNat))) g)) ∧ (nm x2 = 1 → (0 ≤ nm x1 ∧ nm x1 < 8 ∧ (0 ≤ nm (g 246 (nm x1).toNat) ∧ nm (g 246 (nm x1).toNat) < 28 ∧ P (some (aI (g 245 (nm (g 246 (nm x1).toNat)).toNat))) g))) ∧ (nm x2 = 2 → (0 ≤ nm x1 ∧ nm x1 < 8 ∧ Zm w (d + 2) mX11_owesBy 0 [some (aR (some (228))), some (aI (g 246 (nm x1).toNat))] [] g (fun r g20 => ∃ z21 : Int, r = some (aI z21) ∧ P (some (aI (z21))) g20))) ∧ (¬ nm x2 = 0 → ¬ nm x2 = 1 → ¬ nm x2 = 2 → Zm w (d + 2) mX11_spouseOf 0 [some (aR (some (228))), some (aI (x1)), none, none] [] g (fun r g22 => ∃ z23 : Int, r = some (aI z23) ∧ P (some (aI (z23))) g22)))) :
    Zm w (d + 3) mX11_calledNow 0 [some (aR (some (228))), some (aI (x1)), some (aI (x2))] [] g P := by
  refine z_iload_n dX11_calledNow_0 rfl rfl ?_
  refine z_tsw (df := 58) (cs := [(0, 28), (1, 35), (2, 47)]) dX11_calledNow_1 (by decide) (by decide) (by decide) (by decide) ?_
  by_cases c1 : nm x2 = 0
  · rw [sw_c c1]
    replace h := h.1 c1
    refine z_aload_n dX11_calledNow_28 rfl rfl ?_
    refine m_getR dX11_calledNow_29 fl_X11_61 (by decide) kt_228 rv_228_25 ?_
    refine z_iload_n dX11_calledNow_32 rfl rfl ?_
    obtain ⟨q4, q5, h⟩ := h
    refine m_iald dX11_calledNow_33 kv_246 q4 q5 ?_
    exact m_iret dX11_calledNow_34 rfl h
  rw [sw_n c1]; replace h := h.2
  by_cases c6 : nm x2 = 1
  · rw [sw_c c6]
    replace h := h.1 c6
    refine z_aload_n dX11_calledNow_35 rfl rfl ?_
    refine m_getR dX11_calledNow_36 fl_X11_58 (by decide) kt_228 rv_228_24 ?_
    refine z_aload_n dX11_calledNow_39 rfl rfl ?_
    refine m_getR dX11_calledNow_40 fl_X11_61 (by decide) kt_228 rv_228_25 ?_
    refine z_iload_n dX11_calledNow_43 rfl rfl ?_
    obtain ⟨q9, q10, h⟩ := h
    refine m_iald dX11_calledNow_44 kv_246 q9 q10 ?_
    obtain ⟨q13, q14, h⟩ := h
    refine m_iald dX11_calledNow_45 kv_245 q13 q14 ?_
    exact m_iret dX11_calledNow_46 rfl h
  rw [sw_n c6]; replace h := h.2
  by_cases c15 : nm x2 = 2
  · rw [sw_c c15]
    replace h := h.1 c15
    refine z_aload_n dX11_calledNow_47 rfl rfl ?_
    refine z_aload_n dX11_calledNow_48 rfl rfl ?_
    refine m_getR dX11_calledNow_49 fl_X11_61 (by decide) kt_228 rv_228_25 ?_
    refine z_iload_n dX11_calledNow_52 rfl rfl ?_
    obtain ⟨q18, q19, h⟩ := h
    refine m_iald dX11_calledNow_53 kv_246 q18 q19 ?_
    refine m_callV (as := [aI (g 246 (nm x1).toNat)]) dX11_calledNow_54 lk_X11_226 mok_X11_owesBy in_X11_owesBy sl_X11_owesBy kt_228 rfl rfl rfl (Nat.le_of_ble_eq_true rfl) rfl (Nat.le_of_ble_eq_true rfl) rfl (m_mono (fun r g20 hr => ?_) h)
    obtain ⟨z21, rfl, h⟩ := hr
    show Zm w (d + 3) mX11_calledNow 57 [some (aR (some (228))), some (aI (x1)), some (aI (x2))] [aI (z21)] g20 P
    exact m_iret dX11_calledNow_57 rfl h
  rw [sw_n c15]; replace h := h.2
  replace h := h c1 c6 c15
  rw [sw_e]
  refine z_aload_n dX11_calledNow_58 rfl rfl ?_
  refine z_iload_n dX11_calledNow_59 rfl rfl ?_
  refine m_callV (as := [aI (x1)]) dX11_calledNow_60 lk_X11_229 mok_X11_spouseOf in_X11_spouseOf sl_X11_spouseOf kt_228 rfl rfl rfl (Nat.le_of_ble_eq_true rfl) rfl (Nat.le_of_ble_eq_true rfl) rfl (m_mono (fun r g22 hr => ?_) h)
  obtain ⟨z23, rfl, h⟩ := hr
  show Zm w (d + 3) mX11_calledNow 63 [some (aR (some (228))), some (aI (x1)), some (aI (x2))] [aI (z23)] g22 P
  exact m_iret dX11_calledNow_63 rfl h
theorem dX11_calledOf_0 : decode cX11_calledOf 0 = .ok (.aload_n 0, 1) := by decide +kernel
theorem dX11_calledOf_1 : decode cX11_calledOf 1 = .ok (.iload_n 1, 1) := by decide +kernel
theorem dX11_calledOf_2 : decode cX11_calledOf 2 = .ok (.invokevirtual 232, 3) := by decide +kernel
theorem dX11_calledOf_5 : decode cX11_calledOf 5 = .ok (.aload_n 0, 1) := by decide +kernel
theorem dX11_calledOf_6 : decode cX11_calledOf 6 = .ok (.iload_n 2, 1) := by decide +kernel
theorem dX11_calledOf_7 : decode cX11_calledOf 7 = .ok (.iload_n 3, 1) := by decide +kernel
theorem dX11_calledOf_8 : decode cX11_calledOf 8 = .ok (.invokevirtual 235, 3) := by decide +kernel
theorem dX11_calledOf_11 : decode cX11_calledOf 11 = .ok (.ireturn, 1) := by decide +kernel
set_option maxRecDepth 4000 in
theorem s_X11_calledOf_0 {w : GX} {d : Nat} {P : PN} {g : GI} (x1 : Int) (x2 : Int) (x3 : Int)
    (h : Zm w (d + 3) mX11_lives 0 [some (aR (some (228))), some (aI (x1)), none] [] g (fun r g1 => r = none ∧ Zm w (d + 3) mX11_calledNow 0 [some (aR (some (228))), some (aI (x2)), some (aI (x3))] [] g1 (fun r g3 => ∃ z4 : Int, r = some (aI z4) ∧ P (some (aI (z4))) g3))) :
    Zm w (d + 4) mX11_calledOf 0 [some (aR (some (228))), some (aI (x1)), some (aI (x2)), some (aI (x3))] [] g P := by
  refine z_aload_n dX11_calledOf_0 rfl rfl ?_
  refine z_iload_n dX11_calledOf_1 rfl rfl ?_
  refine m_callV (as := [aI (x1)]) dX11_calledOf_2 lk_X11_232 mok_X11_lives in_X11_lives sl_X11_lives kt_228 rfl rfl rfl (Nat.le_of_ble_eq_true rfl) rfl (Nat.le_of_ble_eq_true rfl) rfl (m_mono (fun r g1 hr => ?_) h)
  obtain ⟨rfl, h⟩ := hr
  show Zm w (d + 4) mX11_calledOf 5 [some (aR (some (228))), some (aI (x1)), some (aI (x2)), some (aI (x3))] [] g1 P
  refine z_aload_n dX11_calledOf_5 rfl rfl ?_
  refine z_iload_n dX11_calledOf_6 rfl rfl ?_
  refine z_iload_n dX11_calledOf_7 rfl rfl ?_
  refine m_callV (as := [aI (x2), aI (x3)]) dX11_calledOf_8 lk_X11_235 mok_X11_calledNow in_X11_calledNow sl_X11_calledNow kt_228 rfl rfl rfl (Nat.le_of_ble_eq_true rfl) rfl (Nat.le_of_ble_eq_true rfl) rfl (m_mono (fun r g3 hr => ?_) h)
  obtain ⟨z4, rfl, h⟩ := hr
  show Zm w (d + 4) mX11_calledOf 11 [some (aR (some (228))), some (aI (x1)), some (aI (x2)), some (aI (x3))] [aI (z4)] g3 P
  exact m_iret dX11_calledOf_11 rfl h
theorem dX11_called_0 : decode cX11_called 0 = .ok (.aload_n 0, 1) := by decide +kernel
theorem dX11_called_1 : decode cX11_called 1 = .ok (.invokevirtual 161, 3) := by decide +kernel
theorem dX11_called_4 : decode cX11_called 4 = .ok (.iload_n 1, 1) := by decide +kernel
theorem dX11_called_5 : decode cX11_called 5 = .ok (.invokestatic 172, 3) := by decide +kernel
theorem dX11_called_8 : decode cX11_called 8 = .ok (.ifCond .eq 33, 3) := by decide +kernel
theorem dX11_called_11 : decode cX11_called 11 = .ok (.aload_n 0, 1) := by decide +kernel
theorem dX11_called_12 : decode cX11_called 12 = .ok (.iload_n 2, 1) := by decide +kernel
theorem dX11_called_13 : decode cX11_called 13 = .ok (.invokevirtual 164, 3) := by decide +kernel
theorem dX11_called_16 : decode cX11_called 16 = .ok (.ifCond .eq 25, 3) := by decide +kernel
theorem dX11_called_19 : decode cX11_called 19 = .ok (.iload_n 3, 1) := by decide +kernel
theorem dX11_called_20 : decode cX11_called 20 = .ok (.i2l, 1) := by decide +kernel
theorem dX11_called_21 : decode cX11_called 21 = .ok (.lconst 0, 1) := by decide +kernel
theorem dX11_called_22 : decode cX11_called 22 = .ok (.ldc2_w 95, 3) := by decide +kernel
theorem dX11_called_25 : decode cX11_called 25 = .ok (.invokestatic 88, 3) := by decide +kernel
theorem dX11_called_28 : decode cX11_called 28 = .ok (.ifCond .eq 13, 3) := by decide +kernel
theorem dX11_called_31 : decode cX11_called 31 = .ok (.aload_n 0, 1) := by decide +kernel
theorem dX11_called_32 : decode cX11_called 32 = .ok (.iload_n 1, 1) := by decide +kernel
theorem dX11_called_33 : decode cX11_called 33 = .ok (.iload_n 2, 1) := by decide +kernel
theorem dX11_called_34 : decode cX11_called 34 = .ok (.iload_n 3, 1) := by decide +kernel
theorem dX11_called_35 : decode cX11_called 35 = .ok (.invokevirtual 238, 3) := by decide +kernel
theorem dX11_called_38 : decode cX11_called 38 = .ok (.goto 5, 3) := by decide +kernel
theorem dX11_called_41 : decode cX11_called 41 = .ok (.bipush (-2), 2) := by decide +kernel
theorem dX11_called_43 : decode cX11_called 43 = .ok (.ireturn, 1) := by decide +kernel
set_option maxRecDepth 4000 in
theorem s_X11_called_0 {w : GX} {d : Nat} {P : PN} {g : GI} (x1 : Int) (x2 : Int) (x3 : Int)
    (h : Zm w (d + 4) mX11_reads 0 [some (aR (some (228)))] [] g (fun r g1 => r = none ∧ (((nm (inn (x1) 0 19) = 0 → P (some (aI ((-2)))) g1) ∧ (¬ nm (inn (x1) 0 19) = 0 → (((nm (inn (x2) 0 (nm (g1 228 10 - 1))) = 0 → P (some (aI ((-2)))) g1) ∧ (¬ nm (inn (x2) 0 (nm (g1 228 10 - 1))) = 0 → (((nm (lin (nm x3) (0) (3)) = 0 → P (some (aI ((-2)))) g1) ∧ (¬ nm (lin (nm x3) (0) (3)) = 0 → Zm w (d + 4) mX11_calledOf 0 [some (aR (some (228))), some (aI (x1)), some (aI (x2)), some (aI (x3))] [] g1 (fun r g6 => ∃ z7 : Int, r = some (aI z7) ∧ P (some (aI (z7))) g6)))))))))))) :
    Zm w (d + 5) mX11_called 0 [some (aR (some (228))), some (aI (x1)), some (aI (x2)), some (aI (x3))] [] g P := by
  refine z_aload_n dX11_called_0 rfl rfl ?_
  refine m_callV (as := []) dX11_called_1 lk_X11_161 mok_X11_reads in_X11_reads sl_X11_reads kt_228 rfl rfl rfl (Nat.le_of_ble_eq_true rfl) rfl (Nat.le_of_ble_eq_true rfl) rfl (m_mono (fun r g1 hr => ?_) h)
  obtain ⟨rfl, h⟩ := hr
  show Zm w (d + 5) mX11_called 4 [some (aR (some (228))), some (aI (x1)), some (aI (x2)), some (aI (x3))] [] g1 P
  refine z_iload_n dX11_called_4 rfl rfl ?_
  refine m_callS (as := [aI (x1)]) dX11_called_5 lk_X11_172 mok_X11_isDay st_X11_isDay rfl (Nat.le_of_ble_eq_true rfl) rfl (Nat.le_of_ble_eq_true rfl) rfl (c_X11_isDay  ?_)
  show Zm w (d + 5) mX11_called 8 [some (aR (some (228))), some (aI (x1)), some (aI (x2)), some (aI (x3))] [aI (inn (x1) 0 19)] g1 P
  refine z_if_eq (tgt := 41) dX11_called_8 (by decide) (fun c3 => ?_) (fun c3 => ?_)
  · replace h := h.1 c3
    refine z_bipush dX11_called_41 rfl ?_
    exact m_iret dX11_called_43 rfl h
  · replace h := h.2 c3
    refine z_aload_n dX11_called_11 rfl rfl ?_
    refine z_iload_n dX11_called_12 rfl rfl ?_
    refine m_callV (as := [aI (x2)]) dX11_called_13 lk_X11_164 mok_X11_isPerson in_X11_isPerson sl_X11_isPerson kt_228 rfl rfl rfl (Nat.le_of_ble_eq_true rfl) rfl (Nat.le_of_ble_eq_true rfl) rfl (c_X11_isPerson  ?_)
    show Zm w (d + 5) mX11_called 16 [some (aR (some (228))), some (aI (x1)), some (aI (x2)), some (aI (x3))] [aI (inn (x2) 0 (nm (g1 228 10 - 1)))] g1 P
    refine z_if_eq (tgt := 41) dX11_called_16 (by decide) (fun c4 => ?_) (fun c4 => ?_)
    · replace h := h.1 c4
      refine z_bipush dX11_called_41 rfl ?_
      exact m_iret dX11_called_43 rfl h
    · replace h := h.2 c4
      refine z_iload_n dX11_called_19 rfl rfl ?_
      refine z_i2l dX11_called_20 ?_
      refine z_lconst (z := 0) dX11_called_21 rfl ?_
      refine z_ldc2 dX11_called_22 kl_X11_95 ?_
      refine m_callS (as := [aL (nm x3), aL (0), aL (3)]) dX11_called_25 lk_X11_88 mok_X11_in st_X11_in rfl (Nat.le_of_ble_eq_true rfl) rfl (Nat.le_of_ble_eq_true rfl) rfl (c_X11_in  ?_)
      show Zm w (d + 5) mX11_called 28 [some (aR (some (228))), some (aI (x1)), some (aI (x2)), some (aI (x3))] [aI (lin (nm x3) (0) (3))] g1 P
      refine z_if_eq (tgt := 41) dX11_called_28 (by decide) (fun c5 => ?_) (fun c5 => ?_)
      · replace h := h.1 c5
        refine z_bipush dX11_called_41 rfl ?_
        exact m_iret dX11_called_43 rfl h
      · replace h := h.2 c5
        refine z_aload_n dX11_called_31 rfl rfl ?_
        refine z_iload_n dX11_called_32 rfl rfl ?_
        refine z_iload_n dX11_called_33 rfl rfl ?_
        refine z_iload_n dX11_called_34 rfl rfl ?_
        refine m_callV (as := [aI (x1), aI (x2), aI (x3)]) dX11_called_35 lk_X11_238 mok_X11_calledOf in_X11_calledOf sl_X11_calledOf kt_228 rfl rfl rfl (Nat.le_of_ble_eq_true rfl) rfl (Nat.le_of_ble_eq_true rfl) rfl (m_mono (fun r g6 hr => ?_) h)
        obtain ⟨z7, rfl, h⟩ := hr
        show Zm w (d + 5) mX11_called 38 [some (aR (some (228))), some (aI (x1)), some (aI (x2)), some (aI (x3))] [aI (z7)] g6 P
        refine z_goto (tgt := 43) dX11_called_38 (by decide) ?_
        exact m_iret dX11_called_43 rfl h
