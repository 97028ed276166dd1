theorem dX11_nameOf_0 : decode cX11_nameOf 0 = .ok (.aload_n 0, 1) := by decide +kernel
theorem dX11_nameOf_1 : decode cX11_nameOf 1 = .ok (.iload_n 1, 1) := by decide +kernel
theorem dX11_nameOf_2 : decode cX11_nameOf 2 = .ok (.invokevirtual 232, 3) := by decide +kernel
theorem dX11_nameOf_5 : decode cX11_nameOf 5 = .ok (.iload_n 3, 1) := by decide +kernel
theorem dX11_nameOf_6 : decode cX11_nameOf 6 = .ok (.ifCond .ne 12, 3) := by decide +kernel
theorem dX11_nameOf_9 : decode cX11_nameOf 9 = .ok (.aload_n 0, 1) := by decide +kernel
theorem dX11_nameOf_10 : decode cX11_nameOf 10 = .ok (.getfield 52, 3) := by decide +kernel
theorem dX11_nameOf_13 : decode cX11_nameOf 13 = .ok (.iload_n 2, 1) := by decide +kernel
theorem dX11_nameOf_14 : decode cX11_nameOf 14 = .ok (.iaload, 1) := by decide +kernel
theorem dX11_nameOf_15 : decode cX11_nameOf 15 = .ok (.goto 23, 3) := by decide +kernel
theorem dX11_nameOf_18 : decode cX11_nameOf 18 = .ok (.iload_n 3, 1) := by decide +kernel
theorem dX11_nameOf_19 : decode cX11_nameOf 19 = .ok (.iconst 1, 1) := by decide +kernel
theorem dX11_nameOf_20 : decode cX11_nameOf 20 = .ok (.if_icmp .ne 12, 3) := by decide +kernel
theorem dX11_nameOf_23 : decode cX11_nameOf 23 = .ok (.aload_n 0, 1) := by decide +kernel
theorem dX11_nameOf_24 : decode cX11_nameOf 24 = .ok (.getfield 55, 3) := by decide +kernel
theorem dX11_nameOf_27 : decode cX11_nameOf 27 = .ok (.iload_n 2, 1) := by decide +kernel
theorem dX11_nameOf_28 : decode cX11_nameOf 28 = .ok (.iaload, 1) := by decide +kernel
theorem dX11_nameOf_29 : decode cX11_nameOf 29 = .ok (.goto 9, 3) := by decide +kernel
theorem dX11_nameOf_32 : decode cX11_nameOf 32 = .ok (.aload_n 0, 1) := by decide +kernel
theorem dX11_nameOf_33 : decode cX11_nameOf 33 = .ok (.getfield 58, 3) := by decide +kernel
theorem dX11_nameOf_36 : decode cX11_nameOf 36 = .ok (.iload_n 2, 1) := by decide +kernel
theorem dX11_nameOf_37 : decode cX11_nameOf 37 = .ok (.iaload, 1) := by decide +kernel
theorem dX11_nameOf_38 : decode cX11_nameOf 38 = .ok (.ireturn, 1) := by decide +kernel
set_option maxRecDepth 4000 in
theorem s_X11_nameOf_0 {w : GX} {d : Nat} {P : PN} {g : GI} (x1 : Int) (x2 : Int) (x3 : Int)
    (h : Zm w (d + 3) mX11_lives 0 [some (aR (some (228))), some (aI (x1)), none] [] g (fun r g1 => r = none ∧ ((¬ nm x3 = 0 → ((¬ nm x3 = nm 1 → (0 ≤ nm x2 ∧ nm x2 < 28 ∧ P (some (aI (g1 245 (nm x2).toNat))) g1)) ∧ (nm x3 = nm 1 → (0 ≤ nm x2 ∧ nm x2 < 28 ∧ P (some (aI (g1 244 (nm x2).toNat))) g1)))) ∧ (nm x3 = 0 → (0 ≤ nm x2 ∧ nm x2 < 28 ∧ P (some (aI (g1 243 (nm x2).toNat))) g1))))) :
    Zm w (d + 4) mX11_nameOf 0 [some (aR (some (228))), some (aI (x1)), some (aI (x2)), some (aI (x3))] [] g P := by
  refine z_aload_n dX11_nameOf_0 rfl rfl ?_
  refine z_iload_n dX11_nameOf_1 rfl rfl ?_
  refine m_callV (as := [aI (x1)]) dX11_nameOf_2 lk_X11_232 mok_X11_lives in_X11_lives sl_X11_lives kt_228 rfl rfl rfl (Nat.le_of_ble_eq_true rfl) rfl (Nat.le_of_ble_eq_true rfl) rfl (m_mono (fun r g1 hr => ?_) h)
  obtain ⟨rfl, h⟩ := hr
  show Zm w (d + 4) mX11_nameOf 5 [some (aR (some (228))), some (aI (x1)), some (aI (x2)), some (aI (x3))] [] g1 P
  refine z_iload_n dX11_nameOf_5 rfl rfl ?_
  refine z_if_ne (tgt := 18) dX11_nameOf_6 (by decide) (fun c3 => ?_) (fun c3 => ?_)
  · replace h := h.1 c3
    refine z_iload_n dX11_nameOf_18 rfl rfl ?_
    refine z_iconst dX11_nameOf_19 ?_
    refine z_icmp_ne (tgt := 32) dX11_nameOf_20 (by decide) (fun c4 => ?_) (fun c4 => ?_)
    · replace h := h.1 c4
      refine z_aload_n dX11_nameOf_32 rfl rfl ?_
      refine m_getR dX11_nameOf_33 fl_X11_58 (by decide) kt_228 rv_228_24 ?_
      refine z_iload_n dX11_nameOf_36 rfl rfl ?_
      obtain ⟨q7, q8, h⟩ := h
      refine m_iald dX11_nameOf_37 kv_245 q7 q8 ?_
      exact m_iret dX11_nameOf_38 rfl h
    · replace h := h.2 (Decidable.not_not.mp c4)
      refine z_aload_n dX11_nameOf_23 rfl rfl ?_
      refine m_getR dX11_nameOf_24 fl_X11_55 (by decide) kt_228 rv_228_23 ?_
      refine z_iload_n dX11_nameOf_27 rfl rfl ?_
      obtain ⟨q11, q12, h⟩ := h
      refine m_iald dX11_nameOf_28 kv_244 q11 q12 ?_
      refine z_goto (tgt := 38) dX11_nameOf_29 (by decide) ?_
      exact m_iret dX11_nameOf_38 rfl h
  · replace h := h.2 (Decidable.not_not.mp c3)
    refine z_aload_n dX11_nameOf_9 rfl rfl ?_
    refine m_getR dX11_nameOf_10 fl_X11_52 (by decide) kt_228 rv_228_22 ?_
    refine z_iload_n dX11_nameOf_13 rfl rfl ?_
    obtain ⟨q15, q16, h⟩ := h
    refine m_iald dX11_nameOf_14 kv_243 q15 q16 ?_
    refine z_goto (tgt := 38) dX11_nameOf_15 (by decide) ?_
    exact m_iret dX11_nameOf_38 rfl h
theorem dX11_name_0 : decode cX11_name 0 = .ok (.aload_n 0, 1) := by decide +kernel
theorem dX11_name_1 : decode cX11_name 1 = .ok (.invokevirtual 161, 3) := by decide +kernel
theorem dX11_name_4 : decode cX11_name 4 = .ok (.iload_n 1, 1) := by decide +kernel
theorem dX11_name_5 : decode cX11_name 5 = .ok (.invokestatic 172, 3) := by decide +kernel
theorem dX11_name_8 : decode cX11_name 8 = .ok (.ifCond .eq 41, 3) := by decide +kernel
theorem dX11_name_11 : decode cX11_name 11 = .ok (.iload_n 2, 1) := by decide +kernel
theorem dX11_name_12 : decode cX11_name 12 = .ok (.i2l, 1) := by decide +kernel
theorem dX11_name_13 : decode cX11_name 13 = .ok (.lconst 0, 1) := by decide +kernel
theorem dX11_name_14 : decode cX11_name 14 = .ok (.aload_n 0, 1) := by decide +kernel
theorem dX11_name_15 : decode cX11_name 15 = .ok (.invokevirtual 241, 3) := by decide +kernel
theorem dX11_name_18 : decode cX11_name 18 = .ok (.iconst 1, 1) := by decide +kernel
theorem dX11_name_19 : decode cX11_name 19 = .ok (.isub, 1) := by decide +kernel
theorem dX11_name_20 : decode cX11_name 20 = .ok (.i2l, 1) := by decide +kernel
theorem dX11_name_21 : decode cX11_name 21 = .ok (.invokestatic 88, 3) := by decide +kernel
theorem dX11_name_24 : decode cX11_name 24 = .ok (.ifCond .eq 25, 3) := by decide +kernel
theorem dX11_name_27 : decode cX11_name 27 = .ok (.iload_n 3, 1) := by decide +kernel
theorem dX11_name_28 : decode cX11_name 28 = .ok (.i2l, 1) := by decide +kernel
theorem dX11_name_29 : decode cX11_name 29 = .ok (.lconst 0, 1) := by decide +kernel
theorem dX11_name_30 : decode cX11_name 30 = .ok (.ldc2_w 101, 3) := by decide +kernel
theorem dX11_name_33 : decode cX11_name 33 = .ok (.invokestatic 88, 3) := by decide +kernel
theorem dX11_name_36 : decode cX11_name 36 = .ok (.ifCond .eq 13, 3) := by decide +kernel
theorem dX11_name_39 : decode cX11_name 39 = .ok (.aload_n 0, 1) := by decide +kernel
theorem dX11_name_40 : decode cX11_name 40 = .ok (.iload_n 1, 1) := by decide +kernel
theorem dX11_name_41 : decode cX11_name 41 = .ok (.iload_n 2, 1) := by decide +kernel
theorem dX11_name_42 : decode cX11_name 42 = .ok (.iload_n 3, 1) := by decide +kernel
theorem dX11_name_43 : decode cX11_name 43 = .ok (.invokevirtual 244, 3) := by decide +kernel
theorem dX11_name_46 : decode cX11_name 46 = .ok (.goto 5, 3) := by decide +kernel
theorem dX11_name_49 : decode cX11_name 49 = .ok (.bipush (-2), 2) := by decide +kernel
theorem dX11_name_51 : decode cX11_name 51 = .ok (.ireturn, 1) := by decide +kernel
set_option maxRecDepth 4000 in
theorem s_X11_name_0 {w : GX} {d : Nat} {P : PN} {g : GI} (x1 : Int) (x2 : Int) (x3 : Int)
    (h : Zm w (d + 4) mX11_reads 0 [some (aR (some (228)))] [] g (fun r g1 => r = none ∧ (((nm (inn (x1) 0 19) = 0 → P (some (aI ((-2)))) g1) ∧ (¬ nm (inn (x1) 0 19) = 0 → ((((nm (lin (nm x2) (0) (nm ((g1 228 12 + g1 228 10) - 1))) = 0 → P (some (aI ((-2)))) g1) ∧ (¬ nm (lin (nm x2) (0) (nm ((g1 228 12 + g1 228 10) - 1))) = 0 → (((nm (lin (nm x3) (0) (2)) = 0 → P (some (aI ((-2)))) g1) ∧ (¬ nm (lin (nm x3) (0) (2)) = 0 → Zm w (d + 4) mX11_nameOf 0 [some (aR (some (228))), some (aI (x1)), some (aI (x2)), some (aI (x3))] [] g1 (fun r g6 => ∃ z7 : Int, r = some (aI z7) ∧ P (some (aI (z7))) g6))))))))))))) :
    Zm w (d + 5) mX11_name 0 [some (aR (some (228))), some (aI (x1)), some (aI (x2)), some (aI (x3))] [] g P := by
  refine z_aload_n dX11_name_0 rfl rfl ?_
  refine m_callV (as := []) dX11_name_1 lk_X11_161 mok_X11_reads in_X11_reads sl_X11_reads kt_228 rfl rfl rfl (Nat.le_of_ble_eq_true rfl) rfl (Nat.le_of_ble_eq_true rfl) rfl (m_mono (fun r g1 hr => ?_) h)
  obtain ⟨rfl, h⟩ := hr
  show Zm w (d + 5) mX11_name 4 [some (aR (some (228))), some (aI (x1)), some (aI (x2)), some (aI (x3))] [] g1 P
  refine z_iload_n dX11_name_4 rfl rfl ?_
  refine m_callS (as := [aI (x1)]) dX11_name_5 lk_X11_172 mok_X11_isDay st_X11_isDay rfl (Nat.le_of_ble_eq_true rfl) rfl (Nat.le_of_ble_eq_true rfl) rfl (c_X11_isDay  ?_)
  show Zm w (d + 5) mX11_name 8 [some (aR (some (228))), some (aI (x1)), some (aI (x2)), some (aI (x3))] [aI (inn (x1) 0 19)] g1 P
  refine z_if_eq (tgt := 49) dX11_name_8 (by decide) (fun c3 => ?_) (fun c3 => ?_)
  · replace h := h.1 c3
    refine z_bipush dX11_name_49 rfl ?_
    exact m_iret dX11_name_51 rfl h
  · replace h := h.2 c3
    refine z_iload_n dX11_name_11 rfl rfl ?_
    refine z_i2l dX11_name_12 ?_
    refine z_lconst (z := 0) dX11_name_13 rfl ?_
    refine z_aload_n dX11_name_14 rfl rfl ?_
    refine m_callV (as := []) dX11_name_15 lk_X11_241 mok_X11_names in_X11_names sl_X11_names kt_228 rfl rfl rfl (Nat.le_of_ble_eq_true rfl) rfl (Nat.le_of_ble_eq_true rfl) rfl (c_X11_names  ?_)
    show Zm w (d + 5) mX11_name 18 [some (aR (some (228))), some (aI (x1)), some (aI (x2)), some (aI (x3))] [aI (g1 228 12 + g1 228 10), aL (0), aL (nm x2)] g1 P
    refine z_iconst dX11_name_18 ?_
    refine z_isub dX11_name_19 ?_
    refine z_i2l dX11_name_20 ?_
    refine m_callS (as := [aL (nm x2), aL (0), aL (nm ((g1 228 12 + g1 228 10) - 1))]) dX11_name_21 lk_X11_88 mok_X11_in st_X11_in rfl (Nat.le_of_ble_eq_true rfl) rfl (Nat.le_of_ble_eq_true rfl) rfl (c_X11_in  ?_)
    show Zm w (d + 5) mX11_name 24 [some (aR (some (228))), some (aI (x1)), some (aI (x2)), some (aI (x3))] [aI (lin (nm x2) (0) (nm ((g1 228 12 + g1 228 10) - 1)))] g1 P
    refine z_if_eq (tgt := 49) dX11_name_24 (by decide) (fun c4 => ?_) (fun c4 => ?_)
    · replace h := h.1 c4
      refine z_bipush dX11_name_49 rfl ?_
      exact m_iret dX11_name_51 rfl h
    · replace h := h.2 c4
      refine z_iload_n dX11_name_27 rfl rfl ?_
      refine z_i2l dX11_name_28 ?_
      refine z_lconst (z := 0) dX11_name_29 rfl ?_
      refine z_ldc2 dX11_name_30 kl_X11_101 ?_
      refine m_callS (as := [aL (nm x3), aL (0), aL (2)]) dX11_name_33 lk_X11_88 mok_X11_in st_X11_in rfl (Nat.le_of_ble_eq_true rfl) rfl (Nat.le_of_ble_eq_true rfl) rfl (c_X11_in  ?_)
      show Zm w (d + 5) mX11_name 36 [some (aR (some (228))), some (aI (x1)), some (aI (x2)), some (aI (x3))] [aI (lin (nm x3) (0) (2))] g1 P
      refine z_if_eq (tgt := 49) dX11_name_36 (by decide) (fun c5 => ?_) (fun c5 => ?_)
      · replace h := h.1 c5
        refine z_bipush dX11_name_49 rfl ?_
        exact m_iret dX11_name_51 rfl h
      · replace h := h.2 c5
        refine z_aload_n dX11_name_39 rfl rfl ?_
        refine z_iload_n dX11_name_40 rfl rfl ?_
        refine z_iload_n dX11_name_41 rfl rfl ?_
        refine z_iload_n dX11_name_42 rfl rfl ?_
        refine m_callV (as := [aI (x1), aI (x2), aI (x3)]) dX11_name_43 lk_X11_244 mok_X11_nameOf in_X11_nameOf sl_X11_nameOf kt_228 rfl rfl rfl (Nat.le_of_ble_eq_true rfl) rfl (Nat.le_of_ble_eq_true rfl) rfl (m_mono (fun r g6 hr => ?_) h)
        obtain ⟨z7, rfl, h⟩ := hr
        show Zm w (d + 5) mX11_name 46 [some (aR (some (228))), some (aI (x1)), some (aI (x2)), some (aI (x3))] [aI (z7)] g6 P
        refine z_goto (tgt := 51) dX11_name_46 (by decide) ?_
        exact m_iret dX11_name_51 rfl h
theorem dX11_sameNow_0 : decode cX11_sameNow 0 = .ok (.iconst 0, 1) := by decide +kernel
theorem dX11_sameNow_1 : decode cX11_sameNow 1 = .ok (.istore_n 2, 1) := by decide +kernel
theorem dX11_sameNow_2 : decode cX11_sameNow 2 = .ok (.iconst (-1), 1) := by decide +kernel
theorem dX11_sameNow_3 : decode cX11_sameNow 3 = .ok (.istore_n 3, 1) := by decide +kernel
theorem dX11_sameNow_4 : decode cX11_sameNow 4 = .ok (.iconst 0, 1) := by decide +kernel
theorem dX11_sameNow_5 : decode cX11_sameNow 5 = .ok (.istore 4, 2) := by decide +kernel
theorem dX11_sameNow_7 : decode cX11_sameNow 7 = .ok (.iload 4, 2) := by decide +kernel
theorem dX11_sameNow_9 : decode cX11_sameNow 9 = .ok (.aload_n 0, 1) := by decide +kernel
theorem dX11_sameNow_10 : decode cX11_sameNow 10 = .ok (.getfield 140, 3) := by decide +kernel
theorem dX11_sameNow_13 : decode cX11_sameNow 13 = .ok (.if_icmp .ge 77, 3) := by decide +kernel
theorem dX11_sameNow_16 : decode cX11_sameNow 16 = .ok (.iload 4, 2) := by decide +kernel
theorem dX11_sameNow_18 : decode cX11_sameNow 18 = .ok (.iconst 1, 1) := by decide +kernel
theorem dX11_sameNow_19 : decode cX11_sameNow 19 = .ok (.iadd, 1) := by decide +kernel
theorem dX11_sameNow_20 : decode cX11_sameNow 20 = .ok (.istore 5, 2) := by decide +kernel
theorem dX11_sameNow_22 : decode cX11_sameNow 22 = .ok (.iload 5, 2) := by decide +kernel
theorem dX11_sameNow_24 : decode cX11_sameNow 24 = .ok (.aload_n 0, 1) := by decide +kernel
theorem dX11_sameNow_25 : decode cX11_sameNow 25 = .ok (.getfield 140, 3) := by decide +kernel
theorem dX11_sameNow_28 : decode cX11_sameNow 28 = .ok (.if_icmp .ge 56, 3) := by decide +kernel
theorem dX11_sameNow_31 : decode cX11_sameNow 31 = .ok (.aload_n 0, 1) := by decide +kernel
theorem dX11_sameNow_32 : decode cX11_sameNow 32 = .ok (.getfield 58, 3) := by decide +kernel
theorem dX11_sameNow_35 : decode cX11_sameNow 35 = .ok (.aload_n 0, 1) := by decide +kernel
theorem dX11_sameNow_36 : decode cX11_sameNow 36 = .ok (.getfield 61, 3) := by decide +kernel
theorem dX11_sameNow_39 : decode cX11_sameNow 39 = .ok (.iload 4, 2) := by decide +kernel
theorem dX11_sameNow_41 : decode cX11_sameNow 41 = .ok (.iaload, 1) := by decide +kernel
theorem dX11_sameNow_42 : decode cX11_sameNow 42 = .ok (.iaload, 1) := by decide +kernel
theorem dX11_sameNow_43 : decode cX11_sameNow 43 = .ok (.aload_n 0, 1) := by decide +kernel
theorem dX11_sameNow_44 : decode cX11_sameNow 44 = .ok (.getfield 58, 3) := by decide +kernel
theorem dX11_sameNow_47 : decode cX11_sameNow 47 = .ok (.aload_n 0, 1) := by decide +kernel
theorem dX11_sameNow_48 : decode cX11_sameNow 48 = .ok (.getfield 61, 3) := by decide +kernel
theorem dX11_sameNow_51 : decode cX11_sameNow 51 = .ok (.iload 5, 2) := by decide +kernel
theorem dX11_sameNow_53 : decode cX11_sameNow 53 = .ok (.iaload, 1) := by decide +kernel
theorem dX11_sameNow_54 : decode cX11_sameNow 54 = .ok (.iaload, 1) := by decide +kernel
theorem dX11_sameNow_55 : decode cX11_sameNow 55 = .ok (.if_icmp .ne 23, 3) := by decide +kernel
theorem dX11_sameNow_58 : decode cX11_sameNow 58 = .ok (.iload_n 2, 1) := by decide +kernel
theorem dX11_sameNow_59 : decode cX11_sameNow 59 = .ok (.ifCond .ne 14, 3) := by decide +kernel
theorem dX11_sameNow_62 : decode cX11_sameNow 62 = .ok (.bipush 8, 2) := by decide +kernel
theorem dX11_sameNow_64 : decode cX11_sameNow 64 = .ok (.iload 4, 2) := by decide +kernel
theorem dX11_sameNow_66 : decode cX11_sameNow 66 = .ok (.imul, 1) := by decide +kernel
theorem dX11_sameNow_67 : decode cX11_sameNow 67 = .ok (.iload 5, 2) := by decide +kernel
theorem dX11_sameNow_69 : decode cX11_sameNow 69 = .ok (.iadd, 1) := by decide +kernel
theorem dX11_sameNow_70 : decode cX11_sameNow 70 = .ok (.goto 4, 3) := by decide +kernel
theorem dX11_sameNow_73 : decode cX11_sameNow 73 = .ok (.iload_n 3, 1) := by decide +kernel
theorem dX11_sameNow_74 : decode cX11_sameNow 74 = .ok (.istore_n 3, 1) := by decide +kernel
theorem dX11_sameNow_75 : decode cX11_sameNow 75 = .ok (.iinc 2 1, 3) := by decide +kernel
theorem dX11_sameNow_78 : decode cX11_sameNow 78 = .ok (.iinc 5 1, 3) := by decide +kernel
theorem dX11_sameNow_81 : decode cX11_sameNow 81 = .ok (.goto (-59), 3) := by decide +kernel
theorem dX11_sameNow_84 : decode cX11_sameNow 84 = .ok (.iinc 4 1, 3) := by decide +kernel
theorem dX11_sameNow_87 : decode cX11_sameNow 87 = .ok (.goto (-80), 3) := by decide +kernel
theorem dX11_sameNow_90 : decode cX11_sameNow 90 = .ok (.iload_n 1, 1) := by decide +kernel
theorem dX11_sameNow_91 : decode cX11_sameNow 91 = .ok (.ifCond .ne 7, 3) := by decide +kernel
theorem dX11_sameNow_94 : decode cX11_sameNow 94 = .ok (.iload_n 2, 1) := by decide +kernel
theorem dX11_sameNow_95 : decode cX11_sameNow 95 = .ok (.goto 4, 3) := by decide +kernel
theorem dX11_sameNow_98 : decode cX11_sameNow 98 = .ok (.iload_n 3, 1) := by decide +kernel
theorem dX11_sameNow_99 : decode cX11_sameNow 99 = .ok (.ireturn, 1) := by decide +kernel
set_option maxRecDepth 4000 in
theorem s_X11_sameNow_0 {w : GX} {d : Nat} {P : PN} {g : GI} (x1 : Int)
    (h : (∀ v1 : Int, v1 = (-1) → Zm w d mX11_sameNow 7 [some (aR (some (228))), some (aI (x1)), some (aI (0)), some (aI (v1)), some (aI (0)), none] [] g P)) :
    Zm w d mX11_sameNow 0 [some (aR (some (228))), some (aI (x1)), none, none, none, none] [] g P := by
  refine z_iconst dX11_sameNow_0 ?_
  refine z_istore_n dX11_sameNow_1 rfl (by decide) rfl ?_
  show Zm w d mX11_sameNow 2 [some (aR (some (228))), some (aI (x1)), some (aI (0)), none, none, none] [] g P
  refine z_iconst dX11_sameNow_2 ?_
  replace h := h _ rfl
  refine z_istore_n dX11_sameNow_3 rfl (by decide) rfl ?_
  show Zm w d mX11_sameNow 4 [some (aR (some (228))), some (aI (x1)), some (aI (0)), some (aI ((-1))), none, none] [] g P
  refine z_iconst dX11_sameNow_4 ?_
  refine z_istore dX11_sameNow_5 (by decide) rfl ?_
  show Zm w d mX11_sameNow 7 [some (aR (some (228))), some (aI (x1)), some (aI (0)), some (aI (((-1)))), some (aI (0)), none] [] g P
  exact z_weak (by simp [lle]) h
set_option maxRecDepth 4000 in
theorem s_X11_sameNow_7 {w : GX} {d : Nat} {P : PN} {g : GI} (x1 : Int) (x2 : Int) (x3 : Int) (x4 : Int)
    (h : ((¬ nm x4 < nm (g 228 10) → ((¬ nm x1 = 0 → P (some (aI (x3))) g) ∧ (nm x1 = 0 → P (some (aI (x2))) g))) ∧ (nm x4 < nm (g 228 10) → (∀ v3 : Int, v3 = x4 + 1 → Zm w d mX11_sameNow 22 [some (aR (some (228))), some (aI (x1)), some (aI (x2)), some (aI (x3)), some (aI (x4)), some (aI (v3))] [] g P)))) :
    Zm w d mX11_sameNow 7 [some (aR (some (228))), some (aI (x1)), some (aI (x2)), some (aI (x3)), some (aI (x4)), none] [] g P := by
  refine z_iload dX11_sameNow_7 rfl ?_
  refine z_aload_n dX11_sameNow_9 rfl rfl ?_
  refine z_getI dX11_sameNow_10 fl_X11_140 (by decide) kt_228 ?_
  refine z_icmp_ge (tgt := 90) dX11_sameNow_13 (by decide) (fun c1 => ?_) (fun c1 => ?_)
  · replace h := h.1 c1
    refine z_iload_n dX11_sameNow_90 rfl rfl ?_
    refine z_if_ne (tgt := 98) dX11_sameNow_91 (by decide) (fun c2 => ?_) (fun c2 => ?_)
    · replace h := h.1 c2
      refine z_iload_n dX11_sameNow_98 rfl rfl ?_
      exact m_iret dX11_sameNow_99 rfl h
    · replace h := h.2 (Decidable.not_not.mp c2)
      refine z_iload_n dX11_sameNow_94 rfl rfl ?_
      refine z_goto (tgt := 99) dX11_sameNow_95 (by decide) ?_
      exact m_iret dX11_sameNow_99 rfl h
  · replace h := h.2 (Decidable.not_not.mp c1)
    refine z_iload dX11_sameNow_16 rfl ?_
    refine z_iconst dX11_sameNow_18 ?_
    refine z_iadd dX11_sameNow_19 ?_
    replace h := h _ rfl
    refine z_istore dX11_sameNow_20 (by decide) rfl ?_
    show Zm w d mX11_sameNow 22 [some (aR (some (228))), some (aI (x1)), some (aI (x2)), some (aI (x3)), some (aI (x4)), some (aI (x4 + 1))] [] g P
    exact z_weak (by simp [lle]) h
set_option maxRecDepth 4000 in
theorem s_X11_sameNow_22 {w : GX} {d : Nat} {P : PN} {g : GI} (x1 : Int) (x2 : Int) (x3 : Int) (x4 : Int) (x5 : Int)
    (h : ((¬ nm x5 < nm (g 228 10) → Zm w d mX11_sameNow 7 [some (aR (some (228))), some (aI (x1)), some (aI (x2)), some (aI (x3)), some (aI (x4 + 1)), none] [] g P) ∧ (nm x5 < nm (g 228 10) → (0 ≤ nm x4 ∧ nm x4 < 8 ∧ (0 ≤ nm (g 246 (nm x4).toNat) ∧ nm (g 246 (nm x4).toNat) < 28 ∧ (0 ≤ nm x5 ∧ nm x5 < 8 ∧ (0 ≤ nm (g 246 (nm x5).toNat) ∧ nm (g 246 (nm x5).toNat) < 28 ∧ ((¬ nm (g 245 (nm (g 246 (nm x4).toNat)).toNat) = nm (g 245 (nm (g 246 (nm x5).toNat)).toNat) → Zm w d mX11_sameNow 22 [some (aR (some (228))), some (aI (x1)), some (aI (x2)), some (aI (x3)), some (aI (x4)), some (aI (x5 + 1))] [] g P) ∧ (nm (g 245 (nm (g 246 (nm x4).toNat)).toNat) = nm (g 245 (nm (g 246 (nm x5).toNat)).toNat) → ((¬ nm x2 = 0 → Zm w d mX11_sameNow 22 [some (aR (some (228))), some (aI (x1)), some (aI (x2 + 1)), some (aI (x3)), some (aI (x4)), some (aI (x5 + 1))] [] g P) ∧ (nm x2 = 0 → (∀ v20 : Int, v20 = (8 * x4) + x5 → Zm w d mX11_sameNow 22 [some (aR (some (228))), some (aI (x1)), some (aI (x2 + 1)), some (aI (v20)), some (aI (x4)), some (aI (x5 + 1))] [] g P)))))))))))) :
    Zm w d mX11_sameNow 22 [some (aR (some (228))), some (aI (x1)), some (aI (x2)), some (aI (x3)), some (aI (x4)), some (aI (x5))] [] g P := by
  refine z_iload dX11_sameNow_22 rfl ?_
  refine z_aload_n dX11_sameNow_24 rfl rfl ?_
  refine z_getI dX11_sameNow_25 fl_X11_140 (by decide) kt_228 ?_
  refine z_icmp_ge (tgt := 84) dX11_sameNow_28 (by decide) (fun c1 => ?_) (fun c1 => ?_)
  · replace h := h.1 c1
    refine z_iinc dX11_sameNow_84 rfl (by decide) rfl ?_
    show Zm w d mX11_sameNow 87 [some (aR (some (228))), some (aI (x1)), some (aI (x2)), some (aI (x3)), some (aI (x4 + 1)), some (aI (x5))] [] g P
    refine z_goto (tgt := 7) dX11_sameNow_87 (by decide) ?_
    exact z_weak (by simp [lle]) h
  · replace h := h.2 (Decidable.not_not.mp c1)
    refine z_aload_n dX11_sameNow_31 rfl rfl ?_
    refine m_getR dX11_sameNow_32 fl_X11_58 (by decide) kt_228 rv_228_24 ?_
    refine z_aload_n dX11_sameNow_35 rfl rfl ?_
    refine m_getR dX11_sameNow_36 fl_X11_61 (by decide) kt_228 rv_228_25 ?_
    refine z_iload dX11_sameNow_39 rfl ?_
    obtain ⟨q4, q5, h⟩ := h
    refine m_iald dX11_sameNow_41 kv_246 q4 q5 ?_
    obtain ⟨q8, q9, h⟩ := h
    refine m_iald dX11_sameNow_42 kv_245 q8 q9 ?_
    refine z_aload_n dX11_sameNow_43 rfl rfl ?_
    refine m_getR dX11_sameNow_44 fl_X11_58 (by decide) kt_228 rv_228_24 ?_
    refine z_aload_n dX11_sameNow_47 rfl rfl ?_
    refine m_getR dX11_sameNow_48 fl_X11_61 (by decide) kt_228 rv_228_25 ?_
    refine z_iload dX11_sameNow_51 rfl ?_
    obtain ⟨q12, q13, h⟩ := h
    refine m_iald dX11_sameNow_53 kv_246 q12 q13 ?_
    obtain ⟨q16, q17, h⟩ := h
    refine m_iald dX11_sameNow_54 kv_245 q16 q17 ?_
    refine z_icmp_ne (tgt := 78) dX11_sameNow_55 (by decide) (fun c18 => ?_) (fun c18 => ?_)
    · replace h := h.1 c18
      refine z_iinc dX11_sameNow_78 rfl (by decide) rfl ?_
      show Zm w d mX11_sameNow 81 [some (aR (some (228))), some (aI (x1)), some (aI (x2)), some (aI (x3)), some (aI (x4)), some (aI (x5 + 1))] [] g P
      refine z_goto (tgt := 22) dX11_sameNow_81 (by decide) ?_
      exact z_weak (by simp [lle]) h
    · replace h := h.2 (Decidable.not_not.mp c18)
      refine z_iload_n dX11_sameNow_58 rfl rfl ?_
      refine z_if_ne (tgt := 73) dX11_sameNow_59 (by decide) (fun c19 => ?_) (fun c19 => ?_)
      · replace h := h.1 c19
        refine z_iload_n dX11_sameNow_73 rfl rfl ?_
        refine z_istore_n dX11_sameNow_74 rfl (by decide) rfl ?_
        show Zm w d mX11_sameNow 75 [some (aR (some (228))), some (aI (x1)), some (aI (x2)), some (aI (x3)), some (aI (x4)), some (aI (x5))] [] g P
        refine z_iinc dX11_sameNow_75 rfl (by decide) rfl ?_
        show Zm w d mX11_sameNow 78 [some (aR (some (228))), some (aI (x1)), some (aI (x2 + 1)), some (aI (x3)), some (aI (x4)), some (aI (x5))] [] g P
        refine z_iinc dX11_sameNow_78 rfl (by decide) rfl ?_
        show Zm w d mX11_sameNow 81 [some (aR (some (228))), some (aI (x1)), some (aI (x2 + 1)), some (aI (x3)), some (aI (x4)), some (aI (x5 + 1))] [] g P
        refine z_goto (tgt := 22) dX11_sameNow_81 (by decide) ?_
        exact z_weak (by simp [lle]) h
      · replace h := h.2 (Decidable.not_not.mp c19)
        refine z_bipush dX11_sameNow_62 rfl ?_
        refine z_iload dX11_sameNow_64 rfl ?_
        refine z_imul dX11_sameNow_66 ?_
        refine z_iload dX11_sameNow_67 rfl ?_
        refine z_iadd dX11_sameNow_69 ?_
        refine z_goto (tgt := 74) dX11_sameNow_70 (by decide) ?_
        replace h := h _ rfl
        refine z_istore_n dX11_sameNow_74 rfl (by decide) rfl ?_
        show Zm w d mX11_sameNow 75 [some (aR (some (228))), some (aI (x1)), some (aI (x2)), some (aI ((8 * x4) + x5)), some (aI (x4)), some (aI (x5))] [] g P
        refine z_iinc dX11_sameNow_75 rfl (by decide) rfl ?_
        show Zm w d mX11_sameNow 78 [some (aR (some (228))), some (aI (x1)), some (aI (x2 + 1)), some (aI (((8 * x4) + x5))), some (aI (x4)), some (aI (x5))] [] g P
        refine z_iinc dX11_sameNow_78 rfl (by decide) rfl ?_
        show Zm w d mX11_sameNow 81 [some (aR (some (228))), some (aI (x1)), some (aI (x2 + 1)), some (aI (((8 * x4) + x5))), some (aI (x4)), some (aI (x5 + 1))] [] g P
        refine z_goto (tgt := 22) dX11_sameNow_81 (by decide) ?_
        exact z_weak (by simp [lle]) h
theorem dX11_sameOf_0 : decode cX11_sameOf 0 = .ok (.aload_n 0, 1) := by decide +kernel
theorem dX11_sameOf_1 : decode cX11_sameOf 1 = .ok (.iload_n 1, 1) := by decide +kernel
theorem dX11_sameOf_2 : decode cX11_sameOf 2 = .ok (.invokevirtual 232, 3) := by decide +kernel
theorem dX11_sameOf_5 : decode cX11_sameOf 5 = .ok (.aload_n 0, 1) := by decide +kernel
theorem dX11_sameOf_6 : decode cX11_sameOf 6 = .ok (.iconst 0, 1) := by decide +kernel
theorem dX11_sameOf_7 : decode cX11_sameOf 7 = .ok (.invokevirtual 247, 3) := by decide +kernel
theorem dX11_sameOf_10 : decode cX11_sameOf 10 = .ok (.ireturn, 1) := by decide +kernel
set_option maxRecDepth 4000 in
theorem s_X11_sameOf_0 {w : GX} {d : Nat} {P : PN} {g : GI} (x1 : Int)
    (h : Zm w (d + 3) mX11_lives 0 [some (aR (some (228))), some (aI (x1)), none] [] g (fun r g1 => r = none ∧ Zm w (d + 3) mX11_sameNow 0 [some (aR (some (228))), some (aI (0)), none, none, none, none] [] g1 (fun r g3 => ∃ z4 : Int, r = some (aI z4) ∧ P (some (aI (z4))) g3))) :
    Zm w (d + 4) mX11_sameOf 0 [some (aR (some (228))), some (aI (x1))] [] g P := by
  refine z_aload_n dX11_sameOf_0 rfl rfl ?_
  refine z_iload_n dX11_sameOf_1 rfl rfl ?_
  refine m_callV (as := [aI (x1)]) dX11_sameOf_2 lk_X11_232 mok_X11_lives in_X11_lives sl_X11_lives kt_228 rfl rfl rfl (Nat.le_of_ble_eq_true rfl) rfl (Nat.le_of_ble_eq_true rfl) rfl (m_mono (fun r g1 hr => ?_) h)
  obtain ⟨rfl, h⟩ := hr
  show Zm w (d + 4) mX11_sameOf 5 [some (aR (some (228))), some (aI (x1))] [] g1 P
  refine z_aload_n dX11_sameOf_5 rfl rfl ?_
  refine z_iconst dX11_sameOf_6 ?_
  refine m_callV (as := [aI (0)]) dX11_sameOf_7 lk_X11_247 mok_X11_sameNow in_X11_sameNow sl_X11_sameNow kt_228 rfl rfl rfl (Nat.le_of_ble_eq_true rfl) rfl (Nat.le_of_ble_eq_true rfl) rfl (m_mono (fun r g3 hr => ?_) h)
  obtain ⟨z4, rfl, h⟩ := hr
  show Zm w (d + 4) mX11_sameOf 10 [some (aR (some (228))), some (aI (x1))] [aI (z4)] g3 P
  exact m_iret dX11_sameOf_10 rfl h
theorem dX11_same_0 : decode cX11_same 0 = .ok (.aload_n 0, 1) := by decide +kernel
theorem dX11_same_1 : decode cX11_same 1 = .ok (.invokevirtual 161, 3) := by decide +kernel
theorem dX11_same_4 : decode cX11_same 4 = .ok (.iload_n 1, 1) := by decide +kernel
theorem dX11_same_5 : decode cX11_same 5 = .ok (.invokestatic 172, 3) := by decide +kernel
theorem dX11_same_8 : decode cX11_same 8 = .ok (.ifCond .eq 11, 3) := by decide +kernel
theorem dX11_same_11 : decode cX11_same 11 = .ok (.aload_n 0, 1) := by decide +kernel
theorem dX11_same_12 : decode cX11_same 12 = .ok (.iload_n 1, 1) := by decide +kernel
theorem dX11_same_13 : decode cX11_same 13 = .ok (.invokevirtual 250, 3) := by decide +kernel
theorem dX11_same_16 : decode cX11_same 16 = .ok (.goto 5, 3) := by decide +kernel
theorem dX11_same_19 : decode cX11_same 19 = .ok (.bipush (-2), 2) := by decide +kernel
theorem dX11_same_21 : decode cX11_same 21 = .ok (.ireturn, 1) := by decide +kernel
set_option maxRecDepth 4000 in
theorem s_X11_same_0 {w : GX} {d : Nat} {P : PN} {g : GI} (x1 : Int)
    (h : Zm w (d + 4) mX11_reads 0 [some (aR (some (228)))] [] g (fun r g1 => r = none ∧ (((nm (inn (x1) 0 19) = 0 → P (some (aI ((-2)))) g1) ∧ (¬ nm (inn (x1) 0 19) = 0 → Zm w (d + 4) mX11_sameOf 0 [some (aR (some (228))), some (aI (x1))] [] g1 (fun r g4 => ∃ z5 : Int, r = some (aI z5) ∧ P (some (aI (z5))) g4)))))) :
    Zm w (d + 5) mX11_same 0 [some (aR (some (228))), some (aI (x1))] [] g P := by
  refine z_aload_n dX11_same_0 rfl rfl ?_
  refine m_callV (as := []) dX11_same_1 lk_X11_161 mok_X11_reads in_X11_reads sl_X11_reads kt_228 rfl rfl rfl (Nat.le_of_ble_eq_true rfl) rfl (Nat.le_of_ble_eq_true rfl) rfl (m_mono (fun r g1 hr => ?_) h)
  obtain ⟨rfl, h⟩ := hr
  show Zm w (d + 5) mX11_same 4 [some (aR (some (228))), some (aI (x1))] [] g1 P
  refine z_iload_n dX11_same_4 rfl rfl ?_
  refine m_callS (as := [aI (x1)]) dX11_same_5 lk_X11_172 mok_X11_isDay st_X11_isDay rfl (Nat.le_of_ble_eq_true rfl) rfl (Nat.le_of_ble_eq_true rfl) rfl (c_X11_isDay  ?_)
  show Zm w (d + 5) mX11_same 8 [some (aR (some (228))), some (aI (x1))] [aI (inn (x1) 0 19)] g1 P
  refine z_if_eq (tgt := 19) dX11_same_8 (by decide) (fun c3 => ?_) (fun c3 => ?_)
  · replace h := h.1 c3
    refine z_bipush dX11_same_19 rfl ?_
    exact m_iret dX11_same_21 rfl h
  · replace h := h.2 c3
    refine z_aload_n dX11_same_11 rfl rfl ?_
    refine z_iload_n dX11_same_12 rfl rfl ?_
    refine m_callV (as := [aI (x1)]) dX11_same_13 lk_X11_250 mok_X11_sameOf in_X11_sameOf sl_X11_sameOf kt_228 rfl rfl rfl (Nat.le_of_ble_eq_true rfl) rfl (Nat.le_of_ble_eq_true rfl) rfl (m_mono (fun r g4 hr => ?_) h)
    obtain ⟨z5, rfl, h⟩ := hr
    show Zm w (d + 5) mX11_same 16 [some (aR (some (228))), some (aI (x1))] [aI (z5)] g4 P
    refine z_goto (tgt := 21) dX11_same_16 (by decide) ?_
    exact m_iret dX11_same_21 rfl h
theorem dX11_firstOf_0 : decode cX11_firstOf 0 = .ok (.aload_n 0, 1) := by decide +kernel
theorem dX11_firstOf_1 : decode cX11_firstOf 1 = .ok (.invokevirtual 220, 3) := by decide +kernel
theorem dX11_firstOf_4 : decode cX11_firstOf 4 = .ok (.iconst 0, 1) := by decide +kernel
theorem dX11_firstOf_5 : decode cX11_firstOf 5 = .ok (.istore_n 2, 1) := by decide +kernel
theorem dX11_firstOf_6 : decode cX11_firstOf 6 = .ok (.iload_n 2, 1) := by decide +kernel
theorem dX11_firstOf_7 : decode cX11_firstOf 7 = .ok (.bipush 20, 2) := by decide +kernel
theorem dX11_firstOf_9 : decode cX11_firstOf 9 = .ok (.if_icmp .ge 36, 3) := by decide +kernel
theorem dX11_firstOf_12 : decode cX11_firstOf 12 = .ok (.aload_n 0, 1) := by decide +kernel
theorem dX11_firstOf_13 : decode cX11_firstOf 13 = .ok (.iload_n 2, 1) := by decide +kernel
theorem dX11_firstOf_14 : decode cX11_firstOf 14 = .ok (.invokevirtual 223, 3) := by decide +kernel
theorem dX11_firstOf_17 : decode cX11_firstOf 17 = .ok (.aload_n 0, 1) := by decide +kernel
theorem dX11_firstOf_18 : decode cX11_firstOf 18 = .ok (.iconst 0, 1) := by decide +kernel
theorem dX11_firstOf_19 : decode cX11_firstOf 19 = .ok (.invokevirtual 247, 3) := by decide +kernel
theorem dX11_firstOf_22 : decode cX11_firstOf 22 = .ok (.ifCond .le 17, 3) := by decide +kernel
theorem dX11_firstOf_25 : decode cX11_firstOf 25 = .ok (.iload_n 1, 1) := by decide +kernel
theorem dX11_firstOf_26 : decode cX11_firstOf 26 = .ok (.ifCond .ne 7, 3) := by decide +kernel
theorem dX11_firstOf_29 : decode cX11_firstOf 29 = .ok (.iload_n 2, 1) := by decide +kernel
theorem dX11_firstOf_30 : decode cX11_firstOf 30 = .ok (.goto 8, 3) := by decide +kernel
theorem dX11_firstOf_33 : decode cX11_firstOf 33 = .ok (.aload_n 0, 1) := by decide +kernel
theorem dX11_firstOf_34 : decode cX11_firstOf 34 = .ok (.iconst 1, 1) := by decide +kernel
theorem dX11_firstOf_35 : decode cX11_firstOf 35 = .ok (.invokevirtual 247, 3) := by decide +kernel
theorem dX11_firstOf_38 : decode cX11_firstOf 38 = .ok (.ireturn, 1) := by decide +kernel
theorem dX11_firstOf_39 : decode cX11_firstOf 39 = .ok (.iinc 2 1, 3) := by decide +kernel
theorem dX11_firstOf_42 : decode cX11_firstOf 42 = .ok (.goto (-36), 3) := by decide +kernel
theorem dX11_firstOf_45 : decode cX11_firstOf 45 = .ok (.iconst (-1), 1) := by decide +kernel
theorem dX11_firstOf_46 : decode cX11_firstOf 46 = .ok (.ireturn, 1) := by decide +kernel
set_option maxRecDepth 4000 in
theorem s_X11_firstOf_0 {w : GX} {d : Nat} {P : PN} {g : GI} (x1 : Int)
    (h : Zm w (d + 2) mX11_begins 0 [some (aR (some (228))), none, none] [] g (fun r g1 => r = none ∧ Zm w (d + 3) mX11_firstOf 6 [some (aR (some (228))), some (aI (x1)), some (aI (0))] [] g1 P)) :
    Zm w (d + 3) mX11_firstOf 0 [some (aR (some (228))), some (aI (x1)), none] [] g P := by
  refine z_aload_n dX11_firstOf_0 rfl rfl ?_
  refine m_callV (as := []) dX11_firstOf_1 lk_X11_220 mok_X11_begins in_X11_begins sl_X11_begins kt_228 rfl rfl rfl (Nat.le_of_ble_eq_true rfl) rfl (Nat.le_of_ble_eq_true rfl) rfl (m_mono (fun r g1 hr => ?_) h)
  obtain ⟨rfl, h⟩ := hr
  show Zm w (d + 3) mX11_firstOf 4 [some (aR (some (228))), some (aI (x1)), none] [] g1 P
  refine z_iconst dX11_firstOf_4 ?_
  refine z_istore_n dX11_firstOf_5 rfl (by decide) rfl ?_
  show Zm w (d + 3) mX11_firstOf 6 [some (aR (some (228))), some (aI (x1)), some (aI (0))] [] g1 P
  exact z_weak (by simp [lle]) h
set_option maxRecDepth 4000 in
theorem s_X11_firstOf_6 {w : GX} {d : Nat} {P : PN} {g : GI} (x1 : Int) (x2 : Int)
    (h : ((¬ nm x2 < nm 20 → P (some (aI ((-1)))) g) ∧ (nm x2 < nm 20 → Zm w (d + 2) mX11_day 0 [some (aR (some (228))), some (aI (x2)), none, none] [] g (fun r g2 => r = none ∧ Zm w (d + 2) mX11_sameNow 0 [some (aR (some (228))), some (aI (0)), none, none, none, none] [] g2 (fun r g4 => ∃ z5 : Int, r = some (aI z5) ∧ ((¬ 0 < nm z5 → Zm w (d + 3) mX11_firstOf 6 [some (aR (some (228))), some (aI (x1)), some (aI (x2 + 1))] [] g4 P) ∧ (0 < nm z5 → ((¬ nm x1 = 0 → Zm w (d + 2) mX11_sameNow 0 [some (aR (some (228))), some (aI (1)), none, none, none, none] [] g4 (fun r g8 => ∃ z9 : Int, r = some (aI z9) ∧ P (some (aI (z9))) g8)) ∧ (nm x1 = 0 → P (some (aI (x2))) g4))))))))) :
    Zm w (d + 3) mX11_firstOf 6 [some (aR (some (228))), some (aI (x1)), some (aI (x2))] [] g P := by
  refine z_iload_n dX11_firstOf_6 rfl rfl ?_
  refine z_bipush dX11_firstOf_7 rfl ?_
  refine z_icmp_ge (tgt := 45) dX11_firstOf_9 (by decide) (fun c1 => ?_) (fun c1 => ?_)
  · replace h := h.1 c1
    refine z_iconst dX11_firstOf_45 ?_
    exact m_iret dX11_firstOf_46 rfl h
  · replace h := h.2 (Decidable.not_not.mp c1)
    refine z_aload_n dX11_firstOf_12 rfl rfl ?_
    refine z_iload_n dX11_firstOf_13 rfl rfl ?_
    refine m_callV (as := [aI (x2)]) dX11_firstOf_14 lk_X11_223 mok_X11_day in_X11_day sl_X11_day kt_228 rfl rfl rfl (Nat.le_of_ble_eq_true rfl) rfl (Nat.le_of_ble_eq_true rfl) rfl (m_mono (fun r g2 hr => ?_) h)
    obtain ⟨rfl, h⟩ := hr
    show Zm w (d + 3) mX11_firstOf 17 [some (aR (some (228))), some (aI (x1)), some (aI (x2))] [] g2 P
    refine z_aload_n dX11_firstOf_17 rfl rfl ?_
    refine z_iconst dX11_firstOf_18 ?_
    refine m_callV (as := [aI (0)]) dX11_firstOf_19 lk_X11_247 mok_X11_sameNow in_X11_sameNow sl_X11_sameNow kt_228 rfl rfl rfl (Nat.le_of_ble_eq_true rfl) rfl (Nat.le_of_ble_eq_true rfl) rfl (m_mono (fun r g4 hr => ?_) h)
    obtain ⟨z5, rfl, h⟩ := hr
    show Zm w (d + 3) mX11_firstOf 22 [some (aR (some (228))), some (aI (x1)), some (aI (x2))] [aI (z5)] g4 P
    refine z_if_le (tgt := 39) dX11_firstOf_22 (by decide) (fun c6 => ?_) (fun c6 => ?_)
    · replace h := h.1 c6
      refine z_iinc dX11_firstOf_39 rfl (by decide) rfl ?_
      show Zm w (d + 3) mX11_firstOf 42 [some (aR (some (228))), some (aI (x1)), some (aI (x2 + 1))] [] g4 P
      refine z_goto (tgt := 6) dX11_firstOf_42 (by decide) ?_
      exact z_weak (by simp [lle]) h
    · replace h := h.2 (Decidable.not_not.mp c6)
      refine z_iload_n dX11_firstOf_25 rfl rfl ?_
      refine z_if_ne (tgt := 33) dX11_firstOf_26 (by decide) (fun c7 => ?_) (fun c7 => ?_)
      · replace h := h.1 c7
        refine z_aload_n dX11_firstOf_33 rfl rfl ?_
        refine z_iconst dX11_firstOf_34 ?_
        refine m_callV (as := [aI (1)]) dX11_firstOf_35 lk_X11_247 mok_X11_sameNow in_X11_sameNow sl_X11_sameNow kt_228 rfl rfl rfl (Nat.le_of_ble_eq_true rfl) rfl (Nat.le_of_ble_eq_true rfl) rfl (m_mono (fun r g8 hr => ?_) h)
        obtain ⟨z9, rfl, h⟩ := hr
        show Zm w (d + 3) mX11_firstOf 38 [some (aR (some (228))), some (aI (x1)), some (aI (x2))] [aI (z9)] g8 P
        exact m_iret dX11_firstOf_38 rfl h
      · replace h := h.2 (Decidable.not_not.mp c7)
        refine z_iload_n dX11_firstOf_29 rfl rfl ?_
        refine z_goto (tgt := 38) dX11_firstOf_30 (by decide) ?_
        exact m_iret dX11_firstOf_38 rfl h
theorem dX11_first_0 : decode cX11_first 0 = .ok (.aload_n 0, 1) := by decide +kernel
theorem dX11_first_1 : decode cX11_first 1 = .ok (.invokevirtual 161, 3) := by decide +kernel
theorem dX11_first_4 : decode cX11_first 4 = .ok (.iload_n 1, 1) := by decide +kernel
theorem dX11_first_5 : decode cX11_first 5 = .ok (.invokestatic 116, 3) := by decide +kernel
theorem dX11_first_8 : decode cX11_first 8 = .ok (.ifCond .eq 11, 3) := by decide +kernel
theorem dX11_first_11 : decode cX11_first 11 = .ok (.aload_n 0, 1) := by decide +kernel
theorem dX11_first_12 : decode cX11_first 12 = .ok (.iload_n 1, 1) := by decide +kernel
theorem dX11_first_13 : decode cX11_first 13 = .ok (.invokevirtual 253, 3) := by decide +kernel
theorem dX11_first_16 : decode cX11_first 16 = .ok (.goto 5, 3) := by decide +kernel
theorem dX11_first_19 : decode cX11_first 19 = .ok (.bipush (-2), 2) := by decide +kernel
theorem dX11_first_21 : decode cX11_first 21 = .ok (.ireturn, 1) := by decide +kernel
set_option maxRecDepth 4000 in
theorem s_X11_first_0 {w : GX} {d : Nat} {P : PN} {g : GI} (x1 : Int)
    (h : Zm w (d + 4) mX11_reads 0 [some (aR (some (228)))] [] g (fun r g1 => r = none ∧ (((nm (inn (x1) 0 1) = 0 → P (some (aI ((-2)))) g1) ∧ (¬ nm (inn (x1) 0 1) = 0 → Zm w (d + 4) mX11_firstOf 0 [some (aR (some (228))), some (aI (x1)), none] [] g1 (fun r g4 => ∃ z5 : Int, r = some (aI z5) ∧ P (some (aI (z5))) g4)))))) :
    Zm w (d + 5) mX11_first 0 [some (aR (some (228))), some (aI (x1))] [] g P := by
  refine z_aload_n dX11_first_0 rfl rfl ?_
  refine m_callV (as := []) dX11_first_1 lk_X11_161 mok_X11_reads in_X11_reads sl_X11_reads kt_228 rfl rfl rfl (Nat.le_of_ble_eq_true rfl) rfl (Nat.le_of_ble_eq_true rfl) rfl (m_mono (fun r g1 hr => ?_) h)
  obtain ⟨rfl, h⟩ := hr
  show Zm w (d + 5) mX11_first 4 [some (aR (some (228))), some (aI (x1))] [] g1 P
  refine z_iload_n dX11_first_4 rfl rfl ?_
  refine m_callS (as := [aI (x1)]) dX11_first_5 lk_X11_116 mok_X11_isTwo st_X11_isTwo rfl (Nat.le_of_ble_eq_true rfl) rfl (Nat.le_of_ble_eq_true rfl) rfl (c_X11_isTwo  ?_)
  show Zm w (d + 5) mX11_first 8 [some (aR (some (228))), some (aI (x1))] [aI (inn (x1) 0 1)] g1 P
  refine z_if_eq (tgt := 19) dX11_first_8 (by decide) (fun c3 => ?_) (fun c3 => ?_)
  · replace h := h.1 c3
    refine z_bipush dX11_first_19 rfl ?_
    exact m_iret dX11_first_21 rfl h
  · replace h := h.2 c3
    refine z_aload_n dX11_first_11 rfl rfl ?_
    refine z_iload_n dX11_first_12 rfl rfl ?_
    refine m_callV (as := [aI (x1)]) dX11_first_13 lk_X11_253 mok_X11_firstOf in_X11_firstOf sl_X11_firstOf kt_228 rfl rfl rfl (Nat.le_of_ble_eq_true rfl) rfl (Nat.le_of_ble_eq_true rfl) rfl (m_mono (fun r g4 hr => ?_) h)
    obtain ⟨z5, rfl, h⟩ := hr
    show Zm w (d + 5) mX11_first 16 [some (aR (some (228))), some (aI (x1))] [aI (z5)] g4 P
    refine z_goto (tgt := 21) dX11_first_16 (by decide) ?_
    exact m_iret dX11_first_21 rfl h
theorem dX11_changesOf_0 : decode cX11_changesOf 0 = .ok (.aload_n 0, 1) := by decide +kernel
theorem dX11_changesOf_1 : decode cX11_changesOf 1 = .ok (.bipush 19, 2) := by decide +kernel
theorem dX11_changesOf_3 : decode cX11_changesOf 3 = .ok (.invokevirtual 232, 3) := by decide +kernel
theorem dX11_changesOf_6 : decode cX11_changesOf 6 = .ok (.aload_n 0, 1) := by decide +kernel
theorem dX11_changesOf_7 : decode cX11_changesOf 7 = .ok (.getfield 64, 3) := by decide +kernel
theorem dX11_changesOf_10 : decode cX11_changesOf 10 = .ok (.iload_n 1, 1) := by decide +kernel
theorem dX11_changesOf_11 : decode cX11_changesOf 11 = .ok (.iaload, 1) := by decide +kernel
theorem dX11_changesOf_12 : decode cX11_changesOf 12 = .ok (.ireturn, 1) := by decide +kernel
set_option maxRecDepth 4000 in
theorem s_X11_changesOf_0 {w : GX} {d : Nat} {P : PN} {g : GI} (x1 : Int)
    (h : Zm w (d + 3) mX11_lives 0 [some (aR (some (228))), some (aI (19)), none] [] g (fun r g1 => r = none ∧ (0 ≤ nm x1 ∧ nm x1 < 36 ∧ P (some (aI (g1 247 (nm x1).toNat))) g1))) :
    Zm w (d + 4) mX11_changesOf 0 [some (aR (some (228))), some (aI (x1))] [] g P := by
  refine z_aload_n dX11_changesOf_0 rfl rfl ?_
  refine z_bipush dX11_changesOf_1 rfl ?_
  refine m_callV (as := [aI (19)]) dX11_changesOf_3 lk_X11_232 mok_X11_lives in_X11_lives sl_X11_lives kt_228 rfl rfl rfl (Nat.le_of_ble_eq_true rfl) rfl (Nat.le_of_ble_eq_true rfl) rfl (m_mono (fun r g1 hr => ?_) h)
  obtain ⟨rfl, h⟩ := hr
  show Zm w (d + 4) mX11_changesOf 6 [some (aR (some (228))), some (aI (x1))] [] g1 P
  refine z_aload_n dX11_changesOf_6 rfl rfl ?_
  refine m_getR dX11_changesOf_7 fl_X11_64 (by decide) kt_228 rv_228_26 ?_
  refine z_iload_n dX11_changesOf_10 rfl rfl ?_
  obtain ⟨q5, q6, h⟩ := h
  refine m_iald dX11_changesOf_11 kv_247 q5 q6 ?_
  exact m_iret dX11_changesOf_12 rfl h
theorem dX11_changes_0 : decode cX11_changes 0 = .ok (.aload_n 0, 1) := by decide +kernel
theorem dX11_changes_1 : decode cX11_changes 1 = .ok (.invokevirtual 161, 3) := by decide +kernel
theorem dX11_changes_4 : decode cX11_changes 4 = .ok (.iload_n 1, 1) := by decide +kernel
theorem dX11_changes_5 : decode cX11_changes 5 = .ok (.i2l, 1) := by decide +kernel
theorem dX11_changes_6 : decode cX11_changes 6 = .ok (.lconst 0, 1) := by decide +kernel
theorem dX11_changes_7 : decode cX11_changes 7 = .ok (.aload_n 0, 1) := by decide +kernel
theorem dX11_changes_8 : decode cX11_changes 8 = .ok (.getfield 169, 3) := by decide +kernel
theorem dX11_changes_11 : decode cX11_changes 11 = .ok (.iconst 1, 1) := by decide +kernel
theorem dX11_changes_12 : decode cX11_changes 12 = .ok (.isub, 1) := by decide +kernel
theorem dX11_changes_13 : decode cX11_changes 13 = .ok (.i2l, 1) := by decide +kernel
theorem dX11_changes_14 : decode cX11_changes 14 = .ok (.invokestatic 88, 3) := by decide +kernel
theorem dX11_changes_17 : decode cX11_changes 17 = .ok (.ifCond .eq 11, 3) := by decide +kernel
theorem dX11_changes_20 : decode cX11_changes 20 = .ok (.aload_n 0, 1) := by decide +kernel
theorem dX11_changes_21 : decode cX11_changes 21 = .ok (.iload_n 1, 1) := by decide +kernel
theorem dX11_changes_22 : decode cX11_changes 22 = .ok (.invokevirtual 256, 3) := by decide +kernel
theorem dX11_changes_25 : decode cX11_changes 25 = .ok (.goto 5, 3) := by decide +kernel
theorem dX11_changes_28 : decode cX11_changes 28 = .ok (.bipush (-2), 2) := by decide +kernel
theorem dX11_changes_30 : decode cX11_changes 30 = .ok (.ireturn, 1) := by decide +kernel
set_option maxRecDepth 4000 in
theorem s_X11_changes_0 {w : GX} {d : Nat} {P : PN} {g : GI} (x1 : Int)
    (h : Zm w (d + 4) mX11_reads 0 [some (aR (some (228)))] [] g (fun r g1 => r = none ∧ (((nm (lin (nm x1) (0) (nm ((g1 228 14) - 1))) = 0 → P (some (aI ((-2)))) g1) ∧ (¬ nm (lin (nm x1) (0) (nm ((g1 228 14) - 1))) = 0 → Zm w (d + 4) mX11_changesOf 0 [some (aR (some (228))), some (aI (x1))] [] g1 (fun r g4 => ∃ z5 : Int, r = some (aI z5) ∧ P (some (aI (z5))) g4)))))) :
    Zm w (d + 5) mX11_changes 0 [some (aR (some (228))), some (aI (x1))] [] g P := by
  refine z_aload_n dX11_changes_0 rfl rfl ?_
  refine m_callV (as := []) dX11_changes_1 lk_X11_161 mok_X11_reads in_X11_reads sl_X11_reads kt_228 rfl rfl rfl (Nat.le_of_ble_eq_true rfl) rfl (Nat.le_of_ble_eq_true rfl) rfl (m_mono (fun r g1 hr => ?_) h)
  obtain ⟨rfl, h⟩ := hr
  show Zm w (d + 5) mX11_changes 4 [some (aR (some (228))), some (aI (x1))] [] g1 P
  refine z_iload_n dX11_changes_4 rfl rfl ?_
  refine z_i2l dX11_changes_5 ?_
  refine z_lconst (z := 0) dX11_changes_6 rfl ?_
  refine z_aload_n dX11_changes_7 rfl rfl ?_
  refine z_getI dX11_changes_8 fl_X11_169 (by decide) kt_228 ?_
  refine z_iconst dX11_changes_11 ?_
  refine z_isub dX11_changes_12 ?_
  refine z_i2l dX11_changes_13 ?_
  refine m_callS (as := [aL (nm x1), aL (0), aL (nm ((g1 228 14) - 1))]) dX11_changes_14 lk_X11_88 mok_X11_in st_X11_in rfl (Nat.le_of_ble_eq_true rfl) rfl (Nat.le_of_ble_eq_true rfl) rfl (c_X11_in  ?_)
  show Zm w (d + 5) mX11_changes 17 [some (aR (some (228))), some (aI (x1))] [aI (lin (nm x1) (0) (nm ((g1 228 14) - 1)))] g1 P
  refine z_if_eq (tgt := 28) dX11_changes_17 (by decide) (fun c3 => ?_) (fun c3 => ?_)
  · replace h := h.1 c3
    refine z_bipush dX11_changes_28 rfl ?_
    exact m_iret dX11_changes_30 rfl h
  · replace h := h.2 c3
    refine z_aload_n dX11_changes_20 rfl rfl ?_
    refine z_iload_n dX11_changes_21 rfl rfl ?_
    refine m_callV (as := [aI (x1)]) dX11_changes_22 lk_X11_256 mok_X11_changesOf in_X11_changesOf sl_X11_changesOf kt_228 rfl rfl rfl (Nat.le_of_ble_eq_true rfl) rfl (Nat.le_of_ble_eq_true rfl) rfl (m_mono (fun r g4 hr => ?_) h)
    obtain ⟨z5, rfl, h⟩ := hr
    show Zm w (d + 5) mX11_changes 25 [some (aR (some (228))), some (aI (x1))] [aI (z5)] g4 P
    refine z_goto (tgt := 30) dX11_changes_25 (by decide) ?_
    exact m_iret dX11_changes_30 rfl h
theorem dX11_isCalled_0 : decode cX11_isCalled 0 = .ok (.aload_n 0, 1) := by decide +kernel
theorem dX11_isCalled_1 : decode cX11_isCalled 1 = .ok (.iload_n 3, 1) := by decide +kernel
theorem dX11_isCalled_2 : decode cX11_isCalled 2 = .ok (.invokevirtual 232, 3) := by decide +kernel
theorem dX11_isCalled_5 : decode cX11_isCalled 5 = .ok (.aload_n 0, 1) := by decide +kernel
theorem dX11_isCalled_6 : decode cX11_isCalled 6 = .ok (.getfield 58, 3) := by decide +kernel
theorem dX11_isCalled_9 : decode cX11_isCalled 9 = .ok (.aload_n 0, 1) := by decide +kernel
theorem dX11_isCalled_10 : decode cX11_isCalled 10 = .ok (.getfield 61, 3) := by decide +kernel
theorem dX11_isCalled_13 : decode cX11_isCalled 13 = .ok (.iload_n 1, 1) := by decide +kernel
theorem dX11_isCalled_14 : decode cX11_isCalled 14 = .ok (.iaload, 1) := by decide +kernel
theorem dX11_isCalled_15 : decode cX11_isCalled 15 = .ok (.iaload, 1) := by decide +kernel
theorem dX11_isCalled_16 : decode cX11_isCalled 16 = .ok (.iload_n 2, 1) := by decide +kernel
theorem dX11_isCalled_17 : decode cX11_isCalled 17 = .ok (.if_icmp .ne 7, 3) := by decide +kernel
theorem dX11_isCalled_20 : decode cX11_isCalled 20 = .ok (.iconst 1, 1) := by decide +kernel
theorem dX11_isCalled_21 : decode cX11_isCalled 21 = .ok (.goto 4, 3) := by decide +kernel
theorem dX11_isCalled_24 : decode cX11_isCalled 24 = .ok (.iconst 0, 1) := by decide +kernel
theorem dX11_isCalled_25 : decode cX11_isCalled 25 = .ok (.ireturn, 1) := by decide +kernel
set_option maxRecDepth 4000 in
theorem s_X11_isCalled_0 {w : GX} {d : Nat} {P : PN} {g : GI} (x1 : Int) (x2 : Int) (x3 : Int)
    (h : Zm w (d + 3) mX11_lives 0 [some (aR (some (228))), some (aI (x3)), none] [] g (fun r g1 => r = none ∧ (0 ≤ nm x1 ∧ nm x1 < 8 ∧ (0 ≤ nm (g1 246 (nm x1).toNat) ∧ nm (g1 246 (nm x1).toNat) < 28 ∧ ((¬ nm (g1 245 (nm (g1 246 (nm x1).toNat)).toNat) = nm x2 → P (some (aI (0))) g1) ∧ (nm (g1 245 (nm (g1 246 (nm x1).toNat)).toNat) = nm x2 → P (some (aI (1))) g1)))))) :
    Zm w (d + 4) mX11_isCalled 0 [some (aR (some (228))), some (aI (x1)), some (aI (x2)), some (aI (x3))] [] g P := by
  refine z_aload_n dX11_isCalled_0 rfl rfl ?_
  refine z_iload_n dX11_isCalled_1 rfl rfl ?_
  refine m_callV (as := [aI (x3)]) dX11_isCalled_2 lk_X11_232 mok_X11_lives in_X11_lives sl_X11_lives kt_228 rfl rfl rfl (Nat.le_of_ble_eq_true rfl) rfl (Nat.le_of_ble_eq_true rfl) rfl (m_mono (fun r g1 hr => ?_) h)
  obtain ⟨rfl, h⟩ := hr
  show Zm w (d + 4) mX11_isCalled 5 [some (aR (some (228))), some (aI (x1)), some (aI (x2)), some (aI (x3))] [] g1 P
  refine z_aload_n dX11_isCalled_5 rfl rfl ?_
  refine m_getR dX11_isCalled_6 fl_X11_58 (by decide) kt_228 rv_228_24 ?_
  refine z_aload_n dX11_isCalled_9 rfl rfl ?_
  refine m_getR dX11_isCalled_10 fl_X11_61 (by decide) kt_228 rv_228_25 ?_
  refine z_iload_n dX11_isCalled_13 rfl rfl ?_
  obtain ⟨q5, q6, h⟩ := h
  refine m_iald dX11_isCalled_14 kv_246 q5 q6 ?_
  obtain ⟨q9, q10, h⟩ := h
  refine m_iald dX11_isCalled_15 kv_245 q9 q10 ?_
  refine z_iload_n dX11_isCalled_16 rfl rfl ?_
  refine z_icmp_ne (tgt := 24) dX11_isCalled_17 (by decide) (fun c11 => ?_) (fun c11 => ?_)
  · replace h := h.1 c11
    refine z_iconst dX11_isCalled_24 ?_
    exact m_zret dX11_isCalled_25 rfl (by decide) h
  · replace h := h.2 (Decidable.not_not.mp c11)
    refine z_iconst dX11_isCalled_20 ?_
    refine z_goto (tgt := 25) dX11_isCalled_21 (by decide) ?_
    exact m_zret dX11_isCalled_25 rfl (by decide) h
theorem dX11_returnsOf_0 : decode cX11_returnsOf 0 = .ok (.aload_n 0, 1) := by decide +kernel
theorem dX11_returnsOf_1 : decode cX11_returnsOf 1 = .ok (.iload_n 1, 1) := by decide +kernel
theorem dX11_returnsOf_2 : decode cX11_returnsOf 2 = .ok (.iload_n 2, 1) := by decide +kernel
theorem dX11_returnsOf_3 : decode cX11_returnsOf 3 = .ok (.iload_n 3, 1) := by decide +kernel
theorem dX11_returnsOf_4 : decode cX11_returnsOf 4 = .ok (.invokevirtual 259, 3) := by decide +kernel
theorem dX11_returnsOf_7 : decode cX11_returnsOf 7 = .ok (.ifCond .eq 15, 3) := by decide +kernel
theorem dX11_returnsOf_10 : decode cX11_returnsOf 10 = .ok (.iload 4, 2) := by decide +kernel
theorem dX11_returnsOf_12 : decode cX11_returnsOf 12 = .ok (.iconst (-1), 1) := by decide +kernel
theorem dX11_returnsOf_13 : decode cX11_returnsOf 13 = .ok (.if_icmp .ne 7, 3) := by decide +kernel
theorem dX11_returnsOf_16 : decode cX11_returnsOf 16 = .ok (.iconst 0, 1) := by decide +kernel
theorem dX11_returnsOf_17 : decode cX11_returnsOf 17 = .ok (.goto 4, 3) := by decide +kernel
theorem dX11_returnsOf_20 : decode cX11_returnsOf 20 = .ok (.iconst (-1), 1) := by decide +kernel
theorem dX11_returnsOf_21 : decode cX11_returnsOf 21 = .ok (.ireturn, 1) := by decide +kernel
theorem dX11_returnsOf_22 : decode cX11_returnsOf 22 = .ok (.aload_n 0, 1) := by decide +kernel
theorem dX11_returnsOf_23 : decode cX11_returnsOf 23 = .ok (.getfield 169, 3) := by decide +kernel
theorem dX11_returnsOf_26 : decode cX11_returnsOf 26 = .ok (.istore 5, 2) := by decide +kernel
theorem dX11_returnsOf_28 : decode cX11_returnsOf 28 = .ok (.iconst 0, 1) := by decide +kernel
theorem dX11_returnsOf_29 : decode cX11_returnsOf 29 = .ok (.istore 6, 2) := by decide +kernel
theorem dX11_returnsOf_31 : decode cX11_returnsOf 31 = .ok (.iload 6, 2) := by decide +kernel
theorem dX11_returnsOf_33 : decode cX11_returnsOf 33 = .ok (.iload_n 3, 1) := by decide +kernel
theorem dX11_returnsOf_34 : decode cX11_returnsOf 34 = .ok (.if_icmp .gt 58, 3) := by decide +kernel
theorem dX11_returnsOf_37 : decode cX11_returnsOf 37 = .ok (.aload_n 0, 1) := by decide +kernel
theorem dX11_returnsOf_38 : decode cX11_returnsOf 38 = .ok (.iload 6, 2) := by decide +kernel
theorem dX11_returnsOf_40 : decode cX11_returnsOf 40 = .ok (.iload_n 1, 1) := by decide +kernel
theorem dX11_returnsOf_41 : decode cX11_returnsOf 41 = .ok (.invokevirtual 178, 3) := by decide +kernel
theorem dX11_returnsOf_44 : decode cX11_returnsOf 44 = .ok (.aload_n 0, 1) := by decide +kernel
theorem dX11_returnsOf_45 : decode cX11_returnsOf 45 = .ok (.iload_n 1, 1) := by decide +kernel
theorem dX11_returnsOf_46 : decode cX11_returnsOf 46 = .ok (.iload_n 2, 1) := by decide +kernel
theorem dX11_returnsOf_47 : decode cX11_returnsOf 47 = .ok (.iload_n 3, 1) := by decide +kernel
theorem dX11_returnsOf_48 : decode cX11_returnsOf 48 = .ok (.invokevirtual 259, 3) := by decide +kernel
theorem dX11_returnsOf_51 : decode cX11_returnsOf 51 = .ok (.istore 7, 2) := by decide +kernel
theorem dX11_returnsOf_53 : decode cX11_returnsOf 53 = .ok (.aload_n 0, 1) := by decide +kernel
theorem dX11_returnsOf_54 : decode cX11_returnsOf 54 = .ok (.iload 5, 2) := by decide +kernel
theorem dX11_returnsOf_56 : decode cX11_returnsOf 56 = .ok (.putfield 169, 3) := by decide +kernel
theorem dX11_returnsOf_59 : decode cX11_returnsOf 59 = .ok (.iload 7, 2) := by decide +kernel
theorem dX11_returnsOf_61 : decode cX11_returnsOf 61 = .ok (.ifCond .eq 25, 3) := by decide +kernel
theorem dX11_returnsOf_64 : decode cX11_returnsOf 64 = .ok (.iload 4, 2) := by decide +kernel
theorem dX11_returnsOf_66 : decode cX11_returnsOf 66 = .ok (.iconst (-1), 1) := by decide +kernel
theorem dX11_returnsOf_67 : decode cX11_returnsOf 67 = .ok (.if_icmp .ne 7, 3) := by decide +kernel
theorem dX11_returnsOf_70 : decode cX11_returnsOf 70 = .ok (.iconst 1, 1) := by decide +kernel
theorem dX11_returnsOf_71 : decode cX11_returnsOf 71 = .ok (.goto 14, 3) := by decide +kernel
theorem dX11_returnsOf_74 : decode cX11_returnsOf 74 = .ok (.iload 4, 2) := by decide +kernel
theorem dX11_returnsOf_76 : decode cX11_returnsOf 76 = .ok (.ifCond .ne 8, 3) := by decide +kernel
theorem dX11_returnsOf_79 : decode cX11_returnsOf 79 = .ok (.iload 6, 2) := by decide +kernel
theorem dX11_returnsOf_81 : decode cX11_returnsOf 81 = .ok (.goto 4, 3) := by decide +kernel
theorem dX11_returnsOf_84 : decode cX11_returnsOf 84 = .ok (.iconst (-1), 1) := by decide +kernel
theorem dX11_returnsOf_85 : decode cX11_returnsOf 85 = .ok (.ireturn, 1) := by decide +kernel
theorem dX11_returnsOf_86 : decode cX11_returnsOf 86 = .ok (.iinc 6 1, 3) := by decide +kernel
theorem dX11_returnsOf_89 : decode cX11_returnsOf 89 = .ok (.goto (-58), 3) := by decide +kernel
theorem dX11_returnsOf_92 : decode cX11_returnsOf 92 = .ok (.iconst 0, 1) := by decide +kernel
theorem dX11_returnsOf_93 : decode cX11_returnsOf 93 = .ok (.istore 6, 2) := by decide +kernel
theorem dX11_returnsOf_95 : decode cX11_returnsOf 95 = .ok (.iload 6, 2) := by decide +kernel
theorem dX11_returnsOf_97 : decode cX11_returnsOf 97 = .ok (.iload_n 3, 1) := by decide +kernel
theorem dX11_returnsOf_98 : decode cX11_returnsOf 98 = .ok (.if_icmp .gt 84, 3) := by decide +kernel
theorem dX11_returnsOf_101 : decode cX11_returnsOf 101 = .ok (.iload 6, 2) := by decide +kernel
theorem dX11_returnsOf_103 : decode cX11_returnsOf 103 = .ok (.iconst 1, 1) := by decide +kernel
theorem dX11_returnsOf_104 : decode cX11_returnsOf 104 = .ok (.iadd, 1) := by decide +kernel
theorem dX11_returnsOf_105 : decode cX11_returnsOf 105 = .ok (.istore 7, 2) := by decide +kernel
theorem dX11_returnsOf_107 : decode cX11_returnsOf 107 = .ok (.iload 7, 2) := by decide +kernel
theorem dX11_returnsOf_109 : decode cX11_returnsOf 109 = .ok (.iload_n 3, 1) := by decide +kernel
theorem dX11_returnsOf_110 : decode cX11_returnsOf 110 = .ok (.if_icmp .gt 66, 3) := by decide +kernel
theorem dX11_returnsOf_113 : decode cX11_returnsOf 113 = .ok (.aload_n 0, 1) := by decide +kernel
theorem dX11_returnsOf_114 : decode cX11_returnsOf 114 = .ok (.iload 6, 2) := by decide +kernel
theorem dX11_returnsOf_116 : decode cX11_returnsOf 116 = .ok (.iload_n 1, 1) := by decide +kernel
theorem dX11_returnsOf_117 : decode cX11_returnsOf 117 = .ok (.invokevirtual 178, 3) := by decide +kernel
theorem dX11_returnsOf_120 : decode cX11_returnsOf 120 = .ok (.aload_n 0, 1) := by decide +kernel
theorem dX11_returnsOf_121 : decode cX11_returnsOf 121 = .ok (.iload 7, 2) := by decide +kernel
theorem dX11_returnsOf_123 : decode cX11_returnsOf 123 = .ok (.iload_n 1, 1) := by decide +kernel
theorem dX11_returnsOf_124 : decode cX11_returnsOf 124 = .ok (.invokevirtual 178, 3) := by decide +kernel
theorem dX11_returnsOf_127 : decode cX11_returnsOf 127 = .ok (.aload_n 0, 1) := by decide +kernel
theorem dX11_returnsOf_128 : decode cX11_returnsOf 128 = .ok (.iload_n 1, 1) := by decide +kernel
theorem dX11_returnsOf_129 : decode cX11_returnsOf 129 = .ok (.iload_n 2, 1) := by decide +kernel
theorem dX11_returnsOf_130 : decode cX11_returnsOf 130 = .ok (.iload_n 3, 1) := by decide +kernel
theorem dX11_returnsOf_131 : decode cX11_returnsOf 131 = .ok (.invokevirtual 259, 3) := by decide +kernel
theorem dX11_returnsOf_134 : decode cX11_returnsOf 134 = .ok (.istore 8, 2) := by decide +kernel
theorem dX11_returnsOf_136 : decode cX11_returnsOf 136 = .ok (.aload_n 0, 1) := by decide +kernel
theorem dX11_returnsOf_137 : decode cX11_returnsOf 137 = .ok (.iload 5, 2) := by decide +kernel
theorem dX11_returnsOf_139 : decode cX11_returnsOf 139 = .ok (.putfield 169, 3) := by decide +kernel
theorem dX11_returnsOf_142 : decode cX11_returnsOf 142 = .ok (.iload 8, 2) := by decide +kernel
theorem dX11_returnsOf_144 : decode cX11_returnsOf 144 = .ok (.ifCond .eq 26, 3) := by decide +kernel
theorem dX11_returnsOf_147 : decode cX11_returnsOf 147 = .ok (.iload 4, 2) := by decide +kernel
theorem dX11_returnsOf_149 : decode cX11_returnsOf 149 = .ok (.iconst (-1), 1) := by decide +kernel
theorem dX11_returnsOf_150 : decode cX11_returnsOf 150 = .ok (.if_icmp .ne 7, 3) := by decide +kernel
theorem dX11_returnsOf_153 : decode cX11_returnsOf 153 = .ok (.iconst 2, 1) := by decide +kernel
theorem dX11_returnsOf_154 : decode cX11_returnsOf 154 = .ok (.goto 15, 3) := by decide +kernel
theorem dX11_returnsOf_157 : decode cX11_returnsOf 157 = .ok (.iload 4, 2) := by decide +kernel
theorem dX11_returnsOf_159 : decode cX11_returnsOf 159 = .ok (.ifCond .ne 8, 3) := by decide +kernel
theorem dX11_returnsOf_162 : decode cX11_returnsOf 162 = .ok (.iload 6, 2) := by decide +kernel
theorem dX11_returnsOf_164 : decode cX11_returnsOf 164 = .ok (.goto 5, 3) := by decide +kernel
theorem dX11_returnsOf_167 : decode cX11_returnsOf 167 = .ok (.iload 7, 2) := by decide +kernel
theorem dX11_returnsOf_169 : decode cX11_returnsOf 169 = .ok (.ireturn, 1) := by decide +kernel
theorem dX11_returnsOf_170 : decode cX11_returnsOf 170 = .ok (.iinc 7 1, 3) := by decide +kernel
theorem dX11_returnsOf_173 : decode cX11_returnsOf 173 = .ok (.goto (-66), 3) := by decide +kernel
theorem dX11_returnsOf_176 : decode cX11_returnsOf 176 = .ok (.iinc 6 1, 3) := by decide +kernel
theorem dX11_returnsOf_179 : decode cX11_returnsOf 179 = .ok (.goto (-84), 3) := by decide +kernel
theorem dX11_returnsOf_182 : decode cX11_returnsOf 182 = .ok (.iconst (-1), 1) := by decide +kernel
theorem dX11_returnsOf_183 : decode cX11_returnsOf 183 = .ok (.ireturn, 1) := by decide +kernel
set_option maxRecDepth 4000 in
theorem s_X11_returnsOf_0 {w : GX} {d : Nat} {P : PN} {g : GI} (x1 : Int) (x2 : Int) (x3 : Int) (x4 : Int)
    (h : Zm w (d + 4) mX11_isCalled 0 [some (aR (some (228))), some (aI (x1)), some (aI (x2)), some (aI (x3))] [] g (fun r g1 => ∃ z2 : Int, r = some (aI z2) ∧ ((nm z2 = 0 → (∀ v4 : Int, v4 = g1 228 14 → Zm w (d + 5) mX11_returnsOf 31 [some (aR (some (228))), some (aI (x1)), some (aI (x2)), some (aI (x3)), some (aI (x4)), some (aI (v4)), some (aI (0)), none, none] [] g1 P)) ∧ (¬ nm z2 = 0 → ((¬ nm x4 = nm ((-1)) → P (some (aI ((-1)))) g1) ∧ (nm x4 = nm ((-1)) → P (some (aI (0))) g1)))))) :
    Zm w (d + 5) mX11_returnsOf 0 [some (aR (some (228))), some (aI (x1)), some (aI (x2)), some (aI (x3)), some (aI (x4)), none, none, none, none] [] g P := by
  refine z_aload_n dX11_returnsOf_0 rfl rfl ?_
  refine z_iload_n dX11_returnsOf_1 rfl rfl ?_
  refine z_iload_n dX11_returnsOf_2 rfl rfl ?_
  refine z_iload_n dX11_returnsOf_3 rfl rfl ?_
  refine m_callV (as := [aI (x1), aI (x2), aI (x3)]) dX11_returnsOf_4 lk_X11_259 mok_X11_isCalled in_X11_isCalled sl_X11_isCalled kt_228 rfl rfl rfl (Nat.le_of_ble_eq_true rfl) rfl (Nat.le_of_ble_eq_true rfl) rfl (m_mono (fun r g1 hr => ?_) h)
  obtain ⟨z2, rfl, h⟩ := hr
  show Zm w (d + 5) mX11_returnsOf 7 [some (aR (some (228))), some (aI (x1)), some (aI (x2)), some (aI (x3)), some (aI (x4)), none, none, none, none] [aI (z2)] g1 P
  refine z_if_eq (tgt := 22) dX11_returnsOf_7 (by decide) (fun c3 => ?_) (fun c3 => ?_)
  · replace h := h.1 c3
    refine z_aload_n dX11_returnsOf_22 rfl rfl ?_
    refine z_getI dX11_returnsOf_23 fl_X11_169 (by decide) kt_228 ?_
    replace h := h _ rfl
    refine z_istore dX11_returnsOf_26 (by decide) rfl ?_
    show Zm w (d + 5) mX11_returnsOf 28 [some (aR (some (228))), some (aI (x1)), some (aI (x2)), some (aI (x3)), some (aI (x4)), some (aI (g1 228 14)), none, none, none] [] g1 P
    refine z_iconst dX11_returnsOf_28 ?_
    refine z_istore dX11_returnsOf_29 (by decide) rfl ?_
    show Zm w (d + 5) mX11_returnsOf 31 [some (aR (some (228))), some (aI (x1)), some (aI (x2)), some (aI (x3)), some (aI (x4)), some (aI ((g1 228 14))), some (aI (0)), none, none] [] g1 P
    exact z_weak (by simp [lle]) h
  · replace h := h.2 c3
    refine z_iload dX11_returnsOf_10 rfl ?_
    refine z_iconst dX11_returnsOf_12 ?_
    refine z_icmp_ne (tgt := 20) dX11_returnsOf_13 (by decide) (fun c5 => ?_) (fun c5 => ?_)
    · replace h := h.1 c5
      refine z_iconst dX11_returnsOf_20 ?_
      exact m_iret dX11_returnsOf_21 rfl h
    · replace h := h.2 (Decidable.not_not.mp c5)
      refine z_iconst dX11_returnsOf_16 ?_
      refine z_goto (tgt := 21) dX11_returnsOf_17 (by decide) ?_
      exact m_iret dX11_returnsOf_21 rfl h
set_option maxRecDepth 4000 in
theorem s_X11_returnsOf_31 {w : GX} {d : Nat} {P : PN} {g : GI} (x1 : Int) (x2 : Int) (x3 : Int) (x4 : Int) (x5 : Int) (x6 : Int)
    (h : ((nm x3 < nm x6 → Zm w (d + 5) mX11_returnsOf 95 [some (aR (some (228))), some (aI (x1)), some (aI (x2)), some (aI (x3)), some (aI (x4)), some (aI (x5)), some (aI (0)), none, none] [] g P) ∧ (¬ nm x3 < nm x6 → Zm w (d + 4) mX11_crosses 0 [some (aR (some (228))), some (aI (x6)), some (aI (x1))] [] g (fun r g2 => r = none ∧ Zm w (d + 4) mX11_isCalled 0 [some (aR (some (228))), some (aI (x1)), some (aI (x2)), some (aI (x3))] [] g2 (fun r g4 => ∃ z5 : Int, r = some (aI z5) ∧ (∀ g6 : GI, g6 = up2 g4 228 14 x5 → ((nm z5 = 0 → Zm w (d + 5) mX11_returnsOf 31 [some (aR (some (228))), some (aI (x1)), some (aI (x2)), some (aI (x3)), some (aI (x4)), some (aI (x5)), some (aI (x6 + 1)), none, none] [] g6 P) ∧ (¬ nm z5 = 0 → ((¬ nm x4 = nm ((-1)) → ((¬ nm x4 = 0 → P (some (aI ((-1)))) g6) ∧ (nm x4 = 0 → P (some (aI (x6))) g6))) ∧ (nm x4 = nm ((-1)) → P (some (aI (1))) g6)))))))))) :
    Zm w (d + 5) mX11_returnsOf 31 [some (aR (some (228))), some (aI (x1)), some (aI (x2)), some (aI (x3)), some (aI (x4)), some (aI (x5)), some (aI (x6)), none, none] [] g P := by
  refine z_iload dX11_returnsOf_31 rfl ?_
  refine z_iload_n dX11_returnsOf_33 rfl rfl ?_
  refine z_icmp_gt (tgt := 92) dX11_returnsOf_34 (by decide) (fun c1 => ?_) (fun c1 => ?_)
  · replace h := h.1 c1
    refine z_iconst dX11_returnsOf_92 ?_
    refine z_istore dX11_returnsOf_93 (by decide) rfl ?_
    show Zm w (d + 5) mX11_returnsOf 95 [some (aR (some (228))), some (aI (x1)), some (aI (x2)), some (aI (x3)), some (aI (x4)), some (aI (x5)), some (aI (0)), none, none] [] g P
    exact z_weak (by simp [lle]) h
  · replace h := h.2 c1
    refine z_aload_n dX11_returnsOf_37 rfl rfl ?_
    refine z_iload dX11_returnsOf_38 rfl ?_
    refine z_iload_n dX11_returnsOf_40 rfl rfl ?_
    refine m_callV (as := [aI (x6), aI (x1)]) dX11_returnsOf_41 lk_X11_178 mok_X11_crosses in_X11_crosses sl_X11_crosses kt_228 rfl rfl rfl (Nat.le_of_ble_eq_true rfl) rfl (Nat.le_of_ble_eq_true rfl) rfl (m_mono (fun r g2 hr => ?_) h)
    obtain ⟨rfl, h⟩ := hr
    show Zm w (d + 5) mX11_returnsOf 44 [some (aR (some (228))), some (aI (x1)), some (aI (x2)), some (aI (x3)), some (aI (x4)), some (aI (x5)), some (aI (x6)), none, none] [] g2 P
    refine z_aload_n dX11_returnsOf_44 rfl rfl ?_
    refine z_iload_n dX11_returnsOf_45 rfl rfl ?_
    refine z_iload_n dX11_returnsOf_46 rfl rfl ?_
    refine z_iload_n dX11_returnsOf_47 rfl rfl ?_
    refine m_callV (as := [aI (x1), aI (x2), aI (x3)]) dX11_returnsOf_48 lk_X11_259 mok_X11_isCalled in_X11_isCalled sl_X11_isCalled kt_228 rfl rfl rfl (Nat.le_of_ble_eq_true rfl) rfl (Nat.le_of_ble_eq_true rfl) rfl (m_mono (fun r g4 hr => ?_) h)
    obtain ⟨z5, rfl, h⟩ := hr
    show Zm w (d + 5) mX11_returnsOf 51 [some (aR (some (228))), some (aI (x1)), some (aI (x2)), some (aI (x3)), some (aI (x4)), some (aI (x5)), some (aI (x6)), none, none] [aI (z5)] g4 P
    refine z_istore dX11_returnsOf_51 (by decide) rfl ?_
    show Zm w (d + 5) mX11_returnsOf 53 [some (aR (some (228))), some (aI (x1)), some (aI (x2)), some (aI (x3)), some (aI (x4)), some (aI (x5)), some (aI (x6)), some (aI (z5)), none] [] g4 P
    refine z_aload_n dX11_returnsOf_53 rfl rfl ?_
    refine z_iload dX11_returnsOf_54 rfl ?_
    replace h := h _ rfl
    refine z_putI dX11_returnsOf_56 fw_X11_169 (by decide) kt_228 ?_
    refine z_iload dX11_returnsOf_59 rfl ?_
    refine z_if_eq (tgt := 86) dX11_returnsOf_61 (by decide) (fun c7 => ?_) (fun c7 => ?_)
    · replace h := h.1 c7
      refine z_iinc dX11_returnsOf_86 rfl (by decide) rfl ?_
      show Zm w (d + 5) mX11_returnsOf 89 [some (aR (some (228))), some (aI (x1)), some (aI (x2)), some (aI (x3)), some (aI (x4)), some (aI (x5)), some (aI (x6 + 1)), some (aI (z5)), none] [] (up2 g4 228 14 x5) P
      refine z_goto (tgt := 31) dX11_returnsOf_89 (by decide) ?_
      exact z_weak (by simp [lle]) h
    · replace h := h.2 c7
      refine z_iload dX11_returnsOf_64 rfl ?_
      refine z_iconst dX11_returnsOf_66 ?_
      refine z_icmp_ne (tgt := 74) dX11_returnsOf_67 (by decide) (fun c8 => ?_) (fun c8 => ?_)
      · replace h := h.1 c8
        refine z_iload dX11_returnsOf_74 rfl ?_
        refine z_if_ne (tgt := 84) dX11_returnsOf_76 (by decide) (fun c9 => ?_) (fun c9 => ?_)
        · replace h := h.1 c9
          refine z_iconst dX11_returnsOf_84 ?_
          exact m_iret dX11_returnsOf_85 rfl h
        · replace h := h.2 (Decidable.not_not.mp c9)
          refine z_iload dX11_returnsOf_79 rfl ?_
          refine z_goto (tgt := 85) dX11_returnsOf_81 (by decide) ?_
          exact m_iret dX11_returnsOf_85 rfl h
      · replace h := h.2 (Decidable.not_not.mp c8)
        refine z_iconst dX11_returnsOf_70 ?_
        refine z_goto (tgt := 85) dX11_returnsOf_71 (by decide) ?_
        exact m_iret dX11_returnsOf_85 rfl h
set_option maxRecDepth 4000 in
theorem s_X11_returnsOf_95 {w : GX} {d : Nat} {P : PN} {g : GI} (x1 : Int) (x2 : Int) (x3 : Int) (x4 : Int) (x5 : Int) (x6 : Int)
    (h : ((nm x3 < nm x6 → P (some (aI ((-1)))) g) ∧ (¬ nm x3 < nm x6 → (∀ v2 : Int, v2 = x6 + 1 → Zm w (d + 5) mX11_returnsOf 107 [some (aR (some (228))), some (aI (x1)), some (aI (x2)), some (aI (x3)), some (aI (x4)), some (aI (x5)), some (aI (x6)), some (aI (v2)), none] [] g P)))) :
    Zm w (d + 5) mX11_returnsOf 95 [some (aR (some (228))), some (aI (x1)), some (aI (x2)), some (aI (x3)), some (aI (x4)), some (aI (x5)), some (aI (x6)), none, none] [] g P := by
  refine z_iload dX11_returnsOf_95 rfl ?_
  refine z_iload_n dX11_returnsOf_97 rfl rfl ?_
  refine z_icmp_gt (tgt := 182) dX11_returnsOf_98 (by decide) (fun c1 => ?_) (fun c1 => ?_)
  · replace h := h.1 c1
    refine z_iconst dX11_returnsOf_182 ?_
    exact m_iret dX11_returnsOf_183 rfl h
  · replace h := h.2 c1
    refine z_iload dX11_returnsOf_101 rfl ?_
    refine z_iconst dX11_returnsOf_103 ?_
    refine z_iadd dX11_returnsOf_104 ?_
    replace h := h _ rfl
    refine z_istore dX11_returnsOf_105 (by decide) rfl ?_
    show Zm w (d + 5) mX11_returnsOf 107 [some (aR (some (228))), some (aI (x1)), some (aI (x2)), some (aI (x3)), some (aI (x4)), some (aI (x5)), some (aI (x6)), some (aI (x6 + 1)), none] [] g P
    exact z_weak (by simp [lle]) h
set_option maxRecDepth 4000 in
theorem s_X11_returnsOf_107 {w : GX} {d : Nat} {P : PN} {g : GI} (x1 : Int) (x2 : Int) (x3 : Int) (x4 : Int) (x5 : Int) (x6 : Int) (x7 : Int)
    (h : ((nm x3 < nm x7 → Zm w (d + 5) mX11_returnsOf 95 [some (aR (some (228))), some (aI (x1)), some (aI (x2)), some (aI (x3)), some (aI (x4)), some (aI (x5)), some (aI (x6 + 1)), none, none] [] g P) ∧ (¬ nm x3 < nm x7 → Zm w (d + 4) mX11_crosses 0 [some (aR (some (228))), some (aI (x6)), some (aI (x1))] [] g (fun r g2 => r = none ∧ Zm w (d + 4) mX11_crosses 0 [some (aR (some (228))), some (aI (x7)), some (aI (x1))] [] g2 (fun r g4 => r = none ∧ Zm w (d + 4) mX11_isCalled 0 [some (aR (some (228))), some (aI (x1)), some (aI (x2)), some (aI (x3))] [] g4 (fun r g6 => ∃ z7 : Int, r = some (aI z7) ∧ (∀ g8 : GI, g8 = up2 g6 228 14 x5 → ((nm z7 = 0 → Zm w (d + 5) mX11_returnsOf 107 [some (aR (some (228))), some (aI (x1)), some (aI (x2)), some (aI (x3)), some (aI (x4)), some (aI (x5)), some (aI (x6)), some (aI (x7 + 1)), none] [] g8 P) ∧ (¬ nm z7 = 0 → ((¬ nm x4 = nm ((-1)) → ((¬ nm x4 = 0 → P (some (aI (x7))) g8) ∧ (nm x4 = 0 → P (some (aI (x6))) g8))) ∧ (nm x4 = nm ((-1)) → P (some (aI (2))) g8))))))))))) :
    Zm w (d + 5) mX11_returnsOf 107 [some (aR (some (228))), some (aI (x1)), some (aI (x2)), some (aI (x3)), some (aI (x4)), some (aI (x5)), some (aI (x6)), some (aI (x7)), none] [] g P := by
  refine z_iload dX11_returnsOf_107 rfl ?_
  refine z_iload_n dX11_returnsOf_109 rfl rfl ?_
  refine z_icmp_gt (tgt := 176) dX11_returnsOf_110 (by decide) (fun c1 => ?_) (fun c1 => ?_)
  · replace h := h.1 c1
    refine z_iinc dX11_returnsOf_176 rfl (by decide) rfl ?_
    show Zm w (d + 5) mX11_returnsOf 179 [some (aR (some (228))), some (aI (x1)), some (aI (x2)), some (aI (x3)), some (aI (x4)), some (aI (x5)), some (aI (x6 + 1)), some (aI (x7)), none] [] g P
    refine z_goto (tgt := 95) dX11_returnsOf_179 (by decide) ?_
    exact z_weak (by simp [lle]) h
  · replace h := h.2 c1
    refine z_aload_n dX11_returnsOf_113 rfl rfl ?_
    refine z_iload dX11_returnsOf_114 rfl ?_
    refine z_iload_n dX11_returnsOf_116 rfl rfl ?_
    refine m_callV (as := [aI (x6), aI (x1)]) dX11_returnsOf_117 lk_X11_178 mok_X11_crosses in_X11_crosses sl_X11_crosses kt_228 rfl rfl rfl (Nat.le_of_ble_eq_true rfl) rfl (Nat.le_of_ble_eq_true rfl) rfl (m_mono (fun r g2 hr => ?_) h)
    obtain ⟨rfl, h⟩ := hr
    show Zm w (d + 5) mX11_returnsOf 120 [some (aR (some (228))), some (aI (x1)), some (aI (x2)), some (aI (x3)), some (aI (x4)), some (aI (x5)), some (aI (x6)), some (aI (x7)), none] [] g2 P
    refine z_aload_n dX11_returnsOf_120 rfl rfl ?_
    refine z_iload dX11_returnsOf_121 rfl ?_
    refine z_iload_n dX11_returnsOf_123 rfl rfl ?_
    refine m_callV (as := [aI (x7), aI (x1)]) dX11_returnsOf_124 lk_X11_178 mok_X11_crosses in_X11_crosses sl_X11_crosses kt_228 rfl rfl rfl (Nat.le_of_ble_eq_true rfl) rfl (Nat.le_of_ble_eq_true rfl) rfl (m_mono (fun r g4 hr => ?_) h)
    obtain ⟨rfl, h⟩ := hr
    show Zm w (d + 5) mX11_returnsOf 127 [some (aR (some (228))), some (aI (x1)), some (aI (x2)), some (aI (x3)), some (aI (x4)), some (aI (x5)), some (aI (x6)), some (aI (x7)), none] [] g4 P
    refine z_aload_n dX11_returnsOf_127 rfl rfl ?_
    refine z_iload_n dX11_returnsOf_128 rfl rfl ?_
    refine z_iload_n dX11_returnsOf_129 rfl rfl ?_
    refine z_iload_n dX11_returnsOf_130 rfl rfl ?_
    refine m_callV (as := [aI (x1), aI (x2), aI (x3)]) dX11_returnsOf_131 lk_X11_259 mok_X11_isCalled in_X11_isCalled sl_X11_isCalled kt_228 rfl rfl rfl (Nat.le_of_ble_eq_true rfl) rfl (Nat.le_of_ble_eq_true rfl) rfl (m_mono (fun r g6 hr => ?_) h)
    obtain ⟨z7, rfl, h⟩ := hr
    show Zm w (d + 5) mX11_returnsOf 134 [some (aR (some (228))), some (aI (x1)), some (aI (x2)), some (aI (x3)), some (aI (x4)), some (aI (x5)), some (aI (x6)), some (aI (x7)), none] [aI (z7)] g6 P
    refine z_istore dX11_returnsOf_134 (by decide) rfl ?_
    show Zm w (d + 5) mX11_returnsOf 136 [some (aR (some (228))), some (aI (x1)), some (aI (x2)), some (aI (x3)), some (aI (x4)), some (aI (x5)), some (aI (x6)), some (aI (x7)), some (aI (z7))] [] g6 P
    refine z_aload_n dX11_returnsOf_136 rfl rfl ?_
    refine z_iload dX11_returnsOf_137 rfl ?_
    replace h := h _ rfl
    refine z_putI dX11_returnsOf_139 fw_X11_169 (by decide) kt_228 ?_
    refine z_iload dX11_returnsOf_142 rfl ?_
    refine z_if_eq (tgt := 170) dX11_returnsOf_144 (by decide) (fun c9 => ?_) (fun c9 => ?_)
    · replace h := h.1 c9
      refine z_iinc dX11_returnsOf_170 rfl (by decide) rfl ?_
      show Zm w (d + 5) mX11_returnsOf 173 [some (aR (some (228))), some (aI (x1)), some (aI (x2)), some (aI (x3)), some (aI (x4)), some (aI (x5)), some (aI (x6)), some (aI (x7 + 1)), some (aI (z7))] [] (up2 g6 228 14 x5) P
      refine z_goto (tgt := 107) dX11_returnsOf_173 (by decide) ?_
      exact z_weak (by simp [lle]) h
    · replace h := h.2 c9
      refine z_iload dX11_returnsOf_147 rfl ?_
      refine z_iconst dX11_returnsOf_149 ?_
      refine z_icmp_ne (tgt := 157) dX11_returnsOf_150 (by decide) (fun c10 => ?_) (fun c10 => ?_)
      · replace h := h.1 c10
        refine z_iload dX11_returnsOf_157 rfl ?_
        refine z_if_ne (tgt := 167) dX11_returnsOf_159 (by decide) (fun c11 => ?_) (fun c11 => ?_)
        · replace h := h.1 c11
          refine z_iload dX11_returnsOf_167 rfl ?_
          exact m_iret dX11_returnsOf_169 rfl h
        · replace h := h.2 (Decidable.not_not.mp c11)
          refine z_iload dX11_returnsOf_162 rfl ?_
          refine z_goto (tgt := 169) dX11_returnsOf_164 (by decide) ?_
          exact m_iret dX11_returnsOf_169 rfl h
      · replace h := h.2 (Decidable.not_not.mp c10)
        refine z_iconst dX11_returnsOf_153 ?_
        refine z_goto (tgt := 169) dX11_returnsOf_154 (by decide) ?_
        exact m_iret dX11_returnsOf_169 rfl h
theorem dX11_returns_0 : decode cX11_returns 0 = .ok (.aload_n 0, 1) := by decide +kernel
theorem dX11_returns_1 : decode cX11_returns 1 = .ok (.invokevirtual 161, 3) := by decide +kernel
theorem dX11_returns_4 : decode cX11_returns 4 = .ok (.aload_n 0, 1) := by decide +kernel
theorem dX11_returns_5 : decode cX11_returns 5 = .ok (.iload_n 1, 1) := by decide +kernel
theorem dX11_returns_6 : decode cX11_returns 6 = .ok (.invokevirtual 164, 3) := by decide +kernel
theorem dX11_returns_9 : decode cX11_returns 9 = .ok (.ifCond .eq 47, 3) := by decide +kernel
theorem dX11_returns_12 : decode cX11_returns 12 = .ok (.iload_n 2, 1) := by decide +kernel
theorem dX11_returns_13 : decode cX11_returns 13 = .ok (.i2l, 1) := by decide +kernel
theorem dX11_returns_14 : decode cX11_returns 14 = .ok (.lconst 0, 1) := by decide +kernel
theorem dX11_returns_15 : decode cX11_returns 15 = .ok (.ldc2_w 263, 3) := by decide +kernel
theorem dX11_returns_18 : decode cX11_returns 18 = .ok (.invokestatic 88, 3) := by decide +kernel
theorem dX11_returns_21 : decode cX11_returns 21 = .ok (.ifCond .eq 35, 3) := by decide +kernel
theorem dX11_returns_24 : decode cX11_returns 24 = .ok (.iload_n 3, 1) := by decide +kernel
theorem dX11_returns_25 : decode cX11_returns 25 = .ok (.invokestatic 172, 3) := by decide +kernel
theorem dX11_returns_28 : decode cX11_returns 28 = .ok (.ifCond .eq 28, 3) := by decide +kernel
theorem dX11_returns_31 : decode cX11_returns 31 = .ok (.iload 4, 2) := by decide +kernel
theorem dX11_returns_33 : decode cX11_returns 33 = .ok (.i2l, 1) := by decide +kernel
theorem dX11_returns_34 : decode cX11_returns 34 = .ok (.ldc2_w 265, 3) := by decide +kernel
theorem dX11_returns_37 : decode cX11_returns 37 = .ok (.lconst 1, 1) := by decide +kernel
theorem dX11_returns_38 : decode cX11_returns 38 = .ok (.invokestatic 88, 3) := by decide +kernel
theorem dX11_returns_41 : decode cX11_returns 41 = .ok (.ifCond .eq 15, 3) := by decide +kernel
theorem dX11_returns_44 : decode cX11_returns 44 = .ok (.aload_n 0, 1) := by decide +kernel
theorem dX11_returns_45 : decode cX11_returns 45 = .ok (.iload_n 1, 1) := by decide +kernel
theorem dX11_returns_46 : decode cX11_returns 46 = .ok (.iload_n 2, 1) := by decide +kernel
theorem dX11_returns_47 : decode cX11_returns 47 = .ok (.iload_n 3, 1) := by decide +kernel
theorem dX11_returns_48 : decode cX11_returns 48 = .ok (.iload 4, 2) := by decide +kernel
theorem dX11_returns_50 : decode cX11_returns 50 = .ok (.invokevirtual 267, 3) := by decide +kernel
theorem dX11_returns_53 : decode cX11_returns 53 = .ok (.goto 5, 3) := by decide +kernel
theorem dX11_returns_56 : decode cX11_returns 56 = .ok (.bipush (-2), 2) := by decide +kernel
theorem dX11_returns_58 : decode cX11_returns 58 = .ok (.ireturn, 1) := by decide +kernel
set_option maxRecDepth 4000 in
theorem s_X11_returns_0 {w : GX} {d : Nat} {P : PN} {g : GI} (x1 : Int) (x2 : Int) (x3 : Int) (x4 : Int)
    (h : Zm w (d + 5) mX11_reads 0 [some (aR (some (228)))] [] g (fun r g1 => r = none ∧ (((nm (inn (x1) 0 (nm (g1 228 10 - 1))) = 0 → P (some (aI ((-2)))) g1) ∧ (¬ nm (inn (x1) 0 (nm (g1 228 10 - 1))) = 0 → (((nm (lin (nm x2) (0) (25)) = 0 → P (some (aI ((-2)))) g1) ∧ (¬ nm (lin (nm x2) (0) (25)) = 0 → (((nm (inn (x3) 0 19) = 0 → P (some (aI ((-2)))) g1) ∧ (¬ nm (inn (x3) 0 19) = 0 → (((nm (lin (nm x4) ((-1)) (1)) = 0 → P (some (aI ((-2)))) g1) ∧ (¬ nm (lin (nm x4) ((-1)) (1)) = 0 → Zm w (d + 5) mX11_returnsOf 0 [some (aR (some (228))), some (aI (x1)), some (aI (x2)), some (aI (x3)), some (aI (x4)), none, none, none, none] [] g1 (fun r g7 => ∃ z8 : Int, r = some (aI z8) ∧ P (some (aI (z8))) g7))))))))))))))) :
    Zm w (d + 6) mX11_returns 0 [some (aR (some (228))), some (aI (x1)), some (aI (x2)), some (aI (x3)), some (aI (x4))] [] g P := by
  refine z_aload_n dX11_returns_0 rfl rfl ?_
  refine m_callV (as := []) dX11_returns_1 lk_X11_161 mok_X11_reads in_X11_reads sl_X11_reads kt_228 rfl rfl rfl (Nat.le_of_ble_eq_true rfl) rfl (Nat.le_of_ble_eq_true rfl) rfl (m_mono (fun r g1 hr => ?_) h)
  obtain ⟨rfl, h⟩ := hr
  show Zm w (d + 6) mX11_returns 4 [some (aR (some (228))), some (aI (x1)), some (aI (x2)), some (aI (x3)), some (aI (x4))] [] g1 P
  refine z_aload_n dX11_returns_4 rfl rfl ?_
  refine z_iload_n dX11_returns_5 rfl rfl ?_
  refine m_callV (as := [aI (x1)]) dX11_returns_6 lk_X11_164 mok_X11_isPerson in_X11_isPerson sl_X11_isPerson kt_228 rfl rfl rfl (Nat.le_of_ble_eq_true rfl) rfl (Nat.le_of_ble_eq_true rfl) rfl (c_X11_isPerson  ?_)
  show Zm w (d + 6) mX11_returns 9 [some (aR (some (228))), some (aI (x1)), some (aI (x2)), some (aI (x3)), some (aI (x4))] [aI (inn (x1) 0 (nm (g1 228 10 - 1)))] g1 P
  refine z_if_eq (tgt := 56) dX11_returns_9 (by decide) (fun c3 => ?_) (fun c3 => ?_)
  · replace h := h.1 c3
    refine z_bipush dX11_returns_56 rfl ?_
    exact m_iret dX11_returns_58 rfl h
  · replace h := h.2 c3
    refine z_iload_n dX11_returns_12 rfl rfl ?_
    refine z_i2l dX11_returns_13 ?_
    refine z_lconst (z := 0) dX11_returns_14 rfl ?_
    refine z_ldc2 dX11_returns_15 kl_X11_263 ?_
    refine m_callS (as := [aL (nm x2), aL (0), aL (25)]) dX11_returns_18 lk_X11_88 mok_X11_in st_X11_in rfl (Nat.le_of_ble_eq_true rfl) rfl (Nat.le_of_ble_eq_true rfl) rfl (c_X11_in  ?_)
    show Zm w (d + 6) mX11_returns 21 [some (aR (some (228))), some (aI (x1)), some (aI (x2)), some (aI (x3)), some (aI (x4))] [aI (lin (nm x2) (0) (25))] g1 P
    refine z_if_eq (tgt := 56) dX11_returns_21 (by decide) (fun c4 => ?_) (fun c4 => ?_)
    · replace h := h.1 c4
      refine z_bipush dX11_returns_56 rfl ?_
      exact m_iret dX11_returns_58 rfl h
    · replace h := h.2 c4
      refine z_iload_n dX11_returns_24 rfl rfl ?_
      refine m_callS (as := [aI (x3)]) dX11_returns_25 lk_X11_172 mok_X11_isDay st_X11_isDay rfl (Nat.le_of_ble_eq_true rfl) rfl (Nat.le_of_ble_eq_true rfl) rfl (c_X11_isDay  ?_)
      show Zm w (d + 6) mX11_returns 28 [some (aR (some (228))), some (aI (x1)), some (aI (x2)), some (aI (x3)), some (aI (x4))] [aI (inn (x3) 0 19)] g1 P
      refine z_if_eq (tgt := 56) dX11_returns_28 (by decide) (fun c5 => ?_) (fun c5 => ?_)
      · replace h := h.1 c5
        refine z_bipush dX11_returns_56 rfl ?_
        exact m_iret dX11_returns_58 rfl h
      · replace h := h.2 c5
        refine z_iload dX11_returns_31 rfl ?_
        refine z_i2l dX11_returns_33 ?_
        refine z_ldc2 dX11_returns_34 kl_X11_265 ?_
        refine z_lconst (z := 1) dX11_returns_37 rfl ?_
        refine m_callS (as := [aL (nm x4), aL ((-1)), aL (1)]) dX11_returns_38 lk_X11_88 mok_X11_in st_X11_in rfl (Nat.le_of_ble_eq_true rfl) rfl (Nat.le_of_ble_eq_true rfl) rfl (c_X11_in  ?_)
        show Zm w (d + 6) mX11_returns 41 [some (aR (some (228))), some (aI (x1)), some (aI (x2)), some (aI (x3)), some (aI (x4))] [aI (lin (nm x4) ((-1)) (1))] g1 P
        refine z_if_eq (tgt := 56) dX11_returns_41 (by decide) (fun c6 => ?_) (fun c6 => ?_)
        · replace h := h.1 c6
          refine z_bipush dX11_returns_56 rfl ?_
          exact m_iret dX11_returns_58 rfl h
        · replace h := h.2 c6
          refine z_aload_n dX11_returns_44 rfl rfl ?_
          refine z_iload_n dX11_returns_45 rfl rfl ?_
          refine z_iload_n dX11_returns_46 rfl rfl ?_
          refine z_iload_n dX11_returns_47 rfl rfl ?_
          refine z_iload dX11_returns_48 rfl ?_
          refine m_callV (as := [aI (x1), aI (x2), aI (x3), aI (x4)]) dX11_returns_50 lk_X11_267 mok_X11_returnsOf in_X11_returnsOf sl_X11_returnsOf kt_228 rfl rfl rfl (Nat.le_of_ble_eq_true rfl) rfl (Nat.le_of_ble_eq_true rfl) rfl (m_mono (fun r g7 hr => ?_) h)
          obtain ⟨z8, rfl, h⟩ := hr
          show Zm w (d + 6) mX11_returns 53 [some (aR (some (228))), some (aI (x1)), some (aI (x2)), some (aI (x3)), some (aI (x4))] [aI (z8)] g7 P
          refine z_goto (tgt := 58) dX11_returns_53 (by decide) ?_
          exact m_iret dX11_returns_58 rfl h
theorem dX11_soldNow_0 : decode cX11_soldNow 0 = .ok (.iconst 0, 1) := by decide +kernel
theorem dX11_soldNow_1 : decode cX11_soldNow 1 = .ok (.istore_n 1, 1) := by decide +kernel
theorem dX11_soldNow_2 : decode cX11_soldNow 2 = .ok (.iconst 0, 1) := by decide +kernel
theorem dX11_soldNow_3 : decode cX11_soldNow 3 = .ok (.istore_n 2, 1) := by decide +kernel
theorem dX11_soldNow_4 : decode cX11_soldNow 4 = .ok (.iload_n 2, 1) := by decide +kernel
theorem dX11_soldNow_5 : decode cX11_soldNow 5 = .ok (.aload_n 0, 1) := by decide +kernel
theorem dX11_soldNow_6 : decode cX11_soldNow 6 = .ok (.invokevirtual 241, 3) := by decide +kernel
theorem dX11_soldNow_9 : decode cX11_soldNow 9 = .ok (.if_icmp .ge 32, 3) := by decide +kernel
theorem dX11_soldNow_12 : decode cX11_soldNow 12 = .ok (.iload_n 1, 1) := by decide +kernel
theorem dX11_soldNow_13 : decode cX11_soldNow 13 = .ok (.aload_n 0, 1) := by decide +kernel
theorem dX11_soldNow_14 : decode cX11_soldNow 14 = .ok (.getfield 52, 3) := by decide +kernel
theorem dX11_soldNow_17 : decode cX11_soldNow 17 = .ok (.iload_n 2, 1) := by decide +kernel
theorem dX11_soldNow_18 : decode cX11_soldNow 18 = .ok (.iaload, 1) := by decide +kernel
theorem dX11_soldNow_19 : decode cX11_soldNow 19 = .ok (.bipush 21, 2) := by decide +kernel
theorem dX11_soldNow_21 : decode cX11_soldNow 21 = .ok (.if_icmp .ne 11, 3) := by decide +kernel
theorem dX11_soldNow_24 : decode cX11_soldNow 24 = .ok (.aload_n 0, 1) := by decide +kernel
theorem dX11_soldNow_25 : decode cX11_soldNow 25 = .ok (.iload_n 2, 1) := by decide +kernel
theorem dX11_soldNow_26 : decode cX11_soldNow 26 = .ok (.invokevirtual 226, 3) := by decide +kernel
theorem dX11_soldNow_29 : decode cX11_soldNow 29 = .ok (.goto 4, 3) := by decide +kernel
theorem dX11_soldNow_32 : decode cX11_soldNow 32 = .ok (.iconst 0, 1) := by decide +kernel
theorem dX11_soldNow_33 : decode cX11_soldNow 33 = .ok (.iadd, 1) := by decide +kernel
theorem dX11_soldNow_34 : decode cX11_soldNow 34 = .ok (.istore_n 1, 1) := by decide +kernel
theorem dX11_soldNow_35 : decode cX11_soldNow 35 = .ok (.iinc 2 1, 3) := by decide +kernel
theorem dX11_soldNow_38 : decode cX11_soldNow 38 = .ok (.goto (-34), 3) := by decide +kernel
theorem dX11_soldNow_41 : decode cX11_soldNow 41 = .ok (.iload_n 1, 1) := by decide +kernel
theorem dX11_soldNow_42 : decode cX11_soldNow 42 = .ok (.ireturn, 1) := by decide +kernel
set_option maxRecDepth 4000 in
theorem s_X11_soldNow_0 {w : GX} {d : Nat} {P : PN} {g : GI} 
    (h : Zm w (d + 1) mX11_soldNow 4 [some (aR (some (228))), some (aI (0)), some (aI (0))] [] g P) :
    Zm w (d + 1) mX11_soldNow 0 [some (aR (some (228))), none, none] [] g P := by
  refine z_iconst dX11_soldNow_0 ?_
  refine z_istore_n dX11_soldNow_1 rfl (by decide) rfl ?_
  show Zm w (d + 1) mX11_soldNow 2 [some (aR (some (228))), some (aI (0)), none] [] g P
  refine z_iconst dX11_soldNow_2 ?_
  refine z_istore_n dX11_soldNow_3 rfl (by decide) rfl ?_
  show Zm w (d + 1) mX11_soldNow 4 [some (aR (some (228))), some (aI (0)), some (aI (0))] [] g P
  exact z_weak (by simp [lle]) h
set_option maxRecDepth 4000 in
theorem s_X11_soldNow_4 {w : GX} {d : Nat} {P : PN} {g : GI} (x1 : Int) (x2 : Int)
    (h : (((¬ nm x2 < nm (g 228 12 + g 228 10) → P (some (aI (x1))) g) ∧ (nm x2 < nm (g 228 12 + g 228 10) → (0 ≤ nm x2 ∧ nm x2 < 28 ∧ ((¬ nm (g 243 (nm x2).toNat) = nm 21 → (∀ v7 : Int, v7 = x1 + 0 → Zm w (d + 1) mX11_soldNow 4 [some (aR (some (228))), some (aI (v7)), some (aI (x2 + 1))] [] g P)) ∧ (nm (g 243 (nm x2).toNat) = nm 21 → Zm w d mX11_owesBy 0 [some (aR (some (228))), some (aI (x2))] [] g (fun r g8 => ∃ z9 : Int, r = some (aI z9) ∧ (∀ v10 : Int, v10 = x1 + z9 → Zm w (d + 1) mX11_soldNow 4 [some (aR (some (228))), some (aI (v10)), some (aI (x2 + 1))] [] g8 P))))))))) :
    Zm w (d + 1) mX11_soldNow 4 [some (aR (some (228))), some (aI (x1)), some (aI (x2))] [] g P := by
  refine z_iload_n dX11_soldNow_4 rfl rfl ?_
  refine z_aload_n dX11_soldNow_5 rfl rfl ?_
  refine m_callV (as := []) dX11_soldNow_6 lk_X11_241 mok_X11_names in_X11_names sl_X11_names kt_228 rfl rfl rfl (Nat.le_of_ble_eq_true rfl) rfl (Nat.le_of_ble_eq_true rfl) rfl (c_X11_names  ?_)
  show Zm w (d + 1) mX11_soldNow 9 [some (aR (some (228))), some (aI (x1)), some (aI (x2))] [aI (g 228 12 + g 228 10), aI (x2)] g P
  refine z_icmp_ge (tgt := 41) dX11_soldNow_9 (by decide) (fun c1 => ?_) (fun c1 => ?_)
  · replace h := h.1 c1
    refine z_iload_n dX11_soldNow_41 rfl rfl ?_
    exact m_iret dX11_soldNow_42 rfl h
  · replace h := h.2 (Decidable.not_not.mp c1)
    refine z_iload_n dX11_soldNow_12 rfl rfl ?_
    refine z_aload_n dX11_soldNow_13 rfl rfl ?_
    refine m_getR dX11_soldNow_14 fl_X11_52 (by decide) kt_228 rv_228_22 ?_
    refine z_iload_n dX11_soldNow_17 rfl rfl ?_
    obtain ⟨q4, q5, h⟩ := h
    refine m_iald dX11_soldNow_18 kv_243 q4 q5 ?_
    refine z_bipush dX11_soldNow_19 rfl ?_
    refine z_icmp_ne (tgt := 32) dX11_soldNow_21 (by decide) (fun c6 => ?_) (fun c6 => ?_)
    · replace h := h.1 c6
      refine z_iconst dX11_soldNow_32 ?_
      refine z_iadd dX11_soldNow_33 ?_
      replace h := h _ rfl
      refine z_istore_n dX11_soldNow_34 rfl (by decide) rfl ?_
      show Zm w (d + 1) mX11_soldNow 35 [some (aR (some (228))), some (aI (x1 + 0)), some (aI (x2))] [] g P
      refine z_iinc dX11_soldNow_35 rfl (by decide) rfl ?_
      show Zm w (d + 1) mX11_soldNow 38 [some (aR (some (228))), some (aI ((x1 + 0))), some (aI (x2 + 1))] [] g P
      refine z_goto (tgt := 4) dX11_soldNow_38 (by decide) ?_
      exact z_weak (by simp [lle]) h
    · replace h := h.2 (Decidable.not_not.mp c6)
      refine z_aload_n dX11_soldNow_24 rfl rfl ?_
      refine z_iload_n dX11_soldNow_25 rfl rfl ?_
      refine m_callV (as := [aI (x2)]) dX11_soldNow_26 lk_X11_226 mok_X11_owesBy in_X11_owesBy sl_X11_owesBy kt_228 rfl rfl rfl (Nat.le_of_ble_eq_true rfl) rfl (Nat.le_of_ble_eq_true rfl) rfl (m_mono (fun r g8 hr => ?_) h)
      obtain ⟨z9, rfl, h⟩ := hr
      show Zm w (d + 1) mX11_soldNow 29 [some (aR (some (228))), some (aI (x1)), some (aI (x2))] [aI (z9), aI (x1)] g8 P
      refine z_goto (tgt := 33) dX11_soldNow_29 (by decide) ?_
      refine z_iadd dX11_soldNow_33 ?_
      replace h := h _ rfl
      refine z_istore_n dX11_soldNow_34 rfl (by decide) rfl ?_
      show Zm w (d + 1) mX11_soldNow 35 [some (aR (some (228))), some (aI (x1 + z9)), some (aI (x2))] [] g8 P
      refine z_iinc dX11_soldNow_35 rfl (by decide) rfl ?_
      show Zm w (d + 1) mX11_soldNow 38 [some (aR (some (228))), some (aI ((x1 + z9))), some (aI (x2 + 1))] [] g8 P
      refine z_goto (tgt := 4) dX11_soldNow_38 (by decide) ?_
      exact z_weak (by simp [lle]) h
theorem dX11_netOf_0 : decode cX11_netOf 0 = .ok (.aload_n 0, 1) := by decide +kernel
theorem dX11_netOf_1 : decode cX11_netOf 1 = .ok (.getfield 182, 3) := by decide +kernel
theorem dX11_netOf_4 : decode cX11_netOf 4 = .ok (.istore_n 3, 1) := by decide +kernel
theorem dX11_netOf_5 : decode cX11_netOf 5 = .ok (.iconst (-1), 1) := by decide +kernel
theorem dX11_netOf_6 : decode cX11_netOf 6 = .ok (.istore 4, 2) := by decide +kernel
theorem dX11_netOf_8 : decode cX11_netOf 8 = .ok (.iconst (-1), 1) := by decide +kernel
theorem dX11_netOf_9 : decode cX11_netOf 9 = .ok (.istore 5, 2) := by decide +kernel
theorem dX11_netOf_11 : decode cX11_netOf 11 = .ok (.iconst (-1), 1) := by decide +kernel
theorem dX11_netOf_12 : decode cX11_netOf 12 = .ok (.istore 6, 2) := by decide +kernel
theorem dX11_netOf_14 : decode cX11_netOf 14 = .ok (.iconst 0, 1) := by decide +kernel
theorem dX11_netOf_15 : decode cX11_netOf 15 = .ok (.istore 7, 2) := by decide +kernel
theorem dX11_netOf_17 : decode cX11_netOf 17 = .ok (.iload 7, 2) := by decide +kernel
theorem dX11_netOf_19 : decode cX11_netOf 19 = .ok (.aload_n 0, 1) := by decide +kernel
theorem dX11_netOf_20 : decode cX11_netOf 20 = .ok (.getfield 125, 3) := by decide +kernel
theorem dX11_netOf_23 : decode cX11_netOf 23 = .ok (.if_icmp .ge 107, 3) := by decide +kernel
theorem dX11_netOf_26 : decode cX11_netOf 26 = .ok (.iload 7, 2) := by decide +kernel
theorem dX11_netOf_28 : decode cX11_netOf 28 = .ok (.istore 8, 2) := by decide +kernel
theorem dX11_netOf_30 : decode cX11_netOf 30 = .ok (.iload 8, 2) := by decide +kernel
theorem dX11_netOf_32 : decode cX11_netOf 32 = .ok (.aload_n 0, 1) := by decide +kernel
theorem dX11_netOf_33 : decode cX11_netOf 33 = .ok (.getfield 125, 3) := by decide +kernel
theorem dX11_netOf_36 : decode cX11_netOf 36 = .ok (.if_icmp .ge 88, 3) := by decide +kernel
theorem dX11_netOf_39 : decode cX11_netOf 39 = .ok (.aload_n 0, 1) := by decide +kernel
theorem dX11_netOf_40 : decode cX11_netOf 40 = .ok (.iload_n 1, 1) := by decide +kernel
theorem dX11_netOf_41 : decode cX11_netOf 41 = .ok (.iload 7, 2) := by decide +kernel
theorem dX11_netOf_43 : decode cX11_netOf 43 = .ok (.invokevirtual 185, 3) := by decide +kernel
theorem dX11_netOf_46 : decode cX11_netOf 46 = .ok (.aload_n 0, 1) := by decide +kernel
theorem dX11_netOf_47 : decode cX11_netOf 47 = .ok (.iload_n 1, 1) := by decide +kernel
theorem dX11_netOf_48 : decode cX11_netOf 48 = .ok (.iload 8, 2) := by decide +kernel
theorem dX11_netOf_50 : decode cX11_netOf 50 = .ok (.invokevirtual 185, 3) := by decide +kernel
theorem dX11_netOf_53 : decode cX11_netOf 53 = .ok (.aload_n 0, 1) := by decide +kernel
theorem dX11_netOf_54 : decode cX11_netOf 54 = .ok (.bipush 19, 2) := by decide +kernel
theorem dX11_netOf_56 : decode cX11_netOf 56 = .ok (.invokevirtual 232, 3) := by decide +kernel
theorem dX11_netOf_59 : decode cX11_netOf 59 = .ok (.aload_n 0, 1) := by decide +kernel
theorem dX11_netOf_60 : decode cX11_netOf 60 = .ok (.iload_n 3, 1) := by decide +kernel
theorem dX11_netOf_61 : decode cX11_netOf 61 = .ok (.putfield 182, 3) := by decide +kernel
theorem dX11_netOf_64 : decode cX11_netOf 64 = .ok (.aload_n 0, 1) := by decide +kernel
theorem dX11_netOf_65 : decode cX11_netOf 65 = .ok (.invokevirtual 271, 3) := by decide +kernel
theorem dX11_netOf_68 : decode cX11_netOf 68 = .ok (.istore 9, 2) := by decide +kernel
theorem dX11_netOf_70 : decode cX11_netOf 70 = .ok (.iload 9, 2) := by decide +kernel
theorem dX11_netOf_72 : decode cX11_netOf 72 = .ok (.iload 4, 2) := by decide +kernel
theorem dX11_netOf_74 : decode cX11_netOf 74 = .ok (.if_icmp .le 8, 3) := by decide +kernel
theorem dX11_netOf_77 : decode cX11_netOf 77 = .ok (.iload 7, 2) := by decide +kernel
theorem dX11_netOf_79 : decode cX11_netOf 79 = .ok (.goto 5, 3) := by decide +kernel
theorem dX11_netOf_82 : decode cX11_netOf 82 = .ok (.iload 5, 2) := by decide +kernel
theorem dX11_netOf_84 : decode cX11_netOf 84 = .ok (.istore 5, 2) := by decide +kernel
theorem dX11_netOf_86 : decode cX11_netOf 86 = .ok (.iload 9, 2) := by decide +kernel
theorem dX11_netOf_88 : decode cX11_netOf 88 = .ok (.iload 4, 2) := by decide +kernel
theorem dX11_netOf_90 : decode cX11_netOf 90 = .ok (.if_icmp .le 8, 3) := by decide +kernel
theorem dX11_netOf_93 : decode cX11_netOf 93 = .ok (.iload 8, 2) := by decide +kernel
theorem dX11_netOf_95 : decode cX11_netOf 95 = .ok (.goto 5, 3) := by decide +kernel
theorem dX11_netOf_98 : decode cX11_netOf 98 = .ok (.iload 6, 2) := by decide +kernel
theorem dX11_netOf_100 : decode cX11_netOf 100 = .ok (.istore 6, 2) := by decide +kernel
theorem dX11_netOf_102 : decode cX11_netOf 102 = .ok (.iload 9, 2) := by decide +kernel
theorem dX11_netOf_104 : decode cX11_netOf 104 = .ok (.iload 4, 2) := by decide +kernel
theorem dX11_netOf_106 : decode cX11_netOf 106 = .ok (.if_icmp .le 8, 3) := by decide +kernel
theorem dX11_netOf_109 : decode cX11_netOf 109 = .ok (.iload 9, 2) := by decide +kernel
theorem dX11_netOf_111 : decode cX11_netOf 111 = .ok (.goto 5, 3) := by decide +kernel
theorem dX11_netOf_114 : decode cX11_netOf 114 = .ok (.iload 4, 2) := by decide +kernel
theorem dX11_netOf_116 : decode cX11_netOf 116 = .ok (.istore 4, 2) := by decide +kernel
theorem dX11_netOf_118 : decode cX11_netOf 118 = .ok (.iinc 8 1, 3) := by decide +kernel
theorem dX11_netOf_121 : decode cX11_netOf 121 = .ok (.goto (-91), 3) := by decide +kernel
theorem dX11_netOf_124 : decode cX11_netOf 124 = .ok (.iinc 7 1, 3) := by decide +kernel
theorem dX11_netOf_127 : decode cX11_netOf 127 = .ok (.goto (-110), 3) := by decide +kernel
theorem dX11_netOf_130 : decode cX11_netOf 130 = .ok (.iload_n 2, 1) := by decide +kernel
theorem dX11_netOf_131 : decode cX11_netOf 131 = .ok (.iconst (-1), 1) := by decide +kernel
theorem dX11_netOf_132 : decode cX11_netOf 132 = .ok (.if_icmp .ne 8, 3) := by decide +kernel
theorem dX11_netOf_135 : decode cX11_netOf 135 = .ok (.iload 4, 2) := by decide +kernel
theorem dX11_netOf_137 : decode cX11_netOf 137 = .ok (.goto 14, 3) := by decide +kernel
theorem dX11_netOf_140 : decode cX11_netOf 140 = .ok (.iload_n 2, 1) := by decide +kernel
theorem dX11_netOf_141 : decode cX11_netOf 141 = .ok (.ifCond .ne 8, 3) := by decide +kernel
theorem dX11_netOf_144 : decode cX11_netOf 144 = .ok (.iload 5, 2) := by decide +kernel
theorem dX11_netOf_146 : decode cX11_netOf 146 = .ok (.goto 5, 3) := by decide +kernel
theorem dX11_netOf_149 : decode cX11_netOf 149 = .ok (.iload 6, 2) := by decide +kernel
theorem dX11_netOf_151 : decode cX11_netOf 151 = .ok (.ireturn, 1) := by decide +kernel
set_option maxRecDepth 4000 in
theorem s_X11_netOf_0 {w : GX} {d : Nat} {P : PN} {g : GI} (x1 : Int) (x2 : Int)
    (h : (∀ v1 : Int, v1 = g 228 16 → (∀ v2 : Int, v2 = (-1) → (∀ v3 : Int, v3 = (-1) → (∀ v4 : Int, v4 = (-1) → Zm w (d + 4) mX11_netOf 17 [some (aR (some (228))), some (aI (x1)), some (aI (x2)), some (aI (v1)), some (aI (v2)), some (aI (v3)), some (aI (v4)), some (aI (0)), none, none] [] g P))))) :
    Zm w (d + 4) mX11_netOf 0 [some (aR (some (228))), some (aI (x1)), some (aI (x2)), none, none, none, none, none, none, none] [] g P := by
  refine z_aload_n dX11_netOf_0 rfl rfl ?_
  refine z_getI dX11_netOf_1 fl_X11_182 (by decide) kt_228 ?_
  replace h := h _ rfl
  refine z_istore_n dX11_netOf_4 rfl (by decide) rfl ?_
  show Zm w (d + 4) mX11_netOf 5 [some (aR (some (228))), some (aI (x1)), some (aI (x2)), some (aI (g 228 16)), none, none, none, none, none, none] [] g P
  refine z_iconst dX11_netOf_5 ?_
  replace h := h _ rfl
  refine z_istore dX11_netOf_6 (by decide) rfl ?_
  show Zm w (d + 4) mX11_netOf 8 [some (aR (some (228))), some (aI (x1)), some (aI (x2)), some (aI ((g 228 16))), some (aI ((-1))), none, none, none, none, none] [] g P
  refine z_iconst dX11_netOf_8 ?_
  replace h := h _ rfl
  refine z_istore dX11_netOf_9 (by decide) rfl ?_
  show Zm w (d + 4) mX11_netOf 11 [some (aR (some (228))), some (aI (x1)), some (aI (x2)), some (aI ((g 228 16))), some (aI (((-1)))), some (aI ((-1))), none, none, none, none] [] g P
  refine z_iconst dX11_netOf_11 ?_
  replace h := h _ rfl
  refine z_istore dX11_netOf_12 (by decide) rfl ?_
  show Zm w (d + 4) mX11_netOf 14 [some (aR (some (228))), some (aI (x1)), some (aI (x2)), some (aI ((g 228 16))), some (aI (((-1)))), some (aI (((-1)))), some (aI ((-1))), none, none, none] [] g P
  refine z_iconst dX11_netOf_14 ?_
  refine z_istore dX11_netOf_15 (by decide) rfl ?_
  show Zm w (d + 4) mX11_netOf 17 [some (aR (some (228))), some (aI (x1)), some (aI (x2)), some (aI ((g 228 16))), some (aI (((-1)))), some (aI (((-1)))), some (aI (((-1)))), some (aI (0)), none, none] [] g P
  exact z_weak (by simp [lle]) h
set_option maxRecDepth 4000 in
theorem s_X11_netOf_17 {w : GX} {d : Nat} {P : PN} {g : GI} (x1 : Int) (x2 : Int) (x3 : Int) (x4 : Int) (x5 : Int) (x6 : Int) (x7 : Int)
    (h : ((¬ nm x7 < nm (g 228 7) → ((¬ nm x2 = nm ((-1)) → ((¬ nm x2 = 0 → P (some (aI (x6))) g) ∧ (nm x2 = 0 → P (some (aI (x5))) g))) ∧ (nm x2 = nm ((-1)) → P (some (aI (x4))) g))) ∧ (nm x7 < nm (g 228 7) → Zm w (d + 4) mX11_netOf 30 [some (aR (some (228))), some (aI (x1)), some (aI (x2)), some (aI (x3)), some (aI (x4)), some (aI (x5)), some (aI (x6)), some (aI (x7)), some (aI (x7)), none] [] g P))) :
    Zm w (d + 4) mX11_netOf 17 [some (aR (some (228))), some (aI (x1)), some (aI (x2)), some (aI (x3)), some (aI (x4)), some (aI (x5)), some (aI (x6)), some (aI (x7)), none, none] [] g P := by
  refine z_iload dX11_netOf_17 rfl ?_
  refine z_aload_n dX11_netOf_19 rfl rfl ?_
  refine z_getI dX11_netOf_20 fl_X11_125 (by decide) kt_228 ?_
  refine z_icmp_ge (tgt := 130) dX11_netOf_23 (by decide) (fun c1 => ?_) (fun c1 => ?_)
  · replace h := h.1 c1
    refine z_iload_n dX11_netOf_130 rfl rfl ?_
    refine z_iconst dX11_netOf_131 ?_
    refine z_icmp_ne (tgt := 140) dX11_netOf_132 (by decide) (fun c2 => ?_) (fun c2 => ?_)
    · replace h := h.1 c2
      refine z_iload_n dX11_netOf_140 rfl rfl ?_
      refine z_if_ne (tgt := 149) dX11_netOf_141 (by decide) (fun c3 => ?_) (fun c3 => ?_)
      · replace h := h.1 c3
        refine z_iload dX11_netOf_149 rfl ?_
        exact m_iret dX11_netOf_151 rfl h
      · replace h := h.2 (Decidable.not_not.mp c3)
        refine z_iload dX11_netOf_144 rfl ?_
        refine z_goto (tgt := 151) dX11_netOf_146 (by decide) ?_
        exact m_iret dX11_netOf_151 rfl h
    · replace h := h.2 (Decidable.not_not.mp c2)
      refine z_iload dX11_netOf_135 rfl ?_
      refine z_goto (tgt := 151) dX11_netOf_137 (by decide) ?_
      exact m_iret dX11_netOf_151 rfl h
  · replace h := h.2 (Decidable.not_not.mp c1)
    refine z_iload dX11_netOf_26 rfl ?_
    refine z_istore dX11_netOf_28 (by decide) rfl ?_
    show Zm w (d + 4) mX11_netOf 30 [some (aR (some (228))), some (aI (x1)), some (aI (x2)), some (aI (x3)), some (aI (x4)), some (aI (x5)), some (aI (x6)), some (aI (x7)), some (aI (x7)), none] [] g P
    exact z_weak (by simp [lle]) h
set_option maxRecDepth 4000 in
theorem s_X11_netOf_30 {w : GX} {d : Nat} {P : PN} {g : GI} (x1 : Int) (x2 : Int) (x3 : Int) (x4 : Int) (x5 : Int) (x6 : Int) (x7 : Int) (x8 : Int)
    (h : ((¬ nm x8 < nm (g 228 7) → Zm w (d + 4) mX11_netOf 17 [some (aR (some (228))), some (aI (x1)), some (aI (x2)), some (aI (x3)), some (aI (x4)), some (aI (x5)), some (aI (x6)), some (aI (x7 + 1)), none, none] [] g P) ∧ (nm x8 < nm (g 228 7) → Zm w (d + 3) mX11_catchesMore 0 [some (aR (some (228))), some (aI (x1)), some (aI (x7))] [] g (fun r g2 => r = none ∧ Zm w (d + 3) mX11_catchesMore 0 [some (aR (some (228))), some (aI (x1)), some (aI (x8))] [] g2 (fun r g4 => r = none ∧ Zm w (d + 3) mX11_lives 0 [some (aR (some (228))), some (aI (19)), none] [] g4 (fun r g6 => r = none ∧ (∀ g8 : GI, g8 = up2 g6 228 16 x3 → Zm w (d + 3) mX11_soldNow 0 [some (aR (some (228))), none, none] [] g8 (fun r g9 => ∃ z10 : Int, r = some (aI z10) ∧ ((¬ nm x4 < nm z10 → Zm w (d + 4) mX11_netOf 84 [some (aR (some (228))), some (aI (x1)), some (aI (x2)), some (aI (x3)), some (aI (x4)), none, some (aI (x6)), some (aI (x7)), some (aI (x8)), some (aI (z10))] [aI (x5)] g9 P) ∧ (nm x4 < nm z10 → Zm w (d + 4) mX11_netOf 84 [some (aR (some (228))), some (aI (x1)), some (aI (x2)), some (aI (x3)), some (aI (x4)), none, some (aI (x6)), some (aI (x7)), some (aI (x8)), some (aI (z10))] [aI (x7)] g9 P)))))))))) :
    Zm w (d + 4) mX11_netOf 30 [some (aR (some (228))), some (aI (x1)), some (aI (x2)), some (aI (x3)), some (aI (x4)), some (aI (x5)), some (aI (x6)), some (aI (x7)), some (aI (x8)), none] [] g P := by
  refine z_iload dX11_netOf_30 rfl ?_
  refine z_aload_n dX11_netOf_32 rfl rfl ?_
  refine z_getI dX11_netOf_33 fl_X11_125 (by decide) kt_228 ?_
  refine z_icmp_ge (tgt := 124) dX11_netOf_36 (by decide) (fun c1 => ?_) (fun c1 => ?_)
  · replace h := h.1 c1
    refine z_iinc dX11_netOf_124 rfl (by decide) rfl ?_
    show Zm w (d + 4) mX11_netOf 127 [some (aR (some (228))), some (aI (x1)), some (aI (x2)), some (aI (x3)), some (aI (x4)), some (aI (x5)), some (aI (x6)), some (aI (x7 + 1)), some (aI (x8)), none] [] g P
    refine z_goto (tgt := 17) dX11_netOf_127 (by decide) ?_
    exact z_weak (by simp [lle]) h
  · replace h := h.2 (Decidable.not_not.mp c1)
    refine z_aload_n dX11_netOf_39 rfl rfl ?_
    refine z_iload_n dX11_netOf_40 rfl rfl ?_
    refine z_iload dX11_netOf_41 rfl ?_
    refine m_callV (as := [aI (x1), aI (x7)]) dX11_netOf_43 lk_X11_185 mok_X11_catchesMore in_X11_catchesMore sl_X11_catchesMore kt_228 rfl rfl rfl (Nat.le_of_ble_eq_true rfl) rfl (Nat.le_of_ble_eq_true rfl) rfl (m_mono (fun r g2 hr => ?_) h)
    obtain ⟨rfl, h⟩ := hr
    show Zm w (d + 4) mX11_netOf 46 [some (aR (some (228))), some (aI (x1)), some (aI (x2)), some (aI (x3)), some (aI (x4)), some (aI (x5)), some (aI (x6)), some (aI (x7)), some (aI (x8)), none] [] g2 P
    refine z_aload_n dX11_netOf_46 rfl rfl ?_
    refine z_iload_n dX11_netOf_47 rfl rfl ?_
    refine z_iload dX11_netOf_48 rfl ?_
    refine m_callV (as := [aI (x1), aI (x8)]) dX11_netOf_50 lk_X11_185 mok_X11_catchesMore in_X11_catchesMore sl_X11_catchesMore kt_228 rfl rfl rfl (Nat.le_of_ble_eq_true rfl) rfl (Nat.le_of_ble_eq_true rfl) rfl (m_mono (fun r g4 hr => ?_) h)
    obtain ⟨rfl, h⟩ := hr
    show Zm w (d + 4) mX11_netOf 53 [some (aR (some (228))), some (aI (x1)), some (aI (x2)), some (aI (x3)), some (aI (x4)), some (aI (x5)), some (aI (x6)), some (aI (x7)), some (aI (x8)), none] [] g4 P
    refine z_aload_n dX11_netOf_53 rfl rfl ?_
    refine z_bipush dX11_netOf_54 rfl ?_
    refine m_callV (as := [aI (19)]) dX11_netOf_56 lk_X11_232 mok_X11_lives in_X11_lives sl_X11_lives kt_228 rfl rfl rfl (Nat.le_of_ble_eq_true rfl) rfl (Nat.le_of_ble_eq_true rfl) rfl (m_mono (fun r g6 hr => ?_) h)
    obtain ⟨rfl, h⟩ := hr
    show Zm w (d + 4) mX11_netOf 59 [some (aR (some (228))), some (aI (x1)), some (aI (x2)), some (aI (x3)), some (aI (x4)), some (aI (x5)), some (aI (x6)), some (aI (x7)), some (aI (x8)), none] [] g6 P
    refine z_aload_n dX11_netOf_59 rfl rfl ?_
    refine z_iload_n dX11_netOf_60 rfl rfl ?_
    replace h := h _ rfl
    refine z_putI dX11_netOf_61 fw_X11_182 (by decide) kt_228 ?_
    refine z_aload_n dX11_netOf_64 rfl rfl ?_
    refine m_callV (as := []) dX11_netOf_65 lk_X11_271 mok_X11_soldNow in_X11_soldNow sl_X11_soldNow kt_228 rfl rfl rfl (Nat.le_of_ble_eq_true rfl) rfl (Nat.le_of_ble_eq_true rfl) rfl (m_mono (fun r g9 hr => ?_) h)
    obtain ⟨z10, rfl, h⟩ := hr
    show Zm w (d + 4) mX11_netOf 68 [some (aR (some (228))), some (aI (x1)), some (aI (x2)), some (aI (x3)), some (aI (x4)), some (aI (x5)), some (aI (x6)), some (aI (x7)), some (aI (x8)), none] [aI (z10)] g9 P
    refine z_istore dX11_netOf_68 (by decide) rfl ?_
    show Zm w (d + 4) mX11_netOf 70 [some (aR (some (228))), some (aI (x1)), some (aI (x2)), some (aI (x3)), some (aI (x4)), some (aI (x5)), some (aI (x6)), some (aI (x7)), some (aI (x8)), some (aI (z10))] [] g9 P
    refine z_iload dX11_netOf_70 rfl ?_
    refine z_iload dX11_netOf_72 rfl ?_
    refine z_icmp_le (tgt := 82) dX11_netOf_74 (by decide) (fun c11 => ?_) (fun c11 => ?_)
    · replace h := h.1 c11
      refine z_iload dX11_netOf_82 rfl ?_
      exact z_weak (by simp [lle]) h
    · replace h := h.2 (Decidable.not_not.mp c11)
      refine z_iload dX11_netOf_77 rfl ?_
      refine z_goto (tgt := 84) dX11_netOf_79 (by decide) ?_
      exact z_weak (by simp [lle]) h
set_option maxRecDepth 4000 in
theorem s_X11_netOf_84 {w : GX} {d : Nat} {P : PN} {g : GI} (x1 : Int) (x2 : Int) (x3 : Int) (x4 : Int) (x6 : Int) (x7 : Int) (x8 : Int) (x9 : Int) (y0 : Int)
    (h : ((¬ nm x4 < nm x9 → Zm w (d + 4) mX11_netOf 100 [some (aR (some (228))), some (aI (x1)), some (aI (x2)), some (aI (x3)), some (aI (x4)), some (aI (y0)), none, some (aI (x7)), some (aI (x8)), some (aI (x9))] [aI (x6)] g P) ∧ (nm x4 < nm x9 → Zm w (d + 4) mX11_netOf 100 [some (aR (some (228))), some (aI (x1)), some (aI (x2)), some (aI (x3)), some (aI (x4)), some (aI (y0)), none, some (aI (x7)), some (aI (x8)), some (aI (x9))] [aI (x8)] g P))) :
    Zm w (d + 4) mX11_netOf 84 [some (aR (some (228))), some (aI (x1)), some (aI (x2)), some (aI (x3)), some (aI (x4)), none, some (aI (x6)), some (aI (x7)), some (aI (x8)), some (aI (x9))] [aI (y0)] g P := by
  refine z_istore dX11_netOf_84 (by decide) rfl ?_
  show Zm w (d + 4) mX11_netOf 86 [some (aR (some (228))), some (aI (x1)), some (aI (x2)), some (aI (x3)), some (aI (x4)), some (aI (y0)), some (aI (x6)), some (aI (x7)), some (aI (x8)), some (aI (x9))] [] g P
  refine z_iload dX11_netOf_86 rfl ?_
  refine z_iload dX11_netOf_88 rfl ?_
  refine z_icmp_le (tgt := 98) dX11_netOf_90 (by decide) (fun c1 => ?_) (fun c1 => ?_)
  · replace h := h.1 c1
    refine z_iload dX11_netOf_98 rfl ?_
    exact z_weak (by simp [lle]) h
  · replace h := h.2 (Decidable.not_not.mp c1)
    refine z_iload dX11_netOf_93 rfl ?_
    refine z_goto (tgt := 100) dX11_netOf_95 (by decide) ?_
    exact z_weak (by simp [lle]) h
set_option maxRecDepth 4000 in
theorem s_X11_netOf_100 {w : GX} {d : Nat} {P : PN} {g : GI} (x1 : Int) (x2 : Int) (x3 : Int) (x4 : Int) (x5 : Int) (x7 : Int) (x8 : Int) (x9 : Int) (y0 : Int)
    (h : ((¬ nm x4 < nm x9 → Zm w (d + 4) mX11_netOf 30 [some (aR (some (228))), some (aI (x1)), some (aI (x2)), some (aI (x3)), some (aI (x4)), some (aI (x5)), some (aI (y0)), some (aI (x7)), some (aI (x8 + 1)), none] [] g P) ∧ (nm x4 < nm x9 → Zm w (d + 4) mX11_netOf 30 [some (aR (some (228))), some (aI (x1)), some (aI (x2)), some (aI (x3)), some (aI (x9)), some (aI (x5)), some (aI (y0)), some (aI (x7)), some (aI (x8 + 1)), none] [] g P))) :
    Zm w (d + 4) mX11_netOf 100 [some (aR (some (228))), some (aI (x1)), some (aI (x2)), some (aI (x3)), some (aI (x4)), some (aI (x5)), none, some (aI (x7)), some (aI (x8)), some (aI (x9))] [aI (y0)] g P := by
  refine z_istore dX11_netOf_100 (by decide) rfl ?_
  show Zm w (d + 4) mX11_netOf 102 [some (aR (some (228))), some (aI (x1)), some (aI (x2)), some (aI (x3)), some (aI (x4)), some (aI (x5)), some (aI (y0)), some (aI (x7)), some (aI (x8)), some (aI (x9))] [] g P
  refine z_iload dX11_netOf_102 rfl ?_
  refine z_iload dX11_netOf_104 rfl ?_
  refine z_icmp_le (tgt := 114) dX11_netOf_106 (by decide) (fun c1 => ?_) (fun c1 => ?_)
  · replace h := h.1 c1
    refine z_iload dX11_netOf_114 rfl ?_
    refine z_istore dX11_netOf_116 (by decide) rfl ?_
    show Zm w (d + 4) mX11_netOf 118 [some (aR (some (228))), some (aI (x1)), some (aI (x2)), some (aI (x3)), some (aI (x4)), some (aI (x5)), some (aI (y0)), some (aI (x7)), some (aI (x8)), some (aI (x9))] [] g P
    refine z_iinc dX11_netOf_118 rfl (by decide) rfl ?_
    show Zm w (d + 4) mX11_netOf 121 [some (aR (some (228))), some (aI (x1)), some (aI (x2)), some (aI (x3)), some (aI (x4)), some (aI (x5)), some (aI (y0)), some (aI (x7)), some (aI (x8 + 1)), some (aI (x9))] [] g P
    refine z_goto (tgt := 30) dX11_netOf_121 (by decide) ?_
    exact z_weak (by simp [lle]) h
  · replace h := h.2 (Decidable.not_not.mp c1)
    refine z_iload dX11_netOf_109 rfl ?_
    refine z_goto (tgt := 116) dX11_netOf_111 (by decide) ?_
    refine z_istore dX11_netOf_116 (by decide) rfl ?_
    show Zm w (d + 4) mX11_netOf 118 [some (aR (some (228))), some (aI (x1)), some (aI (x2)), some (aI (x3)), some (aI (x9)), some (aI (x5)), some (aI (y0)), some (aI (x7)), some (aI (x8)), some (aI (x9))] [] g P
    refine z_iinc dX11_netOf_118 rfl (by decide) rfl ?_
    show Zm w (d + 4) mX11_netOf 121 [some (aR (some (228))), some (aI (x1)), some (aI (x2)), some (aI (x3)), some (aI (x9)), some (aI (x5)), some (aI (y0)), some (aI (x7)), some (aI (x8 + 1)), some (aI (x9))] [] g P
    refine z_goto (tgt := 30) dX11_netOf_121 (by decide) ?_
    exact z_weak (by simp [lle]) h
theorem dX11_net_0 : decode cX11_net 0 = .ok (.aload_n 0, 1) := by decide +kernel
theorem dX11_net_1 : decode cX11_net 1 = .ok (.invokevirtual 161, 3) := by decide +kernel
theorem dX11_net_4 : decode cX11_net 4 = .ok (.iload_n 1, 1) := by decide +kernel
theorem dX11_net_5 : decode cX11_net 5 = .ok (.invokestatic 172, 3) := by decide +kernel
theorem dX11_net_8 : decode cX11_net 8 = .ok (.ifCond .eq 24, 3) := by decide +kernel
theorem dX11_net_11 : decode cX11_net 11 = .ok (.iload_n 2, 1) := by decide +kernel
theorem dX11_net_12 : decode cX11_net 12 = .ok (.i2l, 1) := by decide +kernel
theorem dX11_net_13 : decode cX11_net 13 = .ok (.ldc2_w 265, 3) := by decide +kernel
theorem dX11_net_16 : decode cX11_net 16 = .ok (.lconst 1, 1) := by decide +kernel
theorem dX11_net_17 : decode cX11_net 17 = .ok (.invokestatic 88, 3) := by decide +kernel
theorem dX11_net_20 : decode cX11_net 20 = .ok (.ifCond .eq 12, 3) := by decide +kernel
theorem dX11_net_23 : decode cX11_net 23 = .ok (.aload_n 0, 1) := by decide +kernel
theorem dX11_net_24 : decode cX11_net 24 = .ok (.iload_n 1, 1) := by decide +kernel
theorem dX11_net_25 : decode cX11_net 25 = .ok (.iload_n 2, 1) := by decide +kernel
theorem dX11_net_26 : decode cX11_net 26 = .ok (.invokevirtual 274, 3) := by decide +kernel
theorem dX11_net_29 : decode cX11_net 29 = .ok (.goto 5, 3) := by decide +kernel
theorem dX11_net_32 : decode cX11_net 32 = .ok (.bipush (-2), 2) := by decide +kernel
theorem dX11_net_34 : decode cX11_net 34 = .ok (.ireturn, 1) := by decide +kernel
set_option maxRecDepth 4000 in
theorem s_X11_net_0 {w : GX} {d : Nat} {P : PN} {g : GI} (x1 : Int) (x2 : Int)
    (h : Zm w (d + 4) mX11_reads 0 [some (aR (some (228)))] [] g (fun r g1 => r = none ∧ (((nm (inn (x1) 0 19) = 0 → P (some (aI ((-2)))) g1) ∧ (¬ nm (inn (x1) 0 19) = 0 → (((nm (lin (nm x2) ((-1)) (1)) = 0 → P (some (aI ((-2)))) g1) ∧ (¬ nm (lin (nm x2) ((-1)) (1)) = 0 → Zm w (d + 4) mX11_netOf 0 [some (aR (some (228))), some (aI (x1)), some (aI (x2)), none, none, none, none, none, none, none] [] g1 (fun r g5 => ∃ z6 : Int, r = some (aI z6) ∧ P (some (aI (z6))) g5))))))))) :
    Zm w (d + 5) mX11_net 0 [some (aR (some (228))), some (aI (x1)), some (aI (x2))] [] g P := by
  refine z_aload_n dX11_net_0 rfl rfl ?_
  refine m_callV (as := []) dX11_net_1 lk_X11_161 mok_X11_reads in_X11_reads sl_X11_reads kt_228 rfl rfl rfl (Nat.le_of_ble_eq_true rfl) rfl (Nat.le_of_ble_eq_true rfl) rfl (m_mono (fun r g1 hr => ?_) h)
  obtain ⟨rfl, h⟩ := hr
  show Zm w (d + 5) mX11_net 4 [some (aR (some (228))), some (aI (x1)), some (aI (x2))] [] g1 P
  refine z_iload_n dX11_net_4 rfl rfl ?_
  refine m_callS (as := [aI (x1)]) dX11_net_5 lk_X11_172 mok_X11_isDay st_X11_isDay rfl (Nat.le_of_ble_eq_true rfl) rfl (Nat.le_of_ble_eq_true rfl) rfl (c_X11_isDay  ?_)
  show Zm w (d + 5) mX11_net 8 [some (aR (some (228))), some (aI (x1)), some (aI (x2))] [aI (inn (x1) 0 19)] g1 P
  refine z_if_eq (tgt := 32) dX11_net_8 (by decide) (fun c3 => ?_) (fun c3 => ?_)
  · replace h := h.1 c3
    refine z_bipush dX11_net_32 rfl ?_
    exact m_iret dX11_net_34 rfl h
  · replace h := h.2 c3
    refine z_iload_n dX11_net_11 rfl rfl ?_
    refine z_i2l dX11_net_12 ?_
    refine z_ldc2 dX11_net_13 kl_X11_265 ?_
    refine z_lconst (z := 1) dX11_net_16 rfl ?_
    refine m_callS (as := [aL (nm x2), aL ((-1)), aL (1)]) dX11_net_17 lk_X11_88 mok_X11_in st_X11_in rfl (Nat.le_of_ble_eq_true rfl) rfl (Nat.le_of_ble_eq_true rfl) rfl (c_X11_in  ?_)
    show Zm w (d + 5) mX11_net 20 [some (aR (some (228))), some (aI (x1)), some (aI (x2))] [aI (lin (nm x2) ((-1)) (1))] g1 P
    refine z_if_eq (tgt := 32) dX11_net_20 (by decide) (fun c4 => ?_) (fun c4 => ?_)
    · replace h := h.1 c4
      refine z_bipush dX11_net_32 rfl ?_
      exact m_iret dX11_net_34 rfl h
    · replace h := h.2 c4
      refine z_aload_n dX11_net_23 rfl rfl ?_
      refine z_iload_n dX11_net_24 rfl rfl ?_
      refine z_iload_n dX11_net_25 rfl rfl ?_
      refine m_callV (as := [aI (x1), aI (x2)]) dX11_net_26 lk_X11_274 mok_X11_netOf in_X11_netOf sl_X11_netOf kt_228 rfl rfl rfl (Nat.le_of_ble_eq_true rfl) rfl (Nat.le_of_ble_eq_true rfl) rfl (m_mono (fun r g5 hr => ?_) h)
      obtain ⟨z6, rfl, h⟩ := hr
      show Zm w (d + 5) mX11_net 29 [some (aR (some (228))), some (aI (x1)), some (aI (x2))] [aI (z6)] g5 P
      refine z_goto (tgt := 34) dX11_net_29 (by decide) ?_
      exact m_iret dX11_net_34 rfl h
theorem dX11_seen_0 : decode cX11_seen 0 = .ok (.iload_n 1, 1) := by decide +kernel
theorem dX11_seen_1 : decode cX11_seen 1 = .ok (.invokestatic 172, 3) := by decide +kernel
theorem dX11_seen_4 : decode cX11_seen 4 = .ok (.ifCond .eq 22, 3) := by decide +kernel
theorem dX11_seen_7 : decode cX11_seen 7 = .ok (.iload_n 2, 1) := by decide +kernel
theorem dX11_seen_8 : decode cX11_seen 8 = .ok (.invokestatic 175, 3) := by decide +kernel
theorem dX11_seen_11 : decode cX11_seen 11 = .ok (.ifCond .eq 15, 3) := by decide +kernel
theorem dX11_seen_14 : decode cX11_seen 14 = .ok (.iload_n 3, 1) := by decide +kernel
theorem dX11_seen_15 : decode cX11_seen 15 = .ok (.i2l, 1) := by decide +kernel
theorem dX11_seen_16 : decode cX11_seen 16 = .ok (.lconst 0, 1) := by decide +kernel
theorem dX11_seen_17 : decode cX11_seen 17 = .ok (.ldc2_w 263, 3) := by decide +kernel
theorem dX11_seen_20 : decode cX11_seen 20 = .ok (.invokestatic 88, 3) := by decide +kernel
theorem dX11_seen_23 : decode cX11_seen 23 = .ok (.ifCond .ne 6, 3) := by decide +kernel
theorem dX11_seen_26 : decode cX11_seen 26 = .ok (.bipush (-2), 2) := by decide +kernel
theorem dX11_seen_28 : decode cX11_seen 28 = .ok (.ireturn, 1) := by decide +kernel
theorem dX11_seen_29 : decode cX11_seen 29 = .ok (.aload_n 0, 1) := by decide +kernel
theorem dX11_seen_30 : decode cX11_seen 30 = .ok (.getfield 277, 3) := by decide +kernel
theorem dX11_seen_33 : decode cX11_seen 33 = .ok (.bipush 8, 2) := by decide +kernel
theorem dX11_seen_35 : decode cX11_seen 35 = .ok (.if_icmp .ne 6, 3) := by decide +kernel
theorem dX11_seen_38 : decode cX11_seen 38 = .ok (.bipush (-4), 2) := by decide +kernel
theorem dX11_seen_40 : decode cX11_seen 40 = .ok (.ireturn, 1) := by decide +kernel
theorem dX11_seen_41 : decode cX11_seen 41 = .ok (.aload_n 0, 1) := by decide +kernel
theorem dX11_seen_42 : decode cX11_seen 42 = .ok (.getfield 67, 3) := by decide +kernel
theorem dX11_seen_45 : decode cX11_seen 45 = .ok (.iconst 3, 1) := by decide +kernel
theorem dX11_seen_46 : decode cX11_seen 46 = .ok (.aload_n 0, 1) := by decide +kernel
theorem dX11_seen_47 : decode cX11_seen 47 = .ok (.getfield 277, 3) := by decide +kernel
theorem dX11_seen_50 : decode cX11_seen 50 = .ok (.imul, 1) := by decide +kernel
theorem dX11_seen_51 : decode cX11_seen 51 = .ok (.iload_n 1, 1) := by decide +kernel
theorem dX11_seen_52 : decode cX11_seen 52 = .ok (.iastore, 1) := by decide +kernel
theorem dX11_seen_53 : decode cX11_seen 53 = .ok (.aload_n 0, 1) := by decide +kernel
theorem dX11_seen_54 : decode cX11_seen 54 = .ok (.getfield 67, 3) := by decide +kernel
theorem dX11_seen_57 : decode cX11_seen 57 = .ok (.iconst 3, 1) := by decide +kernel
theorem dX11_seen_58 : decode cX11_seen 58 = .ok (.aload_n 0, 1) := by decide +kernel
theorem dX11_seen_59 : decode cX11_seen 59 = .ok (.getfield 277, 3) := by decide +kernel
theorem dX11_seen_62 : decode cX11_seen 62 = .ok (.imul, 1) := by decide +kernel
theorem dX11_seen_63 : decode cX11_seen 63 = .ok (.iconst 1, 1) := by decide +kernel
theorem dX11_seen_64 : decode cX11_seen 64 = .ok (.iadd, 1) := by decide +kernel
theorem dX11_seen_65 : decode cX11_seen 65 = .ok (.iload_n 2, 1) := by decide +kernel
theorem dX11_seen_66 : decode cX11_seen 66 = .ok (.iastore, 1) := by decide +kernel
theorem dX11_seen_67 : decode cX11_seen 67 = .ok (.aload_n 0, 1) := by decide +kernel
theorem dX11_seen_68 : decode cX11_seen 68 = .ok (.getfield 67, 3) := by decide +kernel
theorem dX11_seen_71 : decode cX11_seen 71 = .ok (.iconst 3, 1) := by decide +kernel
theorem dX11_seen_72 : decode cX11_seen 72 = .ok (.aload_n 0, 1) := by decide +kernel
theorem dX11_seen_73 : decode cX11_seen 73 = .ok (.getfield 277, 3) := by decide +kernel
theorem dX11_seen_76 : decode cX11_seen 76 = .ok (.imul, 1) := by decide +kernel
theorem dX11_seen_77 : decode cX11_seen 77 = .ok (.iconst 2, 1) := by decide +kernel
theorem dX11_seen_78 : decode cX11_seen 78 = .ok (.iadd, 1) := by decide +kernel
theorem dX11_seen_79 : decode cX11_seen 79 = .ok (.iload_n 3, 1) := by decide +kernel
theorem dX11_seen_80 : decode cX11_seen 80 = .ok (.iastore, 1) := by decide +kernel
theorem dX11_seen_81 : decode cX11_seen 81 = .ok (.aload_n 0, 1) := by decide +kernel
theorem dX11_seen_82 : decode cX11_seen 82 = .ok (.dup, 1) := by decide +kernel
theorem dX11_seen_83 : decode cX11_seen 83 = .ok (.getfield 277, 3) := by decide +kernel
theorem dX11_seen_86 : decode cX11_seen 86 = .ok (.iconst 1, 1) := by decide +kernel
theorem dX11_seen_87 : decode cX11_seen 87 = .ok (.iadd, 1) := by decide +kernel
theorem dX11_seen_88 : decode cX11_seen 88 = .ok (.putfield 277, 3) := by decide +kernel
theorem dX11_seen_91 : decode cX11_seen 91 = .ok (.aload_n 0, 1) := by decide +kernel
theorem dX11_seen_92 : decode cX11_seen 92 = .ok (.getfield 277, 3) := by decide +kernel
theorem dX11_seen_95 : decode cX11_seen 95 = .ok (.ireturn, 1) := by decide +kernel
set_option maxRecDepth 4000 in
theorem s_X11_seen_0 {w : GX} {d : Nat} {P : PN} {g : GI} (x1 : Int) (x2 : Int) (x3 : Int)
    (h : (((nm (inn (x1) 0 19) = 0 → P (some (aI ((-2)))) g) ∧ (¬ nm (inn (x1) 0 19) = 0 → (((nm (inn (x2) 0 7) = 0 → P (some (aI ((-2)))) g) ∧ (¬ nm (inn (x2) 0 7) = 0 → (((¬ nm (lin (nm x3) (0) (25)) = 0 → ((¬ nm (g 228 31) = nm 8 → (0 ≤ nm (3 * (g 228 31)) ∧ nm (3 * (g 228 31)) < 24 ∧ ∀ g5 : GI, g5 = up2 g 248 (nm (3 * (g 228 31))).toNat x1 → (0 ≤ nm ((3 * (g5 228 31)) + 1) ∧ nm ((3 * (g5 228 31)) + 1) < 24 ∧ ∀ g8 : GI, g8 = up2 g5 248 (nm ((3 * (g5 228 31)) + 1)).toNat x2 → (0 ≤ nm ((3 * (g8 228 31)) + 2) ∧ nm ((3 * (g8 228 31)) + 2) < 24 ∧ ∀ g11 : GI, g11 = up2 g8 248 (nm ((3 * (g8 228 31)) + 2)).toNat x3 → (∀ g14 : GI, g14 = up2 g11 228 31 ((g11 228 31) + 1) → P (some (aI (g14 228 31))) g14))))) ∧ (nm (g 228 31) = nm 8 → P (some (aI ((-4)))) g))) ∧ (nm (lin (nm x3) (0) (25)) = 0 → P (some (aI ((-2)))) g)))))))))) :
    Zm w (d + 2) mX11_seen 0 [some (aR (some (228))), some (aI (x1)), some (aI (x2)), some (aI (x3))] [] g P := by
  refine z_iload_n dX11_seen_0 rfl rfl ?_
  refine m_callS (as := [aI (x1)]) dX11_seen_1 lk_X11_172 mok_X11_isDay st_X11_isDay rfl (Nat.le_of_ble_eq_true rfl) rfl (Nat.le_of_ble_eq_true rfl) rfl (c_X11_isDay  ?_)
  show Zm w (d + 2) mX11_seen 4 [some (aR (some (228))), some (aI (x1)), some (aI (x2)), some (aI (x3))] [aI (inn (x1) 0 19)] g P
  refine z_if_eq (tgt := 26) dX11_seen_4 (by decide) (fun c1 => ?_) (fun c1 => ?_)
  · replace h := h.1 c1
    refine z_bipush dX11_seen_26 rfl ?_
    exact m_iret dX11_seen_28 rfl h
  · replace h := h.2 c1
    refine z_iload_n dX11_seen_7 rfl rfl ?_
    refine m_callS (as := [aI (x2)]) dX11_seen_8 lk_X11_175 mok_X11_isAnyone st_X11_isAnyone rfl (Nat.le_of_ble_eq_true rfl) rfl (Nat.le_of_ble_eq_true rfl) rfl (c_X11_isAnyone  ?_)
    show Zm w (d + 2) mX11_seen 11 [some (aR (some (228))), some (aI (x1)), some (aI (x2)), some (aI (x3))] [aI (inn (x2) 0 7)] g P
    refine z_if_eq (tgt := 26) dX11_seen_11 (by decide) (fun c2 => ?_) (fun c2 => ?_)
    · replace h := h.1 c2
      refine z_bipush dX11_seen_26 rfl ?_
      exact m_iret dX11_seen_28 rfl h
    · replace h := h.2 c2
      refine z_iload_n dX11_seen_14 rfl rfl ?_
      refine z_i2l dX11_seen_15 ?_
      refine z_lconst (z := 0) dX11_seen_16 rfl ?_
      refine z_ldc2 dX11_seen_17 kl_X11_263 ?_
      refine m_callS (as := [aL (nm x3), aL (0), aL (25)]) dX11_seen_20 lk_X11_88 mok_X11_in st_X11_in rfl (Nat.le_of_ble_eq_true rfl) rfl (Nat.le_of_ble_eq_true rfl) rfl (c_X11_in  ?_)
      show Zm w (d + 2) mX11_seen 23 [some (aR (some (228))), some (aI (x1)), some (aI (x2)), some (aI (x3))] [aI (lin (nm x3) (0) (25))] g P
      refine z_if_ne (tgt := 29) dX11_seen_23 (by decide) (fun c3 => ?_) (fun c3 => ?_)
      · replace h := h.1 c3
        refine z_aload_n dX11_seen_29 rfl rfl ?_
        refine z_getI dX11_seen_30 fl_X11_277 (by decide) kt_228 ?_
        refine z_bipush dX11_seen_33 rfl ?_
        refine z_icmp_ne (tgt := 41) dX11_seen_35 (by decide) (fun c4 => ?_) (fun c4 => ?_)
        · replace h := h.1 c4
          refine z_aload_n dX11_seen_41 rfl rfl ?_
          refine m_getR dX11_seen_42 fl_X11_67 (by decide) kt_228 rv_228_32 ?_
          refine z_iconst dX11_seen_45 ?_
          refine z_aload_n dX11_seen_46 rfl rfl ?_
          refine z_getI dX11_seen_47 fl_X11_277 (by decide) kt_228 ?_
          refine z_imul dX11_seen_50 ?_
          refine z_iload_n dX11_seen_51 rfl rfl ?_
          obtain ⟨q6, q7, h⟩ := h
          replace h := h _ rfl
          refine m_iast dX11_seen_52 kv_248 q6 q7 ?_
          refine z_aload_n dX11_seen_53 rfl rfl ?_
          refine m_getR dX11_seen_54 fl_X11_67 (by decide) kt_228 rv_228_32 ?_
          refine z_iconst dX11_seen_57 ?_
          refine z_aload_n dX11_seen_58 rfl rfl ?_
          refine z_getI dX11_seen_59 fl_X11_277 (by decide) kt_228 ?_
          refine z_imul dX11_seen_62 ?_
          refine z_iconst dX11_seen_63 ?_
          refine z_iadd dX11_seen_64 ?_
          refine z_iload_n dX11_seen_65 rfl rfl ?_
          obtain ⟨q9, q10, h⟩ := h
          replace h := h _ rfl
          refine m_iast dX11_seen_66 kv_248 q9 q10 ?_
          refine z_aload_n dX11_seen_67 rfl rfl ?_
          refine m_getR dX11_seen_68 fl_X11_67 (by decide) kt_228 rv_228_32 ?_
          refine z_iconst dX11_seen_71 ?_
          refine z_aload_n dX11_seen_72 rfl rfl ?_
          refine z_getI dX11_seen_73 fl_X11_277 (by decide) kt_228 ?_
          refine z_imul dX11_seen_76 ?_
          refine z_iconst dX11_seen_77 ?_
          refine z_iadd dX11_seen_78 ?_
          refine z_iload_n dX11_seen_79 rfl rfl ?_
          obtain ⟨q12, q13, h⟩ := h
          replace h := h _ rfl
          refine m_iast dX11_seen_80 kv_248 q12 q13 ?_
          refine z_aload_n dX11_seen_81 rfl rfl ?_
          refine z_dup dX11_seen_82 rfl ?_
          refine z_getI dX11_seen_83 fl_X11_277 (by decide) kt_228 ?_
          refine z_iconst dX11_seen_86 ?_
          refine z_iadd dX11_seen_87 ?_
          replace h := h _ rfl
          refine z_putI dX11_seen_88 fw_X11_277 (by decide) kt_228 ?_
          refine z_aload_n dX11_seen_91 rfl rfl ?_
          refine z_getI dX11_seen_92 fl_X11_277 (by decide) kt_228 ?_
          exact m_iret dX11_seen_95 rfl h
        · replace h := h.2 (Decidable.not_not.mp c4)
          refine z_bipush dX11_seen_38 rfl ?_
          exact m_iret dX11_seen_40 rfl h
      · replace h := h.2 (Decidable.not_not.mp c3)
        refine z_bipush dX11_seen_26 rfl ?_
        exact m_iret dX11_seen_28 rfl h
theorem dX11_forget_0 : decode cX11_forget 0 = .ok (.aload_n 0, 1) := by decide +kernel
theorem dX11_forget_1 : decode cX11_forget 1 = .ok (.getfield 277, 3) := by decide +kernel
theorem dX11_forget_4 : decode cX11_forget 4 = .ok (.istore_n 1, 1) := by decide +kernel
theorem dX11_forget_5 : decode cX11_forget 5 = .ok (.aload_n 0, 1) := by decide +kernel
theorem dX11_forget_6 : decode cX11_forget 6 = .ok (.iconst 0, 1) := by decide +kernel
theorem dX11_forget_7 : decode cX11_forget 7 = .ok (.putfield 277, 3) := by decide +kernel
theorem dX11_forget_10 : decode cX11_forget 10 = .ok (.iload_n 1, 1) := by decide +kernel
theorem dX11_forget_11 : decode cX11_forget 11 = .ok (.ireturn, 1) := by decide +kernel
set_option maxRecDepth 4000 in
theorem s_X11_forget_0 {w : GX} {d : Nat} {P : PN} {g : GI} 
    (h : (∀ v1 : Int, v1 = g 228 31 → (∀ g2 : GI, g2 = up2 g 228 31 0 → P (some (aI (v1))) g2))) :
    Zm w d mX11_forget 0 [some (aR (some (228))), none] [] g P := by
  refine z_aload_n dX11_forget_0 rfl rfl ?_
  refine z_getI dX11_forget_1 fl_X11_277 (by decide) kt_228 ?_
  replace h := h _ rfl
  refine z_istore_n dX11_forget_4 rfl (by decide) rfl ?_
  show Zm w d mX11_forget 5 [some (aR (some (228))), some (aI (g 228 31))] [] g P
  refine z_aload_n dX11_forget_5 rfl rfl ?_
  refine z_iconst dX11_forget_6 ?_
  replace h := h _ rfl
  refine z_putI dX11_forget_7 fw_X11_277 (by decide) kt_228 ?_
  refine z_iload_n dX11_forget_10 rfl rfl ?_
  exact m_iret dX11_forget_11 rfl h
theorem dX11_isSeen_0 : decode cX11_isSeen 0 = .ok (.iconst 1, 1) := by decide +kernel
theorem dX11_isSeen_1 : decode cX11_isSeen 1 = .ok (.istore_n 1, 1) := by decide +kernel
theorem dX11_isSeen_2 : decode cX11_isSeen 2 = .ok (.iconst 0, 1) := by decide +kernel
theorem dX11_isSeen_3 : decode cX11_isSeen 3 = .ok (.istore_n 2, 1) := by decide +kernel
theorem dX11_isSeen_4 : decode cX11_isSeen 4 = .ok (.iload_n 2, 1) := by decide +kernel
theorem dX11_isSeen_5 : decode cX11_isSeen 5 = .ok (.aload_n 0, 1) := by decide +kernel
theorem dX11_isSeen_6 : decode cX11_isSeen 6 = .ok (.getfield 277, 3) := by decide +kernel
theorem dX11_isSeen_9 : decode cX11_isSeen 9 = .ok (.if_icmp .ge 71, 3) := by decide +kernel
theorem dX11_isSeen_12 : decode cX11_isSeen 12 = .ok (.iload_n 1, 1) := by decide +kernel
theorem dX11_isSeen_13 : decode cX11_isSeen 13 = .ok (.ifCond .eq 67, 3) := by decide +kernel
theorem dX11_isSeen_16 : decode cX11_isSeen 16 = .ok (.aload_n 0, 1) := by decide +kernel
theorem dX11_isSeen_17 : decode cX11_isSeen 17 = .ok (.aload_n 0, 1) := by decide +kernel
theorem dX11_isSeen_18 : decode cX11_isSeen 18 = .ok (.getfield 67, 3) := by decide +kernel
theorem dX11_isSeen_21 : decode cX11_isSeen 21 = .ok (.iconst 3, 1) := by decide +kernel
theorem dX11_isSeen_22 : decode cX11_isSeen 22 = .ok (.iload_n 2, 1) := by decide +kernel
theorem dX11_isSeen_23 : decode cX11_isSeen 23 = .ok (.imul, 1) := by decide +kernel
theorem dX11_isSeen_24 : decode cX11_isSeen 24 = .ok (.iconst 1, 1) := by decide +kernel
theorem dX11_isSeen_25 : decode cX11_isSeen 25 = .ok (.iadd, 1) := by decide +kernel
theorem dX11_isSeen_26 : decode cX11_isSeen 26 = .ok (.iaload, 1) := by decide +kernel
theorem dX11_isSeen_27 : decode cX11_isSeen 27 = .ok (.invokevirtual 164, 3) := by decide +kernel
theorem dX11_isSeen_30 : decode cX11_isSeen 30 = .ok (.ifCond .eq 42, 3) := by decide +kernel
theorem dX11_isSeen_33 : decode cX11_isSeen 33 = .ok (.aload_n 0, 1) := by decide +kernel
theorem dX11_isSeen_34 : decode cX11_isSeen 34 = .ok (.aload_n 0, 1) := by decide +kernel
theorem dX11_isSeen_35 : decode cX11_isSeen 35 = .ok (.getfield 67, 3) := by decide +kernel
theorem dX11_isSeen_38 : decode cX11_isSeen 38 = .ok (.iconst 3, 1) := by decide +kernel
theorem dX11_isSeen_39 : decode cX11_isSeen 39 = .ok (.iload_n 2, 1) := by decide +kernel
theorem dX11_isSeen_40 : decode cX11_isSeen 40 = .ok (.imul, 1) := by decide +kernel
theorem dX11_isSeen_41 : decode cX11_isSeen 41 = .ok (.iconst 1, 1) := by decide +kernel
theorem dX11_isSeen_42 : decode cX11_isSeen 42 = .ok (.iadd, 1) := by decide +kernel
theorem dX11_isSeen_43 : decode cX11_isSeen 43 = .ok (.iaload, 1) := by decide +kernel
theorem dX11_isSeen_44 : decode cX11_isSeen 44 = .ok (.aload_n 0, 1) := by decide +kernel
theorem dX11_isSeen_45 : decode cX11_isSeen 45 = .ok (.getfield 67, 3) := by decide +kernel
theorem dX11_isSeen_48 : decode cX11_isSeen 48 = .ok (.iconst 3, 1) := by decide +kernel
theorem dX11_isSeen_49 : decode cX11_isSeen 49 = .ok (.iload_n 2, 1) := by decide +kernel
theorem dX11_isSeen_50 : decode cX11_isSeen 50 = .ok (.imul, 1) := by decide +kernel
theorem dX11_isSeen_51 : decode cX11_isSeen 51 = .ok (.iconst 2, 1) := by decide +kernel
theorem dX11_isSeen_52 : decode cX11_isSeen 52 = .ok (.iadd, 1) := by decide +kernel
theorem dX11_isSeen_53 : decode cX11_isSeen 53 = .ok (.iaload, 1) := by decide +kernel
theorem dX11_isSeen_54 : decode cX11_isSeen 54 = .ok (.aload_n 0, 1) := by decide +kernel
theorem dX11_isSeen_55 : decode cX11_isSeen 55 = .ok (.getfield 67, 3) := by decide +kernel
theorem dX11_isSeen_58 : decode cX11_isSeen 58 = .ok (.iconst 3, 1) := by decide +kernel
theorem dX11_isSeen_59 : decode cX11_isSeen 59 = .ok (.iload_n 2, 1) := by decide +kernel
theorem dX11_isSeen_60 : decode cX11_isSeen 60 = .ok (.imul, 1) := by decide +kernel
theorem dX11_isSeen_61 : decode cX11_isSeen 61 = .ok (.iaload, 1) := by decide +kernel
theorem dX11_isSeen_62 : decode cX11_isSeen 62 = .ok (.invokevirtual 259, 3) := by decide +kernel
theorem dX11_isSeen_65 : decode cX11_isSeen 65 = .ok (.ifCond .eq 7, 3) := by decide +kernel
theorem dX11_isSeen_68 : decode cX11_isSeen 68 = .ok (.iconst 1, 1) := by decide +kernel
theorem dX11_isSeen_69 : decode cX11_isSeen 69 = .ok (.goto 4, 3) := by decide +kernel
theorem dX11_isSeen_72 : decode cX11_isSeen 72 = .ok (.iconst 0, 1) := by decide +kernel
theorem dX11_isSeen_73 : decode cX11_isSeen 73 = .ok (.istore_n 1, 1) := by decide +kernel
theorem dX11_isSeen_74 : decode cX11_isSeen 74 = .ok (.iinc 2 1, 3) := by decide +kernel
theorem dX11_isSeen_77 : decode cX11_isSeen 77 = .ok (.goto (-73), 3) := by decide +kernel
theorem dX11_isSeen_80 : decode cX11_isSeen 80 = .ok (.iload_n 1, 1) := by decide +kernel
theorem dX11_isSeen_81 : decode cX11_isSeen 81 = .ok (.ireturn, 1) := by decide +kernel
set_option maxRecDepth 4000 in
theorem s_X11_isSeen_0 {w : GX} {d : Nat} {P : PN} {g : GI} 
    (h : Zm w (d + 5) mX11_isSeen 4 [some (aR (some (228))), some (aI (1)), some (aI (0))] [] g P) :
    Zm w (d + 5) mX11_isSeen 0 [some (aR (some (228))), none, none] [] g P := by
  refine z_iconst dX11_isSeen_0 ?_
  refine z_istore_n dX11_isSeen_1 rfl (by decide) rfl ?_
  show Zm w (d + 5) mX11_isSeen 2 [some (aR (some (228))), some (aI (1)), none] [] g P
  refine z_iconst dX11_isSeen_2 ?_
  refine z_istore_n dX11_isSeen_3 rfl (by decide) rfl ?_
  show Zm w (d + 5) mX11_isSeen 4 [some (aR (some (228))), some (aI (1)), some (aI (0))] [] g P
  exact z_weak (by simp [lle]) h
set_option maxRecDepth 4000 in
theorem s_X11_isSeen_4 {w : GX} {d : Nat} {P : PN} {g : GI} (x1 : Int) (x2 : Int)
    (h : ((¬ nm x2 < nm (g 228 31) → ((x1 = 0 ∨ x1 = 1) ∧ P (some (aI (x1))) g)) ∧ (nm x2 < nm (g 228 31) → ((nm x1 = 0 → ((x1 = 0 ∨ x1 = 1) ∧ P (some (aI (x1))) g)) ∧ (¬ nm x1 = 0 → (0 ≤ nm ((3 * x2) + 1) ∧ nm ((3 * x2) + 1) < 24 ∧ (((nm (inn (g 248 (nm ((3 * x2) + 1)).toNat) 0 (nm (g 228 10 - 1))) = 0 → Zm w (d + 5) mX11_isSeen 4 [some (aR (some (228))), some (aI (0)), some (aI (x2 + 1))] [] g P) ∧ (¬ nm (inn (g 248 (nm ((3 * x2) + 1)).toNat) 0 (nm (g 228 10 - 1))) = 0 → ((0 ≤ nm ((3 * x2) + 2) ∧ nm ((3 * x2) + 2) < 24 ∧ (0 ≤ nm (3 * x2) ∧ nm (3 * x2) < 24 ∧ Zm w (d + 4) mX11_isCalled 0 [some (aR (some (228))), some (aI (g 248 (nm ((3 * x2) + 1)).toNat)), some (aI (g 248 (nm ((3 * x2) + 2)).toNat)), some (aI (g 248 (nm (3 * x2)).toNat))] [] g (fun r g20 => ∃ z21 : Int, r = some (aI z21) ∧ ((nm z21 = 0 → Zm w (d + 5) mX11_isSeen 4 [some (aR (some (228))), some (aI (0)), some (aI (x2 + 1))] [] g20 P) ∧ (¬ nm z21 = 0 → Zm w (d + 5) mX11_isSeen 4 [some (aR (some (228))), some (aI (1)), some (aI (x2 + 1))] [] g20 P))))))))))))))) :
    Zm w (d + 5) mX11_isSeen 4 [some (aR (some (228))), some (aI (x1)), some (aI (x2))] [] g P := by
  refine z_iload_n dX11_isSeen_4 rfl rfl ?_
  refine z_aload_n dX11_isSeen_5 rfl rfl ?_
  refine z_getI dX11_isSeen_6 fl_X11_277 (by decide) kt_228 ?_
  refine z_icmp_ge (tgt := 80) dX11_isSeen_9 (by decide) (fun c1 => ?_) (fun c1 => ?_)
  · replace h := h.1 c1
    refine z_iload_n dX11_isSeen_80 rfl rfl ?_
    obtain ⟨q2, h⟩ := h
    exact m_zret dX11_isSeen_81 rfl q2 h
  · replace h := h.2 (Decidable.not_not.mp c1)
    refine z_iload_n dX11_isSeen_12 rfl rfl ?_
    refine z_if_eq (tgt := 80) dX11_isSeen_13 (by decide) (fun c3 => ?_) (fun c3 => ?_)
    · replace h := h.1 c3
      refine z_iload_n dX11_isSeen_80 rfl rfl ?_
      obtain ⟨q4, h⟩ := h
      exact m_zret dX11_isSeen_81 rfl q4 h
    · replace h := h.2 c3
      refine z_aload_n dX11_isSeen_16 rfl rfl ?_
      refine z_aload_n dX11_isSeen_17 rfl rfl ?_
      refine m_getR dX11_isSeen_18 fl_X11_67 (by decide) kt_228 rv_228_32 ?_
      refine z_iconst dX11_isSeen_21 ?_
      refine z_iload_n dX11_isSeen_22 rfl rfl ?_
      refine z_imul dX11_isSeen_23 ?_
      refine z_iconst dX11_isSeen_24 ?_
      refine z_iadd dX11_isSeen_25 ?_
      obtain ⟨q7, q8, h⟩ := h
      refine m_iald dX11_isSeen_26 kv_248 q7 q8 ?_
      refine m_callV (as := [aI (g 248 (nm ((3 * x2) + 1)).toNat)]) dX11_isSeen_27 lk_X11_164 mok_X11_isPerson in_X11_isPerson sl_X11_isPerson kt_228 rfl rfl rfl (Nat.le_of_ble_eq_true rfl) rfl (Nat.le_of_ble_eq_true rfl) rfl (c_X11_isPerson  ?_)
      show Zm w (d + 5) mX11_isSeen 30 [some (aR (some (228))), some (aI (x1)), some (aI (x2))] [aI (inn (g 248 (nm ((3 * x2) + 1)).toNat) 0 (nm (g 228 10 - 1)))] g P
      refine z_if_eq (tgt := 72) dX11_isSeen_30 (by decide) (fun c9 => ?_) (fun c9 => ?_)
      · replace h := h.1 c9
        refine z_iconst dX11_isSeen_72 ?_
        refine z_istore_n dX11_isSeen_73 rfl (by decide) rfl ?_
        show Zm w (d + 5) mX11_isSeen 74 [some (aR (some (228))), some (aI (0)), some (aI (x2))] [] g P
        refine z_iinc dX11_isSeen_74 rfl (by decide) rfl ?_
        show Zm w (d + 5) mX11_isSeen 77 [some (aR (some (228))), some (aI (0)), some (aI (x2 + 1))] [] g P
        refine z_goto (tgt := 4) dX11_isSeen_77 (by decide) ?_
        exact z_weak (by simp [lle]) h
      · replace h := h.2 c9
        refine z_aload_n dX11_isSeen_33 rfl rfl ?_
        refine z_aload_n dX11_isSeen_34 rfl rfl ?_
        refine m_getR dX11_isSeen_35 fl_X11_67 (by decide) kt_228 rv_228_32 ?_
        refine z_iconst dX11_isSeen_38 ?_
        refine z_iload_n dX11_isSeen_39 rfl rfl ?_
        refine z_imul dX11_isSeen_40 ?_
        refine z_iconst dX11_isSeen_41 ?_
        refine z_iadd dX11_isSeen_42 ?_
        refine m_iald dX11_isSeen_43 kv_248 q7 q8 ?_
        refine z_aload_n dX11_isSeen_44 rfl rfl ?_
        refine m_getR dX11_isSeen_45 fl_X11_67 (by decide) kt_228 rv_228_32 ?_
        refine z_iconst dX11_isSeen_48 ?_
        refine z_iload_n dX11_isSeen_49 rfl rfl ?_
        refine z_imul dX11_isSeen_50 ?_
        refine z_iconst dX11_isSeen_51 ?_
        refine z_iadd dX11_isSeen_52 ?_
        obtain ⟨q14, q15, h⟩ := h
        refine m_iald dX11_isSeen_53 kv_248 q14 q15 ?_
        refine z_aload_n dX11_isSeen_54 rfl rfl ?_
        refine m_getR dX11_isSeen_55 fl_X11_67 (by decide) kt_228 rv_228_32 ?_
        refine z_iconst dX11_isSeen_58 ?_
        refine z_iload_n dX11_isSeen_59 rfl rfl ?_
        refine z_imul dX11_isSeen_60 ?_
        obtain ⟨q18, q19, h⟩ := h
        refine m_iald dX11_isSeen_61 kv_248 q18 q19 ?_
        refine m_callV (as := [aI (g 248 (nm ((3 * x2) + 1)).toNat), aI (g 248 (nm ((3 * x2) + 2)).toNat), aI (g 248 (nm (3 * x2)).toNat)]) dX11_isSeen_62 lk_X11_259 mok_X11_isCalled in_X11_isCalled sl_X11_isCalled kt_228 rfl rfl rfl (Nat.le_of_ble_eq_true rfl) rfl (Nat.le_of_ble_eq_true rfl) rfl (m_mono (fun r g20 hr => ?_) h)
        obtain ⟨z21, rfl, h⟩ := hr
        show Zm w (d + 5) mX11_isSeen 65 [some (aR (some (228))), some (aI (x1)), some (aI (x2))] [aI (z21)] g20 P
        refine z_if_eq (tgt := 72) dX11_isSeen_65 (by decide) (fun c22 => ?_) (fun c22 => ?_)
        · replace h := h.1 c22
          refine z_iconst dX11_isSeen_72 ?_
          refine z_istore_n dX11_isSeen_73 rfl (by decide) rfl ?_
          show Zm w (d + 5) mX11_isSeen 74 [some (aR (some (228))), some (aI (0)), some (aI (x2))] [] g20 P
          refine z_iinc dX11_isSeen_74 rfl (by decide) rfl ?_
          show Zm w (d + 5) mX11_isSeen 77 [some (aR (some (228))), some (aI (0)), some (aI (x2 + 1))] [] g20 P
          refine z_goto (tgt := 4) dX11_isSeen_77 (by decide) ?_
          exact z_weak (by simp [lle]) h
        · replace h := h.2 c22
          refine z_iconst dX11_isSeen_68 ?_
          refine z_goto (tgt := 73) dX11_isSeen_69 (by decide) ?_
          refine z_istore_n dX11_isSeen_73 rfl (by decide) rfl ?_
          show Zm w (d + 5) mX11_isSeen 74 [some (aR (some (228))), some (aI (1)), some (aI (x2))] [] g20 P
          refine z_iinc dX11_isSeen_74 rfl (by decide) rfl ?_
          show Zm w (d + 5) mX11_isSeen 77 [some (aR (some (228))), some (aI (1)), some (aI (x2 + 1))] [] g20 P
          refine z_goto (tgt := 4) dX11_isSeen_77 (by decide) ?_
          exact z_weak (by simp [lle]) h
theorem dX11_neverNow_0 : decode cX11_neverNow 0 = .ok (.iconst 0, 1) := by decide +kernel
theorem dX11_neverNow_1 : decode cX11_neverNow 1 = .ok (.istore_n 1, 1) := by decide +kernel
theorem dX11_neverNow_2 : decode cX11_neverNow 2 = .ok (.iconst 0, 1) := by decide +kernel
theorem dX11_neverNow_3 : decode cX11_neverNow 3 = .ok (.istore_n 2, 1) := by decide +kernel
theorem dX11_neverNow_4 : decode cX11_neverNow 4 = .ok (.iload_n 2, 1) := by decide +kernel
theorem dX11_neverNow_5 : decode cX11_neverNow 5 = .ok (.aload_n 0, 1) := by decide +kernel
theorem dX11_neverNow_6 : decode cX11_neverNow 6 = .ok (.getfield 169, 3) := by decide +kernel
theorem dX11_neverNow_9 : decode cX11_neverNow 9 = .ok (.if_icmp .ge 31, 3) := by decide +kernel
theorem dX11_neverNow_12 : decode cX11_neverNow 12 = .ok (.aload_n 0, 1) := by decide +kernel
theorem dX11_neverNow_13 : decode cX11_neverNow 13 = .ok (.iload_n 2, 1) := by decide +kernel
theorem dX11_neverNow_14 : decode cX11_neverNow 14 = .ok (.putfield 77, 3) := by decide +kernel
theorem dX11_neverNow_17 : decode cX11_neverNow 17 = .ok (.iload_n 1, 1) := by decide +kernel
theorem dX11_neverNow_18 : decode cX11_neverNow 18 = .ok (.aload_n 0, 1) := by decide +kernel
theorem dX11_neverNow_19 : decode cX11_neverNow 19 = .ok (.invokevirtual 280, 3) := by decide +kernel
theorem dX11_neverNow_22 : decode cX11_neverNow 22 = .ok (.ifCond .eq 9, 3) := by decide +kernel
theorem dX11_neverNow_25 : decode cX11_neverNow 25 = .ok (.iconst 1, 1) := by decide +kernel
theorem dX11_neverNow_26 : decode cX11_neverNow 26 = .ok (.iload_n 2, 1) := by decide +kernel
theorem dX11_neverNow_27 : decode cX11_neverNow 27 = .ok (.ishl, 1) := by decide +kernel
theorem dX11_neverNow_28 : decode cX11_neverNow 28 = .ok (.goto 4, 3) := by decide +kernel
theorem dX11_neverNow_31 : decode cX11_neverNow 31 = .ok (.iconst 0, 1) := by decide +kernel
theorem dX11_neverNow_32 : decode cX11_neverNow 32 = .ok (.ior, 1) := by decide +kernel
theorem dX11_neverNow_33 : decode cX11_neverNow 33 = .ok (.istore_n 1, 1) := by decide +kernel
theorem dX11_neverNow_34 : decode cX11_neverNow 34 = .ok (.iinc 2 1, 3) := by decide +kernel
theorem dX11_neverNow_37 : decode cX11_neverNow 37 = .ok (.goto (-33), 3) := by decide +kernel
theorem dX11_neverNow_40 : decode cX11_neverNow 40 = .ok (.aload_n 0, 1) := by decide +kernel
theorem dX11_neverNow_41 : decode cX11_neverNow 41 = .ok (.iconst (-1), 1) := by decide +kernel
theorem dX11_neverNow_42 : decode cX11_neverNow 42 = .ok (.putfield 77, 3) := by decide +kernel
theorem dX11_neverNow_45 : decode cX11_neverNow 45 = .ok (.iload_n 1, 1) := by decide +kernel
theorem dX11_neverNow_46 : decode cX11_neverNow 46 = .ok (.ireturn, 1) := by decide +kernel
set_option maxRecDepth 4000 in
theorem s_X11_neverNow_0 {w : GX} {d : Nat} {P : PN} {g : GI} 
    (h : Zm w (d + 6) mX11_neverNow 4 [some (aR (some (228))), some (aI (0)), some (aI (0))] [] g P) :
    Zm w (d + 6) mX11_neverNow 0 [some (aR (some (228))), none, none] [] g P := by
  refine z_iconst dX11_neverNow_0 ?_
  refine z_istore_n dX11_neverNow_1 rfl (by decide) rfl ?_
  show Zm w (d + 6) mX11_neverNow 2 [some (aR (some (228))), some (aI (0)), none] [] g P
  refine z_iconst dX11_neverNow_2 ?_
  refine z_istore_n dX11_neverNow_3 rfl (by decide) rfl ?_
  show Zm w (d + 6) mX11_neverNow 4 [some (aR (some (228))), some (aI (0)), some (aI (0))] [] g P
  exact z_weak (by simp [lle]) h
set_option maxRecDepth 4000 in
theorem s_X11_neverNow_4 {w : GX} {d : Nat} {P : PN} {g : GI} (x1 : Int) (x2 : Int)
    (h : ((¬ nm x2 < nm (g 228 14) → (∀ g2 : GI, g2 = up2 g 228 27 ((-1)) → P (some (aI (x1))) g2)) ∧ (nm x2 < nm (g 228 14) → (∀ g3 : GI, g3 = up2 g 228 27 x2 → Zm w (d + 5) mX11_isSeen 0 [some (aR (some (228))), none, none] [] g3 (fun r g4 => ∃ z5 : Int, r = some (aI z5) ∧ ((nm z5 = 0 → (∀ v7 : Int, v7 = iOr x1 0 → Zm w (d + 6) mX11_neverNow 4 [some (aR (some (228))), some (aI (v7)), some (aI (x2 + 1))] [] g4 P)) ∧ (¬ nm z5 = 0 → (∀ v8 : Int, v8 = iOr x1 (iShl 1 x2) → Zm w (d + 6) mX11_neverNow 4 [some (aR (some (228))), some (aI (v8)), some (aI (x2 + 1))] [] g4 P)))))))) :
    Zm w (d + 6) mX11_neverNow 4 [some (aR (some (228))), some (aI (x1)), some (aI (x2))] [] g P := by
  refine z_iload_n dX11_neverNow_4 rfl rfl ?_
  refine z_aload_n dX11_neverNow_5 rfl rfl ?_
  refine z_getI dX11_neverNow_6 fl_X11_169 (by decide) kt_228 ?_
  refine z_icmp_ge (tgt := 40) dX11_neverNow_9 (by decide) (fun c1 => ?_) (fun c1 => ?_)
  · replace h := h.1 c1
    refine z_aload_n dX11_neverNow_40 rfl rfl ?_
    refine z_iconst dX11_neverNow_41 ?_
    replace h := h _ rfl
    refine z_putI dX11_neverNow_42 fw_X11_77 (by decide) kt_228 ?_
    refine z_iload_n dX11_neverNow_45 rfl rfl ?_
    exact m_iret dX11_neverNow_46 rfl h
  · replace h := h.2 (Decidable.not_not.mp c1)
    refine z_aload_n dX11_neverNow_12 rfl rfl ?_
    refine z_iload_n dX11_neverNow_13 rfl rfl ?_
    replace h := h _ rfl
    refine z_putI dX11_neverNow_14 fw_X11_77 (by decide) kt_228 ?_
    refine z_iload_n dX11_neverNow_17 rfl rfl ?_
    refine z_aload_n dX11_neverNow_18 rfl rfl ?_
    refine m_callV (as := []) dX11_neverNow_19 lk_X11_280 mok_X11_isSeen in_X11_isSeen sl_X11_isSeen kt_228 rfl rfl rfl (Nat.le_of_ble_eq_true rfl) rfl (Nat.le_of_ble_eq_true rfl) rfl (m_mono (fun r g4 hr => ?_) h)
    obtain ⟨z5, rfl, h⟩ := hr
    show Zm w (d + 6) mX11_neverNow 22 [some (aR (some (228))), some (aI (x1)), some (aI (x2))] [aI (z5), aI (x1)] g4 P
    refine z_if_eq (tgt := 31) dX11_neverNow_22 (by decide) (fun c6 => ?_) (fun c6 => ?_)
    · replace h := h.1 c6
      refine z_iconst dX11_neverNow_31 ?_
      refine z_ior dX11_neverNow_32 ?_
      replace h := h _ rfl
      refine z_istore_n dX11_neverNow_33 rfl (by decide) rfl ?_
      show Zm w (d + 6) mX11_neverNow 34 [some (aR (some (228))), some (aI (iOr x1 0)), some (aI (x2))] [] g4 P
      refine z_iinc dX11_neverNow_34 rfl (by decide) rfl ?_
      show Zm w (d + 6) mX11_neverNow 37 [some (aR (some (228))), some (aI ((iOr x1 0))), some (aI (x2 + 1))] [] g4 P
      refine z_goto (tgt := 4) dX11_neverNow_37 (by decide) ?_
      exact z_weak (by simp [lle]) h
    · replace h := h.2 c6
      refine z_iconst dX11_neverNow_25 ?_
      refine z_iload_n dX11_neverNow_26 rfl rfl ?_
      refine z_ishl dX11_neverNow_27 ?_
      refine z_goto (tgt := 32) dX11_neverNow_28 (by decide) ?_
      refine z_ior dX11_neverNow_32 ?_
      replace h := h _ rfl
      refine z_istore_n dX11_neverNow_33 rfl (by decide) rfl ?_
      show Zm w (d + 6) mX11_neverNow 34 [some (aR (some (228))), some (aI (iOr x1 (iShl 1 x2))), some (aI (x2))] [] g4 P
      refine z_iinc dX11_neverNow_34 rfl (by decide) rfl ?_
      show Zm w (d + 6) mX11_neverNow 37 [some (aR (some (228))), some (aI ((iOr x1 (iShl 1 x2)))), some (aI (x2 + 1))] [] g4 P
      refine z_goto (tgt := 4) dX11_neverNow_37 (by decide) ?_
      exact z_weak (by simp [lle]) h
theorem dX11_never_0 : decode cX11_never 0 = .ok (.aload_n 0, 1) := by decide +kernel
theorem dX11_never_1 : decode cX11_never 1 = .ok (.invokevirtual 161, 3) := by decide +kernel
theorem dX11_never_4 : decode cX11_never 4 = .ok (.aload_n 0, 1) := by decide +kernel
theorem dX11_never_5 : decode cX11_never 5 = .ok (.invokevirtual 284, 3) := by decide +kernel
theorem dX11_never_8 : decode cX11_never 8 = .ok (.ireturn, 1) := by decide +kernel
set_option maxRecDepth 4000 in
theorem s_X11_never_0 {w : GX} {d : Nat} {P : PN} {g : GI} 
    (h : Zm w (d + 6) mX11_reads 0 [some (aR (some (228)))] [] g (fun r g1 => r = none ∧ Zm w (d + 6) mX11_neverNow 0 [some (aR (some (228))), none, none] [] g1 (fun r g3 => ∃ z4 : Int, r = some (aI z4) ∧ P (some (aI (z4))) g3))) :
    Zm w (d + 7) mX11_never 0 [some (aR (some (228)))] [] g P := by
  refine z_aload_n dX11_never_0 rfl rfl ?_
  refine m_callV (as := []) dX11_never_1 lk_X11_161 mok_X11_reads in_X11_reads sl_X11_reads kt_228 rfl rfl rfl (Nat.le_of_ble_eq_true rfl) rfl (Nat.le_of_ble_eq_true rfl) rfl (m_mono (fun r g1 hr => ?_) h)
  obtain ⟨rfl, h⟩ := hr
  show Zm w (d + 7) mX11_never 4 [some (aR (some (228)))] [] g1 P
  refine z_aload_n dX11_never_4 rfl rfl ?_
  refine m_callV (as := []) dX11_never_5 lk_X11_284 mok_X11_neverNow in_X11_neverNow sl_X11_neverNow kt_228 rfl rfl rfl (Nat.le_of_ble_eq_true rfl) rfl (Nat.le_of_ble_eq_true rfl) rfl (m_mono (fun r g3 hr => ?_) h)
  obtain ⟨z4, rfl, h⟩ := hr
  show Zm w (d + 7) mX11_never 8 [some (aR (some (228)))] [aI (z4)] g3 P
  exact m_iret dX11_never_8 rfl h
theorem dX11_luckyOf_0 : decode cX11_luckyOf 0 = .ok (.iconst 0, 1) := by decide +kernel
theorem dX11_luckyOf_1 : decode cX11_luckyOf 1 = .ok (.istore_n 2, 1) := by decide +kernel
theorem dX11_luckyOf_2 : decode cX11_luckyOf 2 = .ok (.aload_n 0, 1) := by decide +kernel
theorem dX11_luckyOf_3 : decode cX11_luckyOf 3 = .ok (.iload_n 1, 1) := by decide +kernel
theorem dX11_luckyOf_4 : decode cX11_luckyOf 4 = .ok (.putfield 80, 3) := by decide +kernel
theorem dX11_luckyOf_7 : decode cX11_luckyOf 7 = .ok (.iconst 0, 1) := by decide +kernel
theorem dX11_luckyOf_8 : decode cX11_luckyOf 8 = .ok (.istore_n 3, 1) := by decide +kernel
theorem dX11_luckyOf_9 : decode cX11_luckyOf 9 = .ok (.iload_n 3, 1) := by decide +kernel
theorem dX11_luckyOf_10 : decode cX11_luckyOf 10 = .ok (.bipush 10, 2) := by decide +kernel
theorem dX11_luckyOf_12 : decode cX11_luckyOf 12 = .ok (.if_icmp .ge 31, 3) := by decide +kernel
theorem dX11_luckyOf_15 : decode cX11_luckyOf 15 = .ok (.aload_n 0, 1) := by decide +kernel
theorem dX11_luckyOf_16 : decode cX11_luckyOf 16 = .ok (.iload_n 3, 1) := by decide +kernel
theorem dX11_luckyOf_17 : decode cX11_luckyOf 17 = .ok (.putfield 197, 3) := by decide +kernel
theorem dX11_luckyOf_20 : decode cX11_luckyOf 20 = .ok (.iload_n 2, 1) := by decide +kernel
theorem dX11_luckyOf_21 : decode cX11_luckyOf 21 = .ok (.aload_n 0, 1) := by decide +kernel
theorem dX11_luckyOf_22 : decode cX11_luckyOf 22 = .ok (.invokevirtual 280, 3) := by decide +kernel
theorem dX11_luckyOf_25 : decode cX11_luckyOf 25 = .ok (.ifCond .eq 9, 3) := by decide +kernel
theorem dX11_luckyOf_28 : decode cX11_luckyOf 28 = .ok (.iconst 1, 1) := by decide +kernel
theorem dX11_luckyOf_29 : decode cX11_luckyOf 29 = .ok (.iload_n 3, 1) := by decide +kernel
theorem dX11_luckyOf_30 : decode cX11_luckyOf 30 = .ok (.ishl, 1) := by decide +kernel
theorem dX11_luckyOf_31 : decode cX11_luckyOf 31 = .ok (.goto 4, 3) := by decide +kernel
theorem dX11_luckyOf_34 : decode cX11_luckyOf 34 = .ok (.iconst 0, 1) := by decide +kernel
theorem dX11_luckyOf_35 : decode cX11_luckyOf 35 = .ok (.ior, 1) := by decide +kernel
theorem dX11_luckyOf_36 : decode cX11_luckyOf 36 = .ok (.istore_n 2, 1) := by decide +kernel
theorem dX11_luckyOf_37 : decode cX11_luckyOf 37 = .ok (.iinc 3 1, 3) := by decide +kernel
theorem dX11_luckyOf_40 : decode cX11_luckyOf 40 = .ok (.goto (-31), 3) := by decide +kernel
theorem dX11_luckyOf_43 : decode cX11_luckyOf 43 = .ok (.aload_n 0, 1) := by decide +kernel
theorem dX11_luckyOf_44 : decode cX11_luckyOf 44 = .ok (.iconst (-1), 1) := by decide +kernel
theorem dX11_luckyOf_45 : decode cX11_luckyOf 45 = .ok (.putfield 80, 3) := by decide +kernel
theorem dX11_luckyOf_48 : decode cX11_luckyOf 48 = .ok (.iload_n 2, 1) := by decide +kernel
theorem dX11_luckyOf_49 : decode cX11_luckyOf 49 = .ok (.ireturn, 1) := by decide +kernel
set_option maxRecDepth 4000 in
theorem s_X11_luckyOf_0 {w : GX} {d : Nat} {P : PN} {g : GI} (x1 : Int)
    (h : (∀ g1 : GI, g1 = up2 g 228 28 x1 → Zm w (d + 6) mX11_luckyOf 9 [some (aR (some (228))), none, some (aI (0)), some (aI (0))] [] g1 P)) :
    Zm w (d + 6) mX11_luckyOf 0 [some (aR (some (228))), some (aI (x1)), none, none] [] g P := by
  refine z_iconst dX11_luckyOf_0 ?_
  refine z_istore_n dX11_luckyOf_1 rfl (by decide) rfl ?_
  show Zm w (d + 6) mX11_luckyOf 2 [some (aR (some (228))), some (aI (x1)), some (aI (0)), none] [] g P
  refine z_aload_n dX11_luckyOf_2 rfl rfl ?_
  refine z_iload_n dX11_luckyOf_3 rfl rfl ?_
  replace h := h _ rfl
  refine z_putI dX11_luckyOf_4 fw_X11_80 (by decide) kt_228 ?_
  refine z_iconst dX11_luckyOf_7 ?_
  refine z_istore_n dX11_luckyOf_8 rfl (by decide) rfl ?_
  show Zm w (d + 6) mX11_luckyOf 9 [some (aR (some (228))), some (aI (x1)), some (aI (0)), some (aI (0))] [] (up2 g 228 28 x1) P
  exact z_weak (by simp [lle]) h
set_option maxRecDepth 4000 in
theorem s_X11_luckyOf_9 {w : GX} {d : Nat} {P : PN} {g : GI} (x2 : Int) (x3 : Int)
    (h : ((¬ nm x3 < nm 10 → (∀ g2 : GI, g2 = up2 g 228 28 ((-1)) → P (some (aI (x2))) g2)) ∧ (nm x3 < nm 10 → (∀ g3 : GI, g3 = up2 g 228 29 x3 → Zm w (d + 5) mX11_isSeen 0 [some (aR (some (228))), none, none] [] g3 (fun r g4 => ∃ z5 : Int, r = some (aI z5) ∧ ((nm z5 = 0 → (∀ v7 : Int, v7 = iOr x2 0 → Zm w (d + 6) mX11_luckyOf 9 [some (aR (some (228))), none, some (aI (v7)), some (aI (x3 + 1))] [] g4 P)) ∧ (¬ nm z5 = 0 → (∀ v8 : Int, v8 = iOr x2 (iShl 1 x3) → Zm w (d + 6) mX11_luckyOf 9 [some (aR (some (228))), none, some (aI (v8)), some (aI (x3 + 1))] [] g4 P)))))))) :
    Zm w (d + 6) mX11_luckyOf 9 [some (aR (some (228))), none, some (aI (x2)), some (aI (x3))] [] g P := by
  refine z_iload_n dX11_luckyOf_9 rfl rfl ?_
  refine z_bipush dX11_luckyOf_10 rfl ?_
  refine z_icmp_ge (tgt := 43) dX11_luckyOf_12 (by decide) (fun c1 => ?_) (fun c1 => ?_)
  · replace h := h.1 c1
    refine z_aload_n dX11_luckyOf_43 rfl rfl ?_
    refine z_iconst dX11_luckyOf_44 ?_
    replace h := h _ rfl
    refine z_putI dX11_luckyOf_45 fw_X11_80 (by decide) kt_228 ?_
    refine z_iload_n dX11_luckyOf_48 rfl rfl ?_
    exact m_iret dX11_luckyOf_49 rfl h
  · replace h := h.2 (Decidable.not_not.mp c1)
    refine z_aload_n dX11_luckyOf_15 rfl rfl ?_
    refine z_iload_n dX11_luckyOf_16 rfl rfl ?_
    replace h := h _ rfl
    refine z_putI dX11_luckyOf_17 fw_X11_197 (by decide) kt_228 ?_
    refine z_iload_n dX11_luckyOf_20 rfl rfl ?_
    refine z_aload_n dX11_luckyOf_21 rfl rfl ?_
    refine m_callV (as := []) dX11_luckyOf_22 lk_X11_280 mok_X11_isSeen in_X11_isSeen sl_X11_isSeen kt_228 rfl rfl rfl (Nat.le_of_ble_eq_true rfl) rfl (Nat.le_of_ble_eq_true rfl) rfl (m_mono (fun r g4 hr => ?_) h)
    obtain ⟨z5, rfl, h⟩ := hr
    show Zm w (d + 6) mX11_luckyOf 25 [some (aR (some (228))), none, some (aI (x2)), some (aI (x3))] [aI (z5), aI (x2)] g4 P
    refine z_if_eq (tgt := 34) dX11_luckyOf_25 (by decide) (fun c6 => ?_) (fun c6 => ?_)
    · replace h := h.1 c6
      refine z_iconst dX11_luckyOf_34 ?_
      refine z_ior dX11_luckyOf_35 ?_
      replace h := h _ rfl
      refine z_istore_n dX11_luckyOf_36 rfl (by decide) rfl ?_
      show Zm w (d + 6) mX11_luckyOf 37 [some (aR (some (228))), none, some (aI (iOr x2 0)), some (aI (x3))] [] g4 P
      refine z_iinc dX11_luckyOf_37 rfl (by decide) rfl ?_
      show Zm w (d + 6) mX11_luckyOf 40 [some (aR (some (228))), none, some (aI ((iOr x2 0))), some (aI (x3 + 1))] [] g4 P
      refine z_goto (tgt := 9) dX11_luckyOf_40 (by decide) ?_
      exact z_weak (by simp [lle]) h
    · replace h := h.2 c6
      refine z_iconst dX11_luckyOf_28 ?_
      refine z_iload_n dX11_luckyOf_29 rfl rfl ?_
      refine z_ishl dX11_luckyOf_30 ?_
      refine z_goto (tgt := 35) dX11_luckyOf_31 (by decide) ?_
      refine z_ior dX11_luckyOf_35 ?_
      replace h := h _ rfl
      refine z_istore_n dX11_luckyOf_36 rfl (by decide) rfl ?_
      show Zm w (d + 6) mX11_luckyOf 37 [some (aR (some (228))), none, some (aI (iOr x2 (iShl 1 x3))), some (aI (x3))] [] g4 P
      refine z_iinc dX11_luckyOf_37 rfl (by decide) rfl ?_
      show Zm w (d + 6) mX11_luckyOf 40 [some (aR (some (228))), none, some (aI ((iOr x2 (iShl 1 x3)))), some (aI (x3 + 1))] [] g4 P
      refine z_goto (tgt := 9) dX11_luckyOf_40 (by decide) ?_
      exact z_weak (by simp [lle]) h
theorem dX11_lucky_0 : decode cX11_lucky 0 = .ok (.aload_n 0, 1) := by decide +kernel
theorem dX11_lucky_1 : decode cX11_lucky 1 = .ok (.invokevirtual 161, 3) := by decide +kernel
theorem dX11_lucky_4 : decode cX11_lucky 4 = .ok (.aload_n 0, 1) := by decide +kernel
theorem dX11_lucky_5 : decode cX11_lucky 5 = .ok (.iload_n 1, 1) := by decide +kernel
theorem dX11_lucky_6 : decode cX11_lucky 6 = .ok (.invokevirtual 164, 3) := by decide +kernel
theorem dX11_lucky_9 : decode cX11_lucky 9 = .ok (.ifCond .eq 11, 3) := by decide +kernel
theorem dX11_lucky_12 : decode cX11_lucky 12 = .ok (.aload_n 0, 1) := by decide +kernel
theorem dX11_lucky_13 : decode cX11_lucky 13 = .ok (.iload_n 1, 1) := by decide +kernel
theorem dX11_lucky_14 : decode cX11_lucky 14 = .ok (.invokevirtual 287, 3) := by decide +kernel
theorem dX11_lucky_17 : decode cX11_lucky 17 = .ok (.goto 5, 3) := by decide +kernel
theorem dX11_lucky_20 : decode cX11_lucky 20 = .ok (.bipush (-2), 2) := by decide +kernel
theorem dX11_lucky_22 : decode cX11_lucky 22 = .ok (.ireturn, 1) := by decide +kernel
set_option maxRecDepth 4000 in
theorem s_X11_lucky_0 {w : GX} {d : Nat} {P : PN} {g : GI} (x1 : Int)
    (h : Zm w (d + 6) mX11_reads 0 [some (aR (some (228)))] [] g (fun r g1 => r = none ∧ (((nm (inn (x1) 0 (nm (g1 228 10 - 1))) = 0 → P (some (aI ((-2)))) g1) ∧ (¬ nm (inn (x1) 0 (nm (g1 228 10 - 1))) = 0 → Zm w (d + 6) mX11_luckyOf 0 [some (aR (some (228))), some (aI (x1)), none, none] [] g1 (fun r g4 => ∃ z5 : Int, r = some (aI z5) ∧ P (some (aI (z5))) g4)))))) :
    Zm w (d + 7) mX11_lucky 0 [some (aR (some (228))), some (aI (x1))] [] g P := by
  refine z_aload_n dX11_lucky_0 rfl rfl ?_
  refine m_callV (as := []) dX11_lucky_1 lk_X11_161 mok_X11_reads in_X11_reads sl_X11_reads kt_228 rfl rfl rfl (Nat.le_of_ble_eq_true rfl) rfl (Nat.le_of_ble_eq_true rfl) rfl (m_mono (fun r g1 hr => ?_) h)
  obtain ⟨rfl, h⟩ := hr
  show Zm w (d + 7) mX11_lucky 4 [some (aR (some (228))), some (aI (x1))] [] g1 P
  refine z_aload_n dX11_lucky_4 rfl rfl ?_
  refine z_iload_n dX11_lucky_5 rfl rfl ?_
  refine m_callV (as := [aI (x1)]) dX11_lucky_6 lk_X11_164 mok_X11_isPerson in_X11_isPerson sl_X11_isPerson kt_228 rfl rfl rfl (Nat.le_of_ble_eq_true rfl) rfl (Nat.le_of_ble_eq_true rfl) rfl (c_X11_isPerson  ?_)
  show Zm w (d + 7) mX11_lucky 9 [some (aR (some (228))), some (aI (x1))] [aI (inn (x1) 0 (nm (g1 228 10 - 1)))] g1 P
  refine z_if_eq (tgt := 20) dX11_lucky_9 (by decide) (fun c3 => ?_) (fun c3 => ?_)
  · replace h := h.1 c3
    refine z_bipush dX11_lucky_20 rfl ?_
    exact m_iret dX11_lucky_22 rfl h
  · replace h := h.2 c3
    refine z_aload_n dX11_lucky_12 rfl rfl ?_
    refine z_iload_n dX11_lucky_13 rfl rfl ?_
    refine m_callV (as := [aI (x1)]) dX11_lucky_14 lk_X11_287 mok_X11_luckyOf in_X11_luckyOf sl_X11_luckyOf kt_228 rfl rfl rfl (Nat.le_of_ble_eq_true rfl) rfl (Nat.le_of_ble_eq_true rfl) rfl (m_mono (fun r g4 hr => ?_) h)
    obtain ⟨z5, rfl, h⟩ := hr
    show Zm w (d + 7) mX11_lucky 17 [some (aR (some (228))), some (aI (x1))] [aI (z5)] g4 P
    refine z_goto (tgt := 22) dX11_lucky_17 (by decide) ?_
    exact m_iret dX11_lucky_22 rfl h
theorem dX11_askOf_0 : decode cX11_askOf 0 = .ok (.aload_n 0, 1) := by decide +kernel
theorem dX11_askOf_1 : decode cX11_askOf 1 = .ok (.invokevirtual 284, 3) := by decide +kernel
theorem dX11_askOf_4 : decode cX11_askOf 4 = .ok (.istore_n 2, 1) := by decide +kernel
theorem dX11_askOf_5 : decode cX11_askOf 5 = .ok (.iconst 0, 1) := by decide +kernel
theorem dX11_askOf_6 : decode cX11_askOf 6 = .ok (.istore_n 3, 1) := by decide +kernel
theorem dX11_askOf_7 : decode cX11_askOf 7 = .ok (.iload_n 3, 1) := by decide +kernel
theorem dX11_askOf_8 : decode cX11_askOf 8 = .ok (.sipush 208, 3) := by decide +kernel
theorem dX11_askOf_11 : decode cX11_askOf 11 = .ok (.if_icmp .ge 16, 3) := by decide +kernel
theorem dX11_askOf_14 : decode cX11_askOf 14 = .ok (.aload_n 0, 1) := by decide +kernel
theorem dX11_askOf_15 : decode cX11_askOf 15 = .ok (.getfield 70, 3) := by decide +kernel
theorem dX11_askOf_18 : decode cX11_askOf 18 = .ok (.iload_n 3, 1) := by decide +kernel
theorem dX11_askOf_19 : decode cX11_askOf 19 = .ok (.iconst 0, 1) := by decide +kernel
theorem dX11_askOf_20 : decode cX11_askOf 20 = .ok (.iastore, 1) := by decide +kernel
theorem dX11_askOf_21 : decode cX11_askOf 21 = .ok (.iinc 3 1, 3) := by decide +kernel
theorem dX11_askOf_24 : decode cX11_askOf 24 = .ok (.goto (-17), 3) := by decide +kernel
theorem dX11_askOf_27 : decode cX11_askOf 27 = .ok (.iconst 0, 1) := by decide +kernel
theorem dX11_askOf_28 : decode cX11_askOf 28 = .ok (.istore_n 3, 1) := by decide +kernel
theorem dX11_askOf_29 : decode cX11_askOf 29 = .ok (.iload_n 3, 1) := by decide +kernel
theorem dX11_askOf_30 : decode cX11_askOf 30 = .ok (.aload_n 0, 1) := by decide +kernel
theorem dX11_askOf_31 : decode cX11_askOf 31 = .ok (.getfield 169, 3) := by decide +kernel
theorem dX11_askOf_34 : decode cX11_askOf 34 = .ok (.if_icmp .ge 72, 3) := by decide +kernel
theorem dX11_askOf_37 : decode cX11_askOf 37 = .ok (.iload_n 2, 1) := by decide +kernel
theorem dX11_askOf_38 : decode cX11_askOf 38 = .ok (.iload_n 3, 1) := by decide +kernel
theorem dX11_askOf_39 : decode cX11_askOf 39 = .ok (.invokestatic 206, 3) := by decide +kernel
theorem dX11_askOf_42 : decode cX11_askOf 42 = .ok (.ifCond .eq 58, 3) := by decide +kernel
theorem dX11_askOf_45 : decode cX11_askOf 45 = .ok (.aload_n 0, 1) := by decide +kernel
theorem dX11_askOf_46 : decode cX11_askOf 46 = .ok (.iload_n 3, 1) := by decide +kernel
theorem dX11_askOf_47 : decode cX11_askOf 47 = .ok (.putfield 77, 3) := by decide +kernel
theorem dX11_askOf_50 : decode cX11_askOf 50 = .ok (.aload_n 0, 1) := by decide +kernel
theorem dX11_askOf_51 : decode cX11_askOf 51 = .ok (.iload_n 1, 1) := by decide +kernel
theorem dX11_askOf_52 : decode cX11_askOf 52 = .ok (.invokevirtual 232, 3) := by decide +kernel
theorem dX11_askOf_55 : decode cX11_askOf 55 = .ok (.iconst 0, 1) := by decide +kernel
theorem dX11_askOf_56 : decode cX11_askOf 56 = .ok (.istore 4, 2) := by decide +kernel
theorem dX11_askOf_58 : decode cX11_askOf 58 = .ok (.iload 4, 2) := by decide +kernel
theorem dX11_askOf_60 : decode cX11_askOf 60 = .ok (.aload_n 0, 1) := by decide +kernel
theorem dX11_askOf_61 : decode cX11_askOf 61 = .ok (.getfield 140, 3) := by decide +kernel
theorem dX11_askOf_64 : decode cX11_askOf 64 = .ok (.if_icmp .ge 36, 3) := by decide +kernel
theorem dX11_askOf_67 : decode cX11_askOf 67 = .ok (.aload_n 0, 1) := by decide +kernel
theorem dX11_askOf_68 : decode cX11_askOf 68 = .ok (.getfield 70, 3) := by decide +kernel
theorem dX11_askOf_71 : decode cX11_askOf 71 = .ok (.bipush 26, 2) := by decide +kernel
theorem dX11_askOf_73 : decode cX11_askOf 73 = .ok (.iload 4, 2) := by decide +kernel
theorem dX11_askOf_75 : decode cX11_askOf 75 = .ok (.imul, 1) := by decide +kernel
theorem dX11_askOf_76 : decode cX11_askOf 76 = .ok (.aload_n 0, 1) := by decide +kernel
theorem dX11_askOf_77 : decode cX11_askOf 77 = .ok (.getfield 58, 3) := by decide +kernel
theorem dX11_askOf_80 : decode cX11_askOf 80 = .ok (.aload_n 0, 1) := by decide +kernel
theorem dX11_askOf_81 : decode cX11_askOf 81 = .ok (.getfield 61, 3) := by decide +kernel
theorem dX11_askOf_84 : decode cX11_askOf 84 = .ok (.iload 4, 2) := by decide +kernel
theorem dX11_askOf_86 : decode cX11_askOf 86 = .ok (.iaload, 1) := by decide +kernel
theorem dX11_askOf_87 : decode cX11_askOf 87 = .ok (.iaload, 1) := by decide +kernel
theorem dX11_askOf_88 : decode cX11_askOf 88 = .ok (.iadd, 1) := by decide +kernel
theorem dX11_askOf_89 : decode cX11_askOf 89 = .ok (.dup2, 1) := by decide +kernel
theorem dX11_askOf_90 : decode cX11_askOf 90 = .ok (.iaload, 1) := by decide +kernel
theorem dX11_askOf_91 : decode cX11_askOf 91 = .ok (.iconst 1, 1) := by decide +kernel
theorem dX11_askOf_92 : decode cX11_askOf 92 = .ok (.iadd, 1) := by decide +kernel
theorem dX11_askOf_93 : decode cX11_askOf 93 = .ok (.iastore, 1) := by decide +kernel
theorem dX11_askOf_94 : decode cX11_askOf 94 = .ok (.iinc 4 1, 3) := by decide +kernel
theorem dX11_askOf_97 : decode cX11_askOf 97 = .ok (.goto (-39), 3) := by decide +kernel
theorem dX11_askOf_100 : decode cX11_askOf 100 = .ok (.iinc 3 1, 3) := by decide +kernel
theorem dX11_askOf_103 : decode cX11_askOf 103 = .ok (.goto (-74), 3) := by decide +kernel
theorem dX11_askOf_106 : decode cX11_askOf 106 = .ok (.aload_n 0, 1) := by decide +kernel
theorem dX11_askOf_107 : decode cX11_askOf 107 = .ok (.iconst (-1), 1) := by decide +kernel
theorem dX11_askOf_108 : decode cX11_askOf 108 = .ok (.putfield 77, 3) := by decide +kernel
theorem dX11_askOf_111 : decode cX11_askOf 111 = .ok (.iconst (-1), 1) := by decide +kernel
theorem dX11_askOf_112 : decode cX11_askOf 112 = .ok (.istore_n 3, 1) := by decide +kernel
theorem dX11_askOf_113 : decode cX11_askOf 113 = .ok (.iconst 0, 1) := by decide +kernel
theorem dX11_askOf_114 : decode cX11_askOf 114 = .ok (.istore 4, 2) := by decide +kernel
theorem dX11_askOf_116 : decode cX11_askOf 116 = .ok (.iconst 0, 1) := by decide +kernel
theorem dX11_askOf_117 : decode cX11_askOf 117 = .ok (.istore 5, 2) := by decide +kernel
theorem dX11_askOf_119 : decode cX11_askOf 119 = .ok (.iload 5, 2) := by decide +kernel
theorem dX11_askOf_121 : decode cX11_askOf 121 = .ok (.aload_n 0, 1) := by decide +kernel
theorem dX11_askOf_122 : decode cX11_askOf 122 = .ok (.getfield 140, 3) := by decide +kernel
theorem dX11_askOf_125 : decode cX11_askOf 125 = .ok (.if_icmp .ge 111, 3) := by decide +kernel
theorem dX11_askOf_128 : decode cX11_askOf 128 = .ok (.iconst 0, 1) := by decide +kernel
theorem dX11_askOf_129 : decode cX11_askOf 129 = .ok (.istore 6, 2) := by decide +kernel
theorem dX11_askOf_131 : decode cX11_askOf 131 = .ok (.iconst 0, 1) := by decide +kernel
theorem dX11_askOf_132 : decode cX11_askOf 132 = .ok (.istore 7, 2) := by decide +kernel
theorem dX11_askOf_134 : decode cX11_askOf 134 = .ok (.iload 7, 2) := by decide +kernel
theorem dX11_askOf_136 : decode cX11_askOf 136 = .ok (.bipush 26, 2) := by decide +kernel
theorem dX11_askOf_138 : decode cX11_askOf 138 = .ok (.if_icmp .ge 47, 3) := by decide +kernel
theorem dX11_askOf_141 : decode cX11_askOf 141 = .ok (.aload_n 0, 1) := by decide +kernel
theorem dX11_askOf_142 : decode cX11_askOf 142 = .ok (.getfield 70, 3) := by decide +kernel
theorem dX11_askOf_145 : decode cX11_askOf 145 = .ok (.bipush 26, 2) := by decide +kernel
theorem dX11_askOf_147 : decode cX11_askOf 147 = .ok (.iload 5, 2) := by decide +kernel
theorem dX11_askOf_149 : decode cX11_askOf 149 = .ok (.imul, 1) := by decide +kernel
theorem dX11_askOf_150 : decode cX11_askOf 150 = .ok (.iload 7, 2) := by decide +kernel
theorem dX11_askOf_152 : decode cX11_askOf 152 = .ok (.iadd, 1) := by decide +kernel
theorem dX11_askOf_153 : decode cX11_askOf 153 = .ok (.iaload, 1) := by decide +kernel
theorem dX11_askOf_154 : decode cX11_askOf 154 = .ok (.iload 6, 2) := by decide +kernel
theorem dX11_askOf_156 : decode cX11_askOf 156 = .ok (.if_icmp .le 19, 3) := by decide +kernel
theorem dX11_askOf_159 : decode cX11_askOf 159 = .ok (.aload_n 0, 1) := by decide +kernel
theorem dX11_askOf_160 : decode cX11_askOf 160 = .ok (.getfield 70, 3) := by decide +kernel
theorem dX11_askOf_163 : decode cX11_askOf 163 = .ok (.bipush 26, 2) := by decide +kernel
theorem dX11_askOf_165 : decode cX11_askOf 165 = .ok (.iload 5, 2) := by decide +kernel
theorem dX11_askOf_167 : decode cX11_askOf 167 = .ok (.imul, 1) := by decide +kernel
theorem dX11_askOf_168 : decode cX11_askOf 168 = .ok (.iload 7, 2) := by decide +kernel
theorem dX11_askOf_170 : decode cX11_askOf 170 = .ok (.iadd, 1) := by decide +kernel
theorem dX11_askOf_171 : decode cX11_askOf 171 = .ok (.iaload, 1) := by decide +kernel
theorem dX11_askOf_172 : decode cX11_askOf 172 = .ok (.goto 5, 3) := by decide +kernel
theorem dX11_askOf_175 : decode cX11_askOf 175 = .ok (.iload 6, 2) := by decide +kernel
theorem dX11_askOf_177 : decode cX11_askOf 177 = .ok (.istore 6, 2) := by decide +kernel
theorem dX11_askOf_179 : decode cX11_askOf 179 = .ok (.iinc 7 1, 3) := by decide +kernel
theorem dX11_askOf_182 : decode cX11_askOf 182 = .ok (.goto (-48), 3) := by decide +kernel
theorem dX11_askOf_185 : decode cX11_askOf 185 = .ok (.iload_n 3, 1) := by decide +kernel
theorem dX11_askOf_186 : decode cX11_askOf 186 = .ok (.iconst (-1), 1) := by decide +kernel
theorem dX11_askOf_187 : decode cX11_askOf 187 = .ok (.if_icmp .eq 10, 3) := by decide +kernel
theorem dX11_askOf_190 : decode cX11_askOf 190 = .ok (.iload 6, 2) := by decide +kernel
theorem dX11_askOf_192 : decode cX11_askOf 192 = .ok (.iload 4, 2) := by decide +kernel
theorem dX11_askOf_194 : decode cX11_askOf 194 = .ok (.if_icmp .ge 7, 3) := by decide +kernel
theorem dX11_askOf_197 : decode cX11_askOf 197 = .ok (.iconst 1, 1) := by decide +kernel
theorem dX11_askOf_198 : decode cX11_askOf 198 = .ok (.goto 4, 3) := by decide +kernel
theorem dX11_askOf_201 : decode cX11_askOf 201 = .ok (.iconst 0, 1) := by decide +kernel
theorem dX11_askOf_202 : decode cX11_askOf 202 = .ok (.istore 7, 2) := by decide +kernel
theorem dX11_askOf_204 : decode cX11_askOf 204 = .ok (.iload 7, 2) := by decide +kernel
theorem dX11_askOf_206 : decode cX11_askOf 206 = .ok (.ifCond .eq 8, 3) := by decide +kernel
theorem dX11_askOf_209 : decode cX11_askOf 209 = .ok (.iload 5, 2) := by decide +kernel
theorem dX11_askOf_211 : decode cX11_askOf 211 = .ok (.goto 4, 3) := by decide +kernel
theorem dX11_askOf_214 : decode cX11_askOf 214 = .ok (.iload_n 3, 1) := by decide +kernel
theorem dX11_askOf_215 : decode cX11_askOf 215 = .ok (.istore_n 3, 1) := by decide +kernel
theorem dX11_askOf_216 : decode cX11_askOf 216 = .ok (.iload 7, 2) := by decide +kernel
theorem dX11_askOf_218 : decode cX11_askOf 218 = .ok (.ifCond .eq 8, 3) := by decide +kernel
theorem dX11_askOf_221 : decode cX11_askOf 221 = .ok (.iload 6, 2) := by decide +kernel
theorem dX11_askOf_223 : decode cX11_askOf 223 = .ok (.goto 5, 3) := by decide +kernel
theorem dX11_askOf_226 : decode cX11_askOf 226 = .ok (.iload 4, 2) := by decide +kernel
theorem dX11_askOf_228 : decode cX11_askOf 228 = .ok (.istore 4, 2) := by decide +kernel
theorem dX11_askOf_230 : decode cX11_askOf 230 = .ok (.iinc 5 1, 3) := by decide +kernel
theorem dX11_askOf_233 : decode cX11_askOf 233 = .ok (.goto (-114), 3) := by decide +kernel
theorem dX11_askOf_236 : decode cX11_askOf 236 = .ok (.iload_n 3, 1) := by decide +kernel
theorem dX11_askOf_237 : decode cX11_askOf 237 = .ok (.ireturn, 1) := by decide +kernel
set_option maxRecDepth 4000 in
theorem s_X11_askOf_0 {w : GX} {d : Nat} {P : PN} {g : GI} (x1 : Int)
    (h : Zm w (d + 6) mX11_neverNow 0 [some (aR (some (228))), none, none] [] g (fun r g1 => ∃ z2 : Int, r = some (aI z2) ∧ Zm w (d + 7) mX11_askOf 7 [some (aR (some (228))), some (aI (x1)), some (aI (z2)), some (aI (0)), none, none, none, none] [] g1 P)) :
    Zm w (d + 7) mX11_askOf 0 [some (aR (some (228))), some (aI (x1)), none, none, none, none, none, none] [] g P := by
  refine z_aload_n dX11_askOf_0 rfl rfl ?_
  refine m_callV (as := []) dX11_askOf_1 lk_X11_284 mok_X11_neverNow in_X11_neverNow sl_X11_neverNow kt_228 rfl rfl rfl (Nat.le_of_ble_eq_true rfl) rfl (Nat.le_of_ble_eq_true rfl) rfl (m_mono (fun r g1 hr => ?_) h)
  obtain ⟨z2, rfl, h⟩ := hr
  show Zm w (d + 7) mX11_askOf 4 [some (aR (some (228))), some (aI (x1)), none, none, none, none, none, none] [aI (z2)] g1 P
  refine z_istore_n dX11_askOf_4 rfl (by decide) rfl ?_
  show Zm w (d + 7) mX11_askOf 5 [some (aR (some (228))), some (aI (x1)), some (aI (z2)), none, none, none, none, none] [] g1 P
  refine z_iconst dX11_askOf_5 ?_
  refine z_istore_n dX11_askOf_6 rfl (by decide) rfl ?_
  show Zm w (d + 7) mX11_askOf 7 [some (aR (some (228))), some (aI (x1)), some (aI (z2)), some (aI (0)), none, none, none, none] [] g1 P
  exact z_weak (by simp [lle]) h
set_option maxRecDepth 4000 in
theorem s_X11_askOf_7 {w : GX} {d : Nat} {P : PN} {g : GI} (x1 : Int) (x2 : Int) (x3 : Int)
    (h : ((¬ nm x3 < nm 208 → Zm w (d + 7) mX11_askOf 29 [some (aR (some (228))), some (aI (x1)), some (aI (x2)), some (aI (0)), none, none, none, none] [] g P) ∧ (nm x3 < nm 208 → (0 ≤ nm x3 ∧ nm x3 < 208 ∧ ∀ g2 : GI, g2 = up2 g 249 (nm x3).toNat 0 → Zm w (d + 7) mX11_askOf 7 [some (aR (some (228))), some (aI (x1)), some (aI (x2)), some (aI (x3 + 1)), none, none, none, none] [] g2 P)))) :
    Zm w (d + 7) mX11_askOf 7 [some (aR (some (228))), some (aI (x1)), some (aI (x2)), some (aI (x3)), none, none, none, none] [] g P := by
  refine z_iload_n dX11_askOf_7 rfl rfl ?_
  refine z_sipush dX11_askOf_8 rfl ?_
  refine z_icmp_ge (tgt := 27) dX11_askOf_11 (by decide) (fun c1 => ?_) (fun c1 => ?_)
  · replace h := h.1 c1
    refine z_iconst dX11_askOf_27 ?_
    refine z_istore_n dX11_askOf_28 rfl (by decide) rfl ?_
    show Zm w (d + 7) mX11_askOf 29 [some (aR (some (228))), some (aI (x1)), some (aI (x2)), some (aI (0)), none, none, none, none] [] g P
    exact z_weak (by simp [lle]) h
  · replace h := h.2 (Decidable.not_not.mp c1)
    refine z_aload_n dX11_askOf_14 rfl rfl ?_
    refine m_getR dX11_askOf_15 fl_X11_70 (by decide) kt_228 rv_228_33 ?_
    refine z_iload_n dX11_askOf_18 rfl rfl ?_
    refine z_iconst dX11_askOf_19 ?_
    obtain ⟨q3, q4, h⟩ := h
    replace h := h _ rfl
    refine m_iast dX11_askOf_20 kv_249 q3 q4 ?_
    refine z_iinc dX11_askOf_21 rfl (by decide) rfl ?_
    show Zm w (d + 7) mX11_askOf 24 [some (aR (some (228))), some (aI (x1)), some (aI (x2)), some (aI (x3 + 1)), none, none, none, none] [] (up2 g 249 (nm x3).toNat 0) P
    refine z_goto (tgt := 7) dX11_askOf_24 (by decide) ?_
    exact z_weak (by simp [lle]) h
set_option maxRecDepth 4000 in
theorem s_X11_askOf_29 {w : GX} {d : Nat} {P : PN} {g : GI} (x1 : Int) (x2 : Int) (x3 : Int)
    (h : ((¬ nm x3 < nm (g 228 14) → (∀ g2 : GI, g2 = up2 g 228 27 ((-1)) → (∀ v3 : Int, v3 = (-1) → Zm w (d + 7) mX11_askOf 119 [some (aR (some (228))), none, none, some (aI (v3)), some (aI (0)), some (aI (0)), none, none] [] g2 P))) ∧ (nm x3 < nm (g 228 14) → (((nm (isB (x2) (x3)) = 0 → Zm w (d + 7) mX11_askOf 29 [some (aR (some (228))), some (aI (x1)), some (aI (x2)), some (aI (x3 + 1)), none, none, none, none] [] g P) ∧ (¬ nm (isB (x2) (x3)) = 0 → (∀ g5 : GI, g5 = up2 g 228 27 x3 → Zm w (d + 6) mX11_lives 0 [some (aR (some (228))), some (aI (x1)), none] [] g5 (fun r g6 => r = none ∧ Zm w (d + 7) mX11_askOf 58 [some (aR (some (228))), some (aI (x1)), some (aI (x2)), some (aI (x3)), some (aI (0)), none, none, none] [] g6 P)))))))) :
    Zm w (d + 7) mX11_askOf 29 [some (aR (some (228))), some (aI (x1)), some (aI (x2)), some (aI (x3)), none, none, none, none] [] g P := by
  refine z_iload_n dX11_askOf_29 rfl rfl ?_
  refine z_aload_n dX11_askOf_30 rfl rfl ?_
  refine z_getI dX11_askOf_31 fl_X11_169 (by decide) kt_228 ?_
  refine z_icmp_ge (tgt := 106) dX11_askOf_34 (by decide) (fun c1 => ?_) (fun c1 => ?_)
  · replace h := h.1 c1
    refine z_aload_n dX11_askOf_106 rfl rfl ?_
    refine z_iconst dX11_askOf_107 ?_
    replace h := h _ rfl
    refine z_putI dX11_askOf_108 fw_X11_77 (by decide) kt_228 ?_
    refine z_iconst dX11_askOf_111 ?_
    replace h := h _ rfl
    refine z_istore_n dX11_askOf_112 rfl (by decide) rfl ?_
    show Zm w (d + 7) mX11_askOf 113 [some (aR (some (228))), some (aI (x1)), some (aI (x2)), some (aI ((-1))), none, none, none, none] [] (up2 g 228 27 ((-1))) P
    refine z_iconst dX11_askOf_113 ?_
    refine z_istore dX11_askOf_114 (by decide) rfl ?_
    show Zm w (d + 7) mX11_askOf 116 [some (aR (some (228))), some (aI (x1)), some (aI (x2)), some (aI (((-1)))), some (aI (0)), none, none, none] [] (up2 g 228 27 ((-1))) P
    refine z_iconst dX11_askOf_116 ?_
    refine z_istore dX11_askOf_117 (by decide) rfl ?_
    show Zm w (d + 7) mX11_askOf 119 [some (aR (some (228))), some (aI (x1)), some (aI (x2)), some (aI (((-1)))), some (aI (0)), some (aI (0)), none, none] [] (up2 g 228 27 ((-1))) P
    exact z_weak (by simp [lle]) h
  · replace h := h.2 (Decidable.not_not.mp c1)
    refine z_iload_n dX11_askOf_37 rfl rfl ?_
    refine z_iload_n dX11_askOf_38 rfl rfl ?_
    refine m_callS (as := [aI (x2), aI (x3)]) dX11_askOf_39 lk_X11_206 mok_X11_isIn st_X11_isIn rfl (Nat.le_of_ble_eq_true rfl) rfl (Nat.le_of_ble_eq_true rfl) rfl (c_X11_isIn  ?_)
    show Zm w (d + 7) mX11_askOf 42 [some (aR (some (228))), some (aI (x1)), some (aI (x2)), some (aI (x3)), none, none, none, none] [aI (isB (x2) (x3))] g P
    refine z_if_eq (tgt := 100) dX11_askOf_42 (by decide) (fun c4 => ?_) (fun c4 => ?_)
    · replace h := h.1 c4
      refine z_iinc dX11_askOf_100 rfl (by decide) rfl ?_
      show Zm w (d + 7) mX11_askOf 103 [some (aR (some (228))), some (aI (x1)), some (aI (x2)), some (aI (x3 + 1)), none, none, none, none] [] g P
      refine z_goto (tgt := 29) dX11_askOf_103 (by decide) ?_
      exact z_weak (by simp [lle]) h
    · replace h := h.2 c4
      refine z_aload_n dX11_askOf_45 rfl rfl ?_
      refine z_iload_n dX11_askOf_46 rfl rfl ?_
      replace h := h _ rfl
      refine z_putI dX11_askOf_47 fw_X11_77 (by decide) kt_228 ?_
      refine z_aload_n dX11_askOf_50 rfl rfl ?_
      refine z_iload_n dX11_askOf_51 rfl rfl ?_
      refine m_callV (as := [aI (x1)]) dX11_askOf_52 lk_X11_232 mok_X11_lives in_X11_lives sl_X11_lives kt_228 rfl rfl rfl (Nat.le_of_ble_eq_true rfl) rfl (Nat.le_of_ble_eq_true rfl) rfl (m_mono (fun r g6 hr => ?_) h)
      obtain ⟨rfl, h⟩ := hr
      show Zm w (d + 7) mX11_askOf 55 [some (aR (some (228))), some (aI (x1)), some (aI (x2)), some (aI (x3)), none, none, none, none] [] g6 P
      refine z_iconst dX11_askOf_55 ?_
      refine z_istore dX11_askOf_56 (by decide) rfl ?_
      show Zm w (d + 7) mX11_askOf 58 [some (aR (some (228))), some (aI (x1)), some (aI (x2)), some (aI (x3)), some (aI (0)), none, none, none] [] g6 P
      exact z_weak (by simp [lle]) h
set_option maxRecDepth 4000 in
theorem s_X11_askOf_58 {w : GX} {d : Nat} {P : PN} {g : GI} (x1 : Int) (x2 : Int) (x3 : Int) (x4 : Int)
    (h : ((¬ nm x4 < nm (g 228 10) → Zm w (d + 7) mX11_askOf 29 [some (aR (some (228))), some (aI (x1)), some (aI (x2)), some (aI (x3 + 1)), none, none, none, none] [] g P) ∧ (nm x4 < nm (g 228 10) → (0 ≤ nm x4 ∧ nm x4 < 8 ∧ (0 ≤ nm (g 246 (nm x4).toNat) ∧ nm (g 246 (nm x4).toNat) < 28 ∧ (0 ≤ nm ((26 * x4) + (g 245 (nm (g 246 (nm x4).toNat)).toNat)) ∧ nm ((26 * x4) + (g 245 (nm (g 246 (nm x4).toNat)).toNat)) < 208 ∧ (∀ g14 : GI, g14 = up2 g 249 (nm ((26 * x4) + (g 245 (nm (g 246 (nm x4).toNat)).toNat))).toNat ((g 249 (nm ((26 * x4) + (g 245 (nm (g 246 (nm x4).toNat)).toNat))).toNat) + 1) → Zm w (d + 7) mX11_askOf 58 [some (aR (some (228))), some (aI (x1)), some (aI (x2)), some (aI (x3)), some (aI (x4 + 1)), none, none, none] [] g14 P))))))) :
    Zm w (d + 7) mX11_askOf 58 [some (aR (some (228))), some (aI (x1)), some (aI (x2)), some (aI (x3)), some (aI (x4)), none, none, none] [] g P := by
  refine z_iload dX11_askOf_58 rfl ?_
  refine z_aload_n dX11_askOf_60 rfl rfl ?_
  refine z_getI dX11_askOf_61 fl_X11_140 (by decide) kt_228 ?_
  refine z_icmp_ge (tgt := 100) dX11_askOf_64 (by decide) (fun c1 => ?_) (fun c1 => ?_)
  · replace h := h.1 c1
    refine z_iinc dX11_askOf_100 rfl (by decide) rfl ?_
    show Zm w (d + 7) mX11_askOf 103 [some (aR (some (228))), some (aI (x1)), some (aI (x2)), some (aI (x3 + 1)), some (aI (x4)), none, none, none] [] g P
    refine z_goto (tgt := 29) dX11_askOf_103 (by decide) ?_
    exact z_weak (by simp [lle]) h
  · replace h := h.2 (Decidable.not_not.mp c1)
    refine z_aload_n dX11_askOf_67 rfl rfl ?_
    refine m_getR dX11_askOf_68 fl_X11_70 (by decide) kt_228 rv_228_33 ?_
    refine z_bipush dX11_askOf_71 rfl ?_
    refine z_iload dX11_askOf_73 rfl ?_
    refine z_imul dX11_askOf_75 ?_
    refine z_aload_n dX11_askOf_76 rfl rfl ?_
    refine m_getR dX11_askOf_77 fl_X11_58 (by decide) kt_228 rv_228_24 ?_
    refine z_aload_n dX11_askOf_80 rfl rfl ?_
    refine m_getR dX11_askOf_81 fl_X11_61 (by decide) kt_228 rv_228_25 ?_
    refine z_iload dX11_askOf_84 rfl ?_
    obtain ⟨q4, q5, h⟩ := h
    refine m_iald dX11_askOf_86 kv_246 q4 q5 ?_
    obtain ⟨q8, q9, h⟩ := h
    refine m_iald dX11_askOf_87 kv_245 q8 q9 ?_
    refine z_iadd dX11_askOf_88 ?_
    refine z_dup2 dX11_askOf_89 rfl rfl ?_
    obtain ⟨q12, q13, h⟩ := h
    refine m_iald dX11_askOf_90 kv_249 q12 q13 ?_
    refine z_iconst dX11_askOf_91 ?_
    refine z_iadd dX11_askOf_92 ?_
    replace h := h _ rfl
    refine m_iast dX11_askOf_93 kv_249 q12 q13 ?_
    refine z_iinc dX11_askOf_94 rfl (by decide) rfl ?_
    show Zm w (d + 7) mX11_askOf 97 [some (aR (some (228))), some (aI (x1)), some (aI (x2)), some (aI (x3)), some (aI (x4 + 1)), none, none, none] [] (up2 g 249 (nm ((26 * x4) + (g 245 (nm (g 246 (nm x4).toNat)).toNat))).toNat ((g 249 (nm ((26 * x4) + (g 245 (nm (g 246 (nm x4).toNat)).toNat))).toNat) + 1)) P
    refine z_goto (tgt := 58) dX11_askOf_97 (by decide) ?_
    exact z_weak (by simp [lle]) h
set_option maxRecDepth 4000 in
theorem s_X11_askOf_119 {w : GX} {d : Nat} {P : PN} {g : GI} (x3 : Int) (x4 : Int) (x5 : Int)
    (h : ((¬ nm x5 < nm (g 228 10) → P (some (aI (x3))) g) ∧ (nm x5 < nm (g 228 10) → Zm w (d + 7) mX11_askOf 134 [some (aR (some (228))), none, none, some (aI (x3)), some (aI (x4)), some (aI (x5)), some (aI (0)), some (aI (0))] [] g P))) :
    Zm w (d + 7) mX11_askOf 119 [some (aR (some (228))), none, none, some (aI (x3)), some (aI (x4)), some (aI (x5)), none, none] [] g P := by
  refine z_iload dX11_askOf_119 rfl ?_
  refine z_aload_n dX11_askOf_121 rfl rfl ?_
  refine z_getI dX11_askOf_122 fl_X11_140 (by decide) kt_228 ?_
  refine z_icmp_ge (tgt := 236) dX11_askOf_125 (by decide) (fun c1 => ?_) (fun c1 => ?_)
  · replace h := h.1 c1
    refine z_iload_n dX11_askOf_236 rfl rfl ?_
    exact m_iret dX11_askOf_237 rfl h
  · replace h := h.2 (Decidable.not_not.mp c1)
    refine z_iconst dX11_askOf_128 ?_
    refine z_istore dX11_askOf_129 (by decide) rfl ?_
    show Zm w (d + 7) mX11_askOf 131 [some (aR (some (228))), none, none, some (aI (x3)), some (aI (x4)), some (aI (x5)), some (aI (0)), none] [] g P
    refine z_iconst dX11_askOf_131 ?_
    refine z_istore dX11_askOf_132 (by decide) rfl ?_
    show Zm w (d + 7) mX11_askOf 134 [some (aR (some (228))), none, none, some (aI (x3)), some (aI (x4)), some (aI (x5)), some (aI (0)), some (aI (0))] [] g P
    exact z_weak (by simp [lle]) h
set_option maxRecDepth 4000 in
theorem s_X11_askOf_134 {w : GX} {d : Nat} {P : PN} {g : GI} (x3 : Int) (x4 : Int) (x5 : Int) (x6 : Int) (x7 : Int)
    (h : ((¬ nm x7 < nm 26 → ((nm x3 = nm ((-1)) → Zm w (d + 7) mX11_askOf 197 [some (aR (some (228))), none, none, some (aI (x3)), some (aI (x4)), some (aI (x5)), some (aI (x6)), none] [] g P) ∧ (¬ nm x3 = nm ((-1)) → ((¬ nm x6 < nm x4 → Zm w (d + 7) mX11_askOf 202 [some (aR (some (228))), none, none, some (aI (x3)), some (aI (x4)), some (aI (x5)), some (aI (x6)), none] [aI (0)] g P) ∧ (nm x6 < nm x4 → Zm w (d + 7) mX11_askOf 197 [some (aR (some (228))), none, none, some (aI (x3)), some (aI (x4)), some (aI (x5)), some (aI (x6)), none] [] g P))))) ∧ (nm x7 < nm 26 → (0 ≤ nm ((26 * x5) + x7) ∧ nm ((26 * x5) + x7) < 208 ∧ ((¬ nm x6 < nm (g 249 (nm ((26 * x5) + x7)).toNat) → Zm w (d + 7) mX11_askOf 134 [some (aR (some (228))), none, none, some (aI (x3)), some (aI (x4)), some (aI (x5)), some (aI (x6)), some (aI (x7 + 1))] [] g P) ∧ (nm x6 < nm (g 249 (nm ((26 * x5) + x7)).toNat) → ((∀ v11 : Int, v11 = g 249 (nm ((26 * x5) + x7)).toNat → Zm w (d + 7) mX11_askOf 134 [some (aR (some (228))), none, none, some (aI (x3)), some (aI (x4)), some (aI (x5)), some (aI (v11)), some (aI (x7 + 1))] [] g P)))))))) :
    Zm w (d + 7) mX11_askOf 134 [some (aR (some (228))), none, none, some (aI (x3)), some (aI (x4)), some (aI (x5)), some (aI (x6)), some (aI (x7))] [] g P := by
  refine z_iload dX11_askOf_134 rfl ?_
  refine z_bipush dX11_askOf_136 rfl ?_
  refine z_icmp_ge (tgt := 185) dX11_askOf_138 (by decide) (fun c1 => ?_) (fun c1 => ?_)
  · replace h := h.1 c1
    refine z_iload_n dX11_askOf_185 rfl rfl ?_
    refine z_iconst dX11_askOf_186 ?_
    refine z_icmp_eq (tgt := 197) dX11_askOf_187 (by decide) (fun c2 => ?_) (fun c2 => ?_)
    · replace h := h.1 c2
      exact z_weak (by simp [lle]) h
    · replace h := h.2 c2
      refine z_iload dX11_askOf_190 rfl ?_
      refine z_iload dX11_askOf_192 rfl ?_
      refine z_icmp_ge (tgt := 201) dX11_askOf_194 (by decide) (fun c3 => ?_) (fun c3 => ?_)
      · replace h := h.1 c3
        refine z_iconst dX11_askOf_201 ?_
        exact z_weak (by simp [lle]) h
      · replace h := h.2 (Decidable.not_not.mp c3)
        exact z_weak (by simp [lle]) h
  · replace h := h.2 (Decidable.not_not.mp c1)
    refine z_aload_n dX11_askOf_141 rfl rfl ?_
    refine m_getR dX11_askOf_142 fl_X11_70 (by decide) kt_228 rv_228_33 ?_
    refine z_bipush dX11_askOf_145 rfl ?_
    refine z_iload dX11_askOf_147 rfl ?_
    refine z_imul dX11_askOf_149 ?_
    refine z_iload dX11_askOf_150 rfl ?_
    refine z_iadd dX11_askOf_152 ?_
    obtain ⟨q6, q7, h⟩ := h
    refine m_iald dX11_askOf_153 kv_249 q6 q7 ?_
    refine z_iload dX11_askOf_154 rfl ?_
    refine z_icmp_le (tgt := 175) dX11_askOf_156 (by decide) (fun c8 => ?_) (fun c8 => ?_)
    · replace h := h.1 c8
      refine z_iload dX11_askOf_175 rfl ?_
      refine z_istore dX11_askOf_177 (by decide) rfl ?_
      show Zm w (d + 7) mX11_askOf 179 [some (aR (some (228))), none, none, some (aI (x3)), some (aI (x4)), some (aI (x5)), some (aI (x6)), some (aI (x7))] [] g P
      refine z_iinc dX11_askOf_179 rfl (by decide) rfl ?_
      show Zm w (d + 7) mX11_askOf 182 [some (aR (some (228))), none, none, some (aI (x3)), some (aI (x4)), some (aI (x5)), some (aI (x6)), some (aI (x7 + 1))] [] g P
      refine z_goto (tgt := 134) dX11_askOf_182 (by decide) ?_
      exact z_weak (by simp [lle]) h
    · replace h := h.2 (Decidable.not_not.mp c8)
      refine z_aload_n dX11_askOf_159 rfl rfl ?_
      refine m_getR dX11_askOf_160 fl_X11_70 (by decide) kt_228 rv_228_33 ?_
      refine z_bipush dX11_askOf_163 rfl ?_
      refine z_iload dX11_askOf_165 rfl ?_
      refine z_imul dX11_askOf_167 ?_
      refine z_iload dX11_askOf_168 rfl ?_
      refine z_iadd dX11_askOf_170 ?_
      refine m_iald dX11_askOf_171 kv_249 q6 q7 ?_
      refine z_goto (tgt := 177) dX11_askOf_172 (by decide) ?_
      replace h := h _ rfl
      refine z_istore dX11_askOf_177 (by decide) rfl ?_
      show Zm w (d + 7) mX11_askOf 179 [some (aR (some (228))), none, none, some (aI (x3)), some (aI (x4)), some (aI (x5)), some (aI (g 249 (nm ((26 * x5) + x7)).toNat)), some (aI (x7))] [] g P
      refine z_iinc dX11_askOf_179 rfl (by decide) rfl ?_
      show Zm w (d + 7) mX11_askOf 182 [some (aR (some (228))), none, none, some (aI (x3)), some (aI (x4)), some (aI (x5)), some (aI ((g 249 (nm ((26 * x5) + x7)).toNat))), some (aI (x7 + 1))] [] g P
      refine z_goto (tgt := 134) dX11_askOf_182 (by decide) ?_
      exact z_weak (by simp [lle]) h
set_option maxRecDepth 4000 in
theorem s_X11_askOf_197 {w : GX} {d : Nat} {P : PN} {g : GI} (x3 : Int) (x4 : Int) (x5 : Int) (x6 : Int)
    (h : Zm w (d + 7) mX11_askOf 202 [some (aR (some (228))), none, none, some (aI (x3)), some (aI (x4)), some (aI (x5)), some (aI (x6)), none] [aI (1)] g P) :
    Zm w (d + 7) mX11_askOf 197 [some (aR (some (228))), none, none, some (aI (x3)), some (aI (x4)), some (aI (x5)), some (aI (x6)), none] [] g P := by
  refine z_iconst dX11_askOf_197 ?_
  refine z_goto (tgt := 202) dX11_askOf_198 (by decide) ?_
  exact z_weak (by simp [lle]) h
set_option maxRecDepth 4000 in
theorem s_X11_askOf_202 {w : GX} {d : Nat} {P : PN} {g : GI} (x3 : Int) (x4 : Int) (x5 : Int) (x6 : Int) (y0 : Int)
    (h : ((nm y0 = 0 → Zm w (d + 7) mX11_askOf 215 [some (aR (some (228))), none, none, none, some (aI (x4)), some (aI (x5)), some (aI (x6)), some (aI (y0))] [aI (x3)] g P) ∧ (¬ nm y0 = 0 → Zm w (d + 7) mX11_askOf 215 [some (aR (some (228))), none, none, none, some (aI (x4)), some (aI (x5)), some (aI (x6)), some (aI (y0))] [aI (x5)] g P))) :
    Zm w (d + 7) mX11_askOf 202 [some (aR (some (228))), none, none, some (aI (x3)), some (aI (x4)), some (aI (x5)), some (aI (x6)), none] [aI (y0)] g P := by
  refine z_istore dX11_askOf_202 (by decide) rfl ?_
  show Zm w (d + 7) mX11_askOf 204 [some (aR (some (228))), none, none, some (aI (x3)), some (aI (x4)), some (aI (x5)), some (aI (x6)), some (aI (y0))] [] g P
  refine z_iload dX11_askOf_204 rfl ?_
  refine z_if_eq (tgt := 214) dX11_askOf_206 (by decide) (fun c1 => ?_) (fun c1 => ?_)
  · replace h := h.1 c1
    refine z_iload_n dX11_askOf_214 rfl rfl ?_
    exact z_weak (by simp [lle]) h
  · replace h := h.2 c1
    refine z_iload dX11_askOf_209 rfl ?_
    refine z_goto (tgt := 215) dX11_askOf_211 (by decide) ?_
    exact z_weak (by simp [lle]) h
set_option maxRecDepth 4000 in
theorem s_X11_askOf_215 {w : GX} {d : Nat} {P : PN} {g : GI} (x4 : Int) (x5 : Int) (x6 : Int) (x7 : Int) (y0 : Int)
    (h : ((nm x7 = 0 → Zm w (d + 7) mX11_askOf 119 [some (aR (some (228))), none, none, some (aI (y0)), some (aI (x4)), some (aI (x5 + 1)), none, none] [] g P) ∧ (¬ nm x7 = 0 → Zm w (d + 7) mX11_askOf 119 [some (aR (some (228))), none, none, some (aI (y0)), some (aI (x6)), some (aI (x5 + 1)), none, none] [] g P))) :
    Zm w (d + 7) mX11_askOf 215 [some (aR (some (228))), none, none, none, some (aI (x4)), some (aI (x5)), some (aI (x6)), some (aI (x7))] [aI (y0)] g P := by
  refine z_istore_n dX11_askOf_215 rfl (by decide) rfl ?_
  show Zm w (d + 7) mX11_askOf 216 [some (aR (some (228))), none, none, some (aI (y0)), some (aI (x4)), some (aI (x5)), some (aI (x6)), some (aI (x7))] [] g P
  refine z_iload dX11_askOf_216 rfl ?_
  refine z_if_eq (tgt := 226) dX11_askOf_218 (by decide) (fun c1 => ?_) (fun c1 => ?_)
  · replace h := h.1 c1
    refine z_iload dX11_askOf_226 rfl ?_
    refine z_istore dX11_askOf_228 (by decide) rfl ?_
    show Zm w (d + 7) mX11_askOf 230 [some (aR (some (228))), none, none, some (aI (y0)), some (aI (x4)), some (aI (x5)), some (aI (x6)), some (aI (x7))] [] g P
    refine z_iinc dX11_askOf_230 rfl (by decide) rfl ?_
    show Zm w (d + 7) mX11_askOf 233 [some (aR (some (228))), none, none, some (aI (y0)), some (aI (x4)), some (aI (x5 + 1)), some (aI (x6)), some (aI (x7))] [] g P
    refine z_goto (tgt := 119) dX11_askOf_233 (by decide) ?_
    exact z_weak (by simp [lle]) h
  · replace h := h.2 c1
    refine z_iload dX11_askOf_221 rfl ?_
    refine z_goto (tgt := 228) dX11_askOf_223 (by decide) ?_
    refine z_istore dX11_askOf_228 (by decide) rfl ?_
    show Zm w (d + 7) mX11_askOf 230 [some (aR (some (228))), none, none, some (aI (y0)), some (aI (x6)), some (aI (x5)), some (aI (x6)), some (aI (x7))] [] g P
    refine z_iinc dX11_askOf_230 rfl (by decide) rfl ?_
    show Zm w (d + 7) mX11_askOf 233 [some (aR (some (228))), none, none, some (aI (y0)), some (aI (x6)), some (aI (x5 + 1)), some (aI (x6)), some (aI (x7))] [] g P
    refine z_goto (tgt := 119) dX11_askOf_233 (by decide) ?_
    exact z_weak (by simp [lle]) h
theorem dX11_ask_0 : decode cX11_ask 0 = .ok (.aload_n 0, 1) := by decide +kernel
theorem dX11_ask_1 : decode cX11_ask 1 = .ok (.invokevirtual 161, 3) := by decide +kernel
theorem dX11_ask_4 : decode cX11_ask 4 = .ok (.iload_n 1, 1) := by decide +kernel
theorem dX11_ask_5 : decode cX11_ask 5 = .ok (.invokestatic 172, 3) := by decide +kernel
theorem dX11_ask_8 : decode cX11_ask 8 = .ok (.ifCond .eq 11, 3) := by decide +kernel
theorem dX11_ask_11 : decode cX11_ask 11 = .ok (.aload_n 0, 1) := by decide +kernel
theorem dX11_ask_12 : decode cX11_ask 12 = .ok (.iload_n 1, 1) := by decide +kernel
theorem dX11_ask_13 : decode cX11_ask 13 = .ok (.invokevirtual 290, 3) := by decide +kernel
theorem dX11_ask_16 : decode cX11_ask 16 = .ok (.goto 5, 3) := by decide +kernel
theorem dX11_ask_19 : decode cX11_ask 19 = .ok (.bipush (-2), 2) := by decide +kernel
theorem dX11_ask_21 : decode cX11_ask 21 = .ok (.ireturn, 1) := by decide +kernel
set_option maxRecDepth 4000 in
theorem s_X11_ask_0 {w : GX} {d : Nat} {P : PN} {g : GI} (x1 : Int)
    (h : Zm w (d + 7) mX11_reads 0 [some (aR (some (228)))] [] g (fun r g1 => r = none ∧ (((nm (inn (x1) 0 19) = 0 → P (some (aI ((-2)))) g1) ∧ (¬ nm (inn (x1) 0 19) = 0 → Zm w (d + 7) mX11_askOf 0 [some (aR (some (228))), some (aI (x1)), none, none, none, none, none, none] [] g1 (fun r g4 => ∃ z5 : Int, r = some (aI z5) ∧ P (some (aI (z5))) g4)))))) :
    Zm w (d + 8) mX11_ask 0 [some (aR (some (228))), some (aI (x1))] [] g P := by
  refine z_aload_n dX11_ask_0 rfl rfl ?_
  refine m_callV (as := []) dX11_ask_1 lk_X11_161 mok_X11_reads in_X11_reads sl_X11_reads kt_228 rfl rfl rfl (Nat.le_of_ble_eq_true rfl) rfl (Nat.le_of_ble_eq_true rfl) rfl (m_mono (fun r g1 hr => ?_) h)
  obtain ⟨rfl, h⟩ := hr
  show Zm w (d + 8) mX11_ask 4 [some (aR (some (228))), some (aI (x1))] [] g1 P
  refine z_iload_n dX11_ask_4 rfl rfl ?_
  refine m_callS (as := [aI (x1)]) dX11_ask_5 lk_X11_172 mok_X11_isDay st_X11_isDay rfl (Nat.le_of_ble_eq_true rfl) rfl (Nat.le_of_ble_eq_true rfl) rfl (c_X11_isDay  ?_)
  show Zm w (d + 8) mX11_ask 8 [some (aR (some (228))), some (aI (x1))] [aI (inn (x1) 0 19)] g1 P
  refine z_if_eq (tgt := 19) dX11_ask_8 (by decide) (fun c3 => ?_) (fun c3 => ?_)
  · replace h := h.1 c3
    refine z_bipush dX11_ask_19 rfl ?_
    exact m_iret dX11_ask_21 rfl h
  · replace h := h.2 c3
    refine z_aload_n dX11_ask_11 rfl rfl ?_
    refine z_iload_n dX11_ask_12 rfl rfl ?_
    refine m_callV (as := [aI (x1)]) dX11_ask_13 lk_X11_290 mok_X11_askOf in_X11_askOf sl_X11_askOf kt_228 rfl rfl rfl (Nat.le_of_ble_eq_true rfl) rfl (Nat.le_of_ble_eq_true rfl) rfl (m_mono (fun r g4 hr => ?_) h)
    obtain ⟨z5, rfl, h⟩ := hr
    show Zm w (d + 8) mX11_ask 16 [some (aR (some (228))), some (aI (x1))] [aI (z5)] g4 P
    refine z_goto (tgt := 21) dX11_ask_16 (by decide) ?_
    exact m_iret dX11_ask_21 rfl h
theorem dX11_floodedOf_0 : decode cX11_floodedOf 0 = .ok (.lconst 0, 1) := by decide +kernel
theorem dX11_floodedOf_1 : decode cX11_floodedOf 1 = .ok (.lstore 6, 2) := by decide +kernel
theorem dX11_floodedOf_3 : decode cX11_floodedOf 3 = .ok (.iconst 0, 1) := by decide +kernel
theorem dX11_floodedOf_4 : decode cX11_floodedOf 4 = .ok (.istore 8, 2) := by decide +kernel
theorem dX11_floodedOf_6 : decode cX11_floodedOf 6 = .ok (.iload 8, 2) := by decide +kernel
theorem dX11_floodedOf_8 : decode cX11_floodedOf 8 = .ok (.iconst 2, 1) := by decide +kernel
theorem dX11_floodedOf_9 : decode cX11_floodedOf 9 = .ok (.iload_n 2, 1) := by decide +kernel
theorem dX11_floodedOf_10 : decode cX11_floodedOf 10 = .ok (.ishl, 1) := by decide +kernel
theorem dX11_floodedOf_11 : decode cX11_floodedOf 11 = .ok (.if_icmp .ge 76, 3) := by decide +kernel
theorem dX11_floodedOf_14 : decode cX11_floodedOf 14 = .ok (.aload_n 0, 1) := by decide +kernel
theorem dX11_floodedOf_15 : decode cX11_floodedOf 15 = .ok (.iload 8, 2) := by decide +kernel
theorem dX11_floodedOf_17 : decode cX11_floodedOf 17 = .ok (.putfield 83, 3) := by decide +kernel
theorem dX11_floodedOf_20 : decode cX11_floodedOf 20 = .ok (.aload_n 0, 1) := by decide +kernel
theorem dX11_floodedOf_21 : decode cX11_floodedOf 21 = .ok (.iload_n 3, 1) := by decide +kernel
theorem dX11_floodedOf_22 : decode cX11_floodedOf 22 = .ok (.iload 4, 2) := by decide +kernel
theorem dX11_floodedOf_24 : decode cX11_floodedOf 24 = .ok (.iload_n 2, 1) := by decide +kernel
theorem dX11_floodedOf_25 : decode cX11_floodedOf 25 = .ok (.invokevirtual 259, 3) := by decide +kernel
theorem dX11_floodedOf_28 : decode cX11_floodedOf 28 = .ok (.ifCond .eq 53, 3) := by decide +kernel
theorem dX11_floodedOf_31 : decode cX11_floodedOf 31 = .ok (.lconst 1, 1) := by decide +kernel
theorem dX11_floodedOf_32 : decode cX11_floodedOf 32 = .ok (.lstore 9, 2) := by decide +kernel
theorem dX11_floodedOf_34 : decode cX11_floodedOf 34 = .ok (.iconst 0, 1) := by decide +kernel
theorem dX11_floodedOf_35 : decode cX11_floodedOf 35 = .ok (.istore 11, 2) := by decide +kernel
theorem dX11_floodedOf_37 : decode cX11_floodedOf 37 = .ok (.iload 11, 2) := by decide +kernel
theorem dX11_floodedOf_39 : decode cX11_floodedOf 39 = .ok (.iload_n 2, 1) := by decide +kernel
theorem dX11_floodedOf_40 : decode cX11_floodedOf 40 = .ok (.if_icmp .gt 34, 3) := by decide +kernel
theorem dX11_floodedOf_43 : decode cX11_floodedOf 43 = .ok (.lload 9, 2) := by decide +kernel
theorem dX11_floodedOf_45 : decode cX11_floodedOf 45 = .ok (.iload 8, 2) := by decide +kernel
theorem dX11_floodedOf_47 : decode cX11_floodedOf 47 = .ok (.iload 11, 2) := by decide +kernel
theorem dX11_floodedOf_49 : decode cX11_floodedOf 49 = .ok (.invokestatic 206, 3) := by decide +kernel
theorem dX11_floodedOf_52 : decode cX11_floodedOf 52 = .ok (.ifCond .eq 8, 3) := by decide +kernel
theorem dX11_floodedOf_55 : decode cX11_floodedOf 55 = .ok (.iload_n 1, 1) := by decide +kernel
theorem dX11_floodedOf_56 : decode cX11_floodedOf 56 = .ok (.i2l, 1) := by decide +kernel
theorem dX11_floodedOf_57 : decode cX11_floodedOf 57 = .ok (.goto 8, 3) := by decide +kernel
theorem dX11_floodedOf_60 : decode cX11_floodedOf 60 = .ok (.bipush 16, 2) := by decide +kernel
theorem dX11_floodedOf_62 : decode cX11_floodedOf 62 = .ok (.iload_n 1, 1) := by decide +kernel
theorem dX11_floodedOf_63 : decode cX11_floodedOf 63 = .ok (.isub, 1) := by decide +kernel
theorem dX11_floodedOf_64 : decode cX11_floodedOf 64 = .ok (.i2l, 1) := by decide +kernel
theorem dX11_floodedOf_65 : decode cX11_floodedOf 65 = .ok (.lmul, 1) := by decide +kernel
theorem dX11_floodedOf_66 : decode cX11_floodedOf 66 = .ok (.lstore 9, 2) := by decide +kernel
theorem dX11_floodedOf_68 : decode cX11_floodedOf 68 = .ok (.iinc 11 1, 3) := by decide +kernel
theorem dX11_floodedOf_71 : decode cX11_floodedOf 71 = .ok (.goto (-34), 3) := by decide +kernel
theorem dX11_floodedOf_74 : decode cX11_floodedOf 74 = .ok (.lload 6, 2) := by decide +kernel
theorem dX11_floodedOf_76 : decode cX11_floodedOf 76 = .ok (.lload 9, 2) := by decide +kernel
theorem dX11_floodedOf_78 : decode cX11_floodedOf 78 = .ok (.ladd, 1) := by decide +kernel
theorem dX11_floodedOf_79 : decode cX11_floodedOf 79 = .ok (.lstore 6, 2) := by decide +kernel
theorem dX11_floodedOf_81 : decode cX11_floodedOf 81 = .ok (.iinc 8 1, 3) := by decide +kernel
theorem dX11_floodedOf_84 : decode cX11_floodedOf 84 = .ok (.goto (-78), 3) := by decide +kernel
theorem dX11_floodedOf_87 : decode cX11_floodedOf 87 = .ok (.aload_n 0, 1) := by decide +kernel
theorem dX11_floodedOf_88 : decode cX11_floodedOf 88 = .ok (.iconst (-1), 1) := by decide +kernel
theorem dX11_floodedOf_89 : decode cX11_floodedOf 89 = .ok (.putfield 83, 3) := by decide +kernel
theorem dX11_floodedOf_92 : decode cX11_floodedOf 92 = .ok (.lload 6, 2) := by decide +kernel
theorem dX11_floodedOf_94 : decode cX11_floodedOf 94 = .ok (.lconst 1, 1) := by decide +kernel
theorem dX11_floodedOf_95 : decode cX11_floodedOf 95 = .ok (.iconst 4, 1) := by decide +kernel
theorem dX11_floodedOf_96 : decode cX11_floodedOf 96 = .ok (.iload_n 2, 1) := by decide +kernel
theorem dX11_floodedOf_97 : decode cX11_floodedOf 97 = .ok (.iconst 1, 1) := by decide +kernel
theorem dX11_floodedOf_98 : decode cX11_floodedOf 98 = .ok (.iadd, 1) := by decide +kernel
theorem dX11_floodedOf_99 : decode cX11_floodedOf 99 = .ok (.imul, 1) := by decide +kernel
theorem dX11_floodedOf_100 : decode cX11_floodedOf 100 = .ok (.lshl, 1) := by decide +kernel
theorem dX11_floodedOf_101 : decode cX11_floodedOf 101 = .ok (.iload 5, 2) := by decide +kernel
theorem dX11_floodedOf_103 : decode cX11_floodedOf 103 = .ok (.invokestatic 293, 3) := by decide +kernel
theorem dX11_floodedOf_106 : decode cX11_floodedOf 106 = .ok (.lreturn, 1) := by decide +kernel
set_option maxRecDepth 4000 in
theorem s_X11_floodedOf_0 {w : GX} {d : Nat} {P : PN} {g : GI} (x1 : Int) (x2 : Int) (x3 : Int) (x4 : Int) (x5 : Int)
    (h : Zm w (d + 5) mX11_floodedOf 6 [some (aR (some (228))), some (aI (x1)), some (aI (x2)), some (aI (x3)), some (aI (x4)), some (aI (x5)), some (aL (0)), none, some (aI (0)), none, none, none] [] g P) :
    Zm w (d + 5) mX11_floodedOf 0 [some (aR (some (228))), some (aI (x1)), some (aI (x2)), some (aI (x3)), some (aI (x4)), some (aI (x5)), none, none, none, none, none, none] [] g P := by
  refine z_lconst (z := 0) dX11_floodedOf_0 rfl ?_
  refine z_lstore dX11_floodedOf_1 (by decide) rfl ?_
  show Zm w (d + 5) mX11_floodedOf 3 [some (aR (some (228))), some (aI (x1)), some (aI (x2)), some (aI (x3)), some (aI (x4)), some (aI (x5)), some (aL (0)), none, none, none, none, none] [] g P
  refine z_iconst dX11_floodedOf_3 ?_
  refine z_istore dX11_floodedOf_4 (by decide) rfl ?_
  show Zm w (d + 5) mX11_floodedOf 6 [some (aR (some (228))), some (aI (x1)), some (aI (x2)), some (aI (x3)), some (aI (x4)), some (aI (x5)), some (aL (0)), none, some (aI (0)), none, none, none] [] g P
  exact z_weak (by simp [lle]) h
set_option maxRecDepth 4000 in
theorem s_X11_floodedOf_6 {w : GX} {d : Nat} {P : PN} {g : GI} (x1 : Int) (x2 : Int) (x3 : Int) (x4 : Int) (x5 : Int) (x6 : Int) (x8 : Int)
    (h : ((¬ nm x8 < nm (iShl 2 x2) → (∀ g2 : GI, g2 = up2 g 228 30 ((-1)) → Zm w (d + 4) mX11_part 0 [some (aL (x6)), none, some (aL (lShl 1 (4 * (x2 + 1)))), none, some (aI (x5)), none, none, none, none, none, none] [] g2 (fun r g3 => ∃ z4 : Int, r = some (aL z4) ∧ P (some (aL (z4))) g3))) ∧ (nm x8 < nm (iShl 2 x2) → (∀ g5 : GI, g5 = up2 g 228 30 x8 → Zm w (d + 4) mX11_isCalled 0 [some (aR (some (228))), some (aI (x3)), some (aI (x4)), some (aI (x2))] [] g5 (fun r g6 => ∃ z7 : Int, r = some (aI z7) ∧ ((nm z7 = 0 → Zm w (d + 5) mX11_floodedOf 6 [some (aR (some (228))), some (aI (x1)), some (aI (x2)), some (aI (x3)), some (aI (x4)), some (aI (x5)), some (aL (x6)), none, some (aI (x8 + 1)), none, none, none] [] g6 P) ∧ (¬ nm z7 = 0 → Zm w (d + 5) mX11_floodedOf 37 [some (aR (some (228))), some (aI (x1)), some (aI (x2)), some (aI (x3)), some (aI (x4)), some (aI (x5)), some (aL (x6)), none, some (aI (x8)), some (aL (1)), none, some (aI (0))] [] g6 P))))))) :
    Zm w (d + 5) mX11_floodedOf 6 [some (aR (some (228))), some (aI (x1)), some (aI (x2)), some (aI (x3)), some (aI (x4)), some (aI (x5)), some (aL (x6)), none, some (aI (x8)), none, none, none] [] g P := by
  refine z_iload dX11_floodedOf_6 rfl ?_
  refine z_iconst dX11_floodedOf_8 ?_
  refine z_iload_n dX11_floodedOf_9 rfl rfl ?_
  refine z_ishl dX11_floodedOf_10 ?_
  refine z_icmp_ge (tgt := 87) dX11_floodedOf_11 (by decide) (fun c1 => ?_) (fun c1 => ?_)
  · replace h := h.1 c1
    refine z_aload_n dX11_floodedOf_87 rfl rfl ?_
    refine z_iconst dX11_floodedOf_88 ?_
    replace h := h _ rfl
    refine z_putI dX11_floodedOf_89 fw_X11_83 (by decide) kt_228 ?_
    refine z_lload dX11_floodedOf_92 rfl ?_
    refine z_lconst (z := 1) dX11_floodedOf_94 rfl ?_
    refine z_iconst dX11_floodedOf_95 ?_
    refine z_iload_n dX11_floodedOf_96 rfl rfl ?_
    refine z_iconst dX11_floodedOf_97 ?_
    refine z_iadd dX11_floodedOf_98 ?_
    refine z_imul dX11_floodedOf_99 ?_
    refine z_lshl dX11_floodedOf_100 ?_
    refine z_iload dX11_floodedOf_101 rfl ?_
    refine m_callS (as := [aL (x6), aL (lShl 1 (4 * (x2 + 1))), aI (x5)]) dX11_floodedOf_103 lk_X11_293 mok_X11_part st_X11_part rfl (Nat.le_of_ble_eq_true rfl) rfl (Nat.le_of_ble_eq_true rfl) rfl (m_mono (fun r g3 hr => ?_) h)
    obtain ⟨z4, rfl, h⟩ := hr
    show Zm w (d + 5) mX11_floodedOf 106 [some (aR (some (228))), some (aI (x1)), some (aI (x2)), some (aI (x3)), some (aI (x4)), some (aI (x5)), some (aL (x6)), none, some (aI (x8)), none, none, none] [aL (z4)] g3 P
    exact m_lret dX11_floodedOf_106 rfl h
  · replace h := h.2 (Decidable.not_not.mp c1)
    refine z_aload_n dX11_floodedOf_14 rfl rfl ?_
    refine z_iload dX11_floodedOf_15 rfl ?_
    replace h := h _ rfl
    refine z_putI dX11_floodedOf_17 fw_X11_83 (by decide) kt_228 ?_
    refine z_aload_n dX11_floodedOf_20 rfl rfl ?_
    refine z_iload_n dX11_floodedOf_21 rfl rfl ?_
    refine z_iload dX11_floodedOf_22 rfl ?_
    refine z_iload_n dX11_floodedOf_24 rfl rfl ?_
    refine m_callV (as := [aI (x3), aI (x4), aI (x2)]) dX11_floodedOf_25 lk_X11_259 mok_X11_isCalled in_X11_isCalled sl_X11_isCalled kt_228 rfl rfl rfl (Nat.le_of_ble_eq_true rfl) rfl (Nat.le_of_ble_eq_true rfl) rfl (m_mono (fun r g6 hr => ?_) h)
    obtain ⟨z7, rfl, h⟩ := hr
    show Zm w (d + 5) mX11_floodedOf 28 [some (aR (some (228))), some (aI (x1)), some (aI (x2)), some (aI (x3)), some (aI (x4)), some (aI (x5)), some (aL (x6)), none, some (aI (x8)), none, none, none] [aI (z7)] g6 P
    refine z_if_eq (tgt := 81) dX11_floodedOf_28 (by decide) (fun c8 => ?_) (fun c8 => ?_)
    · replace h := h.1 c8
      refine z_iinc dX11_floodedOf_81 rfl (by decide) rfl ?_
      show Zm w (d + 5) mX11_floodedOf 84 [some (aR (some (228))), some (aI (x1)), some (aI (x2)), some (aI (x3)), some (aI (x4)), some (aI (x5)), some (aL (x6)), none, some (aI (x8 + 1)), none, none, none] [] g6 P
      refine z_goto (tgt := 6) dX11_floodedOf_84 (by decide) ?_
      exact z_weak (by simp [lle]) h
    · replace h := h.2 c8
      refine z_lconst (z := 1) dX11_floodedOf_31 rfl ?_
      refine z_lstore dX11_floodedOf_32 (by decide) rfl ?_
      show Zm w (d + 5) mX11_floodedOf 34 [some (aR (some (228))), some (aI (x1)), some (aI (x2)), some (aI (x3)), some (aI (x4)), some (aI (x5)), some (aL (x6)), none, some (aI (x8)), some (aL (1)), none, none] [] g6 P
      refine z_iconst dX11_floodedOf_34 ?_
      refine z_istore dX11_floodedOf_35 (by decide) rfl ?_
      show Zm w (d + 5) mX11_floodedOf 37 [some (aR (some (228))), some (aI (x1)), some (aI (x2)), some (aI (x3)), some (aI (x4)), some (aI (x5)), some (aL (x6)), none, some (aI (x8)), some (aL (1)), none, some (aI (0))] [] g6 P
      exact z_weak (by simp [lle]) h
set_option maxRecDepth 4000 in
theorem s_X11_floodedOf_37 {w : GX} {d : Nat} {P : PN} {g : GI} (x1 : Int) (x2 : Int) (x3 : Int) (x4 : Int) (x5 : Int) (x6 : Int) (x8 : Int) (x9 : Int) (x11 : Int)
    (h : ((nm x2 < nm x11 → (∀ v2 : Int, v2 = x6 + x9 → Zm w (d + 5) mX11_floodedOf 6 [some (aR (some (228))), some (aI (x1)), some (aI (x2)), some (aI (x3)), some (aI (x4)), some (aI (x5)), some (aL (v2)), none, some (aI (x8 + 1)), none, none, none] [] g P)) ∧ (¬ nm x2 < nm x11 → (((nm (isB (x8) (x11)) = 0 → (∀ v4 : Int, v4 = x9 * (nm (16 - x1)) → Zm w (d + 5) mX11_floodedOf 37 [some (aR (some (228))), some (aI (x1)), some (aI (x2)), some (aI (x3)), some (aI (x4)), some (aI (x5)), some (aL (x6)), none, some (aI (x8)), some (aL (v4)), none, some (aI (x11 + 1))] [] g P)) ∧ (¬ nm (isB (x8) (x11)) = 0 → (∀ v5 : Int, v5 = x9 * (nm x1) → Zm w (d + 5) mX11_floodedOf 37 [some (aR (some (228))), some (aI (x1)), some (aI (x2)), some (aI (x3)), some (aI (x4)), some (aI (x5)), some (aL (x6)), none, some (aI (x8)), some (aL (v5)), none, some (aI (x11 + 1))] [] g P))))))) :
    Zm w (d + 5) mX11_floodedOf 37 [some (aR (some (228))), some (aI (x1)), some (aI (x2)), some (aI (x3)), some (aI (x4)), some (aI (x5)), some (aL (x6)), none, some (aI (x8)), some (aL (x9)), none, some (aI (x11))] [] g P := by
  refine z_iload dX11_floodedOf_37 rfl ?_
  refine z_iload_n dX11_floodedOf_39 rfl rfl ?_
  refine z_icmp_gt (tgt := 74) dX11_floodedOf_40 (by decide) (fun c1 => ?_) (fun c1 => ?_)
  · replace h := h.1 c1
    refine z_lload dX11_floodedOf_74 rfl ?_
    refine z_lload dX11_floodedOf_76 rfl ?_
    refine z_ladd dX11_floodedOf_78 ?_
    replace h := h _ rfl
    refine z_lstore dX11_floodedOf_79 (by decide) rfl ?_
    show Zm w (d + 5) mX11_floodedOf 81 [some (aR (some (228))), some (aI (x1)), some (aI (x2)), some (aI (x3)), some (aI (x4)), some (aI (x5)), some (aL (x6 + x9)), none, some (aI (x8)), some (aL (x9)), none, some (aI (x11))] [] g P
    refine z_iinc dX11_floodedOf_81 rfl (by decide) rfl ?_
    show Zm w (d + 5) mX11_floodedOf 84 [some (aR (some (228))), some (aI (x1)), some (aI (x2)), some (aI (x3)), some (aI (x4)), some (aI (x5)), some (aL ((x6 + x9))), none, some (aI (x8 + 1)), some (aL (x9)), none, some (aI (x11))] [] g P
    refine z_goto (tgt := 6) dX11_floodedOf_84 (by decide) ?_
    exact z_weak (by simp [lle]) h
  · replace h := h.2 c1
    refine z_lload dX11_floodedOf_43 rfl ?_
    refine z_iload dX11_floodedOf_45 rfl ?_
    refine z_iload dX11_floodedOf_47 rfl ?_
    refine m_callS (as := [aI (x8), aI (x11)]) dX11_floodedOf_49 lk_X11_206 mok_X11_isIn st_X11_isIn rfl (Nat.le_of_ble_eq_true rfl) rfl (Nat.le_of_ble_eq_true rfl) rfl (c_X11_isIn  ?_)
    show Zm w (d + 5) mX11_floodedOf 52 [some (aR (some (228))), some (aI (x1)), some (aI (x2)), some (aI (x3)), some (aI (x4)), some (aI (x5)), some (aL (x6)), none, some (aI (x8)), some (aL (x9)), none, some (aI (x11))] [aI (isB (x8) (x11)), aL (x9)] g P
    refine z_if_eq (tgt := 60) dX11_floodedOf_52 (by decide) (fun c3 => ?_) (fun c3 => ?_)
    · replace h := h.1 c3
      refine z_bipush dX11_floodedOf_60 rfl ?_
      refine z_iload_n dX11_floodedOf_62 rfl rfl ?_
      refine z_isub dX11_floodedOf_63 ?_
      refine z_i2l dX11_floodedOf_64 ?_
      refine z_lmul dX11_floodedOf_65 ?_
      replace h := h _ rfl
      refine z_lstore dX11_floodedOf_66 (by decide) rfl ?_
      show Zm w (d + 5) mX11_floodedOf 68 [some (aR (some (228))), some (aI (x1)), some (aI (x2)), some (aI (x3)), some (aI (x4)), some (aI (x5)), some (aL (x6)), none, some (aI (x8)), some (aL (x9 * (nm (16 - x1)))), none, some (aI (x11))] [] g P
      refine z_iinc dX11_floodedOf_68 rfl (by decide) rfl ?_
      show Zm w (d + 5) mX11_floodedOf 71 [some (aR (some (228))), some (aI (x1)), some (aI (x2)), some (aI (x3)), some (aI (x4)), some (aI (x5)), some (aL (x6)), none, some (aI (x8)), some (aL ((x9 * (nm (16 - x1))))), none, some (aI (x11 + 1))] [] g P
      refine z_goto (tgt := 37) dX11_floodedOf_71 (by decide) ?_
      exact z_weak (by simp [lle]) h
    · replace h := h.2 c3
      refine z_iload_n dX11_floodedOf_55 rfl rfl ?_
      refine z_i2l dX11_floodedOf_56 ?_
      refine z_goto (tgt := 65) dX11_floodedOf_57 (by decide) ?_
      refine z_lmul dX11_floodedOf_65 ?_
      replace h := h _ rfl
      refine z_lstore dX11_floodedOf_66 (by decide) rfl ?_
      show Zm w (d + 5) mX11_floodedOf 68 [some (aR (some (228))), some (aI (x1)), some (aI (x2)), some (aI (x3)), some (aI (x4)), some (aI (x5)), some (aL (x6)), none, some (aI (x8)), some (aL (x9 * (nm x1))), none, some (aI (x11))] [] g P
      refine z_iinc dX11_floodedOf_68 rfl (by decide) rfl ?_
      show Zm w (d + 5) mX11_floodedOf 71 [some (aR (some (228))), some (aI (x1)), some (aI (x2)), some (aI (x3)), some (aI (x4)), some (aI (x5)), some (aL (x6)), none, some (aI (x8)), some (aL ((x9 * (nm x1)))), none, some (aI (x11 + 1))] [] g P
      refine z_goto (tgt := 37) dX11_floodedOf_71 (by decide) ?_
      exact z_weak (by simp [lle]) h
theorem dX11_flooded_0 : decode cX11_flooded 0 = .ok (.aload_n 0, 1) := by decide +kernel
theorem dX11_flooded_1 : decode cX11_flooded 1 = .ok (.invokevirtual 161, 3) := by decide +kernel
theorem dX11_flooded_4 : decode cX11_flooded 4 = .ok (.iload_n 1, 1) := by decide +kernel
theorem dX11_flooded_5 : decode cX11_flooded 5 = .ok (.i2l, 1) := by decide +kernel
theorem dX11_flooded_6 : decode cX11_flooded 6 = .ok (.lconst 0, 1) := by decide +kernel
theorem dX11_flooded_7 : decode cX11_flooded 7 = .ok (.ldc2_w 297, 3) := by decide +kernel
theorem dX11_flooded_10 : decode cX11_flooded 10 = .ok (.invokestatic 88, 3) := by decide +kernel
theorem dX11_flooded_13 : decode cX11_flooded 13 = .ok (.ifCond .eq 58, 3) := by decide +kernel
theorem dX11_flooded_16 : decode cX11_flooded 16 = .ok (.iload_n 2, 1) := by decide +kernel
theorem dX11_flooded_17 : decode cX11_flooded 17 = .ok (.i2l, 1) := by decide +kernel
theorem dX11_flooded_18 : decode cX11_flooded 18 = .ok (.lconst 0, 1) := by decide +kernel
theorem dX11_flooded_19 : decode cX11_flooded 19 = .ok (.ldc2_w 299, 3) := by decide +kernel
theorem dX11_flooded_22 : decode cX11_flooded 22 = .ok (.invokestatic 88, 3) := by decide +kernel
theorem dX11_flooded_25 : decode cX11_flooded 25 = .ok (.ifCond .eq 46, 3) := by decide +kernel
theorem dX11_flooded_28 : decode cX11_flooded 28 = .ok (.aload_n 0, 1) := by decide +kernel
theorem dX11_flooded_29 : decode cX11_flooded 29 = .ok (.iload_n 3, 1) := by decide +kernel
theorem dX11_flooded_30 : decode cX11_flooded 30 = .ok (.invokevirtual 164, 3) := by decide +kernel
theorem dX11_flooded_33 : decode cX11_flooded 33 = .ok (.ifCond .eq 38, 3) := by decide +kernel
theorem dX11_flooded_36 : decode cX11_flooded 36 = .ok (.iload 4, 2) := by decide +kernel
theorem dX11_flooded_38 : decode cX11_flooded 38 = .ok (.i2l, 1) := by decide +kernel
theorem dX11_flooded_39 : decode cX11_flooded 39 = .ok (.lconst 0, 1) := by decide +kernel
theorem dX11_flooded_40 : decode cX11_flooded 40 = .ok (.ldc2_w 263, 3) := by decide +kernel
theorem dX11_flooded_43 : decode cX11_flooded 43 = .ok (.invokestatic 88, 3) := by decide +kernel
theorem dX11_flooded_46 : decode cX11_flooded 46 = .ok (.ifCond .eq 25, 3) := by decide +kernel
theorem dX11_flooded_49 : decode cX11_flooded 49 = .ok (.iload 5, 2) := by decide +kernel
theorem dX11_flooded_51 : decode cX11_flooded 51 = .ok (.invokestatic 116, 3) := by decide +kernel
theorem dX11_flooded_54 : decode cX11_flooded 54 = .ok (.ifCond .eq 17, 3) := by decide +kernel
theorem dX11_flooded_57 : decode cX11_flooded 57 = .ok (.aload_n 0, 1) := by decide +kernel
theorem dX11_flooded_58 : decode cX11_flooded 58 = .ok (.iload_n 1, 1) := by decide +kernel
theorem dX11_flooded_59 : decode cX11_flooded 59 = .ok (.iload_n 2, 1) := by decide +kernel
theorem dX11_flooded_60 : decode cX11_flooded 60 = .ok (.iload_n 3, 1) := by decide +kernel
theorem dX11_flooded_61 : decode cX11_flooded 61 = .ok (.iload 4, 2) := by decide +kernel
theorem dX11_flooded_63 : decode cX11_flooded 63 = .ok (.iload 5, 2) := by decide +kernel
theorem dX11_flooded_65 : decode cX11_flooded 65 = .ok (.invokevirtual 301, 3) := by decide +kernel
theorem dX11_flooded_68 : decode cX11_flooded 68 = .ok (.goto 8, 3) := by decide +kernel
theorem dX11_flooded_71 : decode cX11_flooded 71 = .ok (.bipush (-2), 2) := by decide +kernel
theorem dX11_flooded_73 : decode cX11_flooded 73 = .ok (.invokestatic 305, 3) := by decide +kernel
theorem dX11_flooded_76 : decode cX11_flooded 76 = .ok (.lreturn, 1) := by decide +kernel
set_option maxRecDepth 4000 in
theorem s_X11_flooded_0 {w : GX} {d : Nat} {P : PN} {g : GI} (x1 : Int) (x2 : Int) (x3 : Int) (x4 : Int) (x5 : Int)
    (h : Zm w (d + 5) mX11_reads 0 [some (aR (some (228)))] [] g (fun r g1 => r = none ∧ (((nm (lin (nm x1) (0) (16)) = 0 → Zm w (d + 6) mX11_flooded 71 [none, none, none, none, none, none] [] g1 P) ∧ (¬ nm (lin (nm x1) (0) (16)) = 0 → (((nm (lin (nm x2) (0) (9)) = 0 → Zm w (d + 6) mX11_flooded 71 [none, none, none, none, none, none] [] g1 P) ∧ (¬ nm (lin (nm x2) (0) (9)) = 0 → (((nm (inn (x3) 0 (nm (g1 228 10 - 1))) = 0 → Zm w (d + 6) mX11_flooded 71 [none, none, none, none, none, none] [] g1 P) ∧ (¬ nm (inn (x3) 0 (nm (g1 228 10 - 1))) = 0 → (((nm (lin (nm x4) (0) (25)) = 0 → Zm w (d + 6) mX11_flooded 71 [none, none, none, none, none, none] [] g1 P) ∧ (¬ nm (lin (nm x4) (0) (25)) = 0 → (((nm (inn (x5) 0 1) = 0 → Zm w (d + 6) mX11_flooded 71 [none, none, none, none, none, none] [] g1 P) ∧ (¬ nm (inn (x5) 0 1) = 0 → Zm w (d + 5) mX11_floodedOf 0 [some (aR (some (228))), some (aI (x1)), some (aI (x2)), some (aI (x3)), some (aI (x4)), some (aI (x5)), none, none, none, none, none, none] [] g1 (fun r g8 => ∃ z9 : Int, r = some (aL z9) ∧ P (some (aL (z9))) g8)))))))))))))))))) :
    Zm w (d + 6) mX11_flooded 0 [some (aR (some (228))), some (aI (x1)), some (aI (x2)), some (aI (x3)), some (aI (x4)), some (aI (x5))] [] g P := by
  refine z_aload_n dX11_flooded_0 rfl rfl ?_
  refine m_callV (as := []) dX11_flooded_1 lk_X11_161 mok_X11_reads in_X11_reads sl_X11_reads kt_228 rfl rfl rfl (Nat.le_of_ble_eq_true rfl) rfl (Nat.le_of_ble_eq_true rfl) rfl (m_mono (fun r g1 hr => ?_) h)
  obtain ⟨rfl, h⟩ := hr
  show Zm w (d + 6) mX11_flooded 4 [some (aR (some (228))), some (aI (x1)), some (aI (x2)), some (aI (x3)), some (aI (x4)), some (aI (x5))] [] g1 P
  refine z_iload_n dX11_flooded_4 rfl rfl ?_
  refine z_i2l dX11_flooded_5 ?_
  refine z_lconst (z := 0) dX11_flooded_6 rfl ?_
  refine z_ldc2 dX11_flooded_7 kl_X11_297 ?_
  refine m_callS (as := [aL (nm x1), aL (0), aL (16)]) dX11_flooded_10 lk_X11_88 mok_X11_in st_X11_in rfl (Nat.le_of_ble_eq_true rfl) rfl (Nat.le_of_ble_eq_true rfl) rfl (c_X11_in  ?_)
  show Zm w (d + 6) mX11_flooded 13 [some (aR (some (228))), some (aI (x1)), some (aI (x2)), some (aI (x3)), some (aI (x4)), some (aI (x5))] [aI (lin (nm x1) (0) (16))] g1 P
  refine z_if_eq (tgt := 71) dX11_flooded_13 (by decide) (fun c3 => ?_) (fun c3 => ?_)
  · replace h := h.1 c3
    exact z_weak (by simp [lle]) h
  · replace h := h.2 c3
    refine z_iload_n dX11_flooded_16 rfl rfl ?_
    refine z_i2l dX11_flooded_17 ?_
    refine z_lconst (z := 0) dX11_flooded_18 rfl ?_
    refine z_ldc2 dX11_flooded_19 kl_X11_299 ?_
    refine m_callS (as := [aL (nm x2), aL (0), aL (9)]) dX11_flooded_22 lk_X11_88 mok_X11_in st_X11_in rfl (Nat.le_of_ble_eq_true rfl) rfl (Nat.le_of_ble_eq_true rfl) rfl (c_X11_in  ?_)
    show Zm w (d + 6) mX11_flooded 25 [some (aR (some (228))), some (aI (x1)), some (aI (x2)), some (aI (x3)), some (aI (x4)), some (aI (x5))] [aI (lin (nm x2) (0) (9))] g1 P
    refine z_if_eq (tgt := 71) dX11_flooded_25 (by decide) (fun c4 => ?_) (fun c4 => ?_)
    · replace h := h.1 c4
      exact z_weak (by simp [lle]) h
    · replace h := h.2 c4
      refine z_aload_n dX11_flooded_28 rfl rfl ?_
      refine z_iload_n dX11_flooded_29 rfl rfl ?_
      refine m_callV (as := [aI (x3)]) dX11_flooded_30 lk_X11_164 mok_X11_isPerson in_X11_isPerson sl_X11_isPerson kt_228 rfl rfl rfl (Nat.le_of_ble_eq_true rfl) rfl (Nat.le_of_ble_eq_true rfl) rfl (c_X11_isPerson  ?_)
      show Zm w (d + 6) mX11_flooded 33 [some (aR (some (228))), some (aI (x1)), some (aI (x2)), some (aI (x3)), some (aI (x4)), some (aI (x5))] [aI (inn (x3) 0 (nm (g1 228 10 - 1)))] g1 P
      refine z_if_eq (tgt := 71) dX11_flooded_33 (by decide) (fun c5 => ?_) (fun c5 => ?_)
      · replace h := h.1 c5
        exact z_weak (by simp [lle]) h
      · replace h := h.2 c5
        refine z_iload dX11_flooded_36 rfl ?_
        refine z_i2l dX11_flooded_38 ?_
        refine z_lconst (z := 0) dX11_flooded_39 rfl ?_
        refine z_ldc2 dX11_flooded_40 kl_X11_263 ?_
        refine m_callS (as := [aL (nm x4), aL (0), aL (25)]) dX11_flooded_43 lk_X11_88 mok_X11_in st_X11_in rfl (Nat.le_of_ble_eq_true rfl) rfl (Nat.le_of_ble_eq_true rfl) rfl (c_X11_in  ?_)
        show Zm w (d + 6) mX11_flooded 46 [some (aR (some (228))), some (aI (x1)), some (aI (x2)), some (aI (x3)), some (aI (x4)), some (aI (x5))] [aI (lin (nm x4) (0) (25))] g1 P
        refine z_if_eq (tgt := 71) dX11_flooded_46 (by decide) (fun c6 => ?_) (fun c6 => ?_)
        · replace h := h.1 c6
          exact z_weak (by simp [lle]) h
        · replace h := h.2 c6
          refine z_iload dX11_flooded_49 rfl ?_
          refine m_callS (as := [aI (x5)]) dX11_flooded_51 lk_X11_116 mok_X11_isTwo st_X11_isTwo rfl (Nat.le_of_ble_eq_true rfl) rfl (Nat.le_of_ble_eq_true rfl) rfl (c_X11_isTwo  ?_)
          show Zm w (d + 6) mX11_flooded 54 [some (aR (some (228))), some (aI (x1)), some (aI (x2)), some (aI (x3)), some (aI (x4)), some (aI (x5))] [aI (inn (x5) 0 1)] g1 P
          refine z_if_eq (tgt := 71) dX11_flooded_54 (by decide) (fun c7 => ?_) (fun c7 => ?_)
          · replace h := h.1 c7
            exact z_weak (by simp [lle]) h
          · replace h := h.2 c7
            refine z_aload_n dX11_flooded_57 rfl rfl ?_
            refine z_iload_n dX11_flooded_58 rfl rfl ?_
            refine z_iload_n dX11_flooded_59 rfl rfl ?_
            refine z_iload_n dX11_flooded_60 rfl rfl ?_
            refine z_iload dX11_flooded_61 rfl ?_
            refine z_iload dX11_flooded_63 rfl ?_
            refine m_callV (as := [aI (x1), aI (x2), aI (x3), aI (x4), aI (x5)]) dX11_flooded_65 lk_X11_301 mok_X11_floodedOf in_X11_floodedOf sl_X11_floodedOf kt_228 rfl rfl rfl (Nat.le_of_ble_eq_true rfl) rfl (Nat.le_of_ble_eq_true rfl) rfl (m_mono (fun r g8 hr => ?_) h)
            obtain ⟨z9, rfl, h⟩ := hr
            show Zm w (d + 6) mX11_flooded 68 [some (aR (some (228))), some (aI (x1)), some (aI (x2)), some (aI (x3)), some (aI (x4)), some (aI (x5))] [aL (z9)] g8 P
            refine z_goto (tgt := 76) dX11_flooded_68 (by decide) ?_
            exact m_lret dX11_flooded_76 rfl h
set_option maxRecDepth 4000 in
theorem s_X11_flooded_71 {w : GX} {d : Nat} {P : PN} {g : GI} 
    (h : (P (some (aL ((-9223372036854775808) - nm ((-2))))) g)) :
    Zm w (d + 6) mX11_flooded 71 [none, none, none, none, none, none] [] g P := by
  refine z_bipush dX11_flooded_71 rfl ?_
  refine m_callS (as := [aI ((-2))]) dX11_flooded_73 lk_X11_305 mok_X11_no st_X11_no rfl (Nat.le_of_ble_eq_true rfl) rfl (Nat.le_of_ble_eq_true rfl) rfl (c_X11_no  ?_)
  show Zm w (d + 6) mX11_flooded 76 [none, none, none, none, none, none] [aL ((-9223372036854775808) - nm ((-2)))] g P
  exact m_lret dX11_flooded_76 rfl h
theorem dX11_lot_0 : decode cX11_lot 0 = .ok (.aload_n 0, 1) := by decide +kernel
theorem dX11_lot_1 : decode cX11_lot 1 = .ok (.ldc_w 309, 3) := by decide +kernel
theorem dX11_lot_4 : decode cX11_lot 4 = .ok (.aload_n 0, 1) := by decide +kernel
theorem dX11_lot_5 : decode cX11_lot 5 = .ok (.getfield 310, 3) := by decide +kernel
theorem dX11_lot_8 : decode cX11_lot 8 = .ok (.imul, 1) := by decide +kernel
theorem dX11_lot_9 : decode cX11_lot 9 = .ok (.sipush 12345, 3) := by decide +kernel
theorem dX11_lot_12 : decode cX11_lot 12 = .ok (.iadd, 1) := by decide +kernel
theorem dX11_lot_13 : decode cX11_lot 13 = .ok (.putfield 310, 3) := by decide +kernel
theorem dX11_lot_16 : decode cX11_lot 16 = .ok (.aload_n 0, 1) := by decide +kernel
theorem dX11_lot_17 : decode cX11_lot 17 = .ok (.getfield 310, 3) := by decide +kernel
theorem dX11_lot_20 : decode cX11_lot 20 = .ok (.bipush 16, 2) := by decide +kernel
theorem dX11_lot_22 : decode cX11_lot 22 = .ok (.iushr, 1) := by decide +kernel
theorem dX11_lot_23 : decode cX11_lot 23 = .ok (.iload_n 1, 1) := by decide +kernel
theorem dX11_lot_24 : decode cX11_lot 24 = .ok (.irem, 1) := by decide +kernel
theorem dX11_lot_25 : decode cX11_lot 25 = .ok (.ireturn, 1) := by decide +kernel
set_option maxRecDepth 4000 in
theorem s_X11_lot_0 {w : GX} {d : Nat} {P : PN} {g : GI} (x1 : Int)
    (h : (∀ g1 : GI, g1 = up2 g 228 34 ((1103515245 * (g 228 34)) + 12345) → (¬ nm x1 = 0 ∧ P (some (aI (iRem (iUshr (g1 228 34) 16) x1))) g1))) :
    Zm w d mX11_lot 0 [some (aR (some (228))), some (aI (x1))] [] g P := by
  refine z_aload_n dX11_lot_0 rfl rfl ?_
  refine z_ldcw dX11_lot_1 kc_X11_309 ?_
  refine z_aload_n dX11_lot_4 rfl rfl ?_
  refine z_getI dX11_lot_5 fl_X11_310 (by decide) kt_228 ?_
  refine z_imul dX11_lot_8 ?_
  refine z_sipush dX11_lot_9 rfl ?_
  refine z_iadd dX11_lot_12 ?_
  replace h := h _ rfl
  refine z_putI dX11_lot_13 fw_X11_310 (by decide) kt_228 ?_
  refine z_aload_n dX11_lot_16 rfl rfl ?_
  refine z_getI dX11_lot_17 fl_X11_310 (by decide) kt_228 ?_
  refine z_bipush dX11_lot_20 rfl ?_
  refine z_iushr dX11_lot_22 ?_
  refine z_iload_n dX11_lot_23 rfl rfl ?_
  obtain ⟨q2, h⟩ := h
  refine z_irem dX11_lot_24 q2 ?_
  exact m_iret dX11_lot_25 rfl h
theorem dX11_crowdOf_0 : decode cX11_crowdOf 0 = .ok (.aload_n 0, 1) := by decide +kernel
theorem dX11_crowdOf_1 : decode cX11_crowdOf 1 = .ok (.getfield 169, 3) := by decide +kernel
theorem dX11_crowdOf_4 : decode cX11_crowdOf 4 = .ok (.istore 4, 2) := by decide +kernel
theorem dX11_crowdOf_6 : decode cX11_crowdOf 6 = .ok (.aload_n 0, 1) := by decide +kernel
theorem dX11_crowdOf_7 : decode cX11_crowdOf 7 = .ok (.iload_n 1, 1) := by decide +kernel
theorem dX11_crowdOf_8 : decode cX11_crowdOf 8 = .ok (.putfield 310, 3) := by decide +kernel
theorem dX11_crowdOf_11 : decode cX11_crowdOf 11 = .ok (.iconst 0, 1) := by decide +kernel
theorem dX11_crowdOf_12 : decode cX11_crowdOf 12 = .ok (.istore 5, 2) := by decide +kernel
theorem dX11_crowdOf_14 : decode cX11_crowdOf 14 = .ok (.iload 5, 2) := by decide +kernel
theorem dX11_crowdOf_16 : decode cX11_crowdOf 16 = .ok (.iload_n 2, 1) := by decide +kernel
theorem dX11_crowdOf_17 : decode cX11_crowdOf 17 = .ok (.if_icmp .gt 30, 3) := by decide +kernel
theorem dX11_crowdOf_20 : decode cX11_crowdOf 20 = .ok (.aload_n 0, 1) := by decide +kernel
theorem dX11_crowdOf_21 : decode cX11_crowdOf 21 = .ok (.getfield 140, 3) := by decide +kernel
theorem dX11_crowdOf_24 : decode cX11_crowdOf 24 = .ok (.ifCond .le 23, 3) := by decide +kernel
theorem dX11_crowdOf_27 : decode cX11_crowdOf 27 = .ok (.aload_n 0, 1) := by decide +kernel
theorem dX11_crowdOf_28 : decode cX11_crowdOf 28 = .ok (.iload 5, 2) := by decide +kernel
theorem dX11_crowdOf_30 : decode cX11_crowdOf 30 = .ok (.aload_n 0, 1) := by decide +kernel
theorem dX11_crowdOf_31 : decode cX11_crowdOf 31 = .ok (.aload_n 0, 1) := by decide +kernel
theorem dX11_crowdOf_32 : decode cX11_crowdOf 32 = .ok (.getfield 140, 3) := by decide +kernel
theorem dX11_crowdOf_35 : decode cX11_crowdOf 35 = .ok (.invokevirtual 313, 3) := by decide +kernel
theorem dX11_crowdOf_38 : decode cX11_crowdOf 38 = .ok (.invokevirtual 178, 3) := by decide +kernel
theorem dX11_crowdOf_41 : decode cX11_crowdOf 41 = .ok (.iinc 5 1, 3) := by decide +kernel
theorem dX11_crowdOf_44 : decode cX11_crowdOf 44 = .ok (.goto (-30), 3) := by decide +kernel
theorem dX11_crowdOf_47 : decode cX11_crowdOf 47 = .ok (.aload_n 0, 1) := by decide +kernel
theorem dX11_crowdOf_48 : decode cX11_crowdOf 48 = .ok (.iload_n 2, 1) := by decide +kernel
theorem dX11_crowdOf_49 : decode cX11_crowdOf 49 = .ok (.invokevirtual 232, 3) := by decide +kernel
theorem dX11_crowdOf_52 : decode cX11_crowdOf 52 = .ok (.aload_n 0, 1) := by decide +kernel
theorem dX11_crowdOf_53 : decode cX11_crowdOf 53 = .ok (.iload 4, 2) := by decide +kernel
theorem dX11_crowdOf_55 : decode cX11_crowdOf 55 = .ok (.putfield 169, 3) := by decide +kernel
theorem dX11_crowdOf_58 : decode cX11_crowdOf 58 = .ok (.iconst 0, 1) := by decide +kernel
theorem dX11_crowdOf_59 : decode cX11_crowdOf 59 = .ok (.istore 5, 2) := by decide +kernel
theorem dX11_crowdOf_61 : decode cX11_crowdOf 61 = .ok (.iconst 0, 1) := by decide +kernel
theorem dX11_crowdOf_62 : decode cX11_crowdOf 62 = .ok (.istore 6, 2) := by decide +kernel
theorem dX11_crowdOf_64 : decode cX11_crowdOf 64 = .ok (.iload 6, 2) := by decide +kernel
theorem dX11_crowdOf_66 : decode cX11_crowdOf 66 = .ok (.aload_n 0, 1) := by decide +kernel
theorem dX11_crowdOf_67 : decode cX11_crowdOf 67 = .ok (.getfield 140, 3) := by decide +kernel
theorem dX11_crowdOf_70 : decode cX11_crowdOf 70 = .ok (.if_icmp .ge 28, 3) := by decide +kernel
theorem dX11_crowdOf_73 : decode cX11_crowdOf 73 = .ok (.iload 5, 2) := by decide +kernel
theorem dX11_crowdOf_75 : decode cX11_crowdOf 75 = .ok (.iconst 1, 1) := by decide +kernel
theorem dX11_crowdOf_76 : decode cX11_crowdOf 76 = .ok (.aload_n 0, 1) := by decide +kernel
theorem dX11_crowdOf_77 : decode cX11_crowdOf 77 = .ok (.getfield 58, 3) := by decide +kernel
theorem dX11_crowdOf_80 : decode cX11_crowdOf 80 = .ok (.aload_n 0, 1) := by decide +kernel
theorem dX11_crowdOf_81 : decode cX11_crowdOf 81 = .ok (.getfield 61, 3) := by decide +kernel
theorem dX11_crowdOf_84 : decode cX11_crowdOf 84 = .ok (.iload 6, 2) := by decide +kernel
theorem dX11_crowdOf_86 : decode cX11_crowdOf 86 = .ok (.iaload, 1) := by decide +kernel
theorem dX11_crowdOf_87 : decode cX11_crowdOf 87 = .ok (.iaload, 1) := by decide +kernel
theorem dX11_crowdOf_88 : decode cX11_crowdOf 88 = .ok (.ishl, 1) := by decide +kernel
theorem dX11_crowdOf_89 : decode cX11_crowdOf 89 = .ok (.ior, 1) := by decide +kernel
theorem dX11_crowdOf_90 : decode cX11_crowdOf 90 = .ok (.istore 5, 2) := by decide +kernel
theorem dX11_crowdOf_92 : decode cX11_crowdOf 92 = .ok (.iinc 6 1, 3) := by decide +kernel
theorem dX11_crowdOf_95 : decode cX11_crowdOf 95 = .ok (.goto (-31), 3) := by decide +kernel
theorem dX11_crowdOf_98 : decode cX11_crowdOf 98 = .ok (.iload_n 3, 1) := by decide +kernel
theorem dX11_crowdOf_99 : decode cX11_crowdOf 99 = .ok (.iconst (-1), 1) := by decide +kernel
theorem dX11_crowdOf_100 : decode cX11_crowdOf 100 = .ok (.if_icmp .ne 11, 3) := by decide +kernel
theorem dX11_crowdOf_103 : decode cX11_crowdOf 103 = .ok (.iload 5, 2) := by decide +kernel
theorem dX11_crowdOf_105 : decode cX11_crowdOf 105 = .ok (.invokestatic 316, 3) := by decide +kernel
theorem dX11_crowdOf_108 : decode cX11_crowdOf 108 = .ok (.goto 14, 3) := by decide +kernel
theorem dX11_crowdOf_111 : decode cX11_crowdOf 111 = .ok (.aload_n 0, 1) := by decide +kernel
theorem dX11_crowdOf_112 : decode cX11_crowdOf 112 = .ok (.getfield 58, 3) := by decide +kernel
theorem dX11_crowdOf_115 : decode cX11_crowdOf 115 = .ok (.aload_n 0, 1) := by decide +kernel
theorem dX11_crowdOf_116 : decode cX11_crowdOf 116 = .ok (.getfield 61, 3) := by decide +kernel
theorem dX11_crowdOf_119 : decode cX11_crowdOf 119 = .ok (.iload_n 3, 1) := by decide +kernel
theorem dX11_crowdOf_120 : decode cX11_crowdOf 120 = .ok (.iaload, 1) := by decide +kernel
theorem dX11_crowdOf_121 : decode cX11_crowdOf 121 = .ok (.iaload, 1) := by decide +kernel
theorem dX11_crowdOf_122 : decode cX11_crowdOf 122 = .ok (.ireturn, 1) := by decide +kernel
set_option maxRecDepth 4000 in
theorem s_X11_crowdOf_0 {w : GX} {d : Nat} {P : PN} {g : GI} (x1 : Int) (x2 : Int) (x3 : Int)
    (h : (∀ v1 : Int, v1 = g 228 14 → (∀ g2 : GI, g2 = up2 g 228 34 x1 → Zm w (d + 4) mX11_crowdOf 14 [some (aR (some (228))), none, some (aI (x2)), some (aI (x3)), some (aI (v1)), some (aI (0)), none] [] g2 P))) :
    Zm w (d + 4) mX11_crowdOf 0 [some (aR (some (228))), some (aI (x1)), some (aI (x2)), some (aI (x3)), none, none, none] [] g P := by
  refine z_aload_n dX11_crowdOf_0 rfl rfl ?_
  refine z_getI dX11_crowdOf_1 fl_X11_169 (by decide) kt_228 ?_
  replace h := h _ rfl
  refine z_istore dX11_crowdOf_4 (by decide) rfl ?_
  show Zm w (d + 4) mX11_crowdOf 6 [some (aR (some (228))), some (aI (x1)), some (aI (x2)), some (aI (x3)), some (aI (g 228 14)), none, none] [] g P
  refine z_aload_n dX11_crowdOf_6 rfl rfl ?_
  refine z_iload_n dX11_crowdOf_7 rfl rfl ?_
  replace h := h _ rfl
  refine z_putI dX11_crowdOf_8 fw_X11_310 (by decide) kt_228 ?_
  refine z_iconst dX11_crowdOf_11 ?_
  refine z_istore dX11_crowdOf_12 (by decide) rfl ?_
  show Zm w (d + 4) mX11_crowdOf 14 [some (aR (some (228))), some (aI (x1)), some (aI (x2)), some (aI (x3)), some (aI ((g 228 14))), some (aI (0)), none] [] (up2 g 228 34 x1) P
  exact z_weak (by simp [lle]) h
set_option maxRecDepth 4000 in
theorem s_X11_crowdOf_14 {w : GX} {d : Nat} {P : PN} {g : GI} (x2 : Int) (x3 : Int) (x4 : Int) (x5 : Int)
    (h : ((nm x2 < nm x5 → Zm w (d + 4) mX11_crowdOf 47 [some (aR (some (228))), none, some (aI (x2)), some (aI (x3)), some (aI (x4)), none, none] [] g P) ∧ (¬ nm x2 < nm x5 → ((¬ 0 < nm (g 228 10) → Zm w (d + 4) mX11_crowdOf 47 [some (aR (some (228))), none, some (aI (x2)), some (aI (x3)), some (aI (x4)), none, none] [] g P) ∧ (0 < nm (g 228 10) → Zm w (d + 3) mX11_lot 0 [some (aR (some (228))), some (aI (g 228 10))] [] g (fun r g3 => ∃ z4 : Int, r = some (aI z4) ∧ Zm w (d + 3) mX11_crosses 0 [some (aR (some (228))), some (aI (x5)), some (aI (z4))] [] g3 (fun r g5 => r = none ∧ Zm w (d + 4) mX11_crowdOf 14 [some (aR (some (228))), none, some (aI (x2)), some (aI (x3)), some (aI (x4)), some (aI (x5 + 1)), none] [] g5 P))))))) :
    Zm w (d + 4) mX11_crowdOf 14 [some (aR (some (228))), none, some (aI (x2)), some (aI (x3)), some (aI (x4)), some (aI (x5)), none] [] g P := by
  refine z_iload dX11_crowdOf_14 rfl ?_
  refine z_iload_n dX11_crowdOf_16 rfl rfl ?_
  refine z_icmp_gt (tgt := 47) dX11_crowdOf_17 (by decide) (fun c1 => ?_) (fun c1 => ?_)
  · replace h := h.1 c1
    exact z_weak (by simp [lle]) h
  · replace h := h.2 c1
    refine z_aload_n dX11_crowdOf_20 rfl rfl ?_
    refine z_getI dX11_crowdOf_21 fl_X11_140 (by decide) kt_228 ?_
    refine z_if_le (tgt := 47) dX11_crowdOf_24 (by decide) (fun c2 => ?_) (fun c2 => ?_)
    · replace h := h.1 c2
      exact z_weak (by simp [lle]) h
    · replace h := h.2 (Decidable.not_not.mp c2)
      refine z_aload_n dX11_crowdOf_27 rfl rfl ?_
      refine z_iload dX11_crowdOf_28 rfl ?_
      refine z_aload_n dX11_crowdOf_30 rfl rfl ?_
      refine z_aload_n dX11_crowdOf_31 rfl rfl ?_
      refine z_getI dX11_crowdOf_32 fl_X11_140 (by decide) kt_228 ?_
      refine m_callV (as := [aI (g 228 10)]) dX11_crowdOf_35 lk_X11_313 mok_X11_lot in_X11_lot sl_X11_lot kt_228 rfl rfl rfl (Nat.le_of_ble_eq_true rfl) rfl (Nat.le_of_ble_eq_true rfl) rfl (m_mono (fun r g3 hr => ?_) h)
      obtain ⟨z4, rfl, h⟩ := hr
      show Zm w (d + 4) mX11_crowdOf 38 [some (aR (some (228))), none, some (aI (x2)), some (aI (x3)), some (aI (x4)), some (aI (x5)), none] [aI (z4), aI (x5), aR (some (228))] g3 P
      refine m_callV (as := [aI (x5), aI (z4)]) dX11_crowdOf_38 lk_X11_178 mok_X11_crosses in_X11_crosses sl_X11_crosses kt_228 rfl rfl rfl (Nat.le_of_ble_eq_true rfl) rfl (Nat.le_of_ble_eq_true rfl) rfl (m_mono (fun r g5 hr => ?_) h)
      obtain ⟨rfl, h⟩ := hr
      show Zm w (d + 4) mX11_crowdOf 41 [some (aR (some (228))), none, some (aI (x2)), some (aI (x3)), some (aI (x4)), some (aI (x5)), none] [] g5 P
      refine z_iinc dX11_crowdOf_41 rfl (by decide) rfl ?_
      show Zm w (d + 4) mX11_crowdOf 44 [some (aR (some (228))), none, some (aI (x2)), some (aI (x3)), some (aI (x4)), some (aI (x5 + 1)), none] [] g5 P
      refine z_goto (tgt := 14) dX11_crowdOf_44 (by decide) ?_
      exact z_weak (by simp [lle]) h
set_option maxRecDepth 4000 in
theorem s_X11_crowdOf_47 {w : GX} {d : Nat} {P : PN} {g : GI} (x2 : Int) (x3 : Int) (x4 : Int)
    (h : Zm w (d + 3) mX11_lives 0 [some (aR (some (228))), some (aI (x2)), none] [] g (fun r g1 => r = none ∧ (∀ g3 : GI, g3 = up2 g1 228 14 x4 → Zm w (d + 4) mX11_crowdOf 64 [some (aR (some (228))), none, none, some (aI (x3)), none, some (aI (0)), some (aI (0))] [] g3 P))) :
    Zm w (d + 4) mX11_crowdOf 47 [some (aR (some (228))), none, some (aI (x2)), some (aI (x3)), some (aI (x4)), none, none] [] g P := by
  refine z_aload_n dX11_crowdOf_47 rfl rfl ?_
  refine z_iload_n dX11_crowdOf_48 rfl rfl ?_
  refine m_callV (as := [aI (x2)]) dX11_crowdOf_49 lk_X11_232 mok_X11_lives in_X11_lives sl_X11_lives kt_228 rfl rfl rfl (Nat.le_of_ble_eq_true rfl) rfl (Nat.le_of_ble_eq_true rfl) rfl (m_mono (fun r g1 hr => ?_) h)
  obtain ⟨rfl, h⟩ := hr
  show Zm w (d + 4) mX11_crowdOf 52 [some (aR (some (228))), none, some (aI (x2)), some (aI (x3)), some (aI (x4)), none, none] [] g1 P
  refine z_aload_n dX11_crowdOf_52 rfl rfl ?_
  refine z_iload dX11_crowdOf_53 rfl ?_
  replace h := h _ rfl
  refine z_putI dX11_crowdOf_55 fw_X11_169 (by decide) kt_228 ?_
  refine z_iconst dX11_crowdOf_58 ?_
  refine z_istore dX11_crowdOf_59 (by decide) rfl ?_
  show Zm w (d + 4) mX11_crowdOf 61 [some (aR (some (228))), none, some (aI (x2)), some (aI (x3)), some (aI (x4)), some (aI (0)), none] [] (up2 g1 228 14 x4) P
  refine z_iconst dX11_crowdOf_61 ?_
  refine z_istore dX11_crowdOf_62 (by decide) rfl ?_
  show Zm w (d + 4) mX11_crowdOf 64 [some (aR (some (228))), none, some (aI (x2)), some (aI (x3)), some (aI (x4)), some (aI (0)), some (aI (0))] [] (up2 g1 228 14 x4) P
  exact z_weak (by simp [lle]) h
set_option maxRecDepth 4000 in
theorem s_X11_crowdOf_64 {w : GX} {d : Nat} {P : PN} {g : GI} (x3 : Int) (x5 : Int) (x6 : Int)
    (h : ((¬ nm x6 < nm (g 228 10) → ((¬ nm x3 = nm ((-1)) → (0 ≤ nm x3 ∧ nm x3 < 8 ∧ (0 ≤ nm (g 246 (nm x3).toNat) ∧ nm (g 246 (nm x3).toNat) < 28 ∧ P (some (aI (g 245 (nm (g 246 (nm x3).toNat)).toNat))) g))) ∧ (nm x3 = nm ((-1)) → Zm w (d + 3) mX11_ones 0 [some (aI (x5)), none, none] [] g (fun r g11 => ∃ z12 : Int, r = some (aI z12) ∧ P (some (aI (z12))) g11)))) ∧ (nm x6 < nm (g 228 10) → (0 ≤ nm x6 ∧ nm x6 < 8 ∧ (0 ≤ nm (g 246 (nm x6).toNat) ∧ nm (g 246 (nm x6).toNat) < 28 ∧ (∀ v21 : Int, v21 = iOr x5 (iShl 1 (g 245 (nm (g 246 (nm x6).toNat)).toNat)) → Zm w (d + 4) mX11_crowdOf 64 [some (aR (some (228))), none, none, some (aI (x3)), none, some (aI (v21)), some (aI (x6 + 1))] [] g P)))))) :
    Zm w (d + 4) mX11_crowdOf 64 [some (aR (some (228))), none, none, some (aI (x3)), none, some (aI (x5)), some (aI (x6))] [] g P := by
  refine z_iload dX11_crowdOf_64 rfl ?_
  refine z_aload_n dX11_crowdOf_66 rfl rfl ?_
  refine z_getI dX11_crowdOf_67 fl_X11_140 (by decide) kt_228 ?_
  refine z_icmp_ge (tgt := 98) dX11_crowdOf_70 (by decide) (fun c1 => ?_) (fun c1 => ?_)
  · replace h := h.1 c1
    refine z_iload_n dX11_crowdOf_98 rfl rfl ?_
    refine z_iconst dX11_crowdOf_99 ?_
    refine z_icmp_ne (tgt := 111) dX11_crowdOf_100 (by decide) (fun c2 => ?_) (fun c2 => ?_)
    · replace h := h.1 c2
      refine z_aload_n dX11_crowdOf_111 rfl rfl ?_
      refine m_getR dX11_crowdOf_112 fl_X11_58 (by decide) kt_228 rv_228_24 ?_
      refine z_aload_n dX11_crowdOf_115 rfl rfl ?_
      refine m_getR dX11_crowdOf_116 fl_X11_61 (by decide) kt_228 rv_228_25 ?_
      refine z_iload_n dX11_crowdOf_119 rfl rfl ?_
      obtain ⟨q5, q6, h⟩ := h
      refine m_iald dX11_crowdOf_120 kv_246 q5 q6 ?_
      obtain ⟨q9, q10, h⟩ := h
      refine m_iald dX11_crowdOf_121 kv_245 q9 q10 ?_
      exact m_iret dX11_crowdOf_122 rfl h
    · replace h := h.2 (Decidable.not_not.mp c2)
      refine z_iload dX11_crowdOf_103 rfl ?_
      refine m_callS (as := [aI (x5)]) dX11_crowdOf_105 lk_X11_316 mok_X11_ones st_X11_ones rfl (Nat.le_of_ble_eq_true rfl) rfl (Nat.le_of_ble_eq_true rfl) rfl (m_mono (fun r g11 hr => ?_) h)
      obtain ⟨z12, rfl, h⟩ := hr
      show Zm w (d + 4) mX11_crowdOf 108 [some (aR (some (228))), none, none, some (aI (x3)), none, some (aI (x5)), some (aI (x6))] [aI (z12)] g11 P
      refine z_goto (tgt := 122) dX11_crowdOf_108 (by decide) ?_
      exact m_iret dX11_crowdOf_122 rfl h
  · replace h := h.2 (Decidable.not_not.mp c1)
    refine z_iload dX11_crowdOf_73 rfl ?_
    refine z_iconst dX11_crowdOf_75 ?_
    refine z_aload_n dX11_crowdOf_76 rfl rfl ?_
    refine m_getR dX11_crowdOf_77 fl_X11_58 (by decide) kt_228 rv_228_24 ?_
    refine z_aload_n dX11_crowdOf_80 rfl rfl ?_
    refine m_getR dX11_crowdOf_81 fl_X11_61 (by decide) kt_228 rv_228_25 ?_
    refine z_iload dX11_crowdOf_84 rfl ?_
    obtain ⟨q15, q16, h⟩ := h
    refine m_iald dX11_crowdOf_86 kv_246 q15 q16 ?_
    obtain ⟨q19, q20, h⟩ := h
    refine m_iald dX11_crowdOf_87 kv_245 q19 q20 ?_
    refine z_ishl dX11_crowdOf_88 ?_
    refine z_ior dX11_crowdOf_89 ?_
    replace h := h _ rfl
    refine z_istore dX11_crowdOf_90 (by decide) rfl ?_
    show Zm w (d + 4) mX11_crowdOf 92 [some (aR (some (228))), none, none, some (aI (x3)), none, some (aI (iOr x5 (iShl 1 (g 245 (nm (g 246 (nm x6).toNat)).toNat)))), some (aI (x6))] [] g P
    refine z_iinc dX11_crowdOf_92 rfl (by decide) rfl ?_
    show Zm w (d + 4) mX11_crowdOf 95 [some (aR (some (228))), none, none, some (aI (x3)), none, some (aI ((iOr x5 (iShl 1 (g 245 (nm (g 246 (nm x6).toNat)).toNat))))), some (aI (x6 + 1))] [] g P
    refine z_goto (tgt := 64) dX11_crowdOf_95 (by decide) ?_
    exact z_weak (by simp [lle]) h
theorem dX11_crowd_0 : decode cX11_crowd 0 = .ok (.aload_n 0, 1) := by decide +kernel
theorem dX11_crowd_1 : decode cX11_crowd 1 = .ok (.invokevirtual 161, 3) := by decide +kernel
theorem dX11_crowd_4 : decode cX11_crowd 4 = .ok (.iload_n 2, 1) := by decide +kernel
theorem dX11_crowd_5 : decode cX11_crowd 5 = .ok (.invokestatic 172, 3) := by decide +kernel
theorem dX11_crowd_8 : decode cX11_crowd 8 = .ok (.ifCond .eq 26, 3) := by decide +kernel
theorem dX11_crowd_11 : decode cX11_crowd 11 = .ok (.iload_n 3, 1) := by decide +kernel
theorem dX11_crowd_12 : decode cX11_crowd 12 = .ok (.iconst (-1), 1) := by decide +kernel
theorem dX11_crowd_13 : decode cX11_crowd 13 = .ok (.if_icmp .eq 11, 3) := by decide +kernel
theorem dX11_crowd_16 : decode cX11_crowd 16 = .ok (.aload_n 0, 1) := by decide +kernel
theorem dX11_crowd_17 : decode cX11_crowd 17 = .ok (.iload_n 3, 1) := by decide +kernel
theorem dX11_crowd_18 : decode cX11_crowd 18 = .ok (.invokevirtual 164, 3) := by decide +kernel
theorem dX11_crowd_21 : decode cX11_crowd 21 = .ok (.ifCond .eq 13, 3) := by decide +kernel
theorem dX11_crowd_24 : decode cX11_crowd 24 = .ok (.aload_n 0, 1) := by decide +kernel
theorem dX11_crowd_25 : decode cX11_crowd 25 = .ok (.iload_n 1, 1) := by decide +kernel
theorem dX11_crowd_26 : decode cX11_crowd 26 = .ok (.iload_n 2, 1) := by decide +kernel
theorem dX11_crowd_27 : decode cX11_crowd 27 = .ok (.iload_n 3, 1) := by decide +kernel
theorem dX11_crowd_28 : decode cX11_crowd 28 = .ok (.invokevirtual 319, 3) := by decide +kernel
theorem dX11_crowd_31 : decode cX11_crowd 31 = .ok (.goto 5, 3) := by decide +kernel
theorem dX11_crowd_34 : decode cX11_crowd 34 = .ok (.bipush (-2), 2) := by decide +kernel
theorem dX11_crowd_36 : decode cX11_crowd 36 = .ok (.ireturn, 1) := by decide +kernel
set_option maxRecDepth 4000 in
theorem s_X11_crowd_0 {w : GX} {d : Nat} {P : PN} {g : GI} (x1 : Int) (x2 : Int) (x3 : Int)
    (h : Zm w (d + 4) mX11_reads 0 [some (aR (some (228)))] [] g (fun r g1 => r = none ∧ (((nm (inn (x2) 0 19) = 0 → P (some (aI ((-2)))) g1) ∧ (¬ nm (inn (x2) 0 19) = 0 → ((nm x3 = nm ((-1)) → Zm w (d + 5) mX11_crowd 24 [some (aR (some (228))), some (aI (x1)), some (aI (x2)), some (aI (x3))] [] g1 P) ∧ (¬ nm x3 = nm ((-1)) → (((nm (inn (x3) 0 (nm (g1 228 10 - 1))) = 0 → P (some (aI ((-2)))) g1) ∧ (¬ nm (inn (x3) 0 (nm (g1 228 10 - 1))) = 0 → Zm w (d + 5) mX11_crowd 24 [some (aR (some (228))), some (aI (x1)), some (aI (x2)), some (aI (x3))] [] g1 P)))))))))) :
    Zm w (d + 5) mX11_crowd 0 [some (aR (some (228))), some (aI (x1)), some (aI (x2)), some (aI (x3))] [] g P := by
  refine z_aload_n dX11_crowd_0 rfl rfl ?_
  refine m_callV (as := []) dX11_crowd_1 lk_X11_161 mok_X11_reads in_X11_reads sl_X11_reads kt_228 rfl rfl rfl (Nat.le_of_ble_eq_true rfl) rfl (Nat.le_of_ble_eq_true rfl) rfl (m_mono (fun r g1 hr => ?_) h)
  obtain ⟨rfl, h⟩ := hr
  show Zm w (d + 5) mX11_crowd 4 [some (aR (some (228))), some (aI (x1)), some (aI (x2)), some (aI (x3))] [] g1 P
  refine z_iload_n dX11_crowd_4 rfl rfl ?_
  refine m_callS (as := [aI (x2)]) dX11_crowd_5 lk_X11_172 mok_X11_isDay st_X11_isDay rfl (Nat.le_of_ble_eq_true rfl) rfl (Nat.le_of_ble_eq_true rfl) rfl (c_X11_isDay  ?_)
  show Zm w (d + 5) mX11_crowd 8 [some (aR (some (228))), some (aI (x1)), some (aI (x2)), some (aI (x3))] [aI (inn (x2) 0 19)] g1 P
  refine z_if_eq (tgt := 34) dX11_crowd_8 (by decide) (fun c3 => ?_) (fun c3 => ?_)
  · replace h := h.1 c3
    refine z_bipush dX11_crowd_34 rfl ?_
    exact m_iret dX11_crowd_36 rfl h
  · replace h := h.2 c3
    refine z_iload_n dX11_crowd_11 rfl rfl ?_
    refine z_iconst dX11_crowd_12 ?_
    refine z_icmp_eq (tgt := 24) dX11_crowd_13 (by decide) (fun c4 => ?_) (fun c4 => ?_)
    · replace h := h.1 c4
      exact z_weak (by simp [lle]) h
    · replace h := h.2 c4
      refine z_aload_n dX11_crowd_16 rfl rfl ?_
      refine z_iload_n dX11_crowd_17 rfl rfl ?_
      refine m_callV (as := [aI (x3)]) dX11_crowd_18 lk_X11_164 mok_X11_isPerson in_X11_isPerson sl_X11_isPerson kt_228 rfl rfl rfl (Nat.le_of_ble_eq_true rfl) rfl (Nat.le_of_ble_eq_true rfl) rfl (c_X11_isPerson  ?_)
      show Zm w (d + 5) mX11_crowd 21 [some (aR (some (228))), some (aI (x1)), some (aI (x2)), some (aI (x3))] [aI (inn (x3) 0 (nm (g1 228 10 - 1)))] g1 P
      refine z_if_eq (tgt := 34) dX11_crowd_21 (by decide) (fun c5 => ?_) (fun c5 => ?_)
      · replace h := h.1 c5
        refine z_bipush dX11_crowd_34 rfl ?_
        exact m_iret dX11_crowd_36 rfl h
      · replace h := h.2 c5
        exact z_weak (by simp [lle]) h
set_option maxRecDepth 4000 in
theorem s_X11_crowd_24 {w : GX} {d : Nat} {P : PN} {g : GI} (x1 : Int) (x2 : Int) (x3 : Int)
    (h : Zm w (d + 4) mX11_crowdOf 0 [some (aR (some (228))), some (aI (x1)), some (aI (x2)), some (aI (x3)), none, none, none] [] g (fun r g1 => ∃ z2 : Int, r = some (aI z2) ∧ P (some (aI (z2))) g1)) :
    Zm w (d + 5) mX11_crowd 24 [some (aR (some (228))), some (aI (x1)), some (aI (x2)), some (aI (x3))] [] g P := by
  refine z_aload_n dX11_crowd_24 rfl rfl ?_
  refine z_iload_n dX11_crowd_25 rfl rfl ?_
  refine z_iload_n dX11_crowd_26 rfl rfl ?_
  refine z_iload_n dX11_crowd_27 rfl rfl ?_
  refine m_callV (as := [aI (x1), aI (x2), aI (x3)]) dX11_crowd_28 lk_X11_319 mok_X11_crowdOf in_X11_crowdOf sl_X11_crowdOf kt_228 rfl rfl rfl (Nat.le_of_ble_eq_true rfl) rfl (Nat.le_of_ble_eq_true rfl) rfl (m_mono (fun r g1 hr => ?_) h)
  obtain ⟨z2, rfl, h⟩ := hr
  show Zm w (d + 5) mX11_crowd 31 [some (aR (some (228))), some (aI (x1)), some (aI (x2)), some (aI (x3))] [aI (z2)] g1 P
  refine z_goto (tgt := 36) dX11_crowd_31 (by decide) ?_
  exact m_iret dX11_crowd_36 rfl h
theorem dX11_write_0 : decode cX11_write 0 = .ok (.iload_n 1, 1) := by decide +kernel
theorem dX11_write_1 : decode cX11_write 1 = .ok (.invokestatic 172, 3) := by decide +kernel
theorem dX11_write_4 : decode cX11_write 4 = .ok (.ifCond .eq 10, 3) := by decide +kernel
theorem dX11_write_7 : decode cX11_write 7 = .ok (.iload_n 2, 1) := by decide +kernel
theorem dX11_write_8 : decode cX11_write 8 = .ok (.invokestatic 97, 3) := by decide +kernel
theorem dX11_write_11 : decode cX11_write 11 = .ok (.ifCond .ne 6, 3) := by decide +kernel
theorem dX11_write_14 : decode cX11_write 14 = .ok (.bipush (-2), 2) := by decide +kernel
theorem dX11_write_16 : decode cX11_write 16 = .ok (.ireturn, 1) := by decide +kernel
theorem dX11_write_17 : decode cX11_write 17 = .ok (.aload_n 0, 1) := by decide +kernel
theorem dX11_write_18 : decode cX11_write 18 = .ok (.getfield 7, 3) := by decide +kernel
theorem dX11_write_21 : decode cX11_write 21 = .ok (.iload_n 2, 1) := by decide +kernel
theorem dX11_write_22 : decode cX11_write 22 = .ok (.iaload, 1) := by decide +kernel
theorem dX11_write_23 : decode cX11_write 23 = .ok (.ifCond .ge 9, 3) := by decide +kernel
theorem dX11_write_26 : decode cX11_write 26 = .ok (.aload_n 0, 1) := by decide +kernel
theorem dX11_write_27 : decode cX11_write 27 = .ok (.iconst 1, 1) := by decide +kernel
theorem dX11_write_28 : decode cX11_write 28 = .ok (.invokevirtual 103, 3) := by decide +kernel
theorem dX11_write_31 : decode cX11_write 31 = .ok (.ireturn, 1) := by decide +kernel
theorem dX11_write_32 : decode cX11_write 32 = .ok (.aload_n 0, 1) := by decide +kernel
theorem dX11_write_33 : decode cX11_write 33 = .ok (.invokevirtual 161, 3) := by decide +kernel
theorem dX11_write_36 : decode cX11_write 36 = .ok (.aload_n 0, 1) := by decide +kernel
theorem dX11_write_37 : decode cX11_write 37 = .ok (.iload_n 1, 1) := by decide +kernel
theorem dX11_write_38 : decode cX11_write 38 = .ok (.invokevirtual 232, 3) := by decide +kernel
theorem dX11_write_41 : decode cX11_write 41 = .ok (.aload_n 0, 1) := by decide +kernel
theorem dX11_write_42 : decode cX11_write 42 = .ok (.getfield 13, 3) := by decide +kernel
theorem dX11_write_45 : decode cX11_write 45 = .ok (.iload_n 2, 1) := by decide +kernel
theorem dX11_write_46 : decode cX11_write 46 = .ok (.iaload, 1) := by decide +kernel
theorem dX11_write_47 : decode cX11_write 47 = .ok (.aload_n 0, 1) := by decide +kernel
theorem dX11_write_48 : decode cX11_write 48 = .ok (.invokevirtual 241, 3) := by decide +kernel
theorem dX11_write_51 : decode cX11_write 51 = .ok (.invokestatic 322, 3) := by decide +kernel
theorem dX11_write_54 : decode cX11_write 54 = .ok (.istore_n 3, 1) := by decide +kernel
theorem dX11_write_55 : decode cX11_write 55 = .ok (.iconst 0, 1) := by decide +kernel
theorem dX11_write_56 : decode cX11_write 56 = .ok (.istore 4, 2) := by decide +kernel
theorem dX11_write_58 : decode cX11_write 58 = .ok (.iload 4, 2) := by decide +kernel
theorem dX11_write_60 : decode cX11_write 60 = .ok (.iload_n 3, 1) := by decide +kernel
theorem dX11_write_61 : decode cX11_write 61 = .ok (.if_icmp .ge 37, 3) := by decide +kernel
theorem dX11_write_64 : decode cX11_write 64 = .ok (.aload_n 0, 1) := by decide +kernel
theorem dX11_write_65 : decode cX11_write 65 = .ok (.getfield 16, 3) := by decide +kernel
theorem dX11_write_68 : decode cX11_write 68 = .ok (.bipush 60, 2) := by decide +kernel
theorem dX11_write_70 : decode cX11_write 70 = .ok (.iload_n 2, 1) := by decide +kernel
theorem dX11_write_71 : decode cX11_write 71 = .ok (.imul, 1) := by decide +kernel
theorem dX11_write_72 : decode cX11_write 72 = .ok (.iload 4, 2) := by decide +kernel
theorem dX11_write_74 : decode cX11_write 74 = .ok (.iadd, 1) := by decide +kernel
theorem dX11_write_75 : decode cX11_write 75 = .ok (.aload_n 0, 1) := by decide +kernel
theorem dX11_write_76 : decode cX11_write 76 = .ok (.getfield 7, 3) := by decide +kernel
theorem dX11_write_79 : decode cX11_write 79 = .ok (.iload_n 2, 1) := by decide +kernel
theorem dX11_write_80 : decode cX11_write 80 = .ok (.iaload, 1) := by decide +kernel
theorem dX11_write_81 : decode cX11_write 81 = .ok (.aload_n 0, 1) := by decide +kernel
theorem dX11_write_82 : decode cX11_write 82 = .ok (.getfield 52, 3) := by decide +kernel
theorem dX11_write_85 : decode cX11_write 85 = .ok (.iload 4, 2) := by decide +kernel
theorem dX11_write_87 : decode cX11_write 87 = .ok (.iaload, 1) := by decide +kernel
theorem dX11_write_88 : decode cX11_write 88 = .ok (.invokestatic 111, 3) := by decide +kernel
theorem dX11_write_91 : decode cX11_write 91 = .ok (.iastore, 1) := by decide +kernel
theorem dX11_write_92 : decode cX11_write 92 = .ok (.iinc 4 1, 3) := by decide +kernel
theorem dX11_write_95 : decode cX11_write 95 = .ok (.goto (-37), 3) := by decide +kernel
theorem dX11_write_98 : decode cX11_write 98 = .ok (.iload_n 3, 1) := by decide +kernel
theorem dX11_write_99 : decode cX11_write 99 = .ok (.ireturn, 1) := by decide +kernel
set_option maxRecDepth 4000 in
theorem s_X11_write_0 {w : GX} {d : Nat} {P : PN} {g : GI} (x1 : Int) (x2 : Int)
    (h : (((nm (inn (x1) 0 19) = 0 → P (some (aI ((-2)))) g) ∧ (¬ nm (inn (x1) 0 19) = 0 → (((¬ nm (inn (x2) 0 3) = 0 → (0 ≤ nm x2 ∧ nm x2 < 4 ∧ ((¬ nm (g 229 (nm x2).toNat) < 0 → Zm w (d + 4) mX11_reads 0 [some (aR (some (228)))] [] g (fun r g8 => r = none ∧ Zm w (d + 4) mX11_lives 0 [some (aR (some (228))), some (aI (x1)), none] [] g8 (fun r g10 => r = none ∧ ((((∀ v14 : Int, v14 = lss (g10 230 (nm x2).toNat) (g10 228 12 + g10 228 10) → Zm w (d + 5) mX11_write 58 [some (aR (some (228))), none, some (aI (x2)), some (aI (v14)), some (aI (0))] [] g10 P))))))) ∧ (nm (g 229 (nm x2).toNat) < 0 → (∀ g15 : GI, g15 = up2 g 228 4 (1) → P (some (aI ((-10) - (1)))) g15))))) ∧ (nm (inn (x2) 0 3) = 0 → P (some (aI ((-2)))) g))))))) :
    Zm w (d + 5) mX11_write 0 [some (aR (some (228))), some (aI (x1)), some (aI (x2)), none, none] [] g P := by
  refine z_iload_n dX11_write_0 rfl rfl ?_
  refine m_callS (as := [aI (x1)]) dX11_write_1 lk_X11_172 mok_X11_isDay st_X11_isDay rfl (Nat.le_of_ble_eq_true rfl) rfl (Nat.le_of_ble_eq_true rfl) rfl (c_X11_isDay  ?_)
  show Zm w (d + 5) mX11_write 4 [some (aR (some (228))), some (aI (x1)), some (aI (x2)), none, none] [aI (inn (x1) 0 19)] g P
  refine z_if_eq (tgt := 14) dX11_write_4 (by decide) (fun c1 => ?_) (fun c1 => ?_)
  · replace h := h.1 c1
    refine z_bipush dX11_write_14 rfl ?_
    exact m_iret dX11_write_16 rfl h
  · replace h := h.2 c1
    refine z_iload_n dX11_write_7 rfl rfl ?_
    refine m_callS (as := [aI (x2)]) dX11_write_8 lk_X11_97 mok_X11_isSheet st_X11_isSheet rfl (Nat.le_of_ble_eq_true rfl) rfl (Nat.le_of_ble_eq_true rfl) rfl (c_X11_isSheet  ?_)
    show Zm w (d + 5) mX11_write 11 [some (aR (some (228))), some (aI (x1)), some (aI (x2)), none, none] [aI (inn (x2) 0 3)] g P
    refine z_if_ne (tgt := 17) dX11_write_11 (by decide) (fun c2 => ?_) (fun c2 => ?_)
    · replace h := h.1 c2
      refine z_aload_n dX11_write_17 rfl rfl ?_
      refine m_getR dX11_write_18 fl_X11_7 (by decide) kt_228 rv_228_0 ?_
      refine z_iload_n dX11_write_21 rfl rfl ?_
      obtain ⟨q5, q6, h⟩ := h
      refine m_iald dX11_write_22 kv_229 q5 q6 ?_
      refine z_if_ge (tgt := 32) dX11_write_23 (by decide) (fun c7 => ?_) (fun c7 => ?_)
      · replace h := h.1 c7
        refine z_aload_n dX11_write_32 rfl rfl ?_
        refine m_callV (as := []) dX11_write_33 lk_X11_161 mok_X11_reads in_X11_reads sl_X11_reads kt_228 rfl rfl rfl (Nat.le_of_ble_eq_true rfl) rfl (Nat.le_of_ble_eq_true rfl) rfl (m_mono (fun r g8 hr => ?_) h)
        obtain ⟨rfl, h⟩ := hr
        show Zm w (d + 5) mX11_write 36 [some (aR (some (228))), some (aI (x1)), some (aI (x2)), none, none] [] g8 P
        refine z_aload_n dX11_write_36 rfl rfl ?_
        refine z_iload_n dX11_write_37 rfl rfl ?_
        refine m_callV (as := [aI (x1)]) dX11_write_38 lk_X11_232 mok_X11_lives in_X11_lives sl_X11_lives kt_228 rfl rfl rfl (Nat.le_of_ble_eq_true rfl) rfl (Nat.le_of_ble_eq_true rfl) rfl (m_mono (fun r g10 hr => ?_) h)
        obtain ⟨rfl, h⟩ := hr
        show Zm w (d + 5) mX11_write 41 [some (aR (some (228))), some (aI (x1)), some (aI (x2)), none, none] [] g10 P
        refine z_aload_n dX11_write_41 rfl rfl ?_
        refine m_getR dX11_write_42 fl_X11_13 (by decide) kt_228 rv_228_1 ?_
        refine z_iload_n dX11_write_45 rfl rfl ?_
        refine m_iald dX11_write_46 kv_230 q5 q6 ?_
        refine z_aload_n dX11_write_47 rfl rfl ?_
        refine m_callV (as := []) dX11_write_48 lk_X11_241 mok_X11_names in_X11_names sl_X11_names kt_228 rfl rfl rfl (Nat.le_of_ble_eq_true rfl) rfl (Nat.le_of_ble_eq_true rfl) rfl (c_X11_names  ?_)
        show Zm w (d + 5) mX11_write 51 [some (aR (some (228))), some (aI (x1)), some (aI (x2)), none, none] [aI (g10 228 12 + g10 228 10), aI (g10 230 (nm x2).toNat)] g10 P
        refine m_callS (as := [aI (g10 230 (nm x2).toNat), aI (g10 228 12 + g10 228 10)]) dX11_write_51 lk_X11_322 mok_X11_lesser st_X11_lesser rfl (Nat.le_of_ble_eq_true rfl) rfl (Nat.le_of_ble_eq_true rfl) rfl (c_X11_lesser  ?_)
        show Zm w (d + 5) mX11_write 54 [some (aR (some (228))), some (aI (x1)), some (aI (x2)), none, none] [aI (lss (g10 230 (nm x2).toNat) (g10 228 12 + g10 228 10))] g10 P
        replace h := h _ rfl
        refine z_istore_n dX11_write_54 rfl (by decide) rfl ?_
        show Zm w (d + 5) mX11_write 55 [some (aR (some (228))), some (aI (x1)), some (aI (x2)), some (aI (lss (g10 230 (nm x2).toNat) (g10 228 12 + g10 228 10))), none] [] g10 P
        refine z_iconst dX11_write_55 ?_
        refine z_istore dX11_write_56 (by decide) rfl ?_
        show Zm w (d + 5) mX11_write 58 [some (aR (some (228))), some (aI (x1)), some (aI (x2)), some (aI ((lss (g10 230 (nm x2).toNat) (g10 228 12 + g10 228 10)))), some (aI (0))] [] g10 P
        exact z_weak (by simp [lle]) h
      · replace h := h.2 (Decidable.not_not.mp c7)
        refine z_aload_n dX11_write_26 rfl rfl ?_
        refine z_iconst dX11_write_27 ?_
        refine m_callV (as := [aI (1)]) dX11_write_28 lk_X11_103 mok_X11_finds in_X11_finds sl_X11_finds kt_228 rfl rfl rfl (Nat.le_of_ble_eq_true rfl) rfl (Nat.le_of_ble_eq_true rfl) rfl (c_X11_finds  ?_)
        replace h := h _ rfl
        show Zm w (d + 5) mX11_write 31 [some (aR (some (228))), some (aI (x1)), some (aI (x2)), none, none] [aI ((-10) - (1))] (up2 g 228 4 (1)) P
        exact m_iret dX11_write_31 rfl h
    · replace h := h.2 (Decidable.not_not.mp c2)
      refine z_bipush dX11_write_14 rfl ?_
      exact m_iret dX11_write_16 rfl h
set_option maxRecDepth 4000 in
theorem s_X11_write_58 {w : GX} {d : Nat} {P : PN} {g : GI} (x2 : Int) (x3 : Int) (x4 : Int)
    (h : ((¬ nm x4 < nm x3 → P (some (aI (x3))) g) ∧ (nm x4 < nm x3 → (0 ≤ nm x2 ∧ nm x2 < 4 ∧ (0 ≤ nm x4 ∧ nm x4 < 28 ∧ ((0 ≤ nm ((60 * x2) + x4) ∧ nm ((60 * x2) + x4) < 240 ∧ ∀ g10 : GI, g10 = up2 g 231 (nm ((60 * x2) + x4)).toNat (cutI (g 229 (nm x2).toNat) (g 243 (nm x4).toNat)) → Zm w (d + 5) mX11_write 58 [some (aR (some (228))), none, some (aI (x2)), some (aI (x3)), some (aI (x4 + 1))] [] g10 P))))))) :
    Zm w (d + 5) mX11_write 58 [some (aR (some (228))), none, some (aI (x2)), some (aI (x3)), some (aI (x4))] [] g P := by
  refine z_iload dX11_write_58 rfl ?_
  refine z_iload_n dX11_write_60 rfl rfl ?_
  refine z_icmp_ge (tgt := 98) dX11_write_61 (by decide) (fun c1 => ?_) (fun c1 => ?_)
  · replace h := h.1 c1
    refine z_iload_n dX11_write_98 rfl rfl ?_
    exact m_iret dX11_write_99 rfl h
  · replace h := h.2 (Decidable.not_not.mp c1)
    refine z_aload_n dX11_write_64 rfl rfl ?_
    refine m_getR dX11_write_65 fl_X11_16 (by decide) kt_228 rv_228_2 ?_
    refine z_bipush dX11_write_68 rfl ?_
    refine z_iload_n dX11_write_70 rfl rfl ?_
    refine z_imul dX11_write_71 ?_
    refine z_iload dX11_write_72 rfl ?_
    refine z_iadd dX11_write_74 ?_
    refine z_aload_n dX11_write_75 rfl rfl ?_
    refine m_getR dX11_write_76 fl_X11_7 (by decide) kt_228 rv_228_0 ?_
    refine z_iload_n dX11_write_79 rfl rfl ?_
    obtain ⟨q4, q5, h⟩ := h
    refine m_iald dX11_write_80 kv_229 q4 q5 ?_
    refine z_aload_n dX11_write_81 rfl rfl ?_
    refine m_getR dX11_write_82 fl_X11_52 (by decide) kt_228 rv_228_22 ?_
    refine z_iload dX11_write_85 rfl ?_
    obtain ⟨q8, q9, h⟩ := h
    refine m_iald dX11_write_87 kv_243 q8 q9 ?_
    refine m_callS (as := [aI (g 229 (nm x2).toNat), aI (g 243 (nm x4).toNat)]) dX11_write_88 lk_X11_111 mok_X11_cut st_X11_cut rfl (Nat.le_of_ble_eq_true rfl) rfl (Nat.le_of_ble_eq_true rfl) rfl (c_X11_cut  ?_)
    show Zm w (d + 5) mX11_write 91 [some (aR (some (228))), none, some (aI (x2)), some (aI (x3)), some (aI (x4))] [aI (cutI (g 229 (nm x2).toNat) (g 243 (nm x4).toNat)), aI ((60 * x2) + x4), aR (some (231))] g P
    obtain ⟨q11, q12, h⟩ := h
    replace h := h _ rfl
    refine m_iast dX11_write_91 kv_231 q11 q12 ?_
    refine z_iinc dX11_write_92 rfl (by decide) rfl ?_
    show Zm w (d + 5) mX11_write 95 [some (aR (some (228))), none, some (aI (x2)), some (aI (x3)), some (aI (x4 + 1))] [] (up2 g 231 (nm ((60 * x2) + x4)).toNat (cutI (g 229 (nm x2).toNat) (g 243 (nm x4).toNat))) P
    refine z_goto (tgt := 58) dX11_write_95 (by decide) ?_
    exact z_weak (by simp [lle]) h
theorem dX11_count_0 : decode cX11_count 0 = .ok (.aload_n 0, 1) := by decide +kernel
theorem dX11_count_1 : decode cX11_count 1 = .ok (.invokevirtual 161, 3) := by decide +kernel
theorem dX11_count_4 : decode cX11_count 4 = .ok (.iload_n 1, 1) := by decide +kernel
theorem dX11_count_5 : decode cX11_count 5 = .ok (.tableswitch 100 0 8 #[51, 56, 61, 61, 70, 75, 80, 90, 95], 51) := by decide +kernel
theorem dX11_count_56 : decode cX11_count 56 = .ok (.aload_n 0, 1) := by decide +kernel
theorem dX11_count_57 : decode cX11_count 57 = .ok (.getfield 125, 3) := by decide +kernel
theorem dX11_count_60 : decode cX11_count 60 = .ok (.ireturn, 1) := by decide +kernel
theorem dX11_count_61 : decode cX11_count 61 = .ok (.aload_n 0, 1) := by decide +kernel
theorem dX11_count_62 : decode cX11_count 62 = .ok (.getfield 140, 3) := by decide +kernel
theorem dX11_count_65 : decode cX11_count 65 = .ok (.ireturn, 1) := by decide +kernel
theorem dX11_count_66 : decode cX11_count 66 = .ok (.aload_n 0, 1) := by decide +kernel
theorem dX11_count_67 : decode cX11_count 67 = .ok (.getfield 25, 3) := by decide +kernel
theorem dX11_count_70 : decode cX11_count 70 = .ok (.iload_n 1, 1) := by decide +kernel
theorem dX11_count_71 : decode cX11_count 71 = .ok (.iconst 2, 1) := by decide +kernel
theorem dX11_count_72 : decode cX11_count 72 = .ok (.isub, 1) := by decide +kernel
theorem dX11_count_73 : decode cX11_count 73 = .ok (.iaload, 1) := by decide +kernel
theorem dX11_count_74 : decode cX11_count 74 = .ok (.ireturn, 1) := by decide +kernel
theorem dX11_count_75 : decode cX11_count 75 = .ok (.aload_n 0, 1) := by decide +kernel
theorem dX11_count_76 : decode cX11_count 76 = .ok (.invokevirtual 241, 3) := by decide +kernel
theorem dX11_count_79 : decode cX11_count 79 = .ok (.ireturn, 1) := by decide +kernel
theorem dX11_count_80 : decode cX11_count 80 = .ok (.aload_n 0, 1) := by decide +kernel
theorem dX11_count_81 : decode cX11_count 81 = .ok (.getfield 169, 3) := by decide +kernel
theorem dX11_count_84 : decode cX11_count 84 = .ok (.ireturn, 1) := by decide +kernel
theorem dX11_count_85 : decode cX11_count 85 = .ok (.aload_n 0, 1) := by decide +kernel
theorem dX11_count_86 : decode cX11_count 86 = .ok (.getfield 182, 3) := by decide +kernel
theorem dX11_count_89 : decode cX11_count 89 = .ok (.aload_n 0, 1) := by decide +kernel
theorem dX11_count_90 : decode cX11_count 90 = .ok (.getfield 188, 3) := by decide +kernel
theorem dX11_count_93 : decode cX11_count 93 = .ok (.iadd, 1) := by decide +kernel
theorem dX11_count_94 : decode cX11_count 94 = .ok (.ireturn, 1) := by decide +kernel
theorem dX11_count_95 : decode cX11_count 95 = .ok (.aload_n 0, 1) := by decide +kernel
theorem dX11_count_96 : decode cX11_count 96 = .ok (.getfield 277, 3) := by decide +kernel
theorem dX11_count_99 : decode cX11_count 99 = .ok (.ireturn, 1) := by decide +kernel
theorem dX11_count_100 : decode cX11_count 100 = .ok (.aload_n 0, 1) := by decide +kernel
theorem dX11_count_101 : decode cX11_count 101 = .ok (.getfield 92, 3) := by decide +kernel
theorem dX11_count_104 : decode cX11_count 104 = .ok (.ireturn, 1) := by decide +kernel
theorem dX11_count_105 : decode cX11_count 105 = .ok (.bipush (-2), 2) := by decide +kernel
theorem dX11_count_107 : decode cX11_count 107 = .ok (.ireturn, 1) := by decide +kernel
set_option maxRecDepth 4000 in
theorem s_X11_count_0 {w : GX} {d : Nat} {P : PN} {g : GI} (x1 : Int)
    (h : Zm w (d + 4) mX11_reads 0 [some (aR (some (228)))] [] g (fun r g1 => r = none ∧ ((nm x1 = 0 → P (some (aI (g1 228 7))) g1) ∧ (nm x1 = 1 → P (some (aI (g1 228 10))) g1) ∧ (nm x1 = 2 → (0 ≤ nm (x1 - 2) ∧ nm (x1 - 2) < 2 ∧ P (some (aI (g1 234 (nm (x1 - 2)).toNat))) g1)) ∧ (nm x1 = 3 → (0 ≤ nm (x1 - 2) ∧ nm (x1 - 2) < 2 ∧ P (some (aI (g1 234 (nm (x1 - 2)).toNat))) g1)) ∧ (nm x1 = 4 → (P (some (aI (g1 228 12 + g1 228 10))) g1)) ∧ (nm x1 = 5 → P (some (aI (g1 228 14))) g1) ∧ (nm x1 = 6 → P (some (aI ((g1 228 16) + (g1 228 18)))) g1) ∧ (nm x1 = 7 → P (some (aI (g1 228 31))) g1) ∧ (nm x1 = 8 → P (some (aI (g1 228 4))) g1) ∧ (¬ nm x1 = 0 → ¬ nm x1 = 1 → ¬ nm x1 = 2 → ¬ nm x1 = 3 → ¬ nm x1 = 4 → ¬ nm x1 = 5 → ¬ nm x1 = 6 → ¬ nm x1 = 7 → ¬ nm x1 = 8 → P (some (aI ((-2)))) g1)))) :
    Zm w (d + 5) mX11_count 0 [some (aR (some (228))), some (aI (x1))] [] g P := by
  refine z_aload_n dX11_count_0 rfl rfl ?_
  refine m_callV (as := []) dX11_count_1 lk_X11_161 mok_X11_reads in_X11_reads sl_X11_reads kt_228 rfl rfl rfl (Nat.le_of_ble_eq_true rfl) rfl (Nat.le_of_ble_eq_true rfl) rfl (m_mono (fun r g1 hr => ?_) h)
  obtain ⟨rfl, h⟩ := hr
  show Zm w (d + 5) mX11_count 4 [some (aR (some (228))), some (aI (x1))] [] g1 P
  refine z_iload_n dX11_count_4 rfl rfl ?_
  refine z_tsw (df := 105) (cs := [(0, 56), (1, 61), (2, 66), (3, 66), (4, 75), (5, 80), (6, 85), (7, 95), (8, 100)]) dX11_count_5 (by decide) (by decide) (by decide) (by decide) ?_
  by_cases c3 : nm x1 = 0
  · rw [sw_c c3]
    replace h := h.1 c3
    refine z_aload_n dX11_count_56 rfl rfl ?_
    refine z_getI dX11_count_57 fl_X11_125 (by decide) kt_228 ?_
    exact m_iret dX11_count_60 rfl h
  rw [sw_n c3]; replace h := h.2
  by_cases c4 : nm x1 = 1
  · rw [sw_c c4]
    replace h := h.1 c4
    refine z_aload_n dX11_count_61 rfl rfl ?_
    refine z_getI dX11_count_62 fl_X11_140 (by decide) kt_228 ?_
    exact m_iret dX11_count_65 rfl h
  rw [sw_n c4]; replace h := h.2
  by_cases c5 : nm x1 = 2
  · rw [sw_c c5]
    replace h := h.1 c5
    refine z_aload_n dX11_count_66 rfl rfl ?_
    refine m_getR dX11_count_67 fl_X11_25 (by decide) kt_228 rv_228_6 ?_
    refine z_iload_n dX11_count_70 rfl rfl ?_
    refine z_iconst dX11_count_71 ?_
    refine z_isub dX11_count_72 ?_
    obtain ⟨q8, q9, h⟩ := h
    refine m_iald dX11_count_73 kv_234 q8 q9 ?_
    exact m_iret dX11_count_74 rfl h
  rw [sw_n c5]; replace h := h.2
  by_cases c10 : nm x1 = 3
  · rw [sw_c c10]
    replace h := h.1 c10
    refine z_aload_n dX11_count_66 rfl rfl ?_
    refine m_getR dX11_count_67 fl_X11_25 (by decide) kt_228 rv_228_6 ?_
    refine z_iload_n dX11_count_70 rfl rfl ?_
    refine z_iconst dX11_count_71 ?_
    refine z_isub dX11_count_72 ?_
    obtain ⟨q13, q14, h⟩ := h
    refine m_iald dX11_count_73 kv_234 q13 q14 ?_
    exact m_iret dX11_count_74 rfl h
  rw [sw_n c10]; replace h := h.2
  by_cases c15 : nm x1 = 4
  · rw [sw_c c15]
    replace h := h.1 c15
    refine z_aload_n dX11_count_75 rfl rfl ?_
    refine m_callV (as := []) dX11_count_76 lk_X11_241 mok_X11_names in_X11_names sl_X11_names kt_228 rfl rfl rfl (Nat.le_of_ble_eq_true rfl) rfl (Nat.le_of_ble_eq_true rfl) rfl (c_X11_names  ?_)
    show Zm w (d + 5) mX11_count 79 [some (aR (some (228))), some (aI (x1))] [aI (g1 228 12 + g1 228 10)] g1 P
    exact m_iret dX11_count_79 rfl h
  rw [sw_n c15]; replace h := h.2
  by_cases c16 : nm x1 = 5
  · rw [sw_c c16]
    replace h := h.1 c16
    refine z_aload_n dX11_count_80 rfl rfl ?_
    refine z_getI dX11_count_81 fl_X11_169 (by decide) kt_228 ?_
    exact m_iret dX11_count_84 rfl h
  rw [sw_n c16]; replace h := h.2
  by_cases c17 : nm x1 = 6
  · rw [sw_c c17]
    replace h := h.1 c17
    refine z_aload_n dX11_count_85 rfl rfl ?_
    refine z_getI dX11_count_86 fl_X11_182 (by decide) kt_228 ?_
    refine z_aload_n dX11_count_89 rfl rfl ?_
    refine z_getI dX11_count_90 fl_X11_188 (by decide) kt_228 ?_
    refine z_iadd dX11_count_93 ?_
    exact m_iret dX11_count_94 rfl h
  rw [sw_n c17]; replace h := h.2
  by_cases c18 : nm x1 = 7
  · rw [sw_c c18]
    replace h := h.1 c18
    refine z_aload_n dX11_count_95 rfl rfl ?_
    refine z_getI dX11_count_96 fl_X11_277 (by decide) kt_228 ?_
    exact m_iret dX11_count_99 rfl h
  rw [sw_n c18]; replace h := h.2
  by_cases c19 : nm x1 = 8
  · rw [sw_c c19]
    replace h := h.1 c19
    refine z_aload_n dX11_count_100 rfl rfl ?_
    refine z_getI dX11_count_101 fl_X11_92 (by decide) kt_228 ?_
    exact m_iret dX11_count_104 rfl h
  rw [sw_n c19]; replace h := h.2
  replace h := h c3 c4 c5 c10 c15 c16 c17 c18 c19
  rw [sw_e]
  refine z_bipush dX11_count_105 rfl ?_
  exact m_iret dX11_count_107 rfl h
theorem dX11_tellsPerson_0 : decode cX11_tellsPerson 0 = .ok (.lload_n 1, 1) := by decide +kernel
theorem dX11_tellsPerson_1 : decode cX11_tellsPerson 1 = .ok (.lstore 4, 2) := by decide +kernel
theorem dX11_tellsPerson_3 : decode cX11_tellsPerson 3 = .ok (.iconst 0, 1) := by decide +kernel
theorem dX11_tellsPerson_4 : decode cX11_tellsPerson 4 = .ok (.istore 6, 2) := by decide +kernel
theorem dX11_tellsPerson_6 : decode cX11_tellsPerson 6 = .ok (.iload 6, 2) := by decide +kernel
theorem dX11_tellsPerson_8 : decode cX11_tellsPerson 8 = .ok (.iconst 4, 1) := by decide +kernel
theorem dX11_tellsPerson_9 : decode cX11_tellsPerson 9 = .ok (.if_icmp .ge 30, 3) := by decide +kernel
theorem dX11_tellsPerson_12 : decode cX11_tellsPerson 12 = .ok (.ldc2_w 325, 3) := by decide +kernel
theorem dX11_tellsPerson_15 : decode cX11_tellsPerson 15 = .ok (.lload 4, 2) := by decide +kernel
theorem dX11_tellsPerson_17 : decode cX11_tellsPerson 17 = .ok (.lmul, 1) := by decide +kernel
theorem dX11_tellsPerson_18 : decode cX11_tellsPerson 18 = .ok (.aload_n 0, 1) := by decide +kernel
theorem dX11_tellsPerson_19 : decode cX11_tellsPerson 19 = .ok (.getfield 34, 3) := by decide +kernel
theorem dX11_tellsPerson_22 : decode cX11_tellsPerson 22 = .ok (.iconst 4, 1) := by decide +kernel
theorem dX11_tellsPerson_23 : decode cX11_tellsPerson 23 = .ok (.iload_n 3, 1) := by decide +kernel
theorem dX11_tellsPerson_24 : decode cX11_tellsPerson 24 = .ok (.imul, 1) := by decide +kernel
theorem dX11_tellsPerson_25 : decode cX11_tellsPerson 25 = .ok (.iload 6, 2) := by decide +kernel
theorem dX11_tellsPerson_27 : decode cX11_tellsPerson 27 = .ok (.iadd, 1) := by decide +kernel
theorem dX11_tellsPerson_28 : decode cX11_tellsPerson 28 = .ok (.iaload, 1) := by decide +kernel
theorem dX11_tellsPerson_29 : decode cX11_tellsPerson 29 = .ok (.i2l, 1) := by decide +kernel
theorem dX11_tellsPerson_30 : decode cX11_tellsPerson 30 = .ok (.ladd, 1) := by decide +kernel
theorem dX11_tellsPerson_31 : decode cX11_tellsPerson 31 = .ok (.lstore 4, 2) := by decide +kernel
theorem dX11_tellsPerson_33 : decode cX11_tellsPerson 33 = .ok (.iinc 6 1, 3) := by decide +kernel
theorem dX11_tellsPerson_36 : decode cX11_tellsPerson 36 = .ok (.goto (-30), 3) := by decide +kernel
theorem dX11_tellsPerson_39 : decode cX11_tellsPerson 39 = .ok (.iconst 0, 1) := by decide +kernel
theorem dX11_tellsPerson_40 : decode cX11_tellsPerson 40 = .ok (.istore 6, 2) := by decide +kernel
theorem dX11_tellsPerson_42 : decode cX11_tellsPerson 42 = .ok (.iload 6, 2) := by decide +kernel
theorem dX11_tellsPerson_44 : decode cX11_tellsPerson 44 = .ok (.bipush 8, 2) := by decide +kernel
theorem dX11_tellsPerson_46 : decode cX11_tellsPerson 46 = .ok (.if_icmp .ge 40, 3) := by decide +kernel
theorem dX11_tellsPerson_49 : decode cX11_tellsPerson 49 = .ok (.ldc2_w 325, 3) := by decide +kernel
theorem dX11_tellsPerson_52 : decode cX11_tellsPerson 52 = .ok (.lload 4, 2) := by decide +kernel
theorem dX11_tellsPerson_54 : decode cX11_tellsPerson 54 = .ok (.lmul, 1) := by decide +kernel
theorem dX11_tellsPerson_55 : decode cX11_tellsPerson 55 = .ok (.aload_n 0, 1) := by decide +kernel
theorem dX11_tellsPerson_56 : decode cX11_tellsPerson 56 = .ok (.iload 6, 2) := by decide +kernel
theorem dX11_tellsPerson_58 : decode cX11_tellsPerson 58 = .ok (.iconst 4, 1) := by decide +kernel
theorem dX11_tellsPerson_59 : decode cX11_tellsPerson 59 = .ok (.if_icmp .ge 7, 3) := by decide +kernel
theorem dX11_tellsPerson_62 : decode cX11_tellsPerson 62 = .ok (.iconst 3, 1) := by decide +kernel
theorem dX11_tellsPerson_63 : decode cX11_tellsPerson 63 = .ok (.goto 5, 3) := by decide +kernel
theorem dX11_tellsPerson_66 : decode cX11_tellsPerson 66 = .ok (.bipush 19, 2) := by decide +kernel
theorem dX11_tellsPerson_68 : decode cX11_tellsPerson 68 = .ok (.iload_n 3, 1) := by decide +kernel
theorem dX11_tellsPerson_69 : decode cX11_tellsPerson 69 = .ok (.iload 6, 2) := by decide +kernel
theorem dX11_tellsPerson_71 : decode cX11_tellsPerson 71 = .ok (.iconst 4, 1) := by decide +kernel
theorem dX11_tellsPerson_72 : decode cX11_tellsPerson 72 = .ok (.irem, 1) := by decide +kernel
theorem dX11_tellsPerson_73 : decode cX11_tellsPerson 73 = .ok (.invokevirtual 238, 3) := by decide +kernel
theorem dX11_tellsPerson_76 : decode cX11_tellsPerson 76 = .ok (.i2l, 1) := by decide +kernel
theorem dX11_tellsPerson_77 : decode cX11_tellsPerson 77 = .ok (.ladd, 1) := by decide +kernel
theorem dX11_tellsPerson_78 : decode cX11_tellsPerson 78 = .ok (.lstore 4, 2) := by decide +kernel
theorem dX11_tellsPerson_80 : decode cX11_tellsPerson 80 = .ok (.iinc 6 1, 3) := by decide +kernel
theorem dX11_tellsPerson_83 : decode cX11_tellsPerson 83 = .ok (.goto (-41), 3) := by decide +kernel
theorem dX11_tellsPerson_86 : decode cX11_tellsPerson 86 = .ok (.lload 4, 2) := by decide +kernel
theorem dX11_tellsPerson_88 : decode cX11_tellsPerson 88 = .ok (.lreturn, 1) := by decide +kernel
set_option maxRecDepth 4000 in
theorem s_X11_tellsPerson_0 {w : GX} {d : Nat} {P : PN} {g : GI} (x1 : Int) (x3 : Int)
    (h : Zm w (d + 5) mX11_tellsPerson 6 [some (aR (some (228))), none, none, some (aI (x3)), some (aL (x1)), none, some (aI (0))] [] g P) :
    Zm w (d + 5) mX11_tellsPerson 0 [some (aR (some (228))), some (aL (x1)), none, some (aI (x3)), none, none, none] [] g P := by
  refine z_lload_n dX11_tellsPerson_0 rfl rfl ?_
  refine z_lstore dX11_tellsPerson_1 (by decide) rfl ?_
  show Zm w (d + 5) mX11_tellsPerson 3 [some (aR (some (228))), some (aL (x1)), none, some (aI (x3)), some (aL (x1)), none, none] [] g P
  refine z_iconst dX11_tellsPerson_3 ?_
  refine z_istore dX11_tellsPerson_4 (by decide) rfl ?_
  show Zm w (d + 5) mX11_tellsPerson 6 [some (aR (some (228))), some (aL (x1)), none, some (aI (x3)), some (aL (x1)), none, some (aI (0))] [] g P
  exact z_weak (by simp [lle]) h
set_option maxRecDepth 4000 in
theorem s_X11_tellsPerson_6 {w : GX} {d : Nat} {P : PN} {g : GI} (x3 : Int) (x4 : Int) (x6 : Int)
    (h : ((¬ nm x6 < nm 4 → Zm w (d + 5) mX11_tellsPerson 42 [some (aR (some (228))), none, none, some (aI (x3)), some (aL (x4)), none, some (aI (0))] [] g P) ∧ (nm x6 < nm 4 → (0 ≤ nm ((4 * x3) + x6) ∧ nm ((4 * x3) + x6) < 32 ∧ (∀ v6 : Int, v6 = (31 * x4) + (nm (g 237 (nm ((4 * x3) + x6)).toNat)) → Zm w (d + 5) mX11_tellsPerson 6 [some (aR (some (228))), none, none, some (aI (x3)), some (aL (v6)), none, some (aI (x6 + 1))] [] g P))))) :
    Zm w (d + 5) mX11_tellsPerson 6 [some (aR (some (228))), none, none, some (aI (x3)), some (aL (x4)), none, some (aI (x6))] [] g P := by
  refine z_iload dX11_tellsPerson_6 rfl ?_
  refine z_iconst dX11_tellsPerson_8 ?_
  refine z_icmp_ge (tgt := 39) dX11_tellsPerson_9 (by decide) (fun c1 => ?_) (fun c1 => ?_)
  · replace h := h.1 c1
    refine z_iconst dX11_tellsPerson_39 ?_
    refine z_istore dX11_tellsPerson_40 (by decide) rfl ?_
    show Zm w (d + 5) mX11_tellsPerson 42 [some (aR (some (228))), none, none, some (aI (x3)), some (aL (x4)), none, some (aI (0))] [] g P
    exact z_weak (by simp [lle]) h
  · replace h := h.2 (Decidable.not_not.mp c1)
    refine z_ldc2 dX11_tellsPerson_12 kl_X11_325 ?_
    refine z_lload dX11_tellsPerson_15 rfl ?_
    refine z_lmul dX11_tellsPerson_17 ?_
    refine z_aload_n dX11_tellsPerson_18 rfl rfl ?_
    refine m_getR dX11_tellsPerson_19 fl_X11_34 (by decide) kt_228 rv_228_11 ?_
    refine z_iconst dX11_tellsPerson_22 ?_
    refine z_iload_n dX11_tellsPerson_23 rfl rfl ?_
    refine z_imul dX11_tellsPerson_24 ?_
    refine z_iload dX11_tellsPerson_25 rfl ?_
    refine z_iadd dX11_tellsPerson_27 ?_
    obtain ⟨q4, q5, h⟩ := h
    refine m_iald dX11_tellsPerson_28 kv_237 q4 q5 ?_
    refine z_i2l dX11_tellsPerson_29 ?_
    refine z_ladd dX11_tellsPerson_30 ?_
    replace h := h _ rfl
    refine z_lstore dX11_tellsPerson_31 (by decide) rfl ?_
    show Zm w (d + 5) mX11_tellsPerson 33 [some (aR (some (228))), none, none, some (aI (x3)), some (aL ((31 * x4) + (nm (g 237 (nm ((4 * x3) + x6)).toNat)))), none, some (aI (x6))] [] g P
    refine z_iinc dX11_tellsPerson_33 rfl (by decide) rfl ?_
    show Zm w (d + 5) mX11_tellsPerson 36 [some (aR (some (228))), none, none, some (aI (x3)), some (aL (((31 * x4) + (nm (g 237 (nm ((4 * x3) + x6)).toNat))))), none, some (aI (x6 + 1))] [] g P
    refine z_goto (tgt := 6) dX11_tellsPerson_36 (by decide) ?_
    exact z_weak (by simp [lle]) h
set_option maxRecDepth 4000 in
theorem s_X11_tellsPerson_42 {w : GX} {d : Nat} {P : PN} {g : GI} (x3 : Int) (x4 : Int) (x6 : Int)
    (h : ((¬ nm x6 < nm 8 → P (some (aL (x4))) g) ∧ (nm x6 < nm 8 → ((¬ nm x6 < nm 4 → Zm w (d + 5) mX11_tellsPerson 68 [some (aR (some (228))), none, none, some (aI (x3)), none, none, some (aI (x6))] [aI (19), aR (some (228)), aL (31 * x4)] g P) ∧ (nm x6 < nm 4 → Zm w (d + 5) mX11_tellsPerson 68 [some (aR (some (228))), none, none, some (aI (x3)), none, none, some (aI (x6))] [aI (3), aR (some (228)), aL (31 * x4)] g P))))) :
    Zm w (d + 5) mX11_tellsPerson 42 [some (aR (some (228))), none, none, some (aI (x3)), some (aL (x4)), none, some (aI (x6))] [] g P := by
  refine z_iload dX11_tellsPerson_42 rfl ?_
  refine z_bipush dX11_tellsPerson_44 rfl ?_
  refine z_icmp_ge (tgt := 86) dX11_tellsPerson_46 (by decide) (fun c1 => ?_) (fun c1 => ?_)
  · replace h := h.1 c1
    refine z_lload dX11_tellsPerson_86 rfl ?_
    exact m_lret dX11_tellsPerson_88 rfl h
  · replace h := h.2 (Decidable.not_not.mp c1)
    refine z_ldc2 dX11_tellsPerson_49 kl_X11_325 ?_
    refine z_lload dX11_tellsPerson_52 rfl ?_
    refine z_lmul dX11_tellsPerson_54 ?_
    refine z_aload_n dX11_tellsPerson_55 rfl rfl ?_
    refine z_iload dX11_tellsPerson_56 rfl ?_
    refine z_iconst dX11_tellsPerson_58 ?_
    refine z_icmp_ge (tgt := 66) dX11_tellsPerson_59 (by decide) (fun c2 => ?_) (fun c2 => ?_)
    · replace h := h.1 c2
      refine z_bipush dX11_tellsPerson_66 rfl ?_
      exact z_weak (by simp [lle]) h
    · replace h := h.2 (Decidable.not_not.mp c2)
      refine z_iconst dX11_tellsPerson_62 ?_
      refine z_goto (tgt := 68) dX11_tellsPerson_63 (by decide) ?_
      exact z_weak (by simp [lle]) h
set_option maxRecDepth 4000 in
theorem s_X11_tellsPerson_68 {w : GX} {d : Nat} {P : PN} {g : GI} (x3 : Int) (x6 : Int) (y0 : Int) (y2 : Int)
    (h : Zm w (d + 4) mX11_calledOf 0 [some (aR (some (228))), some (aI (y2)), some (aI (x3)), some (aI (iRem x6 4))] [] g (fun r g1 => ∃ z2 : Int, r = some (aI z2) ∧ (∀ v3 : Int, v3 = y0 + (nm z2) → Zm w (d + 5) mX11_tellsPerson 42 [some (aR (some (228))), none, none, some (aI (x3)), some (aL (v3)), none, some (aI (x6 + 1))] [] g1 P))) :
    Zm w (d + 5) mX11_tellsPerson 68 [some (aR (some (228))), none, none, some (aI (x3)), none, none, some (aI (x6))] [aI (y2), aR (some (228)), aL (y0)] g P := by
  refine z_iload_n dX11_tellsPerson_68 rfl rfl ?_
  refine z_iload dX11_tellsPerson_69 rfl ?_
  refine z_iconst dX11_tellsPerson_71 ?_
  refine z_irem dX11_tellsPerson_72 (by decide) ?_
  refine m_callV (as := [aI (y2), aI (x3), aI (iRem x6 4)]) dX11_tellsPerson_73 lk_X11_238 mok_X11_calledOf in_X11_calledOf sl_X11_calledOf kt_228 rfl rfl rfl (Nat.le_of_ble_eq_true rfl) rfl (Nat.le_of_ble_eq_true rfl) rfl (m_mono (fun r g1 hr => ?_) h)
  obtain ⟨z2, rfl, h⟩ := hr
  show Zm w (d + 5) mX11_tellsPerson 76 [some (aR (some (228))), none, none, some (aI (x3)), none, none, some (aI (x6))] [aI (z2), aL (y0)] g1 P
  refine z_i2l dX11_tellsPerson_76 ?_
  refine z_ladd dX11_tellsPerson_77 ?_
  replace h := h _ rfl
  refine z_lstore dX11_tellsPerson_78 (by decide) rfl ?_
  show Zm w (d + 5) mX11_tellsPerson 80 [some (aR (some (228))), none, none, some (aI (x3)), some (aL (y0 + (nm z2))), none, some (aI (x6))] [] g1 P
  refine z_iinc dX11_tellsPerson_80 rfl (by decide) rfl ?_
  show Zm w (d + 5) mX11_tellsPerson 83 [some (aR (some (228))), none, none, some (aI (x3)), some (aL ((y0 + (nm z2)))), none, some (aI (x6 + 1))] [] g1 P
  refine z_goto (tgt := 42) dX11_tellsPerson_83 (by decide) ?_
  exact z_weak (by simp [lle]) h
theorem dX11_tellsMore_0 : decode cX11_tellsMore 0 = .ok (.ldc2_w 325, 3) := by decide +kernel
theorem dX11_tellsMore_3 : decode cX11_tellsMore 3 = .ok (.lload_n 1, 1) := by decide +kernel
theorem dX11_tellsMore_4 : decode cX11_tellsMore 4 = .ok (.lmul, 1) := by decide +kernel
theorem dX11_tellsMore_5 : decode cX11_tellsMore 5 = .ok (.aload_n 0, 1) := by decide +kernel
theorem dX11_tellsMore_6 : decode cX11_tellsMore 6 = .ok (.iload_n 3, 1) := by decide +kernel
theorem dX11_tellsMore_7 : decode cX11_tellsMore 7 = .ok (.iconst 2, 1) := by decide +kernel
theorem dX11_tellsMore_8 : decode cX11_tellsMore 8 = .ok (.bipush 9, 2) := by decide +kernel
theorem dX11_tellsMore_10 : decode cX11_tellsMore 10 = .ok (.iconst (-1), 1) := by decide +kernel
theorem dX11_tellsMore_11 : decode cX11_tellsMore 11 = .ok (.invokevirtual 267, 3) := by decide +kernel
theorem dX11_tellsMore_14 : decode cX11_tellsMore 14 = .ok (.i2l, 1) := by decide +kernel
theorem dX11_tellsMore_15 : decode cX11_tellsMore 15 = .ok (.ladd, 1) := by decide +kernel
theorem dX11_tellsMore_16 : decode cX11_tellsMore 16 = .ok (.lstore 4, 2) := by decide +kernel
theorem dX11_tellsMore_18 : decode cX11_tellsMore 18 = .ok (.ldc2_w 325, 3) := by decide +kernel
theorem dX11_tellsMore_21 : decode cX11_tellsMore 21 = .ok (.lload 4, 2) := by decide +kernel
theorem dX11_tellsMore_23 : decode cX11_tellsMore 23 = .ok (.lmul, 1) := by decide +kernel
theorem dX11_tellsMore_24 : decode cX11_tellsMore 24 = .ok (.aload_n 0, 1) := by decide +kernel
theorem dX11_tellsMore_25 : decode cX11_tellsMore 25 = .ok (.iload_n 3, 1) := by decide +kernel
theorem dX11_tellsMore_26 : decode cX11_tellsMore 26 = .ok (.iconst 2, 1) := by decide +kernel
theorem dX11_tellsMore_27 : decode cX11_tellsMore 27 = .ok (.bipush 9, 2) := by decide +kernel
theorem dX11_tellsMore_29 : decode cX11_tellsMore 29 = .ok (.iconst 0, 1) := by decide +kernel
theorem dX11_tellsMore_30 : decode cX11_tellsMore 30 = .ok (.invokevirtual 267, 3) := by decide +kernel
theorem dX11_tellsMore_33 : decode cX11_tellsMore 33 = .ok (.i2l, 1) := by decide +kernel
theorem dX11_tellsMore_34 : decode cX11_tellsMore 34 = .ok (.ladd, 1) := by decide +kernel
theorem dX11_tellsMore_35 : decode cX11_tellsMore 35 = .ok (.lstore 4, 2) := by decide +kernel
theorem dX11_tellsMore_37 : decode cX11_tellsMore 37 = .ok (.ldc2_w 325, 3) := by decide +kernel
theorem dX11_tellsMore_40 : decode cX11_tellsMore 40 = .ok (.lload 4, 2) := by decide +kernel
theorem dX11_tellsMore_42 : decode cX11_tellsMore 42 = .ok (.lmul, 1) := by decide +kernel
theorem dX11_tellsMore_43 : decode cX11_tellsMore 43 = .ok (.aload_n 0, 1) := by decide +kernel
theorem dX11_tellsMore_44 : decode cX11_tellsMore 44 = .ok (.iload_n 3, 1) := by decide +kernel
theorem dX11_tellsMore_45 : decode cX11_tellsMore 45 = .ok (.invokevirtual 287, 3) := by decide +kernel
theorem dX11_tellsMore_48 : decode cX11_tellsMore 48 = .ok (.i2l, 1) := by decide +kernel
theorem dX11_tellsMore_49 : decode cX11_tellsMore 49 = .ok (.ladd, 1) := by decide +kernel
theorem dX11_tellsMore_50 : decode cX11_tellsMore 50 = .ok (.lstore 4, 2) := by decide +kernel
theorem dX11_tellsMore_52 : decode cX11_tellsMore 52 = .ok (.ldc2_w 325, 3) := by decide +kernel
theorem dX11_tellsMore_55 : decode cX11_tellsMore 55 = .ok (.lload 4, 2) := by decide +kernel
theorem dX11_tellsMore_57 : decode cX11_tellsMore 57 = .ok (.lmul, 1) := by decide +kernel
theorem dX11_tellsMore_58 : decode cX11_tellsMore 58 = .ok (.aload_n 0, 1) := by decide +kernel
theorem dX11_tellsMore_59 : decode cX11_tellsMore 59 = .ok (.iconst 5, 1) := by decide +kernel
theorem dX11_tellsMore_60 : decode cX11_tellsMore 60 = .ok (.bipush 6, 2) := by decide +kernel
theorem dX11_tellsMore_62 : decode cX11_tellsMore 62 = .ok (.iload_n 3, 1) := by decide +kernel
theorem dX11_tellsMore_63 : decode cX11_tellsMore 63 = .ok (.iconst 2, 1) := by decide +kernel
theorem dX11_tellsMore_64 : decode cX11_tellsMore 64 = .ok (.iconst 0, 1) := by decide +kernel
theorem dX11_tellsMore_65 : decode cX11_tellsMore 65 = .ok (.invokevirtual 301, 3) := by decide +kernel
theorem dX11_tellsMore_68 : decode cX11_tellsMore 68 = .ok (.ladd, 1) := by decide +kernel
theorem dX11_tellsMore_69 : decode cX11_tellsMore 69 = .ok (.lstore 4, 2) := by decide +kernel
theorem dX11_tellsMore_71 : decode cX11_tellsMore 71 = .ok (.ldc2_w 325, 3) := by decide +kernel
theorem dX11_tellsMore_74 : decode cX11_tellsMore 74 = .ok (.lload 4, 2) := by decide +kernel
theorem dX11_tellsMore_76 : decode cX11_tellsMore 76 = .ok (.lmul, 1) := by decide +kernel
theorem dX11_tellsMore_77 : decode cX11_tellsMore 77 = .ok (.aload_n 0, 1) := by decide +kernel
theorem dX11_tellsMore_78 : decode cX11_tellsMore 78 = .ok (.iconst 5, 1) := by decide +kernel
theorem dX11_tellsMore_79 : decode cX11_tellsMore 79 = .ok (.bipush 6, 2) := by decide +kernel
theorem dX11_tellsMore_81 : decode cX11_tellsMore 81 = .ok (.iload_n 3, 1) := by decide +kernel
theorem dX11_tellsMore_82 : decode cX11_tellsMore 82 = .ok (.iconst 2, 1) := by decide +kernel
theorem dX11_tellsMore_83 : decode cX11_tellsMore 83 = .ok (.iconst 1, 1) := by decide +kernel
theorem dX11_tellsMore_84 : decode cX11_tellsMore 84 = .ok (.invokevirtual 301, 3) := by decide +kernel
theorem dX11_tellsMore_87 : decode cX11_tellsMore 87 = .ok (.ladd, 1) := by decide +kernel
theorem dX11_tellsMore_88 : decode cX11_tellsMore 88 = .ok (.lstore 4, 2) := by decide +kernel
theorem dX11_tellsMore_90 : decode cX11_tellsMore 90 = .ok (.ldc2_w 325, 3) := by decide +kernel
theorem dX11_tellsMore_93 : decode cX11_tellsMore 93 = .ok (.lload 4, 2) := by decide +kernel
theorem dX11_tellsMore_95 : decode cX11_tellsMore 95 = .ok (.lmul, 1) := by decide +kernel
theorem dX11_tellsMore_96 : decode cX11_tellsMore 96 = .ok (.aload_n 0, 1) := by decide +kernel
theorem dX11_tellsMore_97 : decode cX11_tellsMore 97 = .ok (.bipush 7, 2) := by decide +kernel
theorem dX11_tellsMore_99 : decode cX11_tellsMore 99 = .ok (.bipush 19, 2) := by decide +kernel
theorem dX11_tellsMore_101 : decode cX11_tellsMore 101 = .ok (.iload_n 3, 1) := by decide +kernel
theorem dX11_tellsMore_102 : decode cX11_tellsMore 102 = .ok (.invokevirtual 319, 3) := by decide +kernel
theorem dX11_tellsMore_105 : decode cX11_tellsMore 105 = .ok (.i2l, 1) := by decide +kernel
theorem dX11_tellsMore_106 : decode cX11_tellsMore 106 = .ok (.ladd, 1) := by decide +kernel
theorem dX11_tellsMore_107 : decode cX11_tellsMore 107 = .ok (.lreturn, 1) := by decide +kernel
set_option maxRecDepth 4000 in
theorem s_X11_tellsMore_0 {w : GX} {d : Nat} {P : PN} {g : GI} (x1 : Int) (x3 : Int)
    (h : Zm w (d + 6) mX11_returnsOf 0 [some (aR (some (228))), some (aI (x3)), some (aI (2)), some (aI (9)), some (aI ((-1))), none, none, none, none] [] g (fun r g1 => ∃ z2 : Int, r = some (aI z2) ∧ (∀ v3 : Int, v3 = (31 * x1) + (nm z2) → Zm w (d + 6) mX11_returnsOf 0 [some (aR (some (228))), some (aI (x3)), some (aI (2)), some (aI (9)), some (aI (0)), none, none, none, none] [] g1 (fun r g4 => ∃ z5 : Int, r = some (aI z5) ∧ (∀ v6 : Int, v6 = (31 * v3) + (nm z5) → Zm w (d + 6) mX11_luckyOf 0 [some (aR (some (228))), some (aI (x3)), none, none] [] g4 (fun r g7 => ∃ z8 : Int, r = some (aI z8) ∧ (∀ v9 : Int, v9 = (31 * v6) + (nm z8) → Zm w (d + 6) mX11_floodedOf 0 [some (aR (some (228))), some (aI (5)), some (aI (6)), some (aI (x3)), some (aI (2)), some (aI (0)), none, none, none, none, none, none] [] g7 (fun r g10 => ∃ z11 : Int, r = some (aL z11) ∧ (∀ v12 : Int, v12 = (31 * v9) + z11 → Zm w (d + 6) mX11_floodedOf 0 [some (aR (some (228))), some (aI (5)), some (aI (6)), some (aI (x3)), some (aI (2)), some (aI (1)), none, none, none, none, none, none] [] g10 (fun r g13 => ∃ z14 : Int, r = some (aL z14) ∧ (∀ v15 : Int, v15 = (31 * v12) + z14 → Zm w (d + 6) mX11_crowdOf 0 [some (aR (some (228))), some (aI (7)), some (aI (19)), some (aI (x3)), none, none, none] [] g13 (fun r g16 => ∃ z17 : Int, r = some (aI z17) ∧ P (some (aL ((31 * v15) + (nm z17)))) g16)))))))))))) :
    Zm w (d + 7) mX11_tellsMore 0 [some (aR (some (228))), some (aL (x1)), none, some (aI (x3)), none, none] [] g P := by
  refine z_ldc2 dX11_tellsMore_0 kl_X11_325 ?_
  refine z_lload_n dX11_tellsMore_3 rfl rfl ?_
  refine z_lmul dX11_tellsMore_4 ?_
  refine z_aload_n dX11_tellsMore_5 rfl rfl ?_
  refine z_iload_n dX11_tellsMore_6 rfl rfl ?_
  refine z_iconst dX11_tellsMore_7 ?_
  refine z_bipush dX11_tellsMore_8 rfl ?_
  refine z_iconst dX11_tellsMore_10 ?_
  refine m_callV (as := [aI (x3), aI (2), aI (9), aI ((-1))]) dX11_tellsMore_11 lk_X11_267 mok_X11_returnsOf in_X11_returnsOf sl_X11_returnsOf kt_228 rfl rfl rfl (Nat.le_of_ble_eq_true rfl) rfl (Nat.le_of_ble_eq_true rfl) rfl (m_mono (fun r g1 hr => ?_) h)
  obtain ⟨z2, rfl, h⟩ := hr
  show Zm w (d + 7) mX11_tellsMore 14 [some (aR (some (228))), some (aL (x1)), none, some (aI (x3)), none, none] [aI (z2), aL (31 * x1)] g1 P
  refine z_i2l dX11_tellsMore_14 ?_
  refine z_ladd dX11_tellsMore_15 ?_
  replace h := h _ rfl
  refine z_lstore dX11_tellsMore_16 (by decide) rfl ?_
  show Zm w (d + 7) mX11_tellsMore 18 [some (aR (some (228))), some (aL (x1)), none, some (aI (x3)), some (aL ((31 * x1) + (nm z2))), none] [] g1 P
  refine z_ldc2 dX11_tellsMore_18 kl_X11_325 ?_
  refine z_lload dX11_tellsMore_21 rfl ?_
  refine z_lmul dX11_tellsMore_23 ?_
  refine z_aload_n dX11_tellsMore_24 rfl rfl ?_
  refine z_iload_n dX11_tellsMore_25 rfl rfl ?_
  refine z_iconst dX11_tellsMore_26 ?_
  refine z_bipush dX11_tellsMore_27 rfl ?_
  refine z_iconst dX11_tellsMore_29 ?_
  refine m_callV (as := [aI (x3), aI (2), aI (9), aI (0)]) dX11_tellsMore_30 lk_X11_267 mok_X11_returnsOf in_X11_returnsOf sl_X11_returnsOf kt_228 rfl rfl rfl (Nat.le_of_ble_eq_true rfl) rfl (Nat.le_of_ble_eq_true rfl) rfl (m_mono (fun r g4 hr => ?_) h)
  obtain ⟨z5, rfl, h⟩ := hr
  show Zm w (d + 7) mX11_tellsMore 33 [some (aR (some (228))), some (aL (x1)), none, some (aI (x3)), some (aL (((31 * x1) + (nm z2)))), none] [aI (z5), aL (31 * ((31 * x1) + (nm z2)))] g4 P
  refine z_i2l dX11_tellsMore_33 ?_
  refine z_ladd dX11_tellsMore_34 ?_
  replace h := h _ rfl
  refine z_lstore dX11_tellsMore_35 (by decide) rfl ?_
  show Zm w (d + 7) mX11_tellsMore 37 [some (aR (some (228))), some (aL (x1)), none, some (aI (x3)), some (aL ((31 * ((31 * x1) + (nm z2))) + (nm z5))), none] [] g4 P
  refine z_ldc2 dX11_tellsMore_37 kl_X11_325 ?_
  refine z_lload dX11_tellsMore_40 rfl ?_
  refine z_lmul dX11_tellsMore_42 ?_
  refine z_aload_n dX11_tellsMore_43 rfl rfl ?_
  refine z_iload_n dX11_tellsMore_44 rfl rfl ?_
  refine m_callV (as := [aI (x3)]) dX11_tellsMore_45 lk_X11_287 mok_X11_luckyOf in_X11_luckyOf sl_X11_luckyOf kt_228 rfl rfl rfl (Nat.le_of_ble_eq_true rfl) rfl (Nat.le_of_ble_eq_true rfl) rfl (m_mono (fun r g7 hr => ?_) h)
  obtain ⟨z8, rfl, h⟩ := hr
  show Zm w (d + 7) mX11_tellsMore 48 [some (aR (some (228))), some (aL (x1)), none, some (aI (x3)), some (aL (((31 * ((31 * x1) + (nm z2))) + (nm z5)))), none] [aI (z8), aL (31 * ((31 * ((31 * x1) + (nm z2))) + (nm z5)))] g7 P
  refine z_i2l dX11_tellsMore_48 ?_
  refine z_ladd dX11_tellsMore_49 ?_
  replace h := h _ rfl
  refine z_lstore dX11_tellsMore_50 (by decide) rfl ?_
  show Zm w (d + 7) mX11_tellsMore 52 [some (aR (some (228))), some (aL (x1)), none, some (aI (x3)), some (aL ((31 * ((31 * ((31 * x1) + (nm z2))) + (nm z5))) + (nm z8))), none] [] g7 P
  refine z_ldc2 dX11_tellsMore_52 kl_X11_325 ?_
  refine z_lload dX11_tellsMore_55 rfl ?_
  refine z_lmul dX11_tellsMore_57 ?_
  refine z_aload_n dX11_tellsMore_58 rfl rfl ?_
  refine z_iconst dX11_tellsMore_59 ?_
  refine z_bipush dX11_tellsMore_60 rfl ?_
  refine z_iload_n dX11_tellsMore_62 rfl rfl ?_
  refine z_iconst dX11_tellsMore_63 ?_
  refine z_iconst dX11_tellsMore_64 ?_
  refine m_callV (as := [aI (5), aI (6), aI (x3), aI (2), aI (0)]) dX11_tellsMore_65 lk_X11_301 mok_X11_floodedOf in_X11_floodedOf sl_X11_floodedOf kt_228 rfl rfl rfl (Nat.le_of_ble_eq_true rfl) rfl (Nat.le_of_ble_eq_true rfl) rfl (m_mono (fun r g10 hr => ?_) h)
  obtain ⟨z11, rfl, h⟩ := hr
  show Zm w (d + 7) mX11_tellsMore 68 [some (aR (some (228))), some (aL (x1)), none, some (aI (x3)), some (aL (((31 * ((31 * ((31 * x1) + (nm z2))) + (nm z5))) + (nm z8)))), none] [aL (z11), aL (31 * ((31 * ((31 * ((31 * x1) + (nm z2))) + (nm z5))) + (nm z8)))] g10 P
  refine z_ladd dX11_tellsMore_68 ?_
  replace h := h _ rfl
  refine z_lstore dX11_tellsMore_69 (by decide) rfl ?_
  show Zm w (d + 7) mX11_tellsMore 71 [some (aR (some (228))), some (aL (x1)), none, some (aI (x3)), some (aL ((31 * ((31 * ((31 * ((31 * x1) + (nm z2))) + (nm z5))) + (nm z8))) + z11)), none] [] g10 P
  refine z_ldc2 dX11_tellsMore_71 kl_X11_325 ?_
  refine z_lload dX11_tellsMore_74 rfl ?_
  refine z_lmul dX11_tellsMore_76 ?_
  refine z_aload_n dX11_tellsMore_77 rfl rfl ?_
  refine z_iconst dX11_tellsMore_78 ?_
  refine z_bipush dX11_tellsMore_79 rfl ?_
  refine z_iload_n dX11_tellsMore_81 rfl rfl ?_
  refine z_iconst dX11_tellsMore_82 ?_
  refine z_iconst dX11_tellsMore_83 ?_
  refine m_callV (as := [aI (5), aI (6), aI (x3), aI (2), aI (1)]) dX11_tellsMore_84 lk_X11_301 mok_X11_floodedOf in_X11_floodedOf sl_X11_floodedOf kt_228 rfl rfl rfl (Nat.le_of_ble_eq_true rfl) rfl (Nat.le_of_ble_eq_true rfl) rfl (m_mono (fun r g13 hr => ?_) h)
  obtain ⟨z14, rfl, h⟩ := hr
  show Zm w (d + 7) mX11_tellsMore 87 [some (aR (some (228))), some (aL (x1)), none, some (aI (x3)), some (aL (((31 * ((31 * ((31 * ((31 * x1) + (nm z2))) + (nm z5))) + (nm z8))) + z11))), none] [aL (z14), aL (31 * ((31 * ((31 * ((31 * ((31 * x1) + (nm z2))) + (nm z5))) + (nm z8))) + z11))] g13 P
  refine z_ladd dX11_tellsMore_87 ?_
  replace h := h _ rfl
  refine z_lstore dX11_tellsMore_88 (by decide) rfl ?_
  show Zm w (d + 7) mX11_tellsMore 90 [some (aR (some (228))), some (aL (x1)), none, some (aI (x3)), some (aL ((31 * ((31 * ((31 * ((31 * ((31 * x1) + (nm z2))) + (nm z5))) + (nm z8))) + z11)) + z14)), none] [] g13 P
  refine z_ldc2 dX11_tellsMore_90 kl_X11_325 ?_
  refine z_lload dX11_tellsMore_93 rfl ?_
  refine z_lmul dX11_tellsMore_95 ?_
  refine z_aload_n dX11_tellsMore_96 rfl rfl ?_
  refine z_bipush dX11_tellsMore_97 rfl ?_
  refine z_bipush dX11_tellsMore_99 rfl ?_
  refine z_iload_n dX11_tellsMore_101 rfl rfl ?_
  refine m_callV (as := [aI (7), aI (19), aI (x3)]) dX11_tellsMore_102 lk_X11_319 mok_X11_crowdOf in_X11_crowdOf sl_X11_crowdOf kt_228 rfl rfl rfl (Nat.le_of_ble_eq_true rfl) rfl (Nat.le_of_ble_eq_true rfl) rfl (m_mono (fun r g16 hr => ?_) h)
  obtain ⟨z17, rfl, h⟩ := hr
  show Zm w (d + 7) mX11_tellsMore 105 [some (aR (some (228))), some (aL (x1)), none, some (aI (x3)), some (aL (((31 * ((31 * ((31 * ((31 * ((31 * x1) + (nm z2))) + (nm z5))) + (nm z8))) + z11)) + z14))), none] [aI (z17), aL (31 * ((31 * ((31 * ((31 * ((31 * ((31 * x1) + (nm z2))) + (nm z5))) + (nm z8))) + z11)) + z14))] g16 P
  refine z_i2l dX11_tellsMore_105 ?_
  refine z_ladd dX11_tellsMore_106 ?_
  exact m_lret dX11_tellsMore_107 rfl h
theorem dX11_digest_0 : decode cX11_digest 0 = .ok (.ldc2_w 327, 3) := by decide +kernel
theorem dX11_digest_3 : decode cX11_digest 3 = .ok (.lstore_n 1, 1) := by decide +kernel
theorem dX11_digest_4 : decode cX11_digest 4 = .ok (.iconst 0, 1) := by decide +kernel
theorem dX11_digest_5 : decode cX11_digest 5 = .ok (.istore_n 3, 1) := by decide +kernel
theorem dX11_digest_6 : decode cX11_digest 6 = .ok (.iload_n 3, 1) := by decide +kernel
theorem dX11_digest_7 : decode cX11_digest 7 = .ok (.bipush 8, 2) := by decide +kernel
theorem dX11_digest_9 : decode cX11_digest 9 = .ok (.if_icmp .ge 22, 3) := by decide +kernel
theorem dX11_digest_12 : decode cX11_digest 12 = .ok (.ldc2_w 325, 3) := by decide +kernel
theorem dX11_digest_15 : decode cX11_digest 15 = .ok (.lload_n 1, 1) := by decide +kernel
theorem dX11_digest_16 : decode cX11_digest 16 = .ok (.lmul, 1) := by decide +kernel
theorem dX11_digest_17 : decode cX11_digest 17 = .ok (.aload_n 0, 1) := by decide +kernel
theorem dX11_digest_18 : decode cX11_digest 18 = .ok (.iload_n 3, 1) := by decide +kernel
theorem dX11_digest_19 : decode cX11_digest 19 = .ok (.invokevirtual 329, 3) := by decide +kernel
theorem dX11_digest_22 : decode cX11_digest 22 = .ok (.i2l, 1) := by decide +kernel
theorem dX11_digest_23 : decode cX11_digest 23 = .ok (.ladd, 1) := by decide +kernel
theorem dX11_digest_24 : decode cX11_digest 24 = .ok (.lstore_n 1, 1) := by decide +kernel
theorem dX11_digest_25 : decode cX11_digest 25 = .ok (.iinc 3 1, 3) := by decide +kernel
theorem dX11_digest_28 : decode cX11_digest 28 = .ok (.goto (-22), 3) := by decide +kernel
theorem dX11_digest_31 : decode cX11_digest 31 = .ok (.ldc2_w 325, 3) := by decide +kernel
theorem dX11_digest_34 : decode cX11_digest 34 = .ok (.lload_n 1, 1) := by decide +kernel
theorem dX11_digest_35 : decode cX11_digest 35 = .ok (.lmul, 1) := by decide +kernel
theorem dX11_digest_36 : decode cX11_digest 36 = .ok (.aload_n 0, 1) := by decide +kernel
theorem dX11_digest_37 : decode cX11_digest 37 = .ok (.invokevirtual 150, 3) := by decide +kernel
theorem dX11_digest_40 : decode cX11_digest 40 = .ok (.i2l, 1) := by decide +kernel
theorem dX11_digest_41 : decode cX11_digest 41 = .ok (.ladd, 1) := by decide +kernel
theorem dX11_digest_42 : decode cX11_digest 42 = .ok (.lstore_n 1, 1) := by decide +kernel
theorem dX11_digest_43 : decode cX11_digest 43 = .ok (.ldc2_w 325, 3) := by decide +kernel
theorem dX11_digest_46 : decode cX11_digest 46 = .ok (.lload_n 1, 1) := by decide +kernel
theorem dX11_digest_47 : decode cX11_digest 47 = .ok (.lmul, 1) := by decide +kernel
theorem dX11_digest_48 : decode cX11_digest 48 = .ok (.aload_n 0, 1) := by decide +kernel
theorem dX11_digest_49 : decode cX11_digest 49 = .ok (.invokevirtual 154, 3) := by decide +kernel
theorem dX11_digest_52 : decode cX11_digest 52 = .ok (.i2l, 1) := by decide +kernel
theorem dX11_digest_53 : decode cX11_digest 53 = .ok (.ladd, 1) := by decide +kernel
theorem dX11_digest_54 : decode cX11_digest 54 = .ok (.lstore_n 1, 1) := by decide +kernel
theorem dX11_digest_55 : decode cX11_digest 55 = .ok (.iconst 0, 1) := by decide +kernel
theorem dX11_digest_56 : decode cX11_digest 56 = .ok (.istore_n 3, 1) := by decide +kernel
theorem dX11_digest_57 : decode cX11_digest 57 = .ok (.iload_n 3, 1) := by decide +kernel
theorem dX11_digest_58 : decode cX11_digest 58 = .ok (.aload_n 0, 1) := by decide +kernel
theorem dX11_digest_59 : decode cX11_digest 59 = .ok (.getfield 125, 3) := by decide +kernel
theorem dX11_digest_62 : decode cX11_digest 62 = .ok (.if_icmp .ge 23, 3) := by decide +kernel
theorem dX11_digest_65 : decode cX11_digest 65 = .ok (.ldc2_w 325, 3) := by decide +kernel
theorem dX11_digest_68 : decode cX11_digest 68 = .ok (.lload_n 1, 1) := by decide +kernel
theorem dX11_digest_69 : decode cX11_digest 69 = .ok (.lmul, 1) := by decide +kernel
theorem dX11_digest_70 : decode cX11_digest 70 = .ok (.aload_n 0, 1) := by decide +kernel
theorem dX11_digest_71 : decode cX11_digest 71 = .ok (.getfield 28, 3) := by decide +kernel
theorem dX11_digest_74 : decode cX11_digest 74 = .ok (.iload_n 3, 1) := by decide +kernel
theorem dX11_digest_75 : decode cX11_digest 75 = .ok (.iaload, 1) := by decide +kernel
theorem dX11_digest_76 : decode cX11_digest 76 = .ok (.i2l, 1) := by decide +kernel
theorem dX11_digest_77 : decode cX11_digest 77 = .ok (.ladd, 1) := by decide +kernel
theorem dX11_digest_78 : decode cX11_digest 78 = .ok (.lstore_n 1, 1) := by decide +kernel
theorem dX11_digest_79 : decode cX11_digest 79 = .ok (.iinc 3 1, 3) := by decide +kernel
theorem dX11_digest_82 : decode cX11_digest 82 = .ok (.goto (-25), 3) := by decide +kernel
theorem dX11_digest_85 : decode cX11_digest 85 = .ok (.iconst 0, 1) := by decide +kernel
theorem dX11_digest_86 : decode cX11_digest 86 = .ok (.istore_n 3, 1) := by decide +kernel
theorem dX11_digest_87 : decode cX11_digest 87 = .ok (.iload_n 3, 1) := by decide +kernel
theorem dX11_digest_88 : decode cX11_digest 88 = .ok (.aload_n 0, 1) := by decide +kernel
theorem dX11_digest_89 : decode cX11_digest 89 = .ok (.getfield 140, 3) := by decide +kernel
theorem dX11_digest_92 : decode cX11_digest 92 = .ok (.if_icmp .ge 16, 3) := by decide +kernel
theorem dX11_digest_95 : decode cX11_digest 95 = .ok (.aload_n 0, 1) := by decide +kernel
theorem dX11_digest_96 : decode cX11_digest 96 = .ok (.lload_n 1, 1) := by decide +kernel
theorem dX11_digest_97 : decode cX11_digest 97 = .ok (.iload_n 3, 1) := by decide +kernel
theorem dX11_digest_98 : decode cX11_digest 98 = .ok (.invokevirtual 332, 3) := by decide +kernel
theorem dX11_digest_101 : decode cX11_digest 101 = .ok (.lstore_n 1, 1) := by decide +kernel
theorem dX11_digest_102 : decode cX11_digest 102 = .ok (.iinc 3 1, 3) := by decide +kernel
theorem dX11_digest_105 : decode cX11_digest 105 = .ok (.goto (-18), 3) := by decide +kernel
theorem dX11_digest_108 : decode cX11_digest 108 = .ok (.iconst 0, 1) := by decide +kernel
theorem dX11_digest_109 : decode cX11_digest 109 = .ok (.istore_n 3, 1) := by decide +kernel
theorem dX11_digest_110 : decode cX11_digest 110 = .ok (.iload_n 3, 1) := by decide +kernel
theorem dX11_digest_111 : decode cX11_digest 111 = .ok (.aload_n 0, 1) := by decide +kernel
theorem dX11_digest_112 : decode cX11_digest 112 = .ok (.getfield 140, 3) := by decide +kernel
theorem dX11_digest_115 : decode cX11_digest 115 = .ok (.if_icmp .ge 16, 3) := by decide +kernel
theorem dX11_digest_118 : decode cX11_digest 118 = .ok (.aload_n 0, 1) := by decide +kernel
theorem dX11_digest_119 : decode cX11_digest 119 = .ok (.lload_n 1, 1) := by decide +kernel
theorem dX11_digest_120 : decode cX11_digest 120 = .ok (.iload_n 3, 1) := by decide +kernel
theorem dX11_digest_121 : decode cX11_digest 121 = .ok (.invokevirtual 336, 3) := by decide +kernel
theorem dX11_digest_124 : decode cX11_digest 124 = .ok (.lstore_n 1, 1) := by decide +kernel
theorem dX11_digest_125 : decode cX11_digest 125 = .ok (.iinc 3 1, 3) := by decide +kernel
theorem dX11_digest_128 : decode cX11_digest 128 = .ok (.goto (-18), 3) := by decide +kernel
theorem dX11_digest_131 : decode cX11_digest 131 = .ok (.iconst 0, 1) := by decide +kernel
theorem dX11_digest_132 : decode cX11_digest 132 = .ok (.istore_n 3, 1) := by decide +kernel
theorem dX11_digest_133 : decode cX11_digest 133 = .ok (.iload_n 3, 1) := by decide +kernel
theorem dX11_digest_134 : decode cX11_digest 134 = .ok (.aload_n 0, 1) := by decide +kernel
theorem dX11_digest_135 : decode cX11_digest 135 = .ok (.invokevirtual 241, 3) := by decide +kernel
theorem dX11_digest_138 : decode cX11_digest 138 = .ok (.if_icmp .ge 57, 3) := by decide +kernel
theorem dX11_digest_141 : decode cX11_digest 141 = .ok (.iconst 0, 1) := by decide +kernel
theorem dX11_digest_142 : decode cX11_digest 142 = .ok (.istore 4, 2) := by decide +kernel
theorem dX11_digest_144 : decode cX11_digest 144 = .ok (.iload 4, 2) := by decide +kernel
theorem dX11_digest_146 : decode cX11_digest 146 = .ok (.iconst 3, 1) := by decide +kernel
theorem dX11_digest_147 : decode cX11_digest 147 = .ok (.if_icmp .ge 26, 3) := by decide +kernel
theorem dX11_digest_150 : decode cX11_digest 150 = .ok (.ldc2_w 325, 3) := by decide +kernel
theorem dX11_digest_153 : decode cX11_digest 153 = .ok (.lload_n 1, 1) := by decide +kernel
theorem dX11_digest_154 : decode cX11_digest 154 = .ok (.lmul, 1) := by decide +kernel
theorem dX11_digest_155 : decode cX11_digest 155 = .ok (.aload_n 0, 1) := by decide +kernel
theorem dX11_digest_156 : decode cX11_digest 156 = .ok (.bipush 9, 2) := by decide +kernel
theorem dX11_digest_158 : decode cX11_digest 158 = .ok (.iload_n 3, 1) := by decide +kernel
theorem dX11_digest_159 : decode cX11_digest 159 = .ok (.iload 4, 2) := by decide +kernel
theorem dX11_digest_161 : decode cX11_digest 161 = .ok (.invokevirtual 244, 3) := by decide +kernel
theorem dX11_digest_164 : decode cX11_digest 164 = .ok (.i2l, 1) := by decide +kernel
theorem dX11_digest_165 : decode cX11_digest 165 = .ok (.ladd, 1) := by decide +kernel
theorem dX11_digest_166 : decode cX11_digest 166 = .ok (.lstore_n 1, 1) := by decide +kernel
theorem dX11_digest_167 : decode cX11_digest 167 = .ok (.iinc 4 1, 3) := by decide +kernel
theorem dX11_digest_170 : decode cX11_digest 170 = .ok (.goto (-26), 3) := by decide +kernel
theorem dX11_digest_173 : decode cX11_digest 173 = .ok (.ldc2_w 325, 3) := by decide +kernel
theorem dX11_digest_176 : decode cX11_digest 176 = .ok (.lload_n 1, 1) := by decide +kernel
theorem dX11_digest_177 : decode cX11_digest 177 = .ok (.lmul, 1) := by decide +kernel
theorem dX11_digest_178 : decode cX11_digest 178 = .ok (.aload_n 0, 1) := by decide +kernel
theorem dX11_digest_179 : decode cX11_digest 179 = .ok (.bipush 19, 2) := by decide +kernel
theorem dX11_digest_181 : decode cX11_digest 181 = .ok (.iload_n 3, 1) := by decide +kernel
theorem dX11_digest_182 : decode cX11_digest 182 = .ok (.iconst 0, 1) := by decide +kernel
theorem dX11_digest_183 : decode cX11_digest 183 = .ok (.invokevirtual 244, 3) := by decide +kernel
theorem dX11_digest_186 : decode cX11_digest 186 = .ok (.i2l, 1) := by decide +kernel
theorem dX11_digest_187 : decode cX11_digest 187 = .ok (.ladd, 1) := by decide +kernel
theorem dX11_digest_188 : decode cX11_digest 188 = .ok (.lstore_n 1, 1) := by decide +kernel
theorem dX11_digest_189 : decode cX11_digest 189 = .ok (.iinc 3 1, 3) := by decide +kernel
theorem dX11_digest_192 : decode cX11_digest 192 = .ok (.goto (-59), 3) := by decide +kernel
theorem dX11_digest_195 : decode cX11_digest 195 = .ok (.iconst 0, 1) := by decide +kernel
theorem dX11_digest_196 : decode cX11_digest 196 = .ok (.istore_n 3, 1) := by decide +kernel
theorem dX11_digest_197 : decode cX11_digest 197 = .ok (.iload_n 3, 1) := by decide +kernel
theorem dX11_digest_198 : decode cX11_digest 198 = .ok (.aload_n 0, 1) := by decide +kernel
theorem dX11_digest_199 : decode cX11_digest 199 = .ok (.getfield 169, 3) := by decide +kernel
theorem dX11_digest_202 : decode cX11_digest 202 = .ok (.if_icmp .ge 22, 3) := by decide +kernel
theorem dX11_digest_205 : decode cX11_digest 205 = .ok (.ldc2_w 325, 3) := by decide +kernel
theorem dX11_digest_208 : decode cX11_digest 208 = .ok (.lload_n 1, 1) := by decide +kernel
theorem dX11_digest_209 : decode cX11_digest 209 = .ok (.lmul, 1) := by decide +kernel
theorem dX11_digest_210 : decode cX11_digest 210 = .ok (.aload_n 0, 1) := by decide +kernel
theorem dX11_digest_211 : decode cX11_digest 211 = .ok (.iload_n 3, 1) := by decide +kernel
theorem dX11_digest_212 : decode cX11_digest 212 = .ok (.invokevirtual 256, 3) := by decide +kernel
theorem dX11_digest_215 : decode cX11_digest 215 = .ok (.i2l, 1) := by decide +kernel
theorem dX11_digest_216 : decode cX11_digest 216 = .ok (.ladd, 1) := by decide +kernel
theorem dX11_digest_217 : decode cX11_digest 217 = .ok (.lstore_n 1, 1) := by decide +kernel
theorem dX11_digest_218 : decode cX11_digest 218 = .ok (.iinc 3 1, 3) := by decide +kernel
theorem dX11_digest_221 : decode cX11_digest 221 = .ok (.goto (-24), 3) := by decide +kernel
theorem dX11_digest_224 : decode cX11_digest 224 = .ok (.ldc2_w 325, 3) := by decide +kernel
theorem dX11_digest_227 : decode cX11_digest 227 = .ok (.lload_n 1, 1) := by decide +kernel
theorem dX11_digest_228 : decode cX11_digest 228 = .ok (.lmul, 1) := by decide +kernel
theorem dX11_digest_229 : decode cX11_digest 229 = .ok (.aload_n 0, 1) := by decide +kernel
theorem dX11_digest_230 : decode cX11_digest 230 = .ok (.bipush 9, 2) := by decide +kernel
theorem dX11_digest_232 : decode cX11_digest 232 = .ok (.invokevirtual 250, 3) := by decide +kernel
theorem dX11_digest_235 : decode cX11_digest 235 = .ok (.i2l, 1) := by decide +kernel
theorem dX11_digest_236 : decode cX11_digest 236 = .ok (.ladd, 1) := by decide +kernel
theorem dX11_digest_237 : decode cX11_digest 237 = .ok (.lstore_n 1, 1) := by decide +kernel
theorem dX11_digest_238 : decode cX11_digest 238 = .ok (.ldc2_w 325, 3) := by decide +kernel
theorem dX11_digest_241 : decode cX11_digest 241 = .ok (.lload_n 1, 1) := by decide +kernel
theorem dX11_digest_242 : decode cX11_digest 242 = .ok (.lmul, 1) := by decide +kernel
theorem dX11_digest_243 : decode cX11_digest 243 = .ok (.aload_n 0, 1) := by decide +kernel
theorem dX11_digest_244 : decode cX11_digest 244 = .ok (.iconst 0, 1) := by decide +kernel
theorem dX11_digest_245 : decode cX11_digest 245 = .ok (.invokevirtual 253, 3) := by decide +kernel
theorem dX11_digest_248 : decode cX11_digest 248 = .ok (.i2l, 1) := by decide +kernel
theorem dX11_digest_249 : decode cX11_digest 249 = .ok (.ladd, 1) := by decide +kernel
theorem dX11_digest_250 : decode cX11_digest 250 = .ok (.lstore_n 1, 1) := by decide +kernel
theorem dX11_digest_251 : decode cX11_digest 251 = .ok (.ldc2_w 325, 3) := by decide +kernel
theorem dX11_digest_254 : decode cX11_digest 254 = .ok (.lload_n 1, 1) := by decide +kernel
theorem dX11_digest_255 : decode cX11_digest 255 = .ok (.lmul, 1) := by decide +kernel
theorem dX11_digest_256 : decode cX11_digest 256 = .ok (.aload_n 0, 1) := by decide +kernel
theorem dX11_digest_257 : decode cX11_digest 257 = .ok (.iconst 1, 1) := by decide +kernel
theorem dX11_digest_258 : decode cX11_digest 258 = .ok (.invokevirtual 253, 3) := by decide +kernel
theorem dX11_digest_261 : decode cX11_digest 261 = .ok (.i2l, 1) := by decide +kernel
theorem dX11_digest_262 : decode cX11_digest 262 = .ok (.ladd, 1) := by decide +kernel
theorem dX11_digest_263 : decode cX11_digest 263 = .ok (.lstore_n 1, 1) := by decide +kernel
theorem dX11_digest_264 : decode cX11_digest 264 = .ok (.ldc2_w 325, 3) := by decide +kernel
theorem dX11_digest_267 : decode cX11_digest 267 = .ok (.lload_n 1, 1) := by decide +kernel
theorem dX11_digest_268 : decode cX11_digest 268 = .ok (.lmul, 1) := by decide +kernel
theorem dX11_digest_269 : decode cX11_digest 269 = .ok (.aload_n 0, 1) := by decide +kernel
theorem dX11_digest_270 : decode cX11_digest 270 = .ok (.iconst 2, 1) := by decide +kernel
theorem dX11_digest_271 : decode cX11_digest 271 = .ok (.iconst (-1), 1) := by decide +kernel
theorem dX11_digest_272 : decode cX11_digest 272 = .ok (.invokevirtual 274, 3) := by decide +kernel
theorem dX11_digest_275 : decode cX11_digest 275 = .ok (.i2l, 1) := by decide +kernel
theorem dX11_digest_276 : decode cX11_digest 276 = .ok (.ladd, 1) := by decide +kernel
theorem dX11_digest_277 : decode cX11_digest 277 = .ok (.lstore_n 1, 1) := by decide +kernel
theorem dX11_digest_278 : decode cX11_digest 278 = .ok (.ldc2_w 325, 3) := by decide +kernel
theorem dX11_digest_281 : decode cX11_digest 281 = .ok (.lload_n 1, 1) := by decide +kernel
theorem dX11_digest_282 : decode cX11_digest 282 = .ok (.lmul, 1) := by decide +kernel
theorem dX11_digest_283 : decode cX11_digest 283 = .ok (.aload_n 0, 1) := by decide +kernel
theorem dX11_digest_284 : decode cX11_digest 284 = .ok (.iconst 2, 1) := by decide +kernel
theorem dX11_digest_285 : decode cX11_digest 285 = .ok (.iconst 0, 1) := by decide +kernel
theorem dX11_digest_286 : decode cX11_digest 286 = .ok (.invokevirtual 274, 3) := by decide +kernel
theorem dX11_digest_289 : decode cX11_digest 289 = .ok (.i2l, 1) := by decide +kernel
theorem dX11_digest_290 : decode cX11_digest 290 = .ok (.ladd, 1) := by decide +kernel
theorem dX11_digest_291 : decode cX11_digest 291 = .ok (.lstore_n 1, 1) := by decide +kernel
theorem dX11_digest_292 : decode cX11_digest 292 = .ok (.ldc2_w 325, 3) := by decide +kernel
theorem dX11_digest_295 : decode cX11_digest 295 = .ok (.lload_n 1, 1) := by decide +kernel
theorem dX11_digest_296 : decode cX11_digest 296 = .ok (.lmul, 1) := by decide +kernel
theorem dX11_digest_297 : decode cX11_digest 297 = .ok (.aload_n 0, 1) := by decide +kernel
theorem dX11_digest_298 : decode cX11_digest 298 = .ok (.invokevirtual 284, 3) := by decide +kernel
theorem dX11_digest_301 : decode cX11_digest 301 = .ok (.i2l, 1) := by decide +kernel
theorem dX11_digest_302 : decode cX11_digest 302 = .ok (.ladd, 1) := by decide +kernel
theorem dX11_digest_303 : decode cX11_digest 303 = .ok (.lstore_n 1, 1) := by decide +kernel
theorem dX11_digest_304 : decode cX11_digest 304 = .ok (.ldc2_w 325, 3) := by decide +kernel
theorem dX11_digest_307 : decode cX11_digest 307 = .ok (.lload_n 1, 1) := by decide +kernel
theorem dX11_digest_308 : decode cX11_digest 308 = .ok (.lmul, 1) := by decide +kernel
theorem dX11_digest_309 : decode cX11_digest 309 = .ok (.aload_n 0, 1) := by decide +kernel
theorem dX11_digest_310 : decode cX11_digest 310 = .ok (.bipush 9, 2) := by decide +kernel
theorem dX11_digest_312 : decode cX11_digest 312 = .ok (.invokevirtual 290, 3) := by decide +kernel
theorem dX11_digest_315 : decode cX11_digest 315 = .ok (.i2l, 1) := by decide +kernel
theorem dX11_digest_316 : decode cX11_digest 316 = .ok (.ladd, 1) := by decide +kernel
theorem dX11_digest_317 : decode cX11_digest 317 = .ok (.lstore_n 1, 1) := by decide +kernel
theorem dX11_digest_318 : decode cX11_digest 318 = .ok (.ldc2_w 325, 3) := by decide +kernel
theorem dX11_digest_321 : decode cX11_digest 321 = .ok (.lload_n 1, 1) := by decide +kernel
theorem dX11_digest_322 : decode cX11_digest 322 = .ok (.lmul, 1) := by decide +kernel
theorem dX11_digest_323 : decode cX11_digest 323 = .ok (.aload_n 0, 1) := by decide +kernel
theorem dX11_digest_324 : decode cX11_digest 324 = .ok (.bipush 7, 2) := by decide +kernel
theorem dX11_digest_326 : decode cX11_digest 326 = .ok (.bipush 19, 2) := by decide +kernel
theorem dX11_digest_328 : decode cX11_digest 328 = .ok (.iconst (-1), 1) := by decide +kernel
theorem dX11_digest_329 : decode cX11_digest 329 = .ok (.invokevirtual 319, 3) := by decide +kernel
theorem dX11_digest_332 : decode cX11_digest 332 = .ok (.i2l, 1) := by decide +kernel
theorem dX11_digest_333 : decode cX11_digest 333 = .ok (.ladd, 1) := by decide +kernel
theorem dX11_digest_334 : decode cX11_digest 334 = .ok (.lreturn, 1) := by decide +kernel
set_option maxRecDepth 4000 in
theorem s_X11_digest_0 {w : GX} {d : Nat} {P : PN} {g : GI} 
    (h : Zm w (d + 8) mX11_digest 6 [some (aR (some (228))), some (aL (17)), none, some (aI (0)), none] [] g P) :
    Zm w (d + 8) mX11_digest 0 [some (aR (some (228))), none, none, none, none] [] g P := by
  refine z_ldc2 dX11_digest_0 kl_X11_327 ?_
  refine z_lstore_n dX11_digest_3 rfl (by decide) rfl ?_
  show Zm w (d + 8) mX11_digest 4 [some (aR (some (228))), some (aL (17)), none, none, none] [] g P
  refine z_iconst dX11_digest_4 ?_
  refine z_istore_n dX11_digest_5 rfl (by decide) rfl ?_
  show Zm w (d + 8) mX11_digest 6 [some (aR (some (228))), some (aL (17)), none, some (aI (0)), none] [] g P
  exact z_weak (by simp [lle]) h
set_option maxRecDepth 4000 in
theorem s_X11_digest_6 {w : GX} {d : Nat} {P : PN} {g : GI} (x1 : Int) (x3 : Int)
    (h : ((¬ nm x3 < nm 8 → Zm w (d + 7) mX11_readsRiver 0 [some (aR (some (228))), none, none, none] [] g (fun r g2 => ∃ z3 : Int, r = some (aI z3) ∧ (∀ v4 : Int, v4 = (31 * x1) + (nm z3) → Zm w (d + 7) mX11_readsPeople 0 [some (aR (some (228))), none, none, none, none] [] g2 (fun r g5 => ∃ z6 : Int, r = some (aI z6) ∧ (∀ v7 : Int, v7 = (31 * v4) + (nm z6) → Zm w (d + 8) mX11_digest 57 [some (aR (some (228))), some (aL (v7)), none, some (aI (0)), none] [] g5 P))))) ∧ (nm x3 < nm 8 → Zm w (d + 7) mX11_count 0 [some (aR (some (228))), some (aI (x3))] [] g (fun r g8 => ∃ z9 : Int, r = some (aI z9) ∧ (∀ v10 : Int, v10 = (31 * x1) + (nm z9) → Zm w (d + 8) mX11_digest 6 [some (aR (some (228))), some (aL (v10)), none, some (aI (x3 + 1)), none] [] g8 P))))) :
    Zm w (d + 8) mX11_digest 6 [some (aR (some (228))), some (aL (x1)), none, some (aI (x3)), none] [] g P := by
  refine z_iload_n dX11_digest_6 rfl rfl ?_
  refine z_bipush dX11_digest_7 rfl ?_
  refine z_icmp_ge (tgt := 31) dX11_digest_9 (by decide) (fun c1 => ?_) (fun c1 => ?_)
  · replace h := h.1 c1
    refine z_ldc2 dX11_digest_31 kl_X11_325 ?_
    refine z_lload_n dX11_digest_34 rfl rfl ?_
    refine z_lmul dX11_digest_35 ?_
    refine z_aload_n dX11_digest_36 rfl rfl ?_
    refine m_callV (as := []) dX11_digest_37 lk_X11_150 mok_X11_readsRiver in_X11_readsRiver sl_X11_readsRiver kt_228 rfl rfl rfl (Nat.le_of_ble_eq_true rfl) rfl (Nat.le_of_ble_eq_true rfl) rfl (m_mono (fun r g2 hr => ?_) h)
    obtain ⟨z3, rfl, h⟩ := hr
    show Zm w (d + 8) mX11_digest 40 [some (aR (some (228))), some (aL (x1)), none, some (aI (x3)), none] [aI (z3), aL (31 * x1)] g2 P
    refine z_i2l dX11_digest_40 ?_
    refine z_ladd dX11_digest_41 ?_
    replace h := h _ rfl
    refine z_lstore_n dX11_digest_42 rfl (by decide) rfl ?_
    show Zm w (d + 8) mX11_digest 43 [some (aR (some (228))), some (aL ((31 * x1) + (nm z3))), none, some (aI (x3)), none] [] g2 P
    refine z_ldc2 dX11_digest_43 kl_X11_325 ?_
    refine z_lload_n dX11_digest_46 rfl rfl ?_
    refine z_lmul dX11_digest_47 ?_
    refine z_aload_n dX11_digest_48 rfl rfl ?_
    refine m_callV (as := []) dX11_digest_49 lk_X11_154 mok_X11_readsPeople in_X11_readsPeople sl_X11_readsPeople kt_228 rfl rfl rfl (Nat.le_of_ble_eq_true rfl) rfl (Nat.le_of_ble_eq_true rfl) rfl (m_mono (fun r g5 hr => ?_) h)
    obtain ⟨z6, rfl, h⟩ := hr
    show Zm w (d + 8) mX11_digest 52 [some (aR (some (228))), some (aL (((31 * x1) + (nm z3)))), none, some (aI (x3)), none] [aI (z6), aL (31 * ((31 * x1) + (nm z3)))] g5 P
    refine z_i2l dX11_digest_52 ?_
    refine z_ladd dX11_digest_53 ?_
    replace h := h _ rfl
    refine z_lstore_n dX11_digest_54 rfl (by decide) rfl ?_
    show Zm w (d + 8) mX11_digest 55 [some (aR (some (228))), some (aL ((31 * ((31 * x1) + (nm z3))) + (nm z6))), none, some (aI (x3)), none] [] g5 P
    refine z_iconst dX11_digest_55 ?_
    refine z_istore_n dX11_digest_56 rfl (by decide) rfl ?_
    show Zm w (d + 8) mX11_digest 57 [some (aR (some (228))), some (aL (((31 * ((31 * x1) + (nm z3))) + (nm z6)))), none, some (aI (0)), none] [] g5 P
    exact z_weak (by simp [lle]) h
  · replace h := h.2 (Decidable.not_not.mp c1)
    refine z_ldc2 dX11_digest_12 kl_X11_325 ?_
    refine z_lload_n dX11_digest_15 rfl rfl ?_
    refine z_lmul dX11_digest_16 ?_
    refine z_aload_n dX11_digest_17 rfl rfl ?_
    refine z_iload_n dX11_digest_18 rfl rfl ?_
    refine m_callV (as := [aI (x3)]) dX11_digest_19 lk_X11_329 mok_X11_count in_X11_count sl_X11_count kt_228 rfl rfl rfl (Nat.le_of_ble_eq_true rfl) rfl (Nat.le_of_ble_eq_true rfl) rfl (m_mono (fun r g8 hr => ?_) h)
    obtain ⟨z9, rfl, h⟩ := hr
    show Zm w (d + 8) mX11_digest 22 [some (aR (some (228))), some (aL (x1)), none, some (aI (x3)), none] [aI (z9), aL (31 * x1)] g8 P
    refine z_i2l dX11_digest_22 ?_
    refine z_ladd dX11_digest_23 ?_
    replace h := h _ rfl
    refine z_lstore_n dX11_digest_24 rfl (by decide) rfl ?_
    show Zm w (d + 8) mX11_digest 25 [some (aR (some (228))), some (aL ((31 * x1) + (nm z9))), none, some (aI (x3)), none] [] g8 P
    refine z_iinc dX11_digest_25 rfl (by decide) rfl ?_
    show Zm w (d + 8) mX11_digest 28 [some (aR (some (228))), some (aL (((31 * x1) + (nm z9)))), none, some (aI (x3 + 1)), none] [] g8 P
    refine z_goto (tgt := 6) dX11_digest_28 (by decide) ?_
    exact z_weak (by simp [lle]) h
set_option maxRecDepth 4000 in
theorem s_X11_digest_57 {w : GX} {d : Nat} {P : PN} {g : GI} (x1 : Int) (x3 : Int)
    (h : ((¬ nm x3 < nm (g 228 7) → Zm w (d + 8) mX11_digest 87 [some (aR (some (228))), some (aL (x1)), none, some (aI (0)), none] [] g P) ∧ (nm x3 < nm (g 228 7) → (0 ≤ nm x3 ∧ nm x3 < 20 ∧ (∀ v6 : Int, v6 = (31 * x1) + (nm (g 235 (nm x3).toNat)) → Zm w (d + 8) mX11_digest 57 [some (aR (some (228))), some (aL (v6)), none, some (aI (x3 + 1)), none] [] g P))))) :
    Zm w (d + 8) mX11_digest 57 [some (aR (some (228))), some (aL (x1)), none, some (aI (x3)), none] [] g P := by
  refine z_iload_n dX11_digest_57 rfl rfl ?_
  refine z_aload_n dX11_digest_58 rfl rfl ?_
  refine z_getI dX11_digest_59 fl_X11_125 (by decide) kt_228 ?_
  refine z_icmp_ge (tgt := 85) dX11_digest_62 (by decide) (fun c1 => ?_) (fun c1 => ?_)
  · replace h := h.1 c1
    refine z_iconst dX11_digest_85 ?_
    refine z_istore_n dX11_digest_86 rfl (by decide) rfl ?_
    show Zm w (d + 8) mX11_digest 87 [some (aR (some (228))), some (aL (x1)), none, some (aI (0)), none] [] g P
    exact z_weak (by simp [lle]) h
  · replace h := h.2 (Decidable.not_not.mp c1)
    refine z_ldc2 dX11_digest_65 kl_X11_325 ?_
    refine z_lload_n dX11_digest_68 rfl rfl ?_
    refine z_lmul dX11_digest_69 ?_
    refine z_aload_n dX11_digest_70 rfl rfl ?_
    refine m_getR dX11_digest_71 fl_X11_28 (by decide) kt_228 rv_228_8 ?_
    refine z_iload_n dX11_digest_74 rfl rfl ?_
    obtain ⟨q4, q5, h⟩ := h
    refine m_iald dX11_digest_75 kv_235 q4 q5 ?_
    refine z_i2l dX11_digest_76 ?_
    refine z_ladd dX11_digest_77 ?_
    replace h := h _ rfl
    refine z_lstore_n dX11_digest_78 rfl (by decide) rfl ?_
    show Zm w (d + 8) mX11_digest 79 [some (aR (some (228))), some (aL ((31 * x1) + (nm (g 235 (nm x3).toNat)))), none, some (aI (x3)), none] [] g P
    refine z_iinc dX11_digest_79 rfl (by decide) rfl ?_
    show Zm w (d + 8) mX11_digest 82 [some (aR (some (228))), some (aL (((31 * x1) + (nm (g 235 (nm x3).toNat))))), none, some (aI (x3 + 1)), none] [] g P
    refine z_goto (tgt := 57) dX11_digest_82 (by decide) ?_
    exact z_weak (by simp [lle]) h
set_option maxRecDepth 4000 in
theorem s_X11_digest_87 {w : GX} {d : Nat} {P : PN} {g : GI} (x1 : Int) (x3 : Int)
    (h : ((¬ nm x3 < nm (g 228 10) → Zm w (d + 8) mX11_digest 110 [some (aR (some (228))), some (aL (x1)), none, some (aI (0)), none] [] g P) ∧ (nm x3 < nm (g 228 10) → Zm w (d + 7) mX11_tellsPerson 0 [some (aR (some (228))), some (aL (x1)), none, some (aI (x3)), none, none, none] [] g (fun r g2 => ∃ z3 : Int, r = some (aL z3) ∧ Zm w (d + 8) mX11_digest 87 [some (aR (some (228))), some (aL (z3)), none, some (aI (x3 + 1)), none] [] g2 P)))) :
    Zm w (d + 8) mX11_digest 87 [some (aR (some (228))), some (aL (x1)), none, some (aI (x3)), none] [] g P := by
  refine z_iload_n dX11_digest_87 rfl rfl ?_
  refine z_aload_n dX11_digest_88 rfl rfl ?_
  refine z_getI dX11_digest_89 fl_X11_140 (by decide) kt_228 ?_
  refine z_icmp_ge (tgt := 108) dX11_digest_92 (by decide) (fun c1 => ?_) (fun c1 => ?_)
  · replace h := h.1 c1
    refine z_iconst dX11_digest_108 ?_
    refine z_istore_n dX11_digest_109 rfl (by decide) rfl ?_
    show Zm w (d + 8) mX11_digest 110 [some (aR (some (228))), some (aL (x1)), none, some (aI (0)), none] [] g P
    exact z_weak (by simp [lle]) h
  · replace h := h.2 (Decidable.not_not.mp c1)
    refine z_aload_n dX11_digest_95 rfl rfl ?_
    refine z_lload_n dX11_digest_96 rfl rfl ?_
    refine z_iload_n dX11_digest_97 rfl rfl ?_
    refine m_callV (as := [aL (x1), aI (x3)]) dX11_digest_98 lk_X11_332 mok_X11_tellsPerson in_X11_tellsPerson sl_X11_tellsPerson kt_228 rfl rfl rfl (Nat.le_of_ble_eq_true rfl) rfl (Nat.le_of_ble_eq_true rfl) rfl (m_mono (fun r g2 hr => ?_) h)
    obtain ⟨z3, rfl, h⟩ := hr
    show Zm w (d + 8) mX11_digest 101 [some (aR (some (228))), some (aL (x1)), none, some (aI (x3)), none] [aL (z3)] g2 P
    refine z_lstore_n dX11_digest_101 rfl (by decide) rfl ?_
    show Zm w (d + 8) mX11_digest 102 [some (aR (some (228))), some (aL (z3)), none, some (aI (x3)), none] [] g2 P
    refine z_iinc dX11_digest_102 rfl (by decide) rfl ?_
    show Zm w (d + 8) mX11_digest 105 [some (aR (some (228))), some (aL (z3)), none, some (aI (x3 + 1)), none] [] g2 P
    refine z_goto (tgt := 87) dX11_digest_105 (by decide) ?_
    exact z_weak (by simp [lle]) h
set_option maxRecDepth 4000 in
theorem s_X11_digest_110 {w : GX} {d : Nat} {P : PN} {g : GI} (x1 : Int) (x3 : Int)
    (h : ((¬ nm x3 < nm (g 228 10) → Zm w (d + 8) mX11_digest 133 [some (aR (some (228))), some (aL (x1)), none, some (aI (0)), none] [] g P) ∧ (nm x3 < nm (g 228 10) → Zm w (d + 7) mX11_tellsMore 0 [some (aR (some (228))), some (aL (x1)), none, some (aI (x3)), none, none] [] g (fun r g2 => ∃ z3 : Int, r = some (aL z3) ∧ Zm w (d + 8) mX11_digest 110 [some (aR (some (228))), some (aL (z3)), none, some (aI (x3 + 1)), none] [] g2 P)))) :
    Zm w (d + 8) mX11_digest 110 [some (aR (some (228))), some (aL (x1)), none, some (aI (x3)), none] [] g P := by
  refine z_iload_n dX11_digest_110 rfl rfl ?_
  refine z_aload_n dX11_digest_111 rfl rfl ?_
  refine z_getI dX11_digest_112 fl_X11_140 (by decide) kt_228 ?_
  refine z_icmp_ge (tgt := 131) dX11_digest_115 (by decide) (fun c1 => ?_) (fun c1 => ?_)
  · replace h := h.1 c1
    refine z_iconst dX11_digest_131 ?_
    refine z_istore_n dX11_digest_132 rfl (by decide) rfl ?_
    show Zm w (d + 8) mX11_digest 133 [some (aR (some (228))), some (aL (x1)), none, some (aI (0)), none] [] g P
    exact z_weak (by simp [lle]) h
  · replace h := h.2 (Decidable.not_not.mp c1)
    refine z_aload_n dX11_digest_118 rfl rfl ?_
    refine z_lload_n dX11_digest_119 rfl rfl ?_
    refine z_iload_n dX11_digest_120 rfl rfl ?_
    refine m_callV (as := [aL (x1), aI (x3)]) dX11_digest_121 lk_X11_336 mok_X11_tellsMore in_X11_tellsMore sl_X11_tellsMore kt_228 rfl rfl rfl (Nat.le_of_ble_eq_true rfl) rfl (Nat.le_of_ble_eq_true rfl) rfl (m_mono (fun r g2 hr => ?_) h)
    obtain ⟨z3, rfl, h⟩ := hr
    show Zm w (d + 8) mX11_digest 124 [some (aR (some (228))), some (aL (x1)), none, some (aI (x3)), none] [aL (z3)] g2 P
    refine z_lstore_n dX11_digest_124 rfl (by decide) rfl ?_
    show Zm w (d + 8) mX11_digest 125 [some (aR (some (228))), some (aL (z3)), none, some (aI (x3)), none] [] g2 P
    refine z_iinc dX11_digest_125 rfl (by decide) rfl ?_
    show Zm w (d + 8) mX11_digest 128 [some (aR (some (228))), some (aL (z3)), none, some (aI (x3 + 1)), none] [] g2 P
    refine z_goto (tgt := 110) dX11_digest_128 (by decide) ?_
    exact z_weak (by simp [lle]) h
set_option maxRecDepth 4000 in
theorem s_X11_digest_133 {w : GX} {d : Nat} {P : PN} {g : GI} (x1 : Int) (x3 : Int)
    (h : (((¬ nm x3 < nm (g 228 12 + g 228 10) → Zm w (d + 8) mX11_digest 197 [some (aR (some (228))), some (aL (x1)), none, some (aI (0)), none] [] g P) ∧ (nm x3 < nm (g 228 12 + g 228 10) → Zm w (d + 8) mX11_digest 144 [some (aR (some (228))), some (aL (x1)), none, some (aI (x3)), some (aI (0))] [] g P)))) :
    Zm w (d + 8) mX11_digest 133 [some (aR (some (228))), some (aL (x1)), none, some (aI (x3)), none] [] g P := by
  refine z_iload_n dX11_digest_133 rfl rfl ?_
  refine z_aload_n dX11_digest_134 rfl rfl ?_
  refine m_callV (as := []) dX11_digest_135 lk_X11_241 mok_X11_names in_X11_names sl_X11_names kt_228 rfl rfl rfl (Nat.le_of_ble_eq_true rfl) rfl (Nat.le_of_ble_eq_true rfl) rfl (c_X11_names  ?_)
  show Zm w (d + 8) mX11_digest 138 [some (aR (some (228))), some (aL (x1)), none, some (aI (x3)), none] [aI (g 228 12 + g 228 10), aI (x3)] g P
  refine z_icmp_ge (tgt := 195) dX11_digest_138 (by decide) (fun c1 => ?_) (fun c1 => ?_)
  · replace h := h.1 c1
    refine z_iconst dX11_digest_195 ?_
    refine z_istore_n dX11_digest_196 rfl (by decide) rfl ?_
    show Zm w (d + 8) mX11_digest 197 [some (aR (some (228))), some (aL (x1)), none, some (aI (0)), none] [] g P
    exact z_weak (by simp [lle]) h
  · replace h := h.2 (Decidable.not_not.mp c1)
    refine z_iconst dX11_digest_141 ?_
    refine z_istore dX11_digest_142 (by decide) rfl ?_
    show Zm w (d + 8) mX11_digest 144 [some (aR (some (228))), some (aL (x1)), none, some (aI (x3)), some (aI (0))] [] g P
    exact z_weak (by simp [lle]) h
set_option maxRecDepth 4000 in
theorem s_X11_digest_144 {w : GX} {d : Nat} {P : PN} {g : GI} (x1 : Int) (x3 : Int) (x4 : Int)
    (h : ((¬ nm x4 < nm 3 → Zm w (d + 7) mX11_nameOf 0 [some (aR (some (228))), some (aI (19)), some (aI (x3)), some (aI (0))] [] g (fun r g2 => ∃ z3 : Int, r = some (aI z3) ∧ (∀ v4 : Int, v4 = (31 * x1) + (nm z3) → Zm w (d + 8) mX11_digest 133 [some (aR (some (228))), some (aL (v4)), none, some (aI (x3 + 1)), none] [] g2 P))) ∧ (nm x4 < nm 3 → Zm w (d + 7) mX11_nameOf 0 [some (aR (some (228))), some (aI (9)), some (aI (x3)), some (aI (x4))] [] g (fun r g5 => ∃ z6 : Int, r = some (aI z6) ∧ (∀ v7 : Int, v7 = (31 * x1) + (nm z6) → Zm w (d + 8) mX11_digest 144 [some (aR (some (228))), some (aL (v7)), none, some (aI (x3)), some (aI (x4 + 1))] [] g5 P))))) :
    Zm w (d + 8) mX11_digest 144 [some (aR (some (228))), some (aL (x1)), none, some (aI (x3)), some (aI (x4))] [] g P := by
  refine z_iload dX11_digest_144 rfl ?_
  refine z_iconst dX11_digest_146 ?_
  refine z_icmp_ge (tgt := 173) dX11_digest_147 (by decide) (fun c1 => ?_) (fun c1 => ?_)
  · replace h := h.1 c1
    refine z_ldc2 dX11_digest_173 kl_X11_325 ?_
    refine z_lload_n dX11_digest_176 rfl rfl ?_
    refine z_lmul dX11_digest_177 ?_
    refine z_aload_n dX11_digest_178 rfl rfl ?_
    refine z_bipush dX11_digest_179 rfl ?_
    refine z_iload_n dX11_digest_181 rfl rfl ?_
    refine z_iconst dX11_digest_182 ?_
    refine m_callV (as := [aI (19), aI (x3), aI (0)]) dX11_digest_183 lk_X11_244 mok_X11_nameOf in_X11_nameOf sl_X11_nameOf kt_228 rfl rfl rfl (Nat.le_of_ble_eq_true rfl) rfl (Nat.le_of_ble_eq_true rfl) rfl (m_mono (fun r g2 hr => ?_) h)
    obtain ⟨z3, rfl, h⟩ := hr
    show Zm w (d + 8) mX11_digest 186 [some (aR (some (228))), some (aL (x1)), none, some (aI (x3)), some (aI (x4))] [aI (z3), aL (31 * x1)] g2 P
    refine z_i2l dX11_digest_186 ?_
    refine z_ladd dX11_digest_187 ?_
    replace h := h _ rfl
    refine z_lstore_n dX11_digest_188 rfl (by decide) rfl ?_
    show Zm w (d + 8) mX11_digest 189 [some (aR (some (228))), some (aL ((31 * x1) + (nm z3))), none, some (aI (x3)), some (aI (x4))] [] g2 P
    refine z_iinc dX11_digest_189 rfl (by decide) rfl ?_
    show Zm w (d + 8) mX11_digest 192 [some (aR (some (228))), some (aL (((31 * x1) + (nm z3)))), none, some (aI (x3 + 1)), some (aI (x4))] [] g2 P
    refine z_goto (tgt := 133) dX11_digest_192 (by decide) ?_
    exact z_weak (by simp [lle]) h
  · replace h := h.2 (Decidable.not_not.mp c1)
    refine z_ldc2 dX11_digest_150 kl_X11_325 ?_
    refine z_lload_n dX11_digest_153 rfl rfl ?_
    refine z_lmul dX11_digest_154 ?_
    refine z_aload_n dX11_digest_155 rfl rfl ?_
    refine z_bipush dX11_digest_156 rfl ?_
    refine z_iload_n dX11_digest_158 rfl rfl ?_
    refine z_iload dX11_digest_159 rfl ?_
    refine m_callV (as := [aI (9), aI (x3), aI (x4)]) dX11_digest_161 lk_X11_244 mok_X11_nameOf in_X11_nameOf sl_X11_nameOf kt_228 rfl rfl rfl (Nat.le_of_ble_eq_true rfl) rfl (Nat.le_of_ble_eq_true rfl) rfl (m_mono (fun r g5 hr => ?_) h)
    obtain ⟨z6, rfl, h⟩ := hr
    show Zm w (d + 8) mX11_digest 164 [some (aR (some (228))), some (aL (x1)), none, some (aI (x3)), some (aI (x4))] [aI (z6), aL (31 * x1)] g5 P
    refine z_i2l dX11_digest_164 ?_
    refine z_ladd dX11_digest_165 ?_
    replace h := h _ rfl
    refine z_lstore_n dX11_digest_166 rfl (by decide) rfl ?_
    show Zm w (d + 8) mX11_digest 167 [some (aR (some (228))), some (aL ((31 * x1) + (nm z6))), none, some (aI (x3)), some (aI (x4))] [] g5 P
    refine z_iinc dX11_digest_167 rfl (by decide) rfl ?_
    show Zm w (d + 8) mX11_digest 170 [some (aR (some (228))), some (aL (((31 * x1) + (nm z6)))), none, some (aI (x3)), some (aI (x4 + 1))] [] g5 P
    refine z_goto (tgt := 144) dX11_digest_170 (by decide) ?_
    exact z_weak (by simp [lle]) h
set_option maxRecDepth 4000 in
theorem s_X11_digest_197 {w : GX} {d : Nat} {P : PN} {g : GI} (x1 : Int) (x3 : Int)
    (h : ((¬ nm x3 < nm (g 228 14) → Zm w (d + 7) mX11_sameOf 0 [some (aR (some (228))), some (aI (9))] [] g (fun r g2 => ∃ z3 : Int, r = some (aI z3) ∧ (∀ v4 : Int, v4 = (31 * x1) + (nm z3) → Zm w (d + 7) mX11_firstOf 0 [some (aR (some (228))), some (aI (0)), none] [] g2 (fun r g5 => ∃ z6 : Int, r = some (aI z6) ∧ (∀ v7 : Int, v7 = (31 * v4) + (nm z6) → Zm w (d + 7) mX11_firstOf 0 [some (aR (some (228))), some (aI (1)), none] [] g5 (fun r g8 => ∃ z9 : Int, r = some (aI z9) ∧ (∀ v10 : Int, v10 = (31 * v7) + (nm z9) → Zm w (d + 7) mX11_netOf 0 [some (aR (some (228))), some (aI (2)), some (aI ((-1))), none, none, none, none, none, none, none] [] g8 (fun r g11 => ∃ z12 : Int, r = some (aI z12) ∧ (∀ v13 : Int, v13 = (31 * v10) + (nm z12) → Zm w (d + 7) mX11_netOf 0 [some (aR (some (228))), some (aI (2)), some (aI (0)), none, none, none, none, none, none, none] [] g11 (fun r g14 => ∃ z15 : Int, r = some (aI z15) ∧ (∀ v16 : Int, v16 = (31 * v13) + (nm z15) → Zm w (d + 7) mX11_neverNow 0 [some (aR (some (228))), none, none] [] g14 (fun r g17 => ∃ z18 : Int, r = some (aI z18) ∧ (∀ v19 : Int, v19 = (31 * v16) + (nm z18) → Zm w (d + 7) mX11_askOf 0 [some (aR (some (228))), some (aI (9)), none, none, none, none, none, none] [] g17 (fun r g20 => ∃ z21 : Int, r = some (aI z21) ∧ (∀ v22 : Int, v22 = (31 * v19) + (nm z21) → Zm w (d + 7) mX11_crowdOf 0 [some (aR (some (228))), some (aI (7)), some (aI (19)), some (aI ((-1))), none, none, none] [] g20 (fun r g23 => ∃ z24 : Int, r = some (aI z24) ∧ P (some (aL ((31 * v22) + (nm z24)))) g23)))))))))))))))) ∧ (nm x3 < nm (g 228 14) → Zm w (d + 7) mX11_changesOf 0 [some (aR (some (228))), some (aI (x3))] [] g (fun r g25 => ∃ z26 : Int, r = some (aI z26) ∧ (∀ v27 : Int, v27 = (31 * x1) + (nm z26) → Zm w (d + 8) mX11_digest 197 [some (aR (some (228))), some (aL (v27)), none, some (aI (x3 + 1)), none] [] g25 P))))) :
    Zm w (d + 8) mX11_digest 197 [some (aR (some (228))), some (aL (x1)), none, some (aI (x3)), none] [] g P := by
  refine z_iload_n dX11_digest_197 rfl rfl ?_
  refine z_aload_n dX11_digest_198 rfl rfl ?_
  refine z_getI dX11_digest_199 fl_X11_169 (by decide) kt_228 ?_
  refine z_icmp_ge (tgt := 224) dX11_digest_202 (by decide) (fun c1 => ?_) (fun c1 => ?_)
  · replace h := h.1 c1
    refine z_ldc2 dX11_digest_224 kl_X11_325 ?_
    refine z_lload_n dX11_digest_227 rfl rfl ?_
    refine z_lmul dX11_digest_228 ?_
    refine z_aload_n dX11_digest_229 rfl rfl ?_
    refine z_bipush dX11_digest_230 rfl ?_
    refine m_callV (as := [aI (9)]) dX11_digest_232 lk_X11_250 mok_X11_sameOf in_X11_sameOf sl_X11_sameOf kt_228 rfl rfl rfl (Nat.le_of_ble_eq_true rfl) rfl (Nat.le_of_ble_eq_true rfl) rfl (m_mono (fun r g2 hr => ?_) h)
    obtain ⟨z3, rfl, h⟩ := hr
    show Zm w (d + 8) mX11_digest 235 [some (aR (some (228))), some (aL (x1)), none, some (aI (x3)), none] [aI (z3), aL (31 * x1)] g2 P
    refine z_i2l dX11_digest_235 ?_
    refine z_ladd dX11_digest_236 ?_
    replace h := h _ rfl
    refine z_lstore_n dX11_digest_237 rfl (by decide) rfl ?_
    show Zm w (d + 8) mX11_digest 238 [some (aR (some (228))), some (aL ((31 * x1) + (nm z3))), none, some (aI (x3)), none] [] g2 P
    refine z_ldc2 dX11_digest_238 kl_X11_325 ?_
    refine z_lload_n dX11_digest_241 rfl rfl ?_
    refine z_lmul dX11_digest_242 ?_
    refine z_aload_n dX11_digest_243 rfl rfl ?_
    refine z_iconst dX11_digest_244 ?_
    refine m_callV (as := [aI (0)]) dX11_digest_245 lk_X11_253 mok_X11_firstOf in_X11_firstOf sl_X11_firstOf kt_228 rfl rfl rfl (Nat.le_of_ble_eq_true rfl) rfl (Nat.le_of_ble_eq_true rfl) rfl (m_mono (fun r g5 hr => ?_) h)
    obtain ⟨z6, rfl, h⟩ := hr
    show Zm w (d + 8) mX11_digest 248 [some (aR (some (228))), some (aL (((31 * x1) + (nm z3)))), none, some (aI (x3)), none] [aI (z6), aL (31 * ((31 * x1) + (nm z3)))] g5 P
    refine z_i2l dX11_digest_248 ?_
    refine z_ladd dX11_digest_249 ?_
    replace h := h _ rfl
    refine z_lstore_n dX11_digest_250 rfl (by decide) rfl ?_
    show Zm w (d + 8) mX11_digest 251 [some (aR (some (228))), some (aL ((31 * ((31 * x1) + (nm z3))) + (nm z6))), none, some (aI (x3)), none] [] g5 P
    refine z_ldc2 dX11_digest_251 kl_X11_325 ?_
    refine z_lload_n dX11_digest_254 rfl rfl ?_
    refine z_lmul dX11_digest_255 ?_
    refine z_aload_n dX11_digest_256 rfl rfl ?_
    refine z_iconst dX11_digest_257 ?_
    refine m_callV (as := [aI (1)]) dX11_digest_258 lk_X11_253 mok_X11_firstOf in_X11_firstOf sl_X11_firstOf kt_228 rfl rfl rfl (Nat.le_of_ble_eq_true rfl) rfl (Nat.le_of_ble_eq_true rfl) rfl (m_mono (fun r g8 hr => ?_) h)
    obtain ⟨z9, rfl, h⟩ := hr
    show Zm w (d + 8) mX11_digest 261 [some (aR (some (228))), some (aL (((31 * ((31 * x1) + (nm z3))) + (nm z6)))), none, some (aI (x3)), none] [aI (z9), aL (31 * ((31 * ((31 * x1) + (nm z3))) + (nm z6)))] g8 P
    refine z_i2l dX11_digest_261 ?_
    refine z_ladd dX11_digest_262 ?_
    replace h := h _ rfl
    refine z_lstore_n dX11_digest_263 rfl (by decide) rfl ?_
    show Zm w (d + 8) mX11_digest 264 [some (aR (some (228))), some (aL ((31 * ((31 * ((31 * x1) + (nm z3))) + (nm z6))) + (nm z9))), none, some (aI (x3)), none] [] g8 P
    refine z_ldc2 dX11_digest_264 kl_X11_325 ?_
    refine z_lload_n dX11_digest_267 rfl rfl ?_
    refine z_lmul dX11_digest_268 ?_
    refine z_aload_n dX11_digest_269 rfl rfl ?_
    refine z_iconst dX11_digest_270 ?_
    refine z_iconst dX11_digest_271 ?_
    refine m_callV (as := [aI (2), aI ((-1))]) dX11_digest_272 lk_X11_274 mok_X11_netOf in_X11_netOf sl_X11_netOf kt_228 rfl rfl rfl (Nat.le_of_ble_eq_true rfl) rfl (Nat.le_of_ble_eq_true rfl) rfl (m_mono (fun r g11 hr => ?_) h)
    obtain ⟨z12, rfl, h⟩ := hr
    show Zm w (d + 8) mX11_digest 275 [some (aR (some (228))), some (aL (((31 * ((31 * ((31 * x1) + (nm z3))) + (nm z6))) + (nm z9)))), none, some (aI (x3)), none] [aI (z12), aL (31 * ((31 * ((31 * ((31 * x1) + (nm z3))) + (nm z6))) + (nm z9)))] g11 P
    refine z_i2l dX11_digest_275 ?_
    refine z_ladd dX11_digest_276 ?_
    replace h := h _ rfl
    refine z_lstore_n dX11_digest_277 rfl (by decide) rfl ?_
    show Zm w (d + 8) mX11_digest 278 [some (aR (some (228))), some (aL ((31 * ((31 * ((31 * ((31 * x1) + (nm z3))) + (nm z6))) + (nm z9))) + (nm z12))), none, some (aI (x3)), none] [] g11 P
    refine z_ldc2 dX11_digest_278 kl_X11_325 ?_
    refine z_lload_n dX11_digest_281 rfl rfl ?_
    refine z_lmul dX11_digest_282 ?_
    refine z_aload_n dX11_digest_283 rfl rfl ?_
    refine z_iconst dX11_digest_284 ?_
    refine z_iconst dX11_digest_285 ?_
    refine m_callV (as := [aI (2), aI (0)]) dX11_digest_286 lk_X11_274 mok_X11_netOf in_X11_netOf sl_X11_netOf kt_228 rfl rfl rfl (Nat.le_of_ble_eq_true rfl) rfl (Nat.le_of_ble_eq_true rfl) rfl (m_mono (fun r g14 hr => ?_) h)
    obtain ⟨z15, rfl, h⟩ := hr
    show Zm w (d + 8) mX11_digest 289 [some (aR (some (228))), some (aL (((31 * ((31 * ((31 * ((31 * x1) + (nm z3))) + (nm z6))) + (nm z9))) + (nm z12)))), none, some (aI (x3)), none] [aI (z15), aL (31 * ((31 * ((31 * ((31 * ((31 * x1) + (nm z3))) + (nm z6))) + (nm z9))) + (nm z12)))] g14 P
    refine z_i2l dX11_digest_289 ?_
    refine z_ladd dX11_digest_290 ?_
    replace h := h _ rfl
    refine z_lstore_n dX11_digest_291 rfl (by decide) rfl ?_
    show Zm w (d + 8) mX11_digest 292 [some (aR (some (228))), some (aL ((31 * ((31 * ((31 * ((31 * ((31 * x1) + (nm z3))) + (nm z6))) + (nm z9))) + (nm z12))) + (nm z15))), none, some (aI (x3)), none] [] g14 P
    refine z_ldc2 dX11_digest_292 kl_X11_325 ?_
    refine z_lload_n dX11_digest_295 rfl rfl ?_
    refine z_lmul dX11_digest_296 ?_
    refine z_aload_n dX11_digest_297 rfl rfl ?_
    refine m_callV (as := []) dX11_digest_298 lk_X11_284 mok_X11_neverNow in_X11_neverNow sl_X11_neverNow kt_228 rfl rfl rfl (Nat.le_of_ble_eq_true rfl) rfl (Nat.le_of_ble_eq_true rfl) rfl (m_mono (fun r g17 hr => ?_) h)
    obtain ⟨z18, rfl, h⟩ := hr
    show Zm w (d + 8) mX11_digest 301 [some (aR (some (228))), some (aL (((31 * ((31 * ((31 * ((31 * ((31 * x1) + (nm z3))) + (nm z6))) + (nm z9))) + (nm z12))) + (nm z15)))), none, some (aI (x3)), none] [aI (z18), aL (31 * ((31 * ((31 * ((31 * ((31 * ((31 * x1) + (nm z3))) + (nm z6))) + (nm z9))) + (nm z12))) + (nm z15)))] g17 P
    refine z_i2l dX11_digest_301 ?_
    refine z_ladd dX11_digest_302 ?_
    replace h := h _ rfl
    refine z_lstore_n dX11_digest_303 rfl (by decide) rfl ?_
    show Zm w (d + 8) mX11_digest 304 [some (aR (some (228))), some (aL ((31 * ((31 * ((31 * ((31 * ((31 * ((31 * x1) + (nm z3))) + (nm z6))) + (nm z9))) + (nm z12))) + (nm z15))) + (nm z18))), none, some (aI (x3)), none] [] g17 P
    refine z_ldc2 dX11_digest_304 kl_X11_325 ?_
    refine z_lload_n dX11_digest_307 rfl rfl ?_
    refine z_lmul dX11_digest_308 ?_
    refine z_aload_n dX11_digest_309 rfl rfl ?_
    refine z_bipush dX11_digest_310 rfl ?_
    refine m_callV (as := [aI (9)]) dX11_digest_312 lk_X11_290 mok_X11_askOf in_X11_askOf sl_X11_askOf kt_228 rfl rfl rfl (Nat.le_of_ble_eq_true rfl) rfl (Nat.le_of_ble_eq_true rfl) rfl (m_mono (fun r g20 hr => ?_) h)
    obtain ⟨z21, rfl, h⟩ := hr
    show Zm w (d + 8) mX11_digest 315 [some (aR (some (228))), some (aL (((31 * ((31 * ((31 * ((31 * ((31 * ((31 * x1) + (nm z3))) + (nm z6))) + (nm z9))) + (nm z12))) + (nm z15))) + (nm z18)))), none, some (aI (x3)), none] [aI (z21), aL (31 * ((31 * ((31 * ((31 * ((31 * ((31 * ((31 * x1) + (nm z3))) + (nm z6))) + (nm z9))) + (nm z12))) + (nm z15))) + (nm z18)))] g20 P
    refine z_i2l dX11_digest_315 ?_
    refine z_ladd dX11_digest_316 ?_
    replace h := h _ rfl
    refine z_lstore_n dX11_digest_317 rfl (by decide) rfl ?_
    show Zm w (d + 8) mX11_digest 318 [some (aR (some (228))), some (aL ((31 * ((31 * ((31 * ((31 * ((31 * ((31 * ((31 * x1) + (nm z3))) + (nm z6))) + (nm z9))) + (nm z12))) + (nm z15))) + (nm z18))) + (nm z21))), none, some (aI (x3)), none] [] g20 P
    refine z_ldc2 dX11_digest_318 kl_X11_325 ?_
    refine z_lload_n dX11_digest_321 rfl rfl ?_
    refine z_lmul dX11_digest_322 ?_
    refine z_aload_n dX11_digest_323 rfl rfl ?_
    refine z_bipush dX11_digest_324 rfl ?_
    refine z_bipush dX11_digest_326 rfl ?_
    refine z_iconst dX11_digest_328 ?_
    refine m_callV (as := [aI (7), aI (19), aI ((-1))]) dX11_digest_329 lk_X11_319 mok_X11_crowdOf in_X11_crowdOf sl_X11_crowdOf kt_228 rfl rfl rfl (Nat.le_of_ble_eq_true rfl) rfl (Nat.le_of_ble_eq_true rfl) rfl (m_mono (fun r g23 hr => ?_) h)
    obtain ⟨z24, rfl, h⟩ := hr
    show Zm w (d + 8) mX11_digest 332 [some (aR (some (228))), some (aL (((31 * ((31 * ((31 * ((31 * ((31 * ((31 * ((31 * x1) + (nm z3))) + (nm z6))) + (nm z9))) + (nm z12))) + (nm z15))) + (nm z18))) + (nm z21)))), none, some (aI (x3)), none] [aI (z24), aL (31 * ((31 * ((31 * ((31 * ((31 * ((31 * ((31 * ((31 * x1) + (nm z3))) + (nm z6))) + (nm z9))) + (nm z12))) + (nm z15))) + (nm z18))) + (nm z21)))] g23 P
    refine z_i2l dX11_digest_332 ?_
    refine z_ladd dX11_digest_333 ?_
    exact m_lret dX11_digest_334 rfl h
  · replace h := h.2 (Decidable.not_not.mp c1)
    refine z_ldc2 dX11_digest_205 kl_X11_325 ?_
    refine z_lload_n dX11_digest_208 rfl rfl ?_
    refine z_lmul dX11_digest_209 ?_
    refine z_aload_n dX11_digest_210 rfl rfl ?_
    refine z_iload_n dX11_digest_211 rfl rfl ?_
    refine m_callV (as := [aI (x3)]) dX11_digest_212 lk_X11_256 mok_X11_changesOf in_X11_changesOf sl_X11_changesOf kt_228 rfl rfl rfl (Nat.le_of_ble_eq_true rfl) rfl (Nat.le_of_ble_eq_true rfl) rfl (m_mono (fun r g25 hr => ?_) h)
    obtain ⟨z26, rfl, h⟩ := hr
    show Zm w (d + 8) mX11_digest 215 [some (aR (some (228))), some (aL (x1)), none, some (aI (x3)), none] [aI (z26), aL (31 * x1)] g25 P
    refine z_i2l dX11_digest_215 ?_
    refine z_ladd dX11_digest_216 ?_
    replace h := h _ rfl
    refine z_lstore_n dX11_digest_217 rfl (by decide) rfl ?_
    show Zm w (d + 8) mX11_digest 218 [some (aR (some (228))), some (aL ((31 * x1) + (nm z26))), none, some (aI (x3)), none] [] g25 P
    refine z_iinc dX11_digest_218 rfl (by decide) rfl ?_
    show Zm w (d + 8) mX11_digest 221 [some (aR (some (228))), some (aL (((31 * x1) + (nm z26)))), none, some (aI (x3 + 1)), none] [] g25 P
    refine z_goto (tgt := 197) dX11_digest_221 (by decide) ?_
    exact z_weak (by simp [lle]) h
