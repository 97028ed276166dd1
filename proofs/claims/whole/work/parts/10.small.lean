/-! small methods -/
def bI (b : Bool) : Int := if b then 1 else 0
theorem bI_01 (b : Bool) : bI b = 0 ∨ bI b = 1 := by cases b <;> simp [bI]
theorem nm_bI (b : Bool) : nm (bI b) = bI b := by cases b <;> decide
theorem bI_0 (b : Bool) : bI b = 0 ↔ b = false := by cases b <;> simp [bI]
theorem nbI_0 (b : Bool) : nm (bI b) = 0 ↔ b = false := by rw [nm_bI, bI_0]
theorem nm_lit0 : nm 0 = 0 := by decide
theorem nm_lit1 : nm 1 = 1 := by decide
theorem nm_m1 : nm (-1) = -1 := by decide
theorem nml_nm (x : Int) : nml (nm x) = nm x := nml_id (by have := nm_rng x; omega) (by have := nm_rng x; omega)
def inn (x lo hi : Int) : Int := bI (decide (lo ≤ nm x ∧ nm x ≤ hi))
def wi (v n : Int) : Int := bI (decide (0 ≤ nm v ∧ nm v < nm n))
def n12 (i : Int) : Int := bI (decide (nm i = -1 ∨ (0 ≤ nm i ∧ nm i < 2)))
def kob (b : Int) : Int := if nm b = 46 then 0 else if nm b = 61 then 2 else if nm b = 126 then 1 else if 97 ≤ nm b ∧ nm b ≤ 122 then 3 else -1
def fitP (k b : Int) : Int := bI (decide (if nm k = 0 then 97 ≤ nm b ∧ nm b ≤ 122 else if nm k = 1 ∨ nm k = 2 ∨ nm k = 4 then 48 ≤ nm b ∧ nm b ≤ 57 else if nm k = 3 then nm b = 46 ∨ (48 ≤ nm b ∧ nm b ≤ 55) else nm b = 59))
def vow (l : Int) : Int := if l < 4 then 0 else if l < 8 then 4 else if l < 14 then 8 else if l < 20 then 14 else 20
def lwh (fresh worn lim : Int) : Int := if nm worn < nm lim then fresh else vow (nm fresh)
def isNeg (z : Int) : Int := bI (decide (nm z < 0))
def hld (sz i n : Int) : Int := bI (decide (0 ≤ nm i ∧ 0 ≤ nm n ∧ nm i ≤ nm sz ∧ nm n ≤ nm (sz - i)))
def lin (v lo hi : Int) : Int := bI (decide (nml lo ≤ nml v ∧ nml v ≤ nml hi))
def isB (b k : Int) : Int := bI (decide (nm (iAnd (iShr b k) 1) = 1))
def lss (x y : Int) : Int := if nm x < nm y then x else y
def cutI (f v : Int) : Int := if nm f = 0 then iByte v else if nm f = 1 then iShort v else v
def tof (k b : Int) : Int := if nm k = 0 then (if 97 ≤ nm b ∧ nm b ≤ 122 then b - 97 else -9) else if nm k = 3 then (if nm b = 46 then -1 else if 48 ≤ nm b ∧ nm b ≤ 55 then b - 48 else -9) else if nm k = 5 then (if nm b = 59 then 0 else -9) else if 48 ≤ nm b ∧ nm b ≤ 57 then b - 48 else -9
theorem pI {P : PN} {g : GI} {a b : Int} (h : P (some (aI a)) g) (e : a = b) : P (some (aI b)) g := e ▸ h
theorem lCmp_lt (x y : Int) : nm (lCmp x y) < 0 ↔ nml x < nml y := by
  unfold lCmp nm
  rw [Int32.ofInt_toInt]
  unfold lg_cmp nml
  simp only [gt_iff_lt, Int64.lt_iff_toInt_lt, ← Int64.toInt_inj]
  split
  · have : (1 : Int32).toInt = 1 := rfl
    omega
  · split
    · have : (0 : Int32).toInt = 0 := rfl
      omega
    · have : (-1 : Int32).toInt = -1 := rfl
      omega
theorem lCmp_gt (x y : Int) : 0 < nm (lCmp x y) ↔ nml y < nml x := by
  unfold lCmp nm
  rw [Int32.ofInt_toInt]
  unfold lg_cmp nml
  simp only [gt_iff_lt, Int64.lt_iff_toInt_lt, ← Int64.toInt_inj]
  split
  · have : (1 : Int32).toInt = 1 := rfl
    omega
  · split
    · have : (0 : Int32).toInt = 0 := rfl
      omega
    · have : (-1 : Int32).toInt = -1 := rfl
      omega
theorem lCmp_eq (x y : Int) : nm (lCmp x y) = 0 ↔ nml x = nml y := by
  have h1 := lCmp_lt x y
  have h2 := lCmp_gt x y
  omega

theorem dX10_within_0 : decode cX10_within 0 = .ok (.iload_n 0, 1) := by decide +kernel
theorem dX10_within_1 : decode cX10_within 1 = .ok (.ifCond .lt 12, 3) := by decide +kernel
theorem dX10_within_4 : decode cX10_within 4 = .ok (.iload_n 0, 1) := by decide +kernel
theorem dX10_within_5 : decode cX10_within 5 = .ok (.iload_n 1, 1) := by decide +kernel
theorem dX10_within_6 : decode cX10_within 6 = .ok (.if_icmp .ge 7, 3) := by decide +kernel
theorem dX10_within_9 : decode cX10_within 9 = .ok (.iconst 1, 1) := by decide +kernel
theorem dX10_within_10 : decode cX10_within 10 = .ok (.goto 4, 3) := by decide +kernel
theorem dX10_within_13 : decode cX10_within 13 = .ok (.iconst 0, 1) := by decide +kernel
theorem dX10_within_14 : decode cX10_within 14 = .ok (.ireturn, 1) := by decide +kernel
set_option maxRecDepth 4000 in
theorem s_X10_within_0 {w : GX} {d : Nat} {P : PN} {g : GI} (x0 : Int) (x1 : Int)
    (h : ((nm x0 < 0 → P (some (aI (0))) g) ∧ (¬ nm x0 < 0 → ((¬ nm x0 < nm x1 → P (some (aI (0))) g) ∧ (nm x0 < nm x1 → P (some (aI (1))) g))))) :
    Zm w d mX10_within 0 [some (aI (x0)), some (aI (x1))] [] g P := by
  refine z_iload_n dX10_within_0 rfl rfl ?_
  refine z_if_lt (tgt := 13) dX10_within_1 (by decide) (fun c1 => ?_) (fun c1 => ?_)
  · replace h := h.1 c1
    refine z_iconst dX10_within_13 ?_
    exact m_zret dX10_within_14 rfl (by decide) h
  · replace h := h.2 c1
    refine z_iload_n dX10_within_4 rfl rfl ?_
    refine z_iload_n dX10_within_5 rfl rfl ?_
    refine z_icmp_ge (tgt := 13) dX10_within_6 (by decide) (fun c2 => ?_) (fun c2 => ?_)
    · replace h := h.1 c2
      refine z_iconst dX10_within_13 ?_
      exact m_zret dX10_within_14 rfl (by decide) h
    · replace h := h.2 (Decidable.not_not.mp c2)
      refine z_iconst dX10_within_9 ?_
      refine z_goto (tgt := 14) dX10_within_10 (by decide) ?_
      exact m_zret dX10_within_14 rfl (by decide) h
theorem c_X10_within {w : GX} {d : Nat} {P : PN} {g : GI} {x0 x1 : Int}  (hP : P (some (aI (wi x0 x1))) g) : Zm w d mX10_within 0 [some (aI x0), some (aI x1)] [] g P := by
  refine s_X10_within_0 _ _ ?_
  try simp (disch := omega) only [nm_id, nm_lit0, nm_lit1, nm_m1, lCmp_lt, lCmp_gt, lCmp_eq, nbI_0, decide_eq_false_iff_not, true_and]
  repeat' (first | apply And.intro | intro _)

  all_goals first | exact bI_01 _ | (exact pI hP (by unfold wi; (try simp only [bI, decide_eq_true_eq]); (repeat' split) <;> omega))
theorem dX7_isLetter_0 : decode cX7_isLetter 0 = .ok (.iload_n 0, 1) := by decide +kernel
theorem dX7_isLetter_1 : decode cX7_isLetter 1 = .ok (.bipush 97, 2) := by decide +kernel
theorem dX7_isLetter_3 : decode cX7_isLetter 3 = .ok (.if_icmp .lt 13, 3) := by decide +kernel
theorem dX7_isLetter_6 : decode cX7_isLetter 6 = .ok (.iload_n 0, 1) := by decide +kernel
theorem dX7_isLetter_7 : decode cX7_isLetter 7 = .ok (.bipush 122, 2) := by decide +kernel
theorem dX7_isLetter_9 : decode cX7_isLetter 9 = .ok (.if_icmp .gt 7, 3) := by decide +kernel
theorem dX7_isLetter_12 : decode cX7_isLetter 12 = .ok (.iconst 1, 1) := by decide +kernel
theorem dX7_isLetter_13 : decode cX7_isLetter 13 = .ok (.goto 4, 3) := by decide +kernel
theorem dX7_isLetter_16 : decode cX7_isLetter 16 = .ok (.iconst 0, 1) := by decide +kernel
theorem dX7_isLetter_17 : decode cX7_isLetter 17 = .ok (.ireturn, 1) := by decide +kernel
set_option maxRecDepth 4000 in
theorem s_X7_isLetter_0 {w : GX} {d : Nat} {P : PN} {g : GI} (x0 : Int)
    (h : ((nm x0 < nm 97 → P (some (aI (0))) g) ∧ (¬ nm x0 < nm 97 → ((nm 122 < nm x0 → P (some (aI (0))) g) ∧ (¬ nm 122 < nm x0 → P (some (aI (1))) g))))) :
    Zm w d mX7_isLetter 0 [some (aI (x0))] [] g P := by
  refine z_iload_n dX7_isLetter_0 rfl rfl ?_
  refine z_bipush dX7_isLetter_1 rfl ?_
  refine z_icmp_lt (tgt := 16) dX7_isLetter_3 (by decide) (fun c1 => ?_) (fun c1 => ?_)
  · replace h := h.1 c1
    refine z_iconst dX7_isLetter_16 ?_
    exact m_zret dX7_isLetter_17 rfl (by decide) h
  · replace h := h.2 c1
    refine z_iload_n dX7_isLetter_6 rfl rfl ?_
    refine z_bipush dX7_isLetter_7 rfl ?_
    refine z_icmp_gt (tgt := 16) dX7_isLetter_9 (by decide) (fun c2 => ?_) (fun c2 => ?_)
    · replace h := h.1 c2
      refine z_iconst dX7_isLetter_16 ?_
      exact m_zret dX7_isLetter_17 rfl (by decide) h
    · replace h := h.2 c2
      refine z_iconst dX7_isLetter_12 ?_
      refine z_goto (tgt := 17) dX7_isLetter_13 (by decide) ?_
      exact m_zret dX7_isLetter_17 rfl (by decide) h
theorem c_X7_isLetter {w : GX} {d : Nat} {P : PN} {g : GI} {x0 : Int}  (hP : P (some (aI (inn x0 97 122))) g) : Zm w d mX7_isLetter 0 [some (aI x0)] [] g P := by
  refine s_X7_isLetter_0 _ ?_
  try simp (disch := omega) only [nm_id, nm_lit0, nm_lit1, nm_m1, lCmp_lt, lCmp_gt, lCmp_eq, nbI_0, decide_eq_false_iff_not, true_and]
  repeat' (first | apply And.intro | intro _)

  all_goals first | exact bI_01 _ | (exact pI hP (by unfold inn; (try simp only [bI, decide_eq_true_eq]); (repeat' split) <;> omega))
theorem dX10_isNoneOrOneOfTwo_0 : decode cX10_isNoneOrOneOfTwo 0 = .ok (.iload_n 0, 1) := by decide +kernel
theorem dX10_isNoneOrOneOfTwo_1 : decode cX10_isNoneOrOneOfTwo 1 = .ok (.iconst (-1), 1) := by decide +kernel
theorem dX10_isNoneOrOneOfTwo_2 : decode cX10_isNoneOrOneOfTwo 2 = .ok (.if_icmp .eq 11, 3) := by decide +kernel
theorem dX10_isNoneOrOneOfTwo_5 : decode cX10_isNoneOrOneOfTwo 5 = .ok (.iload_n 0, 1) := by decide +kernel
theorem dX10_isNoneOrOneOfTwo_6 : decode cX10_isNoneOrOneOfTwo 6 = .ok (.iconst 2, 1) := by decide +kernel
theorem dX10_isNoneOrOneOfTwo_7 : decode cX10_isNoneOrOneOfTwo 7 = .ok (.invokestatic 90, 3) := by decide +kernel
theorem dX10_isNoneOrOneOfTwo_10 : decode cX10_isNoneOrOneOfTwo 10 = .ok (.ifCond .eq 7, 3) := by decide +kernel
theorem dX10_isNoneOrOneOfTwo_13 : decode cX10_isNoneOrOneOfTwo 13 = .ok (.iconst 1, 1) := by decide +kernel
theorem dX10_isNoneOrOneOfTwo_14 : decode cX10_isNoneOrOneOfTwo 14 = .ok (.goto 4, 3) := by decide +kernel
theorem dX10_isNoneOrOneOfTwo_17 : decode cX10_isNoneOrOneOfTwo 17 = .ok (.iconst 0, 1) := by decide +kernel
theorem dX10_isNoneOrOneOfTwo_18 : decode cX10_isNoneOrOneOfTwo 18 = .ok (.ireturn, 1) := by decide +kernel
set_option maxRecDepth 4000 in
theorem s_X10_isNoneOrOneOfTwo_0 {w : GX} {d : Nat} {P : PN} {g : GI} (x0 : Int)
    (h : ((nm x0 = nm ((-1)) → P (some (aI (1))) g) ∧ (¬ nm x0 = nm ((-1)) → (((nm (wi (x0) (2)) = 0 → P (some (aI (0))) g) ∧ (¬ nm (wi (x0) (2)) = 0 → P (some (aI (1))) g)))))) :
    Zm w (d + 1) mX10_isNoneOrOneOfTwo 0 [some (aI (x0))] [] g P := by
  refine z_iload_n dX10_isNoneOrOneOfTwo_0 rfl rfl ?_
  refine z_iconst dX10_isNoneOrOneOfTwo_1 ?_
  refine z_icmp_eq (tgt := 13) dX10_isNoneOrOneOfTwo_2 (by decide) (fun c1 => ?_) (fun c1 => ?_)
  · replace h := h.1 c1
    refine z_iconst dX10_isNoneOrOneOfTwo_13 ?_
    refine z_goto (tgt := 18) dX10_isNoneOrOneOfTwo_14 (by decide) ?_
    exact m_zret dX10_isNoneOrOneOfTwo_18 rfl (by decide) h
  · replace h := h.2 c1
    refine z_iload_n dX10_isNoneOrOneOfTwo_5 rfl rfl ?_
    refine z_iconst dX10_isNoneOrOneOfTwo_6 ?_
    refine m_callS (as := [aI (x0), aI (2)]) dX10_isNoneOrOneOfTwo_7 lk_X10_90 mok_X10_within st_X10_within rfl (Nat.le_of_ble_eq_true rfl) rfl (Nat.le_of_ble_eq_true rfl) rfl (c_X10_within  ?_)
    show Zm w (d + 1) mX10_isNoneOrOneOfTwo 10 [some (aI (x0))] [aI (wi (x0) (2))] g P
    refine z_if_eq (tgt := 17) dX10_isNoneOrOneOfTwo_10 (by decide) (fun c2 => ?_) (fun c2 => ?_)
    · replace h := h.1 c2
      refine z_iconst dX10_isNoneOrOneOfTwo_17 ?_
      exact m_zret dX10_isNoneOrOneOfTwo_18 rfl (by decide) h
    · replace h := h.2 c2
      refine z_iconst dX10_isNoneOrOneOfTwo_13 ?_
      refine z_goto (tgt := 18) dX10_isNoneOrOneOfTwo_14 (by decide) ?_
      exact m_zret dX10_isNoneOrOneOfTwo_18 rfl (by decide) h
theorem c_X10_isNoneOrOneOfTwo {w : GX} {d : Nat} {P : PN} {g : GI} {x0 : Int}  (hP : P (some (aI (n12 x0))) g) : Zm w (d + 1) mX10_isNoneOrOneOfTwo 0 [some (aI x0)] [] g P := by
  refine s_X10_isNoneOrOneOfTwo_0 _ ?_
  try simp (disch := omega) only [nm_id, nm_lit0, nm_lit1, nm_m1, lCmp_lt, lCmp_gt, lCmp_eq, nbI_0, decide_eq_false_iff_not, wi]
  repeat' (first | apply And.intro | intro _)

  all_goals first | exact bI_01 _ | (exact pI hP (by unfold n12; (try simp only [bI, decide_eq_true_eq]); (repeat' split) <;> omega))
theorem dX10_isPerson_0 : decode cX10_isPerson 0 = .ok (.iload_n 1, 1) := by decide +kernel
theorem dX10_isPerson_1 : decode cX10_isPerson 1 = .ok (.aload_n 0, 1) := by decide +kernel
theorem dX10_isPerson_2 : decode cX10_isPerson 2 = .ok (.getfield 36, 3) := by decide +kernel
theorem dX10_isPerson_5 : decode cX10_isPerson 5 = .ok (.getfield 277, 3) := by decide +kernel
theorem dX10_isPerson_8 : decode cX10_isPerson 8 = .ok (.invokestatic 90, 3) := by decide +kernel
theorem dX10_isPerson_11 : decode cX10_isPerson 11 = .ok (.ireturn, 1) := by decide +kernel
set_option maxRecDepth 4000 in
theorem s_X10_isPerson_0 {w : GX} {d : Nat} {P : PN} {g : GI} (x1 : Int)
    (h : (((wi (x1) (g 18 10) = 0 ∨ wi (x1) (g 18 10) = 1) ∧ P (some (aI (wi (x1) (g 18 10)))) g))) :
    Zm w (d + 1) mX10_isPerson 0 [some (aR (some (0))), some (aI (x1))] [] g P := by
  refine z_iload_n dX10_isPerson_0 rfl rfl ?_
  refine z_aload_n dX10_isPerson_1 rfl rfl ?_
  refine m_getR dX10_isPerson_2 fl_X10_36 (by decide) kt_0 rv_0_5 ?_
  refine z_getI dX10_isPerson_5 fl_X10_277 (by decide) kt_18 ?_
  refine m_callS (as := [aI (x1), aI (g 18 10)]) dX10_isPerson_8 lk_X10_90 mok_X10_within st_X10_within rfl (Nat.le_of_ble_eq_true rfl) rfl (Nat.le_of_ble_eq_true rfl) rfl (c_X10_within  ?_)
  show Zm w (d + 1) mX10_isPerson 11 [some (aR (some (0))), some (aI (x1))] [aI (wi (x1) (g 18 10))] g P
  obtain ⟨q1, h⟩ := h
  exact m_zret dX10_isPerson_11 rfl q1 h
theorem c_X10_isPerson {w : GX} {d : Nat} {P : PN} {g : GI} {x1 : Int}  (hP : P (some (aI (wi x1 (g 18 10)))) g) : Zm w (d + 1) mX10_isPerson 0 [some (aR (some 0)), some (aI x1)] [] g P := by
  exact s_X10_isPerson_0 _ ⟨bI_01 _, hP⟩
theorem dX10_finding_0 : decode cX10_finding 0 = .ok (.aload_n 0, 1) := by decide +kernel
theorem dX10_finding_1 : decode cX10_finding 1 = .ok (.iload_n 1, 1) := by decide +kernel
theorem dX10_finding_2 : decode cX10_finding 2 = .ok (.putfield 80, 3) := by decide +kernel
theorem dX10_finding_5 : decode cX10_finding 5 = .ok (.bipush (-10), 2) := by decide +kernel
theorem dX10_finding_7 : decode cX10_finding 7 = .ok (.iload_n 1, 1) := by decide +kernel
theorem dX10_finding_8 : decode cX10_finding 8 = .ok (.isub, 1) := by decide +kernel
theorem dX10_finding_9 : decode cX10_finding 9 = .ok (.ireturn, 1) := by decide +kernel
set_option maxRecDepth 4000 in
theorem s_X10_finding_0 {w : GX} {d : Nat} {P : PN} {g : GI} (x1 : Int)
    (h : (∀ g1 : GI, g1 = up2 g 0 11 x1 → P (some (aI (((-10)) - x1))) g1)) :
    Zm w d mX10_finding 0 [some (aR (some (0))), some (aI (x1))] [] g P := by
  refine z_aload_n dX10_finding_0 rfl rfl ?_
  refine z_iload_n dX10_finding_1 rfl rfl ?_
  replace h := h _ rfl
  refine z_putI dX10_finding_2 fw_X10_80 (by decide) kt_0 ?_
  refine z_bipush dX10_finding_5 rfl ?_
  refine z_iload_n dX10_finding_7 rfl rfl ?_
  refine z_isub dX10_finding_8 ?_
  exact m_iret dX10_finding_9 rfl h
theorem c_X10_finding {w : GX} {d : Nat} {P : PN} {g : GI} {x1 : Int}  (hP : P (some (aI ((-10) - x1))) (up2 g 0 11 x1)) : Zm w d mX10_finding 0 [some (aR (some 0)), some (aI x1)] [] g P := by
  exact s_X10_finding_0 _ (fun _ e => e ▸ hP)
theorem dX7_kindOfByte_0 : decode cX7_kindOfByte 0 = .ok (.iload_n 0, 1) := by decide +kernel
theorem dX7_kindOfByte_1 : decode cX7_kindOfByte 1 = .ok (.lookupswitch 41 #[(46, 35), (61, 39), (126, 37)], 35) := by decide +kernel
theorem dX7_kindOfByte_36 : decode cX7_kindOfByte 36 = .ok (.iconst 0, 1) := by decide +kernel
theorem dX7_kindOfByte_37 : decode cX7_kindOfByte 37 = .ok (.ireturn, 1) := by decide +kernel
theorem dX7_kindOfByte_38 : decode cX7_kindOfByte 38 = .ok (.iconst 1, 1) := by decide +kernel
theorem dX7_kindOfByte_39 : decode cX7_kindOfByte 39 = .ok (.ireturn, 1) := by decide +kernel
theorem dX7_kindOfByte_40 : decode cX7_kindOfByte 40 = .ok (.iconst 2, 1) := by decide +kernel
theorem dX7_kindOfByte_41 : decode cX7_kindOfByte 41 = .ok (.ireturn, 1) := by decide +kernel
theorem dX7_kindOfByte_42 : decode cX7_kindOfByte 42 = .ok (.iload_n 0, 1) := by decide +kernel
theorem dX7_kindOfByte_43 : decode cX7_kindOfByte 43 = .ok (.invokestatic 33, 3) := by decide +kernel
theorem dX7_kindOfByte_46 : decode cX7_kindOfByte 46 = .ok (.ifCond .eq 7, 3) := by decide +kernel
theorem dX7_kindOfByte_49 : decode cX7_kindOfByte 49 = .ok (.iconst 3, 1) := by decide +kernel
theorem dX7_kindOfByte_50 : decode cX7_kindOfByte 50 = .ok (.goto 4, 3) := by decide +kernel
theorem dX7_kindOfByte_53 : decode cX7_kindOfByte 53 = .ok (.iconst (-1), 1) := by decide +kernel
theorem dX7_kindOfByte_54 : decode cX7_kindOfByte 54 = .ok (.ireturn, 1) := by decide +kernel
set_option maxRecDepth 4000 in
theorem s_X7_kindOfByte_0 {w : GX} {d : Nat} {P : PN} {g : GI} (x0 : Int)
    (h : ((nm x0 = 46 → P (some (aI (0))) g) ∧ (nm x0 = 61 → P (some (aI (2))) g) ∧ (nm x0 = 126 → P (some (aI (1))) g) ∧ (¬ nm x0 = 46 → ¬ nm x0 = 61 → ¬ nm x0 = 126 → (((nm (inn (x0) 97 122) = 0 → P (some (aI ((-1)))) g) ∧ (¬ nm (inn (x0) 97 122) = 0 → P (some (aI (3))) g)))))) :
    Zm w (d + 1) mX7_kindOfByte 0 [some (aI (x0))] [] g P := by
  refine z_iload_n dX7_kindOfByte_0 rfl rfl ?_
  refine z_lsw (df := 42) (cs := [(46, 36), (61, 40), (126, 38)]) dX7_kindOfByte_1 (by decide) (by decide) (by decide) (by decide) ?_
  by_cases c1 : nm x0 = 46
  · rw [sw_c c1]
    replace h := h.1 c1
    refine z_iconst dX7_kindOfByte_36 ?_
    exact m_iret dX7_kindOfByte_37 rfl h
  rw [sw_n c1]; replace h := h.2
  by_cases c2 : nm x0 = 61
  · rw [sw_c c2]
    replace h := h.1 c2
    refine z_iconst dX7_kindOfByte_40 ?_
    exact m_iret dX7_kindOfByte_41 rfl h
  rw [sw_n c2]; replace h := h.2
  by_cases c3 : nm x0 = 126
  · rw [sw_c c3]
    replace h := h.1 c3
    refine z_iconst dX7_kindOfByte_38 ?_
    exact m_iret dX7_kindOfByte_39 rfl h
  rw [sw_n c3]; replace h := h.2
  replace h := h c1 c2 c3
  rw [sw_e]
  refine z_iload_n dX7_kindOfByte_42 rfl rfl ?_
  refine m_callS (as := [aI (x0)]) dX7_kindOfByte_43 lk_X7_33 mok_X7_isLetter st_X7_isLetter rfl (Nat.le_of_ble_eq_true rfl) rfl (Nat.le_of_ble_eq_true rfl) rfl (c_X7_isLetter  ?_)
  show Zm w (d + 1) mX7_kindOfByte 46 [some (aI (x0))] [aI (inn (x0) 97 122)] g P
  refine z_if_eq (tgt := 53) dX7_kindOfByte_46 (by decide) (fun c4 => ?_) (fun c4 => ?_)
  · replace h := h.1 c4
    refine z_iconst dX7_kindOfByte_53 ?_
    exact m_iret dX7_kindOfByte_54 rfl h
  · replace h := h.2 c4
    refine z_iconst dX7_kindOfByte_49 ?_
    refine z_goto (tgt := 54) dX7_kindOfByte_50 (by decide) ?_
    exact m_iret dX7_kindOfByte_54 rfl h
theorem c_X7_kindOfByte {w : GX} {d : Nat} {P : PN} {g : GI} {x0 : Int}  (hP : P (some (aI (kob x0))) g) : Zm w (d + 1) mX7_kindOfByte 0 [some (aI x0)] [] g P := by
  refine s_X7_kindOfByte_0 _ ?_
  try simp (disch := omega) only [nm_id, nm_lit0, nm_lit1, nm_m1, lCmp_lt, lCmp_gt, lCmp_eq, nbI_0, decide_eq_false_iff_not, inn]
  repeat' (first | apply And.intro | intro _)

  all_goals first | exact bI_01 _ | (exact pI hP (by unfold kob; (try simp only [bI, decide_eq_true_eq]); (repeat' split) <;> omega))
theorem dX7_fitsPerson_0 : decode cX7_fitsPerson 0 = .ok (.iload_n 0, 1) := by decide +kernel
theorem dX7_fitsPerson_1 : decode cX7_fitsPerson 1 = .ok (.tableswitch 82 0 4 #[35, 40, 40, 58, 40], 35) := by decide +kernel
theorem dX7_fitsPerson_36 : decode cX7_fitsPerson 36 = .ok (.iload_n 1, 1) := by decide +kernel
theorem dX7_fitsPerson_37 : decode cX7_fitsPerson 37 = .ok (.invokestatic 33, 3) := by decide +kernel
theorem dX7_fitsPerson_40 : decode cX7_fitsPerson 40 = .ok (.ireturn, 1) := by decide +kernel
theorem dX7_fitsPerson_41 : decode cX7_fitsPerson 41 = .ok (.iload_n 1, 1) := by decide +kernel
theorem dX7_fitsPerson_42 : decode cX7_fitsPerson 42 = .ok (.bipush 48, 2) := by decide +kernel
theorem dX7_fitsPerson_44 : decode cX7_fitsPerson 44 = .ok (.if_icmp .lt 13, 3) := by decide +kernel
theorem dX7_fitsPerson_47 : decode cX7_fitsPerson 47 = .ok (.iload_n 1, 1) := by decide +kernel
theorem dX7_fitsPerson_48 : decode cX7_fitsPerson 48 = .ok (.bipush 57, 2) := by decide +kernel
theorem dX7_fitsPerson_50 : decode cX7_fitsPerson 50 = .ok (.if_icmp .gt 7, 3) := by decide +kernel
theorem dX7_fitsPerson_53 : decode cX7_fitsPerson 53 = .ok (.iconst 1, 1) := by decide +kernel
theorem dX7_fitsPerson_54 : decode cX7_fitsPerson 54 = .ok (.goto 4, 3) := by decide +kernel
theorem dX7_fitsPerson_57 : decode cX7_fitsPerson 57 = .ok (.iconst 0, 1) := by decide +kernel
theorem dX7_fitsPerson_58 : decode cX7_fitsPerson 58 = .ok (.ireturn, 1) := by decide +kernel
theorem dX7_fitsPerson_59 : decode cX7_fitsPerson 59 = .ok (.iload_n 1, 1) := by decide +kernel
theorem dX7_fitsPerson_60 : decode cX7_fitsPerson 60 = .ok (.bipush 46, 2) := by decide +kernel
theorem dX7_fitsPerson_62 : decode cX7_fitsPerson 62 = .ok (.if_icmp .eq 15, 3) := by decide +kernel
theorem dX7_fitsPerson_65 : decode cX7_fitsPerson 65 = .ok (.iload_n 1, 1) := by decide +kernel
theorem dX7_fitsPerson_66 : decode cX7_fitsPerson 66 = .ok (.bipush 48, 2) := by decide +kernel
theorem dX7_fitsPerson_68 : decode cX7_fitsPerson 68 = .ok (.if_icmp .lt 13, 3) := by decide +kernel
theorem dX7_fitsPerson_71 : decode cX7_fitsPerson 71 = .ok (.iload_n 1, 1) := by decide +kernel
theorem dX7_fitsPerson_72 : decode cX7_fitsPerson 72 = .ok (.bipush 55, 2) := by decide +kernel
theorem dX7_fitsPerson_74 : decode cX7_fitsPerson 74 = .ok (.if_icmp .gt 7, 3) := by decide +kernel
theorem dX7_fitsPerson_77 : decode cX7_fitsPerson 77 = .ok (.iconst 1, 1) := by decide +kernel
theorem dX7_fitsPerson_78 : decode cX7_fitsPerson 78 = .ok (.goto 4, 3) := by decide +kernel
theorem dX7_fitsPerson_81 : decode cX7_fitsPerson 81 = .ok (.iconst 0, 1) := by decide +kernel
theorem dX7_fitsPerson_82 : decode cX7_fitsPerson 82 = .ok (.ireturn, 1) := by decide +kernel
theorem dX7_fitsPerson_83 : decode cX7_fitsPerson 83 = .ok (.iload_n 1, 1) := by decide +kernel
theorem dX7_fitsPerson_84 : decode cX7_fitsPerson 84 = .ok (.bipush 59, 2) := by decide +kernel
theorem dX7_fitsPerson_86 : decode cX7_fitsPerson 86 = .ok (.if_icmp .ne 7, 3) := by decide +kernel
theorem dX7_fitsPerson_89 : decode cX7_fitsPerson 89 = .ok (.iconst 1, 1) := by decide +kernel
theorem dX7_fitsPerson_90 : decode cX7_fitsPerson 90 = .ok (.goto 4, 3) := by decide +kernel
theorem dX7_fitsPerson_93 : decode cX7_fitsPerson 93 = .ok (.iconst 0, 1) := by decide +kernel
theorem dX7_fitsPerson_94 : decode cX7_fitsPerson 94 = .ok (.ireturn, 1) := by decide +kernel
set_option maxRecDepth 4000 in
theorem s_X7_fitsPerson_0 {w : GX} {d : Nat} {P : PN} {g : GI} (x0 : Int) (x1 : Int)
    (h : ((nm x0 = 0 → (((inn (x1) 97 122 = 0 ∨ inn (x1) 97 122 = 1) ∧ P (some (aI (inn (x1) 97 122))) g))) ∧ (nm x0 = 1 → ((nm x1 < nm 48 → P (some (aI (0))) g) ∧ (¬ nm x1 < nm 48 → ((nm 57 < nm x1 → P (some (aI (0))) g) ∧ (¬ nm 57 < nm x1 → P (some (aI (1))) g))))) ∧ (nm x0 = 2 → ((nm x1 < nm 48 → P (some (aI (0))) g) ∧ (¬ nm x1 < nm 48 → ((nm 57 < nm x1 → P (some (aI (0))) g) ∧ (¬ nm 57 < nm x1 → P (some (aI (1))) g))))) ∧ (nm x0 = 3 → ((nm x1 = nm 46 → P (some (aI (1))) g) ∧ (¬ nm x1 = nm 46 → ((nm x1 < nm 48 → P (some (aI (0))) g) ∧ (¬ nm x1 < nm 48 → ((nm 55 < nm x1 → P (some (aI (0))) g) ∧ (¬ nm 55 < nm x1 → P (some (aI (1))) g))))))) ∧ (nm x0 = 4 → ((nm x1 < nm 48 → P (some (aI (0))) g) ∧ (¬ nm x1 < nm 48 → ((nm 57 < nm x1 → P (some (aI (0))) g) ∧ (¬ nm 57 < nm x1 → P (some (aI (1))) g))))) ∧ (¬ nm x0 = 0 → ¬ nm x0 = 1 → ¬ nm x0 = 2 → ¬ nm x0 = 3 → ¬ nm x0 = 4 → ((¬ nm x1 = nm 59 → P (some (aI (0))) g) ∧ (nm x1 = nm 59 → P (some (aI (1))) g))))) :
    Zm w (d + 1) mX7_fitsPerson 0 [some (aI (x0)), some (aI (x1))] [] g P := by
  refine z_iload_n dX7_fitsPerson_0 rfl rfl ?_
  refine z_tsw (df := 83) (cs := [(0, 36), (1, 41), (2, 41), (3, 59), (4, 41)]) dX7_fitsPerson_1 (by decide) (by decide) (by decide) (by decide) ?_
  by_cases c1 : nm x0 = 0
  · rw [sw_c c1]
    replace h := h.1 c1
    refine z_iload_n dX7_fitsPerson_36 rfl rfl ?_
    refine m_callS (as := [aI (x1)]) dX7_fitsPerson_37 lk_X7_33 mok_X7_isLetter st_X7_isLetter rfl (Nat.le_of_ble_eq_true rfl) rfl (Nat.le_of_ble_eq_true rfl) rfl (c_X7_isLetter  ?_)
    show Zm w (d + 1) mX7_fitsPerson 40 [some (aI (x0)), some (aI (x1))] [aI (inn (x1) 97 122)] g P
    obtain ⟨q2, h⟩ := h
    exact m_zret dX7_fitsPerson_40 rfl q2 h
  rw [sw_n c1]; replace h := h.2
  by_cases c3 : nm x0 = 1
  · rw [sw_c c3]
    replace h := h.1 c3
    refine z_iload_n dX7_fitsPerson_41 rfl rfl ?_
    refine z_bipush dX7_fitsPerson_42 rfl ?_
    refine z_icmp_lt (tgt := 57) dX7_fitsPerson_44 (by decide) (fun c4 => ?_) (fun c4 => ?_)
    · replace h := h.1 c4
      refine z_iconst dX7_fitsPerson_57 ?_
      exact m_zret dX7_fitsPerson_58 rfl (by decide) h
    · replace h := h.2 c4
      refine z_iload_n dX7_fitsPerson_47 rfl rfl ?_
      refine z_bipush dX7_fitsPerson_48 rfl ?_
      refine z_icmp_gt (tgt := 57) dX7_fitsPerson_50 (by decide) (fun c5 => ?_) (fun c5 => ?_)
      · replace h := h.1 c5
        refine z_iconst dX7_fitsPerson_57 ?_
        exact m_zret dX7_fitsPerson_58 rfl (by decide) h
      · replace h := h.2 c5
        refine z_iconst dX7_fitsPerson_53 ?_
        refine z_goto (tgt := 58) dX7_fitsPerson_54 (by decide) ?_
        exact m_zret dX7_fitsPerson_58 rfl (by decide) h
  rw [sw_n c3]; replace h := h.2
  by_cases c6 : nm x0 = 2
  · rw [sw_c c6]
    replace h := h.1 c6
    refine z_iload_n dX7_fitsPerson_41 rfl rfl ?_
    refine z_bipush dX7_fitsPerson_42 rfl ?_
    refine z_icmp_lt (tgt := 57) dX7_fitsPerson_44 (by decide) (fun c7 => ?_) (fun c7 => ?_)
    · replace h := h.1 c7
      refine z_iconst dX7_fitsPerson_57 ?_
      exact m_zret dX7_fitsPerson_58 rfl (by decide) h
    · replace h := h.2 c7
      refine z_iload_n dX7_fitsPerson_47 rfl rfl ?_
      refine z_bipush dX7_fitsPerson_48 rfl ?_
      refine z_icmp_gt (tgt := 57) dX7_fitsPerson_50 (by decide) (fun c8 => ?_) (fun c8 => ?_)
      · replace h := h.1 c8
        refine z_iconst dX7_fitsPerson_57 ?_
        exact m_zret dX7_fitsPerson_58 rfl (by decide) h
      · replace h := h.2 c8
        refine z_iconst dX7_fitsPerson_53 ?_
        refine z_goto (tgt := 58) dX7_fitsPerson_54 (by decide) ?_
        exact m_zret dX7_fitsPerson_58 rfl (by decide) h
  rw [sw_n c6]; replace h := h.2
  by_cases c9 : nm x0 = 3
  · rw [sw_c c9]
    replace h := h.1 c9
    refine z_iload_n dX7_fitsPerson_59 rfl rfl ?_
    refine z_bipush dX7_fitsPerson_60 rfl ?_
    refine z_icmp_eq (tgt := 77) dX7_fitsPerson_62 (by decide) (fun c10 => ?_) (fun c10 => ?_)
    · replace h := h.1 c10
      refine z_iconst dX7_fitsPerson_77 ?_
      refine z_goto (tgt := 82) dX7_fitsPerson_78 (by decide) ?_
      exact m_zret dX7_fitsPerson_82 rfl (by decide) h
    · replace h := h.2 c10
      refine z_iload_n dX7_fitsPerson_65 rfl rfl ?_
      refine z_bipush dX7_fitsPerson_66 rfl ?_
      refine z_icmp_lt (tgt := 81) dX7_fitsPerson_68 (by decide) (fun c11 => ?_) (fun c11 => ?_)
      · replace h := h.1 c11
        refine z_iconst dX7_fitsPerson_81 ?_
        exact m_zret dX7_fitsPerson_82 rfl (by decide) h
      · replace h := h.2 c11
        refine z_iload_n dX7_fitsPerson_71 rfl rfl ?_
        refine z_bipush dX7_fitsPerson_72 rfl ?_
        refine z_icmp_gt (tgt := 81) dX7_fitsPerson_74 (by decide) (fun c12 => ?_) (fun c12 => ?_)
        · replace h := h.1 c12
          refine z_iconst dX7_fitsPerson_81 ?_
          exact m_zret dX7_fitsPerson_82 rfl (by decide) h
        · replace h := h.2 c12
          refine z_iconst dX7_fitsPerson_77 ?_
          refine z_goto (tgt := 82) dX7_fitsPerson_78 (by decide) ?_
          exact m_zret dX7_fitsPerson_82 rfl (by decide) h
  rw [sw_n c9]; replace h := h.2
  by_cases c13 : nm x0 = 4
  · rw [sw_c c13]
    replace h := h.1 c13
    refine z_iload_n dX7_fitsPerson_41 rfl rfl ?_
    refine z_bipush dX7_fitsPerson_42 rfl ?_
    refine z_icmp_lt (tgt := 57) dX7_fitsPerson_44 (by decide) (fun c14 => ?_) (fun c14 => ?_)
    · replace h := h.1 c14
      refine z_iconst dX7_fitsPerson_57 ?_
      exact m_zret dX7_fitsPerson_58 rfl (by decide) h
    · replace h := h.2 c14
      refine z_iload_n dX7_fitsPerson_47 rfl rfl ?_
      refine z_bipush dX7_fitsPerson_48 rfl ?_
      refine z_icmp_gt (tgt := 57) dX7_fitsPerson_50 (by decide) (fun c15 => ?_) (fun c15 => ?_)
      · replace h := h.1 c15
        refine z_iconst dX7_fitsPerson_57 ?_
        exact m_zret dX7_fitsPerson_58 rfl (by decide) h
      · replace h := h.2 c15
        refine z_iconst dX7_fitsPerson_53 ?_
        refine z_goto (tgt := 58) dX7_fitsPerson_54 (by decide) ?_
        exact m_zret dX7_fitsPerson_58 rfl (by decide) h
  rw [sw_n c13]; replace h := h.2
  replace h := h c1 c3 c6 c9 c13
  rw [sw_e]
  refine z_iload_n dX7_fitsPerson_83 rfl rfl ?_
  refine z_bipush dX7_fitsPerson_84 rfl ?_
  refine z_icmp_ne (tgt := 93) dX7_fitsPerson_86 (by decide) (fun c16 => ?_) (fun c16 => ?_)
  · replace h := h.1 c16
    refine z_iconst dX7_fitsPerson_93 ?_
    exact m_zret dX7_fitsPerson_94 rfl (by decide) h
  · replace h := h.2 (Decidable.not_not.mp c16)
    refine z_iconst dX7_fitsPerson_89 ?_
    refine z_goto (tgt := 94) dX7_fitsPerson_90 (by decide) ?_
    exact m_zret dX7_fitsPerson_94 rfl (by decide) h
theorem c_X7_fitsPerson {w : GX} {d : Nat} {P : PN} {g : GI} {x0 x1 : Int}  (hP : P (some (aI (fitP x0 x1))) g) : Zm w (d + 1) mX7_fitsPerson 0 [some (aI x0), some (aI x1)] [] g P := by
  refine s_X7_fitsPerson_0 _ _ ?_
  try simp (disch := omega) only [nm_id, nm_lit0, nm_lit1, nm_m1, lCmp_lt, lCmp_gt, lCmp_eq, nbI_0, decide_eq_false_iff_not, inn]
  repeat' (first | apply And.intro | intro _)

  all_goals first | exact bI_01 _ | (exact pI hP (by unfold fitP; (try simp only [bI, decide_eq_true_eq]); (repeat' split) <;> omega))
theorem dX9_names_0 : decode cX9_names 0 = .ok (.aload_n 0, 1) := by decide +kernel
theorem dX9_names_1 : decode cX9_names 1 = .ok (.getfield 41, 3) := by decide +kernel
theorem dX9_names_4 : decode cX9_names 4 = .ok (.aload_n 0, 1) := by decide +kernel
theorem dX9_names_5 : decode cX9_names 5 = .ok (.getfield 44, 3) := by decide +kernel
theorem dX9_names_8 : decode cX9_names 8 = .ok (.iadd, 1) := by decide +kernel
theorem dX9_names_9 : decode cX9_names 9 = .ok (.ireturn, 1) := by decide +kernel
set_option maxRecDepth 4000 in
theorem s_X9_names_0 {w : GX} {d : Nat} {P : PN} {g : GI} 
    (h : P (some (aI ((g 18 9) + (g 18 10)))) g) :
    Zm w d mX9_names 0 [some (aR (some (18)))] [] g P := by
  refine z_aload_n dX9_names_0 rfl rfl ?_
  refine z_getI dX9_names_1 fl_X9_41 (by decide) kt_18 ?_
  refine z_aload_n dX9_names_4 rfl rfl ?_
  refine z_getI dX9_names_5 fl_X9_44 (by decide) kt_18 ?_
  refine z_iadd dX9_names_8 ?_
  exact m_iret dX9_names_9 rfl h
theorem c_X9_names {w : GX} {d : Nat} {P : PN} {g : GI}   (hP : P (some (aI (g 18 9 + g 18 10))) g) : Zm w d mX9_names 0 [some (aR (some 18))] [] g P := by
  exact s_X9_names_0 hP
theorem dX9_letterWhen_0 : decode cX9_letterWhen 0 = .ok (.aload_n 0, 1) := by decide +kernel
theorem dX9_letterWhen_1 : decode cX9_letterWhen 1 = .ok (.getfield 25, 3) := by decide +kernel
theorem dX9_letterWhen_4 : decode cX9_letterWhen 4 = .ok (.iload_n 1, 1) := by decide +kernel
theorem dX9_letterWhen_5 : decode cX9_letterWhen 5 = .ok (.iaload, 1) := by decide +kernel
theorem dX9_letterWhen_6 : decode cX9_letterWhen 6 = .ok (.istore_n 3, 1) := by decide +kernel
theorem dX9_letterWhen_7 : decode cX9_letterWhen 7 = .ok (.iload_n 2, 1) := by decide +kernel
theorem dX9_letterWhen_8 : decode cX9_letterWhen 8 = .ok (.aload_n 0, 1) := by decide +kernel
theorem dX9_letterWhen_9 : decode cX9_letterWhen 9 = .ok (.getfield 47, 3) := by decide +kernel
theorem dX9_letterWhen_12 : decode cX9_letterWhen 12 = .ok (.if_icmp .ge 5, 3) := by decide +kernel
theorem dX9_letterWhen_15 : decode cX9_letterWhen 15 = .ok (.iload_n 3, 1) := by decide +kernel
theorem dX9_letterWhen_16 : decode cX9_letterWhen 16 = .ok (.ireturn, 1) := by decide +kernel
theorem dX9_letterWhen_17 : decode cX9_letterWhen 17 = .ok (.iload_n 3, 1) := by decide +kernel
theorem dX9_letterWhen_18 : decode cX9_letterWhen 18 = .ok (.bipush 20, 2) := by decide +kernel
theorem dX9_letterWhen_20 : decode cX9_letterWhen 20 = .ok (.if_icmp .lt 6, 3) := by decide +kernel
theorem dX9_letterWhen_23 : decode cX9_letterWhen 23 = .ok (.bipush 20, 2) := by decide +kernel
theorem dX9_letterWhen_25 : decode cX9_letterWhen 25 = .ok (.ireturn, 1) := by decide +kernel
theorem dX9_letterWhen_26 : decode cX9_letterWhen 26 = .ok (.iload_n 3, 1) := by decide +kernel
theorem dX9_letterWhen_27 : decode cX9_letterWhen 27 = .ok (.bipush 14, 2) := by decide +kernel
theorem dX9_letterWhen_29 : decode cX9_letterWhen 29 = .ok (.if_icmp .lt 6, 3) := by decide +kernel
theorem dX9_letterWhen_32 : decode cX9_letterWhen 32 = .ok (.bipush 14, 2) := by decide +kernel
theorem dX9_letterWhen_34 : decode cX9_letterWhen 34 = .ok (.ireturn, 1) := by decide +kernel
theorem dX9_letterWhen_35 : decode cX9_letterWhen 35 = .ok (.iload_n 3, 1) := by decide +kernel
theorem dX9_letterWhen_36 : decode cX9_letterWhen 36 = .ok (.bipush 8, 2) := by decide +kernel
theorem dX9_letterWhen_38 : decode cX9_letterWhen 38 = .ok (.if_icmp .lt 6, 3) := by decide +kernel
theorem dX9_letterWhen_41 : decode cX9_letterWhen 41 = .ok (.bipush 8, 2) := by decide +kernel
theorem dX9_letterWhen_43 : decode cX9_letterWhen 43 = .ok (.ireturn, 1) := by decide +kernel
theorem dX9_letterWhen_44 : decode cX9_letterWhen 44 = .ok (.iload_n 3, 1) := by decide +kernel
theorem dX9_letterWhen_45 : decode cX9_letterWhen 45 = .ok (.iconst 4, 1) := by decide +kernel
theorem dX9_letterWhen_46 : decode cX9_letterWhen 46 = .ok (.if_icmp .lt 7, 3) := by decide +kernel
theorem dX9_letterWhen_49 : decode cX9_letterWhen 49 = .ok (.iconst 4, 1) := by decide +kernel
theorem dX9_letterWhen_50 : decode cX9_letterWhen 50 = .ok (.goto 4, 3) := by decide +kernel
theorem dX9_letterWhen_53 : decode cX9_letterWhen 53 = .ok (.iconst 0, 1) := by decide +kernel
theorem dX9_letterWhen_54 : decode cX9_letterWhen 54 = .ok (.ireturn, 1) := by decide +kernel
set_option maxRecDepth 4000 in
theorem s_X9_letterWhen_0 {w : GX} {d : Nat} {P : PN} {g : GI} (x1 : Int) (x2 : Int)
    (h : (0 ≤ nm x1 ∧ nm x1 < 28 ∧ (∀ v5 : Int, v5 = g 23 (nm x1).toNat → ((¬ nm x2 < nm (g 18 11) → ((nm v5 < nm 20 → ((nm v5 < nm 14 → ((nm v5 < nm 8 → ((nm v5 < nm 4 → P (some (aI (0))) g) ∧ (¬ nm v5 < nm 4 → P (some (aI (4))) g))) ∧ (¬ nm v5 < nm 8 → P (some (aI (8))) g))) ∧ (¬ nm v5 < nm 14 → P (some (aI (14))) g))) ∧ (¬ nm v5 < nm 20 → P (some (aI (20))) g))) ∧ (nm x2 < nm (g 18 11) → P (some (aI (v5))) g))))) :
    Zm w d mX9_letterWhen 0 [some (aR (some (18))), some (aI (x1)), some (aI (x2)), none] [] g P := by
  refine z_aload_n dX9_letterWhen_0 rfl rfl ?_
  refine m_getR dX9_letterWhen_1 fl_X9_25 (by decide) kt_18 rv_18_4 ?_
  refine z_iload_n dX9_letterWhen_4 rfl rfl ?_
  obtain ⟨q3, q4, h⟩ := h
  refine m_iald dX9_letterWhen_5 kv_23 q3 q4 ?_
  replace h := h _ rfl
  refine z_istore_n dX9_letterWhen_6 rfl (by decide) rfl ?_
  show Zm w d mX9_letterWhen 7 [some (aR (some (18))), some (aI (x1)), some (aI (x2)), some (aI (g 23 (nm x1).toNat))] [] g P
  refine z_iload_n dX9_letterWhen_7 rfl rfl ?_
  refine z_aload_n dX9_letterWhen_8 rfl rfl ?_
  refine z_getI dX9_letterWhen_9 fl_X9_47 (by decide) kt_18 ?_
  refine z_icmp_ge (tgt := 17) dX9_letterWhen_12 (by decide) (fun c6 => ?_) (fun c6 => ?_)
  · replace h := h.1 c6
    refine z_iload_n dX9_letterWhen_17 rfl rfl ?_
    refine z_bipush dX9_letterWhen_18 rfl ?_
    refine z_icmp_lt (tgt := 26) dX9_letterWhen_20 (by decide) (fun c7 => ?_) (fun c7 => ?_)
    · replace h := h.1 c7
      refine z_iload_n dX9_letterWhen_26 rfl rfl ?_
      refine z_bipush dX9_letterWhen_27 rfl ?_
      refine z_icmp_lt (tgt := 35) dX9_letterWhen_29 (by decide) (fun c8 => ?_) (fun c8 => ?_)
      · replace h := h.1 c8
        refine z_iload_n dX9_letterWhen_35 rfl rfl ?_
        refine z_bipush dX9_letterWhen_36 rfl ?_
        refine z_icmp_lt (tgt := 44) dX9_letterWhen_38 (by decide) (fun c9 => ?_) (fun c9 => ?_)
        · replace h := h.1 c9
          refine z_iload_n dX9_letterWhen_44 rfl rfl ?_
          refine z_iconst dX9_letterWhen_45 ?_
          refine z_icmp_lt (tgt := 53) dX9_letterWhen_46 (by decide) (fun c10 => ?_) (fun c10 => ?_)
          · replace h := h.1 c10
            refine z_iconst dX9_letterWhen_53 ?_
            exact m_iret dX9_letterWhen_54 rfl h
          · replace h := h.2 c10
            refine z_iconst dX9_letterWhen_49 ?_
            refine z_goto (tgt := 54) dX9_letterWhen_50 (by decide) ?_
            exact m_iret dX9_letterWhen_54 rfl h
        · replace h := h.2 c9
          refine z_bipush dX9_letterWhen_41 rfl ?_
          exact m_iret dX9_letterWhen_43 rfl h
      · replace h := h.2 c8
        refine z_bipush dX9_letterWhen_32 rfl ?_
        exact m_iret dX9_letterWhen_34 rfl h
    · replace h := h.2 c7
      refine z_bipush dX9_letterWhen_23 rfl ?_
      exact m_iret dX9_letterWhen_25 rfl h
  · replace h := h.2 (Decidable.not_not.mp c6)
    refine z_iload_n dX9_letterWhen_15 rfl rfl ?_
    exact m_iret dX9_letterWhen_16 rfl h
theorem c_X9_letterWhen {w : GX} {d : Nat} {P : PN} {g : GI} {x1 x2 : Int} (q1 : 0 ≤ nm x1) (q2 : nm x1 < 28) (hP : P (some (aI (lwh (g 23 (nm x1).toNat) x2 (g 18 11)))) g) : Zm w d mX9_letterWhen 0 [some (aR (some 18)), some (aI x1), some (aI x2), none] [] g P := by
  refine s_X9_letterWhen_0 _ _ ⟨q1, q2, fun v e => ?_⟩
  subst e
  simp (disch := omega) only [nm_id]
  repeat' (first | apply And.intro | intro _)

  all_goals (exact pI hP (by unfold lwh vow; (repeat' split) <;> omega))
theorem dX6_isLost_0 : decode cX6_isLost 0 = .ok (.aload_n 0, 1) := by decide +kernel
theorem dX6_isLost_1 : decode cX6_isLost 1 = .ok (.getfield 19, 3) := by decide +kernel
theorem dX6_isLost_4 : decode cX6_isLost 4 = .ok (.ifCond .ge 7, 3) := by decide +kernel
theorem dX6_isLost_7 : decode cX6_isLost 7 = .ok (.iconst 1, 1) := by decide +kernel
theorem dX6_isLost_8 : decode cX6_isLost 8 = .ok (.goto 4, 3) := by decide +kernel
theorem dX6_isLost_11 : decode cX6_isLost 11 = .ok (.iconst 0, 1) := by decide +kernel
theorem dX6_isLost_12 : decode cX6_isLost 12 = .ok (.ireturn, 1) := by decide +kernel
set_option maxRecDepth 4000 in
theorem s_X6_isLost_0 {w : GX} {d : Nat} {P : PN} {g : GI} {x0 : Nat} (hx0 : isS x0)
    (h : ((¬ nm (g x0 2) < 0 → P (some (aI (0))) g) ∧ (nm (g x0 2) < 0 → P (some (aI (1))) g))) :
    Zm w d mX6_isLost 0 [some (aR (some (x0)))] [] g P := by
  refine z_aload_n dX6_isLost_0 rfl rfl ?_
  refine z_getI dX6_isLost_1 fl_X6_19 (by decide) (congrArg Prod.fst hx0.1) ?_
  refine z_if_ge (tgt := 11) dX6_isLost_4 (by decide) (fun c1 => ?_) (fun c1 => ?_)
  · replace h := h.1 c1
    refine z_iconst dX6_isLost_11 ?_
    exact m_zret dX6_isLost_12 rfl (by decide) h
  · replace h := h.2 (Decidable.not_not.mp c1)
    refine z_iconst dX6_isLost_7 ?_
    refine z_goto (tgt := 12) dX6_isLost_8 (by decide) ?_
    exact m_zret dX6_isLost_12 rfl (by decide) h
theorem c_X6_isLost {w : GX} {d : Nat} {P : PN} {g : GI} {x0 : Nat} (hx0 : isS x0)  (hP : P (some (aI (isNeg (g x0 2)))) g) : Zm w d mX6_isLost 0 [some (aR (some x0))] [] g P := by
  refine s_X6_isLost_0 hx0 ?_
  try simp (disch := omega) only [nm_id, nm_lit0, nm_lit1, nm_m1, lCmp_lt, lCmp_gt, lCmp_eq, nbI_0, decide_eq_false_iff_not, true_and]
  repeat' (first | apply And.intro | intro _)

  all_goals first | exact bI_01 _ | (exact pI hP (by unfold isNeg; (try simp only [bI, decide_eq_true_eq]); (repeat' split) <;> omega))
theorem dX6_holds_0 : decode cX6_holds 0 = .ok (.iload_n 1, 1) := by decide +kernel
theorem dX6_holds_1 : decode cX6_holds 1 = .ok (.ifCond .lt 29, 3) := by decide +kernel
theorem dX6_holds_4 : decode cX6_holds 4 = .ok (.iload_n 2, 1) := by decide +kernel
theorem dX6_holds_5 : decode cX6_holds 5 = .ok (.ifCond .lt 25, 3) := by decide +kernel
theorem dX6_holds_8 : decode cX6_holds 8 = .ok (.iload_n 1, 1) := by decide +kernel
theorem dX6_holds_9 : decode cX6_holds 9 = .ok (.aload_n 0, 1) := by decide +kernel
theorem dX6_holds_10 : decode cX6_holds 10 = .ok (.getfield 19, 3) := by decide +kernel
theorem dX6_holds_13 : decode cX6_holds 13 = .ok (.if_icmp .gt 17, 3) := by decide +kernel
theorem dX6_holds_16 : decode cX6_holds 16 = .ok (.iload_n 2, 1) := by decide +kernel
theorem dX6_holds_17 : decode cX6_holds 17 = .ok (.aload_n 0, 1) := by decide +kernel
theorem dX6_holds_18 : decode cX6_holds 18 = .ok (.getfield 19, 3) := by decide +kernel
theorem dX6_holds_21 : decode cX6_holds 21 = .ok (.iload_n 1, 1) := by decide +kernel
theorem dX6_holds_22 : decode cX6_holds 22 = .ok (.isub, 1) := by decide +kernel
theorem dX6_holds_23 : decode cX6_holds 23 = .ok (.if_icmp .gt 7, 3) := by decide +kernel
theorem dX6_holds_26 : decode cX6_holds 26 = .ok (.iconst 1, 1) := by decide +kernel
theorem dX6_holds_27 : decode cX6_holds 27 = .ok (.goto 4, 3) := by decide +kernel
theorem dX6_holds_30 : decode cX6_holds 30 = .ok (.iconst 0, 1) := by decide +kernel
theorem dX6_holds_31 : decode cX6_holds 31 = .ok (.ireturn, 1) := by decide +kernel
set_option maxRecDepth 4000 in
theorem s_X6_holds_0 {w : GX} {d : Nat} {P : PN} {g : GI} {x0 : Nat} (hx0 : isS x0) (x1 : Int) (x2 : Int)
    (h : ((nm x1 < 0 → P (some (aI (0))) g) ∧ (¬ nm x1 < 0 → ((nm x2 < 0 → P (some (aI (0))) g) ∧ (¬ nm x2 < 0 → ((nm (g x0 2) < nm x1 → P (some (aI (0))) g) ∧ (¬ nm (g x0 2) < nm x1 → ((nm ((g x0 2) - x1) < nm x2 → P (some (aI (0))) g) ∧ (¬ nm ((g x0 2) - x1) < nm x2 → P (some (aI (1))) g))))))))) :
    Zm w d mX6_holds 0 [some (aR (some (x0))), some (aI (x1)), some (aI (x2))] [] g P := by
  refine z_iload_n dX6_holds_0 rfl rfl ?_
  refine z_if_lt (tgt := 30) dX6_holds_1 (by decide) (fun c1 => ?_) (fun c1 => ?_)
  · replace h := h.1 c1
    refine z_iconst dX6_holds_30 ?_
    exact m_zret dX6_holds_31 rfl (by decide) h
  · replace h := h.2 c1
    refine z_iload_n dX6_holds_4 rfl rfl ?_
    refine z_if_lt (tgt := 30) dX6_holds_5 (by decide) (fun c2 => ?_) (fun c2 => ?_)
    · replace h := h.1 c2
      refine z_iconst dX6_holds_30 ?_
      exact m_zret dX6_holds_31 rfl (by decide) h
    · replace h := h.2 c2
      refine z_iload_n dX6_holds_8 rfl rfl ?_
      refine z_aload_n dX6_holds_9 rfl rfl ?_
      refine z_getI dX6_holds_10 fl_X6_19 (by decide) (congrArg Prod.fst hx0.1) ?_
      refine z_icmp_gt (tgt := 30) dX6_holds_13 (by decide) (fun c3 => ?_) (fun c3 => ?_)
      · replace h := h.1 c3
        refine z_iconst dX6_holds_30 ?_
        exact m_zret dX6_holds_31 rfl (by decide) h
      · replace h := h.2 c3
        refine z_iload_n dX6_holds_16 rfl rfl ?_
        refine z_aload_n dX6_holds_17 rfl rfl ?_
        refine z_getI dX6_holds_18 fl_X6_19 (by decide) (congrArg Prod.fst hx0.1) ?_
        refine z_iload_n dX6_holds_21 rfl rfl ?_
        refine z_isub dX6_holds_22 ?_
        refine z_icmp_gt (tgt := 30) dX6_holds_23 (by decide) (fun c4 => ?_) (fun c4 => ?_)
        · replace h := h.1 c4
          refine z_iconst dX6_holds_30 ?_
          exact m_zret dX6_holds_31 rfl (by decide) h
        · replace h := h.2 c4
          refine z_iconst dX6_holds_26 ?_
          refine z_goto (tgt := 31) dX6_holds_27 (by decide) ?_
          exact m_zret dX6_holds_31 rfl (by decide) h
theorem c_X6_holds {w : GX} {d : Nat} {P : PN} {g : GI} {x0 : Nat} (hx0 : isS x0) {x1 x2 : Int}  (hP : P (some (aI (hld (g x0 2) x1 x2))) g) : Zm w d mX6_holds 0 [some (aR (some x0)), some (aI x1), some (aI x2)] [] g P := by
  refine s_X6_holds_0 hx0 _ _ ?_
  try simp (disch := omega) only [nm_id, nm_lit0, nm_lit1, nm_m1, lCmp_lt, lCmp_gt, lCmp_eq, nbI_0, decide_eq_false_iff_not, true_and]
  repeat' (first | apply And.intro | intro _)

  all_goals first | exact bI_01 _ | (exact pI hP (by unfold hld; (try simp only [bI, decide_eq_true_eq]); (repeat' split) <;> omega))
theorem dX11_in_0 : decode cX11_in 0 = .ok (.lload_n 0, 1) := by decide +kernel
theorem dX11_in_1 : decode cX11_in 1 = .ok (.lload_n 2, 1) := by decide +kernel
theorem dX11_in_2 : decode cX11_in 2 = .ok (.lcmp, 1) := by decide +kernel
theorem dX11_in_3 : decode cX11_in 3 = .ok (.ifCond .lt 14, 3) := by decide +kernel
theorem dX11_in_6 : decode cX11_in 6 = .ok (.lload_n 0, 1) := by decide +kernel
theorem dX11_in_7 : decode cX11_in 7 = .ok (.lload 4, 2) := by decide +kernel
theorem dX11_in_9 : decode cX11_in 9 = .ok (.lcmp, 1) := by decide +kernel
theorem dX11_in_10 : decode cX11_in 10 = .ok (.ifCond .gt 7, 3) := by decide +kernel
theorem dX11_in_13 : decode cX11_in 13 = .ok (.iconst 1, 1) := by decide +kernel
theorem dX11_in_14 : decode cX11_in 14 = .ok (.goto 4, 3) := by decide +kernel
theorem dX11_in_17 : decode cX11_in 17 = .ok (.iconst 0, 1) := by decide +kernel
theorem dX11_in_18 : decode cX11_in 18 = .ok (.ireturn, 1) := by decide +kernel
set_option maxRecDepth 4000 in
theorem s_X11_in_0 {w : GX} {d : Nat} {P : PN} {g : GI} (x0 : Int) (x2 : Int) (x4 : Int)
    (h : ((nm (lCmp x0 x2) < 0 → P (some (aI (0))) g) ∧ (¬ nm (lCmp x0 x2) < 0 → ((0 < nm (lCmp x0 x4) → P (some (aI (0))) g) ∧ (¬ 0 < nm (lCmp x0 x4) → P (some (aI (1))) g))))) :
    Zm w d mX11_in 0 [some (aL (x0)), none, some (aL (x2)), none, some (aL (x4)), none] [] g P := by
  refine z_lload_n dX11_in_0 rfl rfl ?_
  refine z_lload_n dX11_in_1 rfl rfl ?_
  refine z_lcmp dX11_in_2 ?_
  refine z_if_lt (tgt := 17) dX11_in_3 (by decide) (fun c1 => ?_) (fun c1 => ?_)
  · replace h := h.1 c1
    refine z_iconst dX11_in_17 ?_
    exact m_zret dX11_in_18 rfl (by decide) h
  · replace h := h.2 c1
    refine z_lload_n dX11_in_6 rfl rfl ?_
    refine z_lload dX11_in_7 rfl ?_
    refine z_lcmp dX11_in_9 ?_
    refine z_if_gt (tgt := 17) dX11_in_10 (by decide) (fun c2 => ?_) (fun c2 => ?_)
    · replace h := h.1 c2
      refine z_iconst dX11_in_17 ?_
      exact m_zret dX11_in_18 rfl (by decide) h
    · replace h := h.2 c2
      refine z_iconst dX11_in_13 ?_
      refine z_goto (tgt := 18) dX11_in_14 (by decide) ?_
      exact m_zret dX11_in_18 rfl (by decide) h
theorem c_X11_in {w : GX} {d : Nat} {P : PN} {g : GI} {x0 x2 x4 : Int}  (hP : P (some (aI (lin x0 x2 x4))) g) : Zm w d mX11_in 0 [some (aL x0), none, some (aL x2), none, some (aL x4), none] [] g P := by
  refine s_X11_in_0 _ _ _ ?_
  try simp (disch := omega) only [nm_id, nm_lit0, nm_lit1, nm_m1, lCmp_lt, lCmp_gt, lCmp_eq, nbI_0, decide_eq_false_iff_not, true_and]
  repeat' (first | apply And.intro | intro _)

  all_goals first | exact bI_01 _ | (exact pI hP (by unfold lin; (try simp only [bI, decide_eq_true_eq]); (repeat' split) <;> omega))
theorem dX11_no_0 : decode cX11_no 0 = .ok (.ldc2_w 86, 3) := by decide +kernel
theorem dX11_no_3 : decode cX11_no 3 = .ok (.iload_n 0, 1) := by decide +kernel
theorem dX11_no_4 : decode cX11_no 4 = .ok (.i2l, 1) := by decide +kernel
theorem dX11_no_5 : decode cX11_no 5 = .ok (.lsub, 1) := by decide +kernel
theorem dX11_no_6 : decode cX11_no 6 = .ok (.lreturn, 1) := by decide +kernel
set_option maxRecDepth 4000 in
theorem s_X11_no_0 {w : GX} {d : Nat} {P : PN} {g : GI} (x0 : Int)
    (h : P (some (aL (((-9223372036854775808)) - (nm x0)))) g) :
    Zm w d mX11_no 0 [some (aI (x0))] [] g P := by
  refine z_ldc2 dX11_no_0 kl_X11_86 ?_
  refine z_iload_n dX11_no_3 rfl rfl ?_
  refine z_i2l dX11_no_4 ?_
  refine z_lsub dX11_no_5 ?_
  exact m_lret dX11_no_6 rfl h
theorem c_X11_no {w : GX} {d : Nat} {P : PN} {g : GI} {x0 : Int} (hP : P (some (aL ((-9223372036854775808) - nm x0))) g) : Zm w d mX11_no 0 [some (aI x0)] [] g P := s_X11_no_0 _ hP
theorem lin_inn {x lo hi : Int} (h1 : nml lo = lo) (h2 : nml hi = hi) : lin (nm x) lo hi = inn x lo hi := by unfold lin inn; rw [nml_nm, h1, h2]
theorem dX11_isTwo_0 : decode cX11_isTwo 0 = .ok (.iload_n 0, 1) := by decide +kernel
theorem dX11_isTwo_1 : decode cX11_isTwo 1 = .ok (.i2l, 1) := by decide +kernel
theorem dX11_isTwo_2 : decode cX11_isTwo 2 = .ok (.lconst 0, 1) := by decide +kernel
theorem dX11_isTwo_3 : decode cX11_isTwo 3 = .ok (.lconst 1, 1) := by decide +kernel
theorem dX11_isTwo_4 : decode cX11_isTwo 4 = .ok (.invokestatic 88, 3) := by decide +kernel
theorem dX11_isTwo_7 : decode cX11_isTwo 7 = .ok (.ireturn, 1) := by decide +kernel
set_option maxRecDepth 4000 in
theorem s_X11_isTwo_0 {w : GX} {d : Nat} {P : PN} {g : GI} (x0 : Int)
    (h : (((lin (nm x0) (0) (1) = 0 ∨ lin (nm x0) (0) (1) = 1) ∧ P (some (aI (lin (nm x0) (0) (1)))) g))) :
    Zm w (d + 1) mX11_isTwo 0 [some (aI (x0))] [] g P := by
  refine z_iload_n dX11_isTwo_0 rfl rfl ?_
  refine z_i2l dX11_isTwo_1 ?_
  refine z_lconst (z := 0) dX11_isTwo_2 rfl ?_
  refine z_lconst (z := 1) dX11_isTwo_3 rfl ?_
  refine m_callS (as := [aL (nm x0), aL (0), aL (1)]) dX11_isTwo_4 lk_X11_88 mok_X11_in st_X11_in rfl (Nat.le_of_ble_eq_true rfl) rfl (Nat.le_of_ble_eq_true rfl) rfl (c_X11_in  ?_)
  show Zm w (d + 1) mX11_isTwo 7 [some (aI (x0))] [aI (lin (nm x0) (0) (1))] g P
  obtain ⟨q1, h⟩ := h
  exact m_zret dX11_isTwo_7 rfl q1 h
theorem c_X11_isTwo {w : GX} {d : Nat} {P : PN} {g : GI} {x0 : Int}  (hP : P (some (aI (inn x0 0 1))) g) : Zm w (d + 1) mX11_isTwo 0 [some (aI x0)] [] g P := by
  refine s_X11_isTwo_0 _ ⟨bI_01 _, ?_⟩
  rw [lin_inn (by decide) (by decide)]
  exact hP
theorem dX11_isSheet_0 : decode cX11_isSheet 0 = .ok (.iload_n 0, 1) := by decide +kernel
theorem dX11_isSheet_1 : decode cX11_isSheet 1 = .ok (.i2l, 1) := by decide +kernel
theorem dX11_isSheet_2 : decode cX11_isSheet 2 = .ok (.lconst 0, 1) := by decide +kernel
theorem dX11_isSheet_3 : decode cX11_isSheet 3 = .ok (.ldc2_w 95, 3) := by decide +kernel
theorem dX11_isSheet_6 : decode cX11_isSheet 6 = .ok (.invokestatic 88, 3) := by decide +kernel
theorem dX11_isSheet_9 : decode cX11_isSheet 9 = .ok (.ireturn, 1) := by decide +kernel
set_option maxRecDepth 4000 in
theorem s_X11_isSheet_0 {w : GX} {d : Nat} {P : PN} {g : GI} (x0 : Int)
    (h : (((lin (nm x0) (0) (3) = 0 ∨ lin (nm x0) (0) (3) = 1) ∧ P (some (aI (lin (nm x0) (0) (3)))) g))) :
    Zm w (d + 1) mX11_isSheet 0 [some (aI (x0))] [] g P := by
  refine z_iload_n dX11_isSheet_0 rfl rfl ?_
  refine z_i2l dX11_isSheet_1 ?_
  refine z_lconst (z := 0) dX11_isSheet_2 rfl ?_
  refine z_ldc2 dX11_isSheet_3 kl_X11_95 ?_
  refine m_callS (as := [aL (nm x0), aL (0), aL (3)]) dX11_isSheet_6 lk_X11_88 mok_X11_in st_X11_in rfl (Nat.le_of_ble_eq_true rfl) rfl (Nat.le_of_ble_eq_true rfl) rfl (c_X11_in  ?_)
  show Zm w (d + 1) mX11_isSheet 9 [some (aI (x0))] [aI (lin (nm x0) (0) (3))] g P
  obtain ⟨q1, h⟩ := h
  exact m_zret dX11_isSheet_9 rfl q1 h
theorem c_X11_isSheet {w : GX} {d : Nat} {P : PN} {g : GI} {x0 : Int}  (hP : P (some (aI (inn x0 0 3))) g) : Zm w (d + 1) mX11_isSheet 0 [some (aI x0)] [] g P := by
  refine s_X11_isSheet_0 _ ⟨bI_01 _, ?_⟩
  rw [lin_inn (by decide) (by decide)]
  exact hP
theorem dX11_isLetter_0 : decode cX11_isLetter 0 = .ok (.iload_n 0, 1) := by decide +kernel
theorem dX11_isLetter_1 : decode cX11_isLetter 1 = .ok (.i2l, 1) := by decide +kernel
theorem dX11_isLetter_2 : decode cX11_isLetter 2 = .ok (.ldc2_w 121, 3) := by decide +kernel
theorem dX11_isLetter_5 : decode cX11_isLetter 5 = .ok (.ldc2_w 123, 3) := by decide +kernel
theorem dX11_isLetter_8 : decode cX11_isLetter 8 = .ok (.invokestatic 88, 3) := by decide +kernel
theorem dX11_isLetter_11 : decode cX11_isLetter 11 = .ok (.ireturn, 1) := by decide +kernel
set_option maxRecDepth 4000 in
theorem s_X11_isLetter_0 {w : GX} {d : Nat} {P : PN} {g : GI} (x0 : Int)
    (h : (((lin (nm x0) (97) (122) = 0 ∨ lin (nm x0) (97) (122) = 1) ∧ P (some (aI (lin (nm x0) (97) (122)))) g))) :
    Zm w (d + 1) mX11_isLetter 0 [some (aI (x0))] [] g P := by
  refine z_iload_n dX11_isLetter_0 rfl rfl ?_
  refine z_i2l dX11_isLetter_1 ?_
  refine z_ldc2 dX11_isLetter_2 kl_X11_121 ?_
  refine z_ldc2 dX11_isLetter_5 kl_X11_123 ?_
  refine m_callS (as := [aL (nm x0), aL (97), aL (122)]) dX11_isLetter_8 lk_X11_88 mok_X11_in st_X11_in rfl (Nat.le_of_ble_eq_true rfl) rfl (Nat.le_of_ble_eq_true rfl) rfl (c_X11_in  ?_)
  show Zm w (d + 1) mX11_isLetter 11 [some (aI (x0))] [aI (lin (nm x0) (97) (122))] g P
  obtain ⟨q1, h⟩ := h
  exact m_zret dX11_isLetter_11 rfl q1 h
theorem c_X11_isLetter {w : GX} {d : Nat} {P : PN} {g : GI} {x0 : Int}  (hP : P (some (aI (inn x0 97 122))) g) : Zm w (d + 1) mX11_isLetter 0 [some (aI x0)] [] g P := by
  refine s_X11_isLetter_0 _ ⟨bI_01 _, ?_⟩
  rw [lin_inn (by decide) (by decide)]
  exact hP
theorem dX11_isAnyone_0 : decode cX11_isAnyone 0 = .ok (.iload_n 0, 1) := by decide +kernel
theorem dX11_isAnyone_1 : decode cX11_isAnyone 1 = .ok (.i2l, 1) := by decide +kernel
theorem dX11_isAnyone_2 : decode cX11_isAnyone 2 = .ok (.lconst 0, 1) := by decide +kernel
theorem dX11_isAnyone_3 : decode cX11_isAnyone 3 = .ok (.ldc2_w 157, 3) := by decide +kernel
theorem dX11_isAnyone_6 : decode cX11_isAnyone 6 = .ok (.invokestatic 88, 3) := by decide +kernel
theorem dX11_isAnyone_9 : decode cX11_isAnyone 9 = .ok (.ireturn, 1) := by decide +kernel
set_option maxRecDepth 4000 in
theorem s_X11_isAnyone_0 {w : GX} {d : Nat} {P : PN} {g : GI} (x0 : Int)
    (h : (((lin (nm x0) (0) (7) = 0 ∨ lin (nm x0) (0) (7) = 1) ∧ P (some (aI (lin (nm x0) (0) (7)))) g))) :
    Zm w (d + 1) mX11_isAnyone 0 [some (aI (x0))] [] g P := by
  refine z_iload_n dX11_isAnyone_0 rfl rfl ?_
  refine z_i2l dX11_isAnyone_1 ?_
  refine z_lconst (z := 0) dX11_isAnyone_2 rfl ?_
  refine z_ldc2 dX11_isAnyone_3 kl_X11_157 ?_
  refine m_callS (as := [aL (nm x0), aL (0), aL (7)]) dX11_isAnyone_6 lk_X11_88 mok_X11_in st_X11_in rfl (Nat.le_of_ble_eq_true rfl) rfl (Nat.le_of_ble_eq_true rfl) rfl (c_X11_in  ?_)
  show Zm w (d + 1) mX11_isAnyone 9 [some (aI (x0))] [aI (lin (nm x0) (0) (7))] g P
  obtain ⟨q1, h⟩ := h
  exact m_zret dX11_isAnyone_9 rfl q1 h
theorem c_X11_isAnyone {w : GX} {d : Nat} {P : PN} {g : GI} {x0 : Int}  (hP : P (some (aI (inn x0 0 7))) g) : Zm w (d + 1) mX11_isAnyone 0 [some (aI x0)] [] g P := by
  refine s_X11_isAnyone_0 _ ⟨bI_01 _, ?_⟩
  rw [lin_inn (by decide) (by decide)]
  exact hP
theorem dX11_isDay_0 : decode cX11_isDay 0 = .ok (.iload_n 0, 1) := by decide +kernel
theorem dX11_isDay_1 : decode cX11_isDay 1 = .ok (.i2l, 1) := by decide +kernel
theorem dX11_isDay_2 : decode cX11_isDay 2 = .ok (.lconst 0, 1) := by decide +kernel
theorem dX11_isDay_3 : decode cX11_isDay 3 = .ok (.ldc2_w 159, 3) := by decide +kernel
theorem dX11_isDay_6 : decode cX11_isDay 6 = .ok (.invokestatic 88, 3) := by decide +kernel
theorem dX11_isDay_9 : decode cX11_isDay 9 = .ok (.ireturn, 1) := by decide +kernel
set_option maxRecDepth 4000 in
theorem s_X11_isDay_0 {w : GX} {d : Nat} {P : PN} {g : GI} (x0 : Int)
    (h : (((lin (nm x0) (0) (19) = 0 ∨ lin (nm x0) (0) (19) = 1) ∧ P (some (aI (lin (nm x0) (0) (19)))) g))) :
    Zm w (d + 1) mX11_isDay 0 [some (aI (x0))] [] g P := by
  refine z_iload_n dX11_isDay_0 rfl rfl ?_
  refine z_i2l dX11_isDay_1 ?_
  refine z_lconst (z := 0) dX11_isDay_2 rfl ?_
  refine z_ldc2 dX11_isDay_3 kl_X11_159 ?_
  refine m_callS (as := [aL (nm x0), aL (0), aL (19)]) dX11_isDay_6 lk_X11_88 mok_X11_in st_X11_in rfl (Nat.le_of_ble_eq_true rfl) rfl (Nat.le_of_ble_eq_true rfl) rfl (c_X11_in  ?_)
  show Zm w (d + 1) mX11_isDay 9 [some (aI (x0))] [aI (lin (nm x0) (0) (19))] g P
  obtain ⟨q1, h⟩ := h
  exact m_zret dX11_isDay_9 rfl q1 h
theorem c_X11_isDay {w : GX} {d : Nat} {P : PN} {g : GI} {x0 : Int}  (hP : P (some (aI (inn x0 0 19))) g) : Zm w (d + 1) mX11_isDay 0 [some (aI x0)] [] g P := by
  refine s_X11_isDay_0 _ ⟨bI_01 _, ?_⟩
  rw [lin_inn (by decide) (by decide)]
  exact hP
theorem dX11_isPerson_0 : decode cX11_isPerson 0 = .ok (.iload_n 1, 1) := by decide +kernel
theorem dX11_isPerson_1 : decode cX11_isPerson 1 = .ok (.i2l, 1) := by decide +kernel
theorem dX11_isPerson_2 : decode cX11_isPerson 2 = .ok (.lconst 0, 1) := by decide +kernel
theorem dX11_isPerson_3 : decode cX11_isPerson 3 = .ok (.aload_n 0, 1) := by decide +kernel
theorem dX11_isPerson_4 : decode cX11_isPerson 4 = .ok (.getfield 140, 3) := by decide +kernel
theorem dX11_isPerson_7 : decode cX11_isPerson 7 = .ok (.iconst 1, 1) := by decide +kernel
theorem dX11_isPerson_8 : decode cX11_isPerson 8 = .ok (.isub, 1) := by decide +kernel
theorem dX11_isPerson_9 : decode cX11_isPerson 9 = .ok (.i2l, 1) := by decide +kernel
theorem dX11_isPerson_10 : decode cX11_isPerson 10 = .ok (.invokestatic 88, 3) := by decide +kernel
theorem dX11_isPerson_13 : decode cX11_isPerson 13 = .ok (.ireturn, 1) := by decide +kernel
set_option maxRecDepth 4000 in
theorem s_X11_isPerson_0 {w : GX} {d : Nat} {P : PN} {g : GI} (x1 : Int)
    (h : (((lin (nm x1) (0) (nm ((g 228 10) - 1)) = 0 ∨ lin (nm x1) (0) (nm ((g 228 10) - 1)) = 1) ∧ P (some (aI (lin (nm x1) (0) (nm ((g 228 10) - 1))))) g))) :
    Zm w (d + 1) mX11_isPerson 0 [some (aR (some (228))), some (aI (x1))] [] g P := by
  refine z_iload_n dX11_isPerson_0 rfl rfl ?_
  refine z_i2l dX11_isPerson_1 ?_
  refine z_lconst (z := 0) dX11_isPerson_2 rfl ?_
  refine z_aload_n dX11_isPerson_3 rfl rfl ?_
  refine z_getI dX11_isPerson_4 fl_X11_140 (by decide) kt_228 ?_
  refine z_iconst dX11_isPerson_7 ?_
  refine z_isub dX11_isPerson_8 ?_
  refine z_i2l dX11_isPerson_9 ?_
  refine m_callS (as := [aL (nm x1), aL (0), aL (nm ((g 228 10) - 1))]) dX11_isPerson_10 lk_X11_88 mok_X11_in st_X11_in rfl (Nat.le_of_ble_eq_true rfl) rfl (Nat.le_of_ble_eq_true rfl) rfl (c_X11_in  ?_)
  show Zm w (d + 1) mX11_isPerson 13 [some (aR (some (228))), some (aI (x1))] [aI (lin (nm x1) (0) (nm ((g 228 10) - 1)))] g P
  obtain ⟨q1, h⟩ := h
  exact m_zret dX11_isPerson_13 rfl q1 h
theorem c_X11_isPerson {w : GX} {d : Nat} {P : PN} {g : GI} {x1 : Int}  (hP : P (some (aI (inn x1 0 (nm (g 228 10 - 1))))) g) : Zm w (d + 1) mX11_isPerson 0 [some (aR (some 228)), some (aI x1)] [] g P := by
  refine s_X11_isPerson_0 _ ⟨bI_01 _, ?_⟩
  rw [lin_inn (by decide) (nml_nm _)]
  exact hP
theorem dX11_isIn_0 : decode cX11_isIn 0 = .ok (.iload_n 0, 1) := by decide +kernel
theorem dX11_isIn_1 : decode cX11_isIn 1 = .ok (.iload_n 1, 1) := by decide +kernel
theorem dX11_isIn_2 : decode cX11_isIn 2 = .ok (.ishr, 1) := by decide +kernel
theorem dX11_isIn_3 : decode cX11_isIn 3 = .ok (.iconst 1, 1) := by decide +kernel
theorem dX11_isIn_4 : decode cX11_isIn 4 = .ok (.iand, 1) := by decide +kernel
theorem dX11_isIn_5 : decode cX11_isIn 5 = .ok (.iconst 1, 1) := by decide +kernel
theorem dX11_isIn_6 : decode cX11_isIn 6 = .ok (.if_icmp .ne 7, 3) := by decide +kernel
theorem dX11_isIn_9 : decode cX11_isIn 9 = .ok (.iconst 1, 1) := by decide +kernel
theorem dX11_isIn_10 : decode cX11_isIn 10 = .ok (.goto 4, 3) := by decide +kernel
theorem dX11_isIn_13 : decode cX11_isIn 13 = .ok (.iconst 0, 1) := by decide +kernel
theorem dX11_isIn_14 : decode cX11_isIn 14 = .ok (.ireturn, 1) := by decide +kernel
set_option maxRecDepth 4000 in
theorem s_X11_isIn_0 {w : GX} {d : Nat} {P : PN} {g : GI} (x0 : Int) (x1 : Int)
    (h : ((¬ nm (iAnd (iShr x0 x1) 1) = nm 1 → P (some (aI (0))) g) ∧ (nm (iAnd (iShr x0 x1) 1) = nm 1 → P (some (aI (1))) g))) :
    Zm w d mX11_isIn 0 [some (aI (x0)), some (aI (x1))] [] g P := by
  refine z_iload_n dX11_isIn_0 rfl rfl ?_
  refine z_iload_n dX11_isIn_1 rfl rfl ?_
  refine z_ishr dX11_isIn_2 ?_
  refine z_iconst dX11_isIn_3 ?_
  refine z_iand dX11_isIn_4 ?_
  refine z_iconst dX11_isIn_5 ?_
  refine z_icmp_ne (tgt := 13) dX11_isIn_6 (by decide) (fun c1 => ?_) (fun c1 => ?_)
  · replace h := h.1 c1
    refine z_iconst dX11_isIn_13 ?_
    exact m_zret dX11_isIn_14 rfl (by decide) h
  · replace h := h.2 (Decidable.not_not.mp c1)
    refine z_iconst dX11_isIn_9 ?_
    refine z_goto (tgt := 14) dX11_isIn_10 (by decide) ?_
    exact m_zret dX11_isIn_14 rfl (by decide) h
theorem c_X11_isIn {w : GX} {d : Nat} {P : PN} {g : GI} {x0 x1 : Int}  (hP : P (some (aI (isB x0 x1))) g) : Zm w d mX11_isIn 0 [some (aI x0), some (aI x1)] [] g P := by
  refine s_X11_isIn_0 _ _ ?_
  try simp (disch := omega) only [nm_id, nm_lit0, nm_lit1, nm_m1, lCmp_lt, lCmp_gt, lCmp_eq, nbI_0, decide_eq_false_iff_not, true_and]
  repeat' (first | apply And.intro | intro _)

  all_goals first | exact bI_01 _ | (exact pI hP (by unfold isB; (try simp only [bI, decide_eq_true_eq]); (repeat' split) <;> omega))
theorem dX11_lesser_0 : decode cX11_lesser 0 = .ok (.iload_n 0, 1) := by decide +kernel
theorem dX11_lesser_1 : decode cX11_lesser 1 = .ok (.iload_n 1, 1) := by decide +kernel
theorem dX11_lesser_2 : decode cX11_lesser 2 = .ok (.if_icmp .ge 7, 3) := by decide +kernel
theorem dX11_lesser_5 : decode cX11_lesser 5 = .ok (.iload_n 0, 1) := by decide +kernel
theorem dX11_lesser_6 : decode cX11_lesser 6 = .ok (.goto 4, 3) := by decide +kernel
theorem dX11_lesser_9 : decode cX11_lesser 9 = .ok (.iload_n 1, 1) := by decide +kernel
theorem dX11_lesser_10 : decode cX11_lesser 10 = .ok (.ireturn, 1) := by decide +kernel
set_option maxRecDepth 4000 in
theorem s_X11_lesser_0 {w : GX} {d : Nat} {P : PN} {g : GI} (x0 : Int) (x1 : Int)
    (h : ((¬ nm x0 < nm x1 → P (some (aI (x1))) g) ∧ (nm x0 < nm x1 → P (some (aI (x0))) g))) :
    Zm w d mX11_lesser 0 [some (aI (x0)), some (aI (x1))] [] g P := by
  refine z_iload_n dX11_lesser_0 rfl rfl ?_
  refine z_iload_n dX11_lesser_1 rfl rfl ?_
  refine z_icmp_ge (tgt := 9) dX11_lesser_2 (by decide) (fun c1 => ?_) (fun c1 => ?_)
  · replace h := h.1 c1
    refine z_iload_n dX11_lesser_9 rfl rfl ?_
    exact m_iret dX11_lesser_10 rfl h
  · replace h := h.2 (Decidable.not_not.mp c1)
    refine z_iload_n dX11_lesser_5 rfl rfl ?_
    refine z_goto (tgt := 10) dX11_lesser_6 (by decide) ?_
    exact m_iret dX11_lesser_10 rfl h
theorem c_X11_lesser {w : GX} {d : Nat} {P : PN} {g : GI} {x0 x1 : Int}  (hP : P (some (aI (lss x0 x1))) g) : Zm w d mX11_lesser 0 [some (aI x0), some (aI x1)] [] g P := by
  refine s_X11_lesser_0 _ _ ?_
  try simp (disch := omega) only [nm_id, nm_lit0, nm_lit1, nm_m1, lCmp_lt, lCmp_gt, lCmp_eq, nbI_0, decide_eq_false_iff_not, true_and]
  repeat' (first | apply And.intro | intro _)

  all_goals first | exact bI_01 _ | (exact pI hP (by unfold lss; (try simp only [bI, decide_eq_true_eq]); (repeat' split) <;> omega))
theorem dX11_cut_0 : decode cX11_cut 0 = .ok (.iload_n 0, 1) := by decide +kernel
theorem dX11_cut_1 : decode cX11_cut 1 = .ok (.ifCond .ne 8, 3) := by decide +kernel
theorem dX11_cut_4 : decode cX11_cut 4 = .ok (.iload_n 1, 1) := by decide +kernel
theorem dX11_cut_5 : decode cX11_cut 5 = .ok (.i2b, 1) := by decide +kernel
theorem dX11_cut_6 : decode cX11_cut 6 = .ok (.goto 14, 3) := by decide +kernel
theorem dX11_cut_9 : decode cX11_cut 9 = .ok (.iload_n 0, 1) := by decide +kernel
theorem dX11_cut_10 : decode cX11_cut 10 = .ok (.iconst 1, 1) := by decide +kernel
theorem dX11_cut_11 : decode cX11_cut 11 = .ok (.if_icmp .ne 8, 3) := by decide +kernel
theorem dX11_cut_14 : decode cX11_cut 14 = .ok (.iload_n 1, 1) := by decide +kernel
theorem dX11_cut_15 : decode cX11_cut 15 = .ok (.i2s, 1) := by decide +kernel
theorem dX11_cut_16 : decode cX11_cut 16 = .ok (.goto 4, 3) := by decide +kernel
theorem dX11_cut_19 : decode cX11_cut 19 = .ok (.iload_n 1, 1) := by decide +kernel
theorem dX11_cut_20 : decode cX11_cut 20 = .ok (.ireturn, 1) := by decide +kernel
set_option maxRecDepth 4000 in
theorem s_X11_cut_0 {w : GX} {d : Nat} {P : PN} {g : GI} (x0 : Int) (x1 : Int)
    (h : ((¬ nm x0 = 0 → ((¬ nm x0 = nm 1 → P (some (aI (x1))) g) ∧ (nm x0 = nm 1 → P (some (aI (iShort x1))) g))) ∧ (nm x0 = 0 → P (some (aI (iByte x1))) g))) :
    Zm w d mX11_cut 0 [some (aI (x0)), some (aI (x1))] [] g P := by
  refine z_iload_n dX11_cut_0 rfl rfl ?_
  refine z_if_ne (tgt := 9) dX11_cut_1 (by decide) (fun c1 => ?_) (fun c1 => ?_)
  · replace h := h.1 c1
    refine z_iload_n dX11_cut_9 rfl rfl ?_
    refine z_iconst dX11_cut_10 ?_
    refine z_icmp_ne (tgt := 19) dX11_cut_11 (by decide) (fun c2 => ?_) (fun c2 => ?_)
    · replace h := h.1 c2
      refine z_iload_n dX11_cut_19 rfl rfl ?_
      exact m_iret dX11_cut_20 rfl h
    · replace h := h.2 (Decidable.not_not.mp c2)
      refine z_iload_n dX11_cut_14 rfl rfl ?_
      refine z_i2s dX11_cut_15 ?_
      refine z_goto (tgt := 20) dX11_cut_16 (by decide) ?_
      exact m_iret dX11_cut_20 rfl h
  · replace h := h.2 (Decidable.not_not.mp c1)
    refine z_iload_n dX11_cut_4 rfl rfl ?_
    refine z_i2b dX11_cut_5 ?_
    refine z_goto (tgt := 20) dX11_cut_6 (by decide) ?_
    exact m_iret dX11_cut_20 rfl h
theorem c_X11_cut {w : GX} {d : Nat} {P : PN} {g : GI} {x0 x1 : Int}  (hP : P (some (aI (cutI x0 x1))) g) : Zm w d mX11_cut 0 [some (aI x0), some (aI x1)] [] g P := by
  refine s_X11_cut_0 _ _ ?_
  try simp (disch := omega) only [nm_id, nm_lit0, nm_lit1, nm_m1, lCmp_lt, lCmp_gt, lCmp_eq, nbI_0, decide_eq_false_iff_not, true_and]
  repeat' (first | apply And.intro | intro _)

  all_goals first | exact bI_01 _ | (exact pI hP (by unfold cutI; (try simp only [bI, decide_eq_true_eq]); (repeat' split) <;> omega))
theorem dX11_vowelOf_0 : decode cX11_vowelOf 0 = .ok (.iload_n 0, 1) := by decide +kernel
theorem dX11_vowelOf_1 : decode cX11_vowelOf 1 = .ok (.iconst 4, 1) := by decide +kernel
theorem dX11_vowelOf_2 : decode cX11_vowelOf 2 = .ok (.if_icmp .ge 7, 3) := by decide +kernel
theorem dX11_vowelOf_5 : decode cX11_vowelOf 5 = .ok (.iconst 0, 1) := by decide +kernel
theorem dX11_vowelOf_6 : decode cX11_vowelOf 6 = .ok (.goto 37, 3) := by decide +kernel
theorem dX11_vowelOf_9 : decode cX11_vowelOf 9 = .ok (.iload_n 0, 1) := by decide +kernel
theorem dX11_vowelOf_10 : decode cX11_vowelOf 10 = .ok (.bipush 8, 2) := by decide +kernel
theorem dX11_vowelOf_12 : decode cX11_vowelOf 12 = .ok (.if_icmp .ge 7, 3) := by decide +kernel
theorem dX11_vowelOf_15 : decode cX11_vowelOf 15 = .ok (.iconst 4, 1) := by decide +kernel
theorem dX11_vowelOf_16 : decode cX11_vowelOf 16 = .ok (.goto 27, 3) := by decide +kernel
theorem dX11_vowelOf_19 : decode cX11_vowelOf 19 = .ok (.iload_n 0, 1) := by decide +kernel
theorem dX11_vowelOf_20 : decode cX11_vowelOf 20 = .ok (.bipush 14, 2) := by decide +kernel
theorem dX11_vowelOf_22 : decode cX11_vowelOf 22 = .ok (.if_icmp .ge 8, 3) := by decide +kernel
theorem dX11_vowelOf_25 : decode cX11_vowelOf 25 = .ok (.bipush 8, 2) := by decide +kernel
theorem dX11_vowelOf_27 : decode cX11_vowelOf 27 = .ok (.goto 16, 3) := by decide +kernel
theorem dX11_vowelOf_30 : decode cX11_vowelOf 30 = .ok (.iload_n 0, 1) := by decide +kernel
theorem dX11_vowelOf_31 : decode cX11_vowelOf 31 = .ok (.bipush 20, 2) := by decide +kernel
theorem dX11_vowelOf_33 : decode cX11_vowelOf 33 = .ok (.if_icmp .ge 8, 3) := by decide +kernel
theorem dX11_vowelOf_36 : decode cX11_vowelOf 36 = .ok (.bipush 14, 2) := by decide +kernel
theorem dX11_vowelOf_38 : decode cX11_vowelOf 38 = .ok (.goto 5, 3) := by decide +kernel
theorem dX11_vowelOf_41 : decode cX11_vowelOf 41 = .ok (.bipush 20, 2) := by decide +kernel
theorem dX11_vowelOf_43 : decode cX11_vowelOf 43 = .ok (.ireturn, 1) := by decide +kernel
set_option maxRecDepth 4000 in
theorem s_X11_vowelOf_0 {w : GX} {d : Nat} {P : PN} {g : GI} (x0 : Int)
    (h : ((¬ nm x0 < nm 4 → ((¬ nm x0 < nm 8 → ((¬ nm x0 < nm 14 → ((¬ nm x0 < nm 20 → P (some (aI (20))) g) ∧ (nm x0 < nm 20 → P (some (aI (14))) g))) ∧ (nm x0 < nm 14 → P (some (aI (8))) g))) ∧ (nm x0 < nm 8 → P (some (aI (4))) g))) ∧ (nm x0 < nm 4 → P (some (aI (0))) g))) :
    Zm w d mX11_vowelOf 0 [some (aI (x0))] [] g P := by
  refine z_iload_n dX11_vowelOf_0 rfl rfl ?_
  refine z_iconst dX11_vowelOf_1 ?_
  refine z_icmp_ge (tgt := 9) dX11_vowelOf_2 (by decide) (fun c1 => ?_) (fun c1 => ?_)
  · replace h := h.1 c1
    refine z_iload_n dX11_vowelOf_9 rfl rfl ?_
    refine z_bipush dX11_vowelOf_10 rfl ?_
    refine z_icmp_ge (tgt := 19) dX11_vowelOf_12 (by decide) (fun c2 => ?_) (fun c2 => ?_)
    · replace h := h.1 c2
      refine z_iload_n dX11_vowelOf_19 rfl rfl ?_
      refine z_bipush dX11_vowelOf_20 rfl ?_
      refine z_icmp_ge (tgt := 30) dX11_vowelOf_22 (by decide) (fun c3 => ?_) (fun c3 => ?_)
      · replace h := h.1 c3
        refine z_iload_n dX11_vowelOf_30 rfl rfl ?_
        refine z_bipush dX11_vowelOf_31 rfl ?_
        refine z_icmp_ge (tgt := 41) dX11_vowelOf_33 (by decide) (fun c4 => ?_) (fun c4 => ?_)
        · replace h := h.1 c4
          refine z_bipush dX11_vowelOf_41 rfl ?_
          exact m_iret dX11_vowelOf_43 rfl h
        · replace h := h.2 (Decidable.not_not.mp c4)
          refine z_bipush dX11_vowelOf_36 rfl ?_
          refine z_goto (tgt := 43) dX11_vowelOf_38 (by decide) ?_
          exact m_iret dX11_vowelOf_43 rfl h
      · replace h := h.2 (Decidable.not_not.mp c3)
        refine z_bipush dX11_vowelOf_25 rfl ?_
        refine z_goto (tgt := 43) dX11_vowelOf_27 (by decide) ?_
        exact m_iret dX11_vowelOf_43 rfl h
    · replace h := h.2 (Decidable.not_not.mp c2)
      refine z_iconst dX11_vowelOf_15 ?_
      refine z_goto (tgt := 43) dX11_vowelOf_16 (by decide) ?_
      exact m_iret dX11_vowelOf_43 rfl h
  · replace h := h.2 (Decidable.not_not.mp c1)
    refine z_iconst dX11_vowelOf_5 ?_
    refine z_goto (tgt := 43) dX11_vowelOf_6 (by decide) ?_
    exact m_iret dX11_vowelOf_43 rfl h
theorem c_X11_vowelOf {w : GX} {d : Nat} {P : PN} {g : GI} {x0 : Int}  (hP : P (some (aI (vow (nm x0)))) g) : Zm w d mX11_vowelOf 0 [some (aI x0)] [] g P := by
  refine s_X11_vowelOf_0 _ ?_
  try simp (disch := omega) only [nm_id, nm_lit0, nm_lit1, nm_m1, lCmp_lt, lCmp_gt, lCmp_eq, nbI_0, decide_eq_false_iff_not, true_and]
  repeat' (first | apply And.intro | intro _)

  all_goals first | exact bI_01 _ | (exact pI hP (by unfold vow; (try simp only [bI, decide_eq_true_eq]); (repeat' split) <;> omega))
theorem dX11_tellsOf_0 : decode cX11_tellsOf 0 = .ok (.iload_n 0, 1) := by decide +kernel
theorem dX11_tellsOf_1 : decode cX11_tellsOf 1 = .ok (.lookupswitch 99 #[(0, 35), (3, 52), (5, 86)], 35) := by decide +kernel
theorem dX11_tellsOf_36 : decode cX11_tellsOf 36 = .ok (.iload_n 1, 1) := by decide +kernel
theorem dX11_tellsOf_37 : decode cX11_tellsOf 37 = .ok (.invokestatic 131, 3) := by decide +kernel
theorem dX11_tellsOf_40 : decode cX11_tellsOf 40 = .ok (.ifCond .eq 10, 3) := by decide +kernel
theorem dX11_tellsOf_43 : decode cX11_tellsOf 43 = .ok (.iload_n 1, 1) := by decide +kernel
theorem dX11_tellsOf_44 : decode cX11_tellsOf 44 = .ok (.bipush 97, 2) := by decide +kernel
theorem dX11_tellsOf_46 : decode cX11_tellsOf 46 = .ok (.isub, 1) := by decide +kernel
theorem dX11_tellsOf_47 : decode cX11_tellsOf 47 = .ok (.goto 5, 3) := by decide +kernel
theorem dX11_tellsOf_50 : decode cX11_tellsOf 50 = .ok (.bipush (-9), 2) := by decide +kernel
theorem dX11_tellsOf_52 : decode cX11_tellsOf 52 = .ok (.ireturn, 1) := by decide +kernel
theorem dX11_tellsOf_53 : decode cX11_tellsOf 53 = .ok (.iload_n 1, 1) := by decide +kernel
theorem dX11_tellsOf_54 : decode cX11_tellsOf 54 = .ok (.bipush 46, 2) := by decide +kernel
theorem dX11_tellsOf_56 : decode cX11_tellsOf 56 = .ok (.if_icmp .ne 7, 3) := by decide +kernel
theorem dX11_tellsOf_59 : decode cX11_tellsOf 59 = .ok (.iconst (-1), 1) := by decide +kernel
theorem dX11_tellsOf_60 : decode cX11_tellsOf 60 = .ok (.goto 26, 3) := by decide +kernel
theorem dX11_tellsOf_63 : decode cX11_tellsOf 63 = .ok (.iload_n 1, 1) := by decide +kernel
theorem dX11_tellsOf_64 : decode cX11_tellsOf 64 = .ok (.i2l, 1) := by decide +kernel
theorem dX11_tellsOf_65 : decode cX11_tellsOf 65 = .ok (.ldc2_w 134, 3) := by decide +kernel
theorem dX11_tellsOf_68 : decode cX11_tellsOf 68 = .ok (.ldc2_w 136, 3) := by decide +kernel
theorem dX11_tellsOf_71 : decode cX11_tellsOf 71 = .ok (.invokestatic 88, 3) := by decide +kernel
theorem dX11_tellsOf_74 : decode cX11_tellsOf 74 = .ok (.ifCond .eq 10, 3) := by decide +kernel
theorem dX11_tellsOf_77 : decode cX11_tellsOf 77 = .ok (.iload_n 1, 1) := by decide +kernel
theorem dX11_tellsOf_78 : decode cX11_tellsOf 78 = .ok (.bipush 48, 2) := by decide +kernel
theorem dX11_tellsOf_80 : decode cX11_tellsOf 80 = .ok (.isub, 1) := by decide +kernel
theorem dX11_tellsOf_81 : decode cX11_tellsOf 81 = .ok (.goto 5, 3) := by decide +kernel
theorem dX11_tellsOf_84 : decode cX11_tellsOf 84 = .ok (.bipush (-9), 2) := by decide +kernel
theorem dX11_tellsOf_86 : decode cX11_tellsOf 86 = .ok (.ireturn, 1) := by decide +kernel
theorem dX11_tellsOf_87 : decode cX11_tellsOf 87 = .ok (.iload_n 1, 1) := by decide +kernel
theorem dX11_tellsOf_88 : decode cX11_tellsOf 88 = .ok (.bipush 59, 2) := by decide +kernel
theorem dX11_tellsOf_90 : decode cX11_tellsOf 90 = .ok (.if_icmp .ne 7, 3) := by decide +kernel
theorem dX11_tellsOf_93 : decode cX11_tellsOf 93 = .ok (.iconst 0, 1) := by decide +kernel
theorem dX11_tellsOf_94 : decode cX11_tellsOf 94 = .ok (.goto 5, 3) := by decide +kernel
theorem dX11_tellsOf_97 : decode cX11_tellsOf 97 = .ok (.bipush (-9), 2) := by decide +kernel
theorem dX11_tellsOf_99 : decode cX11_tellsOf 99 = .ok (.ireturn, 1) := by decide +kernel
theorem dX11_tellsOf_100 : decode cX11_tellsOf 100 = .ok (.iload_n 1, 1) := by decide +kernel
theorem dX11_tellsOf_101 : decode cX11_tellsOf 101 = .ok (.i2l, 1) := by decide +kernel
theorem dX11_tellsOf_102 : decode cX11_tellsOf 102 = .ok (.ldc2_w 134, 3) := by decide +kernel
theorem dX11_tellsOf_105 : decode cX11_tellsOf 105 = .ok (.ldc2_w 138, 3) := by decide +kernel
theorem dX11_tellsOf_108 : decode cX11_tellsOf 108 = .ok (.invokestatic 88, 3) := by decide +kernel
theorem dX11_tellsOf_111 : decode cX11_tellsOf 111 = .ok (.ifCond .eq 10, 3) := by decide +kernel
theorem dX11_tellsOf_114 : decode cX11_tellsOf 114 = .ok (.iload_n 1, 1) := by decide +kernel
theorem dX11_tellsOf_115 : decode cX11_tellsOf 115 = .ok (.bipush 48, 2) := by decide +kernel
theorem dX11_tellsOf_117 : decode cX11_tellsOf 117 = .ok (.isub, 1) := by decide +kernel
theorem dX11_tellsOf_118 : decode cX11_tellsOf 118 = .ok (.goto 5, 3) := by decide +kernel
theorem dX11_tellsOf_121 : decode cX11_tellsOf 121 = .ok (.bipush (-9), 2) := by decide +kernel
theorem dX11_tellsOf_123 : decode cX11_tellsOf 123 = .ok (.ireturn, 1) := by decide +kernel
set_option maxRecDepth 4000 in
theorem s_X11_tellsOf_0 {w : GX} {d : Nat} {P : PN} {g : GI} (x0 : Int) (x1 : Int)
    (h : ((nm x0 = 0 → (((nm (inn (x1) 97 122) = 0 → P (some (aI ((-9)))) g) ∧ (¬ nm (inn (x1) 97 122) = 0 → P (some (aI (x1 - 97))) g)))) ∧ (nm x0 = 3 → ((¬ nm x1 = nm 46 → (((nm (lin (nm x1) (48) (55)) = 0 → P (some (aI ((-9)))) g) ∧ (¬ nm (lin (nm x1) (48) (55)) = 0 → P (some (aI (x1 - 48))) g)))) ∧ (nm x1 = nm 46 → P (some (aI ((-1)))) g))) ∧ (nm x0 = 5 → ((¬ nm x1 = nm 59 → P (some (aI ((-9)))) g) ∧ (nm x1 = nm 59 → P (some (aI (0))) g))) ∧ (¬ nm x0 = 0 → ¬ nm x0 = 3 → ¬ nm x0 = 5 → (((nm (lin (nm x1) (48) (57)) = 0 → P (some (aI ((-9)))) g) ∧ (¬ nm (lin (nm x1) (48) (57)) = 0 → P (some (aI (x1 - 48))) g)))))) :
    Zm w (d + 2) mX11_tellsOf 0 [some (aI (x0)), some (aI (x1))] [] g P := by
  refine z_iload_n dX11_tellsOf_0 rfl rfl ?_
  refine z_lsw (df := 100) (cs := [(0, 36), (3, 53), (5, 87)]) dX11_tellsOf_1 (by decide) (by decide) (by decide) (by decide) ?_
  by_cases c1 : nm x0 = 0
  · rw [sw_c c1]
    replace h := h.1 c1
    refine z_iload_n dX11_tellsOf_36 rfl rfl ?_
    refine m_callS (as := [aI (x1)]) dX11_tellsOf_37 lk_X11_131 mok_X11_isLetter st_X11_isLetter rfl (Nat.le_of_ble_eq_true rfl) rfl (Nat.le_of_ble_eq_true rfl) rfl (c_X11_isLetter  ?_)
    show Zm w (d + 2) mX11_tellsOf 40 [some (aI (x0)), some (aI (x1))] [aI (inn (x1) 97 122)] g P
    refine z_if_eq (tgt := 50) dX11_tellsOf_40 (by decide) (fun c2 => ?_) (fun c2 => ?_)
    · replace h := h.1 c2
      refine z_bipush dX11_tellsOf_50 rfl ?_
      exact m_iret dX11_tellsOf_52 rfl h
    · replace h := h.2 c2
      refine z_iload_n dX11_tellsOf_43 rfl rfl ?_
      refine z_bipush dX11_tellsOf_44 rfl ?_
      refine z_isub dX11_tellsOf_46 ?_
      refine z_goto (tgt := 52) dX11_tellsOf_47 (by decide) ?_
      exact m_iret dX11_tellsOf_52 rfl h
  rw [sw_n c1]; replace h := h.2
  by_cases c3 : nm x0 = 3
  · rw [sw_c c3]
    replace h := h.1 c3
    refine z_iload_n dX11_tellsOf_53 rfl rfl ?_
    refine z_bipush dX11_tellsOf_54 rfl ?_
    refine z_icmp_ne (tgt := 63) dX11_tellsOf_56 (by decide) (fun c4 => ?_) (fun c4 => ?_)
    · replace h := h.1 c4
      refine z_iload_n dX11_tellsOf_63 rfl rfl ?_
      refine z_i2l dX11_tellsOf_64 ?_
      refine z_ldc2 dX11_tellsOf_65 kl_X11_134 ?_
      refine z_ldc2 dX11_tellsOf_68 kl_X11_136 ?_
      refine m_callS (as := [aL (nm x1), aL (48), aL (55)]) dX11_tellsOf_71 lk_X11_88 mok_X11_in st_X11_in rfl (Nat.le_of_ble_eq_true rfl) rfl (Nat.le_of_ble_eq_true rfl) rfl (c_X11_in  ?_)
      show Zm w (d + 2) mX11_tellsOf 74 [some (aI (x0)), some (aI (x1))] [aI (lin (nm x1) (48) (55))] g P
      refine z_if_eq (tgt := 84) dX11_tellsOf_74 (by decide) (fun c5 => ?_) (fun c5 => ?_)
      · replace h := h.1 c5
        refine z_bipush dX11_tellsOf_84 rfl ?_
        exact m_iret dX11_tellsOf_86 rfl h
      · replace h := h.2 c5
        refine z_iload_n dX11_tellsOf_77 rfl rfl ?_
        refine z_bipush dX11_tellsOf_78 rfl ?_
        refine z_isub dX11_tellsOf_80 ?_
        refine z_goto (tgt := 86) dX11_tellsOf_81 (by decide) ?_
        exact m_iret dX11_tellsOf_86 rfl h
    · replace h := h.2 (Decidable.not_not.mp c4)
      refine z_iconst dX11_tellsOf_59 ?_
      refine z_goto (tgt := 86) dX11_tellsOf_60 (by decide) ?_
      exact m_iret dX11_tellsOf_86 rfl h
  rw [sw_n c3]; replace h := h.2
  by_cases c6 : nm x0 = 5
  · rw [sw_c c6]
    replace h := h.1 c6
    refine z_iload_n dX11_tellsOf_87 rfl rfl ?_
    refine z_bipush dX11_tellsOf_88 rfl ?_
    refine z_icmp_ne (tgt := 97) dX11_tellsOf_90 (by decide) (fun c7 => ?_) (fun c7 => ?_)
    · replace h := h.1 c7
      refine z_bipush dX11_tellsOf_97 rfl ?_
      exact m_iret dX11_tellsOf_99 rfl h
    · replace h := h.2 (Decidable.not_not.mp c7)
      refine z_iconst dX11_tellsOf_93 ?_
      refine z_goto (tgt := 99) dX11_tellsOf_94 (by decide) ?_
      exact m_iret dX11_tellsOf_99 rfl h
  rw [sw_n c6]; replace h := h.2
  replace h := h c1 c3 c6
  rw [sw_e]
  refine z_iload_n dX11_tellsOf_100 rfl rfl ?_
  refine z_i2l dX11_tellsOf_101 ?_
  refine z_ldc2 dX11_tellsOf_102 kl_X11_134 ?_
  refine z_ldc2 dX11_tellsOf_105 kl_X11_138 ?_
  refine m_callS (as := [aL (nm x1), aL (48), aL (57)]) dX11_tellsOf_108 lk_X11_88 mok_X11_in st_X11_in rfl (Nat.le_of_ble_eq_true rfl) rfl (Nat.le_of_ble_eq_true rfl) rfl (c_X11_in  ?_)
  show Zm w (d + 2) mX11_tellsOf 111 [some (aI (x0)), some (aI (x1))] [aI (lin (nm x1) (48) (57))] g P
  refine z_if_eq (tgt := 121) dX11_tellsOf_111 (by decide) (fun c8 => ?_) (fun c8 => ?_)
  · replace h := h.1 c8
    refine z_bipush dX11_tellsOf_121 rfl ?_
    exact m_iret dX11_tellsOf_123 rfl h
  · replace h := h.2 c8
    refine z_iload_n dX11_tellsOf_114 rfl rfl ?_
    refine z_bipush dX11_tellsOf_115 rfl ?_
    refine z_isub dX11_tellsOf_117 ?_
    refine z_goto (tgt := 123) dX11_tellsOf_118 (by decide) ?_
    exact m_iret dX11_tellsOf_123 rfl h
theorem c_X11_tellsOf {w : GX} {d : Nat} {P : PN} {g : GI} {x0 x1 : Int}  (hP : P (some (aI (tof x0 x1))) g) : Zm w (d + 2) mX11_tellsOf 0 [some (aI x0), some (aI x1)] [] g P := by
  refine s_X11_tellsOf_0 _ _ ?_
  rw [lin_inn (by decide) (by decide), lin_inn (by decide) (by decide)]
  simp (disch := omega) only [nm_id, inn, nbI_0, decide_eq_false_iff_not]
  repeat' (first | apply And.intro | intro _)

  all_goals (exact pI hP (by unfold tof; (repeat' split) <;> omega))
theorem dX11_names_0 : decode cX11_names 0 = .ok (.aload_n 0, 1) := by decide +kernel
theorem dX11_names_1 : decode cX11_names 1 = .ok (.getfield 128, 3) := by decide +kernel
theorem dX11_names_4 : decode cX11_names 4 = .ok (.aload_n 0, 1) := by decide +kernel
theorem dX11_names_5 : decode cX11_names 5 = .ok (.getfield 140, 3) := by decide +kernel
theorem dX11_names_8 : decode cX11_names 8 = .ok (.iadd, 1) := by decide +kernel
theorem dX11_names_9 : decode cX11_names 9 = .ok (.ireturn, 1) := by decide +kernel
set_option maxRecDepth 4000 in
theorem s_X11_names_0 {w : GX} {d : Nat} {P : PN} {g : GI} 
    (h : P (some (aI ((g 228 12) + (g 228 10)))) g) :
    Zm w d mX11_names 0 [some (aR (some (228)))] [] g P := by
  refine z_aload_n dX11_names_0 rfl rfl ?_
  refine z_getI dX11_names_1 fl_X11_128 (by decide) kt_228 ?_
  refine z_aload_n dX11_names_4 rfl rfl ?_
  refine z_getI dX11_names_5 fl_X11_140 (by decide) kt_228 ?_
  refine z_iadd dX11_names_8 ?_
  exact m_iret dX11_names_9 rfl h
theorem c_X11_names {w : GX} {d : Nat} {P : PN} {g : GI}   (hP : P (some (aI (g 228 12 + g 228 10))) g) : Zm w d mX11_names 0 [some (aR (some 228))] [] g P := by
  exact s_X11_names_0 hP
theorem dX11_finds_0 : decode cX11_finds 0 = .ok (.aload_n 0, 1) := by decide +kernel
theorem dX11_finds_1 : decode cX11_finds 1 = .ok (.iload_n 1, 1) := by decide +kernel
theorem dX11_finds_2 : decode cX11_finds 2 = .ok (.putfield 92, 3) := by decide +kernel
theorem dX11_finds_5 : decode cX11_finds 5 = .ok (.bipush (-10), 2) := by decide +kernel
theorem dX11_finds_7 : decode cX11_finds 7 = .ok (.iload_n 1, 1) := by decide +kernel
theorem dX11_finds_8 : decode cX11_finds 8 = .ok (.isub, 1) := by decide +kernel
theorem dX11_finds_9 : decode cX11_finds 9 = .ok (.ireturn, 1) := by decide +kernel
set_option maxRecDepth 4000 in
theorem s_X11_finds_0 {w : GX} {d : Nat} {P : PN} {g : GI} (x1 : Int)
    (h : (∀ g1 : GI, g1 = up2 g 228 4 x1 → P (some (aI (((-10)) - x1))) g1)) :
    Zm w d mX11_finds 0 [some (aR (some (228))), some (aI (x1))] [] g P := by
  refine z_aload_n dX11_finds_0 rfl rfl ?_
  refine z_iload_n dX11_finds_1 rfl rfl ?_
  replace h := h _ rfl
  refine z_putI dX11_finds_2 fw_X11_92 (by decide) kt_228 ?_
  refine z_bipush dX11_finds_5 rfl ?_
  refine z_iload_n dX11_finds_7 rfl rfl ?_
  refine z_isub dX11_finds_8 ?_
  exact m_iret dX11_finds_9 rfl h
theorem c_X11_finds {w : GX} {d : Nat} {P : PN} {g : GI} {x1 : Int}  (hP : P (some (aI ((-10) - x1))) (up2 g 228 4 x1)) : Zm w d mX11_finds 0 [some (aR (some 228)), some (aI x1)] [] g P := by
  exact s_X11_finds_0 _ (fun _ e => e ▸ hP)
