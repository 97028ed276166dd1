/-! a crowd; ones counted in two ways -/
def pcN : Nat → Nat → Nat
  | 0, _ => 0
  | n + 1, x => x % 2 + pcN n (x / 2)
theorem pcN_split : ∀ k n a y, a < 2 ^ k → pcN (k + n) (a + 2 ^ k * y) = pcN k a + pcN n y
  | 0, n, a, y, h => by
    have : a = 0 := by have : (2:Nat)^0 = 1 := rfl; omega
    subst this; simp [pcN]
  | k + 1, n, a, y, h => by
    have e : 2 ^ (k + 1) = 2 * 2 ^ k := by rw [Nat.pow_succ]; omega
    have ih := pcN_split k n (a / 2) y (by omega)
    rw [show k + 1 + n = (k + n) + 1 by omega]
    show (a + 2 ^ (k + 1) * y) % 2 + pcN (k + n) ((a + 2 ^ (k + 1) * y) / 2) = (a % 2 + pcN k (a / 2)) + pcN n y
    rw [e, Nat.mul_assoc, show (a + 2 * (2 ^ k * y)) % 2 = a % 2 by omega, show (a + 2 * (2 ^ k * y)) / 2 = a / 2 + 2 ^ k * y by omega, ih]
    omega
theorem and_split {k a m y M : Nat} (ha : a < 2 ^ k) (hm : m < 2 ^ k) : (a + 2 ^ k * y) &&& (m + 2 ^ k * M) = (a &&& m) + 2 ^ k * (y &&& M) := by
  apply Nat.eq_of_testBit_eq
  intro i
  have h3 : (a &&& m) < 2 ^ k := Nat.lt_of_le_of_lt Nat.and_le_left ha
  rw [Nat.testBit_and, Nat.add_comm a, Nat.add_comm m, Nat.add_comm (a &&& m), Nat.testBit_two_pow_mul_add _ ha, Nat.testBit_two_pow_mul_add _ hm, Nat.testBit_two_pow_mul_add _ h3, Nat.testBit_and, Nat.testBit_and]
  split <;> rfl
theorem pcN_pred : ∀ n x, 0 < x → x < 2 ^ n → pcN n (x &&& (x - 1)) + 1 = pcN n x
  | 0, x, h0, h => by have : (2:Nat)^0 = 1 := rfl; omega
  | n + 1, x, h0, h => by
    have e : 2 ^ (n + 1) = 2 * 2 ^ n := by rw [Nat.pow_succ]; omega
    show ((x &&& (x - 1)) % 2 + pcN n ((x &&& (x - 1)) / 2)) + 1 = x % 2 + pcN n (x / 2)
    rcases Nat.mod_two_eq_zero_or_one x with q | q
    · have ex : x = 0 + 2 ^ 1 * (x / 2) := by omega
      have ex1 : x - 1 = 1 + 2 ^ 1 * (x / 2 - 1) := by omega
      have ih := pcN_pred n (x / 2) (by omega) (by omega)
      have : x &&& (x - 1) = 2 * (x / 2 &&& (x / 2 - 1)) := by
        rw [ex1]
        have := and_split (k := 1) (a := 0) (m := 1) (y := x / 2) (M := x / 2 - 1) (by decide) (by decide)
        rw [← ex] at this
        rw [this]; simp
      rw [this, q, Nat.mul_mod_right, Nat.mul_div_cancel_left _ (by omega)]
      omega
    · have ex : x = 1 + 2 ^ 1 * (x / 2) := by omega
      have ex1 : x - 1 = 0 + 2 ^ 1 * (x / 2) := by omega
      have : x &&& (x - 1) = 2 * (x / 2) := by
        rw [ex1]
        have := and_split (k := 1) (a := 1) (m := 0) (y := x / 2) (M := x / 2) (by decide) (by decide)
        rw [← ex] at this
        rw [this]; simp
      rw [this, q, Nat.mul_mod_right, Nat.mul_div_cancel_left _ (by omega)]
      omega
def natOf (f : Nat → Bool) : Nat → Nat
  | 0 => 0
  | n + 1 => natOf f n + (if f n then 2 ^ n else 0)
theorem natOf_lt (f : Nat → Bool) : ∀ n, natOf f n < 2 ^ n
  | 0 => Nat.zero_lt_one
  | n + 1 => by
    have ih := natOf_lt f n
    show natOf f n + (if f n then 2 ^ n else 0) < 2 ^ (n + 1)
    rw [Nat.pow_succ]; split <;> omega
theorem natOf_bit (f : Nat → Bool) : ∀ n i, (natOf f n).testBit i = (decide (i < n) && f i)
  | 0, i => by simp [natOf]
  | n + 1, i => by
    have ih := natOf_bit f n i
    have hl := natOf_lt f n
    show (natOf f n + (if f n then 2 ^ n else 0)).testBit i = _
    cases q : f n with
    | false =>
      rw [if_neg (by simp), Nat.add_zero, ih]
      by_cases y : i = n
      · subst y; simp [q]
      · rw [show decide (i < n + 1) = decide (i < n) by apply decide_eq_decide.mpr; omega]
    | true =>
      rw [if_pos rfl, Nat.add_comm]
      have := Nat.testBit_two_pow_mul_add 1 hl i
      rw [Nat.mul_one] at this
      rw [this, ih]
      by_cases y : i = n
      · subst y; simp [q]
      · by_cases z : i < n
        · rw [if_pos z, decide_eq_true z, decide_eq_true (show i < n + 1 by omega)]
        · rw [if_neg z, decide_eq_false (show ¬ i < n + 1 by omega), Bool.false_and]
          have : ∃ j, i - n = j + 1 := ⟨i - n - 1, by omega⟩
          obtain ⟨j, hj⟩ := this
          rw [hj, Nat.testBit_add_one]; simp
theorem swE1 : ∀ a, a < 256 → ((a / 2) &&& 85) ≤ a ∧ ((a / 2 + 128) &&& 85) = ((a / 2) &&& 85) := by decide +kernel
theorem swE2 : ∀ a, a < 256 → ((a / 4 + 64) &&& 51) = ((a / 4) &&& 51) ∧ ((a / 4 + 128) &&& 51) = ((a / 4) &&& 51) ∧ ((a / 4 + 192) &&& 51) = ((a / 4) &&& 51) := by decide +kernel
def sw1 (a : Nat) : Nat := a - ((a / 2) &&& 85)
def sw2 (A : Nat) : Nat := (A &&& 51) + ((A / 4) &&& 51)
theorem swE3 : ∀ a, a < 256 → sw1 a < 256 ∧ sw2 (sw1 a) < 72 ∧ sw2 (sw1 a) % 16 < 5 ∧ sw2 (sw1 a) % 16 + sw2 (sw1 a) / 16 = pcN 8 a ∧ pcN 8 a < 9 := by decide +kernel
def asm4 (a b c d : Nat) : Nat := a + 2 ^ 8 * (b + 2 ^ 8 * (c + 2 ^ 8 * d))
theorem asm4_and {a b c d m : Nat} (ha : a < 256) (hb : b < 256) (hc : c < 256) (hd : d < 256) (hm : m < 256) : asm4 a b c d &&& asm4 m m m m = asm4 (a &&& m) (b &&& m) (c &&& m) (d &&& m) := by
  unfold asm4
  rw [and_split ha hm, and_split hb hm, and_split hc hm]
theorem asm4_of (x : Nat) (hx : x < 4294967296) : ∃ a b c d, a < 256 ∧ b < 256 ∧ c < 256 ∧ d < 256 ∧ x = asm4 a b c d :=
  ⟨x % 256, x / 256 % 256, x / 65536 % 256, x / 16777216, by omega, by omega, by omega, by omega, by unfold asm4; omega⟩
theorem pcN_asm {a b c d : Nat} (ha : a < 256) (hb : b < 256) (hc : c < 256) : pcN 32 (asm4 a b c d) = pcN 8 a + (pcN 8 b + (pcN 8 c + pcN 8 d)) := by
  unfold asm4
  rw [show (32 : Nat) = 8 + (8 + (8 + 8)) by rfl, pcN_split 8 _ _ _ ha, pcN_split 8 _ _ _ hb, pcN_split 8 _ _ _ hc]
theorem swar3 {A B C D p q r s : Nat} (a1 : A < 72) (a2 : A % 16 < 5) (a3 : A % 16 + A / 16 = p) (b1 : B < 72) (b2 : B % 16 < 5) (b3 : B % 16 + B / 16 = q) (c1 : C < 72) (c2 : C % 16 < 5) (c3 : C % 16 + C / 16 = r) (d1 : D < 37) (d2 : D % 16 < 5) (d3 : D % 16 + D / 16 = s) : (asm4 A B C D + asm4 A B C D / 16) &&& 252645135 = asm4 p q r s := by
  have w5 : asm4 A B C D + asm4 A B C D / 16 = asm4 (A + A / 16 + 16 * (B % 16)) (B + B / 16 + 16 * (C % 16)) (C + C / 16 + 16 * (D % 16)) (D + D / 16 + 16 * 0) := by
    unfold asm4; omega
  have m15 : ∀ y : Nat, y &&& 15 = y % 16 := fun y => Nat.and_two_pow_sub_one_eq_mod y 4
  have M1 : 252645135 = asm4 15 15 15 15 := by decide
  rw [w5, M1, asm4_and (by omega) (by omega) (by omega) (by omega) (by omega), m15, m15, m15, m15]
  congr 1 <;> omega
theorem swar5 {p q r s : Nat} (h1 : p < 9) (h2 : q < 9) (h3 : r < 9) (h4 : s < 9) : asm4 p q r s + asm4 p q r s / 256 + (asm4 p q r s + asm4 p q r s / 256) / 65536 = asm4 (p + q + r + s) (q + r + s) (r + s) s := by
  have w1 : asm4 p q r s + asm4 p q r s / 256 = asm4 (p + q) (q + r) (r + s) s := by unfold asm4; omega
  have w2 : asm4 (p + q) (q + r) (r + s) s / 65536 = r + s + 256 * s := by unfold asm4; omega
  rw [w1, w2]; unfold asm4; omega
theorem swar6 {t y : Nat} (h : t < 64) : asm4 t y 0 0 % 64 = t := by unfold asm4; omega
theorem swar {x : Nat} (hx : x < 1073741824) :
    ∃ v1 v2 v3 v4 v5 : Nat, v1 = x - ((x / 2) &&& 1431655765) ∧ ((x / 2) &&& 1431655765) ≤ x ∧ v1 < 1073741824 ∧ v2 = (v1 &&& 858993459) + ((v1 / 4) &&& 858993459) ∧ v2 < 650000000 ∧ v3 = (v2 + v2 / 16) &&& 252645135 ∧ v3 < 500000000 ∧ v4 = v3 + v3 / 256 ∧ v4 < 600000000 ∧ v5 = v4 + v4 / 65536 ∧ v5 < 1073741824 ∧ v5 &&& 63 = pcN 32 x := by
  obtain ⟨a, b, c, d, ha, hb, hc, hd, e⟩ := asm4_of x (by omega)
  have hd4 : d < 64 := by unfold asm4 at e; omega
  have M5 : 1431655765 = asm4 85 85 85 85 := by decide
  have M3 : 858993459 = asm4 51 51 51 51 := by decide
  have hpc := pcN_asm (d := d) ha hb hc
  rw [← e] at hpc
  have s1 : ∀ a e, a < 256 → e < 2 → ((a / 2 + 128 * e) &&& 85) = ((a / 2) &&& 85) := by
    intro a e h1 h2
    rcases (show e = 0 ∨ e = 1 by omega) with q | q
    · subst q; rfl
    · subst q; exact (swE1 a h1).2
  have s2 : ∀ a e, a < 256 → e < 4 → ((a / 4 + 64 * e) &&& 51) = ((a / 4) &&& 51) := by
    intro a e h1 h2
    rcases (show e = 0 ∨ e = 1 ∨ e = 2 ∨ e = 3 by omega) with q | q | q | q
    · subst q; rfl
    · subst q; exact (swE2 a h1).1
    · subst q; exact (swE2 a h1).2.1
    · subst q; exact (swE2 a h1).2.2
  have x2 : x / 2 = asm4 (a / 2 + 128 * (b % 2)) (b / 2 + 128 * (c % 2)) (c / 2 + 128 * (d % 2)) (d / 2 + 128 * 0) := by
    rw [e]; unfold asm4; omega
  have u1 : (x / 2) &&& 1431655765 = asm4 ((a / 2) &&& 85) ((b / 2) &&& 85) ((c / 2) &&& 85) ((d / 2) &&& 85) := by
    rw [x2, M5, asm4_and (by omega) (by omega) (by omega) (by omega) (by omega), s1 a _ ha (by omega), s1 b _ hb (by omega), s1 c _ hc (by omega), s1 d _ hd (by omega)]
  have a1 := (swE1 a ha).1
  have b1 := (swE1 b hb).1
  have c1 := (swE1 c hc).1
  have d1 := (swE1 d hd).1
  have w1 : x - ((x / 2) &&& 1431655765) = asm4 (sw1 a) (sw1 b) (sw1 c) (sw1 d) := by
    rw [u1, e]; unfold sw1 asm4; omega
  have wle : ((x / 2) &&& 1431655765) ≤ x := by
    rw [u1, e]; unfold asm4; omega
  obtain ⟨a2, a3, a4, a5, a6⟩ := swE3 a ha
  obtain ⟨b2, b3, b4, b5, b6⟩ := swE3 b hb
  obtain ⟨c2, c3, c4, c5, c6⟩ := swE3 c hc
  obtain ⟨d2, d3, d4, d5, d6⟩ := swE3 d hd
  have v1lt : x - ((x / 2) &&& 1431655765) < 1073741824 := by omega
  generalize x - ((x / 2) &&& 1431655765) = v1 at *
  have w4 : v1 / 4 = asm4 (sw1 a / 4 + 64 * (sw1 b % 4)) (sw1 b / 4 + 64 * (sw1 c % 4)) (sw1 c / 4 + 64 * (sw1 d % 4)) (sw1 d / 4 + 64 * 0) := by
    rw [w1]; unfold asm4; omega
  have w2 : (v1 &&& 858993459) + ((v1 / 4) &&& 858993459) = asm4 (sw2 (sw1 a)) (sw2 (sw1 b)) (sw2 (sw1 c)) (sw2 (sw1 d)) := by
    rw [w4, w1, M3, asm4_and a2 b2 c2 d2 (by omega), asm4_and (by omega) (by omega) (by omega) (by omega) (by omega), s2 _ _ a2 (by omega), s2 _ _ b2 (by omega), s2 _ _ c2 (by omega), s2 _ _ d2 (by omega)]
    unfold sw2 asm4; omega
  have d7 : ∀ d, d < 64 → sw2 (sw1 d) < 37 := by decide +kernel
  have d7 := d7 d hd4
  refine ⟨v1, _, _, _, _, rfl, wle, v1lt, rfl, ?_, rfl, ?_, rfl, ?_, rfl, ?_, ?_⟩
  all_goals rw [w2]
  · unfold asm4; omega
  all_goals rw [swar3 a3 a4 a5 b3 b4 b5 c3 c4 c5 d7 d4 d5]
  · clear a5 b5 c5 d5; unfold asm4; omega
  · clear a5 b5 c5 d5; unfold asm4; omega
  · rw [swar5 a6 b6 c6 d6]; clear a5 b5 c5 d5; unfold asm4; omega
  · rw [swar5 a6 b6 c6 d6, Nat.and_two_pow_sub_one_eq_mod _ 6, hpc]
    clear hpc a5 b5 c5 d5
    generalize pcN 8 a = p at *
    generalize pcN 8 b = q at *
    generalize pcN 8 c = r at *
    generalize pcN 8 d = s at *
    clear w2 w1 w4 u1 x2 e M5 M3 a1 b1 c1 d1
    unfold asm4
    omega
theorem bt_nat (s i : Nat) (hi : i < 32) : bt (nI s) i = s.testBit i := by
  show (BitVec.ofNat 32 s).getLsbD i = _
  rw [BitVec.getLsbD_ofNat, decide_eq_true hi, Bool.true_and]
theorem tb_big {s i : Nat} (hs : s < 1073741824) (hi : 30 ≤ i) : s.testBit i = false := by
  refine Nat.testBit_lt_two_pow (Nat.lt_of_lt_of_le hs ?_)
  have := Nat.pow_le_pow_right (n := 2) (by omega) hi
  have e : (2 : Nat) ^ 30 = 1073741824 := by decide
  omega
theorem iAnd_nat {x y : Nat} (hx : x < 1073741824) : iAnd (x : Int) (y : Int) = ((x &&& y : Nat) : Int) := by
  have h1 : Bt (iAnd (x : Int) (y : Int)) (fun i => (x &&& y).testBit i) := ⟨nm_iAnd _ _, fun i hi => by
    unfold iAnd
    rw [Int32.ofInt_toInt, b_and, ofI_nat, ofI_nat, bt_nat _ _ hi, bt_nat _ _ hi]
    show _ = (decide (i < 30) && (x &&& y).testBit i)
    rw [Nat.testBit_and]
    by_cases z : i < 30
    · rw [decide_eq_true z, Bool.true_and]
    · rw [decide_eq_false z, Bool.false_and, tb_big hx (by omega), Bool.false_and]⟩
  exact h1.uniq (Bt.nat (Nat.lt_of_le_of_lt Nat.and_le_left hx))
theorem iUshr_nat {x k : Nat} (hx : x < 1073741824) (hk : k < 32) : iUshr (x : Int) (k : Int) = ((x / 2 ^ k : Nat) : Int) := by
  have h1 : Bt (iUshr (x : Int) (k : Int)) (fun i => (x / 2 ^ k).testBit i) := ⟨by unfold nm iUshr; rw [Int32.ofInt_toInt], fun i hi => by
    unfold iUshr
    rw [Int32.ofInt_toInt, ofI_nat, ofI_nat, b_ushr k hk]
    show _ = (decide (i < 30) && (x / 2 ^ k).testBit i)
    rw [Nat.testBit_div_two_pow, Nat.add_comm i k]
    by_cases z : i < 30
    · rw [decide_eq_true z, Bool.true_and]
      by_cases y : k + i < 32
      · exact bt_nat _ _ y
      · rw [b_big (by omega), tb_big hx (by omega)]
    · rw [decide_eq_false z, Bool.false_and]
      by_cases y : k + i < 32
      · rw [bt_nat _ _ y]; exact tb_big hx (by omega)
      · exact b_big (by omega)⟩
  exact h1.uniq (Bt.nat (Nat.lt_of_le_of_lt (Nat.div_le_self _ _) hx))
theorem Bt.asNat {z : Int} {f : Nat → Bool} (h : Bt z f) : z = (natOf f 30 : Int) := by
  have hl := natOf_lt f 30
  have e : (2 : Nat) ^ 30 = 1073741824 := by decide
  refine h.uniq ((Bt.nat (s := natOf f 30) (by omega)).congr (fun i hi => ?_))
  rw [natOf_bit, decide_eq_true hi, Bool.true_and]
theorem iUshr_16 (y : Int) : ∃ s : Nat, s < 1073741824 ∧ iUshr y 16 = (s : Int) := by
  have h1 : Bt (iUshr y 16) (fun i => bt (Int32.ofInt y) (16 + i)) := ⟨by unfold nm iUshr; rw [Int32.ofInt_toInt], fun i hi => by
    unfold iUshr
    rw [Int32.ofInt_toInt, show Int32.ofInt 16 = nI 16 from rfl, b_ushr 16 (by omega)]
    by_cases z : i < 30
    · rw [decide_eq_true z, Bool.true_and]
    · rw [decide_eq_false z, Bool.false_and, b_big (by omega)]⟩
  refine ⟨_, ?_, h1.asNat⟩
  have hl := natOf_lt (fun i => bt (Int32.ofInt y) (16 + i)) 30
  have e : (2 : Nat) ^ 30 = 1073741824 := by decide
  omega
section CW
variable {w : GX} {d : Nat} {P : PN} {g : GI} {T : TT}
theorem c_bitCount {x : Nat} (hx : x < 1073741824) (k : P (some (aI (pcN 32 x : Int))) g) : Zm w d mJ6_bitCount_0f7a4 0 [some (aI (x : Int))] [] g P := by
  obtain ⟨n1, n2, n3, n4, n5, e1, l1, b1, e2, b2, e3, b3, e4, b4, e5, b5, e6⟩ := swar hx
  refine s_J6_bitCount_0f7a4_0 _ (fun v1 h1 v2 h2 v3 h3 v4 h4 v5 h5 => ?_)
  have h1 : v1 = (n1 : Int) := by
    have a1 : iUshr (x : Int) 1 = ((x / 2 : Nat) : Int) := iUshr_nat (k := 1) hx (by omega)
    have a2 : iAnd ((x / 2 : Nat) : Int) 1431655765 = (((x / 2) &&& 1431655765 : Nat) : Int) := iAnd_nat (y := 1431655765) (by omega)
    rw [h1, a1, a2]; omega
  have h2 : v2 = (n2 : Int) := by
    have a1 : iUshr (n1 : Int) 2 = ((n1 / 4 : Nat) : Int) := iUshr_nat (k := 2) b1 (by omega)
    have a2 : iAnd ((n1 / 4 : Nat) : Int) 858993459 = (((n1 / 4) &&& 858993459 : Nat) : Int) := iAnd_nat (y := 858993459) (by omega)
    have a3 : iAnd (n1 : Int) 858993459 = ((n1 &&& 858993459 : Nat) : Int) := iAnd_nat (y := 858993459) (by omega)
    rw [h2, h1, a1, a2, a3]; omega
  have h3 : v3 = (n3 : Int) := by
    have a1 : iUshr (n2 : Int) 4 = ((n2 / 16 : Nat) : Int) := iUshr_nat (k := 4) (by omega) (by omega)
    have a2 : iAnd ((n2 + n2 / 16 : Nat) : Int) 252645135 = (((n2 + n2 / 16) &&& 252645135 : Nat) : Int) := iAnd_nat (y := 252645135) (by omega)
    rw [h3, h2, a1, ← Int.natCast_add, a2, e3]
  have h4 : v4 = (n4 : Int) := by
    have a1 : iUshr (n3 : Int) 8 = ((n3 / 256 : Nat) : Int) := iUshr_nat (k := 8) (by omega) (by omega)
    rw [h4, h3, a1]; omega
  have h5 : v5 = (n5 : Int) := by
    have a1 : iUshr (n4 : Int) 16 = ((n4 / 65536 : Nat) : Int) := iUshr_nat (k := 16) (by omega) (by omega)
    rw [h5, h4, a1]; omega
  have a6 : iAnd (n5 : Int) 63 = ((n5 &&& 63 : Nat) : Int) := iAnd_nat (y := 63) b5
  rw [h5, a6, e6]; exact k
theorem c_ones {x : Nat} (hx : x < 1073741824) (k : P (some (aI (pcN 32 x : Int))) g) : Zm w d mX11_ones 0 [some (aI (x : Int)), none, none] [] g P := by
  refine s_X11_ones_0 _ ?_
  have L : ∀ (c : Nat) (x : Nat) (z : Int), x < 1073741824 → pcN 32 x = c → P (some (aI (z + (c : Int)))) g → Zm w d mX11_ones 4 [none, some (aI z), some (aI (x : Int))] [] g P := by
    intro c
    induction c with
    | zero =>
      intro x z hx hc hk
      have e : nm (x : Int) = x := nm_id (by omega) (by omega)
      refine s_X11_ones_4 _ _ ?_
      rw [e]
      refine ⟨fun _ => ?_, fun q => ?_⟩
      · rw [show z + ((0 : Nat) : Int) = z by omega] at hk; exact hk
      · have h2 : (2 : Nat) ^ 32 = 4294967296 := by decide
        have := pcN_pred 32 x (by omega) (by omega)
        omega
    | succ c IH =>
      intro x z hx hc hk
      have e : nm (x : Int) = x := nm_id (by omega) (by omega)
      refine s_X11_ones_4 _ _ ?_
      rw [e]
      refine ⟨fun q => ?_, fun q v2 e2 => ?_⟩
      · have q : x = 0 := by omega
        subst q
        revert hc
        have : pcN 32 0 = 0 := by decide
        rw [this]; omega
      · have h2 : (2 : Nat) ^ 32 = 4294967296 := by decide
        have := pcN_pred 32 x (by omega) (by omega)
        have ea : iAnd (x : Int) ((x : Int) - 1) = ((x &&& (x - 1) : Nat) : Int) := by
          rw [show (x : Int) - 1 = ((x - 1 : Nat) : Int) by omega]; exact iAnd_nat hx
        rw [e2, ea]
        refine IH _ _ (Nat.lt_of_le_of_lt Nat.and_le_left hx) (by omega) ?_
        rw [show z + 1 + (c : Int) = z + ((c + 1 : Nat) : Int) by omega]; exact hk
  exact L _ x 0 hx rfl (by rw [Int.zero_add]; exact k)
end CW
/-! lots -/
def lotN (s : Int) : Nat → Int
  | 0 => s
  | k + 1 => 1103515245 * lotN s k + 12345
def qN (T : TT) (s : Int) (k : Nat) : Int := iRem (iUshr (lotN s (k + 1)) 16) (nP T.1.1.2 : Int)
theorem qN_rng {T : TT} (hT : GT T) (s : Int) (k : Nat) (h : 0 < nP T.1.1.2) : 0 ≤ qN T s k ∧ qN T s k < (nP T.1.1.2 : Int) := by
  unfold qN
  obtain ⟨t, h1, h2⟩ := iUshr_16 (lotN s (k + 1))
  have := hT.1.BO.2
  rw [h2, iRem_nat (by omega) h (by omega)]
  have := Nat.mod_lt t h
  omega
/-- one more crosses each day -/
def crM (T : TT) (s : Int) : Nat → Mu
  | 0 => beginM T.1.1
  | k + 1 => oneM T.1.1 T.1.2.1 (toldS T.1.1.2) T.1.2.2.1 (floodB T.1.2.2.2.1) k (qN T s k).toNat (crM T s k)
theorem crM_wf {T : TT} (hT : GT T) (s : Int) (h : 0 < nP T.1.1.2) : ∀ k, Wf T.1.1 (crM T s k)
  | 0 => hT.1.wf 0
  | k + 1 => (crM_wf hT s h k).one hT.1.BO hT.1.h0 (by have := qN_rng hT s k h; omega)
def csX (T : TT) (s : Int) : Nat → Log2
  | 0 => T.1.2.1
  | k + 1 => csX T s k ++ [((k : Int), (((qN T s k).toNat : Nat) : Int))]
theorem csX_len (T : TT) (s : Int) : ∀ k, (csX T s k).length = T.1.2.1.length + k
  | 0 => rfl
  | k + 1 => by show (csX T s k ++ [_]).length = _; rw [sno_len, csX_len T s k]; omega
theorem csX_cross {T : TT} (hT : GT T) (s : Int) (h : 0 < nP T.1.1.2) {j : Nat} {m : Mu} : ∀ k, k ≤ j → crossM T.1.1 (csX T s k) (toldS T.1.1.2) j (csX T s k).length m = crossM T.1.1 T.1.2.1 (toldS T.1.1.2) j T.1.2.1.length m
  | 0, _ => rfl
  | k + 1, hk => by
    have hq := qN_rng hT s k h
    have := crossM_sno (o := T.1.1) (cs := csX T s k) (su := toldS T.1.1.2) (d := j) (a := k) (p := (qN T s k).toNat) (m := m) (by simp [toldS]) (by omega)
    rw [if_neg (by omega), csX_cross hT s h k (by omega)] at this
    exact this
theorem csX_day {T : TT} (hT : GT T) (s : Int) (h : 0 < nP T.1.1.2) {j : Nat} {m : Mu} : ∀ k, j < k → dayM T.1.1 (csX T s k) (toldS T.1.1.2) T.1.2.2.1 (floodB T.1.2.2.2.1) j m = oneM T.1.1 T.1.2.1 (toldS T.1.1.2) T.1.2.2.1 (floodB T.1.2.2.2.1) j (qN T s j).toNat m
  | 0, hk => absurd hk (Nat.not_lt_zero _)
  | k + 1, hk => by
    have hq := qN_rng hT s k h
    have := dayM_sno (o := T.1.1) (cs := csX T s k) (ca := T.1.2.2.1) (su := toldS T.1.1.2) (fl := floodB T.1.2.2.2.1) (d := j) (a := k) (p := (qN T s k).toNat) (m := m) (by simp [toldS]) (by omega)
    show dayM T.1.1 (csX T s k ++ [((k : Int), (((qN T s k).toNat : Nat) : Int))]) _ _ _ _ _ = _
    rw [this]
    by_cases y : k = j
    · rw [if_pos y, y]
      unfold oneM
      rw [csX_cross hT s h j (Nat.le_refl _)]
    · rw [if_neg y]; exact csX_day hT s h k (by omega)
theorem csX_ahead {T : TT} (hT : GT T) (s : Int) (h : 0 < nP T.1.1.2) {n : Nat} : ∀ j, j ≤ n → aheadM T.1.1 (csX T s n) (toldS T.1.1.2) T.1.2.2.1 (floodB T.1.2.2.2.1) j = crM T s j
  | 0, _ => rfl
  | j + 1, hj => by
    show dayM T.1.1 (csX T s n) _ _ _ j (aheadM T.1.1 (csX T s n) _ _ _ j) = oneM _ _ _ _ _ j _ (crM T s j)
    rw [csX_ahead hT s h j (by omega), csX_day hT s h n (by omega)]
/-- letters in use -/
def usP (T : TT) (m : Mu) : Nat → Nat → Bool
  | 0, _ => false
  | k + 1, i => usP T m k i || decide (calM T.1.1 T.2.1 m k = (i : Int))
def usV (T : TT) (m : Mu) : Nat := pcN 32 (natOf (usP T m (nP T.1.1.2)) 30)
def opCrowd (T : TT) (s dd p : Int) : Int := if (0 ≤ dd ∧ dd < 20) ∧ (p = -1 ∨ (0 ≤ p ∧ p < (nP T.1.1.2 : Int))) then (if p = -1 then (usV T (crM T s (dd.toNat + 1)) : Int) else calM T.1.1 T.2.1 (crM T s (dd.toNat + 1)) p.toNat) else -2
theorem usP_set {T : TT} {m : Mu} {k : Nat} {z c : Int} (h : Bt z (usP T m k)) (hc : calM T.1.1 T.2.1 m k = c) (h0 : 0 ≤ c) (h1 : c < 26) : Bt (iOr z (iShl 1 c)) (usP T m (k + 1)) := by
  have := h.set (k := c.toNat) (by omega)
  rw [show ((c.toNat : Nat) : Int) = c by omega] at this
  refine this.congr (fun i _ => ?_)
  show _ = (usP T m k i || decide (calM T.1.1 T.2.1 m k = (i : Int)))
  rw [hc]
  congr 1
  apply decide_eq_decide.mpr
  omega
theorem nat30 (f : Nat → Bool) : natOf f 30 < 1073741824 := by
  have hl := natOf_lt f 30
  have e : (2 : Nat) ^ 30 = 1073741824 := by decide
  omega
section CW
variable {w : GX} {d : Nat} {P : PN} {g : GI} {T : TT}
theorem c_lettersInUse {a : Nat} {m : Mu} (hT : GT T) (h : IS g T) (hW : isW a) (hw : WR g a T.1.1 m) (hf : Wf T.1.1 m) (k : P (some (aI (usV T m : Int))) g) : Zm w (d + 2) mX8_lettersInUse 0 [some (aR (some a)), some (aR (some 18)), none, none] [] g P := by
  have hB := hT.1.BO
  refine s_X8_lettersInUse_0 hW ?_
  refine loopN (σ := Int) (fun i z => Zm w (d + 2) mX8_lettersInUse 4 [some (aR (some a)), some (aR (some 18)), some (aI z), some (aI (i : Int))] [] g P) (fun i z => Bt z (usP T m i)) (nP T.1.1.2) ?_ ?_ 0 0 (Nat.zero_le _) Bt.zero
  · intro z hz
    refine s_X8_lettersInUse_4 hW _ _ ?_
    rw [h.2.2.1.2.1, nmP hT]
    refine ⟨fun _ => ?_, fun y => absurd y (by omega)⟩
    rw [hz.asNat]
    exact c_bitCount (nat30 _) ⟨_, rfl, k⟩
  · intro i z hi hz ih
    have hP := hB.2
    have ei : nm (i : Int) = i := nm_id (by omega) (by omega)
    have hr := calM_rng hT.1 T.2.1 hf hi
    refine s_X8_lettersInUse_4 hW _ _ ?_
    rw [h.2.2.1.2.1, nmP hT, ei]
    refine ⟨fun y => absurd y (by omega), fun _ => ?_⟩
    refine c_letterOf hW hB h.2.2.1 hw hf hi ⟨_, rfl, fun v6 e6 => ih v6 ?_⟩
    rw [e6, h.1.2.2.1]
    exact usP_set hz rfl hr.1 hr.2
theorem usV_0 {m m' : Mu} (h : nP T.1.1.2 = 0) : usV T m = usV T m' := by
  unfold usV; rw [h]; rfl
theorem c_crowdedWater {s zn : Int} {n : Nat} (hT : GT T) (h : IS g T) (hn0 : 0 < n) (hn : n ≤ 20) (hz : zn = (n : Int) - 1) (k : ∀ g' m, IS g' T → FrQ g g' → WR g' 160 T.1.1 m → Wf T.1.1 m → (nP T.1.1.2 = 0 ∨ m = crM T s n) → P (some (aR (some 160))) g') : Zm w (d + 3) mX1_crowdedWater 0 [some (aR (some 158)), some (aI s), some (aI zn), none, none, none, none] [] g P := by
  have hB := hT.1.BO
  have hE := hT.1.EB
  have hSB := hT.1.SB
  have hP := hB.2
  have W0 := isW_chance 0 (by omega)
  have ez : nm zn = (n : Int) - 1 := by rw [hz]; exact nm_id (by omega) (by omega)
  refine s_X1_crowdedWater_0 _ _ ?_
  refine c_become W0 isW_31 (Or.inr (by omega)) hB (h.2.2.2.2.2.1 0 (by omega)) ((hT.1.wf 0).len hB) (fun g1 w1 f1 => ⟨rfl, fun v3 e3 => ?_⟩)
  have q1 := f1.Q (by omega) (by omega)
  have h1 := h.keep q1
  have e3 : v3 = (nP T.1.1.2 : Int) := by rw [e3]; exact h1.2.2.1.2.1
  subst e3
  by_cases hp : nP T.1.1.2 = 0
  · refine s_X1_crowdedWater_38 _ W0 _ _ _ ?_
    have n0 : nm 0 = 0 := by decide
    rw [ez, nmP hT, n0]
    exact ⟨fun y => absurd y (by omega), fun _ => ⟨fun _ => k g1 _ h1 q1 w1 (hT.1.wf 0) (Or.inl hp), fun y => absurd y (by omega)⟩⟩
  have hp : 0 < nP T.1.1.2 := by omega
  refine loopN (σ := GI) (fun i s' => Zm w (d + 3) mX1_crowdedWater 38 [some (aR (some 158)), none, some (aI zn), some (aR (some 160)), some (aI (nP T.1.1.2 : Int)), some (aI (lotN s i)), some (aI (i : Int))] [] s' P) (fun i s' => FrQ g s' ∧ WR s' 160 T.1.1 (crM T s i)) n ?_ ?_ 0 g1 (Nat.zero_le _) ⟨q1, w1⟩
  · intro g2 ⟨r1, r2⟩
    have en : nm (n : Int) = n := nm_id (by omega) (by omega)
    refine s_X1_crowdedWater_38 _ W0 _ _ _ ?_
    rw [ez, en]
    exact ⟨fun _ => k g2 _ (h.keep r1) r1 r2 (crM_wf hT s hp n) (Or.inr rfl), fun y => absurd y (by omega)⟩
  · intro i g2 hi ⟨r1, r2⟩ ih
    have ei : nm (i : Int) = i := nm_id (by omega) (by omega)
    have h2 := h.keep r1
    have hq := qN_rng hT s i hp
    refine s_X1_crowdedWater_38 _ W0 _ _ _ ?_
    rw [ez, ei, nmP hT]
    refine ⟨fun y => absurd y (by omega), fun _ => ⟨fun y => absurd y (by omega), fun _ v3 e3 => ⟨by omega, ?_⟩⟩⟩
    have el : v3 = lotN s (i + 1) := e3
    subst el
    have eq : iRem (iUshr (lotN s (i + 1)) 16) (nP T.1.1.2 : Int) = (((qN T s i).toNat : Nat) : Int) := by
      show qN T s i = _
      omega
    rw [eq]
    refine c_oneMore W0 hE h2.En h2.2.2.2.2.1 h2.2.2.2.1 hSB r2 (crM_wf hT s hp i) (by omega) (by omega) (fun g3 w3 f3 => ⟨rfl, ih g3 ⟨r1.trans (f3.Q (by omega) (by omega)), w3⟩⟩)
theorem k_crowd {x1 x2 x3 : Int} (hT : GT T) (h : IC g T) (e2 : nm x2 = x2) (e3 : nm x3 = x3) (k : ∀ g', IS g' T → FrL g g' → P (some (aI (opCrowd T x1 x2 x3))) g') : Zm w (d + 5) mX10_crowd 0 [some (aR (some 0)), some (aI x1), some (aI x2), some (aI x3), none] [] g P := by
  have n20 : nm 20 = 20 := by decide
  have m1 : nm (-1) = -1 := by decide
  have hP := hT.1.BO.2
  refine s_X10_crowd_0 _ _ _ ?_
  refine k_settle hT h (fun g1 s1 f1 => ⟨rfl, ?_⟩)
  rw [s1.2.2.1.2.1, wi_x e2 n20, wi_x e3 (nmP hT), e3, m1]
  unfold opCrowd at k
  have NO : ¬ ((0 ≤ x2 ∧ x2 < 20) ∧ (x3 = -1 ∨ (0 ≤ x3 ∧ x3 < (nP T.1.1.2 : Int)))) → P (some (aI (-2))) g1 := fun q => by
    rw [if_neg q] at k; exact k g1 s1 f1
  have YES : ((0 ≤ x2 ∧ x2 < 20) ∧ (x3 = -1 ∨ (0 ≤ x3 ∧ x3 < (nP T.1.1.2 : Int)))) → Zm w (d + 5) mX10_crowd 29 [some (aR (some 0)), some (aI x1), some (aI x2), some (aI x3), none] [] g1 P := by
    intro q
    rw [if_pos q] at k
    refine s_X10_crowd_29 _ _ _ ?_
    refine c_crowdedWater (n := x2.toNat + 1) hT s1 (by omega) (by omega) (by omega) (fun g2 m s2 f2 w2 wf2 hm => ⟨160, rfl, isW_chance 0 (by omega), ?_⟩)
    rw [e3, m1]
    have k := k g2 s2 (f1.trans f2.L)
    refine ⟨fun y => ?_, fun y => ?_⟩
    · rw [if_neg y] at k
      have hm : m = crM T x1 (x2.toNat + 1) := by
        rcases hm with hm | hm
        · omega
        · exact hm
      subst hm
      have := c_letterOf (w := w) (d := d + 3) (g := g2) (P := fun r g5 => ∃ z6 : Int, r = some (aI z6) ∧ P (some (aI z6)) g5) (isW_chance 0 (by omega)) hT.1.BO s2.2.2.1 w2 wf2 (p := x3.toNat) (by omega) ⟨_, rfl, by rw [s2.1.2.2.1]; exact k⟩
      rw [show ((x3.toNat : Nat) : Int) = x3 by omega] at this
      exact this
    · rw [if_pos y] at k
      have hv : usV T m = usV T (crM T x1 (x2.toNat + 1)) := by
        rcases hm with hm | hm
        · exact usV_0 hm
        · rw [hm]
      rw [← hv] at k
      exact c_lettersInUse hT s2 (isW_chance 0 (by omega)) w2 wf2 ⟨_, rfl, k⟩
  exact ⟨fun y => NO (fun z => y z.1), fun y => ⟨fun z => YES ⟨nn y, Or.inl z⟩, fun z => ⟨fun u => YES ⟨nn y, Or.inr (nn u)⟩, fun u => NO (fun v => by omega)⟩⟩⟩
/-! the model -/
theorem RM.backD {g g' : GI} {T : TT} (h : RM g T) (f : ∀ b, b < 228 ∨ (228 < b ∧ b < 238) ∨ b = 239 ∨ b = 240 ∨ b = 248 → g' b = g b) (f8 : ∀ j, j ≠ 34 → g' 228 j = g 228 j) (f238 : ∀ j, j < 2 * T.1.2.1.length → g' 238 j = g 238 j) : RM g' T := by
  refine ⟨h.1.keep (fun b _ _ _ => f b (by omega)) (fun j hj => f8 j (by omega)) f238 (fun j _ => by rw [f 239 (by omega)]) (f 240 (by omega)) (f 248 (by omega)), ?_⟩
  obtain ⟨⟨⟨a1, a2, a3⟩, b1, b2⟩, c, ⟨d1, d2, d3⟩, e, f13⟩ := h.2
  exact ⟨⟨⟨by rw [f8 7 (by omega)]; exact a1, by rw [f8 12 (by omega)]; exact a2, by rw [f 235 (by omega), f 236 (by omega)]; exact a3⟩, by rw [f8 10 (by omega)]; exact b1, by rw [f 237 (by omega)]; exact b2⟩, ⟨by rw [f8 14 (by omega)]; exact c.1, fun k hk => by rw [f238 _ (by omega), f238 _ (by omega)]; exact c.2.1 k hk, by rw [f8 16 (by omega)]; exact c.2.2.1, by rw [f 239 (by omega)]; exact c.2.2.2⟩, ⟨d1, d2.same (f8 18 (by omega)) (f 240 (by omega)), by rw [f8 30 (by omega)]; exact d3⟩, ⟨by rw [f8 27 (by omega)]; exact e.1, by rw [f8 28 (by omega)]; exact e.2.1, fun p hp => by rw [f8 28 (by omega), f8 29 (by omega), f 237 (by omega)]; exact e.2.2 p hp⟩, by rw [f8 13 (by omega)]; exact f13⟩
theorem EM.draw {g : GI} {o : Om} {wear : Int} {cs ca : Log2} {su : Sup} {fs : List Int} {fl : Nat → Bool} {z : Int} (h : EM g o wear cs su ca fs fl) : EM (up2 g 228 34 z) o wear cs su ca fs fl := by
  obtain ⟨⟨⟨a1, a2, a3⟩, b1, b2⟩, c, ⟨d1, d2, d3⟩, e, f13⟩ := h
  have f8 : ∀ j, j ≠ 34 → up2 g 228 34 z 228 j = g 228 j := fun j hj => by simp [up2_ap, hj]
  have f : ∀ b, b ≠ 228 → up2 g 228 34 z b = g b := fun b hb => up2_ne _ _ _ hb
  exact ⟨⟨⟨by rw [f8 7 (by omega)]; exact a1, by rw [f8 12 (by omega)]; exact a2, by rw [f 235 (by omega), f 236 (by omega)]; exact a3⟩, by rw [f8 10 (by omega)]; exact b1, by rw [f 237 (by omega)]; exact b2⟩, ⟨by rw [f8 14 (by omega)]; exact c.1, by rw [f 238 (by omega)]; exact c.2.1, by rw [f8 16 (by omega)]; exact c.2.2.1, by rw [f 239 (by omega)]; exact c.2.2.2⟩, ⟨d1, d2.same (f8 18 (by omega)) (f 240 (by omega)), by rw [f8 30 (by omega)]; exact d3⟩, ⟨by rw [f8 27 (by omega)]; exact e.1, by rw [f8 28 (by omega)]; exact e.2.1, fun p hp => by rw [f8 28 (by omega), f8 29 (by omega), f 237 (by omega)]; exact e.2.2 p hp⟩, by rw [f8 13 (by omega)]; exact f13⟩
theorem csX_EBM (hT : GT T) (s : Int) (h : 0 < nP T.1.1.2) : ∀ k, k ≤ 20 → EBM T.1.1 T.2.1 (csX T s k) (toldS T.1.1.2) T.1.2.2.1
  | 0, _ => hT.EBM
  | k + 1, hk => by
    have hl := hT.1.2.2.2.2.1.1
    have hq := qN_rng hT s k h
    have hP := hT.1.BO.2
    exact (csX_EBM hT s h k (by omega)).sno (a := k) (p := (qN T s k).toNat) (by rw [csX_len]; omega) (by omega) (by omega)
/-- what stays while the crowd crosses -/
def RCw (g0 g : GI) (T : TT) : Prop := (∀ b, b < 228 ∨ (228 < b ∧ b < 238) ∨ b = 239 ∨ b = 240 ∨ b = 248 → g b = g0 b) ∧ (∀ j, j ≠ 14 → j ≠ 34 → g 228 j = g0 228 j) ∧ ∀ j, j < 2 * T.1.2.1.length → g 238 j = g0 238 j
theorem j_crowdOf {s zn x : Int} {n : Nat} (hT : GT T) (h : RM g T) (hn0 : 0 < n) (hn : n ≤ 20) (hz : zn = (n : Int) - 1) (ex : nm x = x) (hx : x = -1 ∨ (0 ≤ x ∧ x < (nP T.1.1.2 : Int))) (k : ∀ g', RM g' T → FrH g g' → P (some (aI (if x = -1 then (usV T (crM T s n) : Int) else calM T.1.1 T.2.1 (crM T s n) x.toNat))) g') : Zm w (d + 4) mX11_crowdOf 0 [some (aR (some 228)), some (aI s), some (aI zn), some (aI x), none, none, none] [] g P := by
  have hP := hT.1.BO.2
  have hl := hT.1.2.2.2.2.1.1
  have m1 : nm (-1) = -1 := by decide
  have ez : nm zn = (n : Int) - 1 := by rw [hz]; exact nm_id (by omega) (by omega)
  refine s_X11_crowdOf_0 _ _ _ (fun v1 ev1 g2 e2 => ?_)
  rw [h.2.2.1.1] at ev1
  subst ev1
  have R2 : RCw g g2 T := ⟨fun b hb => by rw [e2, up2_ne _ _ _ (by omega)], fun j h1 h2 => by rw [e2]; simp [up2_ap, h2], fun j _ => by rw [e2, up2_ne _ _ _ (by omega)]⟩
  have M2 : EM g2 T.1.1 T.2.1 T.1.2.1 (toldS T.1.1.2) T.1.2.2.1 T.1.2.2.2.1 (floodB T.1.2.2.2.1) := by rw [e2]; exact h.2.draw
  have d2 : g2 228 34 = lotN s 0 := by rw [e2]; simp [up2_ap, lotN]
  -- the days lived with them, then set back
  have L47 : ∀ (g3 : GI) (L : Log2), RCw g g3 T → EBM T.1.1 T.2.1 L (toldS T.1.1.2) T.1.2.2.1 → EM g3 T.1.1 T.2.1 L (toldS T.1.1.2) T.1.2.2.1 T.1.2.2.2.1 (floodB T.1.2.2.2.1) → (nP T.1.1.2 = 0 ∨ aheadM T.1.1 L (toldS T.1.1.2) T.1.2.2.1 (floodB T.1.2.2.2.1) n = crM T s n) → Zm w (d + 4) mX11_crowdOf 47 [some (aR (some 228)), none, some (aI zn), some (aI x), some (aI (T.1.2.1.length : Int)), none, none] [] g3 P := by
    intro g3 L r3 hE hM hm
    refine s_X11_crowdOf_47 _ _ _ ?_
    refine c_lives hz hn hE hM (fun g4 m4 _ f4 => ⟨rfl, fun g5 e5 => ?_⟩)
    have wf := Wf.ahead (su := toldS T.1.1.2) (ca := T.1.2.2.1) (fl := floodB T.1.2.2.2.1) hE.1 hE.h0 n
    have h5 : RM g5 T := by
      refine h.backD (fun b hb => by rw [e5, up2_ne _ _ _ (by omega), f4 b (by omega)]; exact r3.1 b hb) (fun j hj => ?_) (fun j hj => by rw [e5, up2_ne _ _ _ (by omega), f4 238 (by omega)]; exact r3.2.2 j hj)
      rw [e5]; simp only [up2_ap, if_true]
      by_cases y : j = 14
      · rw [if_pos y, y, h.2.2.1.1]
      · rw [if_neg y, f4 228 (by omega)]; exact r3.2.1 j y hj
    have fr5 : FrH g g5 := fun b hb => by rw [e5, up2_ne _ _ _ (by omega), f4 b (by omega)]; exact r3.1 b (by omega)
    have k := k g5 h5 fr5
    have c245 : g5 245 = g4 245 := by rw [e5, up2_ne _ _ _ (by omega)]
    have c246 : g5 246 = g4 246 := by rw [e5, up2_ne _ _ _ (by omega)]
    generalize aheadM T.1.1 L (toldS T.1.1.2) T.1.2.2.1 (floodB T.1.2.2.2.1) n = m at m4 wf hm
    have hN := nN_le hT.1.BO
    have hcal : ∀ p, p < nP T.1.1.2 → m.2.2.1 p < 28 ∧ nm ((m.2.2.1 p : Nat) : Int) = ((m.2.2.1 p : Nat) : Int) ∧ g4 246 p = ((m.2.2.1 p : Nat) : Int) ∧ g4 245 (m.2.2.1 p) = calM T.1.1 T.2.1 m p := by
      intro p hp
      have hh := (wf.2.2.2.2.1 p hp).1
      exact ⟨by omega, nm_id (by omega) (by omega), m4.2.2.2 p hp, (m4.2.2.1 _ hh).2.2⟩
    refine loopN (σ := Int) (fun i z => Zm w (d + 4) mX11_crowdOf 64 [some (aR (some 228)), none, none, some (aI x), none, some (aI z), some (aI (i : Int))] [] g5 P) (fun i z => Bt z (usP T m i)) (nP T.1.1.2) ?_ ?_ 0 0 (Nat.zero_le _) Bt.zero
    · intro z hz
      refine s_X11_crowdOf_64 _ _ _ ?_
      rw [h5.2.1.2.1, nmP hT, ex, m1]
      refine ⟨fun _ => ⟨fun y => ?_, fun y => ?_⟩, fun y => absurd y (by omega)⟩
      · rw [if_neg y] at k
        have hx : 0 ≤ x ∧ x < (nP T.1.1.2 : Int) := by omega
        have hm : m = crM T s n := by
          rcases hm with hm | hm
          · omega
          · exact hm
        obtain ⟨q1, q2, q3, q4⟩ := hcal x.toNat (by omega)
        subst hm
        rw [c246, c245, q3, q2, Int.toNat_natCast, q4]
        exact ⟨by omega, by omega, by omega, by omega, k⟩
      · rw [if_pos y] at k
        have hv : usV T m = usV T (crM T s n) := by
          rcases hm with hm | hm
          · exact usV_0 hm
          · rw [hm]
        rw [← hv] at k
        rw [hz.asNat]
        exact c_ones (nat30 _) ⟨_, rfl, k⟩
    · intro i z hi hz ih
      have ei : nm (i : Int) = i := nm_id (by omega) (by omega)
      have hr := calM_rng hT.1 T.2.1 wf hi
      obtain ⟨q1, q2, q3, q4⟩ := hcal i hi
      refine s_X11_crowdOf_64 _ _ _ ?_
      rw [h5.2.1.2.1, nmP hT, ei, Int.toNat_natCast, c246, c245, q3, q2, Int.toNat_natCast, q4]
      refine ⟨fun y => absurd y (by omega), fun _ => ⟨by omega, by omega, by omega, by omega, fun v21 e21 => ih v21 ?_⟩⟩
      rw [e21]
      exact usP_set hz rfl hr.1 hr.2
  by_cases hp : nP T.1.1.2 = 0
  · refine s_X11_crowdOf_14 _ _ _ _ ?_
    have n0 : nm 0 = 0 := by decide
    rw [ez, M2.1.2.1, nmP hT, n0]
    exact ⟨fun y => absurd y (by omega), fun _ => ⟨fun _ => L47 g2 _ R2 hT.EBM M2 (Or.inl hp), fun y => absurd y (by omega)⟩⟩
  have hp : 0 < nP T.1.1.2 := by omega
  refine loopN (σ := GI) (fun i g3 => Zm w (d + 4) mX11_crowdOf 14 [some (aR (some 228)), none, some (aI zn), some (aI x), some (aI (T.1.2.1.length : Int)), some (aI (i : Int)), none] [] g3 P) (fun i g3 => RCw g g3 T ∧ EM g3 T.1.1 T.2.1 (csX T s i) (toldS T.1.1.2) T.1.2.2.1 T.1.2.2.2.1 (floodB T.1.2.2.2.1) ∧ g3 228 34 = lotN s i) n ?_ ?_ 0 g2 (Nat.zero_le _) ⟨R2, M2, d2⟩
  · intro g3 ⟨r1, r2, r3⟩
    have en : nm (n : Int) = n := nm_id (by omega) (by omega)
    refine s_X11_crowdOf_14 _ _ _ _ ?_
    rw [ez, en]
    exact ⟨fun _ => L47 g3 _ r1 (csX_EBM hT s hp n hn) r2 (Or.inr (csX_ahead hT s hp n (Nat.le_refl _))), fun y => absurd y (by omega)⟩
  · intro i g3 hi ⟨r1, r2, r3⟩ ih
    have ei : nm (i : Int) = i := nm_id (by omega) (by omega)
    have hq := qN_rng hT s i hp
    refine s_X11_crowdOf_14 _ _ _ _ ?_
    rw [ez, ei, r2.1.2.1, nmP hT]
    refine ⟨fun y => absurd y (by omega), fun _ => ⟨fun y => absurd y (by omega), fun _ => ?_⟩⟩
    refine s_X11_lot_0 _ (fun g4 e4 => ⟨by rw [nmP hT]; omega, _, rfl, ?_⟩)
    have v4 : g4 228 34 = lotN s (i + 1) := by rw [e4, r3]; simp [up2_ap, lotN]
    have eq : iRem (iUshr (g4 228 34) 16) (nP T.1.1.2 : Int) = (((qN T s i).toNat : Nat) : Int) := by
      rw [v4]
      show qN T s i = _
      omega
    rw [eq]
    have M4 : EM g4 T.1.1 T.2.1 (csX T s i) (toldS T.1.1.2) T.1.2.2.1 T.1.2.2.2.1 (floodB T.1.2.2.2.1) := by rw [e4]; exact r2.draw
    have hlen := csX_len T s i
    refine c_crosses (n := (csX T s i).length) M4.2.1.1 (by omega) (fun g5 a1 a2 a3 a4 a5 a6 => ⟨rfl, ?_⟩)
    refine ih g5 ⟨⟨fun b hb => ?_, fun j h1 h2 => ?_, fun j hj => ?_⟩, M4.sno a1 a2 a3 a4 a5 a6, ?_⟩
    · rw [a1 b (by omega) (by omega), e4, up2_ne _ _ _ (by omega)]; exact r1.1 b hb
    · rw [a2 j h1, e4]; simp only [up2_ap, if_true]; rw [if_neg h2]; exact r1.2.1 j h1 h2
    · rw [a4 j (by omega), e4, up2_ne _ _ _ (by omega)]; exact r1.2.2 j hj
    · rw [a2 34 (by omega)]; exact v4
theorem j_crowd {x1 x2 x3 : Int} (hT : GT T) (h : IM g T) (e2 : nm x2 = x2) (e3 : nm x3 = x3) (k : ∀ g', IM g' T → FrH g g' → P (some (aI (opCrowd T x1 x2 x3))) g') : Zm w (d + 5) mX11_crowd 0 [some (aR (some 228)), some (aI x1), some (aI x2), some (aI x3)] [] g P := by
  have m1 : nm (-1) = -1 := by decide
  refine s_X11_crowd_0 _ _ _ ?_
  refine j_reads hT h (fun g1 s1 f1 => ⟨rfl, ?_⟩)
  rw [s1.2.1.2.1, nmP1 hT, inn_x e2, inn_x e3, e3, m1]
  unfold opCrowd at k
  have NO : ¬ ((0 ≤ x2 ∧ x2 < 20) ∧ (x3 = -1 ∨ (0 ≤ x3 ∧ x3 < (nP T.1.1.2 : Int)))) → P (some (aI (-2))) g1 := fun q => by
    rw [if_neg q] at k; exact k g1 s1.1 f1
  have YES : ((0 ≤ x2 ∧ x2 < 20) ∧ (x3 = -1 ∨ (0 ≤ x3 ∧ x3 < (nP T.1.1.2 : Int)))) → Zm w (d + 5) mX11_crowd 24 [some (aR (some 228)), some (aI x1), some (aI x2), some (aI x3)] [] g1 P := by
    intro q
    rw [if_pos q] at k
    refine s_X11_crowd_24 _ _ _ ?_
    exact j_crowdOf (n := x2.toNat + 1) hT s1 (by omega) (by omega) (by omega) e3 q.2 (fun g2 s2 f2 => ⟨_, rfl, k g2 s2.1 (f1.trans f2)⟩)
  exact ⟨fun y => NO (fun z => by omega), fun y => ⟨fun z => YES ⟨by omega, Or.inl z⟩, fun z => ⟨fun u => NO (fun v => by omega), fun u => YES ⟨by omega, by omega⟩⟩⟩⟩
end CW
