/-! numbers by their bits; the first rows are of the kit (laws, to paste) -/
def bt (x : Int32) (i : Nat) : Bool := x.toBitVec.getLsbD i
theorem b_ext {x y : Int32} (h : ∀ i, i < 32 → bt x i = bt y i) : x = y := Int32.toBitVec_inj.mp (BitVec.eq_of_getLsbD_eq (fun i hi => h i hi))
theorem b_or (x y : Int32) (i : Nat) : bt (x ||| y) i = (bt x i || bt y i) := by unfold bt; rw [Int32.toBitVec_or, BitVec.getLsbD_or]
theorem b_and (x y : Int32) (i : Nat) : bt (x &&& y) i = (bt x i && bt y i) := by unfold bt; rw [Int32.toBitVec_and, BitVec.getLsbD_and]
theorem b_big {x : Int32} {i : Nat} (h : 32 ≤ i) : bt x i = false := BitVec.getLsbD_of_ge _ _ h
theorem b_0 (i : Nat) : bt 0 i = false := BitVec.getLsbD_zero
theorem s_l : ∀ n, n < 32 → ((nI n &&& 31).toBitVec.smod 32).toNat = n := by decide +kernel
theorem s_u : ∀ n, n < 32 → (((nI n).toUInt32 &&& Int32.toUInt32 31).toBitVec % 32).toNat = n := by decide +kernel
theorem b_shl (n : Nat) (hn : n < 32) (x : Int32) {i : Nat} (hi : i < 32) : bt (x <<< (nI n &&& 31)) i = (decide (n ≤ i) && bt x (i - n)) := by
  unfold bt
  rw [Int32.toBitVec_shiftLeft]
  show (x.toBitVec <<< ((nI n &&& 31).toBitVec.smod 32).toNat).getLsbD i = _
  rw [s_l n hn, BitVec.getLsbD_shiftLeft]
  rcases Nat.lt_or_ge i n with h | h
  · simp [h, Nat.not_le.mpr h]
  · simp [hi, h, Nat.not_lt.mpr h]
theorem b_ushr (n : Nat) (hn : n < 32) (x : Int32) (i : Nat) : bt ((x.toUInt32 >>> ((nI n).toUInt32 &&& Int32.toUInt32 31)).toInt32) i = bt x (n + i) := by
  show (x.toUInt32 >>> ((nI n).toUInt32 &&& Int32.toUInt32 31)).toBitVec.getLsbD i = x.toUInt32.toBitVec.getLsbD (n + i)
  rw [UInt32.toBitVec_shiftRight]
  show (x.toUInt32.toBitVec >>> (((nI n).toUInt32 &&& Int32.toUInt32 31).toBitVec % 32).toNat).getLsbD i = _
  rw [s_u n hn, BitVec.getLsbD_ushiftRight]
theorem b_sshr (n : Nat) (hn : n < 32) (x : Int32) {i : Nat} (hi : i < 32) : bt (x >>> (nI n &&& 31)) i = if n + i < 32 then bt x (n + i) else bt x 31 := by
  unfold bt
  rw [Int32.toBitVec_shiftRight]
  show (x.toBitVec.sshiftRight ((nI n &&& 31).toBitVec.smod 32).toNat).getLsbD i = _
  rw [s_l n hn, BitVec.getLsbD_sshiftRight, BitVec.msb_eq_getLsbD_last]
  simp [hi]
/-- the number whose bits are f -/
def Bt (z : Int) (f : Nat → Bool) : Prop := nm z = z ∧ ∀ i, i < 32 → bt (Int32.ofInt z) i = (decide (i < 30) && f i)
theorem Bt.zero : Bt 0 (fun _ => false) := ⟨by decide, fun i _ => by rw [show Int32.ofInt 0 = 0 from by decide, b_0]; simp⟩
theorem b_1 : ∀ i, i < 32 → bt 1 i = decide (i = 0) := by decide +kernel
theorem nm_iOr (x y : Int) : nm (iOr x y) = iOr x y := by unfold nm iOr; rw [Int32.ofInt_toInt]
theorem nm_iShl (x y : Int) : nm (iShl x y) = iShl x y := by unfold nm iShl; rw [Int32.ofInt_toInt]
theorem nm_iShr (x y : Int) : nm (iShr x y) = iShr x y := by unfold nm iShr; rw [Int32.ofInt_toInt]
theorem nm_iAnd (x y : Int) : nm (iAnd x y) = iAnd x y := by unfold nm iAnd; rw [Int32.ofInt_toInt]
theorem Bt.or {z z' : Int} {f f' : Nat → Bool} (h : Bt z f) (h' : Bt z' f') : Bt (iOr z z') (fun i => f i || f' i) :=
  ⟨nm_iOr _ _, fun i hi => by
    unfold iOr; rw [Int32.ofInt_toInt, b_or, h.2 i hi, h'.2 i hi]
    cases decide (i < 30) <;> simp⟩
theorem Bt.one {k : Nat} (hk : k < 30) : Bt (iShl 1 (k : Int)) (fun i => decide (i = k)) :=
  ⟨nm_iShl _ _, fun i hi => by
    unfold iShl; rw [Int32.ofInt_toInt, show Int32.ofInt 1 = 1 from by decide, ofI_nat, b_shl k (by omega) 1 hi, b_1 _ (by omega)]
    by_cases e : i = k
    · subst e; simp [hk]
    · by_cases q : k ≤ i
      · have : ¬ i - k = 0 := by omega
        simp [e, this]
      · simp [e, q]⟩
theorem Bt.congr {z : Int} {f f' : Nat → Bool} (h : Bt z f) (e : ∀ i, i < 30 → f i = f' i) : Bt z f' :=
  ⟨h.1, fun i hi => by
    rw [h.2 i hi]
    by_cases q : i < 30
    · rw [e i q]
    · simp [q]⟩
theorem Bt.set {z : Int} {f : Nat → Bool} (h : Bt z f) {k : Nat} (hk : k < 30) : Bt (iOr z (iShl 1 (k : Int))) (fun i => f i || decide (i = k)) := h.or (Bt.one hk)
theorem Bt.uniq {z z' : Int} {f : Nat → Bool} (h : Bt z f) (h' : Bt z' f) : z = z' := by
  have e : Int32.ofInt z = Int32.ofInt z' := b_ext (fun i hi => (h.2 i hi).trans (h'.2 i hi).symm)
  rw [← h.1, ← h'.1]; unfold nm; rw [e]
theorem Bt.test {z : Int} {f : Nat → Bool} (h : Bt z f) {k : Nat} (hk : k < 30) : iAnd (iShr z (k : Int)) 1 = bI (f k) := by
  have e : (Int32.ofInt z >>> (nI k &&& 31)) &&& 1 = if f k then 1 else 0 := by
    apply b_ext
    intro i hi
    rw [b_and, b_sshr k (by omega) _ hi, b_1 i hi]
    by_cases q : i = 0
    · subst q
      rw [if_pos (by omega), h.2 _ (by omega)]
      cases f k <;> simp [b_0, hk, b_1]
    · cases f k <;> simp [b_0, q, b_1 i hi]
  unfold iAnd iShr
  rw [Int32.ofInt_toInt, ofI_nat, show Int32.ofInt 1 = 1 from by decide, e]
  cases f k <;> decide
theorem Bt.test0 {z : Int} {f : Nat → Bool} (h : Bt z f) {k : Nat} (hk : k < 30) : nm (iAnd (iShr z (k : Int)) 1) = 0 ↔ f k = false := by
  rw [h.test hk, nbI_0]
