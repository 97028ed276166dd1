/-! numbers, stores, loops -/
theorem ofI_nat (n : Nat) : Int32.ofInt (n : Int) = nI n := Int32.ofInt_eq_ofNat
theorem ofL_nat (n : Nat) : Int64.ofInt (n : Int) = lN n := Int64.ofInt_eq_ofNat
theorem iRem_nat {a b : Nat} (ha : a < 2147483648) (h0 : 0 < b) (hb : b < 2147483648) : iRem (a : Int) (b : Int) = ((a % b : Nat) : Int) := by
  unfold iRem
  rw [ofI_nat, ofI_nat, pk_rem (by omega) h0 (by omega), nI_toInt (by have := Nat.mod_lt a h0; omega)]
theorem iDiv_nat {a b : Nat} (ha : a < 2147483648) (h0 : 0 < b) (hb : b < 2147483648) : iDiv (a : Int) (b : Int) = ((a / b : Nat) : Int) := by
  unfold iDiv
  rw [ofI_nat, ofI_nat, pk_div (by omega) h0 (by omega), nI_toInt (by have := Nat.div_le_self a b; omega)]
theorem iRem_pos {x y : Int} (h1 : 0 ≤ x) (h2 : x < 2147483648) (h3 : 0 < y) (h4 : y < 2147483648) : iRem x y = x % y := by
  obtain ⟨a, rfl⟩ := Int.eq_ofNat_of_zero_le h1
  obtain ⟨b, rfl⟩ := Int.eq_ofNat_of_zero_le (Int.le_of_lt h3)
  rw [iRem_nat (by omega) (by omega) (by omega)]
  exact Int.natCast_emod a b
theorem iDiv_pos {x y : Int} (h1 : 0 ≤ x) (h2 : x < 2147483648) (h3 : 0 < y) (h4 : y < 2147483648) : iDiv x y = x / y := by
  obtain ⟨a, rfl⟩ := Int.eq_ofNat_of_zero_le h1
  obtain ⟨b, rfl⟩ := Int.eq_ofNat_of_zero_le (Int.le_of_lt h3)
  rw [iDiv_nat (by omega) (by omega) (by omega)]
  exact Int.natCast_ediv a b
theorem kob_rng (b : Int) : -1 ≤ kob b ∧ kob b ≤ 3 := by unfold kob; (repeat' split) <;> omega
theorem nm_kob (b : Int) : nm (kob b) = kob b := by have := kob_rng b; exact nm_id (by omega) (by omega)
theorem nm_fitP (k b : Int) : nm (fitP k b) = fitP k b := nm_bI _
theorem nm_wi (a b : Int) : nm (wi a b) = wi a b := nm_bI _
theorem nm_inn (a b c : Int) : nm (inn a b c) = inn a b c := nm_bI _
theorem nm_lin (a b c : Int) : nm (lin a b c) = lin a b c := nm_bI _
theorem wi_0 (v n : Int) : wi v n = 0 ↔ ¬ (0 ≤ nm v ∧ nm v < nm n) := by unfold wi; rw [bI_0, decide_eq_false_iff_not]
theorem inn_0 (v l h : Int) : inn v l h = 0 ↔ ¬ (l ≤ nm v ∧ nm v ≤ h) := by unfold inn; rw [bI_0, decide_eq_false_iff_not]
theorem n12_0 (i : Int) : n12 i = 0 ↔ ¬ (nm i = -1 ∨ (0 ≤ nm i ∧ nm i < 2)) := by unfold n12; rw [bI_0, decide_eq_false_iff_not]
theorem lin_0 (v l h : Int) : lin v l h = 0 ↔ ¬ (nml l ≤ nml v ∧ nml v ≤ nml h) := by unfold lin; rw [bI_0, decide_eq_false_iff_not]
theorem isNeg_0 (z : Int) : isNeg z = 0 ↔ ¬ nm z < 0 := by unfold isNeg; rw [bI_0, decide_eq_false_iff_not]
theorem nm_isNeg (z : Int) : nm (isNeg z) = isNeg z := nm_bI _
theorem hld_0 (s i n : Int) : hld s i n = 0 ↔ ¬ (0 ≤ nm i ∧ 0 ≤ nm n ∧ nm i ≤ nm s ∧ nm n ≤ nm (s - i)) := by unfold hld; rw [bI_0, decide_eq_false_iff_not]
theorem nm_hld (s i n : Int) : nm (hld s i n) = hld s i n := nm_bI _
theorem nm_n12 (i : Int) : nm (n12 i) = n12 i := nm_bI _
theorem up1_ap {α : Type} (f : Nat → α) (k : Nat) (v : α) (j : Nat) : up1 f k v j = if j = k then v else f j := rfl
theorem upf_ap {α : Type} (f : Nat → α) (k : Nat) (v : α) (j : Nat) : upf f k v j = if j = k then v else f j := rfl
theorem up2_ap {α : Type} (f : Nat → Nat → α) (a k : Nat) (v : α) (b j : Nat) : up2 f a k v b j = if b = a then (if j = k then v else f b j) else f b j := by
  by_cases h : b = a
  · subst h; simp [up2, upf, up1]
  · simp [up2, upf, h]
theorem up2_row {α : Type} (f : Nat → Nat → α) (a k : Nat) (v : α) (b : Nat) : up2 f a k v b = if b = a then up1 (f a) k v else f b := by
  by_cases h : b = a
  · subst h; simp [up2, upf]
  · simp [up2, upf, h]
theorem loopN {σ : Type} (Z : Nat → σ → Prop) (I : Nat → σ → Prop) (n : Nat) (hx : ∀ s, I n s → Z n s) (hs : ∀ i s, i < n → I i s → (∀ s', I (i + 1) s' → Z (i + 1) s') → Z i s) : ∀ i s, i ≤ n → I i s → Z i s := by
  intro i
  generalize hk : n - i = k
  induction k generalizing i with
  | zero =>
    intro s hi h
    have : i = n := by omega
    subst this
    exact hx s h
  | succ k ih =>
    intro s hi h
    exact hs i s (by omega) h (fun s' h' => ih (i + 1) (by omega) s' (by omega) h')
/-- a loop that goes down -/
theorem loopD {σ : Type} (Z : Nat → σ → Prop) (I : Nat → σ → Prop) (hx : ∀ s, I 0 s → Z 0 s) (hs : ∀ i s, I (i + 1) s → (∀ s', I i s' → Z i s') → Z (i + 1) s) : ∀ i s, I i s → Z i s := by
  intro i
  induction i with
  | zero => exact hx
  | succ i ih => exact fun s h => hs i s h ih
