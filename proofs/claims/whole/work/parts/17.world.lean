/-! the class: texts and the world -/
/-- the first bad place of n, or -1 -/
def FP (bad : Nat → Prop) (n : Nat) (z : Int) : Prop := (z = -1 ∧ ∀ j, j < n → ¬ bad j) ∨ ∃ r : Nat, r < n ∧ z = (r : Int) ∧ bad r ∧ ∀ j, j < r → ¬ bad j
theorem FP.one {bad : Nat → Prop} {n : Nat} {z z' : Int} (h : FP bad n z) (h' : FP bad n z') : z = z' := by
  rcases h with ⟨e, h⟩ | ⟨r, hr, e, hb, h⟩ <;> rcases h' with ⟨e', h'⟩ | ⟨r', hr', e', hb', h'⟩
  · rw [e, e']
  · exact absurd hb' (h r' hr')
  · exact absurd hb (h' r hr)
  · rw [e, e']
    rcases Nat.lt_trichotomy r r' with q | q | q
    · exact absurd hb (h' r q)
    · rw [q]
    · exact absurd hb' (h r' q)
theorem FP.congr {b b' : Nat → Prop} {n : Nat} {z : Int} (h : FP b n z) (hc : ∀ j, j < n → (b j ↔ b' j)) : FP b' n z := by
  rcases h with ⟨e, h⟩ | ⟨r, hr, e, hb, h⟩
  · exact Or.inl ⟨e, fun j hj q => h j hj ((hc j hj).mpr q)⟩
  · exact Or.inr ⟨r, hr, e, (hc r hr).mp hb, fun j hj q => h j hj ((hc j (by omega)).mpr q)⟩
/-- the fault of people's text -/
def FPp (bad : Nat → Prop) (n : Nat) (z : Int) : Prop := (∃ r : Nat, r < n ∧ z = (r : Int) ∧ bad r ∧ ∀ j, j < r → ¬ bad j) ∨ ((∀ j, j < n → ¬ bad j) ∧ z = if n = 0 ∨ n % 6 = 5 then -1 else (n : Int))
theorem FPp.one {bad : Nat → Prop} {n : Nat} {z z' : Int} (h : FPp bad n z) (h' : FPp bad n z') : z = z' := by
  rcases h with ⟨r, hr, e, hb, h⟩ | ⟨h, e⟩ <;> rcases h' with ⟨r', hr', e', hb', h'⟩ | ⟨h', e'⟩
  · rw [e, e']
    rcases Nat.lt_trichotomy r r' with q | q | q
    · exact absurd hb (h' r q)
    · rw [q]
    · exact absurd hb' (h r' q)
  · exact absurd hb (h' r hr)
  · exact absurd hb' (h r' hr')
  · rw [e, e']
section TX
variable {w : GX} {d : Nat} {P : PN} {g : GI}
theorem c_rvF {x0 n : Nat} (hT : isT x0) (hn : g x0 1 = (n : Int)) (hl : n ≤ (kd0 (x0 + 1)).2) (h9 : n < 1000) (k : ∀ z, FP (fun i => kob (g (x0 + 1) i) = -1) n z → P (some (aI z)) g) : Zm w (d + 2) mX7_riverFault 0 [some (aR (some x0)), none] [] g P := by
  refine s_X7_riverFault_0 hT ?_
  have e2 : nm (g x0 1) = n := by rw [hn]; exact nm_id (by omega) (by omega)
  refine loopN (σ := Unit) (fun i _ => Zm w (d + 2) mX7_riverFault 2 [some (aR (some x0)), some (aI (i : Int))] [] g P) (fun i _ => ∀ j, j < i → ¬ kob (g (x0 + 1) j) = -1) n ?_ ?_ 0 () (Nat.zero_le _) (fun j hj => absurd hj (Nat.not_lt_zero j))
  · intro _ hI
    have e1 : nm (n : Int) = n := nm_id (by omega) (by omega)
    refine s_X7_riverFault_2 hT _ ?_
    rw [e1, e2]
    exact ⟨fun _ => k _ (Or.inl ⟨rfl, hI⟩), fun c => absurd c (by omega)⟩
  · intro i _ hi hI ih
    have e1 : nm (i : Int) = i := nm_id (by omega) (by omega)
    refine s_X7_riverFault_2 hT _ ?_
    rw [e1, e2, Int.toNat_natCast, nm_kob, nm_m1]
    refine ⟨fun c => absurd c (by omega), fun c => ⟨by omega, by omega, fun c2 => ?_, fun c2 => ?_⟩⟩
    · refine ih () (fun j hj => ?_)
      by_cases e : j = i
      · subst e; exact c2
      · exact hI j (by omega)
    · exact k _ (Or.inr ⟨i, hi, rfl, c2, hI⟩)
theorem c_ppF {x0 n : Nat} (hT : isT x0) (hn : g x0 1 = (n : Int)) (hl : n ≤ (kd0 (x0 + 1)).2) (h9 : n < 1000) (k : ∀ z, FPp (fun i => fitP ((i % 6 : Nat) : Int) (g (x0 + 1) i) = 0) n z → P (some (aI z)) g) : Zm w (d + 2) mX7_peopleFault 0 [some (aR (some x0)), none] [] g P := by
  refine s_X7_peopleFault_0 hT ?_
  have e2 : nm (g x0 1) = n := by rw [hn]; exact nm_id (by omega) (by omega)
  refine loopN (σ := Unit) (fun i _ => Zm w (d + 2) mX7_peopleFault 2 [some (aR (some x0)), some (aI (i : Int))] [] g P) (fun i _ => ∀ j, j < i → ¬ fitP ((j % 6 : Nat) : Int) (g (x0 + 1) j) = 0) n ?_ ?_ 0 () (Nat.zero_le _) (fun j hj => absurd hj (Nat.not_lt_zero j))
  · intro _ hI
    have e1 : nm (n : Int) = n := nm_id (by omega) (by omega)
    have e3 : nm (iRem (g x0 1) 6) = ((n % 6 : Nat) : Int) := by
      rw [hn, show (6 : Int) = ((6 : Nat) : Int) from rfl, iRem_nat (by omega) (by omega) (by omega)]
      exact nm_id (by omega) (by omega)
    have e4 : nm 5 = 5 := by decide
    refine s_X7_peopleFault_2 hT _ ?_
    rw [e1, e2, e3, e4]
    refine ⟨fun _ => ⟨fun c => k _ (Or.inr ⟨hI, ?_⟩), fun c => ⟨fun c2 => k _ (Or.inr ⟨hI, ?_⟩), fun c2 => k _ (Or.inr ⟨hI, ?_⟩)⟩⟩, fun c => absurd c (by omega)⟩
    · rw [if_pos (Or.inl (by omega))]
    · rw [if_neg (by omega), hn]
    · rw [if_pos (Or.inr (by omega))]
  · intro i _ hi hI ih
    have e1 : nm (i : Int) = i := nm_id (by omega) (by omega)
    have e3 : iRem (i : Int) 6 = ((i % 6 : Nat) : Int) := by
      rw [show (6 : Int) = ((6 : Nat) : Int) from rfl, iRem_nat (by omega) (by omega) (by omega)]
    refine s_X7_peopleFault_2 hT _ ?_
    rw [e1, e2, Int.toNat_natCast, e3, nm_fitP]
    refine ⟨fun c => absurd c (by omega), fun c => ⟨by omega, by omega, fun c2 => ?_, fun c2 => ?_⟩⟩
    · refine ih () (fun j hj => ?_)
      by_cases e : j = i
      · subst e; exact c2
      · exact hI j (by omega)
    · exact k _ (Or.inl ⟨i, hi, rfl, c2, hI⟩)
end TX
/-- what the world's cells hold of the river -/
def WRv (g : GI) (t0 : List Int) : Prop := g 18 8 = (nC t0 : Int) ∧ g 18 9 = (nR t0 : Int) ∧ (∀ c, c < nC t0 → g 19 c = kob (by_ t0 c) ∧ g 20 c = bI (evD t0 c) ∧ g 21 c = bI (odD t0 c)) ∧ (∀ x, x < nR t0 → g 22 x = (cofF t0 x : Int) ∧ g 23 x = by_ t0 (cofF t0 x) - 97 ∧ g 24 x = 0)
def WPp (g : GI) (o : Om) : Prop := g 18 10 = (nP o.2 : Int) ∧ (∀ p, p < nP o.2 → g 23 (nR o.1 + p) = by_ o.2 (6 * p) - 97 ∧ g 24 (nR o.1 + p) = oweP o.2 p ∧ g 25 p = wedF o.2 p ∧ g 26 p = lukF o.2 p)
theorem rvN_succ (t0 : List Int) (c : Nat) : (List.range (c + 1)).filter (isNm t0) = (List.range c).filter (isNm t0) ++ (if isNm t0 c then [c] else []) := by
  rw [List.range_succ, List.filter_append]
  congr 1
  cases h : isNm t0 c <;> simp [h]
theorem cnt_le (t0 : List Int) (c : Nat) : ((List.range c).filter (isNm t0)).length ≤ c := by
  have := List.length_filter_le (isNm t0) (List.range c)
  simpa using this
theorem nC_le (t0 : List Int) : nC t0 ≤ t0.length := by unfold nC; split <;> omega
theorem nR_le (t0 : List Int) : nR t0 ≤ nC t0 := cnt_le t0 (nC t0)
