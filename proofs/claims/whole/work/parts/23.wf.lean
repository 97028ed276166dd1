/-! the waters stay as they may be -/
theorem lowF_hi (wh : Nat → Nat) (al : List Nat) : ∀ n j, lowF wh al n ≤ j → j < n → wh (al.getD j 0) = 0
  | 0, j, _, h => absurd h (Nat.not_lt_zero j)
  | n + 1, j, h1, h2 => by
    unfold lowF at h1
    split at h1
    · by_cases e : j = n
      · subst e; assumption
      · exact lowF_hi wh al n j h1 (by omega)
    · omega
theorem lowF_lo (wh : Nat → Nat) (al : List Nat) : ∀ n, 0 < lowF wh al n → wh (al.getD (lowF wh al n - 1) 0) ≠ 0
  | 0, h => absurd h (Nat.lt_irrefl 0)
  | n + 1, h => by
    unfold lowF at h ⊢
    split
    · rename_i q
      rw [if_pos q] at h
      exact lowF_lo wh al n h
    · assumption
theorem Wf.exch {o : Om} {m : Mu} (hB : BO o) (h : Wf o m) {p luck : Nat} (hp : p < nP o.2) : Wf o (exchM p luck m).1 := by
  unfold exchM
  by_cases hz : m.2.2.2.length - low m = 0
  · rw [if_pos hz]; exact h
  rw [if_neg hz]
  obtain ⟨h1, h2, h3, h4, h5, h6, h7⟩ := h
  have hat := exAt_lt (luck := luck) hz
  have hC := hB.1
  have hP := hB.2
  have ht0 : m.1 (m.2.2.2.getD (exAt luck m) 0) = 0 := lowF_hi _ _ _ _ (show lowF m.1 m.2.2.2 m.2.2.2.length ≤ exAt luck m from Nat.le_add_right _ _) hat
  have hh := h5 p hp
  have htn := h2 _ hat
  have hnm := h6 _ hat ht0
  generalize hA : exAt luck m = A at hat ht0 htn hnm
  generalize hT : m.2.2.2.getD A 0 = T at ht0 htn hnm
  have hht : m.2.2.1 p ≠ T := fun e => by rw [e] at hh; omega
  have hlen : (m.2.2.2.eraseIdx A ++ [m.2.2.1 p]).length = m.2.2.2.length := by rw [List.length_append, erase_len _ hat]; simp; omega
  have hget : ∀ j, j < m.2.2.2.length → (m.2.2.2.eraseIdx A ++ [m.2.2.1 p]).getD j 0 = if j < m.2.2.2.length - 1 then (if j < A then m.2.2.2.getD j 0 else m.2.2.2.getD (j + 1) 0) else m.2.2.1 p := by
    intro j hj
    rw [getD_snoc, erase_len _ hat, erase_at _ hat]
    by_cases q : j < m.2.2.2.length - 1
    · rw [if_pos q, if_pos q]
    · rw [if_neg q, if_neg q, if_pos (by omega)]
  -- an old name that stays isn't one of the two
  have hold : ∀ j, j < m.2.2.2.length → j ≠ A → m.2.2.2.getD j 0 ≠ T ∧ m.2.2.2.getD j 0 ≠ m.2.2.1 p := by
    intro j hj hne
    refine ⟨fun e => hne (h1 j A hj hat (by rw [e, hT])), fun e => ?_⟩
    have := (h2 j hj).2
    rw [e, hh.2] at this
    omega
  have hwo : ∀ j, j < m.2.2.2.length → j ≠ A → up1 (up1 m.1 (m.2.2.1 p) 0) T (22 + p) (m.2.2.2.getD j 0) = m.1 (m.2.2.2.getD j 0) := by
    intro j hj hne
    rw [up1_ne _ _ (hold j hj hne).1, up1_ne _ _ (hold j hj hne).2]
  have hwh : up1 (up1 m.1 (m.2.2.1 p) 0) T (22 + p) (m.2.2.1 p) = 0 := by rw [up1_ne _ _ hht, up1_eq]
  refine ⟨?_, ?_, ?_, ?_, ?_, ?_, ?_⟩
  · intro i j hi hj e
    have hi : i < m.2.2.2.length := by rw [← hlen]; exact hi
    have hj : j < m.2.2.2.length := by rw [← hlen]; exact hj
    have e : (m.2.2.2.eraseIdx A ++ [m.2.2.1 p]).getD i 0 = (m.2.2.2.eraseIdx A ++ [m.2.2.1 p]).getD j 0 := e
    rw [hget i hi, hget j hj] at e
    by_cases qi : i < m.2.2.2.length - 1
    · by_cases qj : j < m.2.2.2.length - 1
      · rw [if_pos qi, if_pos qj] at e
        by_cases ai : i < A
        · by_cases aj : j < A
          · rw [if_pos ai, if_pos aj] at e; exact h1 _ _ (by omega) (by omega) e
          · rw [if_pos ai, if_neg aj] at e; have := h1 _ _ (by omega) (by omega) e; omega
        · by_cases aj : j < A
          · rw [if_neg ai, if_pos aj] at e; have := h1 _ _ (by omega) (by omega) e; omega
          · rw [if_neg ai, if_neg aj] at e; have := h1 _ _ (by omega) (by omega) e; omega
      · rw [if_pos qi, if_neg qj] at e
        exfalso
        by_cases ai : i < A
        · rw [if_pos ai] at e; exact (hold i (by omega) (by omega)).2 e
        · rw [if_neg ai] at e; exact (hold (i + 1) (by omega) (by omega)).2 e
    · by_cases qj : j < m.2.2.2.length - 1
      · rw [if_neg qi, if_pos qj] at e
        exfalso
        by_cases aj : j < A
        · rw [if_pos aj] at e; exact (hold j (by omega) (by omega)).2 e.symm
        · rw [if_neg aj] at e; exact (hold (j + 1) (by omega) (by omega)).2 e.symm
      · omega
  · intro j hj
    have hj : j < m.2.2.2.length := by rw [← hlen]; exact hj
    show (m.2.2.2.eraseIdx A ++ [m.2.2.1 p]).getD j 0 < nN o ∧ up1 (up1 m.1 (m.2.2.1 p) 0) T (22 + p) ((m.2.2.2.eraseIdx A ++ [m.2.2.1 p]).getD j 0) < nC o.1
    rw [hget j hj]
    split
    · split
      · rw [hwo j hj (by omega)]; exact h2 j hj
      · rw [hwo (j + 1) (by omega) (by omega)]; exact h2 (j + 1) (by omega)
    · rw [hwh]; exact ⟨hh.1, by omega⟩
  · rw [hlen]; exact h3
  · intro i j hij hj
    have hj : j < m.2.2.2.length := by rw [← hlen]; exact hj
    show up1 (up1 m.1 (m.2.2.1 p) 0) T (22 + p) ((m.2.2.2.eraseIdx A ++ [m.2.2.1 p]).getD j 0) ≤ up1 (up1 m.1 (m.2.2.1 p) 0) T (22 + p) ((m.2.2.2.eraseIdx A ++ [m.2.2.1 p]).getD i 0)
    rw [hget i (by omega), hget j hj]
    by_cases qj : j < m.2.2.2.length - 1
    · rw [if_pos qj, if_pos (show i < m.2.2.2.length - 1 by omega)]
      split
      · rw [if_pos (by omega), hwo j hj (by omega), hwo i (by omega) (by omega)]; exact h4 i j hij hj
      · split
        · rw [hwo (j + 1) (by omega) (by omega), hwo i (by omega) (by omega)]; exact h4 i (j + 1) (by omega) (by omega)
        · rw [hwo (j + 1) (by omega) (by omega), hwo (i + 1) (by omega) (by omega)]; exact h4 (i + 1) (j + 1) (by omega) (by omega)
    · rw [if_neg qj, hwh]; exact Nat.zero_le _
  · intro q hq
    show up1 m.2.2.1 p T q < nN o ∧ up1 (up1 m.1 (m.2.2.1 p) 0) T (22 + p) (up1 m.2.2.1 p T q) = 22 + q
    by_cases e : q = p
    · subst e; rw [up1_eq, up1_eq]; exact ⟨htn.1, rfl⟩
    · have hq5 := h5 q hq
      have n1 : m.2.2.1 q ≠ T := fun z => by rw [z] at hq5; omega
      have n2 : m.2.2.1 q ≠ m.2.2.1 p := fun z => by rw [z] at hq5; omega
      rw [up1_ne _ _ e, up1_ne _ _ n1, up1_ne _ _ n2]; exact hq5
  · intro j hj hz0
    exact hnm
  · intro x hx
    show up1 (up1 m.1 (m.2.2.1 p) 0) T (22 + p) x < 30
    simp only [up1_ap]
    split
    · omega
    · split
      · omega
      · exact h7 x hx
theorem Wf.sell {o : Om} {m : Mu} (hB : BO o) (h : Wf o m) (c : Nat) : Wf o (sellM c m) := by
  unfold sellM
  by_cases hz : seAt c m < m.2.2.2.length
  · rw [if_pos hz]
    obtain ⟨h1, h2, h3, h4, h5, h6, h7⟩ := h
    have hC := hB.1
    generalize hA : seAt c m = A at hz
    generalize hT : m.2.2.2.getD A 0 = T
    have hlen := erase_len m.2.2.2 hz
    have hget : ∀ j, (m.2.2.2.eraseIdx A).getD j 0 = if j < A then m.2.2.2.getD j 0 else m.2.2.2.getD (j + 1) 0 := fun j => erase_at _ hz
    have hold : ∀ j, j < m.2.2.2.length → j ≠ A → m.2.2.2.getD j 0 ≠ T := fun j hj hne e => hne (h1 j A hj hz (by rw [e, hT]))
    have hwo : ∀ j, j < m.2.2.2.length → j ≠ A → up1 m.1 T 21 (m.2.2.2.getD j 0) = m.1 (m.2.2.2.getD j 0) := fun j hj hne => up1_ne _ _ (hold j hj hne)
    have htn := h2 A hz
    refine ⟨?_, ?_, ?_, ?_, ?_, ?_, ?_⟩
    · intro i j hi hj e
      have hi : i < m.2.2.2.length - 1 := by rw [← hlen]; exact hi
      have hj : j < m.2.2.2.length - 1 := by rw [← hlen]; exact hj
      have e : (m.2.2.2.eraseIdx A).getD i 0 = (m.2.2.2.eraseIdx A).getD j 0 := e
      rw [hget i, hget j] at e
      by_cases ai : i < A
      · by_cases aj : j < A
        · rw [if_pos ai, if_pos aj] at e; exact h1 _ _ (by omega) (by omega) e
        · rw [if_pos ai, if_neg aj] at e; have := h1 _ _ (by omega) (by omega) e; omega
      · by_cases aj : j < A
        · rw [if_neg ai, if_pos aj] at e; have := h1 _ _ (by omega) (by omega) e; omega
        · rw [if_neg ai, if_neg aj] at e; have := h1 _ _ (by omega) (by omega) e; omega
    · intro j hj
      have hj : j < m.2.2.2.length - 1 := by rw [← hlen]; exact hj
      show (m.2.2.2.eraseIdx A).getD j 0 < nN o ∧ up1 m.1 T 21 ((m.2.2.2.eraseIdx A).getD j 0) < nC o.1
      rw [hget]
      split
      · rw [hwo j (by omega) (by omega)]; exact h2 j (by omega)
      · rw [hwo (j + 1) (by omega) (by omega)]; exact h2 (j + 1) (by omega)
    · show (m.2.2.2.eraseIdx A).length ≤ _
      omega
    · intro i j hij hj
      have hj : j < m.2.2.2.length - 1 := by rw [← hlen]; exact hj
      show up1 m.1 T 21 ((m.2.2.2.eraseIdx A).getD j 0) ≤ up1 m.1 T 21 ((m.2.2.2.eraseIdx A).getD i 0)
      rw [hget, hget]
      split
      · rw [if_pos (by omega), hwo j (by omega) (by omega), hwo i (by omega) (by omega)]; exact h4 i j hij (by omega)
      · split
        · rw [hwo (j + 1) (by omega) (by omega), hwo i (by omega) (by omega)]; exact h4 i (j + 1) (by omega) (by omega)
        · rw [hwo (j + 1) (by omega) (by omega), hwo (i + 1) (by omega) (by omega)]; exact h4 (i + 1) (j + 1) (by omega) (by omega)
    · intro q hq
      have hq5 := h5 q hq
      have n1 : m.2.2.1 q ≠ T := fun z => by rw [z, ← hT] at hq5; omega
      show m.2.2.1 q < nN o ∧ up1 m.1 T 21 (m.2.2.1 q) = 22 + q
      rw [up1_ne _ _ n1]; exact hq5
    · intro j hj hz0
      have hj : j < m.2.2.2.length - 1 := by rw [← hlen]; exact hj
      have hz0 : up1 m.1 T 21 ((m.2.2.2.eraseIdx A).getD j 0) = 0 := hz0
      rw [hget] at hz0
      split at hz0
      · rw [hwo j (by omega) (by omega)] at hz0; exact h6 j (by omega) hz0
      · rw [hwo (j + 1) (by omega) (by omega)] at hz0; exact h6 (j + 1) (by omega) hz0
    · intro x hx
      show up1 m.1 T 21 x < 30
      simp only [up1_ap]
      split
      · omega
      · exact h7 x hx
  · rw [if_neg hz]; exact h
/-- where one comes to -/
def nvF (t0 : List Int) (day c : Nat) : Nat := if drD t0 day c then (if c + 1 < nC t0 then c + 1 else 20) else c
theorem drK_inv {o : Om} {m : Mu} (hB : BO o) (h : Wf o m) (day : Nat) : ∀ i, i ≤ m.2.2.2.length →
    (∀ j, j < i → (drK o.1 day m i).1 (m.2.2.2.getD j 0) = nvF o.1 day (m.1 (m.2.2.2.getD j 0))) ∧ (∀ x, (∀ j, j < i → x ≠ m.2.2.2.getD j 0) → (drK o.1 day m i).1 x = m.1 x) ∧
    ∃ f : Nat → Nat, (∀ j, j < (drK o.1 day m i).2.2.2.length → f j < i ∧ (drK o.1 day m i).2.2.2.getD j 0 = m.2.2.2.getD (f j) 0 ∧ nvF o.1 day (m.1 (m.2.2.2.getD (f j) 0)) ≠ 20) ∧ (∀ j k, j < k → k < (drK o.1 day m i).2.2.2.length → f j < f k)
  | 0, _ => ⟨fun j hj => absurd hj (Nat.not_lt_zero j), fun _ _ => rfl, fun j => j, fun j hj => absurd hj (Nat.not_lt_zero j), fun j k _ hk => absurd hk (Nat.not_lt_zero k)⟩
  | i + 1, hi => by
    obtain ⟨a1, a2, f, a3, a4⟩ := drK_inv hB h day i (by omega)
    obtain ⟨h1, h2, h3, h4, h5, h6, h7⟩ := id h
    have hC := hB.1
    have hx := h2 i (by omega)
    have hw := (drK_wh o.1 day m h1 i (by omega) i (Nat.le_refl _) (by omega)).1
    have hstep : drK o.1 day m (i + 1) = dr1 o.1 day (drK o.1 day m i) (m.2.2.2.getD i 0) := rfl
    generalize hK : drK o.1 day m i = K at a1 a2 a3 a4 hw hstep
    rw [hstep]
    have hnv : (dr1 o.1 day K (m.2.2.2.getD i 0)).1 (m.2.2.2.getD i 0) = nvF o.1 day (m.1 (m.2.2.2.getD i 0)) := by
      unfold dr1 nvF
      rw [hw]
      split
      · exact up1_eq _ _ _
      · exact hw
    have hal : (dr1 o.1 day K (m.2.2.2.getD i 0)).2.2.2 = if nvF o.1 day (m.1 (m.2.2.2.getD i 0)) = 20 then K.2.2.2 else K.2.2.2 ++ [m.2.2.2.getD i 0] := by
      by_cases q : drD o.1 day (m.1 (m.2.2.2.getD i 0)) = true
      · by_cases q2 : m.1 (m.2.2.2.getD i 0) + 1 < nC o.1
        · have e1 : nvF o.1 day (m.1 (m.2.2.2.getD i 0)) = m.1 (m.2.2.2.getD i 0) + 1 := by unfold nvF; rw [if_pos q, if_pos q2]
          rw [e1, if_neg (by omega)]
          unfold dr1
          rw [hw, if_pos q]
          exact if_pos q2
        · have e1 : nvF o.1 day (m.1 (m.2.2.2.getD i 0)) = 20 := by unfold nvF; rw [if_pos q, if_neg q2]
          rw [e1, if_pos rfl]
          unfold dr1
          rw [hw, if_pos q]
          exact if_neg q2
      · have e1 : nvF o.1 day (m.1 (m.2.2.2.getD i 0)) = m.1 (m.2.2.2.getD i 0) := by unfold nvF; rw [if_neg q]
        rw [e1, if_neg (by omega)]
        unfold dr1
        rw [hw, if_neg q]
    refine ⟨fun j hj => ?_, fun x hx => ?_, ?_⟩
    · by_cases e : j = i
      · subst e; exact hnv
      · rw [(dr1_wh o.1 day K (fun z => e (h1 _ _ (by omega) (by omega) z))).1]; exact a1 j (by omega)
    · rw [(dr1_wh o.1 day K (hx i (by omega))).1]; exact a2 x (fun j hj => hx j (by omega))
    · rw [hal]
      by_cases q : nvF o.1 day (m.1 (m.2.2.2.getD i 0)) = 20
      · rw [if_pos q]
        exact ⟨f, fun j hj => ⟨by have := (a3 j hj).1; omega, (a3 j hj).2⟩, a4⟩
      · rw [if_neg q]
        refine ⟨fun j => if j < K.2.2.2.length then f j else i, fun j hj => ?_, fun j k hjk hk => ?_⟩
        · rw [getD_snoc]
          have hj : j < K.2.2.2.length + 1 := by simpa using hj
          by_cases e : j < K.2.2.2.length
          · simp only [if_pos e]
            exact ⟨by have := (a3 j e).1; omega, (a3 j e).2⟩
          · simp only [if_neg e]
            rw [if_pos (by omega)]
            exact ⟨by omega, rfl, q⟩
        · have hk : k < K.2.2.2.length + 1 := by simpa using hk
          simp only []
          rw [if_pos (show j < K.2.2.2.length by omega)]
          by_cases e : k < K.2.2.2.length
          · rw [if_pos e]; exact a4 j k hjk e
          · rw [if_neg e]; exact (a3 j (by omega)).1
theorem nvF_mono {t0 : List Int} {day c c' : Nat} (h : c' ≤ c) (hc : nvF t0 day c' ≠ 20) (hc2 : nvF t0 day c ≠ 20) (h20 : c < 20) : nvF t0 day c' ≤ nvF t0 day c := by
  by_cases e : c' = c
  · rw [e]; exact Nat.le_refl _
  · have h1 : nvF t0 day c' ≤ c' + 1 := by
      unfold nvF at hc ⊢
      split
      · split
        · exact Nat.le_refl _
        · rename_i q1 q2
          rw [if_pos q1, if_neg q2] at hc
          exact absurd rfl hc
      · omega
    have h2 : c ≤ nvF t0 day c := by
      unfold nvF
      split
      · split <;> omega
      · exact Nat.le_refl _
    omega
theorem Wf.drift {o : Om} {m : Mu} (hB : BO o) (h : Wf o m) (day : Nat) : Wf o (driftM o.1 day m) := by
  obtain ⟨a1, a2, f, a3, a4⟩ := drK_inv hB h day m.2.2.2.length (Nat.le_refl _)
  have hha := drK_ha o.1 day m m.2.2.2.length
  have hll := drK_len o.1 day m m.2.2.2.length
  obtain ⟨h1, h2, h3, h4, h5, h6, h7⟩ := id h
  have hC := hB.1
  show Wf o (drK o.1 day m m.2.2.2.length)
  generalize drK o.1 day m m.2.2.2.length = K at a1 a2 a3 a4 hha hll
  have hnc : ∀ c, nvF o.1 day c ≠ 20 → c < nC o.1 → nvF o.1 day c < nC o.1 := by
    intro c hc hcl
    unfold nvF at hc ⊢
    split
    · split
      · assumption
      · rename_i q1 q2; rw [if_pos q1, if_neg q2] at hc; exact absurd rfl hc
    · exact hcl
  have hmono : ∀ j k, j ≤ k → k < K.2.2.2.length → f j ≤ f k := fun j k hjk hk => by
    rcases Nat.lt_or_ge j k with q | q
    · exact Nat.le_of_lt (a4 j k q hk)
    · rw [show j = k by omega]; exact Nat.le_refl _
  refine ⟨fun i j hi hj e => ?_, fun j hj => ?_, by omega, fun i j hij hj => ?_, fun p hp => ?_, fun j hj hz => ?_, fun x hx => ?_⟩
  · rw [(a3 i hi).2.1, (a3 j hj).2.1] at e
    have := h1 _ _ (a3 i hi).1 (a3 j hj).1 e
    rcases Nat.lt_trichotomy i j with q | q | q
    · have := a4 i j q hj; omega
    · exact q
    · have := a4 j i q hi; omega
  · have hj3 := a3 j hj
    rw [hj3.2.1, a1 _ hj3.1]
    have := h2 _ hj3.1
    exact ⟨this.1, hnc _ hj3.2.2 this.2⟩
  · have hi3 := a3 i (by omega)
    have hj3 := a3 j hj
    rw [hj3.2.1, hi3.2.1, a1 _ hj3.1, a1 _ hi3.1]
    exact nvF_mono (h4 _ _ (hmono i j hij hj) hj3.1) hj3.2.2 hi3.2.2 (by have := (h2 _ hi3.1).2; omega)
  · have hp5 := h5 p hp
    rw [hha, a2 _ (fun j hj e => by have := (h2 j hj).2; rw [← e] at this; omega)]
    exact hp5
  · have hj3 := a3 j hj
    rw [hj3.2.1, a1 _ hj3.1] at hz
    refine h6 _ hj3.1 ?_
    unfold nvF at hz
    split at hz
    · split at hz <;> omega
    · exact hz
  · by_cases q : ∃ j, j < m.2.2.2.length ∧ x = m.2.2.2.getD j 0
    · obtain ⟨j, hj, e⟩ := q
      rw [e, a1 j hj]
      have := (h2 j hj).2
      unfold nvF
      split
      · split <;> omega
      · omega
    · rw [a2 x (fun j hj e => q ⟨j, hj, e⟩)]; exact h7 x hx
