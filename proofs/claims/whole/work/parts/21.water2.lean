/-! the class: exchange, sell, drift -/
theorem lowF_le (wh : Nat → Nat) (al : List Nat) : ∀ n, lowF wh al n ≤ n
  | 0 => Nat.le_refl 0
  | n + 1 => by unfold lowF; split
                · have := lowF_le wh al n; omega
                · exact Nat.le_refl _
theorem low_le (m : Mu) : low m ≤ m.2.2.2.length := lowF_le _ _ _
theorem exAt_lt {luck : Nat} {m : Mu} (h : m.2.2.2.length - low m ≠ 0) : exAt luck m < m.2.2.2.length := by
  have := low_le m
  have := Nat.mod_lt luck (show 0 < m.2.2.2.length - low m by omega)
  unfold exAt; omega
theorem erase_at (l : List Nat) {k j : Nat} (hk : k < l.length) : (l.eraseIdx k).getD j 0 = if j < k then l.getD j 0 else l.getD (j + 1) 0 := by
  rw [List.getD_eq_getElem?_getD, List.getElem?_eraseIdx]
  split <;> rw [List.getD_eq_getElem?_getD]
theorem erase_len (l : List Nat) {k : Nat} (hk : k < l.length) : (l.eraseIdx k).length = l.length - 1 := by
  rw [List.length_eraseIdx, if_pos hk]
theorem fdx_spec (p : Nat → Bool) : ∀ n, fdx p n ≤ n ∧ (∀ j, j < fdx p n → p j = false) ∧ (fdx p n < n → p (fdx p n) = true)
  | 0 => ⟨Nat.le_refl 0, fun j hj => absurd hj (Nat.not_lt_zero j), fun h => absurd h (Nat.lt_irrefl 0)⟩
  | n + 1 => by
    obtain ⟨h1, h2, h3⟩ := fdx_spec p n
    unfold fdx
    by_cases q : fdx p n < n
    · rw [if_pos q]; exact ⟨by omega, h2, fun _ => h3 q⟩
    · rw [if_neg q]
      have e : fdx p n = n := by omega
      rw [e] at h2
      cases hp : p n with
      | true => exact ⟨by simp, by simpa using h2, fun _ => by simpa using hp⟩
      | false =>
        refine ⟨by simp, fun j hj => ?_, fun h => by simp at h⟩
        have hj : j < n + 1 := by simpa using hj
        by_cases e2 : j = n
        · subst e2; exact hp
        · exact h2 j (by omega)
theorem fdx_one {p : Nat → Bool} {n i : Nat} (h1 : i ≤ n) (h2 : ∀ j, j < i → p j = false) (h3 : i < n → p i = true) : fdx p n = i := by
  obtain ⟨g1, g2, g3⟩ := fdx_spec p n
  rcases Nat.lt_trichotomy (fdx p n) i with q | q | q
  · have := g3 (by omega); rw [h2 _ q] at this; cases this
  · exact q
  · have := h3 (by omega); rw [g2 _ q] at this; cases this
section WX
variable {w : GX} {d : Nat} {P : PN} {g : GI}
set_option maxHeartbeats 4000000 in
theorem c_exch {a p luck : Nat} {o : Om} {m : Mu} (hW : isW a) (hB : BO o) (hw : WR g a o m) (hf : Wf o m) (hp : p < nP o.2) (hl : luck < 1000) (k : ∀ g' : GI, WR g' a o (exchM p luck m).1 → FrW g g' a → P (some (aI (bI (exchM p luck m).2))) g') : Zm w d mX8_exchange 0 [some (aR (some a)), some (aI (p : Int)), some (aI (luck : Int)), none, none, none, none, none, none] [] g P := by
  have hN := nN_le hB
  have hP8 := hB.2
  obtain ⟨hnd, hin, hlr, hsrt, hha, h0, hrg⟩ := hf
  have hlen : m.2.2.2.length ≤ 20 := by have := nR_le o.1; have := hB.1; omega
  have hal : ∀ i, i < m.2.2.2.length → m.2.2.2.getD i 0 < nN o ∧ m.1 (m.2.2.2.getD i 0) < nC o.1 := fun i hi => hin i hi
  have e4 : g a 4 = (m.2.2.2.length : Int) := hw.2.2.1
  have en : nm (m.2.2.2.length : Int) = m.2.2.2.length := nm_id (by omega) (by omega)
  have ep : nm (p : Int) = p := nm_id (by omega) (by omega)
  refine s_X8_exchange_0 hW _ _ (fun v1 e1 => ?_)
  rw [e4] at e1
  subst e1
  -- behind the first loop
  have A : Zm w d mX8_exchange 31 [some (aR (some a)), some (aI (p : Int)), some (aI (luck : Int)), some (aI (low m : Int)), none, none, none, none, none] [] g P := by
    have hlo := low_le m
    refine s_X8_exchange_31 hW _ _ _ (fun v1 e1 => ?_)
    have e1 : v1 = ((m.2.2.2.length - low m : Nat) : Int) := by rw [e1, e4]; omega
    subst e1
    have ev : nm ((m.2.2.2.length - low m : Nat) : Int) = ((m.2.2.2.length - low m : Nat) : Int) := nm_id (by omega) (by omega)
    rw [ev, ep, Int.toNat_natCast]
    by_cases hz : m.2.2.2.length - low m = 0
    · refine ⟨fun c => absurd c (by omega), fun _ => ?_⟩
      have ex : exchM p luck m = (m, false) := by unfold exchM; rw [if_pos hz]
      have := k g (by rw [ex]; exact hw) FrW.rfl
      rw [ex] at this
      exact this
    · refine ⟨fun _ => ⟨by omega, fun v4 e4' => ?_⟩, fun c => absurd c (by omega)⟩
      have hat := exAt_lt (luck := luck) hz
      have e4' : v4 = (exAt luck m : Int) := by rw [e4', iRem_nat (by omega) (by omega) (by omega)]; unfold exAt; omega
      subst e4'
      have ea : nm (exAt luck m : Int) = exAt luck m := nm_id (by omega) (by omega)
      rw [ea, Int.toNat_natCast]
      refine ⟨by omega, by omega, fun v9 e9 => ⟨by omega, by omega, fun v14 e14 => ?_⟩⟩
      rw [hw.2.2.2 _ hat] at e9
      rw [hw.2.1 p hp] at e14
      subst e9; subst e14
      have hx := hal _ hat
      have hh := hha p hp
      have ht : nm ((m.2.2.2.getD (exAt luck m) 0 : Nat) : Int) = ((m.2.2.2.getD (exAt luck m) 0 : Nat) : Int) := nm_id (by omega) (by omega)
      have hh2 : nm ((m.2.2.1 p : Nat) : Int) = ((m.2.2.1 p : Nat) : Int) := nm_id (by omega) (by omega)
      -- the shift
      suffices H : ∀ i (g3 : GI), i ≤ m.2.2.2.length - 1 - exAt luck m → (FrW g g3 a ∧ (∀ b, b ≠ a + 4 → g3 b = g b) ∧ ∀ j, j < m.2.2.2.length → g3 (a + 4) j = if exAt luck m ≤ j ∧ j < exAt luck m + i then (m.2.2.2.getD (j + 1) 0 : Int) else (m.2.2.2.getD j 0 : Int)) → Zm w d mX8_exchange 75 [some (aR (some a)), some (aI (p : Int)), none, none, none, none, some (aI ((m.2.2.2.getD (exAt luck m) 0 : Nat) : Int)), some (aI ((m.2.2.1 p : Nat) : Int)), some (aI ((exAt luck m + i : Nat) : Int))] [] g3 P by
        exact H 0 g (Nat.zero_le _) ⟨FrW.rfl, fun _ _ => rfl, fun j hj => by rw [if_neg (by omega)]; exact hw.2.2.2 j hj⟩
      refine loopN (σ := GI) (fun i g3 => Zm w d mX8_exchange 75 [some (aR (some a)), some (aI (p : Int)), none, none, none, none, some (aI ((m.2.2.2.getD (exAt luck m) 0 : Nat) : Int)), some (aI ((m.2.2.1 p : Nat) : Int)), some (aI ((exAt luck m + i : Nat) : Int))] [] g3 P) _ _ ?_ ?_
      · intro g3 ⟨r1, r2, r3⟩
        have e44 : g3 a 4 = (m.2.2.2.length : Int) := by rw [r2 a (by omega)]; exact e4
        have ei : exAt luck m + (m.2.2.2.length - 1 - exAt luck m) = m.2.2.2.length - 1 := by omega
        rw [ei] at r3 ⊢
        have i1 : nm (((m.2.2.2.length - 1 : Nat) : Int) + 1) = m.2.2.2.length := by rw [nm_id (by omega) (by omega)]; omega
        have i2 : nm ((m.2.2.2.length : Int) - 1) = ((m.2.2.2.length - 1 : Nat) : Int) := by rw [nm_id (by omega) (by omega)]; omega
        refine s_X8_exchange_75 hW _ _ _ _ ?_
        rw [e44, i1, en, i2, hh2, ht, ep, Int.toNat_natCast, Int.toNat_natCast, Int.toNat_natCast, Int.toNat_natCast]
        refine ⟨fun _ => ⟨by omega, by omega, fun g4 e4 => ⟨by omega, by omega, fun g5 e5 => ⟨by omega, by omega, fun g6 e6 => ⟨by omega, by omega, fun g7 e7 => ?_⟩⟩⟩⟩, fun c => absurd c (by omega)⟩
        have ex : exchM p luck m = ((up1 (up1 m.1 (m.2.2.1 p) 0) (m.2.2.2.getD (exAt luck m) 0) (22 + p), m.2.1, up1 m.2.2.1 p (m.2.2.2.getD (exAt luck m) 0), m.2.2.2.eraseIdx (exAt luck m) ++ [m.2.2.1 p]), true) := by unfold exchM; rw [if_neg hz]
        have := k g7
        rw [ex] at this
        subst e7; subst e6; subst e5; subst e4
        refine this ⟨fun x hx => ?_, fun q hq => ?_, ?_, fun i hi => ?_⟩ ((((r1.up ⟨by omega, by omega⟩).up ⟨by omega, by omega⟩).up ⟨by omega, by omega⟩).up ⟨by omega, by omega⟩)
        · have w1 := hw.1 x hx
          refine ⟨?_, ?_⟩
          · simp only [up2_ap, up1_ap, if_true]
            rw [if_neg (by omega)]
            by_cases q1 : x = m.2.2.2.getD (exAt luck m) 0
            · rw [if_pos q1, if_pos q1]; omega
            · rw [if_neg q1, if_neg q1]
              by_cases q2 : x = m.2.2.1 p
              · rw [if_pos q2, if_pos q2]; rfl
              · rw [if_neg q2, if_neg q2, if_neg (by omega), r2 _ (by omega)]; exact w1.1
          · simp only [up2_ap]
            rw [if_neg (by omega), if_neg (by omega), if_neg (by omega), if_neg (by omega), r2 _ (by omega)]; exact w1.2
        · simp only [up2_ap, up1_ap, if_true]
          by_cases q1 : q = p
          · rw [if_pos q1, if_pos q1]
          · rw [if_neg q1, if_neg q1, if_neg (by omega), if_neg (by omega), if_neg (by omega), r2 _ (by omega)]; exact hw.2.1 q hq
        · simp only [up2_ap]
          rw [if_neg (by omega), if_neg (by omega), if_neg (by omega), if_neg (by omega), e44]
          rw [List.length_append, erase_len _ hat]
          simp; omega
        · have hi2 : i < m.2.2.2.length := by
            have hi : i < (m.2.2.2.eraseIdx (exAt luck m) ++ [m.2.2.1 p]).length := hi
            rw [List.length_append, erase_len _ hat] at hi
            simp at hi; omega
          show _ = (((m.2.2.2.eraseIdx (exAt luck m) ++ [m.2.2.1 p]).getD i 0 : Nat) : Int)
          rw [getD_snoc, erase_len _ hat, erase_at _ hat]
          simp only [up2_ap, if_true]
          rw [if_neg (by omega), if_neg (by omega), if_neg (by omega)]
          by_cases q1 : i = m.2.2.2.length - 1
          · rw [if_pos q1, if_neg (by omega), if_pos q1]
          · rw [if_neg q1, if_pos (by omega), r3 i hi2]
            by_cases q2 : exAt luck m ≤ i
            · rw [if_pos ⟨q2, by omega⟩, if_neg (by omega)]
            · rw [if_neg (by omega), if_pos (by omega)]
      · intro i g3 hi ⟨r1, r2, r3⟩ ih
        have e44 : g3 a 4 = (m.2.2.2.length : Int) := by rw [r2 a (by omega)]; exact e4
        have i0 : nm ((exAt luck m + i : Nat) : Int) = ((exAt luck m + i : Nat) : Int) := nm_id (by omega) (by omega)
        have i1 : nm (((exAt luck m + i : Nat) : Int) + 1) = ((exAt luck m + i + 1 : Nat) : Int) := by rw [nm_id (by omega) (by omega)]; omega
        refine s_X8_exchange_75 hW _ _ _ _ ?_
        rw [e44, i1, en, i0, Int.toNat_natCast, Int.toNat_natCast]
        refine ⟨fun c => absurd c (by omega), fun _ => ⟨by omega, by omega, by omega, by omega, fun g4 e4 => ?_⟩⟩
        subst e4
        refine ih _ ⟨r1.up ⟨by omega, by omega⟩, fun b hb => by rw [up2_ne _ _ _ hb]; exact r2 b hb, fun j hj => ?_⟩
        simp only [up2_ap, if_true]
        by_cases q1 : j = exAt luck m + i
        · subst q1
          rw [if_pos rfl, if_pos ⟨by omega, by omega⟩, r3 _ (by omega), if_neg (by omega)]
        · rw [if_neg q1, r3 j hj]
          by_cases q2 : exAt luck m ≤ j ∧ j < exAt luck m + i
          · rw [if_pos q2, if_pos ⟨q2.1, by omega⟩]
          · rw [if_neg q2, if_neg (by omega)]
  -- the first loop, downwards
  suffices H : ∀ i, i ≤ m.2.2.2.length → lowF m.1 m.2.2.2 m.2.2.2.length = lowF m.1 m.2.2.2 i → Zm w d mX8_exchange 5 [some (aR (some a)), some (aI (p : Int)), some (aI (luck : Int)), some (aI (i : Int)), none, none, none, none, none] [] g P from H _ (Nat.le_refl _) rfl
  intro i
  induction i with
  | zero =>
    intro _ hz
    refine s_X8_exchange_5 hW _ _ _ ⟨fun _ => ?_, fun c => absurd c (by decide)⟩
    have : low m = 0 := hz
    rw [this] at A
    exact A
  | succ i ih =>
    intro hi hz
    have i1 : nm (((i + 1 : Nat) : Int)) = ((i + 1 : Nat) : Int) := nm_id (by omega) (by omega)
    have i2 : nm (((i + 1 : Nat) : Int) - 1) = (i : Int) := by rw [nm_id (by omega) (by omega)]; omega
    have ha := hal i (by omega)
    have i3 : nm ((m.2.2.2.getD i 0 : Nat) : Int) = ((m.2.2.2.getD i 0 : Nat) : Int) := nm_id (by omega) (by omega)
    have i4 : nm ((m.1 (m.2.2.2.getD i 0) : Nat) : Int) = ((m.1 (m.2.2.2.getD i 0) : Nat) : Int) := nm_id (by omega) (by have := hB.1; omega)
    refine s_X8_exchange_5 hW _ _ _ ?_
    rw [i1, i2, Int.toNat_natCast, hw.2.2.2 i (by omega), i3, Int.toNat_natCast, (hw.1 _ ha.1).1, i4]
    refine ⟨fun c => absurd c (by omega), fun _ => ⟨by omega, by omega, by omega, by omega, fun c => ?_, fun c => ?_⟩⟩
    · have : lowF m.1 m.2.2.2 (i + 1) = i + 1 := by unfold lowF; rw [if_neg (by omega)]
      have e : low m = i + 1 := hz.trans this
      rw [e] at A
      exact A
    · have e : ((i + 1 : Nat) : Int) + (-1) = (i : Int) := by omega
      rw [e]
      refine ih (by omega) (hz.trans ?_)
      show (if m.1 (m.2.2.2.getD i 0) = 0 then lowF m.1 m.2.2.2 i else i + 1) = _
      rw [if_pos (by omega)]
set_option maxHeartbeats 4000000 in
theorem c_sell {a c : Nat} {o : Om} {m : Mu} (hW : isW a) (hB : BO o) (hw : WR g a o m) (hf : Wf o m) (hc : c < 1000) (k : ∀ g' : GI, WR g' a o (sellM c m) → FrW g g' a → P none g') : Zm w d mX8_sell 0 [some (aR (some a)), some (aI (c : Int)), none, none] [] g P := by
  have hN := nN_le hB
  obtain ⟨hnd, hin, hlr, hsrt, hha, h0, hrg⟩ := hf
  have hlen : m.2.2.2.length ≤ 20 := by have := nR_le o.1; have := hB.1; omega
  have hal : ∀ i, i < m.2.2.2.length → m.2.2.2.getD i 0 < nN o ∧ m.1 (m.2.2.2.getD i 0) < nC o.1 := fun i hi => hin i hi
  have e4 : g a 4 = (m.2.2.2.length : Int) := hw.2.2.1
  have en : nm (m.2.2.2.length : Int) = m.2.2.2.length := nm_id (by omega) (by omega)
  have ec : nm (c : Int) = c := nm_id (by omega) (by omega)
  refine s_X8_sell_0 hW _ ?_
  -- behind the search
  have A : Zm w d mX8_sell 31 [some (aR (some a)), none, some (aI (seAt c m : Int)), none] [] g P := by
    have hs : seAt c m ≤ m.2.2.2.length := (fdx_spec _ _).1
    have es : nm (seAt c m : Int) = seAt c m := nm_id (by omega) (by omega)
    refine s_X8_sell_31 hW _ ?_
    rw [e4, en, es, Int.toNat_natCast]
    by_cases hlt : seAt c m < m.2.2.2.length
    · have ha := hal _ hlt
      have i3 : nm ((m.2.2.2.getD (seAt c m) 0 : Nat) : Int) = ((m.2.2.2.getD (seAt c m) 0 : Nat) : Int) := nm_id (by omega) (by omega)
      rw [hw.2.2.2 _ hlt, i3, Int.toNat_natCast]
      refine ⟨fun _ => ⟨by omega, by omega, by omega, by omega, fun g1 e1 g2 e2 => ?_⟩, fun q => absurd q (by omega)⟩
      have e14 : g1 a 4 = (m.2.2.2.length : Int) := by rw [e1, up2_ne _ _ _ (by omega)]; exact e4
      rw [e14] at e2
      suffices H : ∀ i (g3 : GI), i ≤ m.2.2.2.length - 1 - seAt c m → (FrW g g3 a ∧ (∀ b, b ≠ a + 4 → g3 b = g2 b) ∧ ∀ j, j < m.2.2.2.length → g3 (a + 4) j = if seAt c m ≤ j ∧ j < seAt c m + i then (m.2.2.2.getD (j + 1) 0 : Int) else (m.2.2.2.getD j 0 : Int)) → Zm w d mX8_sell 65 [some (aR (some a)), none, none, some (aI ((seAt c m + i : Nat) : Int))] [] g3 P by
        refine H 0 g2 (Nat.zero_le _) ⟨?_, fun _ _ => rfl, fun j hj => ?_⟩
        · rw [e2, e1]; exact (FrW.rfl.up ⟨by omega, by omega⟩).up ⟨by omega, by omega⟩
        · rw [if_neg (by omega), e2, up2_ne _ _ _ (by omega), e1, up2_ne _ _ _ (by omega)]; exact hw.2.2.2 j hj
      have e24 : g2 a 4 = ((m.2.2.2.length - 1 : Nat) : Int) := by rw [e2]; simp [up2_ap]; omega
      have en1 : nm ((m.2.2.2.length - 1 : Nat) : Int) = ((m.2.2.2.length - 1 : Nat) : Int) := nm_id (by omega) (by omega)
      refine loopN (σ := GI) (fun i g3 => Zm w d mX8_sell 65 [some (aR (some a)), none, none, some (aI ((seAt c m + i : Nat) : Int))] [] g3 P) _ _ ?_ ?_
      · intro g3 ⟨r1, r2, r3⟩
        have ei : seAt c m + (m.2.2.2.length - 1 - seAt c m) = m.2.2.2.length - 1 := by omega
        rw [ei] at r3 ⊢
        refine s_X8_sell_65 hW _ ?_
        rw [r2 a (by omega), e24]
        refine ⟨fun _ => k g3 ?_ r1, fun q => absurd q (by omega)⟩
        have ex : sellM c m = (up1 m.1 (m.2.2.2.getD (seAt c m) 0) 21, m.2.1, m.2.2.1, m.2.2.2.eraseIdx (seAt c m)) := by unfold sellM; rw [if_pos hlt]
        rw [ex]
        refine ⟨fun x hx => ?_, fun q hq => ?_, ?_, fun i hi => ?_⟩
        · have w1 := hw.1 x hx
          rw [r2 _ (by omega), r2 _ (by omega), e2, up2_ne _ _ _ (by omega), up2_ne _ _ _ (by omega), e1]
          refine ⟨?_, ?_⟩
          · simp only [up2_ap, up1_ap, if_true]
            by_cases q1 : x = m.2.2.2.getD (seAt c m) 0
            · rw [if_pos q1, if_pos q1]; rfl
            · rw [if_neg q1, if_neg q1]; exact w1.1
          · rw [up2_ne _ _ _ (by omega)]; exact w1.2
        · rw [r2 _ (by omega), e2, up2_ne _ _ _ (by omega), e1, up2_ne _ _ _ (by omega)]; exact hw.2.1 q hq
        · rw [r2 _ (by omega), e24, erase_len _ hlt]
        · have hi2 : i < m.2.2.2.length - 1 := by
            have hi : i < (m.2.2.2.eraseIdx (seAt c m)).length := hi
            rwa [erase_len _ hlt] at hi
          show _ = (((m.2.2.2.eraseIdx (seAt c m)).getD i 0 : Nat) : Int)
          rw [erase_at _ hlt, r3 i (by omega)]
          by_cases q2 : seAt c m ≤ i
          · rw [if_pos ⟨q2, by omega⟩, if_neg (by omega)]
          · rw [if_neg (by omega), if_pos (by omega)]
      · intro i g3 hi ⟨r1, r2, r3⟩ ih
        have i0 : nm ((seAt c m + i : Nat) : Int) = ((seAt c m + i : Nat) : Int) := nm_id (by omega) (by omega)
        have i1 : nm (((seAt c m + i : Nat) : Int) + 1) = ((seAt c m + i + 1 : Nat) : Int) := by rw [nm_id (by omega) (by omega)]; omega
        refine s_X8_sell_65 hW _ ?_
        rw [r2 a (by omega), e24, i1, en1, i0, Int.toNat_natCast, Int.toNat_natCast]
        refine ⟨fun q => absurd q (by omega), fun _ => ⟨by omega, by omega, by omega, by omega, fun g4 e4 => ?_⟩⟩
        subst e4
        refine ih _ ⟨r1.up ⟨by omega, by omega⟩, fun b hb => by rw [up2_ne _ _ _ hb]; exact r2 b hb, fun j hj => ?_⟩
        simp only [up2_ap, if_true]
        by_cases q1 : j = seAt c m + i
        · subst q1
          rw [if_pos rfl, if_pos ⟨by omega, by omega⟩, r3 _ (by omega), if_neg (by omega)]
        · rw [if_neg q1, r3 j hj]
          by_cases q2 : seAt c m ≤ j ∧ j < seAt c m + i
          · rw [if_pos q2, if_pos ⟨q2.1, by omega⟩]
          · rw [if_neg q2, if_neg (by omega)]
    · refine ⟨fun q => absurd q (by omega), fun _ => k g ?_ FrW.rfl⟩
      have ex : sellM c m = m := by unfold sellM; rw [if_neg hlt]
      rw [ex]; exact hw
  refine loopN (σ := Unit) (fun i _ => Zm w d mX8_sell 2 [some (aR (some a)), some (aI (c : Int)), some (aI (i : Int)), none] [] g P) (fun i _ => ∀ j, j < i → ¬ m.1 (m.2.2.2.getD j 0) = c) m.2.2.2.length ?_ ?_ 0 () (Nat.zero_le _) (fun j hj => absurd hj (Nat.not_lt_zero j))
  · intro _ hI
    have e : seAt c m = m.2.2.2.length := fdx_one (Nat.le_refl _) (fun j hj => decide_eq_false (hI j hj)) (fun q => absurd q (Nat.lt_irrefl _))
    rw [e] at A
    refine s_X8_sell_2 hW _ _ ?_
    rw [e4, en]
    exact ⟨fun _ => A, fun q => absurd q (by omega)⟩
  · intro i _ hi hI ih
    have i0 : nm (i : Int) = i := nm_id (by omega) (by omega)
    have ha := hal i hi
    have i3 : nm ((m.2.2.2.getD i 0 : Nat) : Int) = ((m.2.2.2.getD i 0 : Nat) : Int) := nm_id (by omega) (by omega)
    have i4 : nm ((m.1 (m.2.2.2.getD i 0) : Nat) : Int) = ((m.1 (m.2.2.2.getD i 0) : Nat) : Int) := nm_id (by omega) (by have := hB.1; omega)
    refine s_X8_sell_2 hW _ _ ?_
    rw [e4, en, i0, Int.toNat_natCast, hw.2.2.2 i hi, i3, Int.toNat_natCast, (hw.1 _ ha.1).1, i4, ec]
    refine ⟨fun q => absurd q (by omega), fun _ => ⟨by omega, by omega, by omega, by omega, fun q => ?_, fun q => ?_⟩⟩
    · have e : seAt c m = i := fdx_one (Nat.le_of_lt hi) (fun j hj => decide_eq_false (hI j hj)) (fun _ => decide_eq_true (by omega))
      rw [e] at A
      exact A
    · refine ih () (fun j hj => ?_)
      by_cases e : j = i
      · subst e; omega
      · exact hI j (by omega)
end WX
