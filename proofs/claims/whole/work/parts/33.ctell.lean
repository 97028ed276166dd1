/-! the class: what is told -/
theorem LG.sno {g g' : GI} {a : Nat} {l : Log2} {x y : Int} (h : LG g a l) (e : g' a 3 = (l.length : Int) + 1) (e1 : ∀ j, g' (a + 1) j = if j = l.length then x else g (a + 1) j) (e2 : ∀ j, g' (a + 2) j = if j = l.length then y else g (a + 2) j) : LG g' a (l ++ [(x, y)]) := by
  refine ⟨by rw [e, sno_len]; omega, fun k hk => ?_⟩
  rw [sno_len] at hk
  rw [e1, e2, sno_at]
  by_cases q : k < l.length
  · have hk' : ¬ k = l.length := by omega
    simp only [if_neg hk', if_pos q]; exact h.2 k q
  · have hk' : k = l.length := by omega
    simp [hk']
theorem LG.pre {g g' : GI} {a n : Nat} {l : Log2} (h : LG g a l) (hn : n ≤ l.length) (e : g' a 3 = (n : Int)) (e1 : g' (a + 1) = g (a + 1)) (e2 : g' (a + 2) = g (a + 2)) : LG g' a (pre (0, 0) n l) := by
  refine ⟨by rw [e, pre_len], fun k hk => ?_⟩
  rw [pre_len] at hk
  rw [e1, e2, pre_at _ _ hk]; exact h.2 k (by omega)
theorem TR.sno {g g' : GI} {a : Nat} {t : List Int} {x : Int} (h : TR g a t) (e : g' a 1 = (t.length : Int) + 1) (e1 : ∀ j, g' (a + 1) j = if j = t.length then x else g (a + 1) j) : TR g' a (t ++ [x]) := by
  refine ⟨by rw [e, sno_len]; omega, fun k hk => ?_⟩
  rw [sno_len] at hk
  unfold by_
  rw [e1, sno_at]
  by_cases q : k < t.length
  · rw [if_neg (by omega), if_pos q]; exact h.2 k q
  · rw [if_pos (by omega), if_neg q, if_pos (by omega)]
theorem TR.pre {g g' : GI} {a n : Nat} {t : List Int} (h : TR g a t) (hn : n ≤ t.length) (e : g' a 1 = (n : Int)) (e1 : g' (a + 1) = g (a + 1)) : TR g' a (pre 0 n t) := by
  refine ⟨by rw [e, pre_len], fun k hk => ?_⟩
  rw [pre_len] at hk
  unfold by_
  rw [e1, pre_at _ _ hk]; exact h.2 k (by omega)
theorem TR.nil {g : GI} {a : Nat} (e : g a 1 = 0) : TR g a [] := ⟨e, fun k hk => absurd hk (Nat.not_lt_zero k)⟩
theorem LF.sno {g g' : GI} {l : List Int} {x : Int} (h : LF g l) (e : g' 10 3 = (l.length : Int) + 1) (e1 : ∀ j, g' 11 j = if j = l.length then x else g 11 j) : LF g' (l ++ [x]) := by
  refine ⟨by rw [e, sno_len]; omega, fun k hk => ?_⟩
  rw [sno_len] at hk
  rw [e1, sno_at]
  by_cases q : k < l.length
  · rw [if_neg (by omega), if_pos q]; exact h.2 k q
  · rw [if_pos (by omega), if_neg q, if_pos (by omega)]
theorem LF.pre {g g' : GI} {n : Nat} {l : List Int} (h : LF g l) (hn : n ≤ l.length) (e : g' 10 3 = (n : Int)) (e1 : g' 11 = g 11) : LF g' (pre 0 n l) := by
  refine ⟨by rw [e, pre_len], fun k hk => ?_⟩
  rw [pre_len] at hk
  rw [e1, pre_at _ _ hk]; exact h.2 k (by omega)
/-- all but some of what was told stays; what is kept is stale -/
theorem IC.stale {g : GI} {T : TT} (h : IC g T) : IC (up2 g 0 12 1) T := by
  obtain ⟨⟨a1, a2, a3, a4, a5, a6⟩, -, c1, c2, c3⟩ := h
  have f : ∀ b, b ≠ 0 → up2 g 0 12 1 b = g b := fun b hb => up2_ne _ _ _ hb
  refine ⟨⟨a1.same (f _ (by omega)) (f _ (by omega)), a2.same (f _ (by omega)) (f _ (by omega)), a3.same (f _ (by omega)) (f _ (by omega)) (f _ (by omega)), a4.same (f _ (by omega)) (f _ (by omega)) (f _ (by omega)), a5.same (f _ (by omega)) (f _ (by omega)), a6.same (fun b _ _ => f b (by omega))⟩, Or.inl (by simp [up2_ap]), by rw [f _ (by omega)]; exact c1, by simp [up2_ap, c2], c3.same (fun b _ _ => f b (by omega))⟩
section CT
variable {w : GX} {d : Nat} {P : PN} {g : GI} {T : TT}
theorem c_add {x0 n cap : Nat} {x1 x2 x3 : Int} (hL : isLo x0) (hn : g x0 3 = (n : Int)) (hc : (kd0 (x0 + 1)).2 = cap) (hcap : cap < 1000) (hnc : n ≤ cap)
    (k1 : n < cap → ∀ g' : GI, (∀ b, b < x0 ∨ x0 + 3 < b → g' b = g b) → g' x0 3 = (n : Int) + 1 → (∀ j, g' (x0 + 1) j = if j = n then x1 else g (x0 + 1) j) → (∀ j, g' (x0 + 2) j = if j = n then x2 else g (x0 + 2) j) → (∀ j, g' (x0 + 3) j = if j = n then x3 else g (x0 + 3) j) → P (some (aI ((n : Int) + 1))) g')
    (k2 : ¬ n < cap → P (some (aI (-4))) g) : Zm w d mX4_add 0 [some (aR (some x0)), some (aI x1), some (aI x2), some (aI x3)] [] g P := by
  have en : nm (n : Int) = n := nm_id (by omega) (by omega)
  have ec : nm ((cap : Nat) : Int) = cap := nm_id (by omega) (by omega)
  have hc2 : (kd0 (x0 + 2)).2 = cap := by rw [← hc]; exact hL.2.2.2.2.2.2.2.1
  have hc3 : (kd0 (x0 + 3)).2 = cap := by rw [← hc]; exact hL.2.2.2.2.2.2.2.2
  refine s_X4_add_0 hL _ _ _ ?_
  rw [hn, hc, hc2, hc3, en, ec, Int.toNat_natCast]
  refine ⟨fun q => ⟨by omega, by omega, fun g1 e1 => ?_⟩, fun q => k2 (by omega)⟩
  have h1 : g1 x0 3 = (n : Int) := by rw [e1, up2_ne _ _ _ (by omega)]; exact hn
  rw [h1, en, Int.toNat_natCast]
  refine ⟨by omega, by omega, fun g2 e2 => ?_⟩
  have h2 : g2 x0 3 = (n : Int) := by rw [e2, up2_ne _ _ _ (by omega)]; exact h1
  rw [h2, en, Int.toNat_natCast]
  refine ⟨by omega, by omega, fun g3 e3 g4 e4 => ?_⟩
  have h3 : g3 x0 3 = (n : Int) := by rw [e3, up2_ne _ _ _ (by omega)]; exact h2
  rw [h3] at e4
  have h4 : g4 x0 3 = (n : Int) + 1 := by rw [e4]; simp [up2_ap]
  rw [h4]
  refine k1 (by omega) g4 (fun b hb => ?_) h4 (fun j => ?_) (fun j => ?_) (fun j => ?_)
  · rw [e4, up2_ne _ _ _ (by omega), e3, up2_ne _ _ _ (by omega), e2, up2_ne _ _ _ (by omega), e1, up2_ne _ _ _ (by omega)]
  · rw [e4, up2_ne _ _ _ (by omega), e3, up2_ne _ _ _ (by omega), e2, up2_ne _ _ _ (by omega), e1]; simp only [up2_ap, if_true]
  · rw [e4, up2_ne _ _ _ (by omega), e3, up2_ne _ _ _ (by omega), e2]; simp only [up2_ap, if_true]; rw [e1, up2_ne _ _ _ (by omega)]
  · rw [e4, up2_ne _ _ _ (by omega), e3]; simp only [up2_ap, if_true]; rw [e2, up2_ne _ _ _ (by omega), e1, up2_ne _ _ _ (by omega)]
theorem c_drop4 {x0 n : Nat} (hL : isLo x0) (hn : g x0 3 = (n : Int)) (hnc : n < 1000)
    (k1 : n ≠ 0 → P (some (aI ((n : Int) - 1))) (up2 g x0 3 ((n : Int) - 1))) (k2 : n = 0 → P (some (aI (-3))) g) : Zm w d mX4_dropLast 0 [some (aR (some x0))] [] g P := by
  have en : nm (n : Int) = n := nm_id (by omega) (by omega)
  refine s_X4_dropLast_0 hL ?_
  rw [hn, en]
  refine ⟨fun q g1 e1 => ?_, fun q => k2 (by omega)⟩
  subst e1
  have := k1 (by omega)
  rw [show up2 g x0 3 ((n : Int) - 1) x0 3 = (n : Int) - 1 by simp [up2_ap]]
  exact this
theorem c_drop7 {x0 n : Nat} (hL : isT x0) (hn : g x0 1 = (n : Int)) (hnc : n < 1000)
    (k1 : n ≠ 0 → P (some (aI ((n : Int) - 1))) (up2 g x0 1 ((n : Int) - 1))) (k2 : n = 0 → P (some (aI (-3))) g) : Zm w d mX7_dropLast 0 [some (aR (some x0))] [] g P := by
  have en : nm (n : Int) = n := nm_id (by omega) (by omega)
  refine s_X7_dropLast_0 hL ?_
  rw [hn, en]
  refine ⟨fun q g1 e1 => ?_, fun q => k2 (by omega)⟩
  subst e1
  have := k1 (by omega)
  rw [show up2 g x0 1 ((n : Int) - 1) x0 1 = (n : Int) - 1 by simp [up2_ap]]
  exact this
theorem c_put7 {x0 n cap : Nat} {x1 : Int} (hL : isT x0) (hn : g x0 1 = (n : Int)) (hc : (kd0 (x0 + 1)).2 = cap) (hcap : cap < 1000) (hnc : n ≤ cap)
    (k1 : n < cap → P (some (aI ((n : Int) + 1))) (up2 (up2 g (x0 + 1) n x1) x0 1 ((n : Int) + 1))) (k2 : ¬ n < cap → P (some (aI (-4))) g) : Zm w d mX7_put 0 [some (aR (some x0)), some (aI x1)] [] g P := by
  have en : nm (n : Int) = n := nm_id (by omega) (by omega)
  have ec : nm ((cap : Nat) : Int) = cap := nm_id (by omega) (by omega)
  refine s_X7_put_0 hL _ ?_
  rw [hn, hc, en, ec, Int.toNat_natCast]
  refine ⟨fun q => ⟨by omega, by omega, fun g1 e1 g2 e2 => ?_⟩, fun q => k2 (by omega)⟩
  have h1 : g1 x0 1 = (n : Int) := by rw [e1, up2_ne _ _ _ (by omega)]; exact hn
  rw [h1] at e2
  subst e1; subst e2
  rw [show up2 (up2 g (x0 + 1) n x1) x0 1 ((n : Int) + 1) x0 1 = (n : Int) + 1 by simp [up2_ap]]
  exact k1 (by omega)
theorem k_type {x1 x2 : Int} (hT : GT T) (h : IC g T) (e1 : nm x1 = x1) (e2 : nm x2 = x2) (k : ∀ g', IC g' (opType T x1 x2).1 → FrL g g' → P (some (aI (opType T x1 x2).2)) g') : Zm w (d + 1) mX10_type 0 [some (aR (some 0)), some (aI x1), some (aI x2)] [] g P := by
  have n2 : nm 2 = 2 := by decide
  have n256 : nm 256 = 256 := by decide
  refine s_X10_type_0 _ _ ?_
  rw [wi_x e1 n2, wi_x e2 n256, e1]
  refine ⟨fun q => ?_, fun q1 => ⟨fun q2 g1 eg => ⟨(nn q1).1, (nn q1).2, ?_⟩, fun q => ?_⟩⟩
  · have e : opType T x1 x2 = (T, -2) := by unfold opType; rw [if_neg (fun z => q z.1)]
    rw [e] at k; exact k g h FrL.rfl
  · have hst := h.stale
    rw [← eg] at hst
    have fr1 : FrL g g1 := fun b hb => by rw [eg, up2_ne _ _ _ (by omega)]
    obtain ⟨⟨a1, a2, a3, a4, a5, a6⟩, b1, c1, c2, c3⟩ := id hst
    have q1 := nn q1
    have q2 := nn q2
    by_cases q0 : x1 = 0
    · rw [show 216 + 2 * x1.toNat = 216 by omega]
      refine c_put7 isT_216 a1.1 (by decide +kernel : (kd0 (216 + 1)).2 = 20) (by omega) hT.1.1 (fun ql => ⟨_, rfl, ?_⟩) (fun ql => ⟨_, rfl, ?_⟩)
      · have e : opType T x1 x2 = (sT T ((T.1.1.1 ++ [x2], T.1.1.2), T.1.2), (T.1.1.1.length : Int) + 1) := by unfold opType; rw [if_pos ⟨q1, q2⟩, if_pos q0, if_pos ql]
        rw [e] at k
        have f : ∀ b, b ≠ 216 → b ≠ 217 → up2 (up2 g1 (216 + 1) T.1.1.1.length x2) 216 1 ((T.1.1.1.length : Int) + 1) b = g1 b := fun b z1 z2 => by rw [up2_ne _ _ _ z1, up2_ne _ _ _ z2]
        refine k _ ⟨⟨a1.sno (by simp [up2_ap]) (fun j => by rw [up2_ne _ _ _ (by omega)]; simp [up2_ap]), a2.same (f _ (by omega) (by omega)) (f _ (by omega) (by omega)), a3.same (f _ (by omega) (by omega)) (f _ (by omega) (by omega)) (f _ (by omega) (by omega)), a4.same (f _ (by omega) (by omega)) (f _ (by omega) (by omega)) (f _ (by omega) (by omega)), a5.same (f _ (by omega) (by omega)) (f _ (by omega) (by omega)), a6.same (fun b _ _ => f b (by omega) (by omega))⟩, Or.inl ?_, by rw [f _ (by omega) (by omega)]; exact c1, by rw [f _ (by omega) (by omega)]; exact c2, c3.same (fun b _ _ => f b (by omega) (by omega))⟩ (fun b hb => by rw [f b (by omega) (by omega)]; exact fr1 b hb)
        rw [f _ (by omega) (by omega), eg]; simp [up2_ap]
      · have e : opType T x1 x2 = (T, -4) := by unfold opType; rw [if_pos ⟨q1, q2⟩, if_pos q0, if_neg ql]
        rw [e] at k; exact k _ hst fr1
    · rw [show 216 + 2 * x1.toNat = 218 by omega]
      refine c_put7 isT_218 a2.1 (by decide +kernel : (kd0 (218 + 1)).2 = 47) (by omega) hT.1.2.2.1 (fun ql => ⟨_, rfl, ?_⟩) (fun ql => ⟨_, rfl, ?_⟩)
      · have e : opType T x1 x2 = (sT T ((T.1.1.1, T.1.1.2 ++ [x2]), T.1.2), (T.1.1.2.length : Int) + 1) := by unfold opType; rw [if_pos ⟨q1, q2⟩, if_neg q0, if_pos ql]
        rw [e] at k
        have f : ∀ b, b ≠ 218 → b ≠ 219 → up2 (up2 g1 (218 + 1) T.1.1.2.length x2) 218 1 ((T.1.1.2.length : Int) + 1) b = g1 b := fun b z1 z2 => by rw [up2_ne _ _ _ z1, up2_ne _ _ _ z2]
        refine k _ ⟨⟨a1.same (f _ (by omega) (by omega)) (f _ (by omega) (by omega)), a2.sno (by simp [up2_ap]) (fun j => by rw [up2_ne _ _ _ (by omega)]; simp [up2_ap]), a3.same (f _ (by omega) (by omega)) (f _ (by omega) (by omega)) (f _ (by omega) (by omega)), a4.same (f _ (by omega) (by omega)) (f _ (by omega) (by omega)) (f _ (by omega) (by omega)), a5.same (f _ (by omega) (by omega)) (f _ (by omega) (by omega)), a6.same (fun b _ _ => f b (by omega) (by omega))⟩, Or.inl ?_, by rw [f _ (by omega) (by omega)]; exact c1, by rw [f _ (by omega) (by omega)]; exact c2, c3.same (fun b _ _ => f b (by omega) (by omega))⟩ (fun b hb => by rw [f b (by omega) (by omega)]; exact fr1 b hb)
        rw [f _ (by omega) (by omega), eg]; simp [up2_ap]
      · have e : opType T x1 x2 = (T, -4) := by unfold opType; rw [if_pos ⟨q1, q2⟩, if_neg q0, if_neg ql]
        rw [e] at k; exact k _ hst fr1
  · have e : opType T x1 x2 = (T, -2) := by unfold opType; rw [if_neg (fun z => q z.2)]
    rw [e] at k; exact k g h FrL.rfl
theorem k_wipe {x1 : Int} (h : IC g T) (e1 : nm x1 = x1) (k : ∀ g', IC g' (opWipe T x1).1 → FrL g g' → P (some (aI (opWipe T x1).2)) g') : Zm w (d + 1) mX10_wipe 0 [some (aR (some 0)), some (aI x1), none] [] g P := by
  have n2 : nm 2 = 2 := by decide
  refine s_X10_wipe_0 _ ?_
  rw [wi_x e1 n2, e1]
  refine ⟨fun q1 g1 eg => ⟨(nn q1).1, (nn q1).2, fun v6 e6 g2 eg2 => ?_⟩, fun q => ?_⟩
  · have hst := h.stale
    rw [← eg] at hst
    have fr1 : FrL g g1 := fun b hb => by rw [eg, up2_ne _ _ _ (by omega)]
    obtain ⟨⟨a1, a2, a3, a4, a5, a6⟩, b1, c1, c2, c3⟩ := id hst
    have q1 := nn q1
    by_cases q0 : x1 = 0
    · rw [show 216 + 2 * x1.toNat = 216 by omega] at e6 eg2
      have e : opWipe T x1 = (sT T (([], T.1.1.2), T.1.2), (T.1.1.1.length : Int)) := by unfold opWipe; rw [if_pos q1, if_pos q0]
      rw [e] at k
      rw [e6, a1.1]
      have f : ∀ b, b ≠ 216 → g2 b = g1 b := fun b z1 => by rw [eg2, up2_ne _ _ _ z1]
      refine k g2 ⟨⟨TR.nil (by rw [eg2]; simp [up2_ap]), a2.same (f _ (by omega)) (f _ (by omega)), a3.same (f _ (by omega)) (f _ (by omega)) (f _ (by omega)), a4.same (f _ (by omega)) (f _ (by omega)) (f _ (by omega)), a5.same (f _ (by omega)) (f _ (by omega)), a6.same (fun b _ _ => f b (by omega))⟩, Or.inl ?_, by rw [f _ (by omega)]; exact c1, by rw [f _ (by omega)]; exact c2, c3.same (fun b _ _ => f b (by omega))⟩ (fun b hb => by rw [f b (by omega)]; exact fr1 b hb)
      rw [f _ (by omega), eg]; simp [up2_ap]
    · rw [show 216 + 2 * x1.toNat = 218 by omega] at e6 eg2
      have e : opWipe T x1 = (sT T ((T.1.1.1, []), T.1.2), (T.1.1.2.length : Int)) := by unfold opWipe; rw [if_pos q1, if_neg q0]
      rw [e] at k
      rw [e6, a2.1]
      have f : ∀ b, b ≠ 218 → g2 b = g1 b := fun b z1 => by rw [eg2, up2_ne _ _ _ z1]
      refine k g2 ⟨⟨a1.same (f _ (by omega)) (f _ (by omega)), TR.nil (by rw [eg2]; simp [up2_ap]), a3.same (f _ (by omega)) (f _ (by omega)) (f _ (by omega)), a4.same (f _ (by omega)) (f _ (by omega)) (f _ (by omega)), a5.same (f _ (by omega)) (f _ (by omega)), a6.same (fun b _ _ => f b (by omega))⟩, Or.inl ?_, by rw [f _ (by omega)]; exact c1, by rw [f _ (by omega)]; exact c2, c3.same (fun b _ _ => f b (by omega))⟩ (fun b hb => by rw [f b (by omega)]; exact fr1 b hb)
      rw [f _ (by omega), eg]; simp [up2_ap]
  · have e : opWipe T x1 = (T, -2) := by unfold opWipe; rw [if_neg q]
    rw [e] at k; exact k g h FrL.rfl
theorem k_undo {x1 : Int} (hT : GT T) (h : IC g T) (e1 : nm x1 = x1) (k : ∀ g', IC g' (opUndo T x1).1 → FrL g g' → P (some (aI (opUndo T x1).2)) g') : Zm w (d + 1) mX10_undo 0 [some (aR (some 0)), some (aI x1)] [] g P := by
  have n2 : nm 2 = 2 := by decide
  refine s_X10_undo_0 _ ?_
  rw [wi_x e1 n2, e1]
  refine ⟨fun q1 g1 eg => ⟨(nn q1).1, (nn q1).2, ?_⟩, fun q => ?_⟩
  · have hst := h.stale
    rw [← eg] at hst
    have fr1 : FrL g g1 := fun b hb => by rw [eg, up2_ne _ _ _ (by omega)]
    obtain ⟨⟨a1, a2, a3, a4, a5, a6⟩, b1, c1, c2, c3⟩ := id hst
    have q1 := nn q1
    have l0 := hT.1.1
    have l1 := hT.1.2.2.1
    by_cases q0 : x1 = 0
    · rw [show 216 + 2 * x1.toNat = 216 by omega]
      refine c_drop7 isT_216 a1.1 (by omega) (fun ql => ⟨_, rfl, ?_⟩) (fun ql => ⟨_, rfl, ?_⟩)
      · have e : opUndo T x1 = (sT T ((pre 0 (T.1.1.1.length - 1) T.1.1.1, T.1.1.2), T.1.2), (T.1.1.1.length : Int) - 1) := by unfold opUndo; rw [if_pos q1, if_pos q0, if_neg ql]
        rw [e] at k
        have f : ∀ b, b ≠ 216 → up2 g1 216 1 ((T.1.1.1.length : Int) - 1) b = g1 b := fun b z1 => by rw [up2_ne _ _ _ z1]
        refine k _ ⟨⟨a1.pre (by omega) (by simp [up2_ap]; omega) (f _ (by omega)), a2.same (f _ (by omega)) (f _ (by omega)), a3.same (f _ (by omega)) (f _ (by omega)) (f _ (by omega)), a4.same (f _ (by omega)) (f _ (by omega)) (f _ (by omega)), a5.same (f _ (by omega)) (f _ (by omega)), a6.same (fun b _ _ => f b (by omega))⟩, Or.inl ?_, by rw [f _ (by omega)]; exact c1, by rw [f _ (by omega)]; exact c2, c3.same (fun b _ _ => f b (by omega))⟩ (fun b hb => by rw [f b (by omega)]; exact fr1 b hb)
        rw [f _ (by omega), eg]; simp [up2_ap]
      · have e : opUndo T x1 = (T, -3) := by unfold opUndo; rw [if_pos q1, if_pos q0, if_pos ql]
        rw [e] at k; exact k _ hst fr1
    · rw [show 216 + 2 * x1.toNat = 218 by omega]
      refine c_drop7 isT_218 a2.1 (by omega) (fun ql => ⟨_, rfl, ?_⟩) (fun ql => ⟨_, rfl, ?_⟩)
      · have e : opUndo T x1 = (sT T ((T.1.1.1, pre 0 (T.1.1.2.length - 1) T.1.1.2), T.1.2), (T.1.1.2.length : Int) - 1) := by unfold opUndo; rw [if_pos q1, if_neg q0, if_neg ql]
        rw [e] at k
        have f : ∀ b, b ≠ 218 → up2 g1 218 1 ((T.1.1.2.length : Int) - 1) b = g1 b := fun b z1 => by rw [up2_ne _ _ _ z1]
        refine k _ ⟨⟨a1.same (f _ (by omega)) (f _ (by omega)), a2.pre (by omega) (by simp [up2_ap]; omega) (f _ (by omega)), a3.same (f _ (by omega)) (f _ (by omega)) (f _ (by omega)), a4.same (f _ (by omega)) (f _ (by omega)) (f _ (by omega)), a5.same (f _ (by omega)) (f _ (by omega)), a6.same (fun b _ _ => f b (by omega))⟩, Or.inl ?_, by rw [f _ (by omega)]; exact c1, by rw [f _ (by omega)]; exact c2, c3.same (fun b _ _ => f b (by omega))⟩ (fun b hb => by rw [f b (by omega)]; exact fr1 b hb)
        rw [f _ (by omega), eg]; simp [up2_ap]
      · have e : opUndo T x1 = (T, -3) := by unfold opUndo; rw [if_pos q1, if_neg q0, if_pos ql]
        rw [e] at k; exact k _ hst fr1
  · have e : opUndo T x1 = (T, -2) := by unfold opUndo; rw [if_neg q]
    rw [e] at k; exact k g h FrL.rfl
theorem k_wear {x1 : Int} (h : IC g T) (e1 : nm x1 = x1) (k : ∀ g', IC g' (opWear T x1).1 → FrL g g' → P (some (aI (opWear T x1).2)) g') : Zm w d mX10_wear 0 [some (aR (some 0)), some (aI x1), none] [] g P := by
  have n1 : nm 1 = 1 := by decide
  have n20 : nm 20 = 20 := by decide
  refine s_X10_wear_0 _ ?_
  rw [e1, n1, n20]
  refine ⟨fun q => ?_, fun q => ⟨fun q2 v3 e3 g1 eg => ?_, fun q2 => ?_⟩⟩
  · have e : opWear T x1 = (T, -2) := by unfold opWear; rw [if_neg (by omega)]
    rw [e] at k; exact k g h FrL.rfl
  · obtain ⟨⟨a1, a2, a3, a4, a5, a6⟩, b1, c1, c2, c3⟩ := id h
    have e : opWear T x1 = ((T.1, x1, T.2.2), T.2.1) := by unfold opWear; rw [if_pos (by omega)]
    rw [e] at k
    rw [e3, c1]
    have f : ∀ b, b ≠ 18 → g1 b = g b := fun b z1 => by rw [eg, up2_ne _ _ _ z1]
    exact k g1 ⟨⟨a1.same (f _ (by omega)) (f _ (by omega)), a2.same (f _ (by omega)) (f _ (by omega)), a3.same (f _ (by omega)) (f _ (by omega)) (f _ (by omega)), a4.same (f _ (by omega)) (f _ (by omega)) (f _ (by omega)), a5.same (f _ (by omega)) (f _ (by omega)), a6.same (fun b _ _ => f b (by omega))⟩, b1.same (fun b _ _ => f b (by omega)) (fun j hj => by rw [eg]; simp [up2_ap, hj]) (by rw [f _ (by omega)]), by rw [eg]; simp [up2_ap], by rw [f _ (by omega)]; exact c2, c3.same (fun b _ _ => f b (by omega))⟩ (fun b hb => f b (by omega))
  · have e : opWear T x1 = (T, -2) := by unfold opWear; rw [if_neg (by omega)]
    rw [e] at k; exact k g h FrL.rfl
theorem k_cross {x1 x2 : Int} (hT : GT T) (h : IC g T) (e1 : nm x1 = x1) (e2 : nm x2 = x2) (k : ∀ g', IC g' (opCross T x1 x2).1 → FrL g g' → P (some (aI (opCross T x1 x2).2)) g') : Zm w (d + 1) mX10_cross 0 [some (aR (some 0)), some (aI x1), some (aI x2)] [] g P := by
  have n20 : nm 20 = 20 := by decide
  have n8 : nm 8 = 8 := by decide
  refine s_X10_cross_0 _ _ ?_
  rw [wi_x e1 n20, wi_x e2 n8]
  refine ⟨fun q => ?_, fun q1 => ⟨fun q2 g1 eg => ?_, fun q => ?_⟩⟩
  · have e : opCross T x1 x2 = (T, -2) := by unfold opCross; rw [if_neg (fun z => q z.1)]
    rw [e] at k; exact k g h FrL.rfl
  · have hst := h.stale
    rw [← eg] at hst
    have fr1 : FrL g g1 := fun b hb => by rw [eg, up2_ne _ _ _ (by omega)]
    obtain ⟨⟨a1, a2, a3, a4, a5, a6⟩, b1, c1, c2, c3⟩ := id hst
    refine c_add isLo_2 a3.1 (by decide +kernel : (kd0 (2 + 1)).2 = 16) (by omega) hT.1.2.2.2.2.1.1 (fun ql g2 f w1 w2 w3 _ => ⟨_, rfl, ?_⟩) (fun ql => ⟨_, rfl, ?_⟩)
    · have e : opCross T x1 x2 = (sT T (T.1.1, T.1.2.1 ++ [(x1, x2)], T.1.2.2), (T.1.2.1.length : Int) + 1) := by unfold opCross; rw [if_pos ⟨nn q1, nn q2⟩, if_pos ql]
      rw [e] at k
      refine k _ ⟨⟨a1.same (f _ (by omega)) (f _ (by omega)), a2.same (f _ (by omega)) (f _ (by omega)), a3.sno w1 w2 w3, a4.same (f _ (by omega)) (f _ (by omega)) (f _ (by omega)), a5.same (f _ (by omega)) (f _ (by omega)), a6.same (fun b _ _ => f b (by omega))⟩, Or.inl ?_, by rw [f _ (by omega)]; exact c1, by rw [f _ (by omega)]; exact c2, c3.same (fun b _ _ => f b (by omega))⟩ (fun b hb => by rw [f b (by omega)]; exact fr1 b hb)
      rw [f _ (by omega), eg]; simp [up2_ap]
    · have e : opCross T x1 x2 = (T, -4) := by unfold opCross; rw [if_pos ⟨nn q1, nn q2⟩, if_neg ql]
      rw [e] at k; exact k _ hst fr1
  · have e : opCross T x1 x2 = (T, -2) := by unfold opCross; rw [if_neg (fun z => q z.2)]
    rw [e] at k; exact k g h FrL.rfl
theorem k_angle {x1 x2 : Int} (hT : GT T) (h : IC g T) (e1 : nm x1 = x1) (e2 : nm x2 = x2) (k : ∀ g', IC g' (opAngle T x1 x2).1 → FrL g g' → P (some (aI (opAngle T x1 x2).2)) g') : Zm w (d + 1) mX10_angle 0 [some (aR (some 0)), some (aI x1), some (aI x2)] [] g P := by
  have n20 : nm 20 = 20 := by decide
  refine s_X10_angle_0 _ _ ?_
  rw [wi_x e1 n20, wi_x e2 n20]
  refine ⟨fun q => ?_, fun q1 => ⟨fun q2 g1 eg => ?_, fun q => ?_⟩⟩
  · have e : opAngle T x1 x2 = (T, -2) := by unfold opAngle; rw [if_neg (fun z => q z.1)]
    rw [e] at k; exact k g h FrL.rfl
  · have hst := h.stale
    rw [← eg] at hst
    have fr1 : FrL g g1 := fun b hb => by rw [eg, up2_ne _ _ _ (by omega)]
    obtain ⟨⟨a1, a2, a3, a4, a5, a6⟩, b1, c1, c2, c3⟩ := id hst
    refine c_add isLo_6 a4.1 (by decide +kernel : (kd0 (6 + 1)).2 = 8) (by omega) hT.1.2.2.2.2.2.1.1 (fun ql g2 f w1 w2 w3 _ => ⟨_, rfl, ?_⟩) (fun ql => ⟨_, rfl, ?_⟩)
    · have e : opAngle T x1 x2 = (sT T (T.1.1, T.1.2.1, T.1.2.2.1 ++ [(x1, x2)], T.1.2.2.2), (T.1.2.2.1.length : Int) + 1) := by unfold opAngle; rw [if_pos ⟨nn q1, nn q2⟩, if_pos ql]
      rw [e] at k
      refine k _ ⟨⟨a1.same (f _ (by omega)) (f _ (by omega)), a2.same (f _ (by omega)) (f _ (by omega)), a3.same (f _ (by omega)) (f _ (by omega)) (f _ (by omega)), a4.sno w1 w2 w3, a5.same (f _ (by omega)) (f _ (by omega)), a6.same (fun b _ _ => f b (by omega))⟩, Or.inl ?_, by rw [f _ (by omega)]; exact c1, by rw [f _ (by omega)]; exact c2, c3.same (fun b _ _ => f b (by omega))⟩ (fun b hb => by rw [f b (by omega)]; exact fr1 b hb)
      rw [f _ (by omega), eg]; simp [up2_ap]
    · have e : opAngle T x1 x2 = (T, -4) := by unfold opAngle; rw [if_pos ⟨nn q1, nn q2⟩, if_neg ql]
      rw [e] at k; exact k _ hst fr1
  · have e : opAngle T x1 x2 = (T, -2) := by unfold opAngle; rw [if_neg (fun z => q z.2)]
    rw [e] at k; exact k g h FrL.rfl
theorem k_flood {x1 : Int} (hT : GT T) (h : IC g T) (e1 : nm x1 = x1) (k : ∀ g', IC g' (opFlood T x1).1 → FrL g g' → P (some (aI (opFlood T x1).2)) g') : Zm w (d + 1) mX10_flood 0 [some (aR (some 0)), some (aI x1)] [] g P := by
  have n20 : nm 20 = 20 := by decide
  refine s_X10_flood_0 _ ?_
  rw [wi_x e1 n20]
  refine ⟨fun q1 g1 eg => ?_, fun q => ?_⟩
  · have hst := h.stale
    rw [← eg] at hst
    have fr1 : FrL g g1 := fun b hb => by rw [eg, up2_ne _ _ _ (by omega)]
    obtain ⟨⟨a1, a2, a3, a4, a5, a6⟩, b1, c1, c2, c3⟩ := id hst
    refine c_add isLo_10 a5.1 (by decide +kernel : (kd0 (10 + 1)).2 = 6) (by omega) hT.1.2.2.2.2.2.2.1.1 (fun ql g2 f w1 w2 w3 _ => ⟨_, rfl, ?_⟩) (fun ql => ⟨_, rfl, ?_⟩)
    · have e : opFlood T x1 = (sT T (T.1.1, T.1.2.1, T.1.2.2.1, T.1.2.2.2.1 ++ [x1], T.1.2.2.2.2), (T.1.2.2.2.1.length : Int) + 1) := by unfold opFlood; rw [if_pos (nn q1), if_pos ql]
      rw [e] at k
      refine k _ ⟨⟨a1.same (f _ (by omega)) (f _ (by omega)), a2.same (f _ (by omega)) (f _ (by omega)), a3.same (f _ (by omega)) (f _ (by omega)) (f _ (by omega)), a4.same (f _ (by omega)) (f _ (by omega)) (f _ (by omega)), a5.sno w1 w2, a6.same (fun b _ _ => f b (by omega))⟩, Or.inl ?_, by rw [f _ (by omega)]; exact c1, by rw [f _ (by omega)]; exact c2, c3.same (fun b _ _ => f b (by omega))⟩ (fun b hb => by rw [f b (by omega)]; exact fr1 b hb)
      rw [f _ (by omega), eg]; simp [up2_ap]
    · have e : opFlood T x1 = (T, -4) := by unfold opFlood; rw [if_pos (nn q1), if_neg ql]
      rw [e] at k; exact k _ hst fr1
  · have e : opFlood T x1 = (T, -2) := by unfold opFlood; rw [if_neg q]
    rw [e] at k; exact k g h FrL.rfl
theorem k_back {x1 : Int} (hT : GT T) (h : IC g T) (e1 : nm x1 = x1) (k : ∀ g', IC g' (opBack T x1).1 → FrL g g' → P (some (aI (opBack T x1).2)) g') : Zm w (d + 1) mX10_back 0 [some (aR (some 0)), some (aI x1)] [] g P := by
  have n3 : nm 3 = 3 := by decide
  refine s_X10_back_0 _ ?_
  rw [wi_x e1 n3, e1]
  refine ⟨fun q1 g1 eg => ?_, fun q => ?_⟩
  · have hst := h.stale
    rw [← eg] at hst
    have fr1 : FrL g g1 := fun b hb => by rw [eg, up2_ne _ _ _ (by omega)]
    obtain ⟨⟨a1, a2, a3, a4, a5, a6⟩, b1, c1, c2, c3⟩ := id hst
    have q1 := nn q1
    have l1 := hT.1.2.2.2.2.1.1
    have l2 := hT.1.2.2.2.2.2.1.1
    have l3 := hT.1.2.2.2.2.2.2.1.1
    refine ⟨fun q0 => ?_, fun q0 => ?_, fun q0 q2 => ?_⟩
    · refine c_drop4 isLo_2 a3.1 (by omega) (fun ql => ⟨_, rfl, ?_⟩) (fun ql => ⟨_, rfl, ?_⟩)
      · have e : opBack T x1 = (sT T (T.1.1, pre (0, 0) (T.1.2.1.length - 1) T.1.2.1, T.1.2.2), (T.1.2.1.length : Int) - 1) := by unfold opBack; rw [if_pos q1, if_pos q0, if_neg ql]
        rw [e] at k
        have f : ∀ b, b ≠ 2 → up2 g1 2 3 ((T.1.2.1.length : Int) - 1) b = g1 b := fun b z1 => by rw [up2_ne _ _ _ z1]
        refine k _ ⟨⟨a1.same (f _ (by omega)) (f _ (by omega)), a2.same (f _ (by omega)) (f _ (by omega)), a3.pre (by omega) (by simp [up2_ap]; omega) (f _ (by omega)) (f _ (by omega)), a4.same (f _ (by omega)) (f _ (by omega)) (f _ (by omega)), a5.same (f _ (by omega)) (f _ (by omega)), a6.same (fun b _ _ => f b (by omega))⟩, Or.inl ?_, by rw [f _ (by omega)]; exact c1, by rw [f _ (by omega)]; exact c2, c3.same (fun b _ _ => f b (by omega))⟩ (fun b hb => by rw [f b (by omega)]; exact fr1 b hb)
        rw [f _ (by omega), eg]; simp [up2_ap]
      · have e : opBack T x1 = (T, -3) := by unfold opBack; rw [if_pos q1, if_pos q0, if_pos ql]
        rw [e] at k; exact k _ hst fr1
    · refine c_drop4 isLo_6 a4.1 (by omega) (fun ql => ⟨_, rfl, ?_⟩) (fun ql => ⟨_, rfl, ?_⟩)
      · have e : opBack T x1 = (sT T (T.1.1, T.1.2.1, pre (0, 0) (T.1.2.2.1.length - 1) T.1.2.2.1, T.1.2.2.2), (T.1.2.2.1.length : Int) - 1) := by unfold opBack; rw [if_pos q1, if_neg (by omega), if_pos q0, if_neg ql]
        rw [e] at k
        have f : ∀ b, b ≠ 6 → up2 g1 6 3 ((T.1.2.2.1.length : Int) - 1) b = g1 b := fun b z1 => by rw [up2_ne _ _ _ z1]
        refine k _ ⟨⟨a1.same (f _ (by omega)) (f _ (by omega)), a2.same (f _ (by omega)) (f _ (by omega)), a3.same (f _ (by omega)) (f _ (by omega)) (f _ (by omega)), a4.pre (by omega) (by simp [up2_ap]; omega) (f _ (by omega)) (f _ (by omega)), a5.same (f _ (by omega)) (f _ (by omega)), a6.same (fun b _ _ => f b (by omega))⟩, Or.inl ?_, by rw [f _ (by omega)]; exact c1, by rw [f _ (by omega)]; exact c2, c3.same (fun b _ _ => f b (by omega))⟩ (fun b hb => by rw [f b (by omega)]; exact fr1 b hb)
        rw [f _ (by omega), eg]; simp [up2_ap]
      · have e : opBack T x1 = (T, -3) := by unfold opBack; rw [if_pos q1, if_neg (by omega), if_pos q0, if_pos ql]
        rw [e] at k; exact k _ hst fr1
    · refine c_drop4 isLo_10 a5.1 (by omega) (fun ql => ⟨_, rfl, ?_⟩) (fun ql => ⟨_, rfl, ?_⟩)
      · have e : opBack T x1 = (sT T (T.1.1, T.1.2.1, T.1.2.2.1, pre 0 (T.1.2.2.2.1.length - 1) T.1.2.2.2.1, T.1.2.2.2.2), (T.1.2.2.2.1.length : Int) - 1) := by unfold opBack; rw [if_pos q1, if_neg q0, if_neg q2, if_neg ql]
        rw [e] at k
        have f : ∀ b, b ≠ 10 → up2 g1 10 3 ((T.1.2.2.2.1.length : Int) - 1) b = g1 b := fun b z1 => by rw [up2_ne _ _ _ z1]
        refine k _ ⟨⟨a1.same (f _ (by omega)) (f _ (by omega)), a2.same (f _ (by omega)) (f _ (by omega)), a3.same (f _ (by omega)) (f _ (by omega)) (f _ (by omega)), a4.same (f _ (by omega)) (f _ (by omega)) (f _ (by omega)), a5.pre (by omega) (by simp [up2_ap]; omega) (f _ (by omega)), a6.same (fun b _ _ => f b (by omega))⟩, Or.inl ?_, by rw [f _ (by omega)]; exact c1, by rw [f _ (by omega)]; exact c2, c3.same (fun b _ _ => f b (by omega))⟩ (fun b hb => by rw [f b (by omega)]; exact fr1 b hb)
        rw [f _ (by omega), eg]; simp [up2_ap]
      · have e : opBack T x1 = (T, -3) := by unfold opBack; rw [if_pos q1, if_neg q0, if_neg q2, if_pos ql]
        rw [e] at k; exact k _ hst fr1
  · have e : opBack T x1 = (T, -2) := by unfold opBack; rw [if_neg q]
    rw [e] at k; exact k g h FrL.rfl
/-- what was seen doesn't change the days -/
theorem St.si {g : GI} {S : Sx} {si : Log3} (h : St g S) : St g (S.1, S.2.1, S.2.2.1, S.2.2.2.1, si) := h
theorem k_seen {x1 x2 x3 : Int} (hT : GT T) (h : IC g T) (e1 : nm x1 = x1) (e2 : nm x2 = x2) (e3 : nm x3 = x3) (k : ∀ g', IC g' (opSeen T x1 x2 x3).1 → FrL g g' → P (some (aI (opSeen T x1 x2 x3).2)) g') : Zm w (d + 1) mX10_seen 0 [some (aR (some 0)), some (aI x1), some (aI x2), some (aI x3)] [] g P := by
  have n20 : nm 20 = 20 := by decide
  have n8 : nm 8 = 8 := by decide
  have n26 : nm 26 = 26 := by decide
  refine s_X10_seen_0 _ _ _ ?_
  rw [wi_x e1 n20, wi_x e2 n8, wi_x e3 n26]
  have NO : ¬ ((0 ≤ x1 ∧ x1 < 20) ∧ (0 ≤ x2 ∧ x2 < 8) ∧ (0 ≤ x3 ∧ x3 < 26)) → P (some (aI (-2))) g := fun q => by
    have e : opSeen T x1 x2 x3 = (T, -2) := by unfold opSeen; rw [if_neg q]
    rw [e] at k; exact k g h FrL.rfl
  refine ⟨fun q => NO (fun z => q z.1), fun q1 => ⟨fun q => NO (fun z => q z.2.1), fun q2 => ⟨fun q3 => ?_, fun q => NO (fun z => q z.2.2)⟩⟩⟩
  obtain ⟨⟨a1, a2, a3, a4, a5, a6⟩, b1, c1, c2, c3⟩ := id h
  refine c_add isLo_14 a6.1 (by decide +kernel : (kd0 (14 + 1)).2 = 8) (by omega) hT.1.2.2.2.2.2.2.2.1 (fun ql g2 f w1 w2 w3 w4 => ⟨_, rfl, ?_⟩) (fun ql => ⟨_, rfl, ?_⟩)
  · have e : opSeen T x1 x2 x3 = (sT T (T.1.1, T.1.2.1, T.1.2.2.1, T.1.2.2.2.1, T.1.2.2.2.2 ++ [(x1, x2, x3)]), (T.1.2.2.2.2.length : Int) + 1) := by unfold opSeen; rw [if_pos ⟨nn q1, nn q2, nn q3⟩, if_pos ql]
    rw [e] at k
    refine k _ ⟨⟨a1.same (f _ (by omega)) (f _ (by omega)), a2.same (f _ (by omega)) (f _ (by omega)), a3.same (f _ (by omega)) (f _ (by omega)) (f _ (by omega)), a4.same (f _ (by omega)) (f _ (by omega)) (f _ (by omega)), a5.same (f _ (by omega)) (f _ (by omega)), ?_⟩, (b1.same (fun b _ _ => f b (by omega)) (fun j _ => by rw [f _ (by omega)]) (by rw [f _ (by omega)])).si, by rw [f _ (by omega)]; exact c1, by rw [f _ (by omega)]; exact c2, c3.same (fun b _ _ => f b (by omega))⟩ (fun b hb => f b (by omega))
    refine ⟨by rw [w1, sno_len]; omega, fun j hj => ?_⟩
    rw [sno_len] at hj
    rw [w2, w3, w4, sno_at]
    by_cases q : j < T.1.2.2.2.2.length
    · have hk' : ¬ j = T.1.2.2.2.2.length := by omega
      simp only [if_neg hk', if_pos q]; exact a6.2 j q
    · have hk' : j = T.1.2.2.2.2.length := by omega
      simp [hk']
  · have e : opSeen T x1 x2 x3 = (T, -4) := by unfold opSeen; rw [if_pos ⟨nn q1, nn q2, nn q3⟩, if_neg ql]
    rw [e] at k; exact k _ h FrL.rfl
theorem k_forget (h : IC g T) (k : ∀ g', IC g' (opForget T).1 → FrL g g' → P (some (aI (opForget T).2)) g') : Zm w d mX10_forget 0 [some (aR (some 0)), none] [] g P := by
  obtain ⟨⟨a1, a2, a3, a4, a5, a6⟩, b1, c1, c2, c3⟩ := id h
  refine s_X10_forget_0 (fun v1 e1 g2 eg => ?_)
  rw [e1, a6.1]
  have f : ∀ b, b ≠ 14 → g2 b = g b := fun b z1 => by rw [eg, up2_ne _ _ _ z1]
  exact k g2 ⟨⟨a1.same (f _ (by omega)) (f _ (by omega)), a2.same (f _ (by omega)) (f _ (by omega)), a3.same (f _ (by omega)) (f _ (by omega)) (f _ (by omega)), a4.same (f _ (by omega)) (f _ (by omega)) (f _ (by omega)), a5.same (f _ (by omega)) (f _ (by omega)), ⟨by rw [eg]; simp [up2_ap, opForget], fun j hj => absurd hj (Nat.not_lt_zero j)⟩⟩, (b1.same (fun b _ _ => f b (by omega)) (fun j _ => by rw [f _ (by omega)]) (by rw [f _ (by omega)])).si, by rw [f _ (by omega)]; exact c1, by rw [f _ (by omega)]; exact c2, c3.same (fun b _ _ => f b (by omega))⟩ (fun b hb => f b (by omega))
end CT
