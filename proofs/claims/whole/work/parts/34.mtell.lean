/-! the model: what is told -/
theorem TM.same {g g' : GI} {o : Om} (h : TM g o) (e : g' 233 = g 233) (e1 : g' 234 = g 234) : TM g' o := by unfold TM; rw [e, e1]; exact h
theorem LM.same {g g' : GI} {cs ca : Log2} (h : LM g cs ca) (e : g' 228 14 = g 228 14) (e1 : g' 228 16 = g 228 16) (e2 : g' 238 = g 238) (e3 : g' 239 = g 239) : LM g' cs ca := by unfold LM; rw [e, e1, e2, e3]; exact h
theorem LFM.same {g g' : GI} {fs : List Int} (h : LFM g fs) (e : g' 228 18 = g 228 18) (e1 : g' 240 = g 240) : LFM g' fs := by unfold LFM; rw [e, e1]; exact h
theorem L3M.same {g g' : GI} {si : Log3} (h : L3M g si) (e : g' 228 31 = g 228 31) (e1 : g' 248 = g 248) : L3M g' si := by unfold L3M; rw [e, e1]; exact h
theorem SHM.same {g g' : GI} {sh : Shs} (h : SHM g sh) (e : g' 229 = g 229) (e1 : g' 230 = g 230) (e2 : g' 231 = g 231) : SHM g' sh := by unfold SHM; rw [e, e1, e2]; exact h
section MT2
variable {w : GX} {d : Nat} {P : PN} {g : GI} {T : TT}
theorem j_type {x1 x2 : Int} (hT : GT T) (h : IM g T) (e1 : nm x1 = x1) (e2 : nm x2 = x2) (k : ∀ g', IM g' (opType T x1 x2).1 → FrH g g' → P (some (aI (opType T x1 x2).2)) g') : Zm w (d + 2) mX11_type 0 [some (aR (some 228)), some (aI x1), some (aI x2)] [] g P := by
  obtain ⟨a1, a2, a3, a4, a5, a6⟩ := id h
  have l0 := hT.1.1
  have l1 := hT.1.2.2.1
  refine s_X11_type_0 _ _ ?_
  rw [inn_x e1, lin_x e2 (by decide) (by decide), e1]
  refine ⟨fun q => ?_, fun q1 => ⟨fun q2 => ⟨by omega, by omega, fun q0 => ?_, fun q0 => ?_⟩, fun q => ?_⟩⟩
  · have e : opType T x1 x2 = (T, -2) := by unfold opType; rw [if_neg (by omega)]
    rw [e] at k; exact k g h FrH.rfl
  · have hx : x1 = 1 := by omega
    subst hx
    have el : nm (T.1.1.2.length : Int) = T.1.1.2.length := nm_id (by omega) (by omega)
    have n47 : nm 47 = 47 := by decide
    have n1 : nm 1 = 1 := by decide
    have ei : nm (48 * 1 + (T.1.1.2.length : Int)) = ((48 + T.1.1.2.length : Nat) : Int) := by rw [nm_id (by omega) (by omega)]; omega
    refine s_X11_type_39 _ _ _ _ ?_
    rw [show (1 : Int).toNat = 1 from rfl, n1, show (1 : Int).toNat = 1 from rfl, a1.2.2.1, el, n47, ei, Int.toNat_natCast]
    refine ⟨fun ql => ⟨by omega, by omega, by omega, by omega, fun g1 eg1 g2 eg2 => ?_⟩, fun ql => ?_⟩
    · have e : opType T 1 x2 = (sT T ((T.1.1.1, T.1.1.2 ++ [x2]), T.1.2), (T.1.1.2.length : Int) + 1) := by unfold opType; rw [if_pos (by omega), if_neg (by omega), if_pos (by omega)]
      rw [e] at k
      rw [eg1, up2_ne _ _ _ (by omega), a1.2.2.1] at eg2
      have f : ∀ b, b ≠ 233 → b ≠ 234 → g2 b = g b := fun b z1 z2 => by rw [eg2, up2_ne _ _ _ z2, up2_ne _ _ _ z1]
      have f28 : g2 228 = g 228 := f _ (by omega) (by omega)
      have r : g2 234 1 = (T.1.1.2.length : Int) + 1 := by rw [eg2]; simp [up2_ap]
      rw [r]
      refine k g2 ⟨⟨by rw [eg2]; simp [up2_ap, a1.1], fun i hi => ?_, by rw [r]; simp [sno_len], fun i hi => ?_⟩, a2.same (by rw [f28]) (by rw [f28]) (f _ (by omega) (by omega)) (f _ (by omega) (by omega)), a3.same (by rw [f28]) (f _ (by omega) (by omega)), a4.same (by rw [f28]) (f _ (by omega) (by omega)), by rw [f28]; exact a5, a6.same (f _ (by omega) (by omega)) (f _ (by omega) (by omega)) (f _ (by omega) (by omega))⟩ (fun b hb => f b (by omega) (by omega))
      · have hi : i < T.1.1.1.length := hi
        rw [eg2, up2_ne _ _ _ (by omega)]; simp only [up2_ap, if_true]; rw [if_neg (by omega)]; exact a1.2.1 i hi
      · have hi : i < (T.1.1.2 ++ [x2]).length := hi
        rw [sno_len] at hi
        show _ = (T.1.1.2 ++ [x2]).getD i 0
        rw [sno_at, eg2, up2_ne _ _ _ (by omega)]; simp only [up2_ap, if_true]
        by_cases q : i < T.1.1.2.length
        · rw [if_neg (by omega), if_pos q]; exact a1.2.2.2 i q
        · rw [if_pos (by omega), if_neg q, if_pos (by omega)]
    · have e : opType T 1 x2 = (T, -4) := by unfold opType; rw [if_pos (by omega), if_neg (by omega), if_neg (by omega)]
      rw [e] at k; exact k g h FrH.rfl
  · subst q0
    have el : nm (T.1.1.1.length : Int) = T.1.1.1.length := nm_id (by omega) (by omega)
    have n20 : nm 20 = 20 := by decide
    have n0 : nm 0 = 0 := by decide
    have ei : nm (48 * 0 + (T.1.1.1.length : Int)) = (T.1.1.1.length : Int) := by rw [nm_id (by omega) (by omega)]; omega
    refine s_X11_type_39 _ _ _ _ ?_
    rw [show (0 : Int).toNat = 0 from rfl, n0, show (0 : Int).toNat = 0 from rfl, a1.1, el, n20, ei, Int.toNat_natCast]
    refine ⟨fun ql => ⟨by omega, by omega, by omega, by omega, fun g1 eg1 g2 eg2 => ?_⟩, fun ql => ?_⟩
    · have e : opType T 0 x2 = (sT T ((T.1.1.1 ++ [x2], T.1.1.2), T.1.2), (T.1.1.1.length : Int) + 1) := by unfold opType; rw [if_pos (by omega), if_pos rfl, if_pos (by omega)]
      rw [e] at k
      rw [eg1, up2_ne _ _ _ (by omega), a1.1] at eg2
      have f : ∀ b, b ≠ 233 → b ≠ 234 → g2 b = g b := fun b z1 z2 => by rw [eg2, up2_ne _ _ _ z2, up2_ne _ _ _ z1]
      have f28 : g2 228 = g 228 := f _ (by omega) (by omega)
      have r : g2 234 0 = (T.1.1.1.length : Int) + 1 := by rw [eg2]; simp [up2_ap]
      rw [r]
      refine k g2 ⟨⟨by rw [r]; simp [sno_len], fun i hi => ?_, by rw [eg2]; simp [up2_ap, a1.2.2.1], fun i hi => ?_⟩, a2.same (by rw [f28]) (by rw [f28]) (f _ (by omega) (by omega)) (f _ (by omega) (by omega)), a3.same (by rw [f28]) (f _ (by omega) (by omega)), a4.same (by rw [f28]) (f _ (by omega) (by omega)), by rw [f28]; exact a5, a6.same (f _ (by omega) (by omega)) (f _ (by omega) (by omega)) (f _ (by omega) (by omega))⟩ (fun b hb => f b (by omega) (by omega))
      · have hi : i < (T.1.1.1 ++ [x2]).length := hi
        rw [sno_len] at hi
        show _ = (T.1.1.1 ++ [x2]).getD i 0
        rw [sno_at, eg2, up2_ne _ _ _ (by omega)]; simp only [up2_ap, if_true]
        by_cases q : i < T.1.1.1.length
        · rw [if_neg (by omega), if_pos q]; exact a1.2.1 i q
        · rw [if_pos (by omega), if_neg q, if_pos (by omega)]
      · have hi : i < T.1.1.2.length := hi
        rw [eg2, up2_ne _ _ _ (by omega)]; simp only [up2_ap, if_true]; rw [if_neg (by omega)]; exact a1.2.2.2 i hi
    · have e : opType T 0 x2 = (T, -4) := by unfold opType; rw [if_pos (by omega), if_pos rfl, if_neg (by omega)]
      rw [e] at k; exact k g h FrH.rfl
  · have e : opType T x1 x2 = (T, -2) := by unfold opType; rw [if_neg (by omega)]
    rw [e] at k; exact k g h FrH.rfl
theorem j_wipe {x1 : Int} (h : IM g T) (e1 : nm x1 = x1) (k : ∀ g', IM g' (opWipe T x1).1 → FrH g g' → P (some (aI (opWipe T x1).2)) g') : Zm w (d + 2) mX11_wipe 0 [some (aR (some 228)), some (aI x1), none] [] g P := by
  obtain ⟨a1, a2, a3, a4, a5, a6⟩ := id h
  refine s_X11_wipe_0 _ ?_
  rw [inn_x e1, e1]
  refine ⟨fun q1 => ⟨by omega, by omega, fun v6 e6 g2 eg2 => ?_⟩, fun q => ?_⟩
  · have f : ∀ b, b ≠ 234 → g2 b = g b := fun b z2 => by rw [eg2, up2_ne _ _ _ z2]
    have f28 : g2 228 = g 228 := f _ (by omega)
    by_cases q0 : x1 = 0
    · subst q0
      have e : opWipe T 0 = (sT T (([], T.1.1.2), T.1.2), (T.1.1.1.length : Int)) := by unfold opWipe; rw [if_pos (by omega), if_pos rfl]
      rw [e] at k
      rw [show (0 : Int).toNat = 0 from rfl] at e6 eg2
      rw [e6, a1.1]
      exact k g2 ⟨⟨by rw [eg2]; simp [up2_ap], fun i hi => absurd hi (Nat.not_lt_zero i), by rw [eg2]; simp [up2_ap, a1.2.2.1], by rw [f _ (by omega)]; exact a1.2.2.2⟩, a2.same (by rw [f28]) (by rw [f28]) (f _ (by omega)) (f _ (by omega)), a3.same (by rw [f28]) (f _ (by omega)), a4.same (by rw [f28]) (f _ (by omega)), by rw [f28]; exact a5, a6.same (f _ (by omega)) (f _ (by omega)) (f _ (by omega))⟩ (fun b hb => f b (by omega))
    · have hx : x1 = 1 := by omega
      subst hx
      have e : opWipe T 1 = (sT T ((T.1.1.1, []), T.1.2), (T.1.1.2.length : Int)) := by unfold opWipe; rw [if_pos (by omega), if_neg (by omega)]
      rw [e] at k
      rw [show (1 : Int).toNat = 1 from rfl] at e6 eg2
      rw [e6, a1.2.2.1]
      exact k g2 ⟨⟨by rw [eg2]; simp [up2_ap, a1.1], by rw [f _ (by omega)]; exact a1.2.1, by rw [eg2]; simp [up2_ap], fun i hi => absurd hi (Nat.not_lt_zero i)⟩, a2.same (by rw [f28]) (by rw [f28]) (f _ (by omega)) (f _ (by omega)), a3.same (by rw [f28]) (f _ (by omega)), a4.same (by rw [f28]) (f _ (by omega)), by rw [f28]; exact a5, a6.same (f _ (by omega)) (f _ (by omega)) (f _ (by omega))⟩ (fun b hb => f b (by omega))
  · have e : opWipe T x1 = (T, -2) := by unfold opWipe; rw [if_neg (by omega)]
    rw [e] at k; exact k g h FrH.rfl
theorem j_undo {x1 : Int} (hT : GT T) (h : IM g T) (e1 : nm x1 = x1) (k : ∀ g', IM g' (opUndo T x1).1 → FrH g g' → P (some (aI (opUndo T x1).2)) g') : Zm w (d + 2) mX11_undo 0 [some (aR (some 228)), some (aI x1)] [] g P := by
  obtain ⟨a1, a2, a3, a4, a5, a6⟩ := id h
  have l0 := hT.1.1
  have l1 := hT.1.2.2.1
  have el0 : nm (T.1.1.1.length : Int) = T.1.1.1.length := nm_id (by omega) (by omega)
  have el1 : nm (T.1.1.2.length : Int) = T.1.1.2.length := nm_id (by omega) (by omega)
  refine s_X11_undo_0 _ ?_
  rw [inn_x e1, e1]
  refine ⟨fun q1 => ⟨by omega, by omega, ?_⟩, fun q => ?_⟩
  · by_cases q0 : x1 = 0
    · subst q0
      rw [show (0 : Int).toNat = 0 from rfl, a1.1, el0]
      refine ⟨fun ql g2 eg2 => ?_, fun ql => ?_⟩
      · have f : ∀ b, b ≠ 234 → g2 b = g b := fun b z2 => by rw [eg2, up2_ne _ _ _ z2]
        have f28 : g2 228 = g 228 := f _ (by omega)
        have e : opUndo T 0 = (sT T ((pre 0 (T.1.1.1.length - 1) T.1.1.1, T.1.1.2), T.1.2), (T.1.1.1.length : Int) - 1) := by unfold opUndo; rw [if_pos (by omega), if_pos rfl, if_neg (by omega)]
        rw [e] at k
        have r : g2 234 0 = (T.1.1.1.length : Int) - 1 := by rw [eg2]; simp [up2_ap]
        rw [r]
        refine k g2 ⟨⟨by rw [r]; simp [pre_len]; omega, fun i hi => ?_, by rw [eg2]; simp [up2_ap, a1.2.2.1], by rw [f _ (by omega)]; exact a1.2.2.2⟩, a2.same (by rw [f28]) (by rw [f28]) (f _ (by omega)) (f _ (by omega)), a3.same (by rw [f28]) (f _ (by omega)), a4.same (by rw [f28]) (f _ (by omega)), by rw [f28]; exact a5, a6.same (f _ (by omega)) (f _ (by omega)) (f _ (by omega))⟩ (fun b hb => f b (by omega))
        have hi : i < (pre 0 (T.1.1.1.length - 1) T.1.1.1).length := hi
        rw [pre_len] at hi
        show _ = (pre 0 (T.1.1.1.length - 1) T.1.1.1).getD i 0
        rw [pre_at _ _ hi, f _ (by omega)]; exact a1.2.1 i (by omega)
      · have e : opUndo T 0 = (T, -3) := by unfold opUndo; rw [if_pos (by omega), if_pos rfl, if_pos (by omega)]
        rw [e] at k; exact k g h FrH.rfl
    · have hx : x1 = 1 := by omega
      subst hx
      rw [show (1 : Int).toNat = 1 from rfl, a1.2.2.1, el1]
      refine ⟨fun ql g2 eg2 => ?_, fun ql => ?_⟩
      · have f : ∀ b, b ≠ 234 → g2 b = g b := fun b z2 => by rw [eg2, up2_ne _ _ _ z2]
        have f28 : g2 228 = g 228 := f _ (by omega)
        have e : opUndo T 1 = (sT T ((T.1.1.1, pre 0 (T.1.1.2.length - 1) T.1.1.2), T.1.2), (T.1.1.2.length : Int) - 1) := by unfold opUndo; rw [if_pos (by omega), if_neg (by omega), if_neg (by omega)]
        rw [e] at k
        have r : g2 234 1 = (T.1.1.2.length : Int) - 1 := by rw [eg2]; simp [up2_ap]
        rw [r]
        refine k g2 ⟨⟨by rw [eg2]; simp [up2_ap, a1.1], by rw [f _ (by omega)]; exact a1.2.1, by rw [r]; simp [pre_len]; omega, fun i hi => ?_⟩, a2.same (by rw [f28]) (by rw [f28]) (f _ (by omega)) (f _ (by omega)), a3.same (by rw [f28]) (f _ (by omega)), a4.same (by rw [f28]) (f _ (by omega)), by rw [f28]; exact a5, a6.same (f _ (by omega)) (f _ (by omega)) (f _ (by omega))⟩ (fun b hb => f b (by omega))
        have hi : i < (pre 0 (T.1.1.2.length - 1) T.1.1.2).length := hi
        rw [pre_len] at hi
        show _ = (pre 0 (T.1.1.2.length - 1) T.1.1.2).getD i 0
        rw [pre_at _ _ hi, f _ (by omega)]; exact a1.2.2.2 i (by omega)
      · have e : opUndo T 1 = (T, -3) := by unfold opUndo; rw [if_pos (by omega), if_neg (by omega), if_pos (by omega)]
        rw [e] at k; exact k g h FrH.rfl
  · have e : opUndo T x1 = (T, -2) := by unfold opUndo; rw [if_neg (by omega)]
    rw [e] at k; exact k g h FrH.rfl
theorem j_wear {x1 : Int} (h : IM g T) (e1 : nm x1 = x1) (k : ∀ g', IM g' (opWear T x1).1 → FrH g g' → P (some (aI (opWear T x1).2)) g') : Zm w (d + 1) mX11_wear 0 [some (aR (some 228)), some (aI x1), none] [] g P := by
  obtain ⟨a1, a2, a3, a4, a5, a6⟩ := id h
  refine s_X11_wear_0 _ ?_
  rw [lin_x e1 (by decide) (by decide)]
  refine ⟨fun q1 v2 e2 g2 eg2 => ?_, fun q => ?_⟩
  · have f : ∀ b, b ≠ 228 → g2 b = g b := fun b z2 => by rw [eg2, up2_ne _ _ _ z2]
    have f8 : ∀ j, j ≠ 13 → g2 228 j = g 228 j := fun j hj => by rw [eg2]; simp [up2_ap, hj]
    have e : opWear T x1 = ((T.1, x1, T.2.2), T.2.1) := by unfold opWear; rw [if_pos (by omega)]
    rw [e] at k
    rw [e2, a5.1]
    exact k g2 ⟨a1.same (f _ (by omega)) (f _ (by omega)), a2.same (f8 _ (by omega)) (f8 _ (by omega)) (f _ (by omega)) (f _ (by omega)), a3.same (f8 _ (by omega)) (f _ (by omega)), a4.same (f8 _ (by omega)) (f _ (by omega)), ⟨by rw [eg2]; simp [up2_ap], by rw [f8 4 (by omega), f8 27 (by omega), f8 28 (by omega), f8 30 (by omega)]; exact a5.2⟩, a6.same (f _ (by omega)) (f _ (by omega)) (f _ (by omega))⟩ (fun b hb => f b (by omega))
  · have e : opWear T x1 = (T, -2) := by unfold opWear; rw [if_neg (by omega)]
    rw [e] at k; exact k g h FrH.rfl
/-- the crossings' two columns, one more -/
theorem c_crosses {n : Nat} {x1 x2 : Int} (hn : g 228 14 = (n : Int)) (hl : n < 36) (k : ∀ g' : GI, (∀ b, b ≠ 228 → b ≠ 238 → g' b = g b) → (∀ j, j ≠ 14 → g' 228 j = g 228 j) → g' 228 14 = (n : Int) + 1 → (∀ j, j < 2 * n → g' 238 j = g 238 j) → g' 238 (2 * n) = x1 → g' 238 (2 * n + 1) = x2 → P none g') : Zm w d mX11_crosses 0 [some (aR (some 228)), some (aI x1), some (aI x2)] [] g P := by
  have ei : nm (2 * (n : Int)) = ((2 * n : Nat) : Int) := by rw [nm_id (by omega) (by omega)]; omega
  have ei1 : nm (2 * (n : Int) + 1) = ((2 * n + 1 : Nat) : Int) := by rw [nm_id (by omega) (by omega)]; omega
  refine s_X11_crosses_0 _ _ ?_
  rw [hn, ei, Int.toNat_natCast]
  refine ⟨by omega, by omega, fun g1 eg1 => ?_⟩
  have h1 : g1 228 14 = (n : Int) := by rw [eg1, up2_ne _ _ _ (by omega)]; exact hn
  rw [h1, ei1, Int.toNat_natCast]
  refine ⟨by omega, by omega, fun g2 eg2 g3 eg3 => ?_⟩
  have h2 : g2 228 14 = (n : Int) := by rw [eg2, up2_ne _ _ _ (by omega)]; exact h1
  rw [h2] at eg3
  refine k g3 (fun b z1 z2 => by rw [eg3, up2_ne _ _ _ z1, eg2, up2_ne _ _ _ z2, eg1, up2_ne _ _ _ z2]) (fun j hj => ?_) (by rw [eg3]; simp [up2_ap]) (fun j hj => ?_) ?_ ?_
  · rw [eg3]; simp only [up2_ap, if_true]; rw [if_neg hj, eg2, up2_ne _ _ _ (by omega), eg1, up2_ne _ _ _ (by omega)]
  · rw [eg3, up2_ne _ _ _ (by omega), eg2, eg1]; simp only [up2_ap, if_true]; rw [if_neg (by omega), if_neg (by omega)]
  · rw [eg3, up2_ne _ _ _ (by omega), eg2, eg1]; simp [up2_ap]
  · rw [eg3, up2_ne _ _ _ (by omega), eg2]; simp [up2_ap]
theorem c_catchesM {n : Nat} {x1 x2 : Int} (hn : g 228 16 = (n : Int)) (hl : n < 10) (k : ∀ g' : GI, (∀ b, b ≠ 228 → b ≠ 239 → g' b = g b) → (∀ j, j ≠ 16 → g' 228 j = g 228 j) → g' 228 16 = (n : Int) + 1 → (∀ j, j < 2 * n → g' 239 j = g 239 j) → g' 239 (2 * n) = x1 → g' 239 (2 * n + 1) = x2 → P none g') : Zm w d mX11_catchesMore 0 [some (aR (some 228)), some (aI x1), some (aI x2)] [] g P := by
  have ei : nm (2 * (n : Int)) = ((2 * n : Nat) : Int) := by rw [nm_id (by omega) (by omega)]; omega
  have ei1 : nm (2 * (n : Int) + 1) = ((2 * n + 1 : Nat) : Int) := by rw [nm_id (by omega) (by omega)]; omega
  refine s_X11_catchesMore_0 _ _ ?_
  rw [hn, ei, Int.toNat_natCast]
  refine ⟨by omega, by omega, fun g1 eg1 => ?_⟩
  have h1 : g1 228 16 = (n : Int) := by rw [eg1, up2_ne _ _ _ (by omega)]; exact hn
  rw [h1, ei1, Int.toNat_natCast]
  refine ⟨by omega, by omega, fun g2 eg2 g3 eg3 => ?_⟩
  have h2 : g2 228 16 = (n : Int) := by rw [eg2, up2_ne _ _ _ (by omega)]; exact h1
  rw [h2] at eg3
  refine k g3 (fun b z1 z2 => by rw [eg3, up2_ne _ _ _ z1, eg2, up2_ne _ _ _ z2, eg1, up2_ne _ _ _ z2]) (fun j hj => ?_) (by rw [eg3]; simp [up2_ap]) (fun j hj => ?_) ?_ ?_
  · rw [eg3]; simp only [up2_ap, if_true]; rw [if_neg hj, eg2, up2_ne _ _ _ (by omega), eg1, up2_ne _ _ _ (by omega)]
  · rw [eg3, up2_ne _ _ _ (by omega), eg2, eg1]; simp only [up2_ap, if_true]; rw [if_neg (by omega), if_neg (by omega)]
  · rw [eg3, up2_ne _ _ _ (by omega), eg2, eg1]; simp [up2_ap]
  · rw [eg3, up2_ne _ _ _ (by omega), eg2]; simp [up2_ap]
/-- one more in a log of the model -/
theorem lm_sno {f f' : Nat → Int} {l : Log2} {x y : Int} (h : ∀ k, k < l.length → f (2 * k) = (l.getD k (0, 0)).1 ∧ f (2 * k + 1) = (l.getD k (0, 0)).2) (e : ∀ j, j < 2 * l.length → f' j = f j) (e1 : f' (2 * l.length) = x) (e2 : f' (2 * l.length + 1) = y) : ∀ k, k < (l ++ [(x, y)]).length → f' (2 * k) = ((l ++ [(x, y)]).getD k (0, 0)).1 ∧ f' (2 * k + 1) = ((l ++ [(x, y)]).getD k (0, 0)).2 := by
  intro k hk
  rw [sno_len] at hk
  rw [sno_at]
  by_cases q : k < l.length
  · rw [if_pos q, e _ (by omega), e _ (by omega)]; exact h k q
  · have : k = l.length := by omega
    subst this
    rw [if_neg q, if_pos rfl]; exact ⟨e1, e2⟩
theorem j_cross {x1 x2 : Int} (hT : GT T) (h : IM g T) (e1 : nm x1 = x1) (e2 : nm x2 = x2) (k : ∀ g', IM g' (opCross T x1 x2).1 → FrH g g' → P (some (aI (opCross T x1 x2).2)) g') : Zm w (d + 2) mX11_cross 0 [some (aR (some 228)), some (aI x1), some (aI x2)] [] g P := by
  obtain ⟨a1, a2, a3, a4, a5, a6⟩ := id h
  have l1 := hT.1.2.2.2.2.1.1
  have el : nm (T.1.2.1.length : Int) = T.1.2.1.length := nm_id (by omega) (by omega)
  have n16 : nm 16 = 16 := by decide
  refine s_X11_cross_0 _ _ ?_
  rw [inn_x e1, inn_x e2, a2.1, el, n16]
  have NO : ¬ ((0 ≤ x1 ∧ x1 < 20) ∧ (0 ≤ x2 ∧ x2 < 8)) → P (some (aI (-2))) g := fun q => by
    have e : opCross T x1 x2 = (T, -2) := by unfold opCross; rw [if_neg q]
    rw [e] at k; exact k g h FrH.rfl
  refine ⟨fun q => NO (by omega), fun q1 => ⟨fun q2 => ⟨fun ql => ?_, fun ql => ?_⟩, fun q => NO (by omega)⟩⟩
  · refine c_crosses a2.1 (by omega) (fun g2 f f8 w1 w2 w3 w4 => ⟨rfl, ?_⟩)
    have e : opCross T x1 x2 = (sT T (T.1.1, T.1.2.1 ++ [(x1, x2)], T.1.2.2), (T.1.2.1.length : Int) + 1) := by unfold opCross; rw [if_pos (by omega), if_pos (by omega)]
    rw [e] at k
    rw [w1]
    exact k g2 ⟨a1.same (f _ (by omega) (by omega)) (f _ (by omega) (by omega)), ⟨by rw [w1]; simp [sno_len], lm_sno a2.2.1 w2 w3 w4, by rw [f8 _ (by omega)]; exact a2.2.2.1, by rw [f _ (by omega) (by omega)]; exact a2.2.2.2⟩, a3.same (f8 _ (by omega)) (f _ (by omega) (by omega)), a4.same (f8 _ (by omega)) (f _ (by omega) (by omega)), by rw [f8 13 (by omega), f8 4 (by omega), f8 27 (by omega), f8 28 (by omega), f8 30 (by omega)]; exact a5, a6.same (f _ (by omega) (by omega)) (f _ (by omega) (by omega)) (f _ (by omega) (by omega))⟩ (fun b hb => f b (by omega) (by omega))
  · have e : opCross T x1 x2 = (T, -4) := by unfold opCross; rw [if_pos (by omega), if_neg (by omega)]
    rw [e] at k; exact k g h FrH.rfl
theorem j_angle {x1 x2 : Int} (hT : GT T) (h : IM g T) (e1 : nm x1 = x1) (e2 : nm x2 = x2) (k : ∀ g', IM g' (opAngle T x1 x2).1 → FrH g g' → P (some (aI (opAngle T x1 x2).2)) g') : Zm w (d + 2) mX11_angle 0 [some (aR (some 228)), some (aI x1), some (aI x2)] [] g P := by
  obtain ⟨a1, a2, a3, a4, a5, a6⟩ := id h
  have l1 := hT.1.2.2.2.2.2.1.1
  have el : nm (T.1.2.2.1.length : Int) = T.1.2.2.1.length := nm_id (by omega) (by omega)
  have n8 : nm 8 = 8 := by decide
  refine s_X11_angle_0 _ _ ?_
  rw [inn_x e1, lin_x e2 (by decide) (by decide), a2.2.2.1, el, n8]
  have NO : ¬ ((0 ≤ x1 ∧ x1 < 20) ∧ (0 ≤ x2 ∧ x2 < 20)) → P (some (aI (-2))) g := fun q => by
    have e : opAngle T x1 x2 = (T, -2) := by unfold opAngle; rw [if_neg q]
    rw [e] at k; exact k g h FrH.rfl
  refine ⟨fun q => NO (by omega), fun q1 => ⟨fun q2 => ⟨fun ql => ?_, fun ql => ?_⟩, fun q => NO (by omega)⟩⟩
  · refine c_catchesM a2.2.2.1 (by omega) (fun g2 f f8 w1 w2 w3 w4 => ⟨rfl, ?_⟩)
    have e : opAngle T x1 x2 = (sT T (T.1.1, T.1.2.1, T.1.2.2.1 ++ [(x1, x2)], T.1.2.2.2), (T.1.2.2.1.length : Int) + 1) := by unfold opAngle; rw [if_pos (by omega), if_pos (by omega)]
    rw [e] at k
    rw [w1]
    exact k g2 ⟨a1.same (f _ (by omega) (by omega)) (f _ (by omega) (by omega)), ⟨by rw [f8 _ (by omega)]; exact a2.1, by rw [f _ (by omega) (by omega)]; exact a2.2.1, by rw [w1]; simp [sno_len], lm_sno a2.2.2.2 w2 w3 w4⟩, a3.same (f8 _ (by omega)) (f _ (by omega) (by omega)), a4.same (f8 _ (by omega)) (f _ (by omega) (by omega)), by rw [f8 13 (by omega), f8 4 (by omega), f8 27 (by omega), f8 28 (by omega), f8 30 (by omega)]; exact a5, a6.same (f _ (by omega) (by omega)) (f _ (by omega) (by omega)) (f _ (by omega) (by omega))⟩ (fun b hb => f b (by omega) (by omega))
  · have e : opAngle T x1 x2 = (T, -4) := by unfold opAngle; rw [if_pos (by omega), if_neg (by omega)]
    rw [e] at k; exact k g h FrH.rfl
theorem j_flood {x1 : Int} (hT : GT T) (h : IM g T) (e1 : nm x1 = x1) (k : ∀ g', IM g' (opFlood T x1).1 → FrH g g' → P (some (aI (opFlood T x1).2)) g') : Zm w (d + 2) mX11_flood 0 [some (aR (some 228)), some (aI x1)] [] g P := by
  obtain ⟨a1, a2, a3, a4, a5, a6⟩ := id h
  have l1 := hT.1.2.2.2.2.2.2.1.1
  have el : nm (T.1.2.2.2.1.length : Int) = T.1.2.2.2.1.length := nm_id (by omega) (by omega)
  have n6 : nm 6 = 6 := by decide
  refine s_X11_flood_0 _ ?_
  rw [inn_x e1, a3.1, el, n6, Int.toNat_natCast]
  refine ⟨fun q1 => ⟨fun ql => ⟨by omega, by omega, fun g1 eg1 g2 eg2 => ?_⟩, fun ql => ?_⟩, fun q => ?_⟩
  · have e : opFlood T x1 = (sT T (T.1.1, T.1.2.1, T.1.2.2.1, T.1.2.2.2.1 ++ [x1], T.1.2.2.2.2), (T.1.2.2.2.1.length : Int) + 1) := by unfold opFlood; rw [if_pos (by omega), if_pos (by omega)]
    rw [e] at k
    rw [eg1, up2_ne _ _ _ (by omega), a3.1] at eg2
    have f : ∀ b, b ≠ 228 → b ≠ 240 → g2 b = g b := fun b z1 z2 => by rw [eg2, up2_ne _ _ _ z1, up2_ne _ _ _ z2]
    have f8 : ∀ j, j ≠ 18 → g2 228 j = g 228 j := fun j hj => by rw [eg2]; simp [up2_ap, hj]
    have r : g2 228 18 = (T.1.2.2.2.1.length : Int) + 1 := by rw [eg2]; simp [up2_ap]
    rw [r]
    refine k g2 ⟨a1.same (f _ (by omega) (by omega)) (f _ (by omega) (by omega)), a2.same (f8 _ (by omega)) (f8 _ (by omega)) (f _ (by omega) (by omega)) (f _ (by omega) (by omega)), ⟨by rw [r]; simp [sno_len], fun i hi => ?_⟩, a4.same (f8 _ (by omega)) (f _ (by omega) (by omega)), by rw [f8 13 (by omega), f8 4 (by omega), f8 27 (by omega), f8 28 (by omega), f8 30 (by omega)]; exact a5, a6.same (f _ (by omega) (by omega)) (f _ (by omega) (by omega)) (f _ (by omega) (by omega))⟩ (fun b hb => f b (by omega) (by omega))
    have hi : i < (T.1.2.2.2.1 ++ [x1]).length := hi
    rw [sno_len] at hi
    show _ = (T.1.2.2.2.1 ++ [x1]).getD i 0
    rw [sno_at, eg2, up2_ne _ _ _ (by omega)]; simp only [up2_ap, if_true]
    by_cases q : i < T.1.2.2.2.1.length
    · rw [if_neg (by omega), if_pos q]; exact a3.2 i q
    · rw [if_pos (by omega), if_neg q, if_pos (by omega)]
  · have e : opFlood T x1 = (T, -4) := by unfold opFlood; rw [if_pos (by omega), if_neg (by omega)]
    rw [e] at k; exact k g h FrH.rfl
  · have e : opFlood T x1 = (T, -2) := by unfold opFlood; rw [if_neg (by omega)]
    rw [e] at k; exact k g h FrH.rfl
theorem j_back {x1 : Int} (hT : GT T) (h : IM g T) (e1 : nm x1 = x1) (k : ∀ g', IM g' (opBack T x1).1 → FrH g g' → P (some (aI (opBack T x1).2)) g') : Zm w (d + 1) mX11_back 0 [some (aR (some 228)), some (aI x1), none] [] g P := by
  obtain ⟨a1, a2, a3, a4, a5, a6⟩ := id h
  have l1 := hT.1.2.2.2.2.1.1
  have l2 := hT.1.2.2.2.2.2.1.1
  have l3 := hT.1.2.2.2.2.2.2.1.1
  have n1 : nm 1 = 1 := by decide
  have n2 : nm 2 = 2 := by decide
  -- one step back, of one of the three
  have GO : ∀ (n : Nat) (A B C : Nat), n ≠ 0 → n < 1000 → (x1 = 0 ∧ A = 1 ∧ B = 0 ∧ C = 0 ∨ x1 = 1 ∧ A = 0 ∧ B = 1 ∧ C = 0 ∨ x1 = 2 ∧ A = 0 ∧ B = 0 ∧ C = 1) → (∀ g', (∀ b, b ≠ 228 → g' b = g b) → (∀ j, j ≠ 14 → j ≠ 16 → j ≠ 18 → g' 228 j = g 228 j) → g' 228 14 = g 228 14 - A → g' 228 16 = g 228 16 - B → g' 228 18 = g 228 18 - C → P (some (aI ((n : Int) - 1))) g') → Zm w (d + 1) mX11_back 42 [some (aR (some 228)), some (aI x1), none] [aI (n : Int)] g P := by
    intro n A B C hn hn2 hx K
    have en : nm (n : Int) = n := nm_id (by omega) (by omega)
    have S64 : Zm w (d + 1) mX11_back 64 [some (aR (some 228)), some (aI x1), some (aI (n : Int))] [aI (A : Int), aI (g 228 14), aR (some 228)] g P := by
      refine s_X11_back_64 _ _ _ _ (fun g1 eg1 => ?_)
      have f1 : ∀ j, j ≠ 14 → g1 228 j = g 228 j := fun j hj => by rw [eg1]; simp [up2_ap, hj]
      have S83 : Zm w (d + 1) mX11_back 83 [some (aR (some 228)), some (aI x1), some (aI (n : Int))] [aI (B : Int), aI (g1 228 16), aR (some 228)] g1 P := by
        refine s_X11_back_83 _ _ _ _ (fun g2 eg2 => ?_)
        rw [f1 16 (by omega)] at eg2
        have e18 : g2 228 18 = g 228 18 := by rw [eg2]; simp only [up2_ap, if_true]; rw [if_neg (by omega)]; exact f1 18 (by omega)
        rw [e18, e1, n2]
        have FIN : ∀ g3 : GI, g3 = up2 g2 228 18 (g 228 18 - C) → P (some (aI ((n : Int) - 1))) g3 := by
          intro g3 eg3
          refine K g3 (fun b hb => by rw [eg3, up2_ne _ _ _ hb, eg2, up2_ne _ _ _ hb, eg1, up2_ne _ _ _ hb]) (fun j z1 z2 z3 => ?_) ?_ ?_ ?_
          · rw [eg3, eg2, eg1]; simp [up2_ap, z1, z2, z3]
          · rw [eg3, eg2, eg1]; simp [up2_ap]
          · rw [eg3, eg2, eg1]; simp [up2_ap]
          · rw [eg3]; simp [up2_ap]
        refine ⟨fun q g3 eg3 => FIN g3 ?_, fun q g3 eg3 => FIN g3 ?_⟩
        · rw [eg3, show C = 0 by omega]; rfl
        · rw [eg3, show C = 1 by omega]; rfl
      rw [e1, n1]
      refine ⟨fun q => ?_, fun q => ?_⟩
      · rw [show B = 0 by omega] at S83; exact S83
      · rw [show B = 1 by omega] at S83; exact S83
    refine s_X11_back_42 _ _ ?_
    rw [en, e1]
    refine ⟨fun _ => ⟨fun q => ?_, fun q => ?_⟩, fun q => absurd q (by omega)⟩
    · rw [show A = 0 by omega] at S64; exact S64
    · rw [show A = 1 by omega] at S64; exact S64
  have NOT : ∀ (n : Nat), n = 0 → P (some (aI (-3))) g → Zm w (d + 1) mX11_back 42 [some (aR (some 228)), some (aI x1), none] [aI (n : Int)] g P := by
    intro n hn hp
    subst hn
    refine s_X11_back_42 _ _ ?_
    rw [show nm ((0 : Nat) : Int) = 0 by decide]
    exact ⟨fun q => absurd rfl q, fun _ => hp⟩
  refine s_X11_back_0 _ ?_
  rw [lin_x e1 (by decide) (by decide), e1, n1, a2.1, a2.2.2.1, a3.1]
  refine ⟨fun q1 => ⟨fun q0 => ⟨fun q2 => ?_, fun q2 => ?_⟩, fun q0 => ?_⟩, fun q => ?_⟩
  · by_cases ql : T.1.2.2.2.1.length = 0
    · refine NOT _ ql ?_
      have e : opBack T x1 = (T, -3) := by unfold opBack; rw [if_pos (by omega), if_neg q0, if_neg q2, if_pos ql]
      rw [e] at k; exact k g h FrH.rfl
    · refine GO _ 0 0 1 ql (by omega) (by omega) (fun g2 f f8 w1 w2 w3 => ?_)
      have e : opBack T x1 = (sT T (T.1.1, T.1.2.1, T.1.2.2.1, pre 0 (T.1.2.2.2.1.length - 1) T.1.2.2.2.1, T.1.2.2.2.2), (T.1.2.2.2.1.length : Int) - 1) := by unfold opBack; rw [if_pos (by omega), if_neg q0, if_neg q2, if_neg ql]
      rw [e] at k
      refine k g2 ⟨a1.same (f _ (by omega)) (f _ (by omega)), a2.same (by rw [w1]; simp) (by rw [w2]; simp) (f _ (by omega)) (f _ (by omega)), ⟨by rw [w3, a3.1]; simp [pre_len]; omega, fun i hi => ?_⟩, a4.same (f8 _ (by omega) (by omega) (by omega)) (f _ (by omega)), by rw [f8 13 (by omega) (by omega) (by omega), f8 4 (by omega) (by omega) (by omega), f8 27 (by omega) (by omega) (by omega), f8 28 (by omega) (by omega) (by omega), f8 30 (by omega) (by omega) (by omega)]; exact a5, a6.same (f _ (by omega)) (f _ (by omega)) (f _ (by omega))⟩ (fun b hb => f b (by omega))
      have hi : i < (pre 0 (T.1.2.2.2.1.length - 1) T.1.2.2.2.1).length := hi
      rw [pre_len] at hi
      show _ = (pre 0 (T.1.2.2.2.1.length - 1) T.1.2.2.2.1).getD i 0
      rw [pre_at _ _ hi, f _ (by omega)]; exact a3.2 i (by omega)
  · by_cases ql : T.1.2.2.1.length = 0
    · refine NOT _ ql ?_
      have e : opBack T x1 = (T, -3) := by unfold opBack; rw [if_pos (by omega), if_neg q0, if_pos q2, if_pos ql]
      rw [e] at k; exact k g h FrH.rfl
    · refine GO _ 0 1 0 ql (by omega) (by omega) (fun g2 f f8 w1 w2 w3 => ?_)
      have e : opBack T x1 = (sT T (T.1.1, T.1.2.1, pre (0, 0) (T.1.2.2.1.length - 1) T.1.2.2.1, T.1.2.2.2), (T.1.2.2.1.length : Int) - 1) := by unfold opBack; rw [if_pos (by omega), if_neg q0, if_pos q2, if_neg ql]
      rw [e] at k
      refine k g2 ⟨a1.same (f _ (by omega)) (f _ (by omega)), ⟨by rw [w1]; simp [a2.1], by rw [f _ (by omega)]; exact a2.2.1, by rw [w2, a2.2.2.1]; simp [pre_len]; omega, fun i hi => ?_⟩, a3.same (by rw [w3]; simp) (f _ (by omega)), a4.same (f8 _ (by omega) (by omega) (by omega)) (f _ (by omega)), by rw [f8 13 (by omega) (by omega) (by omega), f8 4 (by omega) (by omega) (by omega), f8 27 (by omega) (by omega) (by omega), f8 28 (by omega) (by omega) (by omega), f8 30 (by omega) (by omega) (by omega)]; exact a5, a6.same (f _ (by omega)) (f _ (by omega)) (f _ (by omega))⟩ (fun b hb => f b (by omega))
      have hi : i < (pre (0, 0) (T.1.2.2.1.length - 1) T.1.2.2.1).length := hi
      rw [pre_len] at hi
      show _ = ((pre (0, 0) (T.1.2.2.1.length - 1) T.1.2.2.1).getD i (0, 0)).1 ∧ _ = ((pre (0, 0) (T.1.2.2.1.length - 1) T.1.2.2.1).getD i (0, 0)).2
      rw [pre_at _ _ hi, f _ (by omega)]; exact a2.2.2.2 i (by omega)
  · by_cases ql : T.1.2.1.length = 0
    · refine NOT _ ql ?_
      have e : opBack T x1 = (T, -3) := by unfold opBack; rw [if_pos (by omega), if_pos q0, if_pos ql]
      rw [e] at k; exact k g h FrH.rfl
    · refine GO _ 1 0 0 ql (by omega) (by omega) (fun g2 f f8 w1 w2 w3 => ?_)
      have e : opBack T x1 = (sT T (T.1.1, pre (0, 0) (T.1.2.1.length - 1) T.1.2.1, T.1.2.2), (T.1.2.1.length : Int) - 1) := by unfold opBack; rw [if_pos (by omega), if_pos q0, if_neg ql]
      rw [e] at k
      refine k g2 ⟨a1.same (f _ (by omega)) (f _ (by omega)), ⟨by rw [w1, a2.1]; simp [pre_len]; omega, fun i hi => ?_, by rw [w2]; simp [a2.2.2.1], by rw [f _ (by omega)]; exact a2.2.2.2⟩, a3.same (by rw [w3]; simp) (f _ (by omega)), a4.same (f8 _ (by omega) (by omega) (by omega)) (f _ (by omega)), by rw [f8 13 (by omega) (by omega) (by omega), f8 4 (by omega) (by omega) (by omega), f8 27 (by omega) (by omega) (by omega), f8 28 (by omega) (by omega) (by omega), f8 30 (by omega) (by omega) (by omega)]; exact a5, a6.same (f _ (by omega)) (f _ (by omega)) (f _ (by omega))⟩ (fun b hb => f b (by omega))
      have hi : i < (pre (0, 0) (T.1.2.1.length - 1) T.1.2.1).length := hi
      rw [pre_len] at hi
      show _ = ((pre (0, 0) (T.1.2.1.length - 1) T.1.2.1).getD i (0, 0)).1 ∧ _ = ((pre (0, 0) (T.1.2.1.length - 1) T.1.2.1).getD i (0, 0)).2
      rw [pre_at _ _ hi, f _ (by omega)]; exact a2.2.1 i (by omega)
  · have e : opBack T x1 = (T, -2) := by unfold opBack; rw [if_neg (by omega)]
    rw [e] at k; exact k g h FrH.rfl
theorem j_seen {x1 x2 x3 : Int} (hT : GT T) (h : IM g T) (e1 : nm x1 = x1) (e2 : nm x2 = x2) (e3 : nm x3 = x3) (k : ∀ g', IM g' (opSeen T x1 x2 x3).1 → FrH g g' → P (some (aI (opSeen T x1 x2 x3).2)) g') : Zm w (d + 2) mX11_seen 0 [some (aR (some 228)), some (aI x1), some (aI x2), some (aI x3)] [] g P := by
  obtain ⟨a1, a2, a3, a4, a5, a6⟩ := id h
  have l1 := hT.1.2.2.2.2.2.2.2.1
  generalize hn : T.1.2.2.2.2.length = n at l1
  have a41 : g 228 31 = (n : Int) := by rw [← hn]; exact a4.1
  have el : nm (n : Int) = n := nm_id (by omega) (by omega)
  have n8 : nm 8 = 8 := by decide
  have i0 : nm (3 * (n : Int)) = ((3 * n : Nat) : Int) := by rw [nm_id (by omega) (by omega)]; omega
  have i1 : nm (3 * (n : Int) + 1) = ((3 * n + 1 : Nat) : Int) := by rw [nm_id (by omega) (by omega)]; omega
  have i2 : nm (3 * (n : Int) + 2) = ((3 * n + 2 : Nat) : Int) := by rw [nm_id (by omega) (by omega)]; omega
  refine s_X11_seen_0 _ _ _ ?_
  rw [inn_x e1, inn_x e2, lin_x e3 (by decide) (by decide), a41, el, n8, i0, Int.toNat_natCast]
  have NO : ¬ ((0 ≤ x1 ∧ x1 < 20) ∧ (0 ≤ x2 ∧ x2 < 8) ∧ (0 ≤ x3 ∧ x3 < 26)) → P (some (aI (-2))) g := fun q => by
    have e : opSeen T x1 x2 x3 = (T, -2) := by unfold opSeen; rw [if_neg q]
    rw [e] at k; exact k g h FrH.rfl
  refine ⟨fun q => NO (by omega), fun q1 => ⟨fun q => NO (by omega), fun q2 => ⟨fun q3 => ⟨fun ql => ⟨by omega, by omega, fun g1 eg1 => ?_⟩, fun ql => ?_⟩, fun q => NO (by omega)⟩⟩⟩
  · have h1 : g1 228 31 = (n : Int) := by rw [eg1, up2_ne _ _ _ (by omega)]; exact a41
    rw [h1, i1, Int.toNat_natCast]
    refine ⟨by omega, by omega, fun g2 eg2 => ?_⟩
    have h2 : g2 228 31 = (n : Int) := by rw [eg2, up2_ne _ _ _ (by omega)]; exact h1
    rw [h2, i2, Int.toNat_natCast]
    refine ⟨by omega, by omega, fun g3 eg3 g4 eg4 => ?_⟩
    have h3 : g3 228 31 = (n : Int) := by rw [eg3, up2_ne _ _ _ (by omega)]; exact h2
    rw [h3] at eg4
    have f : ∀ b, b ≠ 228 → b ≠ 248 → g4 b = g b := fun b z1 z2 => by rw [eg4, up2_ne _ _ _ z1, eg3, up2_ne _ _ _ z2, eg2, up2_ne _ _ _ z2, eg1, up2_ne _ _ _ z2]
    have f8 : ∀ j, j ≠ 31 → g4 228 j = g 228 j := fun j hj => by rw [eg4]; simp only [up2_ap, if_true]; rw [if_neg hj, eg3, up2_ne _ _ _ (by omega), eg2, up2_ne _ _ _ (by omega), eg1, up2_ne _ _ _ (by omega)]
    have r : g4 228 31 = (n : Int) + 1 := by rw [eg4]; simp [up2_ap]
    have r8 : ∀ j, g4 248 j = if j = 3 * n + 2 then x3 else if j = 3 * n + 1 then x2 else if j = 3 * n then x1 else g 248 j := fun j => by
      rw [eg4, up2_ne _ _ _ (by omega), eg3, eg2, eg1]; simp only [up2_ap, if_true]
    rw [r]
    have e : opSeen T x1 x2 x3 = (sT T (T.1.1, T.1.2.1, T.1.2.2.1, T.1.2.2.2.1, T.1.2.2.2.2 ++ [(x1, x2, x3)]), (n : Int) + 1) := by unfold opSeen; rw [if_pos (by omega), if_pos (by omega), hn]
    rw [e] at k
    refine k g4 ⟨a1.same (f _ (by omega) (by omega)) (f _ (by omega) (by omega)), a2.same (f8 _ (by omega)) (f8 _ (by omega)) (f _ (by omega) (by omega)) (f _ (by omega) (by omega)), a3.same (f8 _ (by omega)) (f _ (by omega) (by omega)), ⟨by rw [r]; simp [sno_len, hn], fun i hi => ?_⟩, by rw [f8 13 (by omega), f8 4 (by omega), f8 27 (by omega), f8 28 (by omega), f8 30 (by omega)]; exact a5, a6.same (f _ (by omega) (by omega)) (f _ (by omega) (by omega)) (f _ (by omega) (by omega))⟩ (fun b hb => f b (by omega) (by omega))
    have hi : i < (T.1.2.2.2.2 ++ [(x1, x2, x3)]).length := hi
    rw [sno_len, hn] at hi
    show g4 248 (3 * i) = ((T.1.2.2.2.2 ++ [(x1, x2, x3)]).getD i (0, 0, 0)).1 ∧ g4 248 (3 * i + 1) = ((T.1.2.2.2.2 ++ [(x1, x2, x3)]).getD i (0, 0, 0)).2.1 ∧ g4 248 (3 * i + 2) = ((T.1.2.2.2.2 ++ [(x1, x2, x3)]).getD i (0, 0, 0)).2.2
    rw [sno_at, hn]
    by_cases q : i < n
    · rw [if_pos q, r8, r8, r8, if_neg (by omega), if_neg (by omega), if_neg (by omega), if_neg (by omega), if_neg (by omega), if_neg (by omega), if_neg (by omega), if_neg (by omega), if_neg (by omega)]
      exact a4.2 i (by omega)
    · have hin : i = n := by omega
      subst hin
      rw [if_neg q, if_pos rfl, r8, r8, r8]
      refine ⟨?_, ?_, ?_⟩
      · rw [if_neg (by omega), if_neg (by omega), if_pos rfl]
      · rw [if_neg (by omega), if_pos rfl]
      · rw [if_pos rfl]
  · have e : opSeen T x1 x2 x3 = (T, -4) := by unfold opSeen; rw [if_pos (by omega), if_neg (by omega)]
    rw [e] at k; exact k g h FrH.rfl
theorem j_forget (h : IM g T) (k : ∀ g', IM g' (opForget T).1 → FrH g g' → P (some (aI (opForget T).2)) g') : Zm w d mX11_forget 0 [some (aR (some 228)), none] [] g P := by
  obtain ⟨a1, a2, a3, a4, a5, a6⟩ := id h
  refine s_X11_forget_0 (fun v1 e1 g2 eg => ?_)
  rw [e1, a4.1]
  have f : ∀ b, b ≠ 228 → g2 b = g b := fun b z1 => by rw [eg, up2_ne _ _ _ z1]
  have f8 : ∀ j, j ≠ 31 → g2 228 j = g 228 j := fun j hj => by rw [eg]; simp [up2_ap, hj]
  exact k g2 ⟨a1.same (f _ (by omega)) (f _ (by omega)), a2.same (f8 _ (by omega)) (f8 _ (by omega)) (f _ (by omega)) (f _ (by omega)), a3.same (f8 _ (by omega)) (f _ (by omega)), ⟨by rw [eg]; simp [up2_ap, opForget], fun j hj => absurd hj (Nat.not_lt_zero j)⟩, by rw [f8 13 (by omega), f8 4 (by omega), f8 27 (by omega), f8 28 (by omega), f8 30 (by omega)]; exact a5, a6.same (f _ (by omega)) (f _ (by omega)) (f _ (by omega))⟩ (fun b hb => f b (by omega))
end MT2
