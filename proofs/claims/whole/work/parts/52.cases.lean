/-! the law: every call is answered alike -/
theorem nm_toInt (x : Int32) : nm x.toInt = x.toInt := by unfold nm; rw [Int32.ofInt_toInt]
theorem IC.hi {g g' : GI} {T : TT} (h : IC g T) (f : FrH g g') : IC g' T := by
  obtain ⟨⟨a1, a2, a3, a4, a5, a6⟩, b, c1, c2, c3⟩ := h
  exact ⟨⟨a1.same (f _ (by omega)) (f _ (by omega)), a2.same (f _ (by omega)) (f _ (by omega)), a3.same (f _ (by omega)) (f _ (by omega)) (f _ (by omega)), a4.same (f _ (by omega)) (f _ (by omega)) (f _ (by omega)), a5.same (f _ (by omega)) (f _ (by omega)), a6.same (fun b _ _ => f b (by omega))⟩, b.same (fun b _ _ => f b (by omega)) (fun j _ => by rw [f 18 (by omega)]) (by rw [f 0 (by omega)]), by rw [f 18 (by omega)]; exact c1, by rw [f 0 (by omega)]; exact c2, c3.same (fun b _ _ => f b (by omega))⟩
theorem IM.lo {g g' : GI} {T : TT} (h : IM g T) (f : FrL g g') : IM g' T :=
  h.keep (fun b _ _ _ => f b (by omega)) (fun j _ => by rw [f 228 (by omega)]) (fun j _ => by rw [f 238 (by omega)]) (fun j _ => by rw [f 239 (by omega)]) (f 240 (by omega)) (f 248 (by omega))
def Inv (g : GI) : Prop := ∃ T, GT T ∧ IC g T ∧ IM g T
section LC
variable {w : GX} {d : Nat} {P : PN} {g : GI}
theorem lb {i : Nat} (hi : 6 * i + 6 ≤ g_L w) (hL : g_L w ≤ 384) (j : Int) (h0 : 0 ≤ j) (h5 : j ≤ 5) : 0 ≤ nm (((6 * i : Nat) : Int) + j) ∧ nm (((6 * i : Nat) : Int) + j) < (g_L w : Int) := by
  rw [nm_id (by omega) (by omega)]; omega
theorem lc_184 {i : Nat} (hi : 6 * i + 6 ≤ g_L w) (hL : g_L w ≤ 384) (h : Inv g) (k : ∀ g', Inv g' → Zm w (d + 17) mL_law 1258 [some (aR (some SC)), some (aR (some 0)), some (aR (some 228)), some (aI ((6 * i : Nat) : Int))] [] g' P) : Zm w (d + 17) mL_law 184 [some (aR (some SC)), some (aR (some 0)), some (aR (some 228)), some (aI ((6 * i : Nat) : Int))] [] g P := by
  obtain ⟨T, hT, hc, hm⟩ := h
  have b1 := lb (w := w) hi hL 1 (by omega) (by omega)
  have b2 := lb (w := w) hi hL 2 (by omega) (by omega)
  refine s_L_law_184 _ ⟨(b1).1, (b1).2, (b2).1, (b2).2, ?_⟩
  refine k_type hT hc (nm_toInt _) (nm_toInt _) (fun g1 h1 f1 => ⟨_, rfl, (b1).1, (b1).2, (b2).1, (b2).2, ?_⟩)
  exact j_type hT (hm.lo f1) (nm_toInt _) (nm_toInt _) (fun g2 h2 f2 => ⟨_, rfl, fun _ => k g2 ⟨_, hT.type _ _, h1.hi f2, h2⟩, fun q => absurd rfl q⟩)
theorem lc_217 {i : Nat} (hi : 6 * i + 6 ≤ g_L w) (hL : g_L w ≤ 384) (h : Inv g) (k : ∀ g', Inv g' → Zm w (d + 17) mL_law 1258 [some (aR (some SC)), some (aR (some 0)), some (aR (some 228)), some (aI ((6 * i : Nat) : Int))] [] g' P) : Zm w (d + 17) mL_law 217 [some (aR (some SC)), some (aR (some 0)), some (aR (some 228)), some (aI ((6 * i : Nat) : Int))] [] g P := by
  obtain ⟨T, hT, hc, hm⟩ := h
  have b1 := lb (w := w) hi hL 1 (by omega) (by omega)
  refine s_L_law_217 _ ⟨(b1).1, (b1).2, ?_⟩
  refine k_wipe hc (nm_toInt _) (fun g1 h1 f1 => ⟨_, rfl, (b1).1, (b1).2, ?_⟩)
  exact j_wipe (hm.lo f1) (nm_toInt _) (fun g2 h2 f2 => ⟨_, rfl, fun _ => k g2 ⟨_, hT.wipe _, h1.hi f2, h2⟩, fun q => absurd rfl q⟩)
theorem lc_240 {i : Nat} (hi : 6 * i + 6 ≤ g_L w) (hL : g_L w ≤ 384) (h : Inv g) (k : ∀ g', Inv g' → Zm w (d + 17) mL_law 1258 [some (aR (some SC)), some (aR (some 0)), some (aR (some 228)), some (aI ((6 * i : Nat) : Int))] [] g' P) : Zm w (d + 17) mL_law 240 [some (aR (some SC)), some (aR (some 0)), some (aR (some 228)), some (aI ((6 * i : Nat) : Int))] [] g P := by
  obtain ⟨T, hT, hc, hm⟩ := h
  have b1 := lb (w := w) hi hL 1 (by omega) (by omega)
  refine s_L_law_240 _ ⟨(b1).1, (b1).2, ?_⟩
  refine k_undo hT hc (nm_toInt _) (fun g1 h1 f1 => ⟨_, rfl, (b1).1, (b1).2, ?_⟩)
  exact j_undo hT (hm.lo f1) (nm_toInt _) (fun g2 h2 f2 => ⟨_, rfl, fun _ => k g2 ⟨_, hT.undo _, h1.hi f2, h2⟩, fun q => absurd rfl q⟩)
theorem lc_263 {i : Nat} (hi : 6 * i + 6 ≤ g_L w) (hL : g_L w ≤ 384) (h : Inv g) (k : ∀ g', Inv g' → Zm w (d + 17) mL_law 1258 [some (aR (some SC)), some (aR (some 0)), some (aR (some 228)), some (aI ((6 * i : Nat) : Int))] [] g' P) : Zm w (d + 17) mL_law 263 [some (aR (some SC)), some (aR (some 0)), some (aR (some 228)), some (aI ((6 * i : Nat) : Int))] [] g P := by
  obtain ⟨T, hT, hc, hm⟩ := h
  have b1 := lb (w := w) hi hL 1 (by omega) (by omega)
  refine s_L_law_263 _ ⟨(b1).1, (b1).2, ?_⟩
  refine k_fault hT hc (nm_toInt _) (fun z1 v1 => ⟨z1, rfl, (b1).1, (b1).2, ?_⟩)
  refine j_fault hT hm (nm_toInt _) (fun g2 z2 v2 h2 f2 => ⟨z2, rfl, fun _ => k g2 ⟨T, hT, hc.hi f2, h2⟩, fun q => absurd (by rw [v1.one v2]) q⟩)
theorem lc_286 {i : Nat} (hi : 6 * i + 6 ≤ g_L w) (hL : g_L w ≤ 384) (h : Inv g) (k : ∀ g', Inv g' → Zm w (d + 17) mL_law 1258 [some (aR (some SC)), some (aR (some 0)), some (aR (some 228)), some (aI ((6 * i : Nat) : Int))] [] g' P) : Zm w (d + 17) mL_law 286 [some (aR (some SC)), some (aR (some 0)), some (aR (some 228)), some (aI ((6 * i : Nat) : Int))] [] g P := by
  obtain ⟨T, hT, hc, hm⟩ := h
  have b1 := lb (w := w) hi hL 1 (by omega) (by omega)
  refine s_L_law_286 _ ⟨(b1).1, (b1).2, ?_⟩
  refine k_cell hT hc (nm_toInt _) (fun g1 h1 f1 => ⟨_, rfl, (b1).1, (b1).2, ?_⟩)
  exact j_cell hT (hm.lo f1) (nm_toInt _) (fun g2 h2 f2 => ⟨_, rfl, fun _ => k g2 ⟨_, hT, h1.hi f2, h2⟩, fun q => absurd rfl q⟩)
theorem lc_309 {i : Nat} (hi : 6 * i + 6 ≤ g_L w) (hL : g_L w ≤ 384) (h : Inv g) (k : ∀ g', Inv g' → Zm w (d + 17) mL_law 1258 [some (aR (some SC)), some (aR (some 0)), some (aR (some 228)), some (aI ((6 * i : Nat) : Int))] [] g' P) : Zm w (d + 17) mL_law 309 [some (aR (some SC)), some (aR (some 0)), some (aR (some 228)), some (aI ((6 * i : Nat) : Int))] [] g P := by
  obtain ⟨T, hT, hc, hm⟩ := h
  have b1 := lb (w := w) hi hL 1 (by omega) (by omega)
  have b2 := lb (w := w) hi hL 2 (by omega) (by omega)
  refine s_L_law_309 _ ⟨(b1).1, (b1).2, (b2).1, (b2).2, ?_⟩
  refine k_person hT hc (nm_toInt _) (nm_toInt _) (fun g1 h1 f1 => ⟨_, rfl, (b1).1, (b1).2, (b2).1, (b2).2, ?_⟩)
  exact j_person hT (hm.lo f1) (nm_toInt _) (nm_toInt _) (fun g2 h2 f2 => ⟨_, rfl, fun _ => k g2 ⟨_, hT, h1.1.hi f2, h2⟩, fun q => absurd rfl q⟩)
theorem lc_342 {i : Nat} (hi : 6 * i + 6 ≤ g_L w) (hL : g_L w ≤ 384) (h : Inv g) (k : ∀ g', Inv g' → Zm w (d + 17) mL_law 1258 [some (aR (some SC)), some (aR (some 0)), some (aR (some 228)), some (aI ((6 * i : Nat) : Int))] [] g' P) : Zm w (d + 17) mL_law 342 [some (aR (some SC)), some (aR (some 0)), some (aR (some 228)), some (aI ((6 * i : Nat) : Int))] [] g P := by
  obtain ⟨T, hT, hc, hm⟩ := h
  have b1 := lb (w := w) hi hL 1 (by omega) (by omega)
  refine s_L_law_342 _ ⟨(b1).1, (b1).2, ?_⟩
  refine k_wear hc (nm_toInt _) (fun g1 h1 f1 => ⟨_, rfl, (b1).1, (b1).2, ?_⟩)
  exact j_wear (hm.lo f1) (nm_toInt _) (fun g2 h2 f2 => ⟨_, rfl, fun _ => k g2 ⟨_, hT.wear _, h1.hi f2, h2⟩, fun q => absurd rfl q⟩)
theorem lc_365 {i : Nat} (hi : 6 * i + 6 ≤ g_L w) (hL : g_L w ≤ 384) (h : Inv g) (k : ∀ g', Inv g' → Zm w (d + 17) mL_law 1258 [some (aR (some SC)), some (aR (some 0)), some (aR (some 228)), some (aI ((6 * i : Nat) : Int))] [] g' P) : Zm w (d + 17) mL_law 365 [some (aR (some SC)), some (aR (some 0)), some (aR (some 228)), some (aI ((6 * i : Nat) : Int))] [] g P := by
  obtain ⟨T, hT, hc, hm⟩ := h
  have b1 := lb (w := w) hi hL 1 (by omega) (by omega)
  have b2 := lb (w := w) hi hL 2 (by omega) (by omega)
  refine s_L_law_365 _ ⟨(b1).1, (b1).2, (b2).1, (b2).2, ?_⟩
  refine k_cross hT hc (nm_toInt _) (nm_toInt _) (fun g1 h1 f1 => ⟨_, rfl, (b1).1, (b1).2, (b2).1, (b2).2, ?_⟩)
  exact j_cross hT (hm.lo f1) (nm_toInt _) (nm_toInt _) (fun g2 h2 f2 => ⟨_, rfl, fun _ => k g2 ⟨_, hT.cross _ _, h1.hi f2, h2⟩, fun q => absurd rfl q⟩)
theorem lc_398 {i : Nat} (hi : 6 * i + 6 ≤ g_L w) (hL : g_L w ≤ 384) (h : Inv g) (k : ∀ g', Inv g' → Zm w (d + 17) mL_law 1258 [some (aR (some SC)), some (aR (some 0)), some (aR (some 228)), some (aI ((6 * i : Nat) : Int))] [] g' P) : Zm w (d + 17) mL_law 398 [some (aR (some SC)), some (aR (some 0)), some (aR (some 228)), some (aI ((6 * i : Nat) : Int))] [] g P := by
  obtain ⟨T, hT, hc, hm⟩ := h
  have b1 := lb (w := w) hi hL 1 (by omega) (by omega)
  have b2 := lb (w := w) hi hL 2 (by omega) (by omega)
  refine s_L_law_398 _ ⟨(b1).1, (b1).2, (b2).1, (b2).2, ?_⟩
  refine k_angle hT hc (nm_toInt _) (nm_toInt _) (fun g1 h1 f1 => ⟨_, rfl, (b1).1, (b1).2, (b2).1, (b2).2, ?_⟩)
  exact j_angle hT (hm.lo f1) (nm_toInt _) (nm_toInt _) (fun g2 h2 f2 => ⟨_, rfl, fun _ => k g2 ⟨_, hT.angle _ _, h1.hi f2, h2⟩, fun q => absurd rfl q⟩)
theorem lc_431 {i : Nat} (hi : 6 * i + 6 ≤ g_L w) (hL : g_L w ≤ 384) (h : Inv g) (k : ∀ g', Inv g' → Zm w (d + 17) mL_law 1258 [some (aR (some SC)), some (aR (some 0)), some (aR (some 228)), some (aI ((6 * i : Nat) : Int))] [] g' P) : Zm w (d + 17) mL_law 431 [some (aR (some SC)), some (aR (some 0)), some (aR (some 228)), some (aI ((6 * i : Nat) : Int))] [] g P := by
  obtain ⟨T, hT, hc, hm⟩ := h
  have b1 := lb (w := w) hi hL 1 (by omega) (by omega)
  refine s_L_law_431 _ ⟨(b1).1, (b1).2, ?_⟩
  refine k_flood hT hc (nm_toInt _) (fun g1 h1 f1 => ⟨_, rfl, (b1).1, (b1).2, ?_⟩)
  exact j_flood hT (hm.lo f1) (nm_toInt _) (fun g2 h2 f2 => ⟨_, rfl, fun _ => k g2 ⟨_, hT.flood _, h1.hi f2, h2⟩, fun q => absurd rfl q⟩)
theorem lc_454 {i : Nat} (hi : 6 * i + 6 ≤ g_L w) (hL : g_L w ≤ 384) (h : Inv g) (k : ∀ g', Inv g' → Zm w (d + 17) mL_law 1258 [some (aR (some SC)), some (aR (some 0)), some (aR (some 228)), some (aI ((6 * i : Nat) : Int))] [] g' P) : Zm w (d + 17) mL_law 454 [some (aR (some SC)), some (aR (some 0)), some (aR (some 228)), some (aI ((6 * i : Nat) : Int))] [] g P := by
  obtain ⟨T, hT, hc, hm⟩ := h
  have b1 := lb (w := w) hi hL 1 (by omega) (by omega)
  refine s_L_law_454 _ ⟨(b1).1, (b1).2, ?_⟩
  refine k_back hT hc (nm_toInt _) (fun g1 h1 f1 => ⟨_, rfl, (b1).1, (b1).2, ?_⟩)
  exact j_back hT (hm.lo f1) (nm_toInt _) (fun g2 h2 f2 => ⟨_, rfl, fun _ => k g2 ⟨_, hT.back _, h1.hi f2, h2⟩, fun q => absurd rfl q⟩)
theorem lc_477 {i : Nat} (hi : 6 * i + 6 ≤ g_L w) (hL : g_L w ≤ 384) (h : Inv g) (k : ∀ g', Inv g' → Zm w (d + 17) mL_law 1258 [some (aR (some SC)), some (aR (some 0)), some (aR (some 228)), some (aI ((6 * i : Nat) : Int))] [] g' P) : Zm w (d + 17) mL_law 477 [some (aR (some SC)), some (aR (some 0)), some (aR (some 228)), some (aI ((6 * i : Nat) : Int))] [] g P := by
  obtain ⟨T, hT, hc, hm⟩ := h
  have b1 := lb (w := w) hi hL 1 (by omega) (by omega)
  refine s_L_law_477 _ ⟨(b1).1, (b1).2, ?_⟩
  refine k_read hT hc (nm_toInt _) (fun g1 h1 f1 => ⟨_, rfl, (b1).1, (b1).2, ?_⟩)
  exact j_read hT (hm.lo f1) (nm_toInt _) (fun g2 h2 f2 => ⟨_, rfl, fun _ => k g2 ⟨_, hT.read _, h1.hi f2, h2⟩, fun q => absurd rfl q⟩)
theorem lc_500 {i : Nat} (hi : 6 * i + 6 ≤ g_L w) (hL : g_L w ≤ 384) (h : Inv g) (k : ∀ g', Inv g' → Zm w (d + 17) mL_law 1258 [some (aR (some SC)), some (aR (some 0)), some (aR (some 228)), some (aI ((6 * i : Nat) : Int))] [] g' P) : Zm w (d + 17) mL_law 500 [some (aR (some SC)), some (aR (some 0)), some (aR (some 228)), some (aI ((6 * i : Nat) : Int))] [] g P := by
  obtain ⟨T, hT, hc, hm⟩ := h
  have b1 := lb (w := w) hi hL 1 (by omega) (by omega)
  have b2 := lb (w := w) hi hL 2 (by omega) (by omega)
  have b3 := lb (w := w) hi hL 3 (by omega) (by omega)
  refine s_L_law_500 _ ⟨(b1).1, (b1).2, (b2).1, (b2).2, (b3).1, (b3).2, ?_⟩
  refine k_called hT hc (nm_toInt _) (nm_toInt _) (nm_toInt _) (fun g1 h1 f1 => ⟨_, rfl, (b1).1, (b1).2, (b2).1, (b2).2, (b3).1, (b3).2, ?_⟩)
  exact j_called hT (hm.lo f1) (nm_toInt _) (nm_toInt _) (nm_toInt _) (fun g2 h2 f2 => ⟨_, rfl, fun _ => k g2 ⟨_, hT, h1.1.hi f2, h2⟩, fun q => absurd rfl q⟩)
theorem lc_543 {i : Nat} (hi : 6 * i + 6 ≤ g_L w) (hL : g_L w ≤ 384) (h : Inv g) (k : ∀ g', Inv g' → Zm w (d + 17) mL_law 1258 [some (aR (some SC)), some (aR (some 0)), some (aR (some 228)), some (aI ((6 * i : Nat) : Int))] [] g' P) : Zm w (d + 17) mL_law 543 [some (aR (some SC)), some (aR (some 0)), some (aR (some 228)), some (aI ((6 * i : Nat) : Int))] [] g P := by
  obtain ⟨T, hT, hc, hm⟩ := h
  have b1 := lb (w := w) hi hL 1 (by omega) (by omega)
  have b2 := lb (w := w) hi hL 2 (by omega) (by omega)
  have b3 := lb (w := w) hi hL 3 (by omega) (by omega)
  refine s_L_law_543 _ ⟨(b1).1, (b1).2, (b2).1, (b2).2, (b3).1, (b3).2, ?_⟩
  refine k_name hT hc (nm_toInt _) (nm_toInt _) (nm_toInt _) (fun g1 h1 f1 => ⟨_, rfl, (b1).1, (b1).2, (b2).1, (b2).2, (b3).1, (b3).2, ?_⟩)
  exact j_name hT (hm.lo f1) (nm_toInt _) (nm_toInt _) (nm_toInt _) (fun g2 h2 f2 => ⟨_, rfl, fun _ => k g2 ⟨_, hT, h1.1.hi f2, h2⟩, fun q => absurd rfl q⟩)
theorem lc_586 {i : Nat} (hi : 6 * i + 6 ≤ g_L w) (hL : g_L w ≤ 384) (h : Inv g) (k : ∀ g', Inv g' → Zm w (d + 17) mL_law 1258 [some (aR (some SC)), some (aR (some 0)), some (aR (some 228)), some (aI ((6 * i : Nat) : Int))] [] g' P) : Zm w (d + 17) mL_law 586 [some (aR (some SC)), some (aR (some 0)), some (aR (some 228)), some (aI ((6 * i : Nat) : Int))] [] g P := by
  obtain ⟨T, hT, hc, hm⟩ := h
  have b1 := lb (w := w) hi hL 1 (by omega) (by omega)
  refine s_L_law_586 _ ⟨(b1).1, (b1).2, ?_⟩
  refine k_same hT hc (nm_toInt _) (fun g1 h1 f1 => ⟨_, rfl, (b1).1, (b1).2, ?_⟩)
  exact j_same hT (hm.lo f1) (nm_toInt _) (fun g2 h2 f2 => ⟨_, rfl, fun _ => k g2 ⟨_, hT, h1.1.hi f2, h2⟩, fun q => absurd rfl q⟩)
theorem lc_609 {i : Nat} (hi : 6 * i + 6 ≤ g_L w) (hL : g_L w ≤ 384) (h : Inv g) (k : ∀ g', Inv g' → Zm w (d + 17) mL_law 1258 [some (aR (some SC)), some (aR (some 0)), some (aR (some 228)), some (aI ((6 * i : Nat) : Int))] [] g' P) : Zm w (d + 17) mL_law 609 [some (aR (some SC)), some (aR (some 0)), some (aR (some 228)), some (aI ((6 * i : Nat) : Int))] [] g P := by
  obtain ⟨T, hT, hc, hm⟩ := h
  have b1 := lb (w := w) hi hL 1 (by omega) (by omega)
  refine s_L_law_609 _ ⟨(b1).1, (b1).2, ?_⟩
  refine k_first hT hc (nm_toInt _) (fun g1 z1 v1 h1 f1 => ⟨z1, rfl, (b1).1, (b1).2, ?_⟩)
  refine j_first hT (hm.lo f1) (nm_toInt _) (fun g2 z2 v2 h2 f2 => ⟨z2, rfl, fun _ => k g2 ⟨T, hT, h1.1.hi f2, h2⟩, fun q => absurd (by rw [v1.one v2]) q⟩)
theorem lc_632 {i : Nat} (hi : 6 * i + 6 ≤ g_L w) (hL : g_L w ≤ 384) (h : Inv g) (k : ∀ g', Inv g' → Zm w (d + 17) mL_law 1258 [some (aR (some SC)), some (aR (some 0)), some (aR (some 228)), some (aI ((6 * i : Nat) : Int))] [] g' P) : Zm w (d + 17) mL_law 632 [some (aR (some SC)), some (aR (some 0)), some (aR (some 228)), some (aI ((6 * i : Nat) : Int))] [] g P := by
  obtain ⟨T, hT, hc, hm⟩ := h
  have b1 := lb (w := w) hi hL 1 (by omega) (by omega)
  refine s_L_law_632 _ ⟨(b1).1, (b1).2, ?_⟩
  refine k_changes hT hc (nm_toInt _) (fun g1 h1 f1 => ⟨_, rfl, (b1).1, (b1).2, ?_⟩)
  exact j_changes hT (hm.lo f1) (nm_toInt _) (fun g2 h2 f2 => ⟨_, rfl, fun _ => k g2 ⟨_, hT, h1.1.hi f2, h2⟩, fun q => absurd rfl q⟩)
theorem lc_655 {i : Nat} (hi : 6 * i + 6 ≤ g_L w) (hL : g_L w ≤ 384) (h : Inv g) (k : ∀ g', Inv g' → Zm w (d + 17) mL_law 1258 [some (aR (some SC)), some (aR (some 0)), some (aR (some 228)), some (aI ((6 * i : Nat) : Int))] [] g' P) : Zm w (d + 17) mL_law 655 [some (aR (some SC)), some (aR (some 0)), some (aR (some 228)), some (aI ((6 * i : Nat) : Int))] [] g P := by
  obtain ⟨T, hT, hc, hm⟩ := h
  have b1 := lb (w := w) hi hL 1 (by omega) (by omega)
  have b2 := lb (w := w) hi hL 2 (by omega) (by omega)
  have b3 := lb (w := w) hi hL 3 (by omega) (by omega)
  have b4 := lb (w := w) hi hL 4 (by omega) (by omega)
  refine s_L_law_655 _ ⟨(b1).1, (b1).2, (b2).1, (b2).2, (b3).1, (b3).2, (b4).1, (b4).2, ?_⟩
  refine k_returns hT hc (nm_toInt _) (nm_toInt _) (nm_toInt _) (nm_toInt _) (fun g1 z1 v1 h1 f1 => ⟨z1, rfl, (b1).1, (b1).2, (b2).1, (b2).2, (b3).1, (b3).2, (b4).1, (b4).2, ?_⟩)
  refine j_returns hT (hm.lo f1) (nm_toInt _) (nm_toInt _) (nm_toInt _) (nm_toInt _) (fun g2 z2 v2 h2 f2 => ⟨z2, rfl, fun _ => k g2 ⟨T, hT, h1.1.hi f2, h2⟩, fun q => absurd (by rw [v1.one v2]) q⟩)
theorem lc_708 {i : Nat} (hi : 6 * i + 6 ≤ g_L w) (hL : g_L w ≤ 384) (h : Inv g) (k : ∀ g', Inv g' → Zm w (d + 17) mL_law 1258 [some (aR (some SC)), some (aR (some 0)), some (aR (some 228)), some (aI ((6 * i : Nat) : Int))] [] g' P) : Zm w (d + 17) mL_law 708 [some (aR (some SC)), some (aR (some 0)), some (aR (some 228)), some (aI ((6 * i : Nat) : Int))] [] g P := by
  obtain ⟨T, hT, hc, hm⟩ := h
  have b1 := lb (w := w) hi hL 1 (by omega) (by omega)
  have b2 := lb (w := w) hi hL 2 (by omega) (by omega)
  refine s_L_law_708 _ ⟨(b1).1, (b1).2, (b2).1, (b2).2, ?_⟩
  refine k_net hT hc (nm_toInt _) (nm_toInt _) (fun g1 h1 f1 => ⟨_, rfl, (b1).1, (b1).2, (b2).1, (b2).2, ?_⟩)
  exact j_net hT (hm.lo f1) (nm_toInt _) (nm_toInt _) (fun g2 h2 f2 => ⟨_, rfl, fun _ => k g2 ⟨_, hT, h1.1.hi f2, h2⟩, fun q => absurd rfl q⟩)
theorem lc_741 {i : Nat} (hi : 6 * i + 6 ≤ g_L w) (hL : g_L w ≤ 384) (h : Inv g) (k : ∀ g', Inv g' → Zm w (d + 17) mL_law 1258 [some (aR (some SC)), some (aR (some 0)), some (aR (some 228)), some (aI ((6 * i : Nat) : Int))] [] g' P) : Zm w (d + 17) mL_law 741 [some (aR (some SC)), some (aR (some 0)), some (aR (some 228)), some (aI ((6 * i : Nat) : Int))] [] g P := by
  obtain ⟨T, hT, hc, hm⟩ := h
  have b1 := lb (w := w) hi hL 1 (by omega) (by omega)
  have b2 := lb (w := w) hi hL 2 (by omega) (by omega)
  have b3 := lb (w := w) hi hL 3 (by omega) (by omega)
  refine s_L_law_741 _ ⟨(b1).1, (b1).2, (b2).1, (b2).2, (b3).1, (b3).2, ?_⟩
  refine k_seen hT hc (nm_toInt _) (nm_toInt _) (nm_toInt _) (fun g1 h1 f1 => ⟨_, rfl, (b1).1, (b1).2, (b2).1, (b2).2, (b3).1, (b3).2, ?_⟩)
  exact j_seen hT (hm.lo f1) (nm_toInt _) (nm_toInt _) (nm_toInt _) (fun g2 h2 f2 => ⟨_, rfl, fun _ => k g2 ⟨_, hT.seen _ _ _, h1.hi f2, h2⟩, fun q => absurd rfl q⟩)
theorem lc_784 {i : Nat} (hi : 6 * i + 6 ≤ g_L w) (hL : g_L w ≤ 384) (h : Inv g) (k : ∀ g', Inv g' → Zm w (d + 17) mL_law 1258 [some (aR (some SC)), some (aR (some 0)), some (aR (some 228)), some (aI ((6 * i : Nat) : Int))] [] g' P) : Zm w (d + 17) mL_law 784 [some (aR (some SC)), some (aR (some 0)), some (aR (some 228)), some (aI ((6 * i : Nat) : Int))] [] g P := by
  obtain ⟨T, hT, hc, hm⟩ := h
  refine s_L_law_784 _ ?_
  refine k_forget hc (fun g1 h1 f1 => ⟨_, rfl, ?_⟩)
  exact j_forget (hm.lo f1) (fun g2 h2 f2 => ⟨_, rfl, fun _ => k g2 ⟨_, hT.forget, h1.hi f2, h2⟩, fun q => absurd rfl q⟩)
theorem lc_797 {i : Nat} (hi : 6 * i + 6 ≤ g_L w) (hL : g_L w ≤ 384) (h : Inv g) (k : ∀ g', Inv g' → Zm w (d + 17) mL_law 1258 [some (aR (some SC)), some (aR (some 0)), some (aR (some 228)), some (aI ((6 * i : Nat) : Int))] [] g' P) : Zm w (d + 17) mL_law 797 [some (aR (some SC)), some (aR (some 0)), some (aR (some 228)), some (aI ((6 * i : Nat) : Int))] [] g P := by
  obtain ⟨T, hT, hc, hm⟩ := h
  refine s_L_law_797 _ ?_
  refine k_never hT hc (fun g1 z1 v1 h1 f1 => ⟨z1, rfl, ?_⟩)
  refine j_never hT (hm.lo f1) (fun g2 z2 v2 h2 f2 => ⟨z2, rfl, fun _ => k g2 ⟨T, hT, h1.1.hi f2, h2⟩, fun q => absurd (by rw [v1.uniq v2]) q⟩)
theorem lc_810 {i : Nat} (hi : 6 * i + 6 ≤ g_L w) (hL : g_L w ≤ 384) (h : Inv g) (k : ∀ g', Inv g' → Zm w (d + 17) mL_law 1258 [some (aR (some SC)), some (aR (some 0)), some (aR (some 228)), some (aI ((6 * i : Nat) : Int))] [] g' P) : Zm w (d + 17) mL_law 810 [some (aR (some SC)), some (aR (some 0)), some (aR (some 228)), some (aI ((6 * i : Nat) : Int))] [] g P := by
  obtain ⟨T, hT, hc, hm⟩ := h
  have b1 := lb (w := w) hi hL 1 (by omega) (by omega)
  refine s_L_law_810 _ ⟨(b1).1, (b1).2, ?_⟩
  refine k_lucky hT hc (nm_toInt _) (fun g1 z1 v1 h1 f1 => ⟨z1, rfl, (b1).1, (b1).2, ?_⟩)
  refine j_lucky hT (hm.lo f1) (nm_toInt _) (fun g2 z2 v2 h2 f2 => ⟨z2, rfl, fun _ => k g2 ⟨T, hT, h1.1.hi f2, h2⟩, fun q => absurd (by rw [v1.one v2]) q⟩)
theorem lc_833 {i : Nat} (hi : 6 * i + 6 ≤ g_L w) (hL : g_L w ≤ 384) (h : Inv g) (k : ∀ g', Inv g' → Zm w (d + 17) mL_law 1258 [some (aR (some SC)), some (aR (some 0)), some (aR (some 228)), some (aI ((6 * i : Nat) : Int))] [] g' P) : Zm w (d + 17) mL_law 833 [some (aR (some SC)), some (aR (some 0)), some (aR (some 228)), some (aI ((6 * i : Nat) : Int))] [] g P := by
  obtain ⟨T, hT, hc, hm⟩ := h
  have b1 := lb (w := w) hi hL 1 (by omega) (by omega)
  refine s_L_law_833 _ ⟨(b1).1, (b1).2, ?_⟩
  refine k_ask hT hc (nm_toInt _) (fun g1 h1 f1 => ⟨_, rfl, (b1).1, (b1).2, ?_⟩)
  exact j_ask hT (hm.lo f1) (nm_toInt _) (fun g2 h2 f2 => ⟨_, rfl, fun _ => k g2 ⟨_, hT, h1.1.hi f2, h2⟩, fun q => absurd rfl q⟩)
theorem lc_856 {i : Nat} (hi : 6 * i + 6 ≤ g_L w) (hL : g_L w ≤ 384) (h : Inv g) (k : ∀ g', Inv g' → Zm w (d + 17) mL_law 1258 [some (aR (some SC)), some (aR (some 0)), some (aR (some 228)), some (aI ((6 * i : Nat) : Int))] [] g' P) : Zm w (d + 17) mL_law 856 [some (aR (some SC)), some (aR (some 0)), some (aR (some 228)), some (aI ((6 * i : Nat) : Int))] [] g P := by
  obtain ⟨T, hT, hc, hm⟩ := h
  have b1 := lb (w := w) hi hL 1 (by omega) (by omega)
  have b2 := lb (w := w) hi hL 2 (by omega) (by omega)
  have b3 := lb (w := w) hi hL 3 (by omega) (by omega)
  have b4 := lb (w := w) hi hL 4 (by omega) (by omega)
  have b5 := lb (w := w) hi hL 5 (by omega) (by omega)
  refine s_L_law_856 _ ⟨(b1).1, (b1).2, (b2).1, (b2).2, (b3).1, (b3).2, (b4).1, (b4).2, (b5).1, (b5).2, ?_⟩
  refine k_flooded hT hc (nm_toInt _) (nm_toInt _) (nm_toInt _) (nm_toInt _) (nm_toInt _) (fun g1 h1 f1 => ⟨_, rfl, (b1).1, (b1).2, (b2).1, (b2).2, (b3).1, (b3).2, (b4).1, (b4).2, (b5).1, (b5).2, ?_⟩)
  exact j_flooded hT (hm.lo f1) (nm_toInt _) (nm_toInt _) (nm_toInt _) (nm_toInt _) (nm_toInt _) (fun g2 h2 f2 => ⟨_, rfl, fun _ => k g2 ⟨_, hT, h1.1.hi f2, h2⟩, fun q => absurd ((lCmp_eq _ _).mpr rfl) q⟩)
theorem lc_920 {i : Nat} (hi : 6 * i + 6 ≤ g_L w) (hL : g_L w ≤ 384) (h : Inv g) (k : ∀ g', Inv g' → Zm w (d + 17) mL_law 1258 [some (aR (some SC)), some (aR (some 0)), some (aR (some 228)), some (aI ((6 * i : Nat) : Int))] [] g' P) : Zm w (d + 17) mL_law 920 [some (aR (some SC)), some (aR (some 0)), some (aR (some 228)), some (aI ((6 * i : Nat) : Int))] [] g P := by
  obtain ⟨T, hT, hc, hm⟩ := h
  have b1 := lb (w := w) hi hL 1 (by omega) (by omega)
  have b2 := lb (w := w) hi hL 2 (by omega) (by omega)
  have b3 := lb (w := w) hi hL 3 (by omega) (by omega)
  refine s_L_law_920 _ ⟨(b1).1, (b1).2, (b2).1, (b2).2, (b3).1, (b3).2, ?_⟩
  refine k_crowd hT hc (nm_toInt _) (nm_toInt _) (fun g1 h1 f1 => ⟨_, rfl, (b1).1, (b1).2, (b2).1, (b2).2, (b3).1, (b3).2, ?_⟩)
  exact j_crowd hT (hm.lo f1) (nm_toInt _) (nm_toInt _) (fun g2 h2 f2 => ⟨_, rfl, fun _ => k g2 ⟨_, hT, h1.1.hi f2, h2⟩, fun q => absurd rfl q⟩)
theorem lc_963 {i : Nat} (hi : 6 * i + 6 ≤ g_L w) (hL : g_L w ≤ 384) (h : Inv g) (k : ∀ g', Inv g' → Zm w (d + 17) mL_law 1258 [some (aR (some SC)), some (aR (some 0)), some (aR (some 228)), some (aI ((6 * i : Nat) : Int))] [] g' P) : Zm w (d + 17) mL_law 963 [some (aR (some SC)), some (aR (some 0)), some (aR (some 228)), some (aI ((6 * i : Nat) : Int))] [] g P := by
  obtain ⟨T, hT, hc, hm⟩ := h
  have b1 := lb (w := w) hi hL 1 (by omega) (by omega)
  have b2 := lb (w := w) hi hL 2 (by omega) (by omega)
  have b3 := lb (w := w) hi hL 3 (by omega) (by omega)
  refine s_L_law_963 _ ⟨(b1).1, (b1).2, (b2).1, (b2).2, (b3).1, (b3).2, ?_⟩
  refine k_sheet hc (nm_toInt _) (nm_toInt _) (nm_toInt _) (fun g1 h1 f1 => ⟨_, rfl, (b1).1, (b1).2, (b2).1, (b2).2, (b3).1, (b3).2, ?_⟩)
  exact j_sheet hT (hm.lo f1) (nm_toInt _) (nm_toInt _) (nm_toInt _) (fun g2 h2 f2 => ⟨_, rfl, fun _ => k g2 ⟨_, hT.sheet _ _ _, h1.hi f2, h2⟩, fun q => absurd rfl q⟩)
theorem lc_1006 {i : Nat} (hi : 6 * i + 6 ≤ g_L w) (hL : g_L w ≤ 384) (h : Inv g) (k : ∀ g', Inv g' → Zm w (d + 17) mL_law 1258 [some (aR (some SC)), some (aR (some 0)), some (aR (some 228)), some (aI ((6 * i : Nat) : Int))] [] g' P) : Zm w (d + 17) mL_law 1006 [some (aR (some SC)), some (aR (some 0)), some (aR (some 228)), some (aI ((6 * i : Nat) : Int))] [] g P := by
  obtain ⟨T, hT, hc, hm⟩ := h
  have b1 := lb (w := w) hi hL 1 (by omega) (by omega)
  refine s_L_law_1006 _ ⟨(b1).1, (b1).2, ?_⟩
  refine k_lose hT hc (nm_toInt _) (fun g1 h1 f1 => ⟨_, rfl, (b1).1, (b1).2, ?_⟩)
  exact j_lose hT (hm.lo f1) (nm_toInt _) (fun g2 h2 f2 => ⟨_, rfl, fun _ => k g2 ⟨_, hT.lose _, h1.hi f2, h2⟩, fun q => absurd rfl q⟩)
theorem lc_1029 {i : Nat} (hi : 6 * i + 6 ≤ g_L w) (hL : g_L w ≤ 384) (h : Inv g) (k : ∀ g', Inv g' → Zm w (d + 17) mL_law 1258 [some (aR (some SC)), some (aR (some 0)), some (aR (some 228)), some (aI ((6 * i : Nat) : Int))] [] g' P) : Zm w (d + 17) mL_law 1029 [some (aR (some SC)), some (aR (some 0)), some (aR (some 228)), some (aI ((6 * i : Nat) : Int))] [] g P := by
  obtain ⟨T, hT, hc, hm⟩ := h
  have b1 := lb (w := w) hi hL 1 (by omega) (by omega)
  have b2 := lb (w := w) hi hL 2 (by omega) (by omega)
  have b3 := lb (w := w) hi hL 3 (by omega) (by omega)
  have b4 := lb (w := w) hi hL 4 (by omega) (by omega)
  refine s_L_law_1029 _ ⟨(b1).1, (b1).2, (b2).1, (b2).2, (b3).1, (b3).2, (b4).1, (b4).2, ?_⟩
  refine k_lay hT hc (nm_toInt _) (nm_toInt _) (nm_toInt _) (fun g1 h1 f1 => ⟨_, rfl, (b1).1, (b1).2, (b2).1, (b2).2, (b3).1, (b3).2, (b4).1, (b4).2, ?_⟩)
  exact j_lay hT (hm.lo f1) (nm_toInt _) (nm_toInt _) (nm_toInt _) (fun g2 h2 f2 => ⟨_, rfl, fun _ => k g2 ⟨_, hT.lay _ _ _ _ (nm_toInt _), h1.hi f2, h2⟩, fun q => absurd rfl q⟩)
theorem lc_1082 {i : Nat} (hi : 6 * i + 6 ≤ g_L w) (hL : g_L w ≤ 384) (h : Inv g) (k : ∀ g', Inv g' → Zm w (d + 17) mL_law 1258 [some (aR (some SC)), some (aR (some 0)), some (aR (some 228)), some (aI ((6 * i : Nat) : Int))] [] g' P) : Zm w (d + 17) mL_law 1082 [some (aR (some SC)), some (aR (some 0)), some (aR (some 228)), some (aI ((6 * i : Nat) : Int))] [] g P := by
  obtain ⟨T, hT, hc, hm⟩ := h
  have b1 := lb (w := w) hi hL 1 (by omega) (by omega)
  have b2 := lb (w := w) hi hL 2 (by omega) (by omega)
  have b3 := lb (w := w) hi hL 3 (by omega) (by omega)
  refine s_L_law_1082 _ ⟨(b1).1, (b1).2, (b2).1, (b2).2, (b3).1, (b3).2, ?_⟩
  refine k_get hT hc (nm_toInt _) (nm_toInt _) (nm_toInt _) (fun g1 h1 f1 => ⟨_, rfl, (b1).1, (b1).2, (b2).1, (b2).2, (b3).1, (b3).2, ?_⟩)
  exact j_get hT (hm.lo f1) (nm_toInt _) (nm_toInt _) (nm_toInt _) (fun g2 h2 f2 => ⟨_, rfl, fun _ => k g2 ⟨_, hT.get _ _ _, h1.hi f2, h2⟩, fun q => absurd rfl q⟩)
theorem lc_1125 {i : Nat} (hi : 6 * i + 6 ≤ g_L w) (hL : g_L w ≤ 384) (h : Inv g) (k : ∀ g', Inv g' → Zm w (d + 17) mL_law 1258 [some (aR (some SC)), some (aR (some 0)), some (aR (some 228)), some (aI ((6 * i : Nat) : Int))] [] g' P) : Zm w (d + 17) mL_law 1125 [some (aR (some SC)), some (aR (some 0)), some (aR (some 228)), some (aI ((6 * i : Nat) : Int))] [] g P := by
  obtain ⟨T, hT, hc, hm⟩ := h
  have b1 := lb (w := w) hi hL 1 (by omega) (by omega)
  have b2 := lb (w := w) hi hL 2 (by omega) (by omega)
  have b3 := lb (w := w) hi hL 3 (by omega) (by omega)
  have b4 := lb (w := w) hi hL 4 (by omega) (by omega)
  have b5 := lb (w := w) hi hL 5 (by omega) (by omega)
  refine s_L_law_1125 _ ⟨(b1).1, (b1).2, (b2).1, (b2).2, (b3).1, (b3).2, (b4).1, (b4).2, (b5).1, (b5).2, ?_⟩
  refine k_copy hT hc (nm_toInt _) (nm_toInt _) (nm_toInt _) (nm_toInt _) (nm_toInt _) (fun g1 h1 f1 => ⟨_, rfl, (b1).1, (b1).2, (b2).1, (b2).2, (b3).1, (b3).2, (b4).1, (b4).2, (b5).1, (b5).2, ?_⟩)
  exact j_copy hT (hm.lo f1) (nm_toInt _) (nm_toInt _) (nm_toInt _) (nm_toInt _) (nm_toInt _) (fun g2 h2 f2 => ⟨_, rfl, fun _ => k g2 ⟨_, hT.copy _ _ _ _ _, h1.hi f2, h2⟩, fun q => absurd rfl q⟩)
theorem lc_1188 {i : Nat} (hi : 6 * i + 6 ≤ g_L w) (hL : g_L w ≤ 384) (h : Inv g) (k : ∀ g', Inv g' → Zm w (d + 17) mL_law 1258 [some (aR (some SC)), some (aR (some 0)), some (aR (some 228)), some (aI ((6 * i : Nat) : Int))] [] g' P) : Zm w (d + 17) mL_law 1188 [some (aR (some SC)), some (aR (some 0)), some (aR (some 228)), some (aI ((6 * i : Nat) : Int))] [] g P := by
  obtain ⟨T, hT, hc, hm⟩ := h
  have b1 := lb (w := w) hi hL 1 (by omega) (by omega)
  have b2 := lb (w := w) hi hL 2 (by omega) (by omega)
  refine s_L_law_1188 _ ⟨(b1).1, (b1).2, (b2).1, (b2).2, ?_⟩
  refine k_write hT hc (nm_toInt _) (nm_toInt _) (fun g1 h1 f1 => ⟨_, rfl, (b1).1, (b1).2, (b2).1, (b2).2, ?_⟩)
  exact j_write hT (hm.lo f1) (nm_toInt _) (nm_toInt _) (fun g2 h2 f2 => ⟨_, rfl, fun _ => k g2 ⟨_, hT.write _ _, h1.hi f2, h2⟩, fun q => absurd rfl q⟩)
theorem lc_1221 {i : Nat} (hi : 6 * i + 6 ≤ g_L w) (hL : g_L w ≤ 384) (h : Inv g) (k : ∀ g', Inv g' → Zm w (d + 17) mL_law 1258 [some (aR (some SC)), some (aR (some 0)), some (aR (some 228)), some (aI ((6 * i : Nat) : Int))] [] g' P) : Zm w (d + 17) mL_law 1221 [some (aR (some SC)), some (aR (some 0)), some (aR (some 228)), some (aI ((6 * i : Nat) : Int))] [] g P := by
  obtain ⟨T, hT, hc, hm⟩ := h
  have b1 := lb (w := w) hi hL 1 (by omega) (by omega)
  refine s_L_law_1221 _ ⟨(b1).1, (b1).2, ?_⟩
  refine k_count hT hc (nm_toInt _) (fun g1 h1 f1 => ⟨_, rfl, (b1).1, (b1).2, ?_⟩)
  exact j_count hT (hm.lo f1) (nm_toInt _) (fun g2 h2 f2 => ⟨_, rfl, fun _ => k g2 ⟨_, hT, h1.1.hi f2, h2.1⟩, fun q => absurd rfl q⟩)
theorem lc_1244 {i : Nat} (hi : 6 * i + 6 ≤ g_L w) (hL : g_L w ≤ 384) (h : Inv g) (k : ∀ g', Inv g' → Zm w (d + 17) mL_law 1258 [some (aR (some SC)), some (aR (some 0)), some (aR (some 228)), some (aI ((6 * i : Nat) : Int))] [] g' P) : Zm w (d + 17) mL_law 1244 [some (aR (some SC)), some (aR (some 0)), some (aR (some 228)), some (aI ((6 * i : Nat) : Int))] [] g P := by
  obtain ⟨T, hT, hc, hm⟩ := h
  obtain ⟨th, hth⟩ := Th.some
  refine s_L_law_1244 _ ?_
  refine k_digest hth hT hc (fun g1 h1 f1 => ⟨_, rfl, ?_⟩)
  exact j_digest hth hT (hm.lo f1) (fun g2 h2 f2 => ⟨_, rfl, fun _ => k g2 ⟨_, hT, h1.hi f2, h2⟩, fun q => absurd ((lCmp_eq _ _).mpr rfl) q⟩)
theorem law_loop (hL : g_L w ≤ 384) (h : Inv g) (k : ∀ g', P (some (aI 1)) g') : Zm w (d + 17) mL_law 18 [some (aR (some SC)), some (aR (some 0)), some (aR (some 228)), some (aI 0)] [] g P := by
  have e6 : nm ((g_L w : Int) - 6) = (g_L w : Int) - 6 := nm_id (by omega) (by omega)
  refine loopN (σ := GI) (fun i s => Zm w (d + 17) mL_law 18 [some (aR (some SC)), some (aR (some 0)), some (aR (some 228)), some (aI ((6 * i : Nat) : Int))] [] s P) (fun _ s => Inv s) (g_L w / 6) ?_ ?_ 0 g (Nat.zero_le _) h
  · intro g1 h1
    have ei : nm ((6 * (g_L w / 6) : Nat) : Int) = ((6 * (g_L w / 6) : Nat) : Int) := nm_id (by omega) (by omega)
    refine s_L_law_18 _ ?_
    rw [e6, ei]
    exact ⟨fun _ => k g1, fun q => absurd q (by omega)⟩
  · intro i g1 hi h1 ih
    have hi6 : 6 * i + 6 ≤ g_L w := by omega
    have ei : nm ((6 * i : Nat) : Int) = ((6 * i : Nat) : Int) := nm_id (by omega) (by omega)
    have nx : ∀ g', Inv g' → Zm w (d + 17) mL_law 1258 [some (aR (some SC)), some (aR (some 0)), some (aR (some 228)), some (aI ((6 * i : Nat) : Int))] [] g' P := fun g' h' => by
      refine s_L_law_1258 _ ?_
      rw [show ((6 * i : Nat) : Int) + 6 = ((6 * (i + 1) : Nat) : Int) by omega]
      exact ih g' h'
    refine s_L_law_18 _ ?_
    rw [e6, ei]
    refine ⟨fun q => absurd q (by omega), fun _ => ⟨by omega, by omega, fun _ => lc_184 hi6 hL h1 nx, fun _ => lc_217 hi6 hL h1 nx, fun _ => lc_240 hi6 hL h1 nx, fun _ => lc_263 hi6 hL h1 nx, fun _ => lc_286 hi6 hL h1 nx, fun _ => lc_309 hi6 hL h1 nx, fun _ => lc_342 hi6 hL h1 nx, fun _ => lc_365 hi6 hL h1 nx, fun _ => lc_398 hi6 hL h1 nx, fun _ => lc_431 hi6 hL h1 nx, fun _ => lc_454 hi6 hL h1 nx, fun _ => lc_477 hi6 hL h1 nx, fun _ => lc_500 hi6 hL h1 nx, fun _ => lc_543 hi6 hL h1 nx, fun _ => lc_586 hi6 hL h1 nx, fun _ => lc_609 hi6 hL h1 nx, fun _ => lc_632 hi6 hL h1 nx, fun _ => lc_655 hi6 hL h1 nx, fun _ => lc_708 hi6 hL h1 nx, fun _ => lc_741 hi6 hL h1 nx, fun _ => lc_784 hi6 hL h1 nx, fun _ => lc_797 hi6 hL h1 nx, fun _ => lc_810 hi6 hL h1 nx, fun _ => lc_833 hi6 hL h1 nx, fun _ => lc_856 hi6 hL h1 nx, fun _ => lc_920 hi6 hL h1 nx, fun _ => lc_963 hi6 hL h1 nx, fun _ => lc_1006 hi6 hL h1 nx, fun _ => lc_1029 hi6 hL h1 nx, fun _ => lc_1082 hi6 hL h1 nx, fun _ => lc_1125 hi6 hL h1 nx, fun _ => lc_1188 hi6 hL h1 nx, fun _ => lc_1221 hi6 hL h1 nx, fun _ => lc_1244 hi6 hL h1 nx, fun _ _ _ _ _ _ _ _ _ _ _ _ _ _ _ _ _ _ _ _ _ _ _ _ _ _ _ _ _ _ _ _ _ _ => nx g1 h1⟩⟩
end LC
