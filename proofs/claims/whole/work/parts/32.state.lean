/-! what was told, as one value; the class's and the model's cells that hold it -/
abbrev Shs : Type := Nat → Int × Int × (Nat → Int)
abbrev TT : Type := Sx × Int × Int × Shs
def ShB (sh : Shs) : Prop := ∀ s, s < 4 → -1 ≤ (sh s).2.1 ∧ (sh s).2.1 ≤ 60 ∧ (0 ≤ (sh s).2.1 → 0 ≤ (sh s).1 ∧ (sh s).1 ≤ 2) ∧ ∀ i : Nat, (i : Int) < (sh s).2.1 → nm ((sh s).2.2 i) = (sh s).2.2 i
def GT (T : TT) : Prop := Gd T.1 ∧ (1 ≤ T.2.1 ∧ T.2.1 ≤ 20) ∧ ShB T.2.2.2
def SHC (g : GI) (sh : Shs) : Prop := ∀ s, s < 4 → g (220 + 2 * s) 2 = (sh s).2.1 ∧ (0 ≤ (sh s).2.1 → g (220 + 2 * s) 1 = (sh s).1) ∧ ∀ i : Nat, (i : Int) < (sh s).2.1 → g (221 + 2 * s) i = (sh s).2.2 i
def SHM (g : GI) (sh : Shs) : Prop := ∀ s, s < 4 → ((sh s).2.1 < 0 → g 229 s = -1) ∧ (0 ≤ (sh s).2.1 → g 229 s = (sh s).1 ∧ g 230 s = (sh s).2.1) ∧ ∀ i : Nat, (i : Int) < (sh s).2.1 → g 231 (60 * s + i) = (sh s).2.2 i
def L3M (g : GI) (si : Log3) : Prop := g 228 31 = (si.length : Int) ∧ ∀ k, k < si.length → g 248 (3 * k) = (si.getD k (0, 0, 0)).1 ∧ g 248 (3 * k + 1) = (si.getD k (0, 0, 0)).2.1 ∧ g 248 (3 * k + 2) = (si.getD k (0, 0, 0)).2.2
def IC (g : GI) (T : TT) : Prop := Tc g T.1 ∧ St g T.1 ∧ g 18 11 = T.2.1 ∧ g 0 11 = T.2.2.1 ∧ SHC g T.2.2.2
def IM (g : GI) (T : TT) : Prop := TM g T.1.1 ∧ LM g T.1.2.1 T.1.2.2.1 ∧ LFM g T.1.2.2.2.1 ∧ L3M g T.1.2.2.2.2 ∧ (g 228 13 = T.2.1 ∧ g 228 4 = T.2.2.1 ∧ g 228 27 = -1 ∧ g 228 28 = -1 ∧ g 228 30 = -1) ∧ SHM g T.2.2.2
def FrL (g g' : GI) : Prop := ∀ b, 228 ≤ b → g' b = g b
def FrH (g g' : GI) : Prop := ∀ b, b < 228 → g' b = g b
theorem FrL.rfl {g : GI} : FrL g g := fun _ _ => Eq.refl _
theorem FrH.rfl {g : GI} : FrH g g := fun _ _ => Eq.refl _
theorem FrL.trans {g g' g'' : GI} (h : FrL g g') (h' : FrL g' g'') : FrL g g'' := fun b hb => (h' b hb).trans (h b hb)
theorem FrH.trans {g g' g'' : GI} (h : FrH g g') (h' : FrH g' g'') : FrH g g'' := fun b hb => (h' b hb).trans (h b hb)
theorem TR.same {g g' : GI} {a : Nat} {t : List Int} (h : TR g a t) (e : g' a = g a) (e1 : g' (a + 1) = g (a + 1)) : TR g' a t := by unfold TR; rw [e, e1]; exact h
theorem LG.same {g g' : GI} {a : Nat} {l : Log2} (h : LG g a l) (e : g' a = g a) (e1 : g' (a + 1) = g (a + 1)) (e2 : g' (a + 2) = g (a + 2)) : LG g' a l := by unfold LG; rw [e, e1, e2]; exact h
theorem LF.same {g g' : GI} {l : List Int} (h : LF g l) (e : g' 10 = g 10) (e1 : g' 11 = g 11) : LF g' l := by unfold LF; rw [e, e1]; exact h
theorem L3.same {g g' : GI} {l : Log3} (h : L3 g l) (e : ∀ b, 14 ≤ b → b < 18 → g' b = g b) : L3 g' l := by unfold L3; rw [e 14 (by omega) (by omega), e 15 (by omega) (by omega), e 16 (by omega) (by omega), e 17 (by omega) (by omega)]; exact h
theorem SHC.same {g g' : GI} {sh : Shs} (h : SHC g sh) (e : ∀ b, 220 ≤ b → b < 228 → g' b = g b) : SHC g' sh := fun s hs => by
  rw [e (220 + 2 * s) (by omega) (by omega), e (221 + 2 * s) (by omega) (by omega)]; exact h s hs
theorem Ca.same {g g' : GI} {S : Sx} (h : Ca g S) (e : ∀ b, 18 < b → b < 136 → g' b = g b) (e18 : ∀ j, j ≠ 11 → g' 18 j = g 18 j) : Ca g' S := by
  refine ⟨h.1.same (fun b _ _ => e b (by omega) (by omega)) e18, ?_, ?_, fun i hi => (h.2.2.2.1 i hi).same (fun b _ _ => e b (by omega) (by omega)), ?_⟩
  · unfold CR; rw [e 28 (by omega) (by omega), e (28 + 1) (by omega) (by omega)]; exact h.2.1
  · rw [e 27 (by omega) (by omega)]; exact h.2.2.1
  · rw [e 27 (by omega) (by omega)]; exact h.2.2.2.2
theorem St.same {g g' : GI} {S : Sx} (h : St g S) (e : ∀ b, 18 < b → b < 136 → g' b = g b) (e18 : ∀ j, j ≠ 11 → g' 18 j = g 18 j) (e0 : g' 0 12 = g 0 12) : St g' S := by
  rcases h with h | ⟨h, hc⟩
  · exact Or.inl (by rw [e0]; exact h)
  · exact Or.inr ⟨by rw [e0]; exact h, hc.same e e18⟩
theorem sno_at {α : Type} (l : List α) (x z : α) (k : Nat) : (l ++ [x]).getD k z = if k < l.length then l.getD k z else if k = l.length then x else z := by
  rw [List.getD_eq_getElem?_getD, List.getD_eq_getElem?_getD]
  by_cases h : k < l.length
  · rw [if_pos h, List.getElem?_append_left h]
  · rw [if_neg h, List.getElem?_append_right (by omega)]
    by_cases e : k = l.length
    · rw [if_pos e, e, Nat.sub_self]; rfl
    · rw [if_neg e]
      have : k - l.length ≠ 0 := by omega
      obtain ⟨q, hq⟩ := Nat.exists_eq_succ_of_ne_zero this
      rw [hq]; rfl
theorem sno_len {α : Type} (l : List α) (x : α) : (l ++ [x]).length = l.length + 1 := by simp
/-- the first n -/
def pre {α : Type} (z : α) (n : Nat) (l : List α) : List α := (List.range n).map (fun i => l.getD i z)
theorem pre_len {α : Type} (z : α) (n : Nat) (l : List α) : (pre z n l).length = n := by simp [pre]
theorem pre_at {α : Type} (z : α) {n k : Nat} (l : List α) (h : k < n) : (pre z n l).getD k z = l.getD k z := by
  simp [pre, List.getElem?_range h, List.getD_eq_getElem?_getD]
theorem nml_lit {z : Int} (h1 : -1000 ≤ z) (h2 : z ≤ 1000) : nml z = z := nml_id (by omega) (by omega)
theorem wi_x {x n : Int} (h : nm x = x) (h2 : nm n = n) : nm (wi x n) = 0 ↔ ¬ (0 ≤ x ∧ x < n) := by rw [nm_wi, wi_0, h, h2]
theorem inn_x {x a b : Int} (h : nm x = x) : nm (inn x a b) = 0 ↔ ¬ (a ≤ x ∧ x ≤ b) := by rw [nm_inn, inn_0, h]
theorem lin_x {x a b : Int} (h : nm x = x) (ha : nml a = a) (hb : nml b = b) : nm (lin (nm x) a b) = 0 ↔ ¬ (a ≤ x ∧ x ≤ b) := by rw [nm_lin, lin_0, nml_nm, h, ha, hb]
theorem nn {p : Prop} (h : ¬ ¬ p) : p := Classical.byContradiction h
/-! what each telling does -/
abbrev sT (T : TT) (S : Sx) : TT := (S, T.2)
def opType (T : TT) (t b : Int) : TT × Int :=
  if (0 ≤ t ∧ t < 2) ∧ (0 ≤ b ∧ b < 256) then
    (if t = 0 then (if T.1.1.1.length < 20 then (sT T ((T.1.1.1 ++ [b], T.1.1.2), T.1.2), (T.1.1.1.length : Int) + 1) else (T, -4))
     else (if T.1.1.2.length < 47 then (sT T ((T.1.1.1, T.1.1.2 ++ [b]), T.1.2), (T.1.1.2.length : Int) + 1) else (T, -4)))
  else (T, -2)
def opWipe (T : TT) (t : Int) : TT × Int :=
  if 0 ≤ t ∧ t < 2 then (if t = 0 then (sT T (([], T.1.1.2), T.1.2), (T.1.1.1.length : Int)) else (sT T ((T.1.1.1, []), T.1.2), (T.1.1.2.length : Int))) else (T, -2)
def opUndo (T : TT) (t : Int) : TT × Int :=
  if 0 ≤ t ∧ t < 2 then
    (if t = 0 then (if T.1.1.1.length = 0 then (T, -3) else (sT T ((pre 0 (T.1.1.1.length - 1) T.1.1.1, T.1.1.2), T.1.2), (T.1.1.1.length : Int) - 1))
     else (if T.1.1.2.length = 0 then (T, -3) else (sT T ((T.1.1.1, pre 0 (T.1.1.2.length - 1) T.1.1.2), T.1.2), (T.1.1.2.length : Int) - 1)))
  else (T, -2)
def opWear (T : TT) (v : Int) : TT × Int := if 1 ≤ v ∧ v ≤ 20 then ((T.1, v, T.2.2), T.2.1) else (T, -2)
def opCross (T : TT) (d p : Int) : TT × Int :=
  if (0 ≤ d ∧ d < 20) ∧ (0 ≤ p ∧ p < 8) then (if T.1.2.1.length < 16 then (sT T (T.1.1, T.1.2.1 ++ [(d, p)], T.1.2.2), (T.1.2.1.length : Int) + 1) else (T, -4)) else (T, -2)
def opAngle (T : TT) (d c : Int) : TT × Int :=
  if (0 ≤ d ∧ d < 20) ∧ (0 ≤ c ∧ c < 20) then (if T.1.2.2.1.length < 8 then (sT T (T.1.1, T.1.2.1, T.1.2.2.1 ++ [(d, c)], T.1.2.2.2), (T.1.2.2.1.length : Int) + 1) else (T, -4)) else (T, -2)
def opFlood (T : TT) (d : Int) : TT × Int :=
  if 0 ≤ d ∧ d < 20 then (if T.1.2.2.2.1.length < 6 then (sT T (T.1.1, T.1.2.1, T.1.2.2.1, T.1.2.2.2.1 ++ [d], T.1.2.2.2.2), (T.1.2.2.2.1.length : Int) + 1) else (T, -4)) else (T, -2)
def opBack (T : TT) (x : Int) : TT × Int :=
  if 0 ≤ x ∧ x < 3 then
    (if x = 0 then (if T.1.2.1.length = 0 then (T, -3) else (sT T (T.1.1, pre (0, 0) (T.1.2.1.length - 1) T.1.2.1, T.1.2.2), (T.1.2.1.length : Int) - 1))
     else if x = 1 then (if T.1.2.2.1.length = 0 then (T, -3) else (sT T (T.1.1, T.1.2.1, pre (0, 0) (T.1.2.2.1.length - 1) T.1.2.2.1, T.1.2.2.2), (T.1.2.2.1.length : Int) - 1))
     else (if T.1.2.2.2.1.length = 0 then (T, -3) else (sT T (T.1.1, T.1.2.1, T.1.2.2.1, pre 0 (T.1.2.2.2.1.length - 1) T.1.2.2.2.1, T.1.2.2.2.2), (T.1.2.2.2.1.length : Int) - 1)))
  else (T, -2)
def opSeen (T : TT) (d p l : Int) : TT × Int :=
  if (0 ≤ d ∧ d < 20) ∧ (0 ≤ p ∧ p < 8) ∧ (0 ≤ l ∧ l < 26) then (if T.1.2.2.2.2.length < 8 then (sT T (T.1.1, T.1.2.1, T.1.2.2.1, T.1.2.2.2.1, T.1.2.2.2.2 ++ [(d, p, l)]), (T.1.2.2.2.2.length : Int) + 1) else (T, -4)) else (T, -2)
def opForget (T : TT) : TT × Int := (sT T (T.1.1, T.1.2.1, T.1.2.2.1, T.1.2.2.2.1, []), (T.1.2.2.2.2.length : Int))
/-! they stay as they may be -/
theorem TB.sno {t : List Int} {b : Int} (h : TB t) (hb : 0 ≤ b ∧ b < 256) : TB (t ++ [b]) := fun i hi => by
  rw [sno_len] at hi
  unfold by_
  rw [sno_at]
  by_cases q : i < t.length
  · rw [if_pos q]; exact h i q
  · rw [if_neg q, if_pos (by omega)]; exact hb
theorem TB.pre {t : List Int} {n : Nat} (h : TB t) (hn : n ≤ t.length) : TB (pre 0 n t) := fun i hi => by
  rw [pre_len] at hi
  unfold by_
  rw [pre_at 0 t hi]; exact h i (by omega)
theorem LB.sno {l : Log2} {n b : Nat} {x y : Int} (h : LB l n b) (hl : l.length < n) (hx : 0 ≤ x ∧ x < 20) (hy : 0 ≤ y ∧ y < (b : Int)) : LB (l ++ [(x, y)]) n b := ⟨by rw [sno_len]; omega, fun k hk => by
  rw [sno_len] at hk
  rw [sno_at]
  by_cases q : k < l.length
  · rw [if_pos q]; exact h.2 k q
  · rw [if_neg q, if_pos (by omega)]; exact ⟨hx.1, hx.2, hy.1, hy.2⟩⟩
theorem LB.pre {l : Log2} {n b m : Nat} (h : LB l n b) (hm : m ≤ l.length) : LB (pre (0, 0) m l) n b := ⟨by rw [pre_len]; have := h.1; omega, fun k hk => by
  rw [pre_len] at hk
  rw [pre_at (0, 0) l hk]; exact h.2 k (by omega)⟩
theorem FB.sno {l : List Int} {x : Int} (h : FB l) (hl : l.length < 6) (hx : 0 ≤ x ∧ x < 20) : FB (l ++ [x]) := ⟨by rw [sno_len]; omega, fun k hk => by
  rw [sno_len] at hk
  rw [sno_at]
  by_cases q : k < l.length
  · rw [if_pos q]; exact h.2 k q
  · rw [if_neg q, if_pos (by omega)]; exact hx⟩
theorem FB.pre {l : List Int} {m : Nat} (h : FB l) (hm : m ≤ l.length) : FB (pre 0 m l) := ⟨by rw [pre_len]; have := h.1; omega, fun k hk => by
  rw [pre_len] at hk
  rw [pre_at 0 l hk]; exact h.2 k (by omega)⟩
theorem SB3.sno {l : Log3} {x y z : Int} (h : SB3 l) (hl : l.length < 8) (hx : 0 ≤ x ∧ x < 20) (hy : 0 ≤ y ∧ y < 8) (hz : 0 ≤ z ∧ z < 26) : SB3 (l ++ [(x, y, z)]) := ⟨by rw [sno_len]; omega, fun k hk => by
  rw [sno_len] at hk
  rw [sno_at]
  by_cases q : k < l.length
  · rw [if_pos q]; exact h.2 k q
  · rw [if_neg q, if_pos (by omega)]; exact ⟨hx.1, hx.2, hy.1, hy.2, hz.1, hz.2⟩⟩
theorem GT.type {T : TT} (h : GT T) (t b : Int) : GT (opType T t b).1 := by
  obtain ⟨⟨g1, g2, g3, g4, g5⟩, gr⟩ := id h
  unfold opType
  by_cases q : (0 ≤ t ∧ t < 2) ∧ (0 ≤ b ∧ b < 256)
  · rw [if_pos q]
    by_cases q0 : t = 0
    · rw [if_pos q0]
      by_cases q1 : T.1.1.1.length < 20
      · rw [if_pos q1]; exact ⟨⟨by show (T.1.1.1 ++ [b]).length ≤ 20; rw [sno_len]; omega, g2.sno q.2, g3, g4, g5⟩, gr⟩
      · rw [if_neg q1]; exact h
    · rw [if_neg q0]
      by_cases q1 : T.1.1.2.length < 47
      · rw [if_pos q1]; exact ⟨⟨g1, g2, by show (T.1.1.2 ++ [b]).length ≤ 47; rw [sno_len]; omega, g4.sno q.2, g5⟩, gr⟩
      · rw [if_neg q1]; exact h
  · rw [if_neg q]; exact h
theorem TB.nil : TB [] := fun i hi => absurd hi (Nat.not_lt_zero i)
theorem GT.wipe {T : TT} (h : GT T) (t : Int) : GT (opWipe T t).1 := by
  obtain ⟨⟨g1, g2, g3, g4, g5⟩, gr⟩ := id h
  unfold opWipe
  by_cases q : 0 ≤ t ∧ t < 2
  · rw [if_pos q]
    by_cases q0 : t = 0
    · rw [if_pos q0]; exact ⟨⟨Nat.zero_le _, TB.nil, g3, g4, g5⟩, gr⟩
    · rw [if_neg q0]; exact ⟨⟨g1, g2, Nat.zero_le _, TB.nil, g5⟩, gr⟩
  · rw [if_neg q]; exact h
theorem GT.undo {T : TT} (h : GT T) (t : Int) : GT (opUndo T t).1 := by
  obtain ⟨⟨g1, g2, g3, g4, g5⟩, gr⟩ := id h
  unfold opUndo
  by_cases q : 0 ≤ t ∧ t < 2
  · rw [if_pos q]
    by_cases q0 : t = 0
    · rw [if_pos q0]
      by_cases q1 : T.1.1.1.length = 0
      · rw [if_pos q1]; exact h
      · rw [if_neg q1]; exact ⟨⟨by show (pre 0 (T.1.1.1.length - 1) T.1.1.1).length ≤ 20; rw [pre_len]; omega, g2.pre (by omega), g3, g4, g5⟩, gr⟩
    · rw [if_neg q0]
      by_cases q1 : T.1.1.2.length = 0
      · rw [if_pos q1]; exact h
      · rw [if_neg q1]; exact ⟨⟨g1, g2, by show (pre 0 (T.1.1.2.length - 1) T.1.1.2).length ≤ 47; rw [pre_len]; omega, g4.pre (by omega), g5⟩, gr⟩
  · rw [if_neg q]; exact h
theorem GT.wear {T : TT} (h : GT T) (v : Int) : GT (opWear T v).1 := by
  unfold opWear
  by_cases q : 1 ≤ v ∧ v ≤ 20
  · rw [if_pos q]; exact ⟨h.1, q, h.2.2⟩
  · rw [if_neg q]; exact h
theorem GT.cross {T : TT} (h : GT T) (d p : Int) : GT (opCross T d p).1 := by
  obtain ⟨⟨g1, g2, g3, g4, g5, g6⟩, gr⟩ := id h
  unfold opCross
  by_cases q : (0 ≤ d ∧ d < 20) ∧ (0 ≤ p ∧ p < 8)
  · rw [if_pos q]
    by_cases q1 : T.1.2.1.length < 16
    · rw [if_pos q1]; exact ⟨⟨g1, g2, g3, g4, g5.sno q1 q.1 q.2, g6⟩, gr⟩
    · rw [if_neg q1]; exact h
  · rw [if_neg q]; exact h
theorem GT.angle {T : TT} (h : GT T) (d p : Int) : GT (opAngle T d p).1 := by
  obtain ⟨⟨g1, g2, g3, g4, g5, g6, g7⟩, gr⟩ := id h
  unfold opAngle
  by_cases q : (0 ≤ d ∧ d < 20) ∧ (0 ≤ p ∧ p < 20)
  · rw [if_pos q]
    by_cases q1 : T.1.2.2.1.length < 8
    · rw [if_pos q1]; exact ⟨⟨g1, g2, g3, g4, g5, g6.sno q1 q.1 q.2, g7⟩, gr⟩
    · rw [if_neg q1]; exact h
  · rw [if_neg q]; exact h
theorem GT.flood {T : TT} (h : GT T) (d : Int) : GT (opFlood T d).1 := by
  obtain ⟨⟨g1, g2, g3, g4, g5, g6, g7, g8⟩, gr⟩ := id h
  unfold opFlood
  by_cases q : 0 ≤ d ∧ d < 20
  · rw [if_pos q]
    by_cases q1 : T.1.2.2.2.1.length < 6
    · rw [if_pos q1]; exact ⟨⟨g1, g2, g3, g4, g5, g6, g7.sno q1 q, g8⟩, gr⟩
    · rw [if_neg q1]; exact h
  · rw [if_neg q]; exact h
theorem GT.back {T : TT} (h : GT T) (x : Int) : GT (opBack T x).1 := by
  obtain ⟨⟨g1, g2, g3, g4, g5, g6, g7, g8⟩, gr⟩ := id h
  unfold opBack
  by_cases q : 0 ≤ x ∧ x < 3
  · rw [if_pos q]
    by_cases q0 : x = 0
    · rw [if_pos q0]
      by_cases q1 : T.1.2.1.length = 0
      · rw [if_pos q1]; exact h
      · rw [if_neg q1]; exact ⟨⟨g1, g2, g3, g4, g5.pre (by omega), g6, g7, g8⟩, gr⟩
    · rw [if_neg q0]
      by_cases q2 : x = 1
      · rw [if_pos q2]
        by_cases q1 : T.1.2.2.1.length = 0
        · rw [if_pos q1]; exact h
        · rw [if_neg q1]; exact ⟨⟨g1, g2, g3, g4, g5, g6.pre (by omega), g7, g8⟩, gr⟩
      · rw [if_neg q2]
        by_cases q1 : T.1.2.2.2.1.length = 0
        · rw [if_pos q1]; exact h
        · rw [if_neg q1]; exact ⟨⟨g1, g2, g3, g4, g5, g6, g7.pre (by omega), g8⟩, gr⟩
  · rw [if_neg q]; exact h
theorem GT.seen {T : TT} (h : GT T) (d p l : Int) : GT (opSeen T d p l).1 := by
  obtain ⟨⟨g1, g2, g3, g4, g5, g6, g7, g8⟩, gr⟩ := id h
  unfold opSeen
  by_cases q : (0 ≤ d ∧ d < 20) ∧ (0 ≤ p ∧ p < 8) ∧ (0 ≤ l ∧ l < 26)
  · rw [if_pos q]
    by_cases q1 : T.1.2.2.2.2.length < 8
    · rw [if_pos q1]; exact ⟨⟨g1, g2, g3, g4, g5, g6, g7, g8.sno q1 q.1 q.2.1 q.2.2⟩, gr⟩
    · rw [if_neg q1]; exact h
  · rw [if_neg q]; exact h
theorem GT.forget {T : TT} (h : GT T) : GT (opForget T).1 := by
  obtain ⟨⟨g1, g2, g3, g4, g5, g6, g7, g8⟩, gr⟩ := id h
  exact ⟨⟨g1, g2, g3, g4, g5, g6, g7, ⟨Nat.zero_le _, fun k hk => absurd hk (Nat.not_lt_zero k)⟩⟩, gr⟩
