/-! sheets -/
abbrev setL (T : TT) (v : Int) : TT := (T.1, T.2.1, v, T.2.2.2)
abbrev setSh (T : TT) (s : Nat) (x : Int × Int × (Nat → Int)) : TT := (T.1, T.2.1, T.2.2.1, up1 T.2.2.2 s x)
abbrev shF (T : TT) (s : Nat) : Int := (T.2.2.2 s).1
abbrev shN (T : TT) (s : Nat) : Int := (T.2.2.2 s).2.1
abbrev shI (T : TT) (s : Nat) : Nat → Int := (T.2.2.2 s).2.2
def opSheet (T : TT) (s f n : Int) : TT × Int :=
  if (0 ≤ s ∧ s < 4) ∧ (0 ≤ f ∧ f < 3) ∧ n ≤ 60 then (if n < 0 then (setL T 5, -15) else (setSh T s.toNat (f, n, fun _ => 0), n)) else (T, -2)
def opLose (T : TT) (s : Int) : TT × Int :=
  if 0 ≤ s ∧ s < 4 then (if shN T s.toNat < 0 then (setL T 1, -11) else (setSh T s.toNat (shF T s.toNat, -1, shI T s.toNat), shN T s.toNat)) else (T, -2)
def opRf (T : TT) (s f i : Int) : TT × Int :=
  if (0 ≤ s ∧ s < 4) ∧ (0 ≤ f ∧ f < 3) then
    (if shN T s.toNat < 0 then (setL T 1, -11) else if shF T s.toNat = f then (if 0 ≤ i ∧ i < shN T s.toNat then (T, 0) else (setL T 2, -12)) else (setL T 3, -13))
  else (T, -2)
def opLay (T : TT) (s f i v : Int) : TT × Int :=
  if (opRf T s f i).2 < 0 then opRf T s f i else (setSh T s.toNat (shF T s.toNat, shN T s.toNat, up1 (shI T s.toNat) i.toNat (cutI f v)), 1)
def opGet (T : TT) (s f i : Int) : TT × Int :=
  if (opRf T s f i).2 < 0 then ((opRf T s f i).1, -2147483648) else (T, shI T s.toNat i.toNat)
def cpF (a b : Nat → Int) (i j n : Nat) : Nat → Int := fun p => if j ≤ p ∧ p < j + n then a (i + (p - j)) else b p
def opCopy (T : TT) (s i t j n : Int) : TT × Int :=
  if (0 ≤ s ∧ s < 4) ∧ (0 ≤ t ∧ t < 4) then
    (if shN T s.toNat < 0 ∨ shN T t.toNat < 0 then (setL T 1, -11)
     else if shF T s.toNat = shF T t.toNat then
       (if 0 ≤ i ∧ 0 ≤ j ∧ 0 ≤ n ∧ i + n ≤ shN T s.toNat ∧ j + n ≤ shN T t.toNat then (setSh T t.toNat (shF T t.toNat, shN T t.toNat, cpF (shI T s.toNat) (shI T t.toNat) i.toNat j.toNat n.toNat), 1) else (setL T 2, -12))
     else (setL T 4, -14))
  else (T, -2)
theorem nm_iByte (v : Int) : nm (iByte v) = iByte v := by unfold nm iByte; rw [Int32.ofInt_toInt]
theorem nm_iShort (v : Int) : nm (iShort v) = iShort v := by unfold nm iShort; rw [Int32.ofInt_toInt]
theorem nm_cutI {f v : Int} (h : nm v = v) : nm (cutI f v) = cutI f v := by
  unfold cutI
  split
  · exact nm_iByte v
  · split
    · exact nm_iShort v
    · exact h
theorem ShB.set {sh : Shs} {s : Nat} {x : Int × Int × (Nat → Int)} (h : ShB sh) (hx : -1 ≤ x.2.1 ∧ x.2.1 ≤ 60 ∧ (0 ≤ x.2.1 → 0 ≤ x.1 ∧ x.1 ≤ 2) ∧ ∀ i : Nat, (i : Int) < x.2.1 → nm (x.2.2 i) = x.2.2 i) : ShB (up1 sh s x) := fun t ht => by
  by_cases e : t = s
  · subst e; rw [up1_eq]; exact hx
  · rw [up1_ne _ _ e]; exact h t ht
theorem GT.setL {T : TT} (h : GT T) (v : Int) : GT (setL T v) := h
theorem GT.sheet {T : TT} (h : GT T) (s f n : Int) : GT (opSheet T s f n).1 := by
  unfold opSheet
  by_cases q : (0 ≤ s ∧ s < 4) ∧ (0 ≤ f ∧ f < 3) ∧ n ≤ 60
  · rw [if_pos q]
    by_cases q2 : n < 0
    · rw [if_pos q2]; exact h
    · rw [if_neg q2]; exact ⟨h.1, h.2.1, h.2.2.set ⟨by show -1 ≤ n; omega, q.2.2, fun _ => ⟨q.2.1.1, by show f ≤ 2; omega⟩, fun i _ => by show nm 0 = 0; decide⟩⟩
  · rw [if_neg q]; exact h
theorem GT.lose {T : TT} (h : GT T) (s : Int) : GT (opLose T s).1 := by
  unfold opLose
  by_cases q : 0 ≤ s ∧ s < 4
  · rw [if_pos q]
    by_cases q2 : shN T s.toNat < 0
    · rw [if_pos q2]; exact h
    · rw [if_neg q2]; exact ⟨h.1, h.2.1, h.2.2.set ⟨by show (-1 : Int) ≤ -1; omega, by show (-1 : Int) ≤ 60; omega, fun z => absurd z (by show ¬ (0 : Int) ≤ -1; omega), fun i z => absurd z (by show ¬ (i : Int) < -1; omega)⟩⟩
  · rw [if_neg q]; exact h
theorem GT.rf {T : TT} (h : GT T) (s f i : Int) : GT (opRf T s f i).1 := by
  unfold opRf
  by_cases q : (0 ≤ s ∧ s < 4) ∧ (0 ≤ f ∧ f < 3)
  · rw [if_pos q]
    by_cases q2 : shN T s.toNat < 0
    · rw [if_pos q2]; exact h
    · rw [if_neg q2]
      by_cases q3 : shF T s.toNat = f
      · rw [if_pos q3]
        by_cases q4 : 0 ≤ i ∧ i < shN T s.toNat
        · rw [if_pos q4]; exact h
        · rw [if_neg q4]; exact h
      · rw [if_neg q3]; exact h
  · rw [if_neg q]; exact h
theorem rf_ok {T : TT} {s f i : Int} (h : ¬ (opRf T s f i).2 < 0) : (0 ≤ s ∧ s < 4) ∧ (0 ≤ f ∧ f < 3) ∧ 0 ≤ shN T s.toNat ∧ shF T s.toNat = f ∧ 0 ≤ i ∧ i < shN T s.toNat ∧ opRf T s f i = (T, 0) := by
  unfold opRf at h ⊢
  by_cases q : (0 ≤ s ∧ s < 4) ∧ (0 ≤ f ∧ f < 3)
  · rw [if_pos q] at h ⊢
    by_cases q2 : shN T s.toNat < 0
    · rw [if_pos q2] at h; exact absurd (by show (-11 : Int) < 0; omega) h
    · rw [if_neg q2] at h ⊢
      by_cases q3 : shF T s.toNat = f
      · rw [if_pos q3] at h ⊢
        by_cases q4 : 0 ≤ i ∧ i < shN T s.toNat
        · rw [if_pos q4]; exact ⟨q.1, q.2, by omega, q3, q4.1, q4.2, rfl⟩
        · rw [if_neg q4] at h; exact absurd (by show (-12 : Int) < 0; omega) h
      · rw [if_neg q3] at h; exact absurd (by show (-13 : Int) < 0; omega) h
  · rw [if_neg q] at h; exact absurd (by show (-2 : Int) < 0; omega) h
theorem GT.lay {T : TT} (h : GT T) (s f i v : Int) (hv : nm v = v) : GT (opLay T s f i v).1 := by
  unfold opLay
  by_cases q : (opRf T s f i).2 < 0
  · rw [if_pos q]; exact h.rf s f i
  · rw [if_neg q]
    obtain ⟨q1, q2, q3, q4, q5, q6, -⟩ := rf_ok q
    have hs := h.2.2 s.toNat (by omega)
    refine ⟨h.1, h.2.1, h.2.2.set ⟨hs.1, hs.2.1, hs.2.2.1, fun j hj => ?_⟩⟩
    show nm (up1 (shI T s.toNat) i.toNat (cutI f v) j) = up1 (shI T s.toNat) i.toNat (cutI f v) j
    by_cases e : j = i.toNat
    · rw [e, up1_eq]; exact nm_cutI hv
    · rw [up1_ne _ _ e]; exact hs.2.2.2 j hj
theorem GT.get {T : TT} (h : GT T) (s f i : Int) : GT (opGet T s f i).1 := by
  unfold opGet
  by_cases q : (opRf T s f i).2 < 0
  · rw [if_pos q]; exact h.rf s f i
  · rw [if_neg q]; exact h
theorem GT.copy {T : TT} (h : GT T) (s i t j n : Int) : GT (opCopy T s i t j n).1 := by
  unfold opCopy
  by_cases q : (0 ≤ s ∧ s < 4) ∧ (0 ≤ t ∧ t < 4)
  · rw [if_pos q]
    by_cases q2 : shN T s.toNat < 0 ∨ shN T t.toNat < 0
    · rw [if_pos q2]; exact h
    · rw [if_neg q2]
      by_cases q3 : shF T s.toNat = shF T t.toNat
      · rw [if_pos q3]
        by_cases q4 : 0 ≤ i ∧ 0 ≤ j ∧ 0 ≤ n ∧ i + n ≤ shN T s.toNat ∧ j + n ≤ shN T t.toNat
        · rw [if_pos q4]
          have hs := h.2.2 s.toNat (by omega)
          have ht := h.2.2 t.toNat (by omega)
          refine ⟨h.1, h.2.1, h.2.2.set ⟨ht.1, ht.2.1, ht.2.2.1, fun p hp => ?_⟩⟩
          show nm (cpF (shI T s.toNat) (shI T t.toNat) i.toNat j.toNat n.toNat p) = cpF (shI T s.toNat) (shI T t.toNat) i.toNat j.toNat n.toNat p
          unfold cpF
          split
          · exact hs.2.2.2 _ (by show _ < shN T s.toNat; omega)
          · exact ht.2.2.2 _ hp
        · rw [if_neg q4]; exact h
      · rw [if_neg q3]; exact h
  · rw [if_neg q]; exact h
theorem IC.lat {g : GI} {T : TT} (h : IC g T) (v : Int) : IC (up2 g 0 11 v) (setL T v) ∧ FrL g (up2 g 0 11 v) := by
  obtain ⟨⟨a1, a2, a3, a4, a5, a6⟩, b1, c1, c2, c3⟩ := h
  have f : ∀ b, b ≠ 0 → up2 g 0 11 v b = g b := fun b hb => up2_ne _ _ _ hb
  exact ⟨⟨⟨a1.same (f _ (by omega)) (f _ (by omega)), a2.same (f _ (by omega)) (f _ (by omega)), a3.same (f _ (by omega)) (f _ (by omega)) (f _ (by omega)), a4.same (f _ (by omega)) (f _ (by omega)) (f _ (by omega)), a5.same (f _ (by omega)) (f _ (by omega)), a6.same (fun b _ _ => f b (by omega))⟩, b1.same (fun b _ _ => f b (by omega)) (fun j _ => by rw [f _ (by omega)]) (by simp [up2_ap]), by rw [f _ (by omega)]; exact c1, by simp [up2_ap], c3.same (fun b _ _ => f b (by omega))⟩, fun b hb => f b (by omega)⟩
theorem IM.lat {g : GI} {T : TT} (h : IM g T) (v : Int) : IM (up2 g 228 4 v) (setL T v) ∧ FrH g (up2 g 228 4 v) := by
  obtain ⟨a1, a2, a3, a4, a5, a6⟩ := h
  have f : ∀ b, b ≠ 228 → up2 g 228 4 v b = g b := fun b hb => up2_ne _ _ _ hb
  have f8 : ∀ j, j ≠ 4 → up2 g 228 4 v 228 j = g 228 j := fun j hj => by simp [up2_ap, hj]
  exact ⟨⟨a1.same (f _ (by omega)) (f _ (by omega)), a2.same (f8 _ (by omega)) (f8 _ (by omega)) (f _ (by omega)) (f _ (by omega)), a3.same (f8 _ (by omega)) (f _ (by omega)), a4.same (f8 _ (by omega)) (f _ (by omega)), ⟨by rw [f8 13 (by omega)]; exact a5.1, by simp [up2_ap], by rw [f8 27 (by omega), f8 28 (by omega), f8 30 (by omega)]; exact a5.2.2⟩, a6.same (f _ (by omega)) (f _ (by omega)) (f _ (by omega))⟩, fun b hb => f b (by omega)⟩
/-- one sheet anew, in the class -/
theorem IC.setSh {g g' : GI} {T : TT} {s : Nat} {x : Int × Int × (Nat → Int)} (h : IC g T) (hs : s < 4) (f : ∀ b, b ≠ 220 + 2 * s → b ≠ 221 + 2 * s → g' b = g b) (e1 : g' (220 + 2 * s) 2 = x.2.1) (e2 : 0 ≤ x.2.1 → g' (220 + 2 * s) 1 = x.1) (e3 : ∀ i : Nat, (i : Int) < x.2.1 → g' (221 + 2 * s) i = x.2.2 i) : IC g' (setSh T s x) ∧ FrL g g' := by
  obtain ⟨⟨a1, a2, a3, a4, a5, a6⟩, b1, c1, c2, c3⟩ := h
  have f' : ∀ b, b < 220 ∨ 228 ≤ b → g' b = g b := fun b hb => f b (by omega) (by omega)
  refine ⟨⟨⟨a1.same (f' _ (by omega)) (f' _ (by omega)), a2.same (f' _ (by omega)) (f' _ (by omega)), a3.same (f' _ (by omega)) (f' _ (by omega)) (f' _ (by omega)), a4.same (f' _ (by omega)) (f' _ (by omega)) (f' _ (by omega)), a5.same (f' _ (by omega)) (f' _ (by omega)), a6.same (fun b _ _ => f' b (by omega))⟩, b1.same (fun b _ _ => f' b (by omega)) (fun j _ => by rw [f' _ (by omega)]) (by rw [f' _ (by omega)]), by rw [f' _ (by omega)]; exact c1, by rw [f' _ (by omega)]; exact c2, fun t ht => ?_⟩, fun b hb => f' b (by omega)⟩
  show g' (220 + 2 * t) 2 = (up1 T.2.2.2 s x t).2.1 ∧ (0 ≤ (up1 T.2.2.2 s x t).2.1 → g' (220 + 2 * t) 1 = (up1 T.2.2.2 s x t).1) ∧ ∀ i : Nat, (i : Int) < (up1 T.2.2.2 s x t).2.1 → g' (221 + 2 * t) i = (up1 T.2.2.2 s x t).2.2 i
  by_cases e : t = s
  · subst e; rw [up1_eq]; exact ⟨e1, e2, e3⟩
  · rw [up1_ne _ _ e, f _ (by omega) (by omega), f _ (by omega) (by omega)]; exact c3 t ht
theorem IM.setSh {g g' : GI} {T : TT} {s : Nat} {x : Int × Int × (Nat → Int)} (h : IM g T) (hB : ShB T.2.2.2) (hs : s < 4) (hx : x.2.1 ≤ 60) (f : ∀ b, b ≠ 229 → b ≠ 230 → b ≠ 231 → b ≠ 232 → g' b = g b) (f9 : ∀ t, t ≠ s → g' 229 t = g 229 t ∧ g' 230 t = g 230 t) (f1 : ∀ p, p < 60 * s ∨ 60 * s + 60 ≤ p → g' 231 p = g 231 p) (e1 : x.2.1 < 0 → g' 229 s = -1) (e2 : 0 ≤ x.2.1 → g' 229 s = x.1 ∧ g' 230 s = x.2.1) (e3 : ∀ i : Nat, (i : Int) < x.2.1 → g' 231 (60 * s + i) = x.2.2 i) : IM g' (setSh T s x) ∧ FrH g g' := by
  obtain ⟨a1, a2, a3, a4, a5, a6⟩ := h
  have f' : ∀ b, b < 229 ∨ 232 < b → g' b = g b := fun b hb => f b (by omega) (by omega) (by omega) (by omega)
  have f8 : g' 228 = g 228 := f' _ (by omega)
  refine ⟨⟨a1.same (f' _ (by omega)) (f' _ (by omega)), a2.same (by rw [f8]) (by rw [f8]) (f' _ (by omega)) (f' _ (by omega)), a3.same (by rw [f8]) (f' _ (by omega)), a4.same (by rw [f8]) (f' _ (by omega)), by rw [f8]; exact a5, fun t ht => ?_⟩, fun b hb => f' b (by omega)⟩
  show ((up1 T.2.2.2 s x t).2.1 < 0 → g' 229 t = -1) ∧ (0 ≤ (up1 T.2.2.2 s x t).2.1 → g' 229 t = (up1 T.2.2.2 s x t).1 ∧ g' 230 t = (up1 T.2.2.2 s x t).2.1) ∧ ∀ i : Nat, (i : Int) < (up1 T.2.2.2 s x t).2.1 → g' 231 (60 * t + i) = (up1 T.2.2.2 s x t).2.2 i
  by_cases e : t = s
  · subst e; rw [up1_eq]; exact ⟨e1, e2, e3⟩
  · rw [up1_ne _ _ e, (f9 t e).1, (f9 t e).2]
    have := a6 t ht
    have hb := (hB t ht).2.1
    exact ⟨this.1, this.2.1, fun i hi => by rw [f1 _ (by omega)]; exact this.2.2 i hi⟩
section SC1
variable {w : GX} {d : Nat} {P : PN} {g : GI} {T : TT}
theorem k_sheet {x1 x2 x3 : Int} (h : IC g T) (e1 : nm x1 = x1) (e2 : nm x2 = x2) (e3 : nm x3 = x3) (k : ∀ g', IC g' (opSheet T x1 x2 x3).1 → FrL g g' → P (some (aI (opSheet T x1 x2 x3).2)) g') : Zm w (d + 2) mX10_sheet 0 [some (aR (some 0)), some (aI x1), some (aI x2), some (aI x3)] [] g P := by
  have n4 : nm 4 = 4 := by decide
  have n3 : nm 3 = 3 := by decide
  have n60 : nm 60 = 60 := by decide
  refine s_X10_sheet_0 _ _ _ ?_
  rw [wi_x e1 n4, wi_x e2 n3, e1, e3, n60]
  have NO : ¬ ((0 ≤ x1 ∧ x1 < 4) ∧ (0 ≤ x2 ∧ x2 < 3) ∧ x3 ≤ 60) → P (some (aI (-2))) g := fun q => by
    have e : opSheet T x1 x2 x3 = (T, -2) := by unfold opSheet; rw [if_neg q]
    rw [e] at k; exact k g h FrL.rfl
  refine ⟨fun q => NO (fun z => q z.1), fun q1 => ⟨fun q => NO (fun z => q z.2.1), fun q2 => ⟨fun q3 => ⟨fun q4 => ⟨(nn q1).1, (nn q1).2, ?_⟩, fun q4 g1 eg => ?_⟩, fun q => NO (by omega)⟩⟩⟩
  · have q1 := nn q1
    have q2 := nn q2
    have e : opSheet T x1 x2 x3 = (setSh T x1.toNat (x2, x3, fun _ => 0), x3) := by unfold opSheet; rw [if_pos ⟨q1, q2, by omega⟩, if_neg q4]
    rw [e] at k
    have hS := isS_at x1.toNat (by omega)
    refine s_X6_renew_0 hS _ _ (fun g1 eg1 g2 eg2 => ?_)
    refine c_fill hS.2.2 (by omega) (fun g3 f3 v3 => ⟨rfl, ⟨rfl, ?_⟩⟩)
    have := h.setSh (g' := g3) (s := x1.toNat) (x := (x2, x3, fun _ => 0)) (by omega) (fun b z1 z2 => by rw [f3 b (by omega), eg2, up2_ne _ _ _ z1, eg1, up2_ne _ _ _ z1]) (by rw [f3 _ (by omega), eg2]; simp [up2_ap]) (fun _ => by rw [f3 _ (by omega), eg2]; simp only [up2_ap, if_true]; rw [if_neg (by omega), eg1]; simp [up2_ap]) (fun i hi => by
      have hi : (i : Int) < x3 := hi
      rw [show 221 + 2 * x1.toNat = 220 + 2 * x1.toNat + 1 by omega]; exact v3 i (by omega))
    exact k g3 this.1 this.2
  · have e : opSheet T x1 x2 x3 = (setL T 5, -15) := by unfold opSheet; rw [if_pos ⟨nn q1, nn q2, by omega⟩, if_pos q4]
    rw [e] at k
    subst eg
    exact k _ (h.lat 5).1 (h.lat 5).2
theorem j_sheet {x1 x2 x3 : Int} (hT : GT T) (h : IM g T) (e1 : nm x1 = x1) (e2 : nm x2 = x2) (e3 : nm x3 = x3) (k : ∀ g', IM g' (opSheet T x1 x2 x3).1 → FrH g g' → P (some (aI (opSheet T x1 x2 x3).2)) g') : Zm w (d + 2) mX11_sheet 0 [some (aR (some 228)), some (aI x1), some (aI x2), some (aI x3), none] [] g P := by
  have n60 : nm 60 = 60 := by decide
  refine s_X11_sheet_0 _ _ _ ?_
  rw [inn_x e1, lin_x e2 (by decide) (by decide), e1, e3, n60]
  have NO : ¬ ((0 ≤ x1 ∧ x1 < 4) ∧ (0 ≤ x2 ∧ x2 < 3) ∧ x3 ≤ 60) → P (some (aI (-2))) g := fun q => by
    have e : opSheet T x1 x2 x3 = (T, -2) := by unfold opSheet; rw [if_neg q]
    rw [e] at k; exact k g h FrH.rfl
  refine ⟨fun q => NO (by omega), fun q1 => ⟨fun q => NO (by omega), fun q2 => ⟨fun q3 => ⟨fun q4 => ⟨by omega, by omega, fun g1 eg1 g2 eg2 => ?_⟩, fun q4 g1 eg => ?_⟩, fun q => NO (by omega)⟩⟩⟩
  · have e : opSheet T x1 x2 x3 = (setSh T x1.toNat (x2, x3, fun _ => 0), x3) := by unfold opSheet; rw [if_pos (by omega), if_neg q4]
    rw [e] at k
    refine loopN (σ := GI) (fun i s => Zm w (d + 2) mX11_sheet 55 [some (aR (some 228)), some (aI x1), none, some (aI x3), some (aI (i : Int))] [] s P) (fun i s => (∀ b, b ≠ 231 → s b = g2 b) ∧ (∀ p, p < 60 * x1.toNat ∨ 60 * x1.toNat + 60 ≤ p → s 231 p = g 231 p) ∧ ∀ j, j < i → s 231 (60 * x1.toNat + j) = 0) x3.toNat ?_ ?_ 0 g2 (Nat.zero_le _) ⟨fun _ _ => rfl, fun p _ => by rw [eg2, up2_ne _ _ _ (by omega), eg1, up2_ne _ _ _ (by omega)], fun j hj => absurd hj (Nat.not_lt_zero j)⟩
    · intro g3 ⟨r1, r2, r3⟩
      have ei : nm ((x3.toNat : Nat) : Int) = x3 := by rw [nm_id (by omega) (by omega)]; omega
      refine s_X11_sheet_55 _ _ _ ?_
      rw [ei, e3]
      refine ⟨fun _ => ?_, fun q => absurd q (by omega)⟩
      have := h.setSh (g' := g3) (s := x1.toNat) (x := (x2, x3, fun _ => 0)) hT.2.2 (by omega) (by show x3 ≤ 60; omega) (fun b z1 z2 z3 _ => by rw [r1 b z3, eg2, up2_ne _ _ _ z2, eg1, up2_ne _ _ _ z1]) (fun t ht => ⟨by rw [r1 _ (by omega), eg2, up2_ne _ _ _ (by omega), eg1]; simp [up2_ap, ht], by rw [r1 _ (by omega), eg2]; simp only [up2_ap, if_true]; rw [if_neg ht, eg1, up2_ne _ _ _ (by omega)]⟩) r2 (fun z => absurd z (by show ¬ x3 < 0; omega)) (fun _ => ⟨by rw [r1 _ (by omega), eg2, up2_ne _ _ _ (by omega), eg1]; simp [up2_ap], by rw [r1 _ (by omega), eg2]; simp [up2_ap]⟩) (fun i hi => by
        have hi : (i : Int) < x3 := hi
        exact r3 i (by omega))
      exact k g3 this.1 this.2
    · intro i g3 hi ⟨r1, r2, r3⟩ ih
      have ei : nm (i : Int) = i := nm_id (by omega) (by omega)
      have ej : nm (60 * x1 + (i : Int)) = ((60 * x1.toNat + i : Nat) : Int) := by rw [nm_id (by omega) (by omega)]; omega
      refine s_X11_sheet_55 _ _ _ ?_
      rw [ei, e3, ej, Int.toNat_natCast]
      refine ⟨fun q => absurd q (by omega), fun _ => ⟨by omega, by omega, fun g4 eg4 => ?_⟩⟩
      refine ih g4 ⟨fun b hb => by rw [eg4, up2_ne _ _ _ hb]; exact r1 b hb, fun p hp => ?_, fun j hj => ?_⟩
      · rw [eg4]; simp only [up2_ap, if_true]; rw [if_neg (by omega)]; exact r2 p hp
      · rw [eg4]; simp only [up2_ap, if_true]
        split
        · rfl
        · exact r3 j (by omega)
  · have e : opSheet T x1 x2 x3 = (setL T 5, -15) := by unfold opSheet; rw [if_pos (by omega), if_pos q4]
    rw [e] at k
    subst eg
    exact k _ (h.lat 5).1 (h.lat 5).2
theorem isNeg_x {z : Int} (h : nm z = z) : nm (isNeg z) = 0 ↔ ¬ z < 0 := by rw [nm_isNeg, isNeg_0, h]
theorem nm_sh {T : TT} (hT : GT T) {s : Nat} (hs : s < 4) : nm (shN T s) = shN T s := nm_id (by have := (hT.2.2 s hs).1; show -2147483648 ≤ (T.2.2.2 s).2.1; omega) (by have := (hT.2.2 s hs).2.1; show (T.2.2.2 s).2.1 < 2147483648; omega)
theorem k_lose {x1 : Int} (hT : GT T) (h : IC g T) (e1 : nm x1 = x1) (k : ∀ g', IC g' (opLose T x1).1 → FrL g g' → P (some (aI (opLose T x1).2)) g') : Zm w (d + 1) mX10_lose 0 [some (aR (some 0)), some (aI x1), none] [] g P := by
  have n4 : nm 4 = 4 := by decide
  refine s_X10_lose_0 _ ?_
  rw [wi_x e1 n4, e1]
  refine ⟨fun q1 => ⟨(nn q1).1, (nn q1).2, ?_⟩, fun q => ?_⟩
  · have q1 := nn q1
    have hs := h.2.2.2.2 x1.toNat (by omega)
    rw [hs.1, isNeg_x (nm_sh hT (by omega))]
    refine ⟨fun q2 v7 e7 g2 eg => ?_, fun q2 g2 eg => ?_⟩
    · have e : opLose T x1 = (setSh T x1.toNat (shF T x1.toNat, -1, shI T x1.toNat), shN T x1.toNat) := by unfold opLose; rw [if_pos q1, if_neg q2]
      rw [e] at k
      have := h.setSh (g' := g2) (s := x1.toNat) (x := (shF T x1.toNat, -1, shI T x1.toNat)) (by omega) (fun b z1 z2 => by rw [eg, up2_ne _ _ _ z1]) (by rw [eg]; simp [up2_ap]) (fun z => absurd z (by show ¬ (0 : Int) ≤ -1; omega)) (fun i z => absurd z (by show ¬ (i : Int) < -1; omega))
      rw [e7]
      exact k g2 this.1 this.2
    · have e : opLose T x1 = (setL T 1, -11) := by unfold opLose; rw [if_pos q1, if_pos (nn q2)]
      rw [e] at k
      subst eg
      exact k _ (h.lat 1).1 (h.lat 1).2
  · have e : opLose T x1 = (T, -2) := by unfold opLose; rw [if_neg q]
    rw [e] at k; exact k g h FrL.rfl
theorem shm_neg {T : TT} (hT : GT T) (h : IM g T) {s : Nat} (hs : s < 4) : nm (g 229 s) < 0 ↔ shN T s < 0 := by
  have := h.2.2.2.2.2 s hs
  have hb := hT.2.2 s hs
  by_cases q : shN T s < 0
  · rw [this.1 q]
    exact ⟨fun _ => q, fun _ => by decide⟩
  · rw [(this.2.1 (by show 0 ≤ shN T s; omega)).1]
    have hf := hb.2.2.1 (by show 0 ≤ shN T s; omega)
    rw [nm_id (by omega) (by omega)]
    exact ⟨fun z => by omega, fun z => absurd z q⟩
theorem j_lose {x1 : Int} (hT : GT T) (h : IM g T) (e1 : nm x1 = x1) (k : ∀ g', IM g' (opLose T x1).1 → FrH g g' → P (some (aI (opLose T x1).2)) g') : Zm w (d + 2) mX11_lose 0 [some (aR (some 228)), some (aI x1)] [] g P := by
  refine s_X11_lose_0 _ ?_
  rw [inn_x e1, e1]
  refine ⟨fun q1 => ⟨by omega, by omega, ?_⟩, fun q => ?_⟩
  · have hs := h.2.2.2.2.2 x1.toNat (by omega)
    rw [shm_neg hT h (by omega)]
    refine ⟨fun q2 g2 eg => ?_, fun q2 g2 eg => ?_⟩
    · have e : opLose T x1 = (setSh T x1.toNat (shF T x1.toNat, -1, shI T x1.toNat), shN T x1.toNat) := by unfold opLose; rw [if_pos (by omega), if_neg q2]
      rw [e] at k
      have := h.setSh (g' := g2) (s := x1.toNat) (x := (shF T x1.toNat, -1, shI T x1.toNat)) hT.2.2 (by omega) (by show (-1 : Int) ≤ 60; omega) (fun b z1 z2 _ _ => by rw [eg, up2_ne _ _ _ z1]) (fun t ht => ⟨by rw [eg]; simp [up2_ap, ht], by rw [eg, up2_ne _ _ _ (by omega)]⟩) (fun p _ => by rw [eg, up2_ne _ _ _ (by omega)]) (fun _ => by rw [eg]; simp [up2_ap]) (fun z => absurd z (by show ¬ (0 : Int) ≤ -1; omega)) (fun i z => absurd z (by show ¬ (i : Int) < -1; omega))
      have r : g2 230 x1.toNat = shN T x1.toNat := by rw [eg, up2_ne _ _ _ (by omega)]; exact (hs.2.1 (by show 0 ≤ shN T x1.toNat; omega)).2
      rw [r]
      exact k g2 this.1 this.2
    · have e : opLose T x1 = (setL T 1, -11) := by unfold opLose; rw [if_pos (by omega), if_pos q2]
      rw [e] at k
      subst eg
      exact k _ (h.lat 1).1 (h.lat 1).2
  · have e : opLose T x1 = (T, -2) := by unfold opLose; rw [if_neg (by omega)]
    rw [e] at k; exact k g h FrH.rfl
theorem hld_x {z i n : Int} (hz : nm z = z) (h60 : z ≤ 60) (hi : nm i = i) (hn : nm n = n) : nm (hld z i n) = 0 ↔ ¬ (0 ≤ i ∧ 0 ≤ n ∧ i + n ≤ z) := by
  rw [nm_hld, hld_0, hz, hi, hn]
  have := nm_rng i
  have := nm_rng n
  refine not_congr ⟨fun q => ?_, fun q => ?_⟩
  · have e : nm (z - i) = z - i := nm_id (by omega) (by omega)
    rw [e] at q; omega
  · have e : nm (z - i) = z - i := nm_id (by omega) (by omega)
    rw [e]; omega
theorem k_rf {x1 x2 x3 : Int} (hT : GT T) (h : IC g T) (e1 : nm x1 = x1) (e2 : nm x2 = x2) (e3 : nm x3 = x3) (k : ∀ g', IC g' (opRf T x1 x2 x3).1 → FrL g g' → ((opRf T x1 x2 x3).2 = 0 → g' = g) → P (some (aI (opRf T x1 x2 x3).2)) g') : Zm w (d + 1) mX10_refusalOfItem 0 [some (aR (some 0)), some (aI x1), some (aI x2), some (aI x3)] [] g P := by
  have n4 : nm 4 = 4 := by decide
  have n3 : nm 3 = 3 := by decide
  have n1 : nm 1 = 1 := by decide
  refine s_X10_refusalOfItem_0 _ _ _ ?_
  rw [wi_x e1 n4, wi_x e2 n3, e1]
  have NO : ¬ ((0 ≤ x1 ∧ x1 < 4) ∧ (0 ≤ x2 ∧ x2 < 3)) → P (some (aI (-2))) g := fun q => by
    have e : opRf T x1 x2 x3 = (T, -2) := by unfold opRf; rw [if_neg q]
    rw [e] at k; exact k g h FrL.rfl (fun _ => rfl)
  refine ⟨fun q => NO (fun z => q z.1), fun q1 => ⟨fun q2 => ⟨(nn q1).1, (nn q1).2, ?_⟩, fun q => NO (fun z => q z.2)⟩⟩
  have q1 := nn q1
  have q2 := nn q2
  have hs := h.2.2.2.2 x1.toNat (by omega)
  have hb := hT.2.2 x1.toNat (by omega)
  rw [hs.1, isNeg_x (nm_sh hT (by omega)), hld_x (nm_sh hT (by omega)) hb.2.1 e3 n1]
  refine ⟨fun q3 => ?_, fun q3 g2 eg => ?_⟩
  · have hf := hb.2.2.1 (by show 0 ≤ shN T x1.toNat; omega)
    have ef : nm (shF T x1.toNat) = shF T x1.toNat := nm_id (by show -2147483648 ≤ (T.2.2.2 x1.toNat).1; omega) (by show (T.2.2.2 x1.toNat).1 < 2147483648; omega)
    rw [hs.2.1 (by show 0 ≤ shN T x1.toNat; omega), ef, e2]
    refine ⟨fun q4 => ⟨fun q5 g2 eg => ?_, fun q5 => ?_⟩, fun q4 g2 eg => ?_⟩
    · have q5 : ¬ (0 ≤ x3 ∧ x3 < shN T x1.toNat) := fun z => q5 (by show 0 ≤ x3 ∧ (0 : Int) ≤ 1 ∧ x3 + 1 ≤ shN T x1.toNat; omega)
      have e : opRf T x1 x2 x3 = (setL T 2, -12) := by unfold opRf; rw [if_pos ⟨q1, q2⟩, if_neg q3, if_pos q4, if_neg q5]
      rw [e] at k
      subst eg
      exact k _ (h.lat 2).1 (h.lat 2).2 (fun z => absurd z (by show ¬ (-12 : Int) = 0; omega))
    · have q5 : 0 ≤ x3 ∧ (0 : Int) ≤ 1 ∧ x3 + 1 ≤ shN T x1.toNat := nn q5
      have e : opRf T x1 x2 x3 = (T, 0) := by unfold opRf; rw [if_pos ⟨q1, q2⟩, if_neg q3, if_pos q4, if_pos (by omega)]
      rw [e] at k; exact k g h FrL.rfl (fun _ => rfl)
    · have e : opRf T x1 x2 x3 = (setL T 3, -13) := by unfold opRf; rw [if_pos ⟨q1, q2⟩, if_neg q3, if_neg q4]
      rw [e] at k
      subst eg
      exact k _ (h.lat 3).1 (h.lat 3).2 (fun z => absurd z (by show ¬ (-13 : Int) = 0; omega))
  · have e : opRf T x1 x2 x3 = (setL T 1, -11) := by unfold opRf; rw [if_pos ⟨q1, q2⟩, if_pos (nn q3)]
    rw [e] at k
    subst eg
    exact k _ (h.lat 1).1 (h.lat 1).2 (fun z => absurd z (by show ¬ (-11 : Int) = 0; omega))
theorem j_rf {x1 x2 x3 : Int} (hT : GT T) (h : IM g T) (e1 : nm x1 = x1) (e2 : nm x2 = x2) (e3 : nm x3 = x3) (q1 : 0 ≤ x1 ∧ x1 < 4) (q2 : 0 ≤ x2 ∧ x2 < 3) (k : ∀ g', IM g' (opRf T x1 x2 x3).1 → FrH g g' → ((opRf T x1 x2 x3).2 = 0 → g' = g) → P (some (aI (opRf T x1 x2 x3).2)) g') : Zm w (d + 1) mX11_lacks 0 [some (aR (some 228)), some (aI x1), some (aI x2), some (aI x3)] [] g P := by
  have hs := h.2.2.2.2.2 x1.toNat (by omega)
  have hb := hT.2.2 x1.toNat (by omega)
  refine s_X11_lacks_0 _ _ _ ?_
  rw [e1, shm_neg hT h (by omega)]
  refine ⟨by omega, by omega, fun q3 => ?_, fun q3 g2 eg => ?_⟩
  · have h0 : 0 ≤ (T.2.2.2 x1.toNat).2.1 := by show 0 ≤ shN T x1.toNat; omega
    have hf := hb.2.2.1 h0
    have ef : nm (shF T x1.toNat) = shF T x1.toNat := nm_id (by show -2147483648 ≤ (T.2.2.2 x1.toNat).1; omega) (by show (T.2.2.2 x1.toNat).1 < 2147483648; omega)
    have en : nm (shN T x1.toNat - 1) = shN T x1.toNat - 1 := nm_id (by show -2147483648 ≤ (T.2.2.2 x1.toNat).2.1 - 1; omega) (by show (T.2.2.2 x1.toNat).2.1 - 1 < 2147483648; omega)
    have enl : nml (shN T x1.toNat - 1) = shN T x1.toNat - 1 := nml_id (by show -9223372036854775808 ≤ (T.2.2.2 x1.toNat).2.1 - 1; omega) (by show (T.2.2.2 x1.toNat).2.1 - 1 < 9223372036854775808; omega)
    rw [(hs.2.1 h0).1, (hs.2.1 h0).2, ef, e2, en, lin_x e3 (by decide) enl]
    refine ⟨fun q4 => ⟨fun q5 g2 eg => ?_, fun q5 => ?_⟩, fun q4 g2 eg => ?_⟩
    · have q5 : ¬ (0 ≤ x3 ∧ x3 < shN T x1.toNat) := by omega
      have e : opRf T x1 x2 x3 = (setL T 2, -12) := by unfold opRf; rw [if_pos ⟨q1, q2⟩, if_neg q3, if_pos q4, if_neg q5]
      rw [e] at k
      subst eg
      exact k _ (h.lat 2).1 (h.lat 2).2 (fun z => absurd z (by show ¬ (-12 : Int) = 0; omega))
    · have e : opRf T x1 x2 x3 = (T, 0) := by unfold opRf; rw [if_pos ⟨q1, q2⟩, if_neg q3, if_pos q4, if_pos (by omega)]
      rw [e] at k; exact k g h FrH.rfl (fun _ => rfl)
    · have e : opRf T x1 x2 x3 = (setL T 3, -13) := by unfold opRf; rw [if_pos ⟨q1, q2⟩, if_neg q3, if_neg q4]
      rw [e] at k
      subst eg
      exact k _ (h.lat 3).1 (h.lat 3).2 (fun z => absurd z (by show ¬ (-13 : Int) = 0; omega))
  · have e : opRf T x1 x2 x3 = (setL T 1, -11) := by unfold opRf; rw [if_pos ⟨q1, q2⟩, if_pos q3]
    rw [e] at k
    subst eg
    exact k _ (h.lat 1).1 (h.lat 1).2 (fun z => absurd z (by show ¬ (-11 : Int) = 0; omega))
theorem rf_rng (T : TT) (s f i : Int) : nm (opRf T s f i).2 = (opRf T s f i).2 ∧ (opRf T s f i).2 ≤ 0 := by
  unfold opRf
  (repeat' split) <;> dsimp only <;> exact ⟨by decide, by decide⟩
/-- an item is put -/
theorem c_put6 {s : Nat} {x1 x2 : Int} (hT : GT T) (hs : s < 4) (h1 : g (220 + 2 * s) 2 = shN T s) (h2 : g (220 + 2 * s) 1 = shF T s) (hn : 0 ≤ shN T s) (e1 : nm x1 = x1) (hi : 0 ≤ x1 ∧ x1 < shN T s) (k : P none (up2 g (221 + 2 * s) x1.toNat (cutI (shF T s) x2))) : Zm w (d + 1) mX6_put 0 [some (aR (some (220 + 2 * s))), some (aI x1), some (aI x2)] [] g P := by
  have hb := hT.2.2 s hs
  have n1 : nm 1 = 1 := by decide
  have hf := hb.2.2.1 hn
  have ef : nm (shF T s) = shF T s := nm_id (by show -2147483648 ≤ (T.2.2.2 s).1; omega) (by show (T.2.2.2 s).1 < 2147483648; omega)
  have hbn : shN T s ≤ 60 := hb.2.1
  refine s_X6_put_0 (isS_at s hs) _ _ ?_
  rw [h1, hld_x (nm_sh hT hs) hbn e1 n1, h2, ef, e1]
  unfold cutI at k
  rw [ef] at k
  rw [show 220 + 2 * s + 1 = 221 + 2 * s by omega]
  refine ⟨fun _ => ⟨fun q => ⟨by omega, by omega, fun g2 eg => ?_⟩, fun q => ⟨by omega, by omega, fun g2 eg => ?_⟩, fun q q' => ⟨by omega, by omega, fun g2 eg => ?_⟩⟩, fun q => absurd (by omega) q⟩
  · subst eg; rw [if_pos q] at k; exact k
  · subst eg; rw [if_neg (by omega), if_pos q] at k; exact k
  · subst eg; rw [if_neg q, if_neg q'] at k; exact k
theorem k_lay {x1 x2 x3 x4 : Int} (hT : GT T) (h : IC g T) (e1 : nm x1 = x1) (e2 : nm x2 = x2) (e3 : nm x3 = x3) (k : ∀ g', IC g' (opLay T x1 x2 x3 x4).1 → FrL g g' → P (some (aI (opLay T x1 x2 x3 x4).2)) g') : Zm w (d + 2) mX10_lay 0 [some (aR (some 0)), some (aI x1), some (aI x2), some (aI x3), some (aI x4), none] [] g P := by
  refine s_X10_lay_0 _ _ _ _ ?_
  refine k_rf hT h e1 e2 e3 (fun g1 i1 f1 z1 => ⟨_, rfl, ?_⟩)
  rw [(rf_rng T x1 x2 x3).1, e1]
  refine ⟨fun q => ?_, fun q => ?_⟩
  · obtain ⟨q1, q2, q3, q4, q5, q6, q7⟩ := rf_ok q
    have hg := z1 (by rw [q7])
    subst hg
    have hs := h.2.2.2.2 x1.toNat (by omega)
    have e : opLay T x1 x2 x3 x4 = (setSh T x1.toNat (shF T x1.toNat, shN T x1.toNat, up1 (shI T x1.toNat) x3.toNat (cutI x2 x4)), 1) := by unfold opLay; rw [if_neg q]
    rw [e] at k
    refine ⟨q1.1, q1.2, c_put6 hT (by omega) hs.1 (hs.2.1 q3) q3 e3 ⟨q5, q6⟩ ⟨rfl, ?_⟩⟩
    rw [q4]
    have := h.setSh (g' := up2 g1 (221 + 2 * x1.toNat) x3.toNat (cutI x2 x4)) (s := x1.toNat) (x := (shF T x1.toNat, shN T x1.toNat, up1 (shI T x1.toNat) x3.toNat (cutI x2 x4))) (by omega) (fun b z1 z2 => up2_ne _ _ _ z2) (by rw [up2_ne _ _ _ (by omega)]; exact hs.1) (fun z => by rw [up2_ne _ _ _ (by omega)]; exact hs.2.1 z) (fun i hi => by
      simp only [up2_ap, up1_ap, if_true]
      split
      · rfl
      · exact hs.2.2 i hi)
    exact k _ this.1 this.2
  · have e : opLay T x1 x2 x3 x4 = opRf T x1 x2 x3 := by unfold opLay; rw [if_pos q]
    rw [e] at k; exact k g1 i1 f1
theorem j_lay {x1 x2 x3 x4 : Int} (hT : GT T) (h : IM g T) (e1 : nm x1 = x1) (e2 : nm x2 = x2) (e3 : nm x3 = x3) (k : ∀ g', IM g' (opLay T x1 x2 x3 x4).1 → FrH g g' → P (some (aI (opLay T x1 x2 x3 x4).2)) g') : Zm w (d + 2) mX11_lay 0 [some (aR (some 228)), some (aI x1), some (aI x2), some (aI x3), some (aI x4), none] [] g P := by
  refine s_X11_lay_0 _ _ _ _ ?_
  rw [inn_x e1, lin_x e2 (by decide) (by decide)]
  have NO : ¬ ((0 ≤ x1 ∧ x1 < 4) ∧ (0 ≤ x2 ∧ x2 < 3)) → P (some (aI (-2))) g := fun q => by
    have e0 : opRf T x1 x2 x3 = (T, -2) := by unfold opRf; rw [if_neg q]
    have e : opLay T x1 x2 x3 x4 = (T, -2) := by unfold opLay; rw [e0, if_pos (by show (-2 : Int) < 0; omega)]
    rw [e] at k; exact k g h FrH.rfl
  refine ⟨fun q => NO (by omega), fun q1 => ⟨fun q2 => ?_, fun q => NO (by omega)⟩⟩
  refine j_rf hT h e1 e2 e3 (by omega) (by omega) (fun g1 i1 f1 z1 => ⟨_, rfl, ?_⟩)
  have hr := rf_rng T x1 x2 x3
  rw [hr.1]
  refine ⟨fun q => ?_, fun q => ?_⟩
  · obtain ⟨q1, q2, q3, q4, q5, q6, q7⟩ := rf_ok (show ¬ (opRf T x1 x2 x3).2 < 0 by omega)
    have hg := z1 q
    subst hg
    have hs := h.2.2.2.2.2 x1.toNat (by omega)
    have hb := hT.2.2 x1.toNat (by omega)
    have hb60 : shN T x1.toNat ≤ 60 := hb.2.1
    have e : opLay T x1 x2 x3 x4 = (setSh T x1.toNat (shF T x1.toNat, shN T x1.toNat, up1 (shI T x1.toNat) x3.toNat (cutI x2 x4)), 1) := by unfold opLay; rw [if_neg (by omega)]
    rw [e] at k
    have ej : nm (60 * x1 + x3) = ((60 * x1.toNat + x3.toNat : Nat) : Int) := by rw [nm_id (by omega) (by omega)]; omega
    rw [ej, Int.toNat_natCast]
    refine ⟨by omega, by omega, fun g6 eg => ?_⟩
    have := h.setSh (g' := g6) (s := x1.toNat) (x := (shF T x1.toNat, shN T x1.toNat, up1 (shI T x1.toNat) x3.toNat (cutI x2 x4))) hT.2.2 (by omega) hb60 (fun b z1 z2 z3 _ => by rw [eg, up2_ne _ _ _ z3]) (fun t _ => ⟨by rw [eg, up2_ne _ _ _ (by omega)], by rw [eg, up2_ne _ _ _ (by omega)]⟩) (fun p hp => by rw [eg]; simp only [up2_ap, if_true]; rw [if_neg (by omega)]) (fun z => absurd z (by show ¬ shN T x1.toNat < 0; omega)) (fun z => by rw [eg, up2_ne _ _ _ (by omega), up2_ne _ _ _ (by omega)]; exact hs.2.1 z) (fun i hi => by
      rw [eg]
      simp only [up2_ap, up1_ap, if_true]
      by_cases q : i = x3.toNat
      · rw [if_pos (by omega), if_pos q]
      · rw [if_neg (by omega), if_neg q]; exact hs.2.2 i hi)
    exact k _ this.1 this.2
  · have e : opLay T x1 x2 x3 x4 = opRf T x1 x2 x3 := by unfold opLay; rw [if_pos (by omega)]
    rw [e] at k; exact k g1 i1 f1
theorem k_get {x1 x2 x3 : Int} (hT : GT T) (h : IC g T) (e1 : nm x1 = x1) (e2 : nm x2 = x2) (e3 : nm x3 = x3) (k : ∀ g', IC g' (opGet T x1 x2 x3).1 → FrL g g' → P (some (aI (opGet T x1 x2 x3).2)) g') : Zm w (d + 2) mX10_get 0 [some (aR (some 0)), some (aI x1), some (aI x2), some (aI x3)] [] g P := by
  refine s_X10_get_0 _ _ _ ?_
  refine k_rf hT h e1 e2 e3 (fun g1 i1 f1 z1 => ⟨_, rfl, ?_⟩)
  rw [(rf_rng T x1 x2 x3).1, e1, e3]
  refine ⟨fun q => ?_, fun q => ?_⟩
  · obtain ⟨q1, q2, q3, q4, q5, q6, q7⟩ := rf_ok q
    have hg := z1 (by rw [q7])
    subst hg
    have hs := h.2.2.2.2 x1.toNat (by omega)
    have hb60 : shN T x1.toNat ≤ 60 := (hT.2.2 x1.toNat (by omega)).2.1
    have e : opGet T x1 x2 x3 = (T, shI T x1.toNat x3.toNat) := by unfold opGet; rw [if_neg q]
    rw [e] at k
    refine ⟨q1.1, q1.2, q5, by omega, ?_⟩
    rw [show 220 + 2 * x1.toNat + 1 = 221 + 2 * x1.toNat by omega, hs.2.2 x3.toNat (by show _ < shN T x1.toNat; omega)]
    exact k g1 h FrL.rfl
  · have e : opGet T x1 x2 x3 = ((opRf T x1 x2 x3).1, -2147483648) := by unfold opGet; rw [if_pos q]
    rw [e] at k; exact k g1 i1 f1
theorem j_get {x1 x2 x3 : Int} (hT : GT T) (h : IM g T) (e1 : nm x1 = x1) (e2 : nm x2 = x2) (e3 : nm x3 = x3) (k : ∀ g', IM g' (opGet T x1 x2 x3).1 → FrH g g' → P (some (aI (opGet T x1 x2 x3).2)) g') : Zm w (d + 2) mX11_get 0 [some (aR (some 228)), some (aI x1), some (aI x2), some (aI x3)] [] g P := by
  refine s_X11_get_0 _ _ _ ?_
  rw [inn_x e1, lin_x e2 (by decide) (by decide)]
  have NO : ¬ ((0 ≤ x1 ∧ x1 < 4) ∧ (0 ≤ x2 ∧ x2 < 3)) → P (some (aI (-2147483648))) g := fun q => by
    have e0 : opRf T x1 x2 x3 = (T, -2) := by unfold opRf; rw [if_neg q]
    have e : opGet T x1 x2 x3 = (T, -2147483648) := by unfold opGet; rw [e0, if_pos (by show (-2 : Int) < 0; omega)]
    rw [e] at k; exact k g h FrH.rfl
  refine ⟨fun q => NO (by omega), fun q1 => ⟨fun q => NO (by omega), fun q2 => ?_⟩⟩
  refine j_rf hT h e1 e2 e3 (by omega) (by omega) (fun g1 i1 f1 z1 => ⟨_, rfl, ?_⟩)
  have hr := rf_rng T x1 x2 x3
  rw [hr.1]
  refine ⟨fun q => ?_, fun q => ?_⟩
  · obtain ⟨q1, q2, q3, q4, q5, q6, q7⟩ := rf_ok (show ¬ (opRf T x1 x2 x3).2 < 0 by omega)
    have hg := z1 q
    subst hg
    have hs := h.2.2.2.2.2 x1.toNat (by omega)
    have hb60 : shN T x1.toNat ≤ 60 := (hT.2.2 x1.toNat (by omega)).2.1
    have e : opGet T x1 x2 x3 = (T, shI T x1.toNat x3.toNat) := by unfold opGet; rw [if_neg (by omega)]
    rw [e] at k
    have ej : nm (60 * x1 + x3) = ((60 * x1.toNat + x3.toNat : Nat) : Int) := by rw [nm_id (by omega) (by omega)]; omega
    rw [ej, Int.toNat_natCast, hs.2.2 x3.toNat (by show _ < shN T x1.toNat; omega)]
    exact ⟨by omega, by omega, k g1 h FrH.rfl⟩
  · have e : opGet T x1 x2 x3 = ((opRf T x1 x2 x3).1, -2147483648) := by unfold opGet; rw [if_pos (by omega)]
    rw [e] at k; exact k g1 i1 f1
end SC1
