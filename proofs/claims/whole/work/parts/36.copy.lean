/-! copies; crossings read from a sheet -/
section SC2
variable {w : GX} {d : Nat} {P : PN} {g : GI} {T : TT}
theorem nm_shF {T : TT} (hT : GT T) {s : Nat} (hs : s < 4) (hn : 0 ≤ shN T s) : nm (shF T s) = shF T s := nm_id (by have := (hT.2.2 s hs).2.2.1 hn; show -2147483648 ≤ (T.2.2.2 s).1; omega) (by have := (hT.2.2 s hs).2.2.1 hn; show (T.2.2.2 s).1 < 2147483648; omega)
theorem k_copy {x1 x2 x3 x4 x5 : Int} (hT : GT T) (h : IC g T) (e1 : nm x1 = x1) (e2 : nm x2 = x2) (e3 : nm x3 = x3) (e4 : nm x4 = x4) (e5 : nm x5 = x5) (k : ∀ g', IC g' (opCopy T x1 x2 x3 x4 x5).1 → FrL g g' → P (some (aI (opCopy T x1 x2 x3 x4 x5).2)) g') : Zm w (d + 1) mX10_copy 0 [some (aR (some 0)), some (aI x1), some (aI x2), some (aI x3), some (aI x4), some (aI x5), none, none] [] g P := by
  have n4 : nm 4 = 4 := by decide
  refine s_X10_copy_0 _ _ _ _ _ ?_
  rw [wi_x e1 n4, wi_x e3 n4, e1, e3]
  have NO : ¬ ((0 ≤ x1 ∧ x1 < 4) ∧ (0 ≤ x3 ∧ x3 < 4)) → P (some (aI (-2))) g := fun q => by
    have e : opCopy T x1 x2 x3 x4 x5 = (T, -2) := by unfold opCopy; rw [if_neg q]
    rw [e] at k; exact k g h FrL.rfl
  refine ⟨fun q => NO (fun z => q z.1), fun q1 => ⟨fun q2 => ⟨(nn q1).1, (nn q1).2, (nn q2).1, (nn q2).2, ?_⟩, fun q => NO (fun z => q z.2)⟩⟩
  have q1 := nn q1
  have q2 := nn q2
  have hs := h.2.2.2.2 x1.toNat (by omega)
  have ht := h.2.2.2.2 x3.toNat (by omega)
  have bs : shN T x1.toNat ≤ 60 := (hT.2.2 x1.toNat (by omega)).2.1
  have bt' : shN T x3.toNat ≤ 60 := (hT.2.2 x3.toNat (by omega)).2.1
  rw [hs.1, ht.1, isNeg_x (nm_sh hT (by omega)), isNeg_x (nm_sh hT (by omega)), hld_x (nm_sh hT (by omega)) bs e2 e5, hld_x (nm_sh hT (by omega)) bt' e4 e5]
  have LOST : (shN T x1.toNat < 0 ∨ shN T x3.toNat < 0) → Zm w (d + 1) mX10_copy 51 [some (aR (some 0)), none, none, none, none, none, none, none] [] g P := fun q => by
    refine s_X10_copy_51 (fun g2 eg => ?_)
    have e : opCopy T x1 x2 x3 x4 x5 = (setL T 1, -11) := by unfold opCopy; rw [if_pos ⟨q1, q2⟩, if_pos q]
    rw [e] at k
    subst eg
    exact k _ (h.lat 1).1 (h.lat 1).2
  refine ⟨fun q => LOST (Or.inl (nn q)), fun q3 => ⟨fun q4 => ?_, fun q => LOST (Or.inr (nn q))⟩⟩
  have h1 : 0 ≤ shN T x1.toNat := by omega
  have h3 : 0 ≤ shN T x3.toNat := by omega
  rw [hs.2.1 h1, ht.2.1 h3, nm_shF hT (by omega) h1, nm_shF hT (by omega) h3, e2, e4, e5]
  refine ⟨fun q5 => ?_, fun q5 g2 eg => ?_⟩
  · have IDX : ¬ (0 ≤ x2 ∧ 0 ≤ x4 ∧ 0 ≤ x5 ∧ x2 + x5 ≤ shN T x1.toNat ∧ x4 + x5 ≤ shN T x3.toNat) → Zm w (d + 1) mX10_copy 99 [some (aR (some 0)), none, none, none, none, none, none, none] [] g P := fun q => by
      refine s_X10_copy_99 (fun g2 eg => ?_)
      have e : opCopy T x1 x2 x3 x4 x5 = (setL T 2, -12) := by unfold opCopy; rw [if_pos ⟨q1, q2⟩, if_neg (by omega), if_pos q5, if_neg q]
      rw [e] at k
      subst eg
      exact k _ (h.lat 2).1 (h.lat 2).2
    refine ⟨fun q => IDX (fun z => q ⟨z.1, z.2.2.1, z.2.2.2.1⟩), fun q6 => ⟨fun q7 => ?_, fun q => IDX (fun z => q ⟨z.2.1, z.2.2.1, z.2.2.2.2⟩)⟩⟩
    have q6 := nn q6
    have q7 := nn q7
    refine ⟨by omega, by omega, by omega, by omega, by omega, fun g2 eg => ?_⟩
    have e : opCopy T x1 x2 x3 x4 x5 = (setSh T x3.toNat (shF T x3.toNat, shN T x3.toNat, cpF (shI T x1.toNat) (shI T x3.toNat) x2.toNat x4.toNat x5.toNat), 1) := by unfold opCopy; rw [if_pos ⟨q1, q2⟩, if_neg (by omega), if_pos q5, if_pos ⟨q6.1, q7.1, q6.2.1, q6.2.2, q7.2.2⟩]
    rw [e] at k
    have := h.setSh (g' := g2) (s := x3.toNat) (x := (shF T x3.toNat, shN T x3.toNat, cpF (shI T x1.toNat) (shI T x3.toNat) x2.toNat x4.toNat x5.toNat)) (by omega) (fun b z1 z2 => by rw [eg, upf_ne _ _ (by omega)]) (by rw [eg, upf_ne _ _ (by omega)]; exact ht.1) (fun z => by rw [eg, upf_ne _ _ (by omega)]; exact ht.2.1 z) (fun i hi => by
      have hi : (i : Int) < shN T x3.toNat := hi
      rw [show 221 + 2 * x3.toNat = 220 + 2 * x3.toNat + 1 by omega, eg, upf_eq]
      show va_cpy _ _ _ _ _ i = cpF _ _ _ _ _ i
      unfold va_cpy cpF
      rw [show 220 + 2 * x1.toNat + 1 = 221 + 2 * x1.toNat by omega, show 220 + 2 * x3.toNat + 1 = 221 + 2 * x3.toNat by omega]
      split
      · exact hs.2.2 _ (by show _ < shN T x1.toNat; omega)
      · exact ht.2.2 _ hi)
    exact k _ this.1 this.2
  · have e : opCopy T x1 x2 x3 x4 x5 = (setL T 4, -14) := by unfold opCopy; rw [if_pos ⟨q1, q2⟩, if_neg (by omega), if_neg q5]
    rw [e] at k
    subst eg
    exact k _ (h.lat 4).1 (h.lat 4).2
theorem j_copy {x1 x2 x3 x4 x5 : Int} (hT : GT T) (h : IM g T) (e1 : nm x1 = x1) (e2 : nm x2 = x2) (e3 : nm x3 = x3) (e4 : nm x4 = x4) (e5 : nm x5 = x5) (k : ∀ g', IM g' (opCopy T x1 x2 x3 x4 x5).1 → FrH g g' → P (some (aI (opCopy T x1 x2 x3 x4 x5).2)) g') : Zm w (d + 2) mX11_copy 0 [some (aR (some 228)), some (aI x1), some (aI x2), some (aI x3), some (aI x4), some (aI x5), none] [] g P := by
  refine s_X11_copy_0 _ _ _ _ _ ?_
  rw [inn_x e1, inn_x e3, e1, e3, lCmp_gt, lCmp_gt]
  have NO : ¬ ((0 ≤ x1 ∧ x1 < 4) ∧ (0 ≤ x3 ∧ x3 < 4)) → P (some (aI (-2))) g := fun q => by
    have e : opCopy T x1 x2 x3 x4 x5 = (T, -2) := by unfold opCopy; rw [if_neg q]
    rw [e] at k; exact k g h FrH.rfl
  refine ⟨fun q => NO (by omega), fun q1 => ⟨fun q2 => ⟨by omega, by omega, ?_⟩, fun q => NO (by omega)⟩⟩
  have hs := h.2.2.2.2.2 x1.toNat (by omega)
  have ht := h.2.2.2.2.2 x3.toNat (by omega)
  have bs : shN T x1.toNat ≤ 60 := (hT.2.2 x1.toNat (by omega)).2.1
  have bt' : shN T x3.toNat ≤ 60 := (hT.2.2 x3.toNat (by omega)).2.1
  rw [shm_neg hT h (by omega), shm_neg hT h (by omega)]
  have LOST : (shN T x1.toNat < 0 ∨ shN T x3.toNat < 0) → Zm w (d + 2) mX11_copy 35 [some (aR (some 228)), none, none, none, none, none, none] [] g P := fun q => by
    refine s_X11_copy_35 (fun g2 eg => ?_)
    have e : opCopy T x1 x2 x3 x4 x5 = (setL T 1, -11) := by unfold opCopy; rw [if_pos (by omega), if_pos q]
    rw [e] at k
    subst eg
    exact k _ (h.lat 1).1 (h.lat 1).2
  refine ⟨fun q => LOST (Or.inl q), fun q3 => ⟨by omega, by omega, fun q4 => ?_, fun q => LOST (Or.inr q)⟩⟩
  have h1 : 0 ≤ shN T x1.toNat := by omega
  have h3 : 0 ≤ shN T x3.toNat := by omega
  rw [(hs.2.1 h1).1, (ht.2.1 h3).1, (hs.2.1 h1).2, (ht.2.1 h3).2, nm_shF hT (by omega) h1, nm_shF hT (by omega) h3, e2, e4, e5]
  refine ⟨fun q5 => ?_, fun q5 g2 eg => ?_⟩
  · have r2 := nm_rng x2
    have r4 := nm_rng x4
    have r5 := nm_rng x5
    have m1 : nml (x2 + x5) = x2 + x5 := nml_id (by omega) (by omega)
    have m2 : nml (x4 + x5) = x4 + x5 := nml_id (by omega) (by omega)
    have m3 : nml (nm (shN T x1.toNat)) = shN T x1.toNat := by rw [nml_nm, nm_sh hT (by omega)]
    have m4 : nml (nm (shN T x3.toNat)) = shN T x3.toNat := by rw [nml_nm, nm_sh hT (by omega)]
    rw [m1, m2, m3, m4]
    have IDX : ¬ (0 ≤ x2 ∧ 0 ≤ x4 ∧ 0 ≤ x5 ∧ x2 + x5 ≤ shN T x1.toNat ∧ x4 + x5 ≤ shN T x3.toNat) → Zm w (d + 2) mX11_copy 111 [some (aR (some 228)), none, none, none, none, none, none] [] g P := fun q => by
      refine s_X11_copy_111 (fun g2 eg => ?_)
      have e : opCopy T x1 x2 x3 x4 x5 = (setL T 2, -12) := by unfold opCopy; rw [if_pos (by omega), if_neg (by omega), if_pos q5, if_neg q]
      rw [e] at k
      subst eg
      exact k _ (h.lat 2).1 (h.lat 2).2
    refine ⟨fun q => IDX (by omega), fun z1 => ⟨fun q => IDX (by omega), fun z2 => ⟨fun q => IDX (by omega), fun z3 => ⟨fun q => IDX (by omega), fun z4 => ⟨fun z5 => ?_, fun q => IDX (by omega)⟩⟩⟩⟩⟩
    have e : opCopy T x1 x2 x3 x4 x5 = (setSh T x3.toNat (shF T x3.toNat, shN T x3.toNat, cpF (shI T x1.toNat) (shI T x3.toNat) x2.toNat x4.toNat x5.toNat), 1) := by unfold opCopy; rw [if_pos (by omega), if_neg (by omega), if_pos q5, if_pos (by omega)]
    rw [e] at k
    -- back from the row that was moved
    have L2 : ∀ g3 : GI, (∀ b, b ≠ 232 → g3 b = g b) → (∀ a, a < x5.toNat → g3 232 a = shI T x1.toNat (x2.toNat + a)) → Zm w (d + 2) mX11_copy 157 [some (aR (some 228)), none, none, some (aI x3), some (aI x4), some (aI x5), some (aI 0)] [] g3 P := by
      intro g3 f3 v3
      refine loopN (σ := GI) (fun i s => Zm w (d + 2) mX11_copy 157 [some (aR (some 228)), none, none, some (aI x3), some (aI x4), some (aI x5), some (aI (i : Int))] [] s P) (fun i s => (∀ b, b ≠ 231 → s b = g3 b) ∧ ∀ p, s 231 p = if 60 * x3.toNat + x4.toNat ≤ p ∧ p < 60 * x3.toNat + x4.toNat + i then shI T x1.toNat (x2.toNat + (p - (60 * x3.toNat + x4.toNat))) else g 231 p) x5.toNat ?_ ?_ 0 g3 (Nat.zero_le _) ⟨fun _ _ => rfl, fun p => by rw [if_neg (by omega), f3 _ (by omega)]⟩
      · intro g4 ⟨r1, r2'⟩
        have ei : nm ((x5.toNat : Nat) : Int) = x5 := by rw [nm_id (by omega) (by omega)]; omega
        refine s_X11_copy_157 _ _ _ _ ?_
        rw [ei, e5]
        refine ⟨fun _ => ?_, fun q => absurd q (by omega)⟩
        have := h.setSh (g' := g4) (s := x3.toNat) (x := (shF T x3.toNat, shN T x3.toNat, cpF (shI T x1.toNat) (shI T x3.toNat) x2.toNat x4.toNat x5.toNat)) hT.2.2 (by omega) bt' (fun b y1 y2 y3 y4 => by rw [r1 b y3, f3 b y4]) (fun t _ => ⟨by rw [r1 _ (by omega), f3 _ (by omega)], by rw [r1 _ (by omega), f3 _ (by omega)]⟩) (fun p hp => by rw [r2', if_neg (by omega)]) (fun z => absurd z (by show ¬ shN T x3.toNat < 0; omega)) (fun z => by rw [r1 _ (by omega), r1 _ (by omega), f3 _ (by omega), f3 _ (by omega)]; exact ht.2.1 z) (fun i hi => by
          rw [r2']
          show _ = cpF _ _ _ _ _ i
          unfold cpF
          by_cases q : x4.toNat ≤ i ∧ i < x4.toNat + x5.toNat
          · rw [if_pos (by omega), if_pos q]; congr 2; omega
          · rw [if_neg (by omega), if_neg q]; exact ht.2.2 i hi)
        exact k _ this.1 this.2
      · intro i g4 hi ⟨r1, r2'⟩ ih
        have ei : nm (i : Int) = i := nm_id (by omega) (by omega)
        have ej : nm (60 * x3 + x4 + (i : Int)) = ((60 * x3.toNat + x4.toNat + i : Nat) : Int) := by rw [nm_id (by omega) (by omega)]; omega
        refine s_X11_copy_157 _ _ _ _ ?_
        rw [ei, e5, ej, Int.toNat_natCast, Int.toNat_natCast]
        refine ⟨fun q => absurd q (by omega), fun _ => ⟨by omega, by omega, by omega, by omega, fun g5 eg5 => ?_⟩⟩
        refine ih g5 ⟨fun b hb => by rw [eg5, up2_ne _ _ _ hb]; exact r1 b hb, fun p => ?_⟩
        rw [eg5]; simp only [up2_ap, if_true]
        by_cases q : p = 60 * x3.toNat + x4.toNat + i
        · rw [if_pos q, if_pos (by omega), r1 _ (by omega), v3 i hi]; congr 2; omega
        · rw [if_neg q, r2']
          by_cases y : 60 * x3.toNat + x4.toNat ≤ p ∧ p < 60 * x3.toNat + x4.toNat + i
          · rw [if_pos y, if_pos (by omega)]
          · rw [if_neg y, if_neg (by omega)]
    refine loopN (σ := GI) (fun i s => Zm w (d + 2) mX11_copy 120 [some (aR (some 228)), some (aI x1), some (aI x2), some (aI x3), some (aI x4), some (aI x5), some (aI (i : Int))] [] s P) (fun i s => (∀ b, b ≠ 232 → s b = g b) ∧ ∀ a, a < i → s 232 a = shI T x1.toNat (x2.toNat + a)) x5.toNat ?_ ?_ 0 g (Nat.zero_le _) ⟨fun _ _ => rfl, fun a ha => absurd ha (Nat.not_lt_zero a)⟩
    · intro g4 ⟨r1, r2'⟩
      have ei : nm ((x5.toNat : Nat) : Int) = x5 := by rw [nm_id (by omega) (by omega)]; omega
      refine s_X11_copy_120 _ _ _ _ _ _ ?_
      rw [ei, e5]
      exact ⟨fun _ => L2 g4 r1 r2', fun q => absurd q (by omega)⟩
    · intro i g4 hi ⟨r1, r2'⟩ ih
      have ei : nm (i : Int) = i := nm_id (by omega) (by omega)
      have ej : nm (60 * x1 + x2 + (i : Int)) = ((60 * x1.toNat + (x2.toNat + i) : Nat) : Int) := by rw [nm_id (by omega) (by omega)]; omega
      refine s_X11_copy_120 _ _ _ _ _ _ ?_
      rw [ei, e5, ej, Int.toNat_natCast, Int.toNat_natCast, r1 231 (by omega), hs.2.2 (x2.toNat + i) (by show _ < shN T x1.toNat; omega)]
      refine ⟨fun q => absurd q (by omega), fun _ => ⟨by omega, by omega, by omega, by omega, fun g5 eg5 => ?_⟩⟩
      refine ih g5 ⟨fun b hb => by rw [eg5, up2_ne _ _ _ hb]; exact r1 b hb, fun a ha => ?_⟩
      rw [eg5]; simp only [up2_ap, if_true]
      by_cases q : a = i
      · rw [if_pos q, q]
      · rw [if_neg q]; exact r2' a (by omega)
  · have e : opCopy T x1 x2 x3 x4 x5 = (setL T 4, -14) := by unfold opCopy; rw [if_pos (by omega), if_neg (by omega), if_neg q5]
    rw [e] at k
    subst eg
    exact k _ (h.lat 4).1 (h.lat 4).2
/-- crossings by pairs of items, n of them done -/
def rdF (s : Nat) : Nat → TT → Nat → TT × Int
  | 0, T, n => (T, n)
  | f + 1, T, n => if ((2 * n + 2 : Nat) : Int) ≤ shN T s then (if (opCross T (shI T s (2 * n)) (shI T s (2 * n + 1))).2 < 0 then ((opCross T (shI T s (2 * n)) (shI T s (2 * n + 1))).1, (n : Int)) else rdF s f (opCross T (shI T s (2 * n)) (shI T s (2 * n + 1))).1 (n + 1)) else (T, (n : Int))
def opRead (T : TT) (s : Int) : TT × Int :=
  if 0 ≤ s ∧ s < 4 then (if shN T s.toNat < 0 then (setL T 1, -11) else rdF s.toNat 40 T 0) else (T, -2)
theorem cross_sh (T : TT) (x y : Int) : (opCross T x y).1.2 = T.2 := by
  unfold opCross
  by_cases q : (0 ≤ x ∧ x < 20) ∧ (0 ≤ y ∧ y < 8)
  · rw [if_pos q]
    by_cases q2 : T.1.2.1.length < 16
    · rw [if_pos q2]
    · rw [if_neg q2]
  · rw [if_neg q]
theorem cross_rng {T : TT} (hT : GT T) (x y : Int) : nm (opCross T x y).2 = (opCross T x y).2 := by
  have := hT.1.2.2.2.2.1.1
  unfold opCross
  by_cases q : (0 ≤ x ∧ x < 20) ∧ (0 ≤ y ∧ y < 8)
  · rw [if_pos q]
    by_cases q2 : T.1.2.1.length < 16
    · rw [if_pos q2]; exact nm_id (by show -2147483648 ≤ (T.1.2.1.length : Int) + 1; omega) (by show (T.1.2.1.length : Int) + 1 < 2147483648; omega)
    · rw [if_neg q2]; show nm (-4) = -4; decide
  · rw [if_neg q]; show nm (-2) = -2; decide
theorem GT.rd {s : Nat} : ∀ f {T : TT} (n : Nat), GT T → GT (rdF s f T n).1
  | 0, T, n, h => h
  | f + 1, T, n, h => by
    show GT (if _ then (if _ then _ else _) else _ : TT × Int).1
    by_cases q : ((2 * n + 2 : Nat) : Int) ≤ shN T s
    · rw [if_pos q]
      by_cases q2 : (opCross T (shI T s (2 * n)) (shI T s (2 * n + 1))).2 < 0
      · rw [if_pos q2]; exact h.cross _ _
      · rw [if_neg q2]; exact GT.rd f (n + 1) (h.cross _ _)
    · rw [if_neg q]; exact h
theorem GT.read {T : TT} (h : GT T) (s : Int) : GT (opRead T s).1 := by
  unfold opRead
  by_cases q : 0 ≤ s ∧ s < 4
  · rw [if_pos q]
    by_cases q2 : shN T s.toNat < 0
    · rw [if_pos q2]; exact h
    · rw [if_neg q2]; exact GT.rd 40 0 h
  · rw [if_neg q]; exact h
theorem c_rd {s : Nat} {x1 : Int} (hs : s < 4) (hx : x1 = (s : Int)) (e1 : nm x1 = x1) : ∀ (f : Nat) {g : GI} {T : TT} (n : Nat), 30 < n + f → n ≤ 30 → GT T → IC g T → 0 ≤ shN T s → (∀ g', IC g' (rdF s f T n).1 → FrL g g' → P (some (aI (rdF s f T n).2)) g') → Zm w (d + 2) mX10_read 44 [some (aR (some 0)), some (aI x1), some (aR (some (220 + 2 * s + 1))), some (aI (n : Int)), some (aI (2 * (n : Int)))] [] g P
  | 0, g, T, n, hn, hn2, hT, h, h0, k => by omega
  | f + 1, g, T, n, hn, hn2, hT, h, h0, k => by
    have hc := h.2.2.2.2 s hs
    have b60 : shN T s ≤ 60 := (hT.2.2 s hs).2.1
    have b61 : (T.2.2.2 s).2.1 ≤ 60 := (hT.2.2 s hs).2.1
    have hi : nm (2 * (n : Int)) = ((2 * n : Nat) : Int) := by rw [nm_id (by omega) (by omega)]; omega
    have hi1 : nm (2 * (n : Int) + 1) = ((2 * n + 1 : Nat) : Int) := by rw [nm_id (by omega) (by omega)]; omega
    have n60 : nm ((60 : Nat) : Int) = 60 := by decide
    have hN : nm ((T.2.2.2 s).2.1) = (T.2.2.2 s).2.1 := nm_sh hT hs
    have unf : rdF s (f + 1) T n = if ((2 * n + 2 : Nat) : Int) ≤ shN T s then (if (opCross T (shI T s (2 * n)) (shI T s (2 * n + 1))).2 < 0 then ((opCross T (shI T s (2 * n)) (shI T s (2 * n + 1))).1, (n : Int)) else rdF s f (opCross T (shI T s (2 * n)) (shI T s (2 * n + 1))).1 (n + 1)) else (T, (n : Int)) := rfl
    rw [unf] at k
    refine s_X10_read_44 _ (isS_at s hs).2.2 _ _ ?_
    rw [e1, hx, Int.toNat_natCast, hc.1, hi, hi1, n60, hN, Int.toNat_natCast, Int.toNat_natCast]
    refine ⟨by omega, by omega, fun q => ?_, fun q => ⟨fun q2 => absurd q2 (by omega), fun _ => ⟨by omega, by omega, by omega, by omega, ?_⟩⟩⟩
    · rw [if_neg (by show ¬ ((2 * n + 2 : Nat) : Int) ≤ (T.2.2.2 s).2.1; omega)] at k
      exact k g h FrL.rfl
    · rw [if_pos (by show ((2 * n + 2 : Nat) : Int) ≤ (T.2.2.2 s).2.1; omega)] at k
      rw [show 220 + 2 * s + 1 = 221 + 2 * s by omega, hc.2.2 (2 * n) (by omega), hc.2.2 (2 * n + 1) (by omega)]
      refine k_cross hT h ((hT.2.2 s hs).2.2.2 _ (by omega)) ((hT.2.2 s hs).2.2.2 _ (by omega)) (fun g1 i1 f1 => ⟨_, rfl, ?_⟩)
      rw [cross_rng hT]
      refine ⟨fun q2 => ?_, fun q2 => ?_⟩
      · rw [if_neg q2] at k
        have hsame := cross_sh T (shI T s (2 * n)) (shI T s (2 * n + 1))
        have := c_rd hs hx e1 f (n + 1) (by omega) (by omega) (hT.cross _ _) i1 (by show 0 ≤ ((opCross T (shI T s (2 * n)) (shI T s (2 * n + 1))).1.2.2.2 s).2.1; rw [hsame]; exact h0) (fun g' i' f' => k g' i' (f1.trans f'))
        rw [show ((n + 1 : Nat) : Int) = (n : Int) + 1 by omega, show 2 * ((n : Int) + 1) = 2 * (n : Int) + 2 by omega, hx] at this
        rw [show 221 + 2 * s = 220 + 2 * s + 1 by omega]
        exact this
      · rw [if_pos q2] at k
        exact k g1 i1 f1
theorem k_read {x1 : Int} (hT : GT T) (h : IC g T) (e1 : nm x1 = x1) (k : ∀ g', IC g' (opRead T x1).1 → FrL g g' → P (some (aI (opRead T x1).2)) g') : Zm w (d + 2) mX10_read 0 [some (aR (some 0)), some (aI x1), none, none, none] [] g P := by
  have n4 : nm 4 = 4 := by decide
  refine s_X10_read_0 _ ?_
  rw [wi_x e1 n4, e1]
  refine ⟨fun q1 => ⟨(nn q1).1, (nn q1).2, ?_⟩, fun q => ?_⟩
  · have q1 := nn q1
    have hs := h.2.2.2.2 x1.toNat (by omega)
    rw [hs.1, isNeg_x (nm_sh hT (by omega))]
    refine ⟨fun q2 => ?_, fun q2 g2 eg => ?_⟩
    · have e : opRead T x1 = rdF x1.toNat 40 T 0 := by unfold opRead; rw [if_pos q1, if_neg q2]
      rw [e] at k
      exact c_rd (s := x1.toNat) (by omega) (by omega) e1 40 0 (by omega) (by omega) hT h (by omega) k
    · have e : opRead T x1 = (setL T 1, -11) := by unfold opRead; rw [if_pos q1, if_pos (nn q2)]
      rw [e] at k
      subst eg
      exact k _ (h.lat 1).1 (h.lat 1).2
  · have e : opRead T x1 = (T, -2) := by unfold opRead; rw [if_neg q]
    rw [e] at k; exact k g h FrL.rfl
theorem c_rdM {s : Nat} {x1 : Int} (hs : s < 4) (hx : x1 = (s : Int)) (e1 : nm x1 = x1) : ∀ (f : Nat) {g : GI} {T : TT} (n : Nat), 30 < n + f → n ≤ 30 → GT T → IM g T → 0 ≤ shN T s → (∀ g', IM g' (rdF s f T n).1 → FrH g g' → P (some (aI (rdF s f T n).2)) g') → Zm w (d + 3) mX11_read 29 [some (aR (some 228)), some (aI x1), some (aI (n : Int)), some (aI 1)] [] g P
  | 0, g, T, n, hn, hn2, hT, h, h0, k => by omega
  | f + 1, g, T, n, hn, hn2, hT, h, h0, k => by
    have hc := h.2.2.2.2.2 s hs
    have b60 : shN T s ≤ 60 := (hT.2.2 s hs).2.1
    have b61 : (T.2.2.2 s).2.1 ≤ 60 := (hT.2.2 s hs).2.1
    have n1 : nm 1 = 1 := by decide
    have n0 : nm 0 = 0 := by decide
    have hN : nm ((T.2.2.2 s).2.1) = (T.2.2.2 s).2.1 := nm_sh hT hs
    have hi2 : nm (2 * (n : Int) + 2) = ((2 * n + 2 : Nat) : Int) := by rw [nm_id (by omega) (by omega)]; omega
    have unf : rdF s (f + 1) T n = if ((2 * n + 2 : Nat) : Int) ≤ shN T s then (if (opCross T (shI T s (2 * n)) (shI T s (2 * n + 1))).2 < 0 then ((opCross T (shI T s (2 * n)) (shI T s (2 * n + 1))).1, (n : Int)) else rdF s f (opCross T (shI T s (2 * n)) (shI T s (2 * n + 1))).1 (n + 1)) else (T, (n : Int)) := rfl
    rw [unf] at k
    refine s_X11_read_29 _ _ _ ?_
    rw [n1, e1, hx, Int.toNat_natCast, (hc.2.1 h0).2, hN, hi2]
    refine ⟨fun q => absurd q (by omega), fun _ => ⟨by omega, by omega, fun q => ?_, fun q => ?_⟩⟩
    · rw [if_neg (by show ¬ ((2 * n + 2 : Nat) : Int) ≤ (T.2.2.2 s).2.1; omega)] at k
      exact k g h FrH.rfl
    · rw [if_pos (by show ((2 * n + 2 : Nat) : Int) ≤ (T.2.2.2 s).2.1; omega)] at k
      have hi : nm (60 * (s : Int) + 2 * (n : Int)) = ((60 * s + 2 * n : Nat) : Int) := by rw [nm_id (by omega) (by omega)]; omega
      have hi1 : nm (60 * (s : Int) + 2 * (n : Int) + 1) = ((60 * s + (2 * n + 1) : Nat) : Int) := by rw [nm_id (by omega) (by omega)]; omega
      have hsh : 2 * n + 1 < 60 := by have : ((2 * n + 2 : Nat) : Int) ≤ 60 := by omega
                                      omega
      rw [hi, hi1, Int.toNat_natCast, Int.toNat_natCast, hc.2.2 (2 * n) (by omega), hc.2.2 (2 * n + 1) (by omega)]
      refine ⟨by omega, by omega, by omega, by omega, ?_⟩
      refine j_cross hT h ((hT.2.2 s hs).2.2.2 _ (by omega)) ((hT.2.2 s hs).2.2.2 _ (by omega)) (fun g1 i1 f1 => ⟨_, rfl, ?_⟩)
      rw [cross_rng hT]
      refine ⟨fun q2 => ?_, fun q2 => ?_⟩
      · rw [if_pos q2] at k
        refine s_X11_read_87 _ _ _ ?_
        rw [n0]
        refine ⟨fun _ v2 e2 => ?_, fun q => absurd rfl q⟩
        refine s_X11_read_29 _ _ _ ?_
        rw [n0]
        refine ⟨fun _ => ?_, fun q => absurd rfl q⟩
        rw [e2, Int.add_zero]
        exact k g1 i1 f1
      · rw [if_neg q2] at k
        have hsame := cross_sh T (shI T s (2 * n)) (shI T s (2 * n + 1))
        have := c_rdM hs hx e1 f (n + 1) (by omega) (by omega) (hT.cross _ _) i1 (by show 0 ≤ ((opCross T (shI T s (2 * n)) (shI T s (2 * n + 1))).1.2.2.2 s).2.1; rw [hsame]; exact h0) (fun g' i' f' => k g' i' (f1.trans f'))
        refine s_X11_read_87 _ _ _ ?_
        rw [n1]
        refine ⟨fun q => absurd q (by omega), fun _ v3 e3 => ?_⟩
        subst e3
        rw [hx] at this
        exact this
theorem j_read {x1 : Int} (hT : GT T) (h : IM g T) (e1 : nm x1 = x1) (k : ∀ g', IM g' (opRead T x1).1 → FrH g g' → P (some (aI (opRead T x1).2)) g') : Zm w (d + 3) mX11_read 0 [some (aR (some 228)), some (aI x1), none, none] [] g P := by
  refine s_X11_read_0 _ ?_
  rw [inn_x e1, e1]
  refine ⟨fun q1 => ⟨by omega, by omega, ?_⟩, fun q => ?_⟩
  · rw [shm_neg hT h (by omega)]
    refine ⟨fun q2 => ?_, fun q2 g2 eg => ?_⟩
    · have e : opRead T x1 = rdF x1.toNat 40 T 0 := by unfold opRead; rw [if_pos (by omega), if_neg q2]
      rw [e] at k
      exact c_rdM (s := x1.toNat) (by omega) (by omega) e1 40 0 (by omega) (by omega) hT h (by omega) k
    · have e : opRead T x1 = (setL T 1, -11) := by unfold opRead; rw [if_pos (by omega), if_pos q2]
      rw [e] at k
      subst eg
      exact k _ (h.lat 1).1 (h.lat 1).2
  · have e : opRead T x1 = (T, -2) := by unfold opRead; rw [if_neg (by omega)]
    rw [e] at k; exact k g h FrH.rfl
end SC2
