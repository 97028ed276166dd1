/-! the class: waters -/
def BO (o : Om) : Prop := nC o.1 ≤ 20 ∧ nP o.2 ≤ 8
def WW (g : GI) (o : Om) : Prop := WRv g o.1 ∧ WPp g o
def WR (g : GI) (a : Nat) (o : Om) (m : Mu) : Prop := (∀ x, x < nN o → g (a + 1) x = (m.1 x : Int) ∧ g (a + 2) x = (m.2.1 x : Int)) ∧ (∀ p, p < nP o.2 → g (a + 3) p = (m.2.2.1 p : Int)) ∧ g a 4 = (m.2.2.2.length : Int) ∧ ∀ i, i < m.2.2.2.length → g (a + 4) i = (m.2.2.2.getD i 0 : Int)
def FrW (g g' : GI) (a : Nat) : Prop := ∀ b, b < a ∨ a + 4 < b → g' b = g b
/-- a state of the waters as it may be -/
def Wf (o : Om) (m : Mu) : Prop := (∀ i j, i < m.2.2.2.length → j < m.2.2.2.length → m.2.2.2.getD i 0 = m.2.2.2.getD j 0 → i = j) ∧ (∀ i, i < m.2.2.2.length → m.2.2.2.getD i 0 < nN o ∧ m.1 (m.2.2.2.getD i 0) < nC o.1) ∧ m.2.2.2.length ≤ nR o.1 ∧ (∀ i j, i ≤ j → j < m.2.2.2.length → m.1 (m.2.2.2.getD j 0) ≤ m.1 (m.2.2.2.getD i 0)) ∧ (∀ p, p < nP o.2 → m.2.2.1 p < nN o ∧ m.1 (m.2.2.1 p) = 22 + p) ∧ (∀ i, i < m.2.2.2.length → m.1 (m.2.2.2.getD i 0) = 0 → isNm o.1 0 = true) ∧ (∀ x, x < nN o → m.1 x < 30)
theorem nN_le {o : Om} (h : BO o) : nN o ≤ 28 := by have := nR_le o.1; unfold nN; have := h.1; have := h.2; omega
theorem getD_mem {l : List Nat} {i : Nat} (h : i < l.length) : l.getD i 0 ∈ l := by
  rw [List.getD_eq_getElem?_getD, List.getElem?_eq_getElem h]; exact List.getElem_mem h
theorem WR.frame {g g' : GI} {a b : Nat} {o : Om} {m : Mu} (h : WR g a o m) (hf : FrW g g' b) (hd : a + 4 < b ∨ b + 4 < a) : WR g' a o m := by
  unfold WR at *
  rw [hf a (by omega), hf (a + 1) (by omega), hf (a + 2) (by omega), hf (a + 3) (by omega), hf (a + 4) (by omega)]
  exact h
theorem WR.same {g g' : GI} {a : Nat} {o : Om} {m : Mu} (h : WR g a o m) (hf : ∀ b, a ≤ b → b ≤ a + 4 → g' b = g b) : WR g' a o m := by
  unfold WR at *
  rw [hf a (by omega) (by omega), hf (a + 1) (by omega) (by omega), hf (a + 2) (by omega) (by omega), hf (a + 3) (by omega) (by omega), hf (a + 4) (by omega) (by omega)]
  exact h
theorem WW.same {g g' : GI} {o : Om} (h : WW g o) (hf : ∀ b, 18 < b → b < 27 → g' b = g b) (h18 : ∀ j, j ≠ 11 → g' 18 j = g 18 j) : WW g' o := by
  unfold WW WRv WPp at *
  rw [h18 8 (by decide), h18 9 (by decide), h18 10 (by decide), hf 19 (by omega) (by omega), hf 20 (by omega) (by omega), hf 21 (by omega) (by omega), hf 22 (by omega) (by omega), hf 23 (by omega) (by omega), hf 24 (by omega) (by omega), hf 25 (by omega) (by omega), hf 26 (by omega) (by omega)]
  exact h
theorem WW.frame {g g' : GI} {o : Om} {a : Nat} (h : WW g o) (hf : FrW g g' a) (ha : 31 ≤ a) : WW g' o := h.same (fun b _ _ => hf b (by omega)) (fun j _ => by rw [hf 18 (by omega)])
theorem FrW.trans {g g' g'' : GI} {a : Nat} (h : FrW g g' a) (h' : FrW g' g'' a) : FrW g g'' a := fun b hb => (h' b hb).trans (h b hb)
theorem FrW.rfl {g : GI} {a : Nat} : FrW g g a := fun _ _ => Eq.refl _
theorem FrW.up {g g' : GI} {a b k : Nat} {z : Int} (h : FrW g g' a) (hb : a ≤ b ∧ b ≤ a + 4) : FrW g (up2 g' b k z) a := fun c hc => by rw [up2_ne _ _ _ (by omega)]; exact h c hc
section WC
variable {w : GX} {d : Nat} {P : PN} {g : GI}
theorem c_fill {x0 l : Nat} {v : Int} (hk : kd0 x0 = (12, l)) (hl : l < 1000) (k : ∀ g' : GI, (∀ b, b ≠ x0 → g' b = g b) → (∀ j, j < l → g' x0 j = v) → P none g') : Zm w d mJ7_fill_53178 0 [some (aR (some x0)), some (aI v), none, none] [] g P := by
  refine s_J7_fill_53178_0 hk _ (fun v1 e1 => ?_)
  subst e1
  refine loopN (σ := GI) (fun i g3 => Zm w d mJ7_fill_53178 5 [some (aR (some x0)), some (aI v), some (aI (i : Int)), some (aI (l : Int))] [] g3 P) (fun i g3 => (∀ b, b ≠ x0 → g3 b = g b) ∧ ∀ j, j < i → g3 x0 j = v) l ?_ ?_ 0 g (Nat.zero_le _) ⟨fun _ _ => rfl, fun j hj => absurd hj (Nat.not_lt_zero j)⟩
  · intro g3 ⟨f1, f2⟩
    refine s_J7_fill_53178_5 hk _ _ _ ⟨fun _ => k g3 f1 f2, fun c => absurd c (by omega)⟩
  · intro i g3 hi ⟨f1, f2⟩ ih
    have e0 : nm (i : Int) = i := nm_id (by omega) (by omega)
    have e1 : nm (l : Int) = l := nm_id (by omega) (by omega)
    refine s_J7_fill_53178_5 hk _ _ _ ?_
    rw [e0, e1, Int.toNat_natCast]
    refine ⟨fun c => absurd c (by omega), fun _ => ⟨by omega, by omega, fun g4 e4 => ?_⟩⟩
    subst e4
    refine ih _ ⟨fun b hb => by rw [up2_ne _ _ _ hb]; exact f1 b hb, fun j hj => ?_⟩
    by_cases e : j = i
    · simp [up2_ap, e]
    · simp [up2_ap, e, f2 j (by omega)]
set_option maxHeartbeats 4000000 in
theorem c_begin {a : Nat} {o : Om} (hW : isW a) (hB : BO o) (hw : WW g o) (k : ∀ g' : GI, WR g' a o (beginM o) → FrW g g' a → P none g') : Zm w (d + 1) mX8_begin 0 [some (aR (some a)), some (aR (some 18)), none] [] g P := by
  obtain ⟨-, -, -, -, -, -, -, -, -, h31, h210⟩ := id hW
  have hnR : nR o.1 ≤ 20 := by have := nR_le o.1; have := hB.1; omega
  have hnP := hB.2
  refine s_X8_begin_0 hW ?_
  refine c_fill hW.2.2.1 (by omega) (fun g1 f1 f2 => ⟨rfl, fun g2 e2 => ?_⟩)
  have h18 : g1 18 = g 18 := f1 18 (by omega)
  rw [h18, hw.1.2.1] at e2
  -- the people
  have L2 : ∀ g3 : GI, FrW g g3 a → g3 a 4 = (nR o.1 : Int) → (∀ x, x < nR o.1 → g3 (a + 1) x = (cofF o.1 x : Int)) → (∀ x, x < 28 → g3 (a + 2) x = 0) → (∀ i, i < nR o.1 → g3 (a + 4) i = ((nR o.1 - 1 - i : Nat) : Int)) → Zm w (d + 1) mX8_begin 60 [some (aR (some a)), some (aR (some 18)), some (aI (0 : Int))] [] g3 P := by
    intro g3 q1 q2 q3 q4 q5
    refine loopN (σ := GI) (fun i g4 => Zm w (d + 1) mX8_begin 60 [some (aR (some a)), some (aR (some 18)), some (aI (i : Int))] [] g4 P) (fun i g4 => FrW g g4 a ∧ g4 a 4 = (nR o.1 : Int) ∧ (∀ x, x < nR o.1 → g4 (a + 1) x = (cofF o.1 x : Int)) ∧ (∀ x, x < 28 → g4 (a + 2) x = 0) ∧ (∀ i, i < nR o.1 → g4 (a + 4) i = ((nR o.1 - 1 - i : Nat) : Int)) ∧ ∀ p, p < i → g4 (a + 3) p = ((nR o.1 + p : Nat) : Int) ∧ g4 (a + 1) (nR o.1 + p) = ((22 + p : Nat) : Int)) (nP o.2) ?_ ?_ 0 g3 (Nat.zero_le _) ⟨q1, q2, q3, q4, q5, fun p hp => absurd hp (Nat.not_lt_zero p)⟩
    · intro g4 ⟨r1, r2, r3, r4, r5, r6⟩
      have e18 : g4 18 10 = (nP o.2 : Int) := by rw [r1 18 (by omega)]; exact hw.2.1
      have e1 : nm (nP o.2 : Int) = nP o.2 := nm_id (by omega) (by omega)
      refine s_X8_begin_60 hW _ ?_
      rw [e18, e1]
      refine ⟨fun _ => k g4 ⟨fun x hx => ?_, fun p hp => (r6 p hp).1, ?_, fun i hi => ?_⟩ r1, fun c => absurd c (by omega)⟩
      · have hx2 : x < nR o.1 + nP o.2 := hx
        refine ⟨?_, by rw [r4 x (by omega)]; rfl⟩
        show _ = ((if x < nR o.1 then cofF o.1 x else 22 + (x - nR o.1) : Nat) : Int)
        by_cases q : x < nR o.1
        · rw [if_pos q]; exact r3 x q
        · rw [if_neg q]
          have := (r6 (x - nR o.1) (by omega)).2
          rw [show nR o.1 + (x - nR o.1) = x by omega] at this
          exact this
      · show _ = (((List.range (nR o.1)).reverse.length : Nat) : Int)
        rw [List.length_reverse, List.length_range]; exact r2
      · have hi2 : i < nR o.1 := by
          have : i < (List.range (nR o.1)).reverse.length := hi
          simpa using this
        rw [r5 i hi2]
        show _ = (((List.range (nR o.1)).reverse.getD i 0 : Nat) : Int)
        congr 1
        rw [List.getD_eq_getElem?_getD, List.getElem?_reverse (by simpa using hi2)]
        simp
        rw [List.getElem?_range (by omega)]
        rfl
    · intro i g4 hi ⟨r1, r2, r3, r4, r5, r6⟩ ih
      have e18 : g4 18 10 = (nP o.2 : Int) := by rw [r1 18 (by omega)]; exact hw.2.1
      have e9 : g4 18 9 = (nR o.1 : Int) := by rw [r1 18 (by omega)]; exact hw.1.2.1
      have e1 : nm (nP o.2 : Int) = nP o.2 := nm_id (by omega) (by omega)
      have e0 : nm (i : Int) = i := nm_id (by omega) (by omega)
      have e2 : nm ((nR o.1 : Int) + i) = ((nR o.1 + i : Nat) : Int) := by rw [nm_id (by omega) (by omega)]; omega
      refine s_X8_begin_60 hW _ ?_
      rw [e18, e1, e0, Int.toNat_natCast, e9]
      refine ⟨fun c => absurd c (by omega), fun _ => ⟨by omega, by omega, fun g5 e5 => ?_⟩⟩
      have e95 : g5 18 9 = (nR o.1 : Int) := by rw [e5, up2_ne _ _ _ (by omega)]; exact e9
      rw [e95, e2, Int.toNat_natCast]
      refine ⟨by omega, by omega, fun g6 e6 => ?_⟩
      subst e6; subst e5
      refine ih _ ⟨(r1.up ⟨by omega, by omega⟩).up ⟨by omega, by omega⟩, by simp [up2_ap, r2], fun x hx => ?_, fun x hx => by simp [up2_ap, r4 x hx], fun j hj => by simp [up2_ap, r5 j hj], fun p hp => ?_⟩
      · have : ¬ x = nR o.1 + i := by omega
        simp [up2_ap, this, r3 x hx]
      · by_cases e : p = i
        · subst e; simp [up2_ap]
        · have := r6 p (by omega)
          simp [up2_ap, e, this.1, this.2]
  refine loopN (σ := GI) (fun i g4 => Zm w (d + 1) mX8_begin 18 [some (aR (some a)), some (aR (some 18)), some (aI (i : Int))] [] g4 P) (fun i g4 => FrW g g4 a ∧ g4 a 4 = (nR o.1 : Int) ∧ (∀ x, x < i → g4 (a + 1) x = (cofF o.1 x : Int)) ∧ (∀ x, x < 28 → g4 (a + 2) x = 0) ∧ (∀ j, j < nR o.1 → nR o.1 ≤ j + i → g4 (a + 4) j = ((nR o.1 - 1 - j : Nat) : Int))) (nR o.1) ?_ ?_ 0 g2 (Nat.zero_le _) ?_
  · intro g4 ⟨r1, r2, r3, r4, r5⟩
    refine s_X8_begin_18 hW _ ?_
    rw [r2]
    exact ⟨fun _ => L2 g4 r1 r2 r3 r4 (fun i hi => r5 i hi (by omega)), fun c => absurd c (by omega)⟩
  · intro i g4 hi ⟨r1, r2, r3, r4, r5⟩ ih
    have e0 : nm (i : Int) = i := nm_id (by omega) (by omega)
    have e1 : nm (nR o.1 : Int) = nR o.1 := nm_id (by omega) (by omega)
    have e2 : nm (((nR o.1 : Int) - 1) - i) = ((nR o.1 - 1 - i : Nat) : Int) := by rw [nm_id (by omega) (by omega)]; omega
    have e22 : g4 22 i = (cofF o.1 i : Int) := by rw [r1 22 (by omega)]; exact (hw.1.2.2.2 i hi).1
    refine s_X8_begin_18 hW _ ?_
    rw [r2, e0, e1, Int.toNat_natCast, e22]
    refine ⟨fun c => absurd c (by omega), fun _ => ⟨by omega, by omega, by omega, by omega, fun g5 e5 => ?_⟩⟩
    have e4 : g5 a 4 = (nR o.1 : Int) := by rw [e5, up2_ne _ _ _ (by omega)]; exact r2
    rw [e4, e2, Int.toNat_natCast]
    refine ⟨by omega, by omega, fun g6 e6 => ?_⟩
    subst e6; subst e5
    refine ih _ ⟨(r1.up ⟨by omega, by omega⟩).up ⟨by omega, by omega⟩, by simp [up2_ap, r2], fun x hx => ?_, fun x hx => by simp [up2_ap, r4 x hx], fun j hj hj2 => ?_⟩
    · by_cases e : x = i
      · subst e; simp [up2_ap]
      · simp [up2_ap, e, r3 x (by omega)]
    · by_cases e : j = nR o.1 - 1 - i
      · subst e; simp [up2_ap]; omega
      · simp [up2_ap, e, r5 j hj (by omega)]
  · subst e2
    refine ⟨?_, by simp [up2_ap], fun x hx => absurd hx (Nat.not_lt_zero x), fun x hx => ?_, fun j hj hj2 => by omega⟩
    · intro b hb
      rw [up2_ne _ _ _ (by omega), f1 b (by omega)]
    · simp [up2_ap, f2 x hx]
theorem c_become {a b : Nat} {o : Om} {m : Mu} (ha : isW a) (hb : isW b) (hab : a + 4 < b ∨ b + 4 < a) (hB : BO o) (hw : WR g b o m) (hl : m.2.2.2.length ≤ 20) (k : ∀ g' : GI, WR g' a o m → FrW g g' a → P none g') : Zm w (d + 1) mX8_become 0 [some (aR (some a)), some (aR (some b))] [] g P := by
  have hN := nN_le hB
  have hP := hB.2
  have n0 : nm 0 = 0 := by decide
  have n28 : nm 28 = 28 := by decide
  have n8 : nm 8 = 8 := by decide
  have en : nm (m.2.2.2.length : Int) = m.2.2.2.length := nm_id (by omega) (by omega)
  refine s_X8_become_0 ha hb ?_
  rw [n0, n28, n8]
  refine ⟨by omega, by omega, by omega, by omega, by omega, fun g1 e1 => ⟨by omega, by omega, by omega, by omega, by omega, fun g2 e2 => ⟨by omega, by omega, by omega, by omega, by omega, fun g3 e3 => ?_⟩⟩⟩
  have e34 : g3 b 4 = (m.2.2.2.length : Int) := by
    rw [e3, upf_ne _ _ (by omega), e2, upf_ne _ _ (by omega), e1, upf_ne _ _ (by omega)]; exact hw.2.2.1
  rw [e34, en]
  refine ⟨by omega, by omega, by omega, by omega, by omega, fun g4 e4 g5 e5 => ?_⟩
  have b1 : g1 (a + 1) = va_cpy (g (b + 1)) (g (a + 1)) 0 0 28 := by rw [e1, upf_eq]; rfl
  have b2 : g2 (a + 2) = va_cpy (g (b + 2)) (g1 (a + 2)) 0 0 28 := by rw [e2, upf_eq, e1, upf_ne (j := b + 2) _ _ (by omega)]; rfl
  have b3 : g3 (a + 3) = va_cpy (g (b + 3)) (g2 (a + 3)) 0 0 8 := by rw [e3, upf_eq, e2, upf_ne (j := b + 3) _ _ (by omega), e1, upf_ne (j := b + 3) _ _ (by omega)]; rfl
  have b4 : g4 (a + 4) = va_cpy (g (b + 4)) (g3 (a + 4)) 0 0 m.2.2.2.length := by rw [e4, upf_eq, e3, upf_ne (j := b + 4) _ _ (by omega), e2, upf_ne (j := b + 4) _ _ (by omega), e1, upf_ne (j := b + 4) _ _ (by omega)]; simp
  have e44 : g4 b 4 = (m.2.2.2.length : Int) := by rw [e4, upf_ne _ _ (by omega)]; exact e34
  rw [e44] at e5
  have c1 : g5 (a + 1) = g1 (a + 1) := by rw [e5, up2_ne _ _ _ (by omega), e4, upf_ne _ _ (by omega), e3, upf_ne _ _ (by omega), e2, upf_ne _ _ (by omega)]
  have c2 : g5 (a + 2) = g2 (a + 2) := by rw [e5, up2_ne _ _ _ (by omega), e4, upf_ne _ _ (by omega), e3, upf_ne _ _ (by omega)]
  have c3 : g5 (a + 3) = g3 (a + 3) := by rw [e5, up2_ne _ _ _ (by omega), e4, upf_ne _ _ (by omega)]
  have c4 : g5 (a + 4) = g4 (a + 4) := by rw [e5, up2_ne _ _ _ (by omega)]
  refine k g5 ⟨fun x hx => ?_, fun p hp => ?_, ?_, fun i hi => ?_⟩ (fun c hc => ?_)
  · rw [c1, b1, c2, b2]
    simp only [va_cpy]
    rw [if_pos (by omega), if_pos (by omega)]
    simpa using hw.1 x hx
  · rw [c3, b3]
    simp only [va_cpy]
    rw [if_pos (by omega)]
    simpa using hw.2.1 p hp
  · rw [e5]; simp [up2_ap]
  · rw [c4, b4]
    simp only [va_cpy]
    rw [if_pos (by omega)]
    simpa using hw.2.2.2 i hi
  · rw [e5, up2_ne _ _ _ (by omega), e4, upf_ne _ _ (by omega), e3, upf_ne _ _ (by omega), e2, upf_ne _ _ (by omega), e1, upf_ne _ _ (by omega)]
end WC
