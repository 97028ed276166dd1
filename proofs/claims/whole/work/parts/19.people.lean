/-! the class: people -/
theorem ppOk_FPp {f : Nat → Int} {n : Nat} {z : Int} (h : FPp (fun i => fitP ((i % 6 : Nat) : Int) (f i) = 0) n z) : (z = -1 ↔ ppOk (lst f n) = true) := by
  rw [ppOk_iff, lst_len]
  rcases h with ⟨r, hr, e, hb, h⟩ | ⟨h, e⟩
  · refine ⟨fun q => by omega, fun q => ?_⟩
    have := q.1 r hr
    rw [by_at hr] at this
    exact absurd hb this
  · refine ⟨fun q => ⟨fun i hi => ?_, ?_⟩, fun q => ?_⟩
    · rw [by_at hi]; exact h i hi
    · rw [e] at q
      split at q
      · assumption
      · omega
    · rw [e, if_pos q.2]
theorem nP_len {t1 : List Int} (h : 0 < nP t1) : ppOk t1 = true ∧ 6 * nP t1 = t1.length + 1 := by
  unfold nP at h ⊢
  by_cases q : ppOk t1 = true
  · rw [if_pos q] at h ⊢
    have := (ppOk_iff.mp q).2
    refine ⟨q, ?_⟩
    omega
  · rw [if_neg q] at h
    omega
theorem nP_le {t1 : List Int} (h : t1.length ≤ 47) : nP t1 ≤ 8 := by
  rcases Nat.eq_zero_or_pos (nP t1) with q | q
  · omega
  · have := (nP_len q).2; omega
section TP
variable {w : GX} {d : Nat} {P : PN} {g : GI}
set_option maxHeartbeats 4000000 in
theorem c_tellPeople {n R : Nat} (hn : g 218 1 = (n : Int)) (hl : n ≤ 47) (hR : g 18 9 = (R : Int)) (hR20 : R ≤ 20) (hb : ∀ i, i < n → 0 ≤ g 219 i ∧ g 219 i ≤ 255)
    (k : ∀ g' : GI, g' 18 10 = (nP (lst (g 219) n) : Int) → (∀ p, p < nP (lst (g 219) n) → g' 23 (R + p) = by_ (lst (g 219) n) (6 * p) - 97 ∧ g' 24 (R + p) = oweP (lst (g 219) n) p ∧ g' 25 p = wedF (lst (g 219) n) p ∧ g' 26 p = lukF (lst (g 219) n) p) → (∀ a, a < 18 ∨ 26 < a ∨ (18 < a ∧ a < 23) → g' a = g a) → (∀ j, j ≠ 10 → g' 18 j = g 18 j) → (∀ x, x < R → g' 23 x = g 23 x ∧ g' 24 x = g 24 x) → P none g') : Zm w (d + 3) mX9_tellPeople 0 [some (aR (some 18)), some (aR (some 218)), none, none, none, none] [] g P := by
  have hT := isT_218
  have hkd : (kd0 (218 + 1)).2 = 47 := by decide +kernel
  refine s_X9_tellPeople_0 hT ?_
  refine c_ppF (n := n) hT hn (by rw [hkd]; exact hl) (by omega) (fun z hz => ⟨z, rfl, ?_⟩)
  have hok := ppOk_FPp hz
  have hzr : nm z = z := by
    rcases hz with ⟨r, hr, e, -⟩ | ⟨-, e⟩
    · rw [e]; exact nm_id (by omega) (by omega)
    · rw [e]; split
      · decide
      · exact nm_id (by omega) (by omega)
  generalize ht1 : lst (g 219) n = t1 at hok k
  have hlen : t1.length = n := by rw [← ht1, lst_len]
  have hby : ∀ i, i < n → by_ t1 i = g 219 i := fun i hi => by rw [← ht1]; exact by_at hi
  have hnP : nP t1 ≤ 8 := nP_le (by omega)
  have e8 : nm 8 = 8 := by decide
  suffices H : ∀ y0 : Int, y0 = (nP t1 : Int) → Zm w (d + 3) mX9_tellPeople 21 [some (aR (some 18)), some (aR (some 218)), none, none, none, none] [aI y0] g P by
    rw [hzr, nm_m1]
    refine ⟨fun c => H _ ?_, fun c => H _ ?_⟩
    · have : nP t1 = 0 := by unfold nP; rw [if_neg (fun q => c (hok.mpr q))]
      rw [this]; rfl
    · rw [hn, show (n : Int) + 1 = ((n + 1 : Nat) : Int) from by omega, show (6 : Int) = ((6 : Nat) : Int) from rfl, iDiv_nat (by omega) (by omega) (by omega)]
      unfold nP
      rw [if_pos (hok.mp c), hlen]
  intro y0 hy0
  refine s_X9_tellPeople_21 hT _ (fun g1 e1 => ?_)
  have hm : iMin y0 8 = (nP t1 : Int) := by
    have e3 : nm (nP t1 : Int) = nP t1 := nm_id (by omega) (by omega)
    unfold iMin
    rw [hy0, e3, e8]
    split <;> omega
  rw [hm] at e1
  refine loopN (σ := GI) (fun i g3 => Zm w (d + 3) mX9_tellPeople 34 [some (aR (some 18)), some (aR (some 218)), none, some (aI (i : Int)), none, none] [] g3 P)
    (fun i g3 => g3 18 10 = (nP t1 : Int) ∧ (∀ p, p < i → g3 23 (R + p) = by_ t1 (6 * p) - 97 ∧ g3 24 (R + p) = oweP t1 p ∧ g3 25 p = wedF t1 p ∧ g3 26 p = lukF t1 p) ∧ (∀ a, a < 18 ∨ 26 < a ∨ (18 < a ∧ a < 23) → g3 a = g a) ∧ (∀ j, j ≠ 10 → g3 18 j = g 18 j) ∧ (∀ x, x < R → g3 23 x = g 23 x ∧ g3 24 x = g 24 x)) (nP t1) ?_ ?_ 0 g1 (Nat.zero_le _) ?_
  · intro g3 ⟨f1, f2, f3, f4, f5⟩
    have e3 : nm (nP t1 : Int) = nP t1 := nm_id (by omega) (by omega)
    refine s_X9_tellPeople_34 hT _ ?_
    rw [f1, e3]
    exact ⟨fun _ => k g3 f1 f2 f3 f4 f5, fun c => absurd c (by omega)⟩
  · intro i g3 hi ⟨f1, f2, f3, f4, f5⟩ ih
    have hlen6 := (nP_len (t1 := t1) (by omega)).2
    have e0 : nm (i : Int) = i := nm_id (by omega) (by omega)
    have e3 : nm (nP t1 : Int) = nP t1 := nm_id (by omega) (by omega)
    have a0 : nm ((6 * i : Nat) : Int) = ((6 * i : Nat) : Int) := nm_id (by omega) (by omega)
    have a1 : nm (((6 * i : Nat) : Int) + 1) = ((6 * i + 1 : Nat) : Int) := by rw [nm_id (by omega) (by omega)]; omega
    have a2 : nm (((6 * i : Nat) : Int) + 2) = ((6 * i + 2 : Nat) : Int) := by rw [nm_id (by omega) (by omega)]; omega
    have a3 : nm (((6 * i : Nat) : Int) + 3) = ((6 * i + 3 : Nat) : Int) := by rw [nm_id (by omega) (by omega)]; omega
    have a4 : nm (((6 * i : Nat) : Int) + 4) = ((6 * i + 4 : Nat) : Int) := by rw [nm_id (by omega) (by omega)]; omega
    have ar : nm ((R + i : Nat) : Int) = ((R + i : Nat) : Int) := nm_id (by omega) (by omega)
    have e219 : g3 219 = g 219 := f3 219 (by omega)
    have n46 : nm 46 = 46 := by decide
    have hb3 := hb (6 * i + 3) (by omega)
    have b3 : nm (g 219 (6 * i + 3)) = g 219 (6 * i + 3) := nm_id (by omega) (by omega)
    refine s_X9_tellPeople_34 hT _ ?_
    rw [f1, e3, e0, hkd]
    refine ⟨fun c => absurd c (by omega), fun c v2 hv2 v3 hv3 => ?_⟩
    have hv2 : v2 = ((6 * i : Nat) : Int) := by omega
    have hv3 : v3 = ((R + i : Nat) : Int) := by rw [hv3, f4 9 (by decide), hR]; omega
    subst hv2; subst hv3
    rw [a0, a1, a2, a3, ar, Int.toNat_natCast, Int.toNat_natCast, Int.toNat_natCast, Int.toNat_natCast, Int.toNat_natCast]
    refine ⟨by omega, by omega, by omega, by omega, fun g4 e4 => ⟨by omega, by omega, by omega, by omega, fun g5 e5 => ⟨by omega, by omega, ?_⟩⟩⟩
    have r219 : g5 219 = g 219 := by rw [e5, e4, up2_ne _ _ _ (by decide), up2_ne _ _ _ (by decide)]; exact e219
    have r4 : g4 219 = g 219 := by rw [e4, up2_ne _ _ _ (by decide)]; exact e219
    have F : ∀ u : Int, u = wedF t1 i → Zm w (d + 3) mX9_tellPeople 143 [some (aR (some 18)), some (aR (some 218)), none, some (aI (i : Int)), some (aI ((6 * i : Nat) : Int)), none] [aI u, aI (i : Int), aR (some 25)] g5 P := by
      intro u hu
      refine s_X9_tellPeople_143 hT _ _ _ _ ?_
      rw [e0, a4, Int.toNat_natCast, Int.toNat_natCast, hkd]
      refine ⟨by omega, by omega, fun g6 e6 => ⟨by omega, by omega, by omega, by omega, fun g7 e7 => ?_⟩⟩
      have r6 : g6 219 = g 219 := by rw [e6, up2_ne _ _ _ (by decide)]; exact r219
      rw [show g6 (218 + 1) (6 * i + 4) = g 219 (6 * i + 4) from by rw [show 218 + 1 = 219 from rfl, r6]] at e7
      rw [show g4 (218 + 1) (6 * i + 1) = g 219 (6 * i + 1) from by rw [show 218 + 1 = 219 from rfl, r4], show g4 (218 + 1) (6 * i + 2) = g 219 (6 * i + 2) from by rw [show 218 + 1 = 219 from rfl, r4]] at e5
      rw [show g3 (218 + 1) (6 * i) = g 219 (6 * i) from by rw [show 218 + 1 = 219 from rfl, e219]] at e4
      refine ih g7 ⟨?_, fun p hp => ?_, fun a ha => ?_, fun j hj => ?_, fun x hx => ?_⟩
      · rw [e7, e6, e5, e4]; simp [up2_ap, f1]
      · by_cases e : p = i
        · subst e
          rw [e7, e6, e5, e4]
          refine ⟨?_, ?_, ?_, ?_⟩
          · simp [up2_ap, hby (6 * p) (by omega)]
          · simp only [up2_ap, oweP, hby (6 * p + 1) (by omega), hby (6 * p + 2) (by omega)]
            simp; omega
          · simp [up2_ap, hu]
          · simp [up2_ap, lukF, hby (6 * p + 4) (by omega)]
        · have := f2 p (by omega)
          rw [e7, e6, e5, e4]
          have ne : ¬ R + p = R + i := by omega
          simp [up2_ap, e, this.1, this.2.1, this.2.2.1, this.2.2.2]
      · rw [e7, e6, e5, e4, up2_ne _ _ _ (by omega), up2_ne _ _ _ (by omega), up2_ne _ _ _ (by omega), up2_ne _ _ _ (by omega)]
        exact f3 a ha
      · rw [e7, e6, e5, e4]; simp [up2_ap, f4 j hj]
      · rw [e7, e6, e5, e4]
        have ne : ¬ x = R + i := by omega
        have := f5 x hx
        simp [up2_ap, ne, this.1, this.2]
    rw [show g5 (218 + 1) (6 * i + 3) = g 219 (6 * i + 3) from by rw [show 218 + 1 = 219 from rfl, r219], b3, n46]
    refine ⟨fun c2 => F _ ?_, fun c2 => F _ ?_⟩
    · unfold wedF; rw [hby _ (by omega), if_neg c2]
    · unfold wedF; rw [hby _ (by omega), if_pos c2]
  · subst e1
    refine ⟨by simp [up2_ap], fun p hp => absurd hp (Nat.not_lt_zero p), fun a ha => by rw [up2_ne _ _ _ (by omega)], fun j hj => by simp [up2_ap, hj], fun x hx => by simp [up2_ap]⟩
end TP
