/-! the model: drift -/
theorem Sg.antiC {n c0 : Nat} {wh : Nat → Nat} {al : List Nat} {h : Nat → Nat} (H : Sg n c0 wh al h) : ∀ c e, c0 ≤ c → c ≤ e → e ≤ n → h e ≤ h c
  | c, 0, _, h1, _ => by rw [show c = 0 by omega]; exact Nat.le_refl _
  | c, e + 1, h0, h1, h2 => by
    by_cases q : c = e + 1
    · rw [q]; exact Nat.le_refl _
    · have := Sg.antiC H c e h0 (by omega) (by omega)
      have := (H.2.2 e (by omega) (by omega)).1
      omega
theorem lwh_step {f wear : Int} {a : Nat} (ha : a < 1000) (h1 : 1 ≤ wear) (h2 : wear ≤ 20) : lwh f ((a + 1 : Nat) : Int) wear = if ((a + 1 : Nat) : Int) = wear then vow (nm (lwh f (a : Int) wear)) else lwh f (a : Int) wear := by
  have e1 : nm (a : Int) = a := nm_id (by omega) (by omega)
  have e2 : nm ((a + 1 : Nat) : Int) = ((a + 1 : Nat) : Int) := nm_id (by omega) (by omega)
  have e3 : nm wear = wear := nm_id (by omega) (by omega)
  unfold lwh
  rw [e1, e2, e3]
  by_cases q : ((a + 1 : Nat) : Int) = wear
  · rw [if_neg (by omega), if_pos q, if_pos (by omega)]
  · rw [if_neg q]
    by_cases z : ((a + 1 : Nat) : Int) < wear
    · rw [if_pos z, if_pos (by omega)]
    · rw [if_neg z, if_neg (by omega)]
/-- one step of the drift, the name being known to stand in c -/
theorem drK_step {o : Om} {m : Mu} {h : Nat → Nat} (hf : Wf o m) (hs : Sg (nC o.1) 0 m.1 m.2.2.2 h) (day : Nat) {c t : Nat} (hc : c < nC o.1) (ht : t < h c - h (c + 1)) :
    (drK o.1 day m (h (c + 1) + t)).1 (m.2.2.2.getD (h (c + 1) + t) 0) = c ∧ (drK o.1 day m (h (c + 1) + t)).2.1 (m.2.2.2.getD (h (c + 1) + t) 0) = m.2.1 (m.2.2.2.getD (h (c + 1) + t) 0) ∧
    drK o.1 day m (h (c + 1) + (t + 1)) = (if drD o.1 day c then (up1 (drK o.1 day m (h (c + 1) + t)).1 (m.2.2.2.getD (h (c + 1) + t) 0) (if c + 1 < nC o.1 then c + 1 else 20), up1 (drK o.1 day m (h (c + 1) + t)).2.1 (m.2.2.2.getD (h (c + 1) + t) 0) ((drK o.1 day m (h (c + 1) + t)).2.1 (m.2.2.2.getD (h (c + 1) + t) 0) + 1), (drK o.1 day m (h (c + 1) + t)).2.2.1, if c + 1 < nC o.1 then (drK o.1 day m (h (c + 1) + t)).2.2.2 ++ [m.2.2.2.getD (h (c + 1) + t) 0] else (drK o.1 day m (h (c + 1) + t)).2.2.2)
      else ((drK o.1 day m (h (c + 1) + t)).1, (drK o.1 day m (h (c + 1) + t)).2.1, (drK o.1 day m (h (c + 1) + t)).2.2.1, (drK o.1 day m (h (c + 1) + t)).2.2.2 ++ [m.2.2.2.getD (h (c + 1) + t) 0])) := by
  have hcl := hs.le (c := c) (by omega)
  have hw := drK_wh o.1 day m hf.1 (h (c + 1) + t) (by omega) (h (c + 1) + t) (Nat.le_refl _) (by omega)
  have hk := (hs.2.2 c (Nat.zero_le _) hc).2 (h (c + 1) + t) (by omega) (by omega)
  rw [hk] at hw
  refine ⟨hw.1, hw.2, ?_⟩
  show dr1 o.1 day (drK o.1 day m (h (c + 1) + t)) (m.2.2.2.getD (h (c + 1) + t) 0) = _
  unfold dr1
  rw [hw.1]
/-- what a cell's names that stay make -/
theorem drK_stay {o : Om} {m : Mu} {h : Nat → Nat} (hf : Wf o m) (hs : Sg (nC o.1) 0 m.1 m.2.2.2 h) (day : Nat) {c : Nat} (hc : c < nC o.1) (hd : drD o.1 day c = false) : ∀ t, t ≤ h c - h (c + 1) →
    (drK o.1 day m (h (c + 1) + t)).1 = (drK o.1 day m (h (c + 1))).1 ∧ (drK o.1 day m (h (c + 1) + t)).2.1 = (drK o.1 day m (h (c + 1))).2.1 ∧ (drK o.1 day m (h (c + 1) + t)).2.2.2.length = (drK o.1 day m (h (c + 1))).2.2.2.length + t ∧ (∀ j, j < (drK o.1 day m (h (c + 1))).2.2.2.length → (drK o.1 day m (h (c + 1) + t)).2.2.2.getD j 0 = (drK o.1 day m (h (c + 1))).2.2.2.getD j 0) ∧ (∀ u, u < t → (drK o.1 day m (h (c + 1) + t)).2.2.2.getD ((drK o.1 day m (h (c + 1))).2.2.2.length + u) 0 = m.2.2.2.getD (h (c + 1) + u) 0)
  | 0, _ => ⟨rfl, rfl, rfl, fun _ _ => rfl, fun u hu => absurd hu (Nat.not_lt_zero u)⟩
  | t + 1, ht => by
    obtain ⟨a1, a2, a3, a4, a5⟩ := drK_stay hf hs day hc hd t (by omega)
    have := (drK_step hf hs day hc (t := t) (by omega)).2.2
    rw [hd] at this
    simp only [Bool.false_eq_true, if_false] at this
    rw [this]
    refine ⟨a1, a2, ?_, fun j hj => ?_, fun u hu => ?_⟩
    · show (_ ++ [_]).length = _
      rw [List.length_append, a3]; rfl
    · show (_ ++ [_]).getD j 0 = _
      rw [getD_snoc, if_pos (by omega)]; exact a4 j hj
    · show (_ ++ [_]).getD _ 0 = _
      rw [getD_snoc, a3]
      by_cases q : u < t
      · rw [if_pos (by omega)]; exact a5 u q
      · rw [if_neg (by omega), if_pos (by omega), show u = t by omega]
theorem drD_eq (t0 : List Int) (day c : Nat) : drD t0 day c = (decide (nC t0 ≤ c + 1 ∨ kob (by_ t0 (c + 1)) ≠ 2) && (decide (kob (by_ t0 c) ≠ 1) || decide (day % 2 = 0))) := by
  unfold drD odD evD
  by_cases q : day % 2 = 0
  · rw [if_pos q, decide_eq_true q]; simp
  · rw [if_neg q, decide_eq_false q]; simp
section MD
variable {w : GX} {d : Nat} {P : PN} {g : GI}
set_option maxHeartbeats 2000000 in
theorem c_mdrift {o : Om} {wear : Int} {m : Mu} {day : Nat} (hB : BO o) (hwm : WM g o) (hw : MW g o wear m) (hf : Wf o m) (hwo : Wo m 900) (hwr : g 228 13 = wear) (hw1 : 1 ≤ wear) (hw2 : wear ≤ 20) (hday : day < 1000)
    (k : ∀ g' : GI, MW g' o wear (driftM o.1 day m) → (∀ b, b < 241 ∨ 245 < b → g' b = g b) → P none g') : Zm w (d + 1) mX11_drift 0 [some (aR (some 228)), some (aI (day : Int)), none, none, none, none, none] [] g P := by
  obtain ⟨⟨h, hs, hr⟩, hz, hn⟩ := hw
  have hC := hB.1
  have hN := nN_le hB
  have hlen := hf.len hB
  have n0 : nm 0 = 0 := by decide
  have n1 : nm 1 = 1 := by decide
  have n2 : nm 2 = 2 := by decide
  have eC : nm (nC o.1 : Int) = nC o.1 := nm_id (by omega) (by omega)
  have eD : iRem (day : Int) 2 = ((day % 2 : Nat) : Int) := by rw [show (2 : Int) = ((2 : Nat) : Int) from rfl, iRem_nat (by omega) (by omega) (by omega)]
  have eD' : nm ((day % 2 : Nat) : Int) = ((day % 2 : Nat) : Int) := nm_id (by omega) (by omega)
  have ew : nm wear = wear := nm_id (by omega) (by omega)
  refine s_X11_drift_0 _ (fun v1 e1 => ?_)
  rw [hwm.1.1] at e1
  refine loopD (σ := GI) (fun i s => ∀ x2 : Int, x2 = (i : Int) - 1 → Zm w (d + 1) mX11_drift 7 [some (aR (some 228)), some (aI (day : Int)), some (aI x2), none, none, none, none] [] s P)
    (fun i s => i ≤ nC o.1 ∧ (∀ b, b < 241 ∨ 245 < b → s b = g b) ∧ (∃ h', Sg (nC o.1) i (drK o.1 day m (h i)).1 (drK o.1 day m (h i)).2.2.2 h' ∧ RwM s (nC o.1) i (drK o.1 day m (h i)).2.2.2 h') ∧ (∀ e, e < i → s 242 e = ((h e - h (e + 1) : Nat) : Int) ∧ ∀ j, j < h e - h (e + 1) → s 241 (28 * e + j) = (m.2.2.2.getD (h (e + 1) + j) 0 : Int)) ∧ (∀ c, nC o.1 ≤ c → c < 20 → s 242 c = 0) ∧ (∀ x, x < nN o → s 243 x = ((drK o.1 day m (h i)).1 x : Int) ∧ s 244 x = ((drK o.1 day m (h i)).2.1 x : Int) ∧ s 245 x = letM o wear (drK o.1 day m (h i)) x)) ?_ ?_ (nC o.1) g ⟨Nat.le_refl _, fun _ _ => rfl, ⟨fun _ => 0, ?_, ?_⟩, fun e he => hr e (Nat.zero_le _) he, hz, ?_⟩ v1 e1
  · intro g3 ⟨r0, r1, ⟨h', r2, r3⟩, r4, r5, r6⟩ x2 hx2
    have ex : nm x2 = -1 := by rw [hx2]; decide
    refine s_X11_drift_7 _ _ ?_
    rw [ex]
    refine ⟨fun _ => k g3 ⟨⟨h', ?_, ?_⟩, r5, ?_, fun p hp => ?_⟩ r1, fun q => absurd q (by omega)⟩
    · rw [hs.2.1] at r2; exact r2
    · rw [hs.2.1] at r3; exact r3
    · rw [hs.2.1] at r6; exact r6
    · rw [r1 246 (by omega), hn.2 p hp]
      show _ = ((drK o.1 day m m.2.2.2.length).2.2.1 p : Int)
      rw [drK_ha]
  · intro c g3 ⟨r0, r1, ⟨h', r2, r3⟩, r4, r5, r6⟩ ih x2 hx2
    have hx2 : x2 = (c : Int) := by omega
    subst hx2
    have hcC : c < nC o.1 := by omega
    have ec : nm (c : Int) = c := nm_id (by omega) (by omega)
    have ec1 : nm ((c : Int) + 1) = ((c + 1 : Nat) : Int) := by rw [nm_id (by omega) (by omega)]; omega
    have hcl := hs.le (c := c) (by omega)
    have hcc := (hs.2.2 c (Nat.zero_le _) hcC).1
    have kE : ∀ e, e < nC o.1 → g3 235 e = kob (by_ o.1 e) := fun e he => by rw [r1 235 (by omega)]; exact (hwm.1.2.2 e he).1
    have e7 : g3 228 7 = (nC o.1 : Int) := by rw [r1 228 (by omega)]; exact hwm.1.1
    have hrc := r4 c (by omega)
    have eKc : nm ((h c - h (c + 1) : Nat) : Int) = ((h c - h (c + 1) : Nat) : Int) := nm_id (by omega) (by omega)
    have hdq := drD_eq o.1 day c
    -- the cell done
    have H1 : ∀ y : Int, y = bI (drD o.1 day c) → Zm w (d + 1) mX11_drift 64 [some (aR (some 228)), some (aI (day : Int)), some (aI (c : Int)), none, none, none, none] [aI y] g3 P := by
      intro y hy
      refine s_X11_drift_64 _ _ _ ?_
      cases hd : drD o.1 day c with
      | false =>
        rw [hd] at hy
        have hy : y = 0 := hy
        subst hy
        have K188 : Zm w (d + 1) mX11_drift 188 [some (aR (some 228)), some (aI (day : Int)), some (aI (c : Int)), none, some (aI 0), none, none] [] g3 P := by
          refine s_X11_drift_188 _ _ _ ?_
          rw [n0, ec, Int.toNat_natCast, hrc.1]
          refine ⟨fun _ => ⟨by omega, by omega, fun g4 e4 => ?_⟩, fun q => absurd rfl q⟩
          obtain ⟨a1, a2, a3, a4, a5⟩ := drK_stay hf hs day hcC hd (h c - h (c + 1)) (Nat.le_refl _)
          rw [show h (c + 1) + (h c - h (c + 1)) = h c by omega] at a1 a2 a3 a4 a5
          have hKl := r2.2.1
          have f4 : ∀ b, b ≠ 242 → g4 b = g3 b := fun b hb => by rw [e4, up2_ne _ _ _ hb]
          have f42 : ∀ e, g4 242 e = g3 242 e := fun e => by
            rw [e4]; simp only [up2_ap, if_true]
            split
            · rename_i q; rw [q, hrc.1]
            · rfl
          refine ih g4 ⟨by omega, fun b hb => by rw [f4 b (by omega)]; exact r1 b hb, ⟨fun e => if e ≤ c then (drK o.1 day m (h c)).2.2.2.length else h' e, ⟨?_, ?_, fun e he1 he2 => ?_⟩, fun e he1 he2 => ?_⟩, fun e he => by rw [f42, f4 241 (by omega)]; exact r4 e (by omega), fun e q1 q2 => by rw [f42]; exact r5 e q1 q2, fun x hx => ?_⟩ _ (by omega)
          · show (if nC o.1 ≤ c then _ else _) = 0
            rw [if_neg (by omega)]; exact r2.1
          · show (if c ≤ c then _ else _) = _
            rw [if_pos (Nat.le_refl _)]
          · show (if e + 1 ≤ c then _ else h' (e + 1)) ≤ (if e ≤ c then _ else h' e) ∧ ∀ j, (if e + 1 ≤ c then _ else h' (e + 1)) ≤ j → j < (if e ≤ c then _ else h' e) → _
            rw [if_neg (show ¬ e + 1 ≤ c by omega)]
            by_cases q : e = c
            · subst q
              rw [if_pos (Nat.le_refl _), hKl]
              refine ⟨by omega, fun j j1 j2 => ?_⟩
              have := a5 (j - (drK o.1 day m (h (e + 1))).2.2.2.length) (by omega)
              rw [show (drK o.1 day m (h (e + 1))).2.2.2.length + (j - (drK o.1 day m (h (e + 1))).2.2.2.length) = j by omega] at this
              rw [this, a1]
              rw [(drK_wh o.1 day m hf.1 (h (e + 1)) (by omega) _ (by omega) (by omega)).1]
              exact (hs.2.2 e (Nat.zero_le _) hcC).2 _ (by omega) (by omega)
            · rw [if_neg (by omega)]
              have hee := r2.2.2 e (by omega) he2
              have hle := r2.antiC (c + 1) e (Nat.le_refl _) (by omega) (by omega)
              refine ⟨hee.1, fun j j1 j2 => ?_⟩
              rw [a4 j (by omega), a1]
              exact hee.2 j j1 j2
          · show g4 242 e = (((if e ≤ c then _ else h' e) - (if e + 1 ≤ c then _ else h' (e + 1)) : Nat) : Int) ∧ ∀ i, i < (if e ≤ c then _ else h' e) - (if e + 1 ≤ c then _ else h' (e + 1)) → g4 241 (28 * e + i) = ((drK o.1 day m (h c)).2.2.2.getD ((if e + 1 ≤ c then _ else h' (e + 1)) + i) 0 : Int)
            rw [if_neg (show ¬ e + 1 ≤ c by omega), f42, f4 241 (by omega)]
            by_cases q : e = c
            · subst q
              rw [if_pos (Nat.le_refl _), hKl, a3]
              refine ⟨by rw [hrc.1]; omega, fun i hi => ?_⟩
              rw [a5 i (by omega)]
              exact hrc.2 i (by omega)
            · rw [if_neg (by omega)]
              have hee := r3 e (by omega) he2
              have hle := r2.antiC (c + 1) e (Nat.le_refl _) (by omega) (by omega)
              refine ⟨hee.1, fun i hi => ?_⟩
              rw [a4 _ (by omega)]
              exact hee.2 i hi
          · rw [f4 243 (by omega), f4 244 (by omega), f4 245 (by omega), a1, a2]
            have := r6 x hx
            unfold letM at this ⊢
            rw [a2]
            exact this
        refine s_X11_drift_69 _ _ _ _ ?_
        rw [ec, Int.toNat_natCast, n0]
        exact ⟨by omega, by omega, fun _ => K188, fun _ => ⟨fun _ => K188, fun q => absurd rfl q⟩⟩
      | true =>
        rw [hd] at hy
        have hy : y = 1 := hy
        subst hy
        have := loopN (σ := GI) (fun t s => Zm w (d + 1) mX11_drift 69 [some (aR (some 228)), some (aI (day : Int)), some (aI (c : Int)), none, some (aI 1), some (aI (t : Int)), none] [] s P)
          (fun t s => (∀ b, b < 241 ∨ 245 < b → s b = g b) ∧ (∃ h', Sg (nC o.1) (c + 1) (drK o.1 day m (h (c + 1) + t)).1 (drK o.1 day m (h (c + 1) + t)).2.2.2 h' ∧ RwM s (nC o.1) (c + 1) (drK o.1 day m (h (c + 1) + t)).2.2.2 h') ∧ (∀ e, e < c + 1 → s 242 e = ((h e - h (e + 1) : Nat) : Int) ∧ ∀ j, j < h e - h (e + 1) → s 241 (28 * e + j) = (m.2.2.2.getD (h (e + 1) + j) 0 : Int)) ∧ (∀ c, nC o.1 ≤ c → c < 20 → s 242 c = 0) ∧ (∀ x, x < nN o → s 243 x = ((drK o.1 day m (h (c + 1) + t)).1 x : Int) ∧ s 244 x = ((drK o.1 day m (h (c + 1) + t)).2.1 x : Int) ∧ s 245 x = letM o wear (drK o.1 day m (h (c + 1) + t)) x)) (h c - h (c + 1)) ?_ ?_ 0 g3 (Nat.zero_le _) ⟨r1, ⟨h', r2, r3⟩, r4, r5, r6⟩
        · exact this
        · -- the cell is empty
          intro g4 ⟨q1, ⟨h4, q2, q3⟩, q4, q5, q6⟩
          rw [show h (c + 1) + (h c - h (c + 1)) = h c by omega] at q2 q3 q6
          have K188 : Zm w (d + 1) mX11_drift 188 [some (aR (some 228)), some (aI (day : Int)), some (aI (c : Int)), none, some (aI 1), none, none] [] g4 P := by
            refine s_X11_drift_188 _ _ _ ?_
            rw [n1, ec, Int.toNat_natCast]
            refine ⟨fun q => absurd q (by omega), fun _ => ⟨by omega, by omega, fun g5 e5 => ?_⟩⟩
            have f5 : ∀ b, b ≠ 242 → g5 b = g4 b := fun b hb => by rw [e5, up2_ne _ _ _ hb]
            have f52 : ∀ e, g5 242 e = if e = c then 0 else g4 242 e := fun e => by rw [e5]; simp only [up2_ap, if_true]
            refine ih g5 ⟨by omega, fun b hb => by rw [f5 b (by omega)]; exact q1 b hb, ⟨fun e => if e ≤ c then (drK o.1 day m (h c)).2.2.2.length else h4 e, ⟨?_, ?_, fun e he1 he2 => ?_⟩, fun e he1 he2 => ?_⟩, fun e he => by rw [f52, if_neg (by omega), f5 241 (by omega)]; exact q4 e (by omega), fun e z1 z2 => by rw [f52, if_neg (by omega)]; exact q5 e z1 z2, fun x hx => ?_⟩ _ (by omega)
            · show (if nC o.1 ≤ c then _ else _) = 0
              rw [if_neg (by omega)]; exact q2.1
            · show (if c ≤ c then _ else _) = _
              rw [if_pos (Nat.le_refl _)]
            · show (if e + 1 ≤ c then _ else h4 (e + 1)) ≤ (if e ≤ c then _ else h4 e) ∧ ∀ j, (if e + 1 ≤ c then _ else h4 (e + 1)) ≤ j → j < (if e ≤ c then _ else h4 e) → _
              rw [if_neg (show ¬ e + 1 ≤ c by omega)]
              by_cases q : e = c
              · subst q
                rw [if_pos (Nat.le_refl _), q2.2.1]
                exact ⟨Nat.le_refl _, fun j j1 j2 => by omega⟩
              · rw [if_neg (by omega)]; exact q2.2.2 e (by omega) he2
            · show g5 242 e = (((if e ≤ c then _ else h4 e) - (if e + 1 ≤ c then _ else h4 (e + 1)) : Nat) : Int) ∧ ∀ i, i < (if e ≤ c then _ else h4 e) - (if e + 1 ≤ c then _ else h4 (e + 1)) → g5 241 (28 * e + i) = ((drK o.1 day m (h c)).2.2.2.getD ((if e + 1 ≤ c then _ else h4 (e + 1)) + i) 0 : Int)
              rw [if_neg (show ¬ e + 1 ≤ c by omega), f52, f5 241 (by omega)]
              by_cases q : e = c
              · subst q
                rw [if_pos rfl, if_pos (Nat.le_refl _), q2.2.1]
                exact ⟨by omega, fun i hi => by omega⟩
              · rw [if_neg q, if_neg (by omega)]
                exact q3 e (by omega) he2
            · rw [f5 243 (by omega), f5 244 (by omega), f5 245 (by omega)]; exact q6 x hx
          refine s_X11_drift_69 _ _ _ _ ?_
          rw [ec, Int.toNat_natCast, (q4 c (by omega)).1, eKc, n1]
          exact ⟨by omega, by omega, fun _ => K188, fun q => absurd q (by omega)⟩
        · intro t g4 ht ⟨q1, ⟨h4, q2, q3⟩, q4, q5, q6⟩ ih2
          obtain ⟨u1, u2, u3⟩ := drK_step hf hs day hcC ht
          rw [hd] at u3
          simp only [if_true] at u3
          have hxn := (hf.2.1 (h (c + 1) + t) (by omega)).1
          have hwx := hwo (m.2.2.2.getD (h (c + 1) + t) 0)
          have hKlen := drK_len o.1 day m (h (c + 1) + t)
          obtain ⟨-, -, fI, fI1, -⟩ := drK_inv hB hf day (h (c + 1) + t) (by omega)
          have hold : ∀ j, j < (drK o.1 day m (h (c + 1) + t)).2.2.2.length → (drK o.1 day m (h (c + 1) + t)).2.2.2.getD j 0 ≠ m.2.2.2.getD (h (c + 1) + t) 0 := fun j hj e => by
            have f1 := fI1 j hj
            rw [f1.2.1] at e
            have := hf.1 _ _ (by omega) (by omega) e
            omega
          have hrow := (q4 c (by omega)).2 t ht
          rw [u3] at ih2
          generalize hX : m.2.2.2.getD (h (c + 1) + t) 0 = X at *
          generalize hK : drK o.1 day m (h (c + 1) + t) = K at *
          have et : nm (t : Int) = t := nm_id (by omega) (by omega)
          have ext : nm (28 * (c : Int) + (t : Int)) = ((28 * c + t : Nat) : Int) := by rw [nm_id (by omega) (by omega)]; omega
          have eX : nm (X : Int) = X := nm_id (by omega) (by omega)
          have q6X := q6 X hxn
          refine s_X11_drift_69 _ _ _ _ ?_
          rw [ec, Int.toNat_natCast, (q4 c (by omega)).1, eKc, n1, et, ext, Int.toNat_natCast, hrow]
          refine ⟨by omega, by omega, fun q => absurd q (by omega), fun _ => ⟨fun q => absurd q (by omega), fun _ => ⟨by omega, by omega, fun v ev => ?_⟩⟩⟩
          subst ev
          rw [eX, Int.toNat_natCast, q6X.2.1]
          refine ⟨by omega, by omega, fun g5 e5 => ?_⟩
          have e54 : g5 244 X = ((K.2.1 X + 1 : Nat) : Int) := by rw [e5]; simp [up2_ap]
          have e5w : g5 228 13 = wear := by rw [e5, up2_ne _ _ _ (by omega), q1 228 (by omega)]; exact hwr
          have e5l : g5 245 X = letM o wear K X := by rw [e5, up2_ne _ _ _ (by omega)]; exact q6X.2.2
          have en : nm ((K.2.1 X + 1 : Nat) : Int) = ((K.2.1 X + 1 : Nat) : Int) := nm_id (by omega) (by omega)
          rw [e54, e5w, e5l, en, ew]
          have hls := lwh_step (f := letF o X) (wear := wear) (a := K.2.1 X) (by omega) hw1 hw2
          have FIN : ∀ y : Int, y = lwh (letF o X) ((K.2.1 X + 1 : Nat) : Int) wear → Zm w (d + 1) mX11_drift 150 [some (aR (some 228)), some (aI (day : Int)), some (aI (c : Int)), none, some (aI 1), some (aI (t : Int)), some (aI (X : Int))] [aI y, aI (X : Int), aR (some 245)] g5 P := by
            intro y hy
            refine s_X11_drift_150 _ _ _ _ _ _ _ ?_
            rw [eX, Int.toNat_natCast, ec1]
            refine ⟨by omega, by omega, fun g6 e6 => ?_⟩
            have e67 : g6 228 7 = (nC o.1 : Int) := by rw [e6, up2_ne _ _ _ (by omega), e5, up2_ne _ _ _ (by omega), q1 228 (by omega)]; exact hwm.1.1
            have f6 : ∀ b, b ≠ 244 → b ≠ 245 → g6 b = g4 b := fun b b1 b2 => by rw [e6, up2_ne _ _ _ b2, e5, up2_ne _ _ _ b1]
            have f644 : ∀ x, g6 244 x = if x = X then ((K.2.1 X + 1 : Nat) : Int) else g4 244 x := fun x => by rw [e6, up2_ne _ _ _ (by omega), e5]; simp only [up2_ap, if_true]; rfl
            have f645 : ∀ x, g6 245 x = if x = X then y else g4 245 x := fun x => by rw [e6]; simp only [up2_ap, if_true]; rw [e5, up2_ne (b := 245) _ _ _ (by omega)]
            rw [e67, eC]
            have NMS : ∀ (g7 : GI) (v : Nat), g7 244 = g6 244 → g7 245 = g6 245 → (∀ x, g7 243 x = if x = X then (v : Int) else g4 243 x) → ∀ x, x < nN o → g7 243 x = ((up1 K.1 X v x : Nat) : Int) ∧ g7 244 x = ((up1 K.2.1 X (K.2.1 X + 1) x : Nat) : Int) ∧ g7 245 x = lwh (letF o x) ((up1 K.2.1 X (K.2.1 X + 1) x : Nat) : Int) wear := by
              intro g7 v z1 z2 z3 x hx
              have := q6 x hx
              rw [z1, z2, z3, f644, f645]
              simp only [up1_ap]
              by_cases q : x = X
              · simp only [if_pos q]; rw [hy, q]; exact ⟨trivial, trivial, rfl⟩
              · simp only [if_neg q]; exact this
            refine ⟨fun q => ?_, fun q => ⟨by omega, by omega, fun g7 e7 => ?_⟩⟩
            · -- into the next cell
              have hlt : c + 1 < nC o.1 := by omega
              have hq3 := q3 (c + 1) (Nat.le_refl _) hlt
              have hq2 := q2.2.2 (c + 1) (Nat.le_refl _) hlt
              have hq21 := q2.2.1
              have hK' : g6 242 (c + 1) = ((h4 (c + 1) - h4 (c + 1 + 1) : Nat) : Int) := by rw [f6 242 (by omega) (by omega)]; exact hq3.1
              rw [show (c : Int) + 1 = ((c + 1 : Nat) : Int) by omega]
              refine c_comesInto (K := h4 (c + 1) - h4 (c + 1 + 1)) (by omega) (by omega) hK' (by omega) ⟨rfl, ?_⟩
              rw [if_pos hlt, if_pos hlt] at ih2
              generalize hg7 : up2 (up2 (up2 g6 241 (28 * (c + 1) + (h4 (c + 1) - h4 (c + 1 + 1))) (X : Int)) 242 (c + 1) (((h4 (c + 1) - h4 (c + 1 + 1) : Nat) : Int) + 1)) 243 X ((c + 1 : Nat) : Int) = g7
              have t241 : ∀ e, g7 241 e = if e = 28 * (c + 1) + (h4 (c + 1) - h4 (c + 1 + 1)) then (X : Int) else g4 241 e := fun e => by
                rw [← hg7, up2_ne _ _ _ (by omega), up2_ne _ _ _ (by omega)]; simp only [up2_ap, if_true]; rw [f6 241 (by omega) (by omega)]
              have t242 : ∀ e, g7 242 e = if e = c + 1 then ((h4 (c + 1) - h4 (c + 1 + 1) : Nat) : Int) + 1 else g4 242 e := fun e => by
                rw [← hg7, up2_ne _ _ _ (by omega)]; simp only [up2_ap, if_true]; rw [if_neg (show ¬ 242 = 241 by omega), f6 242 (by omega) (by omega)]
              have t243 : ∀ e, g7 243 e = if e = X then ((c + 1 : Nat) : Int) else g4 243 e := fun e => by
                rw [← hg7]; simp only [up2_ap, if_true]; rw [if_neg (show ¬ 243 = 242 by omega), if_neg (show ¬ 243 = 241 by omega), f6 243 (by omega) (by omega)]
              have tfr : ∀ b, b ≠ 241 → b ≠ 242 → b ≠ 243 → g7 b = g6 b := fun b b1 b2 b3 => by rw [← hg7, up2_ne _ _ _ b3, up2_ne _ _ _ b2, up2_ne _ _ _ b1]
              refine ih2 g7 ⟨fun b hb => by rw [tfr b (by omega) (by omega) (by omega), f6 b (by omega) (by omega)]; exact q1 b hb, ⟨fun e => if e ≤ c + 1 then K.2.2.2.length + 1 else h4 e, ⟨?_, ?_, fun e he1 he2 => ?_⟩, fun e he1 he2 => ?_⟩, fun e he => ?_, fun e z1 z2 => ?_, NMS g7 (c + 1) (tfr 244 (by omega) (by omega) (by omega)) (tfr 245 (by omega) (by omega) (by omega)) t243⟩
              · show (if nC o.1 ≤ c + 1 then _ else _) = 0
                rw [if_neg (by omega)]; exact q2.1
              · show (if c + 1 ≤ c + 1 then _ else _) = (K.2.2.2 ++ [X]).length
                rw [if_pos (Nat.le_refl _), List.length_append]; rfl
              · show (if e + 1 ≤ c + 1 then _ else h4 (e + 1)) ≤ (if e ≤ c + 1 then _ else h4 e) ∧ ∀ j, (if e + 1 ≤ c + 1 then _ else h4 (e + 1)) ≤ j → j < (if e ≤ c + 1 then _ else h4 e) → up1 K.1 X (c + 1) ((K.2.2.2 ++ [X]).getD j 0) = e
                rw [if_neg (show ¬ e + 1 ≤ c + 1 by omega)]
                have hle := q2.antiC (c + 1) (e + 1) (Nat.le_refl _) (by omega) (by omega)
                have hle2 := q2.antiC (c + 1) e (Nat.le_refl _) (by omega) (by omega)
                have hqe := q2.2.2 e he1 he2
                by_cases z : e = c + 1
                · rw [if_pos (by omega)]
                  refine ⟨by omega, fun j j1 j2 => ?_⟩
                  rw [getD_snoc]
                  by_cases z2 : j < K.2.2.2.length
                  · rw [if_pos z2, up1_ne _ _ (hold j z2)]
                    exact hqe.2 j j1 (by rw [z, hq21]; exact z2)
                  · rw [if_neg z2, if_pos (by omega), up1_eq, z]
                · rw [if_neg (by omega)]
                  refine ⟨hqe.1, fun j j1 j2 => ?_⟩
                  rw [getD_snoc, if_pos (by omega), up1_ne _ _ (hold j (by omega))]
                  exact hqe.2 j j1 j2
              · show g7 242 e = (((if e ≤ c + 1 then _ else h4 e) - (if e + 1 ≤ c + 1 then _ else h4 (e + 1)) : Nat) : Int) ∧ ∀ i, i < (if e ≤ c + 1 then _ else h4 e) - (if e + 1 ≤ c + 1 then _ else h4 (e + 1)) → g7 241 (28 * e + i) = ((K.2.2.2 ++ [X]).getD ((if e + 1 ≤ c + 1 then _ else h4 (e + 1)) + i) 0 : Int)
                rw [if_neg (show ¬ e + 1 ≤ c + 1 by omega), t242]
                have hle := q2.antiC (c + 1) (e + 1) (Nat.le_refl _) (by omega) (by omega)
                have hle2 := q2.antiC (c + 1) e (Nat.le_refl _) (by omega) (by omega)
                have hqe := q3 e he1 he2
                by_cases z : e = c + 1
                · subst z
                  rw [if_pos rfl, if_pos (Nat.le_refl _)]
                  refine ⟨by omega, fun i hi => ?_⟩
                  rw [t241, getD_snoc]
                  by_cases z2 : i = h4 (c + 1) - h4 (c + 1 + 1)
                  · rw [if_pos (by omega), if_neg (by omega), if_pos (by omega)]
                  · rw [if_neg (by omega), if_pos (by omega)]
                    exact hqe.2 i (by omega)
                · rw [if_neg z, if_neg (by omega)]
                  refine ⟨hqe.1, fun i hi => ?_⟩
                  rw [t241, if_neg (by omega), getD_snoc, if_pos (by omega)]
                  exact hqe.2 i hi
              · rw [t242, if_neg (by omega)]
                refine ⟨(q4 e he).1, fun j hj => ?_⟩
                have hel := hs.le (c := e) (by omega)
                rw [t241, if_neg (by omega)]
                exact (q4 e he).2 j hj
              · rw [t242, if_neg (by omega)]; exact q5 e z1 z2
            · -- into the sea
              have hge : ¬ c + 1 < nC o.1 := by omega
              rw [if_neg hge, if_neg hge] at ih2
              have t243 : ∀ e, g7 243 e = if e = X then ((20 : Nat) : Int) else g4 243 e := fun e => by
                rw [e7]; simp only [up2_ap, if_true]; rw [f6 243 (by omega) (by omega)]; rfl
              have tfr : ∀ b, b ≠ 243 → g7 b = g6 b := fun b b3 => by rw [e7, up2_ne _ _ _ b3]
              refine ih2 g7 ⟨fun b hb => by rw [tfr b (by omega), f6 b (by omega) (by omega)]; exact q1 b hb, ⟨h4, ⟨q2.1, q2.2.1, fun e he1 he2 => by omega⟩, fun e he1 he2 => by omega⟩, fun e he => ?_, fun e z1 z2 => ?_, NMS g7 20 (tfr 244 (by omega)) (tfr 245 (by omega)) t243⟩
              · rw [tfr 242 (by omega), tfr 241 (by omega), f6 242 (by omega) (by omega), f6 241 (by omega) (by omega)]; exact q4 e he
              · rw [tfr 242 (by omega), f6 242 (by omega) (by omega)]; exact q5 e z1 z2
          unfold letM
          refine ⟨fun q => FIN _ ?_, fun q => FIN _ ?_⟩
          · rw [hls, if_neg q]
          · rw [hls, if_pos q]
    -- does the cell go
    have H0 : drD o.1 day c = false → Zm w (d + 1) mX11_drift 63 [some (aR (some 228)), some (aI (day : Int)), some (aI (c : Int)), none, none, none, none] [] g3 P := fun q => s_X11_drift_63 _ _ (H1 0 (by rw [q]; rfl))
    have HT : drD o.1 day c = true → Zm w (d + 1) mX11_drift 59 [some (aR (some 228)), some (aI (day : Int)), some (aI (c : Int)), none, none, none, none] [] g3 P := fun q => s_X11_drift_59 _ _ (H1 1 (by rw [q]; rfl))
    have H38 : (nC o.1 ≤ c + 1 ∨ kob (by_ o.1 (c + 1)) ≠ 2) → Zm w (d + 1) mX11_drift 33 [some (aR (some 228)), some (aI (day : Int)), some (aI (c : Int)), none, none, none, none] [] g3 P := by
      intro hq
      refine s_X11_drift_33 _ _ ?_
      refine s_X11_drift_38 _ _ _ ?_
      rw [n1, ec, Int.toNat_natCast, kE c hcC, nm_kob, eD, eD']
      rw [decide_eq_true hq] at hdq
      refine ⟨fun q => absurd q (by omega), fun _ => ⟨by omega, by omega, fun q => HT ?_, fun q => ⟨fun q2 => H0 ?_, fun q2 => HT ?_⟩⟩⟩
      · rw [hdq, decide_eq_true q]; rfl
      · rw [hdq, decide_eq_false (by simp [q]), decide_eq_false (by omega)]; rfl
      · rw [hdq, decide_eq_true (show day % 2 = 0 by omega)]; simp
    refine s_X11_drift_7 _ _ ?_
    rw [ec, ec1, e7, eC, n2, Int.toNat_natCast]
    refine ⟨fun q => absurd q (by omega), fun _ => ⟨fun q => H38 (Or.inl (by omega)), fun q => ⟨by omega, by omega, ?_⟩⟩⟩
    rw [kE (c + 1) (by omega), nm_kob]
    refine ⟨fun q2 => ?_, fun q2 => H38 (Or.inr q2)⟩
    refine s_X11_drift_38 _ _ _ ?_
    rw [n0]
    refine ⟨fun _ => H0 ?_, fun q => absurd rfl q⟩
    rw [hdq, decide_eq_false (by omega)]; rfl
  · rw [hs.1]; exact ⟨rfl, rfl, fun e he1 he2 => by omega⟩
  · intro e he1 he2; omega
  · rw [hs.1]; exact hn.1
end MD
