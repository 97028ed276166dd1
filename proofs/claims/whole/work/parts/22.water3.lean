/-! the class: drift, and what one is called -/
theorem dr1_len (t0 : List Int) (day : Nat) (m : Mu) (x : Nat) : (dr1 t0 day m x).2.2.2.length ≤ m.2.2.2.length + 1 := by
  unfold dr1
  split
  · show (if _ then _ else _ : List Nat).length ≤ _
    split
    · simp
    · omega
  · simp
theorem drK_len (t0 : List Int) (day : Nat) (m : Mu) : ∀ i, (drK t0 day m i).2.2.2.length ≤ i
  | 0 => Nat.le_refl 0
  | i + 1 => by
    have h1 := drK_len t0 day m i
    have h2 := dr1_len t0 day (drK t0 day m i) (m.2.2.2.getD i 0)
    show (dr1 _ _ _ _).2.2.2.length ≤ _
    omega
theorem dr1_wh (t0 : List Int) (day : Nat) (m : Mu) {x y : Nat} (h : y ≠ x) : (dr1 t0 day m x).1 y = m.1 y ∧ (dr1 t0 day m x).2.1 y = m.2.1 y := by
  unfold dr1
  split
  · exact ⟨up1_ne _ _ h, up1_ne _ _ h⟩
  · exact ⟨rfl, rfl⟩
theorem drK_wh (t0 : List Int) (day : Nat) (m : Mu) (hn : ∀ i j, i < m.2.2.2.length → j < m.2.2.2.length → m.2.2.2.getD i 0 = m.2.2.2.getD j 0 → i = j) : ∀ i, i ≤ m.2.2.2.length → ∀ j, i ≤ j → j < m.2.2.2.length → (drK t0 day m i).1 (m.2.2.2.getD j 0) = m.1 (m.2.2.2.getD j 0) ∧ (drK t0 day m i).2.1 (m.2.2.2.getD j 0) = m.2.1 (m.2.2.2.getD j 0)
  | 0, _, j, _, _ => ⟨rfl, rfl⟩
  | i + 1, hi, j, hj, hl => by
    have ih := drK_wh t0 day m hn i (by omega) j (by omega) hl
    have := dr1_wh t0 day (drK t0 day m i) (x := m.2.2.2.getD i 0) (y := m.2.2.2.getD j 0) (fun e => by have := hn _ _ hl (by omega) e; omega)
    exact ⟨this.1.trans ih.1, this.2.trans ih.2⟩
theorem dr1_ha (t0 : List Int) (day : Nat) (m : Mu) (x : Nat) : (dr1 t0 day m x).2.2.1 = m.2.2.1 := by unfold dr1; split <;> rfl
theorem drK_ha (t0 : List Int) (day : Nat) (m : Mu) : ∀ i, (drK t0 day m i).2.2.1 = m.2.2.1
  | 0 => rfl
  | i + 1 => (dr1_ha t0 day _ _).trans (drK_ha t0 day m i)
section WD
variable {w : GX} {d : Nat} {P : PN} {g : GI}
set_option maxHeartbeats 4000000 in
theorem c_drift {a day : Nat} {o : Om} {m : Mu} (hW : isW a) (hB : BO o) (hww : WW g o) (hw : WR g a o m) (hf : Wf o m) (hd : day < 1000) (k : ∀ g' : GI, WR g' a o (driftM o.1 day m) → FrW g g' a → P none g') : Zm w d mX8_drift 0 [some (aR (some a)), some (aR (some 18)), some (aI (day : Int)), none, none, none, none] [] g P := by
  obtain ⟨-, -, -, -, -, -, -, -, -, h31, h210⟩ := id hW
  have hN := nN_le hB
  have hC := hB.1
  obtain ⟨hnd, hin, hlr, hsrt, hha, h0, hrg⟩ := hf
  have hlen : m.2.2.2.length ≤ 20 := by have := nR_le o.1; omega
  have hal : ∀ i, i < m.2.2.2.length → m.2.2.2.getD i 0 < nN o ∧ m.1 (m.2.2.2.getD i 0) < nC o.1 := fun i hi => hin i hi
  have en : nm (m.2.2.2.length : Int) = m.2.2.2.length := nm_id (by omega) (by omega)
  have n20 : nm 20 = 20 := by decide
  suffices H : ∀ r : Nat, (r = 20 ∨ r = 21) → kd0 r = (13, 20) → (∀ c, c < nC o.1 → g r c = bI (drD o.1 day c)) → Zm w d mX8_drift 17 [some (aR (some a)), some (aR (some 18)), none, none, none, none, none] [aR (some r)] g P by
    refine s_X8_drift_0 hW _ ?_
    have e : nm (iRem (day : Int) 2) = ((day % 2 : Nat) : Int) := by
      rw [show (2 : Int) = ((2 : Nat) : Int) from rfl, iRem_nat (by omega) (by omega) (by omega)]
      exact nm_id (by omega) (by omega)
    rw [e]
    refine ⟨fun c => H 21 (Or.inr rfl) kv_21 (fun q hq => ?_), fun c => H 20 (Or.inl rfl) kv_20 (fun q hq => ?_)⟩
    · rw [(hww.1.2.2.1 q hq).2.2]; unfold drD; rw [if_neg (by omega)]
    · rw [(hww.1.2.2.1 q hq).2.1]; unfold drD; rw [if_pos (by omega)]
  intro r hr hkr hdr
  refine s_X8_drift_17 hW hkr ?_
  refine loopN (σ := GI) (fun i g3 => Zm w d mX8_drift 24 [some (aR (some a)), some (aR (some 18)), none, some (aR (some r)), some (aI ((drK o.1 day m i).2.2.2.length : Int)), some (aI (i : Int)), none] [] g3 P)
    (fun i g3 => FrW g g3 a ∧ g3 a 4 = (m.2.2.2.length : Int) ∧ (∀ x, x < nN o → g3 (a + 1) x = ((drK o.1 day m i).1 x : Int) ∧ g3 (a + 2) x = ((drK o.1 day m i).2.1 x : Int)) ∧ g3 (a + 3) = g (a + 3) ∧ (∀ j, i ≤ j → j < m.2.2.2.length → g3 (a + 4) j = (m.2.2.2.getD j 0 : Int)) ∧ (∀ j, j < (drK o.1 day m i).2.2.2.length → g3 (a + 4) j = ((drK o.1 day m i).2.2.2.getD j 0 : Int))) m.2.2.2.length ?_ ?_ 0 g (Nat.zero_le _) ⟨FrW.rfl, hw.2.2.1, hw.1, rfl, fun j _ hj => hw.2.2.2 j hj, fun j hj => absurd hj (Nat.not_lt_zero j)⟩
  · intro g3 ⟨r1, r2, r3, r4, r5, r6⟩
    refine s_X8_drift_24 hW hkr _ _ ?_
    rw [r2, en]
    refine ⟨fun _ g4 e4 => ?_, fun c => absurd c (by omega)⟩
    subst e4
    refine k _ ⟨fun x hx => ?_, fun p hp => ?_, ?_, fun i hi => ?_⟩ (r1.up ⟨by omega, by omega⟩)
    · rw [up2_ne _ _ _ (by omega), up2_ne _ _ _ (by omega)]; exact r3 x hx
    · rw [up2_ne _ _ _ (by omega), r4, hw.2.1 p hp]
      show _ = ((drK o.1 day m m.2.2.2.length).2.2.1 p : Int)
      rw [drK_ha]
    · simp only [up2_ap, if_true]; rfl
    · rw [up2_ne _ _ _ (by omega)]; exact r6 i hi
  · intro i g3 hi ⟨r1, r2, r3, r4, r5, r6⟩ ih
    have hx := hal i hi
    have hkw := drK_wh o.1 day m hnd i (by omega) i (Nat.le_refl _) hi
    have hkl := drK_len o.1 day m i
    generalize hxe : m.2.2.2.getD i 0 = x at hx hkw
    have hstep : drK o.1 day m (i + 1) = dr1 o.1 day (drK o.1 day m i) x := by rw [← hxe]; rfl
    generalize hK : drK o.1 day m i = K at r3 r6 hkw hkl hstep
    rw [hstep] at ih
    have i0 : nm (i : Int) = i := nm_id (by omega) (by omega)
    have ix : nm (x : Int) = x := nm_id (by omega) (by omega)
    have hwx : (K.1 x) < nC o.1 := by rw [hkw.1]; exact hx.2
    have iw : nm ((K.1 x : Nat) : Int) = ((K.1 x : Nat) : Int) := nm_id (by omega) (by omega)
    have e18 : g3 18 8 = (nC o.1 : Int) := by rw [r1 18 (by omega)]; exact hww.1.1
    have er : g3 r = g r := r1 r (by omega)
    have ik : nm (K.2.2.2.length : Int) = K.2.2.2.length := nm_id (by omega) (by omega)
    have hdx := hdr (K.1 x) hwx
    -- the end of the body: x is kept
    have KEEP : ∀ g4 : GI, FrW g g4 a → g4 a 4 = (m.2.2.2.length : Int) → (∀ y, y < nN o → g4 (a + 1) y = ((dr1 o.1 day K x).1 y : Int) ∧ g4 (a + 2) y = ((dr1 o.1 day K x).2.1 y : Int)) → g4 (a + 3) = g (a + 3) → g4 (a + 4) = g3 (a + 4) → ((dr1 o.1 day K x).1 x = 20 → (dr1 o.1 day K x).2.2.2 = K.2.2.2) → ((dr1 o.1 day K x).1 x ≠ 20 → (dr1 o.1 day K x).2.2.2 = K.2.2.2 ++ [x]) → (dr1 o.1 day K x).1 x < 30 → Zm w d mX8_drift 102 [some (aR (some a)), some (aR (some 18)), none, some (aR (some r)), some (aI (K.2.2.2.length : Int)), some (aI (i : Int)), some (aI (x : Int))] [] g4 P := by
      intro g4 q1 q2 q3 q4 q5 q6 q7 q8
      refine s_X8_drift_102 hW hkr _ _ _ ?_
      have iv : nm (((dr1 o.1 day K x).1 x : Nat) : Int) = (((dr1 o.1 day K x).1 x : Nat) : Int) := nm_id (by omega) (by omega)
      rw [ix, Int.toNat_natCast, (q3 x hx.1).1, iv, n20, ik, Int.toNat_natCast]
      refine ⟨by omega, by omega, fun c => ?_, fun c => ⟨by omega, by omega, fun g5 e5 => ?_⟩⟩
      · have q9 := q6 (by omega)
        have := ih g4 ⟨q1, q2, q3, q4, fun j hj hl => by rw [q5]; exact r5 j (by omega) hl, fun j hj => by rw [q9] at hj ⊢; rw [q5]; exact r6 j hj⟩
        rw [q9] at this
        exact this
      · have q9 := q7 (by omega)
        subst e5
        have := ih (up2 g4 (a + 4) K.2.2.2.length x) ⟨q1.up ⟨by omega, by omega⟩, by rw [up2_ne _ _ _ (by omega)]; exact q2, fun y hy => by rw [up2_ne _ _ _ (by omega), up2_ne _ _ _ (by omega)]; exact q3 y hy, by rw [up2_ne _ _ _ (by omega)]; exact q4, fun j hj hl => ?_, fun j hj => ?_⟩
        · rw [q9, List.length_append] at this
          exact this
        · simp only [up2_ap, if_true]
          rw [if_neg (by omega), q5]
          exact r5 j (by omega) hl
        · rw [q9] at hj ⊢
          rw [getD_snoc]
          simp only [up2_ap, if_true]
          have hj : j < K.2.2.2.length + 1 := by simpa using hj
          by_cases e : j = K.2.2.2.length
          · rw [if_pos e, if_neg (by omega), if_pos e]
          · rw [if_neg e, if_pos (by omega), q5]
            exact r6 j (by omega)
    refine s_X8_drift_24 hW hkr _ _ ?_
    rw [r2, en, i0, Int.toNat_natCast]
    refine ⟨fun c => absurd c (by omega), fun _ => ⟨by omega, by omega, fun v7 e7 => ?_⟩⟩
    rw [r5 i (Nat.le_refl _) hi, hxe] at e7
    subst e7
    rw [ix, Int.toNat_natCast, (r3 x hx.1).1, iw, Int.toNat_natCast, er, hdx]
    refine ⟨by omega, by omega, by omega, by omega, fun c => ?_, fun c g4 e4 => ?_⟩
    · have hb : drD o.1 day (K.1 x) = false := (nbI_0 _).mp c
      have e : dr1 o.1 day K x = (K.1, K.2.1, K.2.2.1, K.2.2.2 ++ [x]) := by unfold dr1; rw [hb]; rfl
      refine KEEP g3 r1 r2 (by rw [e]; exact r3) r4 rfl ?_ ?_ ?_
      · rw [e]; intro q; exact absurd q (by show K.1 x ≠ 20; omega)
      · rw [e]; intro _; rfl
      · rw [e]; show K.1 x < 30; omega
    · have hb : drD o.1 day (K.1 x) = true := by
        cases h : drD o.1 day (K.1 x) with
        | true => rfl
        | false => exact absurd ((nbI_0 _).mpr h) c
      rw [(r3 x hx.1).2] at e4
      have e41 : g4 (a + 1) x = (K.1 x : Int) := by rw [e4, up2_ne _ _ _ (by omega)]; exact (r3 x hx.1).1
      have e418 : g4 18 8 = (nC o.1 : Int) := by rw [e4, up2_ne _ _ _ (by omega)]; exact e18
      have i1 : nm (((K.1 x : Nat) : Int) + 1) = ((K.1 x : Nat) : Int) + 1 := nm_id (by omega) (by omega)
      have ic : nm (nC o.1 : Int) = nC o.1 := nm_id (by omega) (by omega)
      rw [e41, e418, i1, ic]
      have e : dr1 o.1 day K x = (up1 K.1 x (if K.1 x + 1 < nC o.1 then K.1 x + 1 else 20), up1 K.2.1 x (K.2.1 x + 1), K.2.2.1, if K.1 x + 1 < nC o.1 then K.2.2.2 ++ [x] else K.2.2.2) := by unfold dr1; rw [if_pos hb]
      have GO : ∀ v : Nat, v = (if K.1 x + 1 < nC o.1 then K.1 x + 1 else 20) → Zm w d mX8_drift 101 [some (aR (some a)), some (aR (some 18)), none, some (aR (some r)), some (aI (K.2.2.2.length : Int)), some (aI (i : Int)), some (aI (x : Int))] [aI (v : Int), aI (x : Int), aR (some (a + 1))] g4 P := by
        intro v hv
        refine s_X8_drift_101 hW hkr _ _ _ hW.2.1 _ _ ?_
        rw [ix, Int.toNat_natCast]
        refine ⟨by omega, by omega, fun g5 e5 => ?_⟩
        subst e5; subst e4
        refine KEEP _ ((r1.up ⟨by omega, by omega⟩).up ⟨by omega, by omega⟩) (by rw [up2_ne _ _ _ (by omega), up2_ne _ _ _ (by omega)]; exact r2) (fun y hy => ?_) (by rw [up2_ne _ _ _ (by omega), up2_ne _ _ _ (by omega)]; exact r4) (by rw [up2_ne _ _ _ (by omega), up2_ne _ _ _ (by omega)]) ?_ ?_ ?_
        · rw [e]
          have := r3 y hy
          refine ⟨?_, ?_⟩
          · simp only [up2_ap, up1_ap, if_true]
            by_cases q : y = x
            · rw [if_pos q, if_pos q, hv]
            · simp only [if_neg q]; rw [if_neg (by omega)]; exact this.1
          · simp only [up2_ap, up1_ap, if_true]
            rw [if_neg (by omega)]
            by_cases q : y = x
            · rw [if_pos q, if_pos q]; omega
            · simp only [if_neg q]; exact this.2
        · rw [e]
          simp only [up1_ap, if_true]
          split
          · intro q; omega
          · intro _; rfl
        · rw [e]
          simp only [up1_ap, if_true]
          split
          · intro _; rfl
          · intro q; exact absurd rfl q
        · rw [e]
          simp only [up1_ap, if_true]
          split <;> omega
      refine ⟨fun c2 => ?_, fun c2 => ?_⟩
      · exact GO 20 (by rw [if_neg (by omega)])
      · have := GO (K.1 x + 1) (by rw [if_pos (by omega)])
        exact this
theorem letF_at {g : GI} {o : Om} (hw : WW g o) {x : Nat} (hx : x < nN o) : g 23 x = letF o x ∧ g 24 x = oweF o x := by
  unfold nN at hx
  unfold letF oweF
  by_cases q : x < nR o.1
  · rw [if_pos q, if_pos q]
    exact (hw.1.2.2.2 x q).2
  · rw [if_neg q, if_neg q]
    have := hw.2.2 (x - nR o.1) (by omega)
    rw [show nR o.1 + (x - nR o.1) = x by omega] at this
    exact ⟨this.1, this.2.1⟩
theorem c_letterOf {a p : Nat} {o : Om} {m : Mu} (hW : isW a) (hB : BO o) (hww : WW g o) (hw : WR g a o m) (hf : Wf o m) (hp : p < nP o.2) (k : P (some (aI (calM o (g 18 11) m p))) g) : Zm w (d + 1) mX8_letterOf 0 [some (aR (some a)), some (aR (some 18)), some (aI (p : Int)), none] [] g P := by
  have hN := nN_le hB
  have hP := hB.2
  have hh := (hf.2.2.2.2.1 p hp).1
  have ep : nm (p : Int) = p := nm_id (by omega) (by omega)
  have eh : nm ((m.2.2.1 p : Nat) : Int) = ((m.2.2.1 p : Nat) : Int) := nm_id (by omega) (by omega)
  refine s_X8_letterOf_0 hW _ ?_
  rw [ep, Int.toNat_natCast]
  refine ⟨by omega, by omega, fun v5 e5 => ?_⟩
  rw [hw.2.1 p hp] at e5
  subst e5
  rw [eh, Int.toNat_natCast, (letF_at hww hh).1, (hw.1 _ hh).2]
  exact ⟨by omega, by omega, by omega, by omega, k⟩
/-- the spouse -/
def spoM (o : Om) (m : Mu) (p : Nat) : Int :=
  if m.2.2.1 p < nR o.1 then -1
  else if 0 ≤ wedF o.2 (m.2.2.1 p - nR o.1) ∧ wedF o.2 (m.2.2.1 p - nR o.1) < (nP o.2 : Int) then
    (if m.1 (nR o.1 + (wedF o.2 (m.2.2.1 p - nR o.1)).toNat) < 22 then -1 else ((m.1 (nR o.1 + (wedF o.2 (m.2.2.1 p - nR o.1)).toNat) : Nat) : Int) - 22)
  else -1
def wedOk (o : Om) : Prop := ∀ p, p < nP o.2 → -1 ≤ wedF o.2 p ∧ wedF o.2 p < 300
theorem c_spouse {a p : Nat} {o : Om} {m : Mu} (hW : isW a) (hB : BO o) (hwd : wedOk o) (hww : WW g o) (hw : WR g a o m) (hf : Wf o m) (hp : p < nP o.2) (k : P (some (aI (spoM o m p))) g) : Zm w (d + 1) mX8_spouseOf 0 [some (aR (some a)), some (aR (some 18)), some (aI (p : Int)), none, none] [] g P := by
  have hN := nN_le hB
  have hP := hB.2
  have hh := (hf.2.2.2.2.1 p hp).1
  have hNe : nN o = nR o.1 + nP o.2 := rfl
  have ep : nm (p : Int) = p := nm_id (by omega) (by omega)
  have n22 : nm 22 = 22 := by decide
  refine s_X8_spouseOf_0 hW _ ?_
  rw [ep, Int.toNat_natCast]
  refine ⟨by omega, by omega, fun v5 e5 => ?_⟩
  rw [hw.2.1 p hp, hww.1.2.1] at e5
  have iv : nm v5 = v5 := nm_id (by omega) (by omega)
  have iP : nm (nP o.2 : Int) = nP o.2 := nm_id (by omega) (by omega)
  rw [nm_wi, wi_0, hww.2.1, iP, iv]
  by_cases q : m.2.2.1 p < nR o.1
  · have e : spoM o m p = -1 := by unfold spoM; rw [if_pos q]
    rw [e] at k
    exact ⟨fun _ => k, fun c => absurd c (by omega)⟩
  · have e5 : v5 = ((m.2.2.1 p - nR o.1 : Nat) : Int) := by omega
    have hlt : m.2.2.1 p - nR o.1 < nP o.2 := by omega
    rw [e5, Int.toNat_natCast, nm_wi, wi_0, (hww.2.2 _ hlt).2.2.1, iP]
    have hr := hwd _ hlt
    have iw : nm (wedF o.2 (m.2.2.1 p - nR o.1)) = wedF o.2 (m.2.2.1 p - nR o.1) := nm_id (by omega) (by omega)
    rw [iw]
    refine ⟨fun c => absurd c (by omega), fun _ => ⟨by omega, by omega, fun c => ?_, fun c => ?_⟩⟩
    · have c : 0 ≤ wedF o.2 (m.2.2.1 p - nR o.1) ∧ wedF o.2 (m.2.2.1 p - nR o.1) < (nP o.2 : Int) := by
        by_cases z : 0 ≤ wedF o.2 (m.2.2.1 p - nR o.1) ∧ wedF o.2 (m.2.2.1 p - nR o.1) < (nP o.2 : Int)
        · exact z
        · exact absurd z c
      have is : nm ((nR o.1 : Int) + wedF o.2 (m.2.2.1 p - nR o.1)) = ((nR o.1 + (wedF o.2 (m.2.2.1 p - nR o.1)).toNat : Nat) : Int) := by rw [nm_id (by omega) (by omega)]; omega
      rw [hww.1.2.1, is, Int.toNat_natCast]
      refine ⟨by omega, by omega, fun v18 e18 => ?_⟩
      have hx : nR o.1 + (wedF o.2 (m.2.2.1 p - nR o.1)).toNat < nN o := by omega
      rw [(hw.1 _ hx).1] at e18
      have h30 := (hf.2.2.2.2.2.2 _ hx)
      have i8 : nm v18 = v18 := nm_id (by omega) (by omega)
      rw [i8, n22]
      refine ⟨fun c2 => ?_, fun c2 => ?_⟩
      · have e : spoM o m p = -1 := by unfold spoM; rw [if_neg q, if_pos c, if_pos (by omega)]
        rw [e] at k; exact k
      · have e : spoM o m p = v18 - 22 := by unfold spoM; rw [if_neg q, if_pos c, if_neg (by omega), e18]
        rw [e] at k; exact k
    · have e : spoM o m p = -1 := by unfold spoM; rw [if_neg q, if_neg c]
      rw [e] at k; exact k
/-- what is sold, of the first n names -/
def soldM (o : Om) (m : Mu) : Nat → Int
  | 0 => 0
  | n + 1 => if m.1 n = 21 then soldM o m n + oweF o n else soldM o m n
def oweOk (o : Om) : Prop := ∀ x, x < nN o → 0 ≤ oweF o x ∧ oweF o x < 10000
theorem c_owesSold {a : Nat} {o : Om} {m : Mu} (hW : isW a) (hB : BO o) (hww : WW g o) (hw : WR g a o m) (hf : Wf o m) (k : P (some (aI (soldM o m (nN o)))) g) : Zm w (d + 1) mX8_owesSold 0 [some (aR (some a)), some (aR (some 18)), none, none] [] g P := by
  have hN := nN_le hB
  have n21 : nm 21 = 21 := by decide
  have e9 : g 18 9 + g 18 10 = (nN o : Int) := by rw [hww.1.2.1, hww.2.1]; unfold nN; omega
  have iN : nm (nN o : Int) = nN o := nm_id (by omega) (by omega)
  refine s_X8_owesSold_0 hW ?_
  refine loopN (σ := Unit) (fun i _ => Zm w (d + 1) mX8_owesSold 4 [some (aR (some a)), some (aR (some 18)), some (aI (soldM o m i)), some (aI (i : Int))] [] g P) (fun _ _ => True) (nN o) ?_ ?_ 0 () (Nat.zero_le _) trivial
  · intro _ _
    refine s_X8_owesSold_4 hW _ _ ?_
    rw [e9]
    exact ⟨fun _ => k, fun c => absurd c (by omega)⟩
  · intro i _ hi _ ih
    have i0 : nm (i : Int) = i := nm_id (by omega) (by omega)
    have h30 := (hf.2.2.2.2.2.2 i hi)
    have iw : nm ((m.1 i : Nat) : Int) = ((m.1 i : Nat) : Int) := nm_id (by omega) (by omega)
    refine s_X8_owesSold_4 hW _ _ ?_
    rw [e9, iN, i0, Int.toNat_natCast, (hw.1 i hi).1, iw, n21, (letF_at hww hi).2]
    refine ⟨fun c => absurd c (by omega), fun _ => ⟨by omega, by omega, fun c => ?_, fun c v9 e9 => ?_⟩⟩
    · have := ih () trivial
      have e : soldM o m (i + 1) = soldM o m i := by unfold soldM; rw [if_neg (by omega)]; cases i <;> rfl
      rw [e] at this
      exact this
    · have := ih () trivial
      have e : soldM o m (i + 1) = soldM o m i + oweF o i := by show (if m.1 i = 21 then _ else _) = _; rw [if_pos (by omega)]
      rw [e] at this
      subst e9
      exact this
end WD
