/-! the class: all days lived, and settled -/
abbrev Log3 : Type := List (Int × Int × Int)
abbrev Sx : Type := Om × Log2 × Log2 × List Int × Log3
def TB (t : List Int) : Prop := ∀ i, i < t.length → 0 ≤ by_ t i ∧ by_ t i < 256
def FB (fs : List Int) : Prop := fs.length ≤ 6 ∧ ∀ k, k < fs.length → 0 ≤ fs.getD k 0 ∧ fs.getD k 0 < 20
def SB3 (si : Log3) : Prop := si.length ≤ 8 ∧ ∀ k, k < si.length → 0 ≤ (si.getD k (0, 0, 0)).1 ∧ (si.getD k (0, 0, 0)).1 < 20 ∧ 0 ≤ (si.getD k (0, 0, 0)).2.1 ∧ (si.getD k (0, 0, 0)).2.1 < 8 ∧ 0 ≤ (si.getD k (0, 0, 0)).2.2 ∧ (si.getD k (0, 0, 0)).2.2 < 26
def Gd (S : Sx) : Prop := S.1.1.length ≤ 20 ∧ TB S.1.1 ∧ S.1.2.length ≤ 47 ∧ TB S.1.2 ∧ LB S.2.1 16 8 ∧ LB S.2.2.1 8 20 ∧ FB S.2.2.2.1 ∧ SB3 S.2.2.2.2
def TR (g : GI) (a : Nat) (t : List Int) : Prop := g a 1 = (t.length : Int) ∧ ∀ i, i < t.length → g (a + 1) i = by_ t i
def LF (g : GI) (fs : List Int) : Prop := g 10 3 = (fs.length : Int) ∧ ∀ k, k < fs.length → g 11 k = fs.getD k 0
def L3 (g : GI) (si : Log3) : Prop := g 14 3 = (si.length : Int) ∧ ∀ k, k < si.length → g 15 k = (si.getD k (0, 0, 0)).1 ∧ g 16 k = (si.getD k (0, 0, 0)).2.1 ∧ g 17 k = (si.getD k (0, 0, 0)).2.2
def Tc (g : GI) (S : Sx) : Prop := TR g 216 S.1.1 ∧ TR g 218 S.1.2 ∧ LG g 2 S.2.1 ∧ LG g 6 S.2.2.1 ∧ LF g S.2.2.2.1 ∧ L3 g S.2.2.2.2
theorem by_get (t : List Int) {i : Nat} (h : i < t.length) : by_ t i = t[i] := by
  unfold by_; rw [List.getD_eq_getElem?_getD, List.getElem?_eq_getElem h]; rfl
theorem lst_eq {f : Nat → Int} {t : List Int} (h : ∀ i, i < t.length → f i = by_ t i) : lst f t.length = t := by
  apply List.ext_getElem
  · exact lst_len f _
  · intro i h1 h2
    rw [← by_get t h2, ← h i h2]
    simp [lst]
theorem Gd.BO {S : Sx} (h : Gd S) : BO S.1 := ⟨Nat.le_trans (nC_le _) h.1, nP_le h.2.2.1⟩
theorem Gd.EB {S : Sx} (h : Gd S) : EB S.1 S.2.1 S.2.2.1 := ⟨h.BO, h.2.2.2.2.1, h.2.2.2.2.2.1⟩
theorem Gd.h0 {S : Sx} (h : Gd S) : ∀ k, k < S.2.1.length → 0 ≤ (S.2.1.getD k (0, 0)).2 := fun k hk => (h.2.2.2.2.1.2 k hk).2.2.1
theorem pp_at {t : List Int} {p : Nat} (hp : p < nP t) : 6 * p + 5 ≤ t.length ∧ ∀ i, i < t.length → fitP ((i % 6 : Nat) : Int) (by_ t i) ≠ 0 := by
  unfold nP at hp
  split at hp
  · rename_i q
    exact ⟨by omega, (ppOk_iff.mp q).1⟩
  · exact absurd hp (Nat.not_lt_zero p)
theorem fitP_n0 {k b : Int} (h : fitP k b ≠ 0) : (if nm k = 0 then 97 ≤ nm b ∧ nm b ≤ 122 else if nm k = 1 ∨ nm k = 2 ∨ nm k = 4 then 48 ≤ nm b ∧ nm b ≤ 57 else if nm k = 3 then nm b = 46 ∨ (48 ≤ nm b ∧ nm b ≤ 55) else nm b = 59) := by
  unfold fitP at h
  refine Classical.byContradiction fun q => h ?_
  rw [bI_0, decide_eq_false_iff_not]
  exact q
theorem pp_fit {t : List Int} (hT : TB t) {p : Nat} (hp : p < nP t) : (97 ≤ by_ t (6 * p) ∧ by_ t (6 * p) ≤ 122) ∧ (48 ≤ by_ t (6 * p + 1) ∧ by_ t (6 * p + 1) ≤ 57) ∧ (48 ≤ by_ t (6 * p + 2) ∧ by_ t (6 * p + 2) ≤ 57) ∧ (by_ t (6 * p + 3) = 46 ∨ (48 ≤ by_ t (6 * p + 3) ∧ by_ t (6 * p + 3) ≤ 55)) ∧ (48 ≤ by_ t (6 * p + 4) ∧ by_ t (6 * p + 4) ≤ 57) := by
  obtain ⟨hl, hf⟩ := pp_at hp
  have e : ∀ i, i < t.length → nm (by_ t i) = by_ t i := fun i hi => nm_id (by have := hT i hi; omega) (by have := hT i hi; omega)
  have f0 := fitP_n0 (hf (6 * p) (by omega))
  have f1 := fitP_n0 (hf (6 * p + 1) (by omega))
  have f2 := fitP_n0 (hf (6 * p + 2) (by omega))
  have f3 := fitP_n0 (hf (6 * p + 3) (by omega))
  have f4 := fitP_n0 (hf (6 * p + 4) (by omega))
  rw [show (6 * p) % 6 = 0 by omega, e _ (by omega)] at f0
  rw [show (6 * p + 1) % 6 = 1 by omega, e _ (by omega)] at f1
  rw [show (6 * p + 2) % 6 = 2 by omega, e _ (by omega)] at f2
  rw [show (6 * p + 3) % 6 = 3 by omega, e _ (by omega)] at f3
  rw [show (6 * p + 4) % 6 = 4 by omega, e _ (by omega)] at f4
  have n0 : nm ((0 : Nat) : Int) = 0 := by decide
  have n1 : nm ((1 : Nat) : Int) = 1 := by decide
  have n2 : nm ((2 : Nat) : Int) = 2 := by decide
  have n3 : nm ((3 : Nat) : Int) = 3 := by decide
  have n4 : nm ((4 : Nat) : Int) = 4 := by decide
  rw [n0] at f0
  rw [n1] at f1
  rw [n2] at f2
  rw [n3] at f3
  rw [n4] at f4
  exact ⟨by simpa using f0, by simpa using f1, by simpa using f2, by simpa using f3, by simpa using f4⟩
theorem Gd.wedOk {S : Sx} (h : Gd S) : wedOk S.1 := fun p hp => by
  have := (pp_fit h.2.2.2.1 hp).2.2.2.1
  unfold wedF
  split <;> omega
theorem oweP_rng {t : List Int} (hT : TB t) {p : Nat} (hp : p < nP t) : 0 ≤ oweP t p ∧ oweP t p < 100 := by
  have := pp_fit hT hp
  unfold oweP; omega
theorem Gd.oweOk {S : Sx} (h : Gd S) : oweOk S.1 := fun x hx => by
  unfold oweF
  split
  · omega
  · have := oweP_rng h.2.2.2.1 (p := x - nR S.1.1) (by unfold nN at hx; omega)
    omega
theorem luk_rng {t : List Int} (hT : TB t) {p : Nat} (hp : p < nP t) : 0 ≤ lukF t p ∧ lukF t p < 10 := by
  have := pp_fit hT hp
  unfold lukF; omega
theorem Gd.SB {S : Sx} (h : Gd S) : SB S.1 (toldS S.1.2) := ⟨fun k hk => absurd hk (by simp [toldS]), fun p hp => by
  have := luk_rng h.2.2.2.1 hp
  show (lukF S.1.2 p).toNat < 1000
  omega⟩
/-- whether crossing i has changed a name on one of the first n days -/
def chgN (o : Om) (cs : Log2) (su : Sup) (ca : Log2) (fl : Nat → Bool) : Nat → Nat → Bool
  | 0, _ => false
  | n + 1, i => chgN o cs su ca fl n i || chgM o cs su n i (aheadM o cs su ca fl n)
def flP (fs : List Int) (k i : Nat) : Bool := (List.range k).any (fun j => decide (fs.getD j 0 = (i : Int)))
theorem flP_succ (fs : List Int) (k i : Nat) : flP fs (k + 1) i = (flP fs k i || decide (fs.getD k 0 = (i : Int))) := by
  unfold flP; rw [List.range_succ, List.any_append]; simp
/-- the days as told, behind the d-th -/
abbrev ahS (S : Sx) (d : Nat) : Mu := aheadM S.1 S.2.1 (toldS S.1.2) S.2.2.1 (floodB S.2.2.2.1) d
/-- what is kept when settled -/
def Ca (g : GI) (S : Sx) : Prop := WW g S.1 ∧ CR g 28 S.1 (toldS S.1.2) ∧ Bt (g 27 6) (floodB S.2.2.2.1) ∧ (∀ e, e ≤ 20 → WR g (31 + 5 * e) S.1 (ahS S e)) ∧ Bt (g 27 7) (fun i => decide (i < S.2.1.length) && chgN S.1 S.2.1 (toldS S.1.2) S.2.2.1 (floodB S.2.2.2.1) 20 i)
section LV
variable {w : GX} {d : Nat} {P : PN} {g : GI}
theorem c_asTold {c : Nat} {S : Sx} (hC : isC c) (hc : c = 28 ∨ c = 150) (hG : Gd S) (hw : WW g S.1) (k : ∀ g', CR g' c S.1 (toldS S.1.2) → (∀ b, b ≠ c → b ≠ c + 1 → g' b = g b) → P none g') : Zm w (d + 1) mX0_asTold 0 [some (aR (some c)), some (aR (some 18))] [] g P := by
  have n0 : nm 0 = 0 := by decide
  have n8 : nm 8 = 8 := by decide
  have hP := hG.BO.2
  refine s_X0_asTold_0 hC (fun g1 e1 => ?_)
  rw [n0, n8]
  refine ⟨by omega, by omega, by omega, by omega, by omega, fun g2 e2 => ?_⟩
  refine k g2 ⟨?_, fun p hp => ?_⟩ (fun b hb hb1 => ?_)
  · rw [e2, upf_ne _ _ (by omega), e1]; simp [up2_ap, wix, toldS]
  · rw [e2, upf_eq]
    simp only [va_cpy]
    rw [if_pos (by omega), e1, up2_ne _ _ _ (by omega)]
    have := (hw.2.2 p hp).2.2.2
    have h2 := luk_rng hG.2.2.2.1 hp
    show _ = (((lukF S.1.2 p).toNat : Nat) : Int)
    simp [this]; omega
  · rw [e2, upf_ne _ _ hb1, e1, up2_ne _ _ _ hb]
set_option maxHeartbeats 1000000 in
theorem c_live {S : Sx} (hG : Gd S) (hT : Tc g S) (hw : WW g S.1) (k : ∀ g', Ca g' S → (∀ b, b < 27 ∨ 135 < b → g' b = g b) → P none g') : Zm w (d + 2) mX2_live 0 [some (aR (some 27)), none] [] g P := by
  obtain ⟨⟨t0, t1⟩, cs, ca, fs, si⟩ := S
  have hB := hG.BO
  have hE := hG.EB
  have h0 := hG.h0
  have hSB := hG.SB
  obtain ⟨-, -, -, -, hcs, hca, ⟨hf1, hf2⟩, -⟩ := id hG
  obtain ⟨-, -, hc2, hc6, hcf, -⟩ := hT
  dsimp only at *
  refine s_X2_live_0 ?_
  refine c_asTold isC_28 (Or.inl rfl) hG hw (fun g1 cr1 f1 => ⟨rfl, fun g2 e2 g3 e3 => ?_⟩)
  have fr3 : ∀ b, b < 27 ∨ 29 < b → g3 b = g b := fun b hb => by rw [e3, up2_ne _ _ _ (by omega), e2, up2_ne _ _ _ (by omega), f1 b (by omega) (by omega)]
  have cr3 : CR g3 28 (t0, t1) (toldS t1) := by
    unfold CR
    rw [e3, up2_ne _ _ _ (by omega), up2_ne _ _ _ (by omega), e2, up2_ne _ _ _ (by omega), up2_ne _ _ _ (by omega)]; exact cr1
  have z6 : g3 27 6 = 0 := by rw [e3]; simp [up2_ap]
  have z7 : g3 27 7 = 0 := by rw [e3, e2]; simp [up2_ap]
  -- the days
  have L2 : ∀ g4 : GI, (∀ b, b < 27 ∨ 29 < b → g4 b = g b) → CR g4 28 (t0, t1) (toldS t1) → Bt (g4 27 6) (floodB fs) → g4 27 7 = 0 → Zm w (d + 1) mX8_begin 0 [some (aR (some 31)), some (aR (some 18)), none] [] g4 (fun r g5 => r = none ∧ Zm w (d + 2) mX2_live 75 [some (aR (some 27)), some (aI 0)] [] g5 P) := by
    intro g4 fr4 cr4 b4 z4
    have hw4 : WW g4 (t0, t1) := hw.same (fun b hb1 hb2 => fr4 b (by omega)) (fun j _ => by rw [fr4 18 (by omega)])
    refine c_begin isW_31 hB hw4 (fun g5 w5 f5 => ⟨rfl, ?_⟩)
    refine loopN (σ := GI) (fun i s => Zm w (d + 2) mX2_live 75 [some (aR (some 27)), some (aI (i : Int))] [] s P) (fun i s => (∀ b, b < 27 ∨ 135 < b → s b = g b) ∧ CR s 28 (t0, t1) (toldS t1) ∧ Bt (s 27 6) (floodB fs) ∧ Bt (s 27 7) (fun j => decide (j < cs.length) && chgN (t0, t1) cs (toldS t1) ca (floodB fs) i j) ∧ ∀ e, e ≤ i → WR s (31 + 5 * e) (t0, t1) (aheadM (t0, t1) cs (toldS t1) ca (floodB fs) e)) 20 ?_ ?_ 0 g5 (Nat.zero_le _) ?_
    · intro g6 ⟨r1, r2, r3, r4, r5⟩
      have e20 : nm ((20 : Nat) : Int) = 20 := by decide
      have e20' : nm 20 = 20 := by decide
      refine s_X2_live_75 _ ?_
      rw [e20, e20']
      exact ⟨fun _ => k g6 ⟨hw.same (fun b hb1 hb2 => r1 b (by omega)) (fun j _ => by rw [r1 18 (by omega)]), r2, r3, r5, r4⟩ r1, fun q => absurd q (by omega)⟩
    · intro i g6 hi ⟨r1, r2, r3, r4, r5⟩ ih
      have e20 : nm 20 = 20 := by decide
      have ei : nm (i : Int) = i := nm_id (by omega) (by omega)
      have ei1 : nm ((i : Int) + 1) = ((i + 1 : Nat) : Int) := by rw [nm_id (by omega) (by omega)]; omega
      have wf := Wf.ahead (su := toldS t1) (ca := ca) (fl := floodB fs) hB h0 i
      have W1 := isW_ahead (i + 1) (by omega)
      have W0 := isW_ahead i (by omega)
      refine s_X2_live_75 _ ?_
      rw [ei, e20, ei1, Int.toNat_natCast, Int.toNat_natCast]
      refine ⟨fun q => absurd q (by omega), fun _ => ⟨by omega, by omega, by omega, by omega, ?_⟩⟩
      refine c_become W1 W0 (Or.inr (by omega)) hB (r5 i (Nat.le_refl _)) (wf.len hB) (fun g7 w7 f7 => ⟨rfl, ?_⟩)
      have hn7 : En g7 (t0, t1) cs ca := by
        have fr : ∀ b, b < 27 → g7 b = g b := fun b hb => by rw [f7 b (by omega), r1 b (by omega)]
        refine ⟨hw.same (fun b hb1 hb2 => fr b (by omega)) (fun j _ => by rw [fr 18 (by omega)]), ?_, ?_⟩
        · unfold LG; rw [fr 2 (by omega), fr 3 (by omega), fr 4 (by omega)]; exact hc2
        · unfold LG; rw [fr 6 (by omega), fr 7 (by omega), fr 8 (by omega)]; exact hc6
      refine c_crossTold W1 isC_28 hE hn7 (r2.frame W1 isC_28 f7) hSB w7 wf (by omega) (fun g8 z w8 f8 b8 => ⟨z, rfl, fun g9 e9 => ?_⟩)
      have f79 : ∀ b, b < 27 ∨ (27 < b ∧ b < 31 + 5 * (i + 1)) ∨ 31 + 5 * (i + 1) + 4 < b → g9 b = g6 b := fun b hb => by rw [e9, up2_ne _ _ _ (by omega), f8 b (by omega), f7 b (by omega)]
      have hn9 : En g9 (t0, t1) cs ca := by
        have fr : ∀ b, b < 27 → g9 b = g b := fun b hb => by rw [f79 b (by omega), r1 b (by omega)]
        refine ⟨hw.same (fun b hb1 hb2 => fr b (by omega)) (fun j _ => by rw [fr 18 (by omega)]), ?_, ?_⟩
        · unfold LG; rw [fr 2 (by omega), fr 3 (by omega), fr 4 (by omega)]; exact hc2
        · unfold LG; rw [fr 6 (by omega), fr 7 (by omega), fr 8 (by omega)]; exact hc6
      have w9 : WR g9 (31 + 5 * (i + 1)) (t0, t1) (crossM (t0, t1) cs (toldS t1) i cs.length (aheadM (t0, t1) cs (toldS t1) ca (floodB fs) i)) := w8.same (fun b hb1 hb2 => by rw [e9, up2_ne _ _ _ (by omega)])
      have wf9 := wf.cross (su := toldS t1) (d := i) hB h0 _ (Nat.le_refl _)
      refine c_catchTold W1 hE hn9 w9 wf9 (by omega) (fun g10 w10 f10 => ⟨rfl, ?_⟩)
      have b6 : g10 27 6 = g6 27 6 := by rw [f10 27 (by omega), e9]; simp only [up2_ap, if_true]; rw [if_neg (by omega), f8 27 (by omega), f7 27 (by omega)]
      refine c_driftTold W1 hB (hn9.frame f10 (by omega)).1 (by rw [b6]; exact r3) w10 (wf9.catch hB _) (by omega) (fun g11 w11 f11 => ⟨rfl, ?_⟩)
      have fr11 : ∀ b, b < 31 + 5 * (i + 1) ∨ 31 + 5 * (i + 1) + 4 < b → g11 b = g9 b := fun b hb => by rw [f11 b hb, f10 b hb]
      refine ih g11 ⟨fun b hb => by rw [fr11 b (by omega), f79 b (by omega)]; exact r1 b hb, ?_, ?_, ?_, fun e he => ?_⟩
      · unfold CR; rw [fr11 28 (by omega), fr11 29 (by omega), f79 28 (by omega), f79 29 (by omega)]; exact r2
      · rw [fr11 27 (by omega), e9]; simp only [up2_ap, if_true]; rw [if_neg (by omega), f8 27 (by omega), f7 27 (by omega)]; exact r3
      · rw [fr11 27 (by omega), e9]; simp only [up2_ap, if_true]; rw [f7 27 (by omega)]
        refine (r4.or b8).congr (fun j _ => ?_)
        show _ = (decide (j < cs.length) && (chgN (t0, t1) cs (toldS t1) ca (floodB fs) i j || chgM (t0, t1) cs (toldS t1) i j (aheadM (t0, t1) cs (toldS t1) ca (floodB fs) i)))
        cases decide (j < cs.length) <;> simp
      · by_cases q : e = i + 1
        · subst q; exact w11
        · exact (r5 e (by omega)).same (fun b hb1 hb2 => by rw [fr11 b (by omega), f79 b (by omega)])
    · refine ⟨fun b hb => by rw [f5 b (by omega), fr4 b (by omega)], ?_, ?_, ?_, fun e he => ?_⟩
      · unfold CR; rw [f5 28 (by omega), f5 29 (by omega)]; exact cr4
      · rw [f5 27 (by omega)]; exact b4
      · rw [f5 27 (by omega), z4]; exact Bt.zero.congr (fun i _ => by simp [chgN])
      · rw [show e = 0 by omega]; exact w5
  have eF : nm (fs.length : Int) = fs.length := nm_id (by omega) (by omega)
  refine loopN (σ := GI) (fun i s => Zm w (d + 2) mX2_live 23 [some (aR (some 27)), some (aI (i : Int))] [] s P) (fun i s => (∀ b, b < 27 ∨ 29 < b → s b = g b) ∧ CR s 28 (t0, t1) (toldS t1) ∧ Bt (s 27 6) (flP fs i) ∧ s 27 7 = 0) fs.length ?_ ?_ 0 g3 (Nat.zero_le _) ⟨fr3, cr3, by rw [z6]; exact Bt.zero.congr (fun i _ => by simp [flP]), z7⟩
  · intro g4 ⟨r1, r2, r3, r4⟩
    refine s_X2_live_23 _ ?_
    rw [r1 10 (by omega), hcf.1, eF]
    exact ⟨fun _ => L2 g4 r1 r2 r3 r4, fun q => absurd q (by omega)⟩
  · intro i g4 hi ⟨r1, r2, r3, r4⟩ ih
    have ei : nm (i : Int) = i := nm_id (by omega) (by omega)
    have hv := hf2 i hi
    refine s_X2_live_23 _ ?_
    rw [r1 10 (by omega), hcf.1, eF, ei, Int.toNat_natCast, r1 11 (by omega), hcf.2 i hi]
    refine ⟨fun q => absurd q (by omega), fun _ => ⟨by omega, by omega, fun g5 e5 => ?_⟩⟩
    generalize hD : fs.getD i 0 = D at hv e5
    refine ih g5 ⟨fun b hb => by rw [e5, up2_ne _ _ _ (by omega)]; exact r1 b hb, ?_, ?_, by rw [e5]; simp only [up2_ap, if_true]; rw [if_neg (by omega)]; exact r4⟩
    · unfold CR; rw [e5, up2_ne _ _ _ (by omega), up2_ne _ _ _ (by omega)]; exact r2
    · rw [e5]; simp only [up2_ap, if_true]
      rw [show D = ((D.toNat : Nat) : Int) by omega]
      refine (r3.set (show D.toNat < 30 by omega)).congr (fun j _ => ?_)
      rw [flP_succ, hD]
      congr 1
      apply decide_eq_decide.mpr
      omega
/-- what asking may change: nothing but what is kept besides -/
def FrC (g g' : GI) : Prop := (∀ b, (0 < b ∧ b < 18) ∨ 214 < b → g' b = g b) ∧ (∀ j, j ≠ 12 → g' 0 j = g 0 j) ∧ g' 18 11 = g 18 11
theorem FrC.rfl {g : GI} : FrC g g := ⟨fun _ _ => Eq.refl _, fun _ _ => Eq.refl _, Eq.refl _⟩
theorem FrC.trans {g g' g'' : GI} (h : FrC g g') (h' : FrC g' g'') : FrC g g'' := ⟨fun b hb => (h'.1 b hb).trans (h.1 b hb), fun j hj => (h'.2.1 j hj).trans (h.2.1 j hj), h'.2.2.trans h.2.2⟩
/-- settled or stale -/
def St (g : GI) (S : Sx) : Prop := g 0 12 = 1 ∨ (g 0 12 = 0 ∧ Ca g S)
theorem c_settle {S : Sx} (hG : Gd S) (hT : Tc g S) (hs : St g S) (k : ∀ g', g' 0 12 = 0 → Ca g' S → FrC g g' → P none g') : Zm w (d + 4) mX10_settle 0 [some (aR (some 0))] [] g P := by
  have n0 : nm 0 = 0 := by decide
  have n1 : nm 1 = 1 := by decide
  have hB := hG.BO
  refine s_X10_settle_0 ?_
  rcases hs with hs | ⟨hs, hc⟩
  · rw [hs, n1]
    refine ⟨fun q => absurd q (by omega), fun _ => ?_⟩
    have e0 := lst_eq hT.1.2
    have e1 := lst_eq hT.2.1.2
    refine c_tellRiver hT.1.1 hG.1 (fun g1 w1 f1 h1 => ⟨rfl, ?_⟩)
    rw [e0] at w1
    have hT1 : TR g1 218 S.1.2 := by unfold TR; rw [f1 218 (by omega), f1 219 (by omega)]; exact hT.2.1
    have hR : nR S.1.1 ≤ 20 := by have := nR_le S.1.1; have := hB.1; omega
    have e1' := lst_eq hT1.2
    refine c_tellPeople hT1.1 hG.2.2.1 w1.2.1 hR (fun i hi => ?_) (fun g2 p2 q2 f2 h2 x2 => ⟨rfl, ?_⟩)
    · rw [hT1.2 i hi]; have := hG.2.2.2.1 i hi; omega
    rw [e1'] at p2 q2
    have fr2 : ∀ b, b < 18 ∨ 26 < b → g2 b = g b := fun b hb => by rw [f2 b (by omega), f1 b (by omega)]
    have hw2 : WW g2 S.1 := by
      refine ⟨⟨by rw [h2 8 (by omega)]; exact w1.1, by rw [h2 9 (by omega)]; exact w1.2.1, ?_, fun x hx => ?_⟩, p2, q2⟩
      · rw [f2 19 (by omega), f2 20 (by omega), f2 21 (by omega)]; exact w1.2.2.1
      · rw [f2 22 (by omega), (x2 x hx).1, (x2 x hx).2]; exact w1.2.2.2 x hx
    have hT2 : Tc g2 S := by
      unfold Tc TR LG LF L3 at *
      rw [fr2 216 (by omega), fr2 (216 + 1) (by omega), fr2 218 (by omega), fr2 (218 + 1) (by omega), fr2 2 (by omega), fr2 (2 + 1) (by omega), fr2 (2 + 2) (by omega), fr2 6 (by omega), fr2 (6 + 1) (by omega), fr2 (6 + 2) (by omega), fr2 10 (by omega), fr2 11 (by omega), fr2 14 (by omega), fr2 15 (by omega), fr2 16 (by omega), fr2 17 (by omega)]
      exact hT
    refine c_live hG hT2 hw2 (fun g3 c3 f3 => ⟨rfl, fun g4 e4 => ?_⟩)
    have fr4 : ∀ b, b ≠ 0 → g4 b = g3 b := fun b hb => by rw [e4, up2_ne _ _ _ hb]
    refine k g4 (by rw [e4]; simp [up2_ap]) ?_ ⟨fun b hb => ?_, fun j hj => ?_, ?_⟩
    · refine ⟨c3.1.same (fun b _ _ => fr4 b (by omega)) (fun j _ => by rw [fr4 18 (by omega)]), ?_, ?_, fun e he => (c3.2.2.2.1 e he).same (fun b _ _ => fr4 b (by omega)), ?_⟩
      · unfold CR; rw [fr4 28 (by omega), fr4 29 (by omega)]; exact c3.2.1
      · rw [fr4 27 (by omega)]; exact c3.2.2.1
      · rw [fr4 27 (by omega)]; exact c3.2.2.2.2
    · rw [fr4 b (by omega), f3 b (by omega), fr2 b (by omega)]
    · rw [e4]; simp only [up2_ap, if_true]; rw [if_neg hj, f3 0 (by omega), fr2 0 (by omega)]
    · rw [fr4 18 (by omega), f3 18 (by omega), h2 11 (by omega), h1 11 (by omega) (by omega)]
  · rw [hs, n0]
    exact ⟨fun _ => k g hs hc FrC.rfl, fun q => absurd rfl q⟩
end LV
