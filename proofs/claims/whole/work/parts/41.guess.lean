/-! what was seen, held against what is supposed -/
abbrev ahU (T : TT) (su : Sup) (n : Nat) : Mu := aheadM T.1.1 T.1.2.1 su T.1.2.2.1 (floodB T.1.2.2.2.1) n
abbrev siA (T : TT) (i : Nat) : Int × Int × Int := T.1.2.2.2.2.getD i (0, 0, 0)
def seA (T : TT) (su : Sup) (i : Nat) : Bool := decide ((siA T i).2.1 < (nP T.1.1.2 : Int) ∧ calM T.1.1 T.2.1 (ahU T su ((siA T i).1.toNat + 1)) (siA T i).2.1.toNat = (siA T i).2.2)
def seB (T : TT) (su : Sup) : Bool := (List.range T.1.2.2.2.2.length).all (seA T su)
theorem seB_iff (T : TT) (su : Sup) : seB T su = true ↔ ∀ i, i < T.1.2.2.2.2.length → seA T su i = true := by simp [seB]
theorem seB_no {T : TT} {su : Sup} {i : Nat} (hi : i < T.1.2.2.2.2.length) (h : seA T su i = false) : seB T su = false := by
  cases q : seB T su with
  | false => rfl
  | true => rw [(seB_iff T su).mp q i hi] at h; cases h
abbrev suN (T : TT) (k : Nat) : Sup := (some k, (toldS T.1.1.2).2)
abbrev suL (T : TT) (p v : Nat) : Sup := (none, up1 (toldS T.1.1.2).2 p v)
def nvB (T : TT) (k : Nat) : Bool := decide (k < T.1.2.1.length) && seB T (suN T k)
def luB (T : TT) (p v : Nat) : Bool := decide (v < 10) && seB T (suL T p v)
theorem GT.wfU {T : TT} (hT : GT T) (su : Sup) (n : Nat) : Wf T.1.1 (ahU T su n) := Wf.ahead hT.1.BO hT.1.h0 n
theorem GT.suN {T : TT} (hT : GT T) {k : Nat} (hk : k < T.1.2.1.length) : SB T.1.1 (suN T k) := ⟨fun j hj => by
  have : k = j := by simpa using hj
  have := hT.1.2.2.2.2.1.1
  omega, hT.1.SB.2⟩
theorem GT.suL {T : TT} (hT : GT T) {p v : Nat} (hv : v < 10) : SB T.1.1 (suL T p v) := ⟨fun j hj => absurd hj (by simp), fun q hq => by
  show up1 (toldS T.1.1.2).2 p v q < 1000
  simp only [up1_ap]
  split
  · omega
  · exact hT.1.SB.2 q hq⟩
section GS
variable {w : GX} {d : Nat} {P : PN} {g : GI} {T : TT}
theorem c_agrees {n : Nat} {su : Sup} (hT : GT T) (h : IS g T) (hw : WR g 152 T.1.1 (ahU T su (n + 1))) (hn : n < 20) (k : ∀ b : Bool, (b = true ↔ ∀ i, i < T.1.2.2.2.2.length → (siA T i).1 = (n : Int) → seA T su i = true) → P (some (aI (bI b))) g) : Zm w (d + 2) mX3_agreesWith 0 [some (aR (some 149)), some (aI (n : Int)), none, none] [] g P := by
  obtain ⟨hs1, hs2⟩ := hT.1.2.2.2.2.2.2.2
  have hB := hT.1.BO
  have hP := hB.2
  have hL := h.1.1.2.2.2.2.2
  have el : nm (T.1.2.2.2.2.length : Int) = T.1.2.2.2.2.length := nm_id (by omega) (by omega)
  have en : nm (n : Int) = n := nm_id (by omega) (by omega)
  refine s_X3_agreesWith_0 _ ?_
  refine loopN (σ := Unit) (fun i _ => Zm w (d + 2) mX3_agreesWith 2 [some (aR (some 149)), some (aI (n : Int)), some (aI (i : Int)), none] [] g P) (fun i _ => ∀ j, j < i → (siA T j).1 = (n : Int) → seA T su j = true) T.1.2.2.2.2.length ?_ ?_ 0 () (Nat.zero_le _) (fun j hj => absurd hj (Nat.not_lt_zero j))
  · intro _ hI
    refine s_X3_agreesWith_2 _ _ ?_
    rw [hL.1, el]
    exact ⟨fun _ => k true ⟨fun _ => hI, fun _ => rfl⟩, fun z => absurd z (by omega)⟩
  · intro i _ hi hI ih
    have ei : nm (i : Int) = i := nm_id (by omega) (by omega)
    have hb := hs2 i hi
    have hr := hL.2 i hi
    have hsa : seA T su i = decide ((siA T i).2.1 < (nP T.1.1.2 : Int) ∧ calM T.1.1 T.2.1 (ahU T su ((siA T i).1.toNat + 1)) (siA T i).2.1.toNat = (siA T i).2.2) := rfl
    have hcast : T.1.2.2.2.2.getD i (0, 0, 0) = siA T i := rfl
    rw [hcast] at hb hr
    generalize siA T i = x at hb hr hsa
    obtain ⟨xd, xp, xl⟩ := x
    dsimp only at hb hr hsa
    have e1 : nm xd = xd := nm_id (by omega) (by omega)
    have e2 : nm xp = xp := nm_id (by omega) (by omega)
    have e3 : nm xl = xl := nm_id (by omega) (by omega)
    refine s_X3_agreesWith_2 _ _ ?_
    rw [hL.1, el, ei, Int.toNat_natCast, hr.1, hr.2.1, h.2.2.1.2.1, nmP hT, e1, en]
    refine ⟨fun z => absurd z (by omega), fun _ => ⟨by omega, by omega, fun v6 e6 => ?_⟩⟩
    subst e6
    rw [e2]
    refine ⟨fun q => ih () (fun j hj hd => ?_), fun q => ⟨fun q2 => ?_, fun q2 => ?_⟩⟩
    · by_cases y : j = i
      · subst y; exact absurd (by have : (siA T j).1 = (n : Int) := hd; rw [← hcast] at this; have h0 := (hL.2 j hi).1; rw [hr.1] at h0; rw [h0]; exact this) q
      · exact hI j (by omega) hd
    · have hf : seA T su i = false := by rw [hsa]; exact decide_eq_false (fun z => q2 z.1)
      have hd : (siA T i).1 = (n : Int) := by have h0 := (hL.2 i hi).1; rw [hr.1] at h0; rw [← q, h0]
      exact k false ⟨fun z => (by cases z), fun z => by have := z i hi hd; rw [hf] at this; cases this⟩
    · rw [show v6 = ((v6.toNat : Nat) : Int) by omega]
      have wf := hT.wfU su (n + 1)
      refine c_letterOf isW_152 hB h.2.2.1 hw wf (by omega) ⟨_, rfl, ?_⟩
      rw [h.1.2.2.1, nm_calM hT.1 _ wf (by omega), hr.2.2, e3]
      have hsa2 : seA T su i = decide (calM T.1.1 T.2.1 (ahU T su (n + 1)) v6.toNat = xl) := by
        rw [hsa, show xd.toNat = n by omega]
        by_cases y : calM T.1.1 T.2.1 (ahU T su (n + 1)) v6.toNat = xl
        · rw [decide_eq_true y, decide_eq_true ⟨q2, y⟩]
        · rw [decide_eq_false y, decide_eq_false (fun z => y z.2)]
      refine ⟨fun y => ih () (fun j hj hd => ?_), fun y => ?_⟩
      · by_cases u : j = i
        · subst u; rw [hsa2]; exact decide_eq_true y
        · exact hI j (by omega) hd
      · have hf : seA T su i = false := by rw [hsa2]; exact decide_eq_false y
        have hd : (siA T i).1 = (n : Int) := by have h0 := (hL.2 i hi).1; rw [hr.1] at h0; rw [← q, h0]
        exact k false ⟨fun z => (by cases z), fun z => by have := z i hi hd; rw [hf] at this; cases this⟩
theorem c_comesOut {su : Sup} (hT : GT T) (h : IS g T) (hc : CR g 150 T.1.1 su) (hs : SB T.1.1 su) (k : ∀ g', FrW g g' 152 → P (some (aI (bI (seB T su)))) g') : Zm w (d + 3) mX3_comesOut 0 [some (aR (some 149)), none, none] [] g P := by
  obtain ⟨hs1, hs2⟩ := hT.1.2.2.2.2.2.2.2
  have hB := hT.1.BO
  have hE := hT.1.EB
  have hL := h.1.1.2.2.2.2.2
  have el : nm (T.1.2.2.2.2.length : Int) = T.1.2.2.2.2.length := nm_id (by omega) (by omega)
  -- the days
  have L2 : ∀ x1 : Int, -1 ≤ x1 → x1 < 20 → (∀ j, j < T.1.2.2.2.2.length → (siA T j).1 ≤ x1) → Zm w (d + 2) mX8_become 0 [some (aR (some 152)), some (aR (some 31))] [] g (fun r g2 => r = none ∧ Zm w (d + 3) mX3_comesOut 53 [some (aR (some 149)), some (aI x1), some (aI 0)] [] g2 P) := by
    intro x1 h1 h2 h3
    have e1 : nm x1 = x1 := nm_id (by omega) (by omega)
    refine c_become isW_152 isW_31 (Or.inr (by omega)) hB (h.2.2.2.2.2.1 0 (by omega)) ((hT.1.wf 0).len hB) (fun g2 w2 f2 => ⟨rfl, ?_⟩)
    refine loopN (σ := GI) (fun i s => Zm w (d + 3) mX3_comesOut 53 [some (aR (some 149)), some (aI x1), some (aI (i : Int))] [] s P) (fun i s => FrW g s 152 ∧ WR s 152 T.1.1 (ahU T su i) ∧ ∀ j, j < T.1.2.2.2.2.length → (siA T j).1 < (i : Int) → seA T su j = true) (x1 + 1).toNat ?_ ?_ 0 g2 (Nat.zero_le _) ⟨f2, w2, fun j hj z => absurd z (by have := (hs2 j hj).1; show ¬ (T.1.2.2.2.2.getD j (0, 0, 0)).1 < ((0 : Nat) : Int); omega)⟩
    · intro g3 ⟨r1, r2, r3⟩
      have e2 : nm (((x1 + 1).toNat : Nat) : Int) = x1 + 1 := by rw [nm_id (by omega) (by omega)]; omega
      refine s_X3_comesOut_53 _ _ ?_
      rw [e1, e2]
      refine ⟨fun _ => ?_, fun z => absurd z (by omega)⟩
      have : seB T su = true := (seB_iff T su).mpr (fun j hj => r3 j hj (by have := h3 j hj; omega))
      have k := k g3 r1
      rw [this] at k; exact k
    · intro i g3 hi ⟨r1, r2, r3⟩ ih
      have ei : nm (i : Int) = i := nm_id (by omega) (by omega)
      have h3' := h.keep (r1.Q (by omega) (by omega))
      have hc3 := hc.frame isW_152 isC_150 r1
      refine s_X3_comesOut_53 _ _ ?_
      rw [e1, ei]
      refine ⟨fun z => absurd z (by omega), fun _ => ?_⟩
      refine c_go (f := i) (t := i + 1) isW_152 isC_150 hE h3'.En h3'.2.2.2.2.1 hc3 hs r2 (hT.wfU su i) (by omega) (by omega) (by omega) (fun g4 w4 f4 => ⟨rfl, ?_⟩)
      rw [show i + 1 - i = 1 by omega] at w4
      have w4 : WR g4 152 T.1.1 (ahU T su (i + 1)) := w4
      have r14 := r1.trans f4
      have h4 := h.keep (r14.Q (by omega) (by omega))
      refine c_agrees hT h4 w4 (by omega) (fun b hb => ⟨_, rfl, ?_⟩)
      rw [nbI_0]
      refine ⟨fun z => ?_, fun z => ?_⟩
      · have hbt := hb.mp (by simpa using z)
        refine ih g4 ⟨r14, w4, fun j hj y => ?_⟩
        by_cases u : (siA T j).1 = (i : Int)
        · exact hbt j hj u
        · exact r3 j hj (by omega)
      · have : seB T su = false := by
          cases q : seB T su with
          | false => rfl
          | true =>
            have := hb.mpr (fun j hj _ => (seB_iff T su).mp q j hj)
            rw [z] at this; cases this
        have k := k g4 r14
        rw [this] at k; exact k
  refine s_X3_comesOut_0 (fun v1 e1 => ?_)
  subst e1
  refine loopN (σ := Int) (fun i s => Zm w (d + 3) mX3_comesOut 4 [some (aR (some 149)), some (aI s), some (aI (i : Int))] [] g P) (fun i s => -1 ≤ s ∧ s < 20 ∧ ∀ j, j < i → (siA T j).1 ≤ s) T.1.2.2.2.2.length ?_ ?_ 0 (-1) (Nat.zero_le _) ⟨by omega, by omega, fun j hj => absurd hj (Nat.not_lt_zero j)⟩
  · intro s ⟨r1, r2, r3⟩
    refine s_X3_comesOut_4 _ _ ?_
    rw [hL.1, el]
    exact ⟨fun _ => L2 s r1 r2 r3, fun z => absurd z (by omega)⟩
  · intro i s hi ⟨r1, r2, r3⟩ ih
    have ei : nm (i : Int) = i := nm_id (by omega) (by omega)
    have hb := hs2 i hi
    refine s_X3_comesOut_4 _ _ ?_
    rw [hL.1, el, ei, Int.toNat_natCast, (hL.2 i hi).1]
    refine ⟨fun z => absurd z (by omega), fun _ => ⟨by omega, by omega, fun v8 e8 => ?_⟩⟩
    have es : nm s = s := nm_id (by omega) (by omega)
    have ed : nm (T.1.2.2.2.2.getD i (0, 0, 0)).1 = (T.1.2.2.2.2.getD i (0, 0, 0)).1 := nm_id (by omega) (by omega)
    have hv : v8 = if s ≤ (T.1.2.2.2.2.getD i (0, 0, 0)).1 then (T.1.2.2.2.2.getD i (0, 0, 0)).1 else s := by
      rw [e8]; unfold iMax; rw [es, ed]
      (repeat' split) <;> omega
    refine ih v8 ⟨?_, ?_, fun j hj => ?_⟩
    · rw [hv]; split <;> omega
    · rw [hv]; split <;> omega
    · by_cases y : j = i
      · subst y
        show (T.1.2.2.2.2.getD j (0, 0, 0)).1 ≤ v8
        rw [hv]; split <;> omega
      · have := r3 j (by omega)
        rw [hv]; split <;> omega
theorem CR.up {g : GI} {su : Sup} {k : Nat} {o : Om} (h : CR g 150 o su) : CR (up2 g 150 1 (k : Int)) 150 o (some k, su.2) := by
  refine ⟨by simp [up2_ap, wix], fun p hp => ?_⟩
  rw [up2_ne _ _ _ (by omega)]; exact h.2 p hp
theorem c_neverBits (hT : GT T) (h : IS g T) (k : ∀ g' z, IS g' T → FrQ g g' → Bt z (nvB T) → P (some (aI z)) g') : Zm w (d + 4) mX3_neverBits 0 [some (aR (some 149)), none, none] [] g P := by
  have hl := hT.1.2.2.2.2.1.1
  have el : nm (T.1.2.1.length : Int) = T.1.2.1.length := nm_id (by omega) (by omega)
  refine s_X3_neverBits_0 ?_
  refine c_asTold isC_150 (Or.inr rfl) hT.1 h.2.2.1 (fun g1 c1 f1 => ⟨rfl, ?_⟩)
  refine loopN (σ := Int × GI) (fun i s => Zm w (d + 4) mX3_neverBits 18 [some (aR (some 149)), some (aI s.1), some (aI (i : Int))] [] s.2 P) (fun i s => FrQ g s.2 ∧ (∃ x, CR s.2 150 T.1.1 (x, (toldS T.1.1.2).2)) ∧ Bt s.1 (fun j => decide (j < i) && seB T (suN T j))) T.1.2.1.length ?_ ?_ 0 (0, g1) (Nat.zero_le _) ⟨fun b hb => f1 b (by omega) (by omega), ⟨none, c1⟩, Bt.zero.congr (fun i _ => by simp)⟩
  · intro ⟨b, g3⟩ ⟨r1, r2, r3⟩
    dsimp only at r1 r2 r3
    have h3 := h.keep r1
    refine s_X3_neverBits_18 _ _ ?_
    dsimp only
    rw [h3.1.1.2.2.1.1, el]
    exact ⟨fun _ => k g3 b h3 r1 r3, fun z => absurd z (by omega)⟩
  · intro i ⟨b, g3⟩ hi ⟨r1, ⟨x, r2⟩, r3⟩ ih
    dsimp only at r1 r2 r3
    have h3 := h.keep r1
    have ei : nm (i : Int) = i := nm_id (by omega) (by omega)
    refine s_X3_neverBits_18 _ _ ?_
    dsimp only
    rw [h3.1.1.2.2.1.1, el, ei]
    refine ⟨fun z => absurd z (by omega), fun _ g4 e4 => ?_⟩
    have r4 : FrQ g g4 := by rw [e4]; exact r1.up (by omega) (by omega)
    have c4 : CR g4 150 T.1.1 (suN T i) := by rw [e4]; exact r2.up
    refine c_comesOut hT (h.keep r4) c4 (hT.suN hi) (fun g5 f5 => ⟨_, rfl, ?_⟩)
    have r5 := r4.trans (f5.Q (by omega) (by omega))
    have c5 := c4.frame isW_152 isC_150 f5
    rw [nbI_0]
    refine ⟨fun z => ih (b, g5) ⟨r5, ⟨_, c5⟩, r3.congr (fun j _ => ?_)⟩, fun z v6 e6 => ih (v6, g5) ⟨r5, ⟨_, c5⟩, ?_⟩⟩
    · by_cases y : j = i
      · subst y; rw [z]; simp
      · rw [show decide (j < i + 1) = decide (j < i) by apply decide_eq_decide.mpr; omega]
    · subst e6
      refine (r3.set (show i < 30 by omega)).congr (fun j _ => ?_)
      by_cases y : j = i
      · subst y
        have z : seB T (suN T j) = true := by simpa using z
        simp [z]
      · rw [show decide (j < i + 1) = decide (j < i) by apply decide_eq_decide.mpr; omega]
        simp [y]
theorem c_luckyBits {p : Nat} (hT : GT T) (h : IS g T) (hp : p < nP T.1.1.2) (k : ∀ g' z, IS g' T → FrQ g g' → Bt z (luB T p) → P (some (aI z)) g') : Zm w (d + 4) mX3_luckyBits 0 [some (aR (some 149)), some (aI (p : Int)), none, none] [] g P := by
  have hP := hT.1.BO.2
  have n10 : nm 10 = 10 := by decide
  have ep : nm (p : Int) = p := nm_id (by omega) (by omega)
  refine s_X3_luckyBits_0 _ ?_
  refine c_asTold isC_150 (Or.inr rfl) hT.1 h.2.2.1 (fun g1 c1 f1 => ⟨rfl, ?_⟩)
  refine loopN (σ := Int × GI) (fun i s => Zm w (d + 4) mX3_luckyBits 18 [some (aR (some 149)), some (aI (p : Int)), some (aI s.1), some (aI (i : Int))] [] s.2 P) (fun i s => FrQ g s.2 ∧ (s.2 150 1 = -1 ∧ ∀ q, q < nP T.1.1.2 → q ≠ p → s.2 151 q = ((toldS T.1.1.2).2 q : Int)) ∧ Bt s.1 (fun j => decide (j < i) && seB T (suL T p j))) 10 ?_ ?_ 0 (0, g1) (Nat.zero_le _) ⟨fun b hb => f1 b (by omega) (by omega), ⟨c1.1, fun q hq _ => c1.2 q hq⟩, Bt.zero.congr (fun i _ => by simp)⟩
  · intro ⟨b, g3⟩ ⟨r1, r2, r3⟩
    dsimp only at r1 r2 r3
    have e10 : nm ((10 : Nat) : Int) = 10 := by decide
    refine s_X3_luckyBits_18 _ _ _ ?_
    dsimp only
    rw [n10, e10]
    exact ⟨fun _ => k g3 b (h.keep r1) r1 r3, fun z => absurd z (by omega)⟩
  · intro i ⟨b, g3⟩ hi ⟨r1, r2, r3⟩ ih
    dsimp only at r1 r2 r3
    have ei : nm (i : Int) = i := nm_id (by omega) (by omega)
    refine s_X3_luckyBits_18 _ _ _ ?_
    dsimp only
    rw [n10, ei, ep, Int.toNat_natCast]
    refine ⟨fun z => absurd z (by omega), fun _ => ⟨by omega, by omega, fun g4 e4 => ?_⟩⟩
    have r4 : FrQ g g4 := by rw [e4]; exact r1.up (by omega) (by omega)
    have c4 : CR g4 150 T.1.1 (suL T p i) := by
      refine ⟨by rw [e4, up2_ne _ _ _ (by omega)]; exact r2.1, fun q hq => ?_⟩
      rw [e4]
      show up2 g3 151 p (i : Int) 151 q = ((up1 (toldS T.1.1.2).2 p i q : Nat) : Int)
      simp only [up2_ap, up1_ap, if_true]
      split
      · rfl
      · rename_i y; exact r2.2 q hq y
    refine c_comesOut hT (h.keep r4) c4 (hT.suL hi) (fun g5 f5 => ⟨_, rfl, ?_⟩)
    have r5 := r4.trans (f5.Q (by omega) (by omega))
    have c5 := c4.frame isW_152 isC_150 f5
    have x5 : g5 150 1 = -1 ∧ ∀ q, q < nP T.1.1.2 → q ≠ p → g5 151 q = ((toldS T.1.1.2).2 q : Int) := ⟨c5.1, fun q hq y => by
      have := c5.2 q hq
      have e : (suL T p i).2 q = (toldS T.1.1.2).2 q := up1_ne _ _ y
      rw [e] at this; exact this⟩
    rw [nbI_0]
    refine ⟨fun z => ih (b, g5) ⟨r5, x5, r3.congr (fun j _ => ?_)⟩, fun z v6 e6 => ih (v6, g5) ⟨r5, x5, ?_⟩⟩
    · by_cases y : j = i
      · subst y; rw [z]; simp
      · rw [show decide (j < i + 1) = decide (j < i) by apply decide_eq_decide.mpr; omega]
    · subst e6
      refine (r3.set (show i < 30 by omega)).congr (fun j _ => ?_)
      by_cases y : j = i
      · subst y
        have z : seB T (suL T p j) = true := by simpa using z
        simp [z]
      · rw [show decide (j < i + 1) = decide (j < i) by apply decide_eq_decide.mpr; omega]
        simp [y]
theorem k_never (hT : GT T) (h : IC g T) (k : ∀ g' z, Bt z (nvB T) → IS g' T → FrL g g' → P (some (aI z)) g') : Zm w (d + 5) mX10_never 0 [some (aR (some 0))] [] g P := by
  refine s_X10_never_0 ?_
  refine k_settle hT h (fun g1 s1 f1 => ⟨rfl, ?_⟩)
  exact c_neverBits hT s1 (fun g2 z s2 f2 hz => ⟨z, rfl, k g2 z hz s2 (f1.trans f2.L)⟩)
def Vlucky (T : TT) (p z : Int) : Prop := (¬ (0 ≤ p ∧ p < (nP T.1.1.2 : Int)) ∧ z = -2) ∨ ((0 ≤ p ∧ p < (nP T.1.1.2 : Int)) ∧ Bt z (luB T p.toNat))
theorem Vlucky.one {T : TT} {p z z' : Int} (h : Vlucky T p z) (h' : Vlucky T p z') : z = z' := by
  rcases h with ⟨q, e⟩ | ⟨q, e⟩ <;> rcases h' with ⟨q', e'⟩ | ⟨q', e'⟩
  · rw [e, e']
  · exact absurd q' q
  · exact absurd q q'
  · exact e.uniq e'
theorem k_lucky {x1 : Int} (hT : GT T) (h : IC g T) (e1 : nm x1 = x1) (k : ∀ g' z, Vlucky T x1 z → IS g' T → FrL g g' → P (some (aI z)) g') : Zm w (d + 5) mX10_lucky 0 [some (aR (some 0)), some (aI x1)] [] g P := by
  refine s_X10_lucky_0 _ ?_
  refine k_settle hT h (fun g1 s1 f1 => ⟨rfl, ?_⟩)
  rw [s1.2.2.1.2.1, wi_x e1 (nmP hT)]
  refine ⟨fun q => ?_, fun q => k g1 _ (Or.inl ⟨q, rfl⟩) s1 f1⟩
  have q := nn q
  rw [show x1 = ((x1.toNat : Nat) : Int) by omega]
  exact c_luckyBits hT s1 (by omega) (fun g2 z s2 f2 hz => ⟨z, rfl, k g2 z (Or.inr ⟨q, hz⟩) s2 (f1.trans f2.L)⟩)
/-! the model -/
theorem c_isSeen {o : Om} {su : Sup} {fs : List Int} (hT : GT T) (hM : EM g T.1.1 T.2.1 T.1.2.1 su T.1.2.2.1 fs (floodB T.1.2.2.2.1)) (hs : SB T.1.1 su) (hL : L3M g T.1.2.2.2.2) (k : ∀ g', (∀ b, b < 241 ∨ 247 < b → g' b = g b) → P (some (aI (bI (seB T su)))) g') : Zm w (d + 5) mX11_isSeen 0 [some (aR (some 228)), none, none] [] g P := by
  obtain ⟨hs1, hs2⟩ := hT.1.2.2.2.2.2.2.2
  have hE : EBM T.1.1 T.2.1 T.1.2.1 su T.1.2.2.1 := ⟨hT.EBM.1, hT.EBM.2.1, hT.EBM.2.2.1, hs, hT.EBM.2.2.2.2⟩
  have hP := hT.1.BO.2
  have el : nm (T.1.2.2.2.2.length : Int) = T.1.2.2.2.2.length := nm_id (by omega) (by omega)
  have n0 : nm 0 = 0 := by decide
  have n1 : nm 1 = 1 := by decide
  have NO : ∀ (g3 : GI) (i : Nat), (∀ b, b < 241 ∨ 247 < b → g3 b = g b) → i ≤ T.1.2.2.2.2.length → seB T su = false → Zm w (d + 5) mX11_isSeen 4 [some (aR (some 228)), some (aI 0), some (aI (i : Int))] [] g3 P := by
    intro g3 i f3 hi hf
    have ei : nm (i : Int) = i := nm_id (by omega) (by omega)
    have k := k g3 f3
    rw [hf] at k
    refine s_X11_isSeen_4 _ _ ?_
    rw [n0]
    exact ⟨fun _ => ⟨Or.inl rfl, k⟩, fun _ => ⟨fun _ => ⟨Or.inl rfl, k⟩, fun z => absurd rfl z⟩⟩
  refine s_X11_isSeen_0 ?_
  refine loopN (σ := GI) (fun i s => Zm w (d + 5) mX11_isSeen 4 [some (aR (some 228)), some (aI 1), some (aI (i : Int))] [] s P) (fun i s => (∀ b, b < 241 ∨ 247 < b → s b = g b) ∧ ∀ j, j < i → seA T su j = true) T.1.2.2.2.2.length ?_ ?_ 0 g (Nat.zero_le _) ⟨fun _ _ => rfl, fun j hj => absurd hj (Nat.not_lt_zero j)⟩
  · intro g3 ⟨r1, r2⟩
    have k := k g3 r1
    rw [(seB_iff T su).mpr r2] at k
    refine s_X11_isSeen_4 _ _ ?_
    rw [r1 228 (by omega), hL.1, el]
    exact ⟨fun _ => ⟨Or.inr rfl, k⟩, fun z => absurd z (by omega)⟩
  · intro i g3 hi ⟨r1, r2⟩ ih
    have hM3 := hM.same (g' := g3) (fun b hb => r1 b (by omega))
    have ei : nm (i : Int) = i := nm_id (by omega) (by omega)
    have i0 : nm (3 * (i : Int)) = ((3 * i : Nat) : Int) := by rw [nm_id (by omega) (by omega)]; omega
    have i1 : nm (3 * (i : Int) + 1) = ((3 * i + 1 : Nat) : Int) := by rw [nm_id (by omega) (by omega)]; omega
    have i2 : nm (3 * (i : Int) + 2) = ((3 * i + 2 : Nat) : Int) := by rw [nm_id (by omega) (by omega)]; omega
    have hb := hs2 i hi
    have hr := hL.2 i hi
    have hsa : seA T su i = decide ((siA T i).2.1 < (nP T.1.1.2 : Int) ∧ calM T.1.1 T.2.1 (ahU T su ((siA T i).1.toNat + 1)) (siA T i).2.1.toNat = (siA T i).2.2) := rfl
    have hcast : T.1.2.2.2.2.getD i (0, 0, 0) = siA T i := rfl
    rw [hcast] at hb hr
    generalize siA T i = x at hb hr hsa
    obtain ⟨xd, xp, xl⟩ := x
    dsimp only at hb hr hsa
    have e2 : nm xp = xp := nm_id (by omega) (by omega)
    have e3 : nm xl = xl := nm_id (by omega) (by omega)
    refine s_X11_isSeen_4 _ _ ?_
    rw [n1, hM3.1.2.1, nmP1 hT, r1 228 (by omega), r1 248 (by omega), hL.1, el, ei, i0, i1, i2, Int.toNat_natCast, Int.toNat_natCast, Int.toNat_natCast, hr.1, hr.2.1, hr.2.2, inn_x e2]
    refine ⟨fun z => absurd z (by omega), fun _ => ⟨fun z => absurd z (by omega), fun _ => ⟨by omega, by omega, fun q => ?_, fun q => ⟨by omega, by omega, by omega, by omega, ?_⟩⟩⟩⟩
    · exact NO g3 (i + 1) r1 (by omega) (seB_no hi (by rw [hsa]; exact decide_eq_false (by omega)))
    · rw [show xp = ((xp.toNat : Nat) : Int) by omega]
      refine c_isCalled (n := xd.toNat + 1) hE hM3 hT.L (by omega) e3 (by omega) (by omega) (fun g4 f4 => ⟨_, rfl, ?_⟩)
      have r4 : ∀ b, b < 241 ∨ 247 < b → g4 b = g b := fun b hb => by rw [f4 b hb]; exact r1 b hb
      rw [nbI_0, decide_eq_false_iff_not]
      refine ⟨fun z => NO g4 (i + 1) r4 (by omega) (seB_no hi (by rw [hsa]; exact decide_eq_false (fun y => z y.2))), fun z => ih g4 ⟨r4, fun j hj => ?_⟩⟩
      by_cases y : j = i
      · subst y; rw [hsa]; exact decide_eq_true ⟨by omega, nn z⟩
      · exact r2 j (by omega)
theorem iOr_0 {z : Int} {f : Nat → Bool} (h : Bt z f) : iOr z 0 = z := (h.or Bt.zero).uniq (h.congr (fun i _ => by simp))
/-- one field of the model changes for a while: noCross -/
theorem RM.noC {g g' : GI} {T : TT} {k : Nat} (h : RM g T) (f : ∀ b, b ≠ 228 → g' b = g b) (f8 : ∀ j, j ≠ 27 → g' 228 j = g 228 j) (e : g' 228 27 = (k : Int)) : EM g' T.1.1 T.2.1 T.1.2.1 (suN T k) T.1.2.2.1 T.1.2.2.2.1 (floodB T.1.2.2.2.1) := by
  obtain ⟨⟨⟨a1, a2, a3⟩, b1, b2⟩, c, ⟨d1, d2, d3⟩, e', f13⟩ := h.2
  refine ⟨⟨⟨by rw [f8 7 (by omega)]; exact a1, by rw [f8 12 (by omega)]; exact a2, by rw [f 235 (by omega), f 236 (by omega)]; exact a3⟩, by rw [f8 10 (by omega)]; exact b1, by rw [f 237 (by omega)]; exact b2⟩, ⟨by rw [f8 14 (by omega)]; exact c.1, by rw [f 238 (by omega)]; exact c.2.1, by rw [f8 16 (by omega)]; exact c.2.2.1, by rw [f 239 (by omega)]; exact c.2.2.2⟩, ⟨d1, d2.same (f8 18 (by omega)) (f 240 (by omega)), by rw [f8 30 (by omega)]; exact d3⟩, ⟨e, by rw [f8 28 (by omega)]; exact e'.2.1, fun p hp => by rw [f8 28 (by omega), f8 29 (by omega), f 237 (by omega)]; exact e'.2.2 p hp⟩, by rw [f8 13 (by omega)]; exact f13⟩
/-- between: all but noCross as told -/
def RN (g0 g : GI) : Prop := (∀ b, b < 228 ∨ (228 < b ∧ b < 241) ∨ b = 248 → g b = g0 b) ∧ ∀ j, j ≠ 27 → g 228 j = g0 228 j
theorem RM.reN {g0 g g' : GI} {T : TT} (h : RM g0 T) (r : RN g0 g) (e : g' = up2 g 228 27 (-1)) : RM g' T := by
  have f8 : g' 228 = g0 228 := funext fun j => by
    rw [e]; simp only [up2_ap, if_true]
    by_cases y : j = 27
    · rw [if_pos y, y, h.1.2.2.2.2.1.2.2.1]
    · rw [if_neg y]; exact r.2 j y
  refine h.keep2 (fun b hb => ?_)
  by_cases y : b = 228
  · rw [y]; exact f8
  · rw [e, up2_ne _ _ _ y]; exact r.1 b (by omega)
theorem j_neverNow (hT : GT T) (h : RM g T) (k : ∀ g' z, Bt z (nvB T) → RM g' T → FrH g g' → P (some (aI z)) g') : Zm w (d + 6) mX11_neverNow 0 [some (aR (some 228)), none, none] [] g P := by
  have hl := hT.1.2.2.2.2.1.1
  have el : nm (T.1.2.1.length : Int) = T.1.2.1.length := nm_id (by omega) (by omega)
  refine s_X11_neverNow_0 ?_
  refine loopN (σ := Int × GI) (fun i s => Zm w (d + 6) mX11_neverNow 4 [some (aR (some 228)), some (aI s.1), some (aI (i : Int))] [] s.2 P) (fun i s => RN g s.2 ∧ Bt s.1 (fun j => decide (j < i) && seB T (suN T j))) T.1.2.1.length ?_ ?_ 0 (0, g) (Nat.zero_le _) ⟨⟨fun _ _ => rfl, fun _ _ => rfl⟩, Bt.zero.congr (fun i _ => by simp)⟩
  · intro ⟨b, g3⟩ ⟨r1, r3⟩
    dsimp only at r1 r3
    refine s_X11_neverNow_4 _ _ ?_
    dsimp only
    rw [r1.2 14 (by omega), h.2.2.1.1, el]
    refine ⟨fun _ g4 e4 => k g4 b r3 (h.reN r1 e4) (fun c hc => by rw [e4, up2_ne _ _ _ (by omega)]; exact r1.1 c (by omega)), fun z => absurd z (by omega)⟩
  · intro i ⟨b, g3⟩ hi ⟨r1, r3⟩ ih
    dsimp only at r1 r3
    have ei : nm (i : Int) = i := nm_id (by omega) (by omega)
    refine s_X11_neverNow_4 _ _ ?_
    dsimp only
    rw [r1.2 14 (by omega), h.2.2.1.1, el, ei]
    refine ⟨fun z => absurd z (by omega), fun _ g4 e4 => ?_⟩
    have r4 : RN g g4 := ⟨fun c hc => by rw [e4, up2_ne _ _ _ (by omega)]; exact r1.1 c hc, fun j hj => by rw [e4]; simp only [up2_ap, if_true]; rw [if_neg hj]; exact r1.2 j hj⟩
    -- a store like it, but for the rows
    have hM : EM g4 T.1.1 T.2.1 T.1.2.1 (suN T i) T.1.2.2.1 T.1.2.2.2.1 (floodB T.1.2.2.2.1) := by
      have := h.noC (g' := up2 g 228 27 (i : Int)) (k := i) (fun b hb => up2_ne _ _ _ hb) (fun j hj => by simp [up2_ap, hj]) (by simp [up2_ap])
      refine this.same (fun c hc => ?_)
      by_cases y : c = 228
      · rw [y]; funext j
        simp only [up2_ap, if_true]
        by_cases u : j = 27
        · rw [if_pos u, e4, u]; simp [up2_ap]
        · rw [if_neg u]; exact r4.2 j u
      · rw [up2_ne _ _ _ y]; exact r4.1 c (by omega)
    refine c_isSeen (o := T.1.1) hT hM (hT.suN hi) (h.1.2.2.2.1.same (r4.2 31 (by omega)) (r4.1 248 (by omega))) (fun g5 f5 => ⟨_, rfl, ?_⟩)
    have r5 : RN g g5 := ⟨fun c hc => by rw [f5 c (by omega)]; exact r4.1 c hc, fun j hj => by rw [f5 228 (by omega)]; exact r4.2 j hj⟩
    rw [nbI_0]
    refine ⟨fun z v7 e7 => ih (v7, g5) ⟨r5, ?_⟩, fun z v8 e8 => ih (v8, g5) ⟨r5, ?_⟩⟩
    · rw [e7]
      dsimp only
      rw [iOr_0 r3]
      refine r3.congr (fun j _ => ?_)
      by_cases y : j = i
      · subst y; rw [z]; simp
      · rw [show decide (j < i + 1) = decide (j < i) by apply decide_eq_decide.mpr; omega]
    · subst e8
      refine (r3.set (show i < 30 by omega)).congr (fun j _ => ?_)
      by_cases y : j = i
      · subst y
        have z : seB T (suN T j) = true := by simpa using z
        simp [z]
      · rw [show decide (j < i + 1) = decide (j < i) by apply decide_eq_decide.mpr; omega]
        simp [y]
theorem j_never (hT : GT T) (h : IM g T) (k : ∀ g' z, Bt z (nvB T) → IM g' T → FrH g g' → P (some (aI z)) g') : Zm w (d + 7) mX11_never 0 [some (aR (some 228))] [] g P := by
  refine s_X11_never_0 ?_
  refine j_reads hT h (fun g1 s1 f1 => ⟨rfl, ?_⟩)
  exact j_neverNow hT s1 (fun g2 z hz s2 f2 => ⟨z, rfl, k g2 z hz s2.1 (f1.trans f2)⟩)
/-- between: all but luckOf and luckIs as told -/
def RLk (g0 g : GI) : Prop := (∀ b, b < 228 ∨ (228 < b ∧ b < 241) ∨ b = 248 → g b = g0 b) ∧ ∀ j, j ≠ 28 → j ≠ 29 → g 228 j = g0 228 j
theorem RM.luck {g0 g : GI} {T : TT} {p v : Nat} (hT : GT T) (h : RM g0 T) (hp : p < nP T.1.1.2) (r : RLk g0 g) (e1 : g 228 28 = (p : Int)) (e2 : g 228 29 = (v : Int)) : EM g T.1.1 T.2.1 T.1.2.1 (suL T p v) T.1.2.2.1 T.1.2.2.2.1 (floodB T.1.2.2.2.1) := by
  obtain ⟨⟨⟨a1, a2, a3⟩, b1, b2⟩, c, ⟨d1, d2, d3⟩, e', f13⟩ := h.2
  have hP := hT.1.BO.2
  have f8 := r.2
  have f : ∀ b, 228 < b → b < 241 → g b = g0 b := fun b h1 h2 => r.1 b (by omega)
  refine ⟨⟨⟨by rw [f8 7 (by omega) (by omega)]; exact a1, by rw [f8 12 (by omega) (by omega)]; exact a2, by rw [f 235 (by omega) (by omega), f 236 (by omega) (by omega)]; exact a3⟩, by rw [f8 10 (by omega) (by omega)]; exact b1, by rw [f 237 (by omega) (by omega)]; exact b2⟩, ⟨by rw [f8 14 (by omega) (by omega)]; exact c.1, by rw [f 238 (by omega) (by omega)]; exact c.2.1, by rw [f8 16 (by omega) (by omega)]; exact c.2.2.1, by rw [f 239 (by omega) (by omega)]; exact c.2.2.2⟩, ⟨d1, d2.same (f8 18 (by omega) (by omega)) (f 240 (by omega) (by omega)), by rw [f8 30 (by omega) (by omega)]; exact d3⟩, ⟨by rw [f8 27 (by omega) (by omega)]; exact e'.1, by rw [e1]; omega, fun q hq => ?_⟩, by rw [f8 13 (by omega) (by omega)]; exact f13⟩
  rw [e1, e2]
  show _ = ((up1 (toldS T.1.1.2).2 p v q : Nat) : Int)
  simp only [up1_ap]
  have h28 := h.1.2.2.2.2.1.2.2.2.1
  by_cases y : q = p
  · rw [if_pos (by omega), if_pos y]
  · rw [if_neg (by omega), if_neg y, f 237 (by omega) (by omega)]
    have := e'.2.2 q hq
    rw [h28, if_neg (by omega)] at this
    exact this
theorem RM.luckBack {g0 g g' : GI} {T : TT} (h : RM g0 T) (r : RLk g0 g) (e : g' = up2 g 228 28 (-1)) : RM g' T := by
  have f8 : ∀ j, j ≠ 29 → g' 228 j = g0 228 j := fun j hj => by
    rw [e]; simp only [up2_ap, if_true]
    by_cases y : j = 28
    · rw [if_pos y, y, h.1.2.2.2.2.1.2.2.2.1]
    · rw [if_neg y]; exact r.2 j y hj
  have f : ∀ b, (228 < b ∧ b < 241) ∨ b = 248 → g' b = g0 b := fun b hb => by rw [e, up2_ne _ _ _ (by omega)]; exact r.1 b (by omega)
  refine ⟨h.1.keep (fun b _ _ _ => f b (by omega)) (fun j hj => f8 j (by omega)) (fun j _ => by rw [f 238 (by omega)]) (fun j _ => by rw [f 239 (by omega)]) (f 240 (by omega)) (f 248 (by omega)), ?_⟩
  obtain ⟨⟨⟨a1, a2, a3⟩, b1, b2⟩, c, ⟨d1, d2, d3⟩, e', f13⟩ := h.2
  have h28 := h.1.2.2.2.2.1.2.2.2.1
  refine ⟨⟨⟨by rw [f8 7 (by omega)]; exact a1, by rw [f8 12 (by omega)]; exact a2, by rw [f 235 (by omega), f 236 (by omega)]; exact a3⟩, by rw [f8 10 (by omega)]; exact b1, by rw [f 237 (by omega)]; exact b2⟩, ⟨by rw [f8 14 (by omega)]; exact c.1, by rw [f 238 (by omega)]; exact c.2.1, by rw [f8 16 (by omega)]; exact c.2.2.1, by rw [f 239 (by omega)]; exact c.2.2.2⟩, ⟨d1, d2.same (f8 18 (by omega)) (f 240 (by omega)), by rw [f8 30 (by omega)]; exact d3⟩, ⟨by rw [f8 27 (by omega)]; exact e'.1, by rw [f8 28 (by omega)]; exact e'.2.1, fun p hp => ?_⟩, by rw [f8 13 (by omega)]; exact f13⟩
  have := e'.2.2 p hp
  rw [h28, if_neg (by omega)] at this
  rw [f8 28 (by omega), h28, if_neg (by omega), f 237 (by omega)]
  exact this
theorem j_luckyOf {p : Nat} (hT : GT T) (h : RM g T) (hp : p < nP T.1.1.2) (k : ∀ g' z, Bt z (luB T p) → RM g' T → FrH g g' → P (some (aI z)) g') : Zm w (d + 6) mX11_luckyOf 0 [some (aR (some 228)), some (aI (p : Int)), none, none] [] g P := by
  have n10 : nm 10 = 10 := by decide
  refine s_X11_luckyOf_0 _ (fun g1 e1 => ?_)
  have r1 : RLk g g1 := ⟨fun c hc => by rw [e1, up2_ne _ _ _ (by omega)], fun j h1 h2 => by rw [e1]; simp [up2_ap, h1]⟩
  refine loopN (σ := Int × GI) (fun i s => Zm w (d + 6) mX11_luckyOf 9 [some (aR (some 228)), none, some (aI s.1), some (aI (i : Int))] [] s.2 P) (fun i s => RLk g s.2 ∧ s.2 228 28 = (p : Int) ∧ Bt s.1 (fun j => decide (j < i) && seB T (suL T p j))) 10 ?_ ?_ 0 (0, g1) (Nat.zero_le _) ⟨r1, by rw [e1]; simp [up2_ap], Bt.zero.congr (fun i _ => by simp)⟩
  · intro ⟨b, g3⟩ ⟨r1, r2, r3⟩
    dsimp only at r1 r2 r3
    have e10 : nm ((10 : Nat) : Int) = 10 := by decide
    refine s_X11_luckyOf_9 _ _ ?_
    dsimp only
    rw [n10, e10]
    refine ⟨fun _ g4 e4 => k g4 b r3 (h.luckBack r1 e4) (fun c hc => by rw [e4, up2_ne _ _ _ (by omega)]; exact r1.1 c (by omega)), fun z => absurd z (by omega)⟩
  · intro i ⟨b, g3⟩ hi ⟨r1, r2, r3⟩ ih
    dsimp only at r1 r2 r3
    have ei : nm (i : Int) = i := nm_id (by omega) (by omega)
    refine s_X11_luckyOf_9 _ _ ?_
    dsimp only
    rw [n10, ei]
    refine ⟨fun z => absurd z (by omega), fun _ g4 e4 => ?_⟩
    have r4 : RLk g g4 := ⟨fun c hc => by rw [e4, up2_ne _ _ _ (by omega)]; exact r1.1 c hc, fun j h1 h2 => by rw [e4]; simp only [up2_ap, if_true]; rw [if_neg h2]; exact r1.2 j h1 h2⟩
    have e28 : g4 228 28 = (p : Int) := by rw [e4]; simp only [up2_ap, if_true]; rw [if_neg (by omega)]; exact r2
    have hM := h.luck hT hp r4 e28 (show g4 228 29 = (i : Int) by rw [e4]; simp [up2_ap])
    refine c_isSeen (o := T.1.1) hT hM (hT.suL hi) (h.1.2.2.2.1.same (r4.2 31 (by omega) (by omega)) (r4.1 248 (by omega))) (fun g5 f5 => ⟨_, rfl, ?_⟩)
    have r5 : RLk g g5 := ⟨fun c hc => by rw [f5 c (by omega)]; exact r4.1 c hc, fun j h1 h2 => by rw [f5 228 (by omega)]; exact r4.2 j h1 h2⟩
    have e5 : g5 228 28 = (p : Int) := by rw [f5 228 (by omega)]; exact e28
    rw [nbI_0]
    refine ⟨fun z v7 e7 => ih (v7, g5) ⟨r5, e5, ?_⟩, fun z v8 e8 => ih (v8, g5) ⟨r5, e5, ?_⟩⟩
    · rw [e7]
      dsimp only
      rw [iOr_0 r3]
      refine r3.congr (fun j _ => ?_)
      by_cases y : j = i
      · subst y; rw [z]; simp
      · rw [show decide (j < i + 1) = decide (j < i) by apply decide_eq_decide.mpr; omega]
    · subst e8
      refine (r3.set (show i < 30 by omega)).congr (fun j _ => ?_)
      by_cases y : j = i
      · subst y
        have z : seB T (suL T p j) = true := by simpa using z
        simp [z]
      · rw [show decide (j < i + 1) = decide (j < i) by apply decide_eq_decide.mpr; omega]
        simp [y]
theorem j_lucky {x1 : Int} (hT : GT T) (h : IM g T) (e1 : nm x1 = x1) (k : ∀ g' z, Vlucky T x1 z → IM g' T → FrH g g' → P (some (aI z)) g') : Zm w (d + 7) mX11_lucky 0 [some (aR (some 228)), some (aI x1)] [] g P := by
  refine s_X11_lucky_0 _ ?_
  refine j_reads hT h (fun g1 s1 f1 => ⟨rfl, ?_⟩)
  rw [s1.2.1.2.1, nmP1 hT, inn_x e1]
  refine ⟨fun q => k g1 _ (Or.inl ⟨by omega, rfl⟩) s1.1 f1, fun q => ?_⟩
  rw [show x1 = ((x1.toNat : Nat) : Int) by omega]
  exact j_luckyOf hT s1 (by omega) (fun g2 z hz s2 f2 => ⟨z, rfl, k g2 z (Or.inr ⟨by omega, hz⟩) s2.1 (f1.trans f2)⟩)
end GS
