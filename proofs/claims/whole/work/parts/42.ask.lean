/-! whom to ask next -/
def talF (T : TT) (n p l k : Nat) : Bool := nvB T k && decide (calM T.1.1 T.2.1 (ahU T (suN T k) n) p = (l : Int))
def tal (T : TT) (n K p l : Nat) : Nat := cntK (talF T n p l) K
theorem tal_no {T : TT} {n k : Nat} (h : nvB T k = false) (p l : Nat) : tal T n (k + 1) p l = tal T n k p l := by
  show (if talF T n p l k then _ else _) = _
  unfold talF; rw [h]; rfl
theorem tal_yes {T : TT} {n k : Nat} (h : nvB T k = true) (p l : Nat) : tal T n (k + 1) p l = if calM T.1.1 T.2.1 (ahU T (suN T k) n) p = (l : Int) then tal T n k p l + 1 else tal T n k p l := by
  show (if talF T n p l k then _ else _) = _
  unfold talF; rw [h, Bool.true_and]
  by_cases q : calM T.1.1 T.2.1 (ahU T (suN T k) n) p = (l : Int)
  · rw [decide_eq_true q, if_pos q]; rfl
  · rw [decide_eq_false q, if_neg q]; rfl
/-- the tally, with the first pp of the people one further -/
def TlR (g : GI) (a : Nat) (T : TT) (n K pp : Nat) : Prop := ∀ p l, p < nP T.1.1.2 → l < 26 → g a (26 * p + l) = (tal T n (if p < pp then K + 1 else K) p l : Int)
def mxF (f : Nat → Int) : Nat → Int
  | 0 => 0
  | n + 1 => if mxF f n < f n then f n else mxF f n
def lsF (f : Nat → Int) : Nat → Int
  | 0 => -1
  | p + 1 => if lsF f p = -1 ∨ f p < f (lsF f p).toNat then (p : Int) else lsF f p
def mxA (T : TT) (n p : Nat) : Int := mxF (fun l => (tal T n T.1.2.1.length p l : Int)) 26
def askV (T : TT) (n : Nat) : Int := lsF (mxA T n) (nP T.1.1.2)
def opAsk (T : TT) (d : Int) : Int := if 0 ≤ d ∧ d < 20 then askV T (d.toNat + 1) else -2
theorem mxF_rng {f : Nat → Int} {B : Int} (hB : 0 ≤ B) (h : ∀ i, 0 ≤ f i ∧ f i ≤ B) : ∀ n, 0 ≤ mxF f n ∧ mxF f n ≤ B
  | 0 => ⟨Int.le_refl 0, hB⟩
  | n + 1 => by
    have ih := mxF_rng hB h n
    have := h n
    show 0 ≤ (if _ then _ else _ : Int) ∧ (if _ then _ else _ : Int) ≤ B
    split <;> omega
theorem lsF_rng (f : Nat → Int) : ∀ n, -1 ≤ lsF f n ∧ lsF f n < (n : Int)
  | 0 => by show (-1 : Int) ≤ -1 ∧ (-1 : Int) < ((0 : Nat) : Int); omega
  | n + 1 => by
    have ih := lsF_rng f n
    show -1 ≤ (if _ then _ else _ : Int) ∧ (if _ then _ else _ : Int) < ((n + 1 : Nat) : Int)
    split <;> omega
theorem tal_rng {T : TT} (hT : GT T) (n p l : Nat) : (0 : Int) ≤ (tal T n T.1.2.1.length p l : Int) ∧ (tal T n T.1.2.1.length p l : Int) ≤ 16 := by
  have := cntK_le (talF T n p l) T.1.2.1.length
  have := hT.1.2.2.2.2.1.1
  unfold tal; omega
theorem mxA_rng {T : TT} (hT : GT T) (n p : Nat) : 0 ≤ mxA T n p ∧ mxA T n p ≤ 16 := mxF_rng (by omega) (fun l => tal_rng hT n p l) 26
theorem TlR.step {g g' : GI} {a : Nat} {T : TT} {n k p l : Nat} (h : TlR g a T n k p) (hp : p < nP T.1.1.2) (hl : l < 26) (hk : nvB T k = true) (hc : calM T.1.1 T.2.1 (ahU T (suN T k) n) p = (l : Int)) (e : ∀ j, g' a j = if j = 26 * p + l then g a j + 1 else g a j) : TlR g' a T n k (p + 1) := by
  intro q m hq hm
  rw [e]
  have hh := h q m hq hm
  by_cases y : q = p
  · subst y
    rw [if_neg (Nat.lt_irrefl _)] at hh
    rw [if_pos (Nat.lt_succ_self _), tal_yes hk, hc]
    by_cases z : m = l
    · subst z; rw [if_pos rfl, if_pos rfl, hh]; omega
    · rw [if_neg (by omega), if_neg (by omega)]; exact hh
  · rw [if_neg (by omega), hh]
    by_cases z : q < p
    · rw [if_pos z, if_pos (by omega)]
    · rw [if_neg z, if_neg (by omega)]
theorem TlR.done {g : GI} {a : Nat} {T : TT} {n k : Nat} (h : TlR g a T n k (nP T.1.1.2)) : TlR g a T n (k + 1) 0 := by
  intro q m hq hm
  have := h q m hq hm
  rw [if_pos hq] at this
  rw [if_neg (Nat.not_lt_zero q)]; exact this
theorem TlR.skip {g : GI} {a : Nat} {T : TT} {n k : Nat} (h : TlR g a T n k 0) (hk : nvB T k = false) : TlR g a T n (k + 1) 0 := by
  intro q m hq hm
  have := h q m hq hm
  rw [if_neg (Nat.not_lt_zero q)] at this ⊢
  rw [tal_no hk]; exact this
section AK
variable {w : GX} {d : Nat} {P : PN} {g : GI} {T : TT}
theorem c_tally {n k : Nat} {zn : Int} (hT : GT T) (h : IS g T) (hk : k < T.1.2.1.length) (hc : CR g 150 T.1.1 (suN T k)) (hnv : nvB T k = true) (ht : TlR g 157 T n k 0) (hn : n ≤ 20) (hz : zn = (n : Int) - 1) (kk : ∀ g', IS g' T → FrQ g g' → CR g' 150 T.1.1 (suN T k) → TlR g' 157 T n (k + 1) 0 → P none g') : Zm w (d + 3) mX3_tallyLetters 0 [some (aR (some 149)), some (aI zn), none] [] g P := by
  have hB := hT.1.BO
  have hP := hB.2
  have hE := hT.1.EB
  refine s_X3_tallyLetters_0 _ ?_
  refine c_become isW_152 isW_31 (Or.inr (by omega)) hB (h.2.2.2.2.2.1 0 (by omega)) ((hT.1.wf 0).len hB) (fun g1 w1 f1 => ⟨rfl, ?_⟩)
  have h1 := h.keep (f1.Q (by omega) (by omega))
  have w1 : WR g1 152 T.1.1 (ahU T (suN T k) 0) := w1
  refine c_go (f := 0) (t := n) isW_152 isC_150 hE h1.En h1.2.2.2.2.1 (hc.frame isW_152 isC_150 f1) (hT.suN hk) w1 (hT.wfU _ 0) hz (by omega) hn (fun g2 w2 f2 => ⟨rfl, ?_⟩)
  have hgo : ∀ j, goM T.1.1 T.1.2.1 (suN T k) T.1.2.2.1 (floodB T.1.2.2.2.1) 0 j (ahU T (suN T k) 0) = ahU T (suN T k) j := by
    intro j
    induction j with
    | zero => rfl
    | succ j ih =>
      show dayM _ _ _ _ _ (0 + j) (goM _ _ _ _ _ 0 j _) = _
      rw [ih, Nat.zero_add]; rfl
  rw [Nat.sub_zero, hgo] at w2
  have f12 := f1.trans f2
  have wf := hT.wfU (suN T k) n
  refine loopN (σ := GI) (fun i s => Zm w (d + 3) mX3_tallyLetters 35 [some (aR (some 149)), none, some (aI (i : Int))] [] s P) (fun i s => (∀ b, b ≠ 157 → s b = g2 b) ∧ TlR s 157 T n k i) (nP T.1.1.2) ?_ ?_ 0 g2 (Nat.zero_le _) ⟨fun _ _ => rfl, fun p l hp hl => by rw [f12 157 (by omega)]; exact ht p l hp hl⟩
  · intro g3 ⟨r1, r2⟩
    have q3 : FrQ g g3 := fun b hb => by rw [r1 b (by omega)]; exact f12 b (by omega)
    have h3 := h.keep q3
    refine s_X3_tallyLetters_35 _ ?_
    rw [h3.2.2.1.2.1, nmP hT]
    refine ⟨fun _ => kk g3 h3 q3 ?_ r2.done, fun z => absurd z (by omega)⟩
    unfold CR
    rw [r1 150 (by omega), r1 (150 + 1) (by omega)]
    exact hc.frame isW_152 isC_150 f12
  · intro i g3 hi ⟨r1, r2⟩ ih
    have q3 : FrQ g g3 := fun b hb => by rw [r1 b (by omega)]; exact f12 b (by omega)
    have h3 := h.keep q3
    have ei : nm (i : Int) = i := nm_id (by omega) (by omega)
    have w3 : WR g3 152 T.1.1 (ahU T (suN T k) n) := w2.same (fun b z1 z2 => r1 b (by omega))
    have hr := calM_rng hT.1 T.2.1 wf hi
    refine s_X3_tallyLetters_35 _ ?_
    rw [h3.2.2.1.2.1, nmP hT, ei]
    refine ⟨fun z => absurd z (by omega), fun _ => ?_⟩
    refine c_letterOf isW_152 hB h3.2.2.1 w3 wf hi ⟨_, rfl, ?_⟩
    rw [h3.1.2.2.1]
    have hcl : calM T.1.1 T.2.1 (ahU T (suN T k) n) i = (((calM T.1.1 T.2.1 (ahU T (suN T k) n) i).toNat : Nat) : Int) := by omega
    generalize (calM T.1.1 T.2.1 (ahU T (suN T k) n) i).toNat = L at hcl
    rw [hcl]
    have ej : nm ((i : Int) * 26 + (L : Int)) = ((26 * i + L : Nat) : Int) := by rw [nm_id (by omega) (by omega)]; omega
    rw [ej, Int.toNat_natCast]
    refine ⟨by omega, by omega, fun g4 e4 => ?_⟩
    refine ih g4 ⟨fun b hb => by rw [e4, up2_ne _ _ _ hb]; exact r1 b hb, r2.step hi (show L < 26 by omega) hnv hcl (fun j => ?_)⟩
    rw [e4]; simp only [up2_ap, if_true]
    by_cases y : j = 26 * i + L
    · rw [if_pos y, if_pos y, y]
    · rw [if_neg y, if_neg y]
theorem c_mostAlike {n p : Nat} (hT : GT T) (hp : p < nP T.1.1.2) (ht : TlR g 157 T n T.1.2.1.length 0) (k : P (some (aI (mxA T n p))) g) : Zm w (d + 1) mX3_mostAlike 0 [some (aR (some 149)), some (aI (p : Int)), none, none] [] g P := by
  have hP := hT.1.BO.2
  have n26 : nm 26 = 26 := by decide
  refine s_X3_mostAlike_0 _ ?_
  refine loopN (σ := Unit) (fun i _ => Zm w (d + 1) mX3_mostAlike 4 [some (aR (some 149)), some (aI (p : Int)), some (aI (mxF (fun l => (tal T n T.1.2.1.length p l : Int)) i)), some (aI (i : Int))] [] g P) (fun _ _ => True) 26 ?_ ?_ 0 () (Nat.zero_le _) trivial
  · intro _ _
    have e26 : nm ((26 : Nat) : Int) = 26 := by decide
    refine s_X3_mostAlike_4 _ _ _ ?_
    rw [n26, e26]
    exact ⟨fun _ => k, fun z => absurd z (by omega)⟩
  · intro i _ hi _ ih
    have ih := ih () trivial
    have ei : nm (i : Int) = i := nm_id (by omega) (by omega)
    have ej : nm ((p : Int) * 26 + (i : Int)) = ((26 * p + i : Nat) : Int) := by rw [nm_id (by omega) (by omega)]; omega
    have hv := ht p i hp hi
    rw [if_neg (Nat.not_lt_zero p)] at hv
    have hr := tal_rng hT n p i
    have hm := mxF_rng (B := 16) (by omega) (fun l => tal_rng hT n p l) i
    refine s_X3_mostAlike_4 _ _ _ ?_
    rw [n26, ei, ej, Int.toNat_natCast, hv]
    refine ⟨fun z => absurd z (by omega), fun _ => ⟨by omega, by omega, fun v6 e6 => ?_⟩⟩
    have : v6 = mxF (fun l => (tal T n T.1.2.1.length p l : Int)) (i + 1) := by
      rw [e6]
      unfold iMax
      rw [nm_id (z := mxF (fun l => (tal T n T.1.2.1.length p l : Int)) i) (by omega) (by omega), nm_id (z := (tal T n T.1.2.1.length p i : Int)) (by omega) (by omega)]
      rfl
    rw [this]; exact ih
theorem c_nextToAsk {n : Nat} {z zn : Int} (hT : GT T) (h : IS g T) (hz : Bt z (nvB T)) (hn : n ≤ 20) (hzn : zn = (n : Int) - 1) (k : ∀ g', IS g' T → FrQ g g' → P (some (aI (askV T n))) g') : Zm w (d + 4) mX3_nextToAsk 0 [some (aR (some 149)), some (aI z), some (aI zn), none, none] [] g P := by
  have hl := hT.1.2.2.2.2.1.1
  have hP := hT.1.BO.2
  have el : nm (T.1.2.1.length : Int) = T.1.2.1.length := nm_id (by omega) (by omega)
  have m1 : nm (-1) = -1 := by decide
  refine s_X3_nextToAsk_0 _ _ ?_
  refine c_fill (l := 208) (by decide +kernel : kd0 157 = (12, 208)) (by omega) (fun g1 f1 v1 => ⟨rfl, ?_⟩)
  have q1 : FrQ g g1 := fun b hb => f1 b (by omega)
  refine c_asTold isC_150 (Or.inr rfl) hT.1 (h.keep q1).2.2.1 (fun g2 c2 f2 => ⟨rfl, ?_⟩)
  have q2 : FrQ g g2 := fun b hb => by rw [f2 b (by omega) (by omega)]; exact q1 b hb
  -- the least
  have L2 : ∀ g3 : GI, FrQ g g3 → TlR g3 157 T n T.1.2.1.length 0 → Zm w (d + 4) mX3_nextToAsk 70 [some (aR (some 149)), none, none, some (aI (-1)), some (aI 0)] [] g3 P := by
    intro g3 q3 t3
    have h3 := h.keep q3
    refine loopN (σ := Unit) (fun i _ => Zm w (d + 4) mX3_nextToAsk 70 [some (aR (some 149)), none, none, some (aI (lsF (mxA T n) i)), some (aI (i : Int))] [] g3 P) (fun _ _ => True) (nP T.1.1.2) ?_ ?_ 0 () (Nat.zero_le _) trivial
    · intro _ _
      refine s_X3_nextToAsk_70 _ _ ?_
      rw [h3.2.2.1.2.1, nmP hT]
      exact ⟨fun _ => k g3 h3 q3, fun y => absurd y (by omega)⟩
    · intro i _ hi _ ih
      have ih := ih () trivial
      have ei : nm (i : Int) = i := nm_id (by omega) (by omega)
      have hr := lsF_rng (mxA T n) i
      have er : nm (lsF (mxA T n) i) = lsF (mxA T n) i := nm_id (by omega) (by omega)
      have un : lsF (mxA T n) (i + 1) = if lsF (mxA T n) i = -1 ∨ mxA T n i < mxA T n (lsF (mxA T n) i).toNat then (i : Int) else lsF (mxA T n) i := rfl
      rw [un] at ih
      refine s_X3_nextToAsk_70 _ _ ?_
      rw [h3.2.2.1.2.1, nmP hT, ei, er, m1]
      refine ⟨fun y => absurd y (by omega), fun _ => ⟨fun y => ?_, fun y => ?_⟩⟩
      · rw [if_pos (Or.inl y)] at ih; exact ih
      · refine c_mostAlike (d := d + 2) hT hi t3 ⟨_, rfl, ?_⟩
        have hx : lsF (mxA T n) i = (((lsF (mxA T n) i).toNat : Nat) : Int) := by omega
        have go : Zm w (d + 3) mX3_mostAlike 0 [some (aR (some 149)), some (aI (((lsF (mxA T n) i).toNat : Nat) : Int)), none, none] [] g3 (fun r g5 => ∃ z6 : Int, r = some (aI z6) ∧ ((¬ nm (mxA T n i) < nm z6 → Zm w (d + 4) mX3_nextToAsk 70 [some (aR (some 149)), none, none, some (aI (lsF (mxA T n) i)), some (aI ((i : Int) + 1))] [] g5 P) ∧ (nm (mxA T n i) < nm z6 → Zm w (d + 4) mX3_nextToAsk 70 [some (aR (some 149)), none, none, some (aI (i : Int)), some (aI ((i : Int) + 1))] [] g5 P))) := by
          refine c_mostAlike (d := d + 2) hT (by omega) t3 ⟨_, rfl, ?_⟩
          have b1 := mxA_rng hT n i
          have b2 := mxA_rng hT n (lsF (mxA T n) i).toNat
          rw [nm_id (z := mxA T n i) (by omega) (by omega), nm_id (z := mxA T n (lsF (mxA T n) i).toNat) (by omega) (by omega)]
          refine ⟨fun u => ?_, fun u => ?_⟩
          · rw [if_neg (fun v => v.elim y u)] at ih; exact ih
          · rw [if_pos (Or.inr u)] at ih; exact ih
        rw [← hx] at go
        exact go
  refine loopN (σ := GI) (fun i s => Zm w (d + 4) mX3_nextToAsk 24 [some (aR (some 149)), some (aI z), some (aI zn), some (aI (i : Int)), none] [] s P) (fun i s => FrQ g s ∧ (∃ x, CR s 150 T.1.1 (x, (toldS T.1.1.2).2)) ∧ TlR s 157 T n i 0) T.1.2.1.length ?_ ?_ 0 g2 (Nat.zero_le _) ⟨q2, ⟨none, c2⟩, fun p l hp hl => ?_⟩
  · intro g3 ⟨r1, r2, r3⟩
    have h3 := h.keep r1
    refine s_X3_nextToAsk_24 _ _ _ ?_
    rw [h3.1.1.2.2.1.1, el]
    refine ⟨fun _ v2 e2 => ?_, fun y => absurd y (by omega)⟩
    subst e2
    exact L2 g3 r1 r3
  · intro i g3 hi ⟨r1, ⟨x, r2⟩, r3⟩ ih
    have h3 := h.keep r1
    have ei : nm (i : Int) = i := nm_id (by omega) (by omega)
    refine s_X3_nextToAsk_24 _ _ _ ?_
    rw [h3.1.1.2.2.1.1, el, ei, hz.test0 (show i < 30 by omega)]
    refine ⟨fun y => absurd y (by omega), fun _ => ⟨fun y => ih g3 ⟨r1, ⟨x, r2⟩, r3.skip y⟩, fun y g4 e4 => ?_⟩⟩
    have y : nvB T i = true := by simpa using y
    have r4 : FrQ g g4 := by rw [e4]; exact r1.up (by omega) (by omega)
    have c4 : CR g4 150 T.1.1 (suN T i) := by rw [e4]; exact r2.up
    refine c_tally hT (h.keep r4) hi c4 y (fun p l hp hl => by rw [e4, up2_ne _ _ _ (by omega)]; exact r3 p l hp hl) hn hzn (fun g5 h5 f5 c5 t5 => ⟨rfl, ?_⟩)
    exact ih g5 ⟨r4.trans f5, ⟨_, c5⟩, t5⟩
  · rw [f2 157 (by omega) (by omega), v1 _ (by omega), if_neg (Nat.not_lt_zero p)]; rfl
theorem k_ask {x1 : Int} (hT : GT T) (h : IC g T) (e1 : nm x1 = x1) (k : ∀ g', IS g' T → FrL g g' → P (some (aI (opAsk T x1))) g') : Zm w (d + 5) mX10_ask 0 [some (aR (some 0)), some (aI x1)] [] g P := by
  have n20 : nm 20 = 20 := by decide
  refine s_X10_ask_0 _ ?_
  refine k_settle hT h (fun g1 s1 f1 => ⟨rfl, ?_⟩)
  rw [wi_x e1 n20]
  unfold opAsk at k
  refine ⟨fun q => ?_, fun q => ?_⟩
  · have q := nn q
    rw [if_pos q] at k
    refine c_neverBits hT s1 (fun g2 z s2 f2 hz => ⟨z, rfl, ?_⟩)
    exact c_nextToAsk (n := x1.toNat + 1) hT s2 hz (by omega) (by omega) (fun g3 s3 f3 => ⟨_, rfl, k g3 s3 ((f1.trans f2.L).trans f3.L)⟩)
  · rw [if_neg q] at k; exact k g1 s1 f1
/-! the model -/
theorem j_askOf {n : Nat} {zn : Int} (hT : GT T) (h : RM g T) (hn : n ≤ 20) (hzn : zn = (n : Int) - 1) (k : ∀ g', RM g' T → FrH g g' → P (some (aI (askV T n))) g') : Zm w (d + 7) mX11_askOf 0 [some (aR (some 228)), some (aI zn), none, none, none, none, none, none] [] g P := by
  have hl := hT.1.2.2.2.2.1.1
  have hP := hT.1.BO.2
  have hN := nN_le hT.1.BO
  have hB := hT.1.BO
  have el : nm (T.1.2.1.length : Int) = T.1.2.1.length := nm_id (by omega) (by omega)
  have m1 : nm (-1) = -1 := by decide
  have n208 : nm 208 = 208 := by decide
  have n26 : nm 26 = 26 := by decide
  have n0 : nm 0 = 0 := by decide
  have n1 : nm 1 = 1 := by decide
  refine s_X11_askOf_0 _ ?_
  refine j_neverNow hT h (fun g1 z hz h1 f1 => ⟨z, rfl, ?_⟩)
  -- the least
  have L3 : ∀ g3 : GI, RM g3 T → FrH g g3 → TlR g3 249 T n T.1.2.1.length 0 → Zm w (d + 7) mX11_askOf 119 [some (aR (some 228)), none, none, some (aI (-1)), some (aI 0), some (aI 0), none, none] [] g3 P := by
    intro g3 h3 f3 t3
    refine loopN (σ := Unit) (fun i _ => Zm w (d + 7) mX11_askOf 119 [some (aR (some 228)), none, none, some (aI (lsF (mxA T n) i)), some (aI (if lsF (mxA T n) i = -1 then 0 else mxA T n (lsF (mxA T n) i).toNat)), some (aI (i : Int)), none, none] [] g3 P) (fun _ _ => True) (nP T.1.1.2) ?_ ?_ 0 () (Nat.zero_le _) trivial
    · intro _ _
      refine s_X11_askOf_119 _ _ _ ?_
      rw [h3.2.1.2.1, nmP hT]
      exact ⟨fun _ => k g3 h3 f3, fun y => absurd y (by omega)⟩
    · intro p _ hp _ ih
      have ih := ih () trivial
      have ep : nm (p : Int) = p := nm_id (by omega) (by omega)
      have hr := lsF_rng (mxA T n) p
      have er : nm (lsF (mxA T n) p) = lsF (mxA T n) p := nm_id (by omega) (by omega)
      have un : lsF (mxA T n) (p + 1) = if lsF (mxA T n) p = -1 ∨ mxA T n p < mxA T n (lsF (mxA T n) p).toNat then (p : Int) else lsF (mxA T n) p := rfl
      rw [un] at ih
      refine s_X11_askOf_119 _ _ _ ?_
      rw [h3.2.1.2.1, nmP hT, ep]
      refine ⟨fun y => absurd y (by omega), fun _ => ?_⟩
      refine loopN (σ := Unit) (fun i _ => Zm w (d + 7) mX11_askOf 134 [some (aR (some 228)), none, none, some (aI (lsF (mxA T n) p)), some (aI (if lsF (mxA T n) p = -1 then 0 else mxA T n (lsF (mxA T n) p).toNat)), some (aI (p : Int)), some (aI (mxF (fun l => (tal T n T.1.2.1.length p l : Int)) i)), some (aI (i : Int))] [] g3 P) (fun _ _ => True) 26 ?_ ?_ 0 () (Nat.zero_le _) trivial
      · intro _ _
        have e26 : nm ((26 : Nat) : Int) = 26 := by decide
        have b1 := mxA_rng hT n p
        have hmx : mxF (fun l => (tal T n T.1.2.1.length p l : Int)) 26 = mxA T n p := rfl
        rw [hmx]
        have YES : (lsF (mxA T n) p = -1 ∨ mxA T n p < mxA T n (lsF (mxA T n) p).toNat) → Zm w (d + 7) mX11_askOf 197 [some (aR (some 228)), none, none, some (aI (lsF (mxA T n) p)), some (aI (if lsF (mxA T n) p = -1 then 0 else mxA T n (lsF (mxA T n) p).toNat)), some (aI (p : Int)), some (aI (mxA T n p)), none] [] g3 P := by
          intro y
          refine s_X11_askOf_197 _ _ _ _ ?_
          refine s_X11_askOf_202 _ _ _ _ _ ?_
          rw [n1]
          refine ⟨fun u => absurd u (by omega), fun _ => ?_⟩
          refine s_X11_askOf_215 _ _ _ _ _ ?_
          rw [n1]
          refine ⟨fun u => absurd u (by omega), fun _ => ?_⟩
          rw [if_pos y] at ih
          rw [if_neg (by omega), Int.toNat_natCast] at ih
          exact ih
        refine s_X11_askOf_134 _ _ _ _ _ ?_
        rw [n26, e26, er, m1]
        refine ⟨fun _ => ⟨fun y => YES (Or.inl y), fun y => ?_⟩, fun y => absurd y (by omega)⟩
        have b2 := mxA_rng hT n (lsF (mxA T n) p).toNat
        rw [nm_id (z := mxA T n p) (by omega) (by omega)]
        rw [if_neg y] at YES ⊢
        rw [nm_id (z := mxA T n (lsF (mxA T n) p).toNat) (by omega) (by omega)]
        refine ⟨fun u => ?_, fun u => YES (Or.inr u)⟩
        refine s_X11_askOf_202 _ _ _ _ _ ?_
        rw [n0]
        refine ⟨fun _ => ?_, fun v => absurd rfl v⟩
        refine s_X11_askOf_215 _ _ _ _ _ ?_
        rw [n0]
        refine ⟨fun _ => ?_, fun v => absurd rfl v⟩
        rw [if_neg (fun v => v.elim y u), if_neg y] at ih
        exact ih
      · intro i _ hi _ ih2
        have ih2 := ih2 () trivial
        have ei : nm (i : Int) = i := nm_id (by omega) (by omega)
        have ej : nm (26 * (p : Int) + (i : Int)) = ((26 * p + i : Nat) : Int) := by rw [nm_id (by omega) (by omega)]; omega
        have hv := t3 p i hp hi
        rw [if_neg (Nat.not_lt_zero p)] at hv
        have hr1 := tal_rng hT n p i
        have hm := mxF_rng (B := 16) (by omega) (fun l => tal_rng hT n p l) i
        have un2 : mxF (fun l => (tal T n T.1.2.1.length p l : Int)) (i + 1) = if mxF (fun l => (tal T n T.1.2.1.length p l : Int)) i < (tal T n T.1.2.1.length p i : Int) then (tal T n T.1.2.1.length p i : Int) else mxF (fun l => (tal T n T.1.2.1.length p l : Int)) i := rfl
        rw [un2] at ih2
        refine s_X11_askOf_134 _ _ _ _ _ ?_
        rw [n26, ei, ej, Int.toNat_natCast, hv, nm_id (z := mxF (fun l => (tal T n T.1.2.1.length p l : Int)) i) (by omega) (by omega), nm_id (z := (tal T n T.1.2.1.length p i : Int)) (by omega) (by omega)]
        refine ⟨fun y => absurd y (by omega), fun _ => ⟨by omega, by omega, fun y => ?_, fun y v11 e11 => ?_⟩⟩
        · rw [if_neg y] at ih2; exact ih2
        · rw [if_pos y] at ih2; rw [e11]; exact ih2
  -- the tally
  have L2 : ∀ g3 : GI, RM g3 T → FrH g g3 → TlR g3 249 T n 0 0 → Zm w (d + 7) mX11_askOf 29 [some (aR (some 228)), some (aI zn), some (aI z), some (aI 0), none, none, none, none] [] g3 P := by
    intro g3 h3 f3 t3
    refine loopN (σ := GI) (fun i s => Zm w (d + 7) mX11_askOf 29 [some (aR (some 228)), some (aI zn), some (aI z), some (aI (i : Int)), none, none, none, none] [] s P) (fun i s => RN g3 s ∧ TlR s 249 T n i 0) T.1.2.1.length ?_ ?_ 0 g3 (Nat.zero_le _) ⟨⟨fun _ _ => rfl, fun _ _ => rfl⟩, t3⟩
    · intro g4 ⟨r1, r2⟩
      refine s_X11_askOf_29 _ _ _ ?_
      rw [r1.2 14 (by omega), h3.2.2.1.1, el]
      refine ⟨fun _ g5 e5 v3 e3 => ?_, fun y => absurd y (by omega)⟩
      subst e3
      exact L3 g5 (h3.reN r1 e5) (fun c hc => by rw [e5, up2_ne _ _ _ (by omega), r1.1 c (by omega)]; exact f3 c hc) (fun p l hp hl => by rw [e5, up2_ne _ _ _ (by omega)]; exact r2 p l hp hl)
    · intro i g4 hi ⟨r1, r2⟩ ih
      have ei : nm (i : Int) = i := nm_id (by omega) (by omega)
      have eb : isB z (i : Int) = bI (nvB T i) := by
        unfold isB
        rw [hz.test (show i < 30 by omega), nm_bI]
        cases nvB T i <;> rfl
      refine s_X11_askOf_29 _ _ _ ?_
      rw [r1.2 14 (by omega), h3.2.2.1.1, el, ei, eb, nbI_0]
      refine ⟨fun y => absurd y (by omega), fun _ => ⟨fun y => ih g4 ⟨r1, r2.skip y⟩, fun y g5 e5 => ?_⟩⟩
      have y : nvB T i = true := by simpa using y
      have r5 : RN g3 g5 := ⟨fun c hc => by rw [e5, up2_ne _ _ _ (by omega)]; exact r1.1 c hc, fun j hj => by rw [e5]; simp only [up2_ap, if_true]; rw [if_neg hj]; exact r1.2 j hj⟩
      have hM : EM g5 T.1.1 T.2.1 T.1.2.1 (suN T i) T.1.2.2.1 T.1.2.2.2.1 (floodB T.1.2.2.2.1) := by
        have := h3.noC (g' := up2 g3 228 27 (i : Int)) (k := i) (fun b hb => up2_ne _ _ _ hb) (fun j hj => by simp [up2_ap, hj]) (by simp [up2_ap])
        refine this.same (fun c hc => ?_)
        by_cases y : c = 228
        · rw [y]; funext j
          simp only [up2_ap, if_true]
          by_cases u : j = 27
          · rw [if_pos u, e5, u]; simp [up2_ap]
          · rw [if_neg u]; exact r5.2 j u
        · rw [up2_ne _ _ _ y]; exact r5.1 c (by omega)
      have hE : EBM T.1.1 T.2.1 T.1.2.1 (suN T i) T.1.2.2.1 := ⟨hT.EBM.1, hT.EBM.2.1, hT.EBM.2.2.1, hT.suN hi, hT.EBM.2.2.2.2⟩
      refine c_lives hzn hn hE hM (fun g6 m6 _ f6 => ⟨rfl, ?_⟩)
      have wf := hT.wfU (suN T i) n
      refine loopN (σ := GI) (fun p s => Zm w (d + 7) mX11_askOf 58 [some (aR (some 228)), some (aI zn), some (aI z), some (aI (i : Int)), some (aI (p : Int)), none, none, none] [] s P) (fun p s => (∀ b, b ≠ 249 → s b = g6 b) ∧ TlR s 249 T n i p) (nP T.1.1.2) ?_ ?_ 0 g6 (Nat.zero_le _) ⟨fun _ _ => rfl, fun p l hp hl => by rw [f6 249 (by omega), e5, up2_ne _ _ _ (by omega)]; exact r2 p l hp hl⟩
      · intro g7 ⟨s1, s2⟩
        refine s_X11_askOf_58 _ _ _ _ ?_
        rw [s1 228 (by omega), f6 228 (by omega), hM.1.2.1, nmP hT]
        refine ⟨fun _ => ih g7 ⟨⟨fun c hc => by rw [s1 c (by omega), f6 c (by omega)]; exact r5.1 c hc, fun j hj => by rw [s1 228 (by omega), f6 228 (by omega)]; exact r5.2 j hj⟩, s2.done⟩, fun u => absurd u (by omega)⟩
      · intro p g7 hp ⟨s1, s2⟩ ih2
        have ep : nm (p : Int) = p := nm_id (by omega) (by omega)
        have hh := (wf.2.2.2.2.1 p hp).1
        have hr := calM_rng hT.1 T.2.1 wf hp
        have eh : nm (((ahU T (suN T i) n).2.2.1 p : Nat) : Int) = (((ahU T (suN T i) n).2.2.1 p : Nat) : Int) := nm_id (by omega) (by omega)
        have hlt : g6 245 ((ahU T (suN T i) n).2.2.1 p) = calM T.1.1 T.2.1 (ahU T (suN T i) n) p := (m6.2.2.1 _ hh).2.2
        have hcl : calM T.1.1 T.2.1 (ahU T (suN T i) n) p = (((calM T.1.1 T.2.1 (ahU T (suN T i) n) p).toNat : Nat) : Int) := by omega
        refine s_X11_askOf_58 _ _ _ _ ?_
        rw [s1 228 (by omega), s1 246 (by omega), s1 245 (by omega), f6 228 (by omega), hM.1.2.1, nmP hT, ep, Int.toNat_natCast, m6.2.2.2 p hp, eh, Int.toNat_natCast, hlt]
        generalize (calM T.1.1 T.2.1 (ahU T (suN T i) n) p).toNat = L at hcl
        rw [hcl]
        have ej : nm (26 * (p : Int) + (L : Int)) = ((26 * p + L : Nat) : Int) := by rw [nm_id (by omega) (by omega)]; omega
        rw [ej, Int.toNat_natCast]
        refine ⟨fun u => absurd u (by omega), fun _ => ⟨by omega, by omega, by omega, by omega, by omega, by omega, fun g8 e8 => ?_⟩⟩
        refine ih2 g8 ⟨fun b hb => by rw [e8, up2_ne _ _ _ hb]; exact s1 b hb, s2.step hp (show L < 26 by omega) y hcl (fun j => ?_)⟩
        rw [e8]; simp only [up2_ap, if_true]
        by_cases u : j = 26 * p + L
        · rw [if_pos u, if_pos u, u]
        · rw [if_neg u, if_neg u]
  refine loopN (σ := GI) (fun i s => Zm w (d + 7) mX11_askOf 7 [some (aR (some 228)), some (aI zn), some (aI z), some (aI (i : Int)), none, none, none, none] [] s P) (fun i s => (∀ b, b ≠ 249 → s b = g1 b) ∧ ∀ j, j < i → s 249 j = 0) 208 ?_ ?_ 0 g1 (Nat.zero_le _) ⟨fun _ _ => rfl, fun j hj => absurd hj (Nat.not_lt_zero j)⟩
  · intro g3 ⟨r1, r2⟩
    have e208 : nm ((208 : Nat) : Int) = 208 := by decide
    refine s_X11_askOf_7 _ _ _ ?_
    rw [n208, e208]
    refine ⟨fun _ => L2 g3 (h1.keep2 (fun b hb => r1 b (by omega))) (fun b hb => by rw [r1 b (by omega)]; exact f1 b hb) (fun p l hp hl => ?_), fun y => absurd y (by omega)⟩
    rw [r2 _ (by omega), if_neg (Nat.not_lt_zero p)]; rfl
  · intro i g3 hi ⟨r1, r2⟩ ih
    have ei : nm (i : Int) = i := nm_id (by omega) (by omega)
    refine s_X11_askOf_7 _ _ _ ?_
    rw [n208, ei, Int.toNat_natCast]
    refine ⟨fun y => absurd y (by omega), fun _ => ⟨by omega, by omega, fun g4 e4 => ?_⟩⟩
    refine ih g4 ⟨fun b hb => by rw [e4, up2_ne _ _ _ hb]; exact r1 b hb, fun j hj => ?_⟩
    rw [e4]; simp only [up2_ap, if_true]
    split
    · rfl
    · exact r2 j (by omega)
theorem j_ask {x1 : Int} (hT : GT T) (h : IM g T) (e1 : nm x1 = x1) (k : ∀ g', IM g' T → FrH g g' → P (some (aI (opAsk T x1))) g') : Zm w (d + 8) mX11_ask 0 [some (aR (some 228)), some (aI x1)] [] g P := by
  refine s_X11_ask_0 _ ?_
  refine j_reads hT h (fun g1 s1 f1 => ⟨rfl, ?_⟩)
  rw [inn_x e1]
  unfold opAsk at k
  refine ⟨fun q => ?_, fun q => ?_⟩
  · rw [if_neg (by omega)] at k; exact k g1 s1.1 f1
  · rw [if_pos (by omega)] at k
    exact j_askOf (n := x1.toNat + 1) hT s1 (by omega) (by omega) (fun g2 s2 f2 => ⟨_, rfl, k g2 s2.1 (f1.trans f2)⟩)
end AK
