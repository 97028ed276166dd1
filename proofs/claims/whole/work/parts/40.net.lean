/-! nets -/
theorem catchM_sno {ca : Log2} {d a c : Nat} {m : Mu} : catchM (ca ++ [((a : Int), (c : Int))]) d (ca ++ [((a : Int), (c : Int))]).length m = if a = d then sellM c (catchM ca d ca.length m) else catchM ca d ca.length m := by
  have e := catchM_pre (d := d) (m := m) ca.length (sno_pre ca ((a : Int), (c : Int)) (0, 0))
  have hg : (ca ++ [((a : Int), (c : Int))]).getD ca.length (0, 0) = ((a : Int), (c : Int)) := by rw [sno_at, if_neg (Nat.lt_irrefl _), if_pos rfl]
  rw [sno_len]
  show (if ((ca ++ [((a : Int), (c : Int))]).getD ca.length (0, 0)).1 = (d : Int) then sellM ((ca ++ [((a : Int), (c : Int))]).getD ca.length (0, 0)).2.toNat (catchM (ca ++ [((a : Int), (c : Int))]) d ca.length m) else catchM (ca ++ [((a : Int), (c : Int))]) d ca.length m) = _
  rw [hg, e]
  by_cases q : a = d
  · rw [if_pos q, if_pos (by show (a : Int) = d; omega)]; simp
  · rw [if_neg q, if_neg (by show ¬ (a : Int) = d; omega)]
/-- a day with two caught more -/
def netD (o : Om) (cs : Log2) (su : Sup) (ca : Log2) (fl : Nat → Bool) (d a b : Nat) (m : Mu) : Mu := driftsM o.1 fl d (sellM b (sellM a (catchM ca d ca.length (crossM o cs su d cs.length m))))
theorem dayM_net {o : Om} {cs ca : Log2} {su : Sup} {fl : Nat → Bool} {d x a b : Nat} {m : Mu} : dayM o cs su ((ca ++ [((x : Int), (a : Int))]) ++ [((x : Int), (b : Int))]) fl d m = if x = d then netD o cs su ca fl d a b m else dayM o cs su ca fl d m := by
  unfold dayM netD
  rw [catchM_sno]
  by_cases q : x = d
  · rw [if_pos q, if_pos q, catchM_sno, if_pos q]
  · rw [if_neg q, if_neg q, catchM_sno, if_neg q]
theorem ahead_net {o : Om} {cs ca : Log2} {su : Sup} {fl : Nat → Bool} {x a b : Nat} : ∀ n, aheadM o cs su ((ca ++ [((x : Int), (a : Int))]) ++ [((x : Int), (b : Int))]) fl n = if n ≤ x then aheadM o cs su ca fl n else goM o cs su ca fl (x + 1) (n - (x + 1)) (netD o cs su ca fl x a b (aheadM o cs su ca fl x))
  | 0 => by rw [if_pos (Nat.zero_le _)]; rfl
  | n + 1 => by
    have ih := ahead_net (o := o) (cs := cs) (ca := ca) (su := su) (fl := fl) (x := x) (a := a) (b := b) n
    show dayM o cs su ((ca ++ [((x : Int), (a : Int))]) ++ [((x : Int), (b : Int))]) fl n (aheadM o cs su ((ca ++ [((x : Int), (a : Int))]) ++ [((x : Int), (b : Int))]) fl n) = _
    rw [dayM_net, ih]
    rcases Nat.lt_trichotomy n x with q | q | q
    · rw [if_neg (by omega), if_pos (by omega), if_pos (by omega)]; rfl
    · subst q
      rw [if_pos rfl, if_pos (Nat.le_refl _), if_neg (by omega), Nat.sub_self]; rfl
    · rw [if_neg (by omega), if_neg (by omega), if_neg (by omega), show n + 1 - (x + 1) = (n - (x + 1)) + 1 by omega]
      show _ = dayM o cs su ca fl (x + 1 + (n - (x + 1))) _
      rw [show x + 1 + (n - (x + 1)) = n by omega]
def netM (T : TT) (x a b : Nat) : Mu := goM T.1.1 T.1.2.1 (toldS T.1.1.2) T.1.2.2.1 (floodB T.1.2.2.2.1) (x + 1) (20 - (x + 1)) (netD T.1.1 T.1.2.1 (toldS T.1.1.2) T.1.2.2.1 (floodB T.1.2.2.2.1) x a b (ahS T.1 x))
def netS (T : TT) (x a b : Nat) : Int := soldM T.1.1 (netM T x a b) (nN T.1.1)
def nB (f : Nat → Nat → Int) (a : Nat) : Nat → Int × Int × Int → Int × Int × Int
  | 0, s => s
  | k + 1, s => if (nB f a k s).1 < f a (a + k) then (f a (a + k), (a : Int), ((a + k : Nat) : Int)) else nB f a k s
def nA (f : Nat → Nat → Int) (n : Nat) : Nat → Int × Int × Int
  | 0 => (-1, -1, -1)
  | a + 1 => nB f a (n - a) (nA f n a)
theorem sold_rng {o : Om} (h : oweOk o) (m : Mu) : ∀ n, n ≤ nN o → 0 ≤ soldM o m n ∧ soldM o m n ≤ 10000 * (n : Int)
  | 0, _ => ⟨Int.le_refl 0, Int.le_refl 0⟩
  | n + 1, hn => by
    have ih := sold_rng h m n (by omega)
    have := h n (by omega)
    show 0 ≤ (if m.1 n = 21 then _ else _ : Int) ∧ (if m.1 n = 21 then _ else _ : Int) ≤ _
    split <;> omega
theorem netS_rng {T : TT} (hT : GT T) (x a b : Nat) : 0 ≤ netS T x a b ∧ netS T x a b ≤ 280000 := by
  have := sold_rng hT.1.oweOk (netM T x a b) (nN T.1.1) (Nat.le_refl _)
  have := nN_le hT.1.BO
  unfold netS; omega
theorem nB_rng {f : Nat → Nat → Int} (h : ∀ a b, 0 ≤ f a b ∧ f a b ≤ 280000) {a : Nat} : ∀ k s, (-1 ≤ s.1 ∧ s.1 ≤ 280000) → -1 ≤ (nB f a k s).1 ∧ (nB f a k s).1 ≤ 280000
  | 0, s, hs => hs
  | k + 1, s, hs => by
    have ih := nB_rng h (a := a) k s hs
    have := h a (a + k)
    show -1 ≤ (if _ then _ else _ : Int × Int × Int).1 ∧ (if _ then _ else _ : Int × Int × Int).1 ≤ 280000
    by_cases q : (nB f a k s).1 < f a (a + k)
    · rw [if_pos q]; show -1 ≤ f a (a + k) ∧ f a (a + k) ≤ 280000; omega
    · rw [if_neg q]; exact ih
theorem nA_rng {f : Nat → Nat → Int} (h : ∀ a b, 0 ≤ f a b ∧ f a b ≤ 280000) {n : Nat} : ∀ a, -1 ≤ (nA f n a).1 ∧ (nA f n a).1 ≤ 280000
  | 0 => by show (-1 : Int) ≤ -1 ∧ (-1 : Int) ≤ 280000; omega
  | a + 1 => nB_rng h _ _ (nA_rng h a)
def netV (T : TT) (x : Nat) : Int × Int × Int := nA (netS T x) (nC T.1.1.1) (nC T.1.1.1)
def selI (i : Int) (s : Int × Int × Int) : Int := if i = -1 then s.1 else if i = 0 then s.2.1 else s.2.2
def opNet (T : TT) (d i : Int) : Int := if (0 ≤ d ∧ d < 20) ∧ (-1 ≤ i ∧ i ≤ 1) then selI i (netV T d.toNat) else -2
section NT
variable {w : GX} {d : Nat} {P : PN} {g : GI} {T : TT}
theorem c_keepNet {x1 x2 x3 : Int} (k : ∀ g', FrQ g g' → (∀ b, b ≠ 136 → b ≠ 148 → g' b = g b) → g' 136 6 = x1 → g' 148 0 = x2 → g' 148 1 = x3 → P none g') : Zm w d mX5_keepNet 0 [some (aR (some 136)), some (aI x1), some (aI x2), some (aI x3)] [] g P := by
  have n0 : (nm 0).toNat = 0 := by decide
  have n1 : (nm 1).toNat = 1 := by decide
  refine s_X5_keepNet_0 _ _ _ (fun g1 e1 g2 e2 g3 e3 => ?_)
  rw [n0] at e2
  rw [n1] at e3
  subst e1; subst e2; subst e3
  refine k _ (fun b hb => ?_) (fun b z1 z2 => ?_) ?_ ?_ ?_
  · rw [up2_ne _ _ _ (by omega), up2_ne _ _ _ (by omega), up2_ne _ _ _ (by omega)]
  · rw [up2_ne _ _ _ z2, up2_ne _ _ _ z2, up2_ne _ _ _ z1]
  · simp [up2_ap]
  · simp [up2_ap]
  · simp [up2_ap]
theorem c_findNet {x : Nat} (hT : GT T) (h : IS g T) (hx : x < 20) (k : ∀ g', IS g' T → FrQ g g' → g' 136 6 = (netV T x).1 → g' 148 0 = (netV T x).2.1 → g' 148 1 = (netV T x).2.2 → P none g') : Zm w (d + 3) mX5_findNet 0 [some (aR (some 136)), some (aI (x : Int)), none, none, none] [] g P := by
  have hB := hT.1.BO
  have hE := hT.1.EB
  have h0 := hT.1.h0
  have hSB := hT.1.SB
  have hC := hB.1
  have ex : nm (x : Int) = x := nm_id (by omega) (by omega)
  have hfr := fun a b => netS_rng hT x a b
  have wfx := hT.1.wf x
  refine s_X5_findNet_0 _ ?_
  refine c_keepNet (fun g1 f1 _ k1 k2 k3 => ⟨rfl, ?_⟩)
  have h1 := h.keep f1
  rw [ex, Int.toNat_natCast]
  refine ⟨by omega, by omega, ?_⟩
  refine c_become isW_137 (isW_ahead x (by omega)) (Or.inr (by omega)) hB (h1.2.2.2.2.2.1 x (by omega)) (wfx.len hB) (fun g2 w2 f2 => ⟨rfl, ?_⟩)
  have h2 := h1.keep (f2.Q (by omega) (by omega))
  refine c_crossTold isW_137 isC_28 hE h2.En h2.2.2.2.1 hSB w2 wfx (by omega) (fun g3 z3 w3 f3 _ => ⟨z3, rfl, ?_⟩)
  have h3 := h2.keep (f3.Q (by omega) (by omega))
  have wf3 := wfx.cross (su := toldS T.1.1.2) (d := x) hB h0 _ (Nat.le_refl _)
  refine c_catchTold isW_137 hE h3.En w3 wf3 (by omega) (fun g4 w4 f4 => ⟨rfl, ?_⟩)
  have wf4 := wf3.catch (ca := T.1.2.2.1) (d := x) hB T.1.2.2.1.length
  have f14 : FrQ g1 g4 := ((f2.Q (by omega) (by omega)).trans (f3.Q (by omega) (by omega))).trans (f4.Q (by omega) (by omega))
  have s14 : ∀ b, b = 136 ∨ b = 148 → g4 b = g1 b := fun b hb => by rw [f4 b (by omega), f3 b (by omega), f2 b (by omega)]
  generalize hM1 : catchM T.1.2.2.1 x T.1.2.2.1.length (crossM T.1.1 T.1.2.1 (toldS T.1.1.2) x T.1.2.1.length (ahS T.1 x)) = M1 at w4 wf4
  refine loopN (σ := GI) (fun a s => Zm w (d + 3) mX5_findNet 57 [some (aR (some 136)), some (aI (x : Int)), some (aI (a : Int)), none, none] [] s P) (fun a s => FrQ g s ∧ WR s 137 T.1.1 M1 ∧ s 136 6 = (nA (netS T x) (nC T.1.1.1) a).1 ∧ s 148 0 = (nA (netS T x) (nC T.1.1.1) a).2.1 ∧ s 148 1 = (nA (netS T x) (nC T.1.1.1) a).2.2) (nC T.1.1.1) ?_ ?_ 0 g4 (Nat.zero_le _) ⟨f1.trans f14, w4, by rw [s14 136 (by omega), k1]; rfl, by rw [s14 148 (by omega), k2]; rfl, by rw [s14 148 (by omega), k3]; rfl⟩
  · intro g5 ⟨r1, r2, r3, r4, r5⟩
    have h5 := h.keep r1
    refine s_X5_findNet_57 _ _ ?_
    rw [h5.2.2.1.1.1, nmC hT]
    exact ⟨fun _ => k g5 h5 r1 r3 r4 r5, fun z => absurd z (by omega)⟩
  · intro a g5 ha ⟨r1, r2, r3, r4, r5⟩ ih
    have h5 := h.keep r1
    have ea : nm (a : Int) = a := nm_id (by omega) (by omega)
    refine s_X5_findNet_57 _ _ ?_
    rw [h5.2.2.1.1.1, nmC hT, ea]
    refine ⟨fun z => absurd z (by omega), fun _ => ?_⟩
    have := loopN (σ := GI) (fun b s => Zm w (d + 3) mX5_findNet 73 [some (aR (some 136)), some (aI (x : Int)), some (aI (a : Int)), some (aI ((a + b : Nat) : Int)), none] [] s P) (fun b s => FrQ g s ∧ WR s 137 T.1.1 M1 ∧ s 136 6 = (nB (netS T x) a b (nA (netS T x) (nC T.1.1.1) a)).1 ∧ s 148 0 = (nB (netS T x) a b (nA (netS T x) (nC T.1.1.1) a)).2.1 ∧ s 148 1 = (nB (netS T x) a b (nA (netS T x) (nC T.1.1.1) a)).2.2) (nC T.1.1.1 - a) ?_ ?_ 0 g5 (Nat.zero_le _) ⟨r1, r2, r3, r4, r5⟩
    · exact this
    · intro g6 ⟨t1, t2, t3, t4, t5⟩
      have h6 := h.keep t1
      have eb : nm ((a + (nC T.1.1.1 - a) : Nat) : Int) = nC T.1.1.1 := by rw [nm_id (by omega) (by omega)]; omega
      refine s_X5_findNet_73 _ _ _ ?_
      rw [h6.2.2.1.1.1, nmC hT, eb]
      exact ⟨fun _ => ih g6 ⟨t1, t2, t3, t4, t5⟩, fun z => absurd z (by omega)⟩
    · intro b g6 hb ⟨t1, t2, t3, t4, t5⟩ ih2
      have h6 := h.keep t1
      have eb : nm ((a + b : Nat) : Int) = ((a + b : Nat) : Int) := nm_id (by omega) (by omega)
      refine s_X5_findNet_73 _ _ _ ?_
      rw [h6.2.2.1.1.1, nmC hT, eb]
      refine ⟨fun z => absurd z (by omega), fun _ => ?_⟩
      refine c_become isW_142 isW_137 (Or.inr (by omega)) hB t2 (wf4.len hB) (fun g7 w7 f7 => ⟨rfl, ?_⟩)
      refine c_sell isW_142 hB w7 wf4 (by omega) (fun g8 w8 f8 => ⟨rfl, ?_⟩)
      have wf8 := wf4.sell hB a
      refine c_sell isW_142 hB w8 wf8 (by omega) (fun g9 w9 f9 => ⟨rfl, ?_⟩)
      have wf9 := wf8.sell hB (a + b)
      have f69 : FrQ g6 g9 := ((f7.Q (by omega) (by omega)).trans (f8.Q (by omega) (by omega))).trans (f9.Q (by omega) (by omega))
      have h9 := h6.keep f69
      refine c_driftTold isW_142 hB h9.2.2.1 h9.2.2.2.2.1 w9 wf9 (by omega) (fun g10 w10 f10 => ⟨rfl, ?_⟩)
      have wf10 := wf9.drifts (fl := floodB T.1.2.2.2.1) (d := x) hB
      have h10 := h9.keep (f10.Q (by omega) (by omega))
      rw [show (x : Int) + 1 = ((x + 1 : Nat) : Int) by omega]
      refine c_go (t := 20) isW_142 isC_28 hE h10.En h10.2.2.2.2.1 h10.2.2.2.1 hSB w10 wf10 (by omega) (by omega) (by omega) (fun g11 w11 f11 => ⟨rfl, ?_⟩)
      have h11 := h10.keep (f11.Q (by omega) (by omega))
      have wf11 := wf10.go (su := toldS T.1.1.2) (cs := T.1.2.1) (ca := T.1.2.2.1) (fl := floodB T.1.2.2.2.1) (f := x + 1) hB h0 (20 - (x + 1))
      have hne : goM T.1.1 T.1.2.1 (toldS T.1.1.2) T.1.2.2.1 (floodB T.1.2.2.2.1) (x + 1) (20 - (x + 1)) (driftsM T.1.1.1 (floodB T.1.2.2.2.1) x (sellM (a + b) (sellM a M1))) = netM T x a (a + b) := by
        unfold netM netD; rw [hM1]
      rw [hne] at w11 wf11
      refine c_owesSold isW_142 hB h11.2.2.1 w11 wf11 ⟨_, rfl, ?_⟩
      have f611 : FrQ g6 g11 := (f69.trans (f10.Q (by omega) (by omega))).trans (f11.Q (by omega) (by omega))
      have s611 : ∀ c, c = 136 ∨ c = 148 → g11 c = g6 c := fun c hc => by rw [f11 c (by omega), f10 c (by omega), f9 c (by omega), f8 c (by omega), f7 c (by omega)]
      have w137 : WR g11 137 T.1.1 M1 := ((((t2.frame f7 (Or.inl (by omega))).frame f8 (Or.inl (by omega))).frame f9 (Or.inl (by omega))).frame f10 (Or.inl (by omega))).frame f11 (Or.inl (by omega))
      have hr := nB_rng hfr (a := a) b _ (nA_rng hfr (n := nC T.1.1.1) a)
      have e1 : nm (soldM T.1.1 (netM T x a (a + b)) (nN T.1.1)) = netS T x a (a + b) := by
        have := hfr a (a + b)
        show nm (netS T x a (a + b)) = _
        exact nm_id (by omega) (by omega)
      rw [s611 136 (by omega), t3, e1, nm_id (z := (nB (netS T x) a b (nA (netS T x) (nC T.1.1.1) a)).1) (by omega) (by omega)]
      have un : nB (netS T x) a (b + 1) (nA (netS T x) (nC T.1.1.1) a) = if (nB (netS T x) a b (nA (netS T x) (nC T.1.1.1) a)).1 < netS T x a (a + b) then (netS T x a (a + b), (a : Int), ((a + b : Nat) : Int)) else nB (netS T x) a b (nA (netS T x) (nC T.1.1.1) a) := rfl
      rw [un] at ih2
      refine ⟨fun z => ?_, fun z => ?_⟩
      · rw [if_neg z] at ih2
        exact ih2 g11 ⟨t1.trans f611, w137, by rw [s611 136 (by omega)]; exact t3, by rw [s611 148 (by omega)]; exact t4, by rw [s611 148 (by omega)]; exact t5⟩
      · rw [if_pos z] at ih2
        refine c_keepNet (fun g12 f12 s12 y1 y2 y3 => ⟨rfl, ?_⟩)
        exact ih2 g12 ⟨(t1.trans f611).trans f12, w137.same (fun c z1 z2 => s12 c (by omega) (by omega)), y1, y2, y3⟩
theorem k_net {x1 x2 : Int} (hT : GT T) (h : IC g T) (e1 : nm x1 = x1) (e2 : nm x2 = x2) (k : ∀ g', IS g' T → FrL g g' → P (some (aI (opNet T x1 x2))) g') : Zm w (d + 5) mX10_net 0 [some (aR (some 0)), some (aI x1), some (aI x2)] [] g P := by
  have n20 : nm 20 = 20 := by decide
  have m1 : nm (-1) = -1 := by decide
  refine s_X10_net_0 _ _ ?_
  refine k_settle hT h (fun g1 s1 f1 => ⟨rfl, ?_⟩)
  rw [wi_x e1 n20, nm_n12, n12_0, e2, m1]
  unfold opNet at k
  refine ⟨fun q => ?_, fun q1 => ⟨fun q2 => ?_, fun q => ?_⟩⟩
  · rw [if_neg (fun z => q z.1)] at k; exact k g1 s1 f1
  · have q1 := nn q1
    have q2 := nn q2
    rw [if_pos ⟨q1, by omega⟩] at k
    rw [show x1 = ((x1.toNat : Nat) : Int) by omega]
    refine c_findNet (d := d + 1) hT s1 (by omega) (fun g2 s2 f2 y1 y2 y3 => ⟨rfl, ?_⟩)
    have k := k g2 s2 (f1.trans f2.L)
    unfold selI at k
    rw [y1]
    refine ⟨fun u => ⟨by omega, by omega, ?_⟩, fun u => ?_⟩
    · rw [if_neg u] at k
      by_cases v : x2 = 0
      · rw [if_pos v] at k; rw [v, show (0 : Int).toNat = 0 from rfl, y2]; exact k
      · rw [if_neg v] at k; rw [show x2 = 1 by omega, show (1 : Int).toNat = 1 from rfl, y3]; exact k
    · rw [if_pos u] at k; exact k
  · rw [if_neg (fun z => q (by omega))] at k; exact k g1 s1 f1
/-! the model -/
theorem c_soldNow {m : Mu} (hT : GT T) (hw : WM g T.1.1) (hm : MW g T.1.1 T.2.1 m) (hf : Wf T.1.1 m) (k : P (some (aI (soldM T.1.1 m (nN T.1.1)))) g) : Zm w (d + 1) mX11_soldNow 0 [some (aR (some 228)), none, none] [] g P := by
  have hN := nN_le hT.1.BO
  have n21 : nm 21 = 21 := by decide
  refine s_X11_soldNow_0 ?_
  refine loopN (σ := Unit) (fun i _ => Zm w (d + 1) mX11_soldNow 4 [some (aR (some 228)), some (aI (soldM T.1.1 m i)), some (aI (i : Int))] [] g P) (fun _ _ => True) (nN T.1.1) ?_ ?_ 0 () (Nat.zero_le _) trivial
  · intro _ _
    refine s_X11_soldNow_4 _ _ ?_
    rw [hw.1.2.1, hw.2.1, nN_int, nmN hT]
    exact ⟨fun _ => k, fun z => absurd z (by omega)⟩
  · intro i _ hi _ ih
    have ih := ih () trivial
    have ei : nm (i : Int) = i := nm_id (by omega) (by omega)
    have h30 := hf.2.2.2.2.2.2 i hi
    have ew : nm ((m.1 i : Nat) : Int) = ((m.1 i : Nat) : Int) := nm_id (by omega) (by omega)
    have un : soldM T.1.1 m (i + 1) = if m.1 i = 21 then soldM T.1.1 m i + oweF T.1.1 i else soldM T.1.1 m i := rfl
    rw [un] at ih
    refine s_X11_soldNow_4 _ _ ?_
    rw [hw.1.2.1, hw.2.1, nN_int, nmN hT, ei, Int.toNat_natCast, (hm.2.2.1 i hi).1, ew, n21]
    refine ⟨fun z => absurd z (by omega), fun _ => ⟨by omega, by omega, fun z v7 e7 => ?_, fun z => ?_⟩⟩
    · rw [if_neg (by omega)] at ih
      rw [e7, Int.add_zero]; exact ih
    · rw [if_pos (by omega)] at ih
      refine c_owesBy hT hw hi ⟨_, rfl, fun v10 e10 => ?_⟩
      rw [e10]; exact ih
theorem EM.snoC {g g' : GI} {o : Om} {wear : Int} {cs ca : Log2} {su : Sup} {fs : List Int} {fl : Nat → Bool} {x1 x2 : Int} (h : EM g o wear cs su ca fs fl) (f : ∀ b, b ≠ 228 → b ≠ 239 → g' b = g b) (f8 : ∀ j, j ≠ 16 → g' 228 j = g 228 j) (w1 : g' 228 16 = (ca.length : Int) + 1) (w2 : ∀ j, j < 2 * ca.length → g' 239 j = g 239 j) (w3 : g' 239 (2 * ca.length) = x1) (w4 : g' 239 (2 * ca.length + 1) = x2) : EM g' o wear cs su (ca ++ [(x1, x2)]) fs fl := by
  obtain ⟨⟨⟨a1, a2, a3⟩, b1, b2⟩, c, ⟨d1, d2, d3⟩, e, f13⟩ := h
  refine ⟨⟨⟨by rw [f8 7 (by omega)]; exact a1, by rw [f8 12 (by omega)]; exact a2, by rw [f 235 (by omega) (by omega), f 236 (by omega) (by omega)]; exact a3⟩, by rw [f8 10 (by omega)]; exact b1, by rw [f 237 (by omega) (by omega)]; exact b2⟩, ⟨by rw [f8 14 (by omega)]; exact c.1, by rw [f 238 (by omega) (by omega)]; exact c.2.1, by rw [w1, sno_len]; omega, lm_sno c.2.2.2 w2 w3 w4⟩, ⟨d1, d2.same (f8 18 (by omega)) (f 240 (by omega) (by omega)), by rw [f8 30 (by omega)]; exact d3⟩, ⟨by rw [f8 27 (by omega)]; exact e.1, by rw [f8 28 (by omega)]; exact e.2.1, fun p hp => by rw [f8 28 (by omega), f8 29 (by omega), f 237 (by omega) (by omega)]; exact e.2.2 p hp⟩, by rw [f8 13 (by omega)]; exact f13⟩
theorem RM.backC {g g' : GI} {T : TT} (h : RM g T) (f : ∀ b, b < 228 ∨ (228 < b ∧ b < 239) ∨ b = 240 ∨ b = 248 → g' b = g b) (f8 : ∀ j, g' 228 j = g 228 j) (f239 : ∀ j, j < 2 * T.1.2.2.1.length → g' 239 j = g 239 j) : RM g' T := by
  have e8 : g' 228 = g 228 := funext f8
  refine ⟨h.1.keep (fun b _ _ _ => f b (by omega)) (fun j _ => f8 j) (fun j _ => by rw [f 238 (by omega)]) f239 (f 240 (by omega)) (f 248 (by omega)), ?_⟩
  obtain ⟨⟨⟨a1, a2, a3⟩, b1, b2⟩, c, ⟨d1, d2, d3⟩, e, f13⟩ := h.2
  refine ⟨⟨⟨by rw [e8]; exact a1, by rw [e8]; exact a2, by rw [f 235 (by omega), f 236 (by omega)]; exact a3⟩, by rw [e8]; exact b1, by rw [f 237 (by omega)]; exact b2⟩, ⟨by rw [e8]; exact c.1, by rw [f 238 (by omega)]; exact c.2.1, by rw [e8]; exact c.2.2.1, fun k hk => by rw [f239 _ (by omega), f239 _ (by omega)]; exact c.2.2.2 k hk⟩, ⟨d1, d2.same (f8 18) (f 240 (by omega)), by rw [e8]; exact d3⟩, ⟨by rw [e8]; exact e.1, by rw [e8]; exact e.2.1, fun p hp => by rw [e8, f 237 (by omega)]; exact e.2.2 p hp⟩, by rw [e8]; exact f13⟩
theorem EBM.snoC {o : Om} {wear : Int} {cs ca : Log2} {su : Sup} {a p : Nat} (h : EBM o wear cs su ca) (hl : ca.length < 10) (ha : a < 20) (hp : p < 20) : EBM o wear cs su (ca ++ [((a : Int), (p : Int))]) :=
  ⟨h.1, h.2.1, h.2.2.1.sno hl (by omega) (by omega), h.2.2.2⟩
theorem j_netOf {x : Nat} {i : Int} (hT : GT T) (h : RM g T) (hx : x < 20) (ei : nm i = i) (k : ∀ g', RM g' T → FrH g g' → P (some (aI (selI i (netV T x)))) g') : Zm w (d + 4) mX11_netOf 0 [some (aR (some 228)), some (aI (x : Int)), some (aI i), none, none, none, none, none, none, none] [] g P := by
  have hE := hT.EBM
  have hB := hT.1.BO
  have hC := hB.1
  have hl := hT.1.2.2.2.2.2.1.1
  have m1 : nm (-1) = -1 := by decide
  have hfr := fun a b => netS_rng hT x a b
  refine s_X11_netOf_0 _ _ (fun v1 e1 v2 e2 v3 e3 v4 e4 => ?_)
  rw [h.2.2.1.2.2.1] at e1
  subst e1; subst e2; subst e3; subst e4
  refine loopN (σ := GI) (fun a s => Zm w (d + 4) mX11_netOf 17 [some (aR (some 228)), some (aI (x : Int)), some (aI i), some (aI (T.1.2.2.1.length : Int)), some (aI (nA (netS T x) (nC T.1.1.1) a).1), some (aI (nA (netS T x) (nC T.1.1.1) a).2.1), some (aI (nA (netS T x) (nC T.1.1.1) a).2.2), some (aI (a : Int)), none, none] [] s P) (fun _ s => RM s T ∧ FrH g s) (nC T.1.1.1) ?_ ?_ 0 g (Nat.zero_le _) ⟨h, FrH.rfl⟩
  · intro g3 ⟨r1, r2⟩
    refine s_X11_netOf_17 _ _ _ _ _ _ _ ?_
    rw [r1.2.1.1.1, nmC hT, ei, m1]
    have k := k g3 r1 r2
    unfold selI netV at k
    refine ⟨fun _ => ⟨fun u => ⟨fun v => ?_, fun v => ?_⟩, fun u => ?_⟩, fun z => absurd z (by omega)⟩
    · rw [if_neg u, if_neg v] at k; exact k
    · rw [if_neg u, if_pos v] at k; exact k
    · rw [if_pos u] at k; exact k
  · intro a g3 ha ⟨r1, r2⟩ ih
    have ea : nm (a : Int) = a := nm_id (by omega) (by omega)
    refine s_X11_netOf_17 _ _ _ _ _ _ _ ?_
    rw [r1.2.1.1.1, nmC hT, ea]
    refine ⟨fun z => absurd z (by omega), fun _ => ?_⟩
    have := loopN (σ := GI) (fun b s => Zm w (d + 4) mX11_netOf 30 [some (aR (some 228)), some (aI (x : Int)), some (aI i), some (aI (T.1.2.2.1.length : Int)), some (aI (nB (netS T x) a b (nA (netS T x) (nC T.1.1.1) a)).1), some (aI (nB (netS T x) a b (nA (netS T x) (nC T.1.1.1) a)).2.1), some (aI (nB (netS T x) a b (nA (netS T x) (nC T.1.1.1) a)).2.2), some (aI (a : Int)), some (aI ((a + b : Nat) : Int)), none] [] s P) (fun _ s => RM s T ∧ FrH g s) (nC T.1.1.1 - a) ?_ ?_ 0 g3 (Nat.zero_le _) ⟨r1, r2⟩
    · exact this
    · intro g4 ⟨t1, t2⟩
      have eb : nm ((a + (nC T.1.1.1 - a) : Nat) : Int) = nC T.1.1.1 := by rw [nm_id (by omega) (by omega)]; omega
      refine s_X11_netOf_30 _ _ _ _ _ _ _ _ ?_
      rw [t1.2.1.1.1, nmC hT, eb]
      exact ⟨fun _ => ih g4 ⟨t1, t2⟩, fun z => absurd z (by omega)⟩
    · intro b g4 hb ⟨t1, t2⟩ ih2
      have eb : nm ((a + b : Nat) : Int) = ((a + b : Nat) : Int) := nm_id (by omega) (by omega)
      refine s_X11_netOf_30 _ _ _ _ _ _ _ _ ?_
      rw [t1.2.1.1.1, nmC hT, eb]
      refine ⟨fun z => absurd z (by omega), fun _ => ?_⟩
      refine c_catchesM t1.2.2.1.2.2.1 (by omega) (fun g5 p1 p2 p3 p4 p5 p6 => ⟨rfl, ?_⟩)
      have em5 := t1.2.snoC p1 p2 p3 p4 p5 p6
      refine c_catchesM (n := (T.1.2.2.1 ++ [((x : Int), (a : Int))]).length) em5.2.1.2.2.1 (by rw [sno_len]; omega) (fun g6 q1 q2 q3 q4 q5 q6 => ⟨rfl, ?_⟩)
      have em6 := em5.snoC q1 q2 q3 q4 q5 q6
      have hE6 := (hE.snoC (a := x) (p := a) (by omega) (by omega) (by omega)).snoC (a := x) (p := a + b) (by rw [sno_len]; omega) (by omega) (by omega)
      refine c_lives (n := 20) (by omega) (by omega) hE6 em6 (fun g7 m7 _ f7 => ⟨rfl, fun g8 e8 => ?_⟩)
      rw [ahead_net, if_neg (by omega)] at m7
      have f78 : ∀ b, b ≠ 228 → g8 b = g7 b := fun b hb => by rw [e8, up2_ne _ _ _ hb]
      have h8 : RM g8 T := by
        refine t1.backC (fun b hb => by rw [f78 b (by omega), f7 b (by omega), q1 b (by omega) (by omega), p1 b (by omega) (by omega)]) (fun j => ?_) (fun j hj => ?_)
        · rw [e8]; simp only [up2_ap, if_true]
          by_cases y : j = 16
          · rw [if_pos y, y, t1.2.2.1.2.2.1]
          · rw [if_neg y, f7 228 (by omega), q2 j y, p2 j y]
        · rw [f78 _ (by omega), f7 239 (by omega), q4 j (by rw [sno_len]; omega), p4 j hj]
      have fr8 : FrH g g8 := fun b hb => by rw [f78 b (by omega), f7 b (by omega), q1 b (by omega) (by omega), p1 b (by omega) (by omega)]; exact t2 b hb
      have m8 : MW g8 T.1.1 T.2.1 (netM T x a (a + b)) := m7.same (fun b z1 z2 => f78 b (by omega))
      have h0 := hT.1.h0
      have wf8 : Wf T.1.1 (netM T x a (a + b)) := by
        unfold netM netD
        exact ((((((hT.1.wf x).cross hB h0 _ (Nat.le_refl _)).catch hB _).sell hB a).sell hB (a + b)).drifts hB).go hB h0 _
      refine c_soldNow (d := d + 2) hT h8.2.1 m8 wf8 ⟨_, rfl, ?_⟩
      have hr := nB_rng hfr (a := a) b _ (nA_rng hfr (n := nC T.1.1.1) a)
      have e1 : nm (soldM T.1.1 (netM T x a (a + b)) (nN T.1.1)) = netS T x a (a + b) := by
        have := hfr a (a + b)
        show nm (netS T x a (a + b)) = _
        exact nm_id (by omega) (by omega)
      have e2 : nm (nB (netS T x) a b (nA (netS T x) (nC T.1.1.1) a)).1 = (nB (netS T x) a b (nA (netS T x) (nC T.1.1.1) a)).1 := nm_id (by omega) (by omega)
      have un : nB (netS T x) a (b + 1) (nA (netS T x) (nC T.1.1.1) a) = if (nB (netS T x) a b (nA (netS T x) (nC T.1.1.1) a)).1 < netS T x a (a + b) then (netS T x a (a + b), (a : Int), ((a + b : Nat) : Int)) else nB (netS T x) a b (nA (netS T x) (nC T.1.1.1) a) := rfl
      have ih2 := ih2 g8 ⟨h8, fr8⟩
      rw [un] at ih2
      rw [e1, e2]
      refine ⟨fun z => ?_, fun z => ?_⟩
      · rw [if_neg z] at ih2
        refine s_X11_netOf_84 _ _ _ _ _ _ _ _ _ ?_
        rw [e1, e2]
        refine ⟨fun _ => ?_, fun y => absurd y z⟩
        refine s_X11_netOf_100 _ _ _ _ _ _ _ _ _ ?_
        rw [e1, e2]
        exact ⟨fun _ => ih2, fun y => absurd y z⟩
      · rw [if_pos z] at ih2
        refine s_X11_netOf_84 _ _ _ _ _ _ _ _ _ ?_
        rw [e1, e2]
        refine ⟨fun y => absurd z y, fun _ => ?_⟩
        refine s_X11_netOf_100 _ _ _ _ _ _ _ _ _ ?_
        rw [e1, e2]
        exact ⟨fun y => absurd z y, fun _ => ih2⟩
theorem j_net {x1 x2 : Int} (hT : GT T) (h : IM g T) (e1 : nm x1 = x1) (e2 : nm x2 = x2) (k : ∀ g', IM g' T → FrH g g' → P (some (aI (opNet T x1 x2))) g') : Zm w (d + 5) mX11_net 0 [some (aR (some 228)), some (aI x1), some (aI x2)] [] g P := by
  refine s_X11_net_0 _ _ ?_
  refine j_reads hT h (fun g1 s1 f1 => ⟨rfl, ?_⟩)
  rw [inn_x e1, lin_x e2 (by decide) (by decide)]
  unfold opNet at k
  refine ⟨fun q => ?_, fun q1 => ⟨fun q => ?_, fun q2 => ?_⟩⟩
  · rw [if_neg (by omega)] at k; exact k g1 s1.1 f1
  · rw [if_neg (by omega)] at k; exact k g1 s1.1 f1
  · rw [if_pos (by omega)] at k
    rw [show x1 = ((x1.toNat : Nat) : Int) by omega]
    exact j_netOf hT s1 (by omega) e2 (fun g2 s2 f2 => ⟨_, rfl, k g2 s2.1 (f1.trans f2)⟩)
end NT
