/-! floods by chance -/
theorem nm_nat {k : Nat} (h : k < 2147483648) : nm (k : Int) = k := nm_id (by omega) (by omega)
theorem nml_nat {k : Nat} (h : k < 9223372036854775808) : nml (k : Int) = k := nml_id (by omega) (by omega)
theorem lDiv_nat {a b : Nat} (ha : a < 9223372036854775808) (h0 : 0 < b) (hb : b < 9223372036854775808) : lDiv (a : Int) (b : Int) = ((a / b : Nat) : Int) := by
  unfold lDiv
  rw [ofL_nat, ofL_nat, pk_lDiv (by omega) h0 (by omega)]
  exact lg_ofNat_toInt (by have := Nat.div_le_self a b; omega)
theorem lRem_nat {a b : Nat} (ha : a < 9223372036854775808) (h0 : 0 < b) (hb : b < 9223372036854775808) : lRem (a : Int) (b : Int) = ((a % b : Nat) : Int) := by
  unfold lRem
  rw [ofL_nat, ofL_nat, pk_lRem (by omega) h0 (by omega)]
  exact lg_ofNat_toInt (by have := Nat.mod_lt a h0; omega)
def smN (F : Nat → Nat) : Nat → Nat
  | 0 => 0
  | n + 1 => smN F n + F n
theorem smN_two (F : Nat → Nat) : ∀ n, smN F (2 * n) = smN (fun t => F (2 * t) + F (2 * t + 1)) n
  | 0 => rfl
  | n + 1 => by
    have ih := smN_two F n
    show smN F (2 * n + 1 + 1) = _
    show smN F (2 * n) + F (2 * n) + F (2 * n + 1) = smN (fun t => F (2 * t) + F (2 * t + 1)) n + (F (2 * n) + F (2 * n + 1))
    omega
theorem smN_lin (A B : Nat → Nat) (a b : Nat) : ∀ n, smN (fun t => a * A t + b * B t) n = a * smN A n + b * smN B n
  | 0 => by simp [smN]
  | n + 1 => by
    have ih := smN_lin A B a b n
    show smN (fun t => a * A t + b * B t) n + (a * A n + b * B n) = a * (smN A n + A n) + b * (smN B n + B n)
    rw [ih, Nat.mul_add, Nat.mul_add]; omega
theorem smN_congr {F G : Nat → Nat} : ∀ n, (∀ i, i < n → F i = G i) → smN F n = smN G n
  | 0, _ => rfl
  | n + 1, h => by
    show smN F n + F n = smN G n + G n
    rw [smN_congr n (fun i hi => h i (by omega)), h n (by omega)]
theorem goM_front {o : Om} {cs ca : Log2} {su : Sup} {fl : Nat → Bool} {f : Nat} : ∀ r m, goM o cs su ca fl f (r + 1) m = goM o cs su ca fl (f + 1) r (dayM o cs su ca fl f m)
  | 0, m => rfl
  | r + 1, m => by
    have ih := goM_front (o := o) (cs := cs) (ca := ca) (su := su) (fl := fl) (f := f) r m
    show dayM o cs su ca fl (f + (r + 1)) (goM o cs su ca fl f (r + 1) m) = dayM o cs su ca fl (f + 1 + r) (goM o cs su ca fl (f + 1) r (dayM o cs su ca fl f m))
    rw [ih, show f + (r + 1) = f + 1 + r by omega]
theorem goM_fl {o : Om} {cs ca : Log2} {su : Sup} {fl fl' : Nat → Bool} {f : Nat} {m : Mu} : ∀ n, (∀ d, f ≤ d → d < f + n → fl d = fl' d) → goM o cs su ca fl f n m = goM o cs su ca fl' f n m
  | 0, _ => rfl
  | n + 1, h => by
    show dayM o cs su ca fl (f + n) (goM o cs su ca fl f n m) = dayM o cs su ca fl' (f + n) (goM o cs su ca fl' f n m)
    rw [goM_fl n (fun d h1 h2 => h d h1 (by omega))]
    unfold dayM driftsM
    rw [h (f + n) (by omega) (by omega)]
theorem goM_ah {o : Om} {cs ca : Log2} {su : Sup} {fl : Nat → Bool} : ∀ n, goM o cs su ca fl 0 n (beginM o) = aheadM o cs su ca fl n
  | 0 => rfl
  | n + 1 => by
    show dayM o cs su ca fl (0 + n) (goM o cs su ca fl 0 n (beginM o)) = dayM o cs su ca fl n (aheadM o cs su ca fl n)
    rw [goM_ah n, Nat.zero_add]
/-- a day without a flood -/
def dyA (T : TT) (j : Nat) (m : Mu) : Mu := driftM T.1.1.1 j (catchM T.1.2.2.1 j T.1.2.2.1.length (crossM T.1.1 T.1.2.1 (toldS T.1.1.2) j T.1.2.1.length m))
def wyW (T : TT) (c p : Nat) (l : Int) : Nat → Nat → Mu → Nat
  | 0, _, m => if calM T.1.1 T.2.1 m p = l then 1 else 0
  | r + 1, j, m => (16 - c) * wyW T c p l r (j + 1) (dyA T j m) + c * wyW T c p l r (j + 1) (driftM T.1.1.1 j (dyA T j m))
def wtW (c : Nat) : Nat → Nat → Nat
  | 0, _ => 1
  | r + 1, s => (if s % 2 = 1 then c else 16 - c) * wtW c r (s / 2)
def wtP (c s : Nat) : Nat → Nat
  | 0 => 1
  | i + 1 => wtP c s i * (if s.testBit i then c else 16 - c)
theorem wtP_front (c s : Nat) : ∀ r, wtP c s (r + 1) = (if s % 2 = 1 then c else 16 - c) * wtP c (s / 2) r
  | 0 => by
    show 1 * (if s.testBit 0 then c else 16 - c) = _ * 1
    rw [Nat.testBit_zero, Nat.one_mul, Nat.mul_one]
    by_cases q : s % 2 = 1
    · rw [if_pos q, decide_eq_true q]; rfl
    · rw [if_neg q, decide_eq_false q]; rfl
  | r + 1 => by
    have ih := wtP_front c s r
    show wtP c s (r + 1) * (if s.testBit (r + 1) then c else 16 - c) = _ * (wtP c (s / 2) r * (if (s / 2).testBit r then c else 16 - c))
    rw [ih, Nat.testBit_add_one, Nat.mul_assoc]
theorem wtP_W (c : Nat) : ∀ r s, wtP c s r = wtW c r s
  | 0, _ => rfl
  | r + 1, s => by rw [wtP_front, wtP_W c r (s / 2)]; rfl
/-- all skies of n days -/
def skF (T : TT) (c p : Nat) (l : Int) (j r : Nat) (m : Mu) (s : Nat) : Nat := if calM T.1.1 T.2.1 (goM T.1.1 T.1.2.1 (toldS T.1.1.2) T.1.2.2.1 (fun d => s.testBit (d - j)) j r m) p = l then wtW c r s else 0
theorem wy_sum (T : TT) (c p : Nat) (l : Int) : ∀ r j m, wyW T c p l r j m = smN (skF T c p l j r m) (2 ^ r)
  | 0, j, m => by
    show (if calM T.1.1 T.2.1 m p = l then 1 else 0) = 0 + (if _ then 1 else 0)
    rw [Nat.zero_add]; rfl
  | r + 1, j, m => by
    rw [show 2 ^ (r + 1) = 2 * 2 ^ r by rw [Nat.pow_succ]; omega, smN_two]
    show (16 - c) * wyW T c p l r (j + 1) (dyA T j m) + c * wyW T c p l r (j + 1) (driftM T.1.1.1 j (dyA T j m)) = _
    rw [wy_sum T c p l r, wy_sum T c p l r, ← smN_lin]
    refine smN_congr _ (fun t _ => ?_)
    have hb : ∀ s : Nat, s / 2 = t → goM T.1.1 T.1.2.1 (toldS T.1.1.2) T.1.2.2.1 (fun d => s.testBit (d - j)) j (r + 1) m = goM T.1.1 T.1.2.1 (toldS T.1.1.2) T.1.2.2.1 (fun d => t.testBit (d - (j + 1))) (j + 1) r (dayM T.1.1 T.1.2.1 (toldS T.1.1.2) T.1.2.2.1 (fun d => s.testBit (d - j)) j m) := by
      intro s hs
      rw [goM_front]
      refine goM_fl r (fun d h1 h2 => ?_)
      show s.testBit (d - j) = t.testBit (d - (j + 1))
      rw [show d - j = (d - (j + 1)) + 1 by omega, Nat.testBit_add_one, hs]
    have e0 : dayM T.1.1 T.1.2.1 (toldS T.1.1.2) T.1.2.2.1 (fun d => (2 * t).testBit (d - j)) j m = dyA T j m := by
      unfold dayM driftsM dyA
      rw [if_neg (by show ¬ (2 * t).testBit (j - j) = true; rw [Nat.sub_self, Nat.testBit_zero, decide_eq_false (by omega)]; simp)]
    have e1 : dayM T.1.1 T.1.2.1 (toldS T.1.1.2) T.1.2.2.1 (fun d => (2 * t + 1).testBit (d - j)) j m = driftM T.1.1.1 j (dyA T j m) := by
      unfold dayM driftsM dyA
      rw [if_pos (by show (2 * t + 1).testBit (j - j) = true; rw [Nat.sub_self, Nat.testBit_zero, decide_eq_true (by omega)])]
    have w0 : wtW c (r + 1) (2 * t) = (16 - c) * wtW c r t := by
      show (if (2 * t) % 2 = 1 then c else 16 - c) * wtW c r (2 * t / 2) = _
      rw [if_neg (by omega), show 2 * t / 2 = t by omega]
    have w1 : wtW c (r + 1) (2 * t + 1) = c * wtW c r t := by
      show (if (2 * t + 1) % 2 = 1 then c else 16 - c) * wtW c r ((2 * t + 1) / 2) = _
      rw [if_pos (by omega), show (2 * t + 1) / 2 = t by omega]
    unfold skF
    rw [hb (2 * t) (by omega), hb (2 * t + 1) (by omega), e0, e1, w0, w1]
    congr 1
    · split <;> simp
    · split <;> simp
theorem wyW_le {T : TT} {c p : Nat} {l : Int} (hc : c ≤ 16) : ∀ r j m, wyW T c p l r j m ≤ 16 ^ r
  | 0, _, _ => by show (if _ then 1 else 0) ≤ 1; split <;> omega
  | r + 1, j, m => by
    have h1 := wyW_le (T := T) (p := p) (l := l) hc r (j + 1) (dyA T j m)
    have h2 := wyW_le (T := T) (p := p) (l := l) hc r (j + 1) (driftM T.1.1.1 j (dyA T j m))
    show (16 - c) * _ + c * _ ≤ 16 ^ (r + 1)
    have a1 := Nat.mul_le_mul_left (16 - c) h1
    have a2 := Nat.mul_le_mul_left c h2
    have a3 : (16 - c) * 16 ^ r + c * 16 ^ r = 16 ^ (r + 1) := by rw [← Nat.add_mul, Nat.pow_succ, show 16 - c + c = 16 by omega, Nat.mul_comm]
    omega
/-- above and below, what they share taken away -/
def abV (T : TT) (c p : Nat) (l : Int) (n : Nat) : Nat := wyW T c p l n 0 (beginM T.1.1)
def shV (T : TT) (c p : Nat) (l : Int) (n : Nat) (x : Int) : Nat := (if x = 0 then abV T c p l n else 16 ^ n) / Nat.gcd (abV T c p l n) (16 ^ n)
def opFlooded (T : TT) (c d p l x : Int) : Int := if (0 ≤ c ∧ c < 17) ∧ (0 ≤ d ∧ d < 10) ∧ (0 ≤ p ∧ p < (nP T.1.1.2 : Int)) ∧ (0 ≤ l ∧ l < 26) ∧ (0 ≤ x ∧ x < 2) then (shV T c.toNat p.toNat l (d.toNat + 1) x : Int) else -9223372036854775806
theorem gcd_half {A e i above n : Nat} (h : A * 2 ^ i = above) (he : e + i = 4 * n) (hd : e = 0 ∨ A % 2 = 1) : above / Nat.gcd above (16 ^ n) = A ∧ 16 ^ n / Nat.gcd above (16 ^ n) = 2 ^ e := by
  have h16 : 16 ^ n = 2 ^ e * 2 ^ i := by rw [← Nat.pow_add, he, Nat.pow_mul]
  have hg : Nat.gcd A (2 ^ e) = 1 := by
    rcases hd with q | q
    · rw [q]; exact Nat.gcd_one_right A
    · have : Nat.Coprime A 2 := by
        apply Nat.coprime_iff_gcd_eq_one.mpr
        rw [Nat.gcd_comm, Nat.gcd_rec, q]; decide
      exact (Nat.Coprime.pow_right e this).gcd_eq_one
  have hp : 0 < 2 ^ i := Nat.two_pow_pos i
  rw [← h, h16, Nat.gcd_mul_right, hg, Nat.one_mul]
  exact ⟨Nat.mul_div_cancel _ hp, Nat.mul_div_cancel _ hp⟩
theorem p16_lt : ∀ n, n ≤ 10 → 16 ^ n ≤ 1099511627776 := by decide
section FL
variable {w : GX} {d : Nat} {P : PN} {g : GI} {T : TT}
theorem c_ways {c p n : Nat} {l : Int} (hT : GT T) (hc : c ≤ 16) (hp : p < nP T.1.1.2) (el : nm l = l) (hn : n ≤ 10) : ∀ (r : Nat) {d j : Nat} {m : Mu} {g : GI} {P : PN}, j + r = n → IS g T → g 158 2 = (c : Int) → g 158 3 = (n : Int) - 1 → g 158 4 = (p : Int) → g 158 5 = l → WR g (160 + 5 * j) T.1.1 m → Wf T.1.1 m → (∀ g', IS g' T → FrQ g g' → (∀ b, b < 160 + 5 * (j + 1) → g' b = g b) → P (some (aL (wyW T c p l r j m : Int))) g') → Zm w (d + 2 + r) mX1_ways 0 [some (aR (some 158)), some (aI (j : Int)), none, none, none, none] [] g P
  | 0, d, j, m, g, P, hj, h, e2, e3, e4, e5, hw, hf, k => by
    have hB := hT.1.BO
    have ej : nm (j : Int) = j := nm_id (by omega) (by omega)
    have en : nm ((n : Int) - 1) = (n : Int) - 1 := nm_id (by omega) (by omega)
    have k := k g h FrQ.rfl (fun _ _ => rfl)
    have END : Zm w (d + 2) mX1_ways 19 [some (aR (some 158)), some (aI (j : Int)), some (aR (some 27)), none, none, none] [] g P := by
      refine s_X1_ways_19 _ ?_
      rw [ej, Int.toNat_natCast, e4]
      refine ⟨by omega, by omega, ?_⟩
      refine c_letterOf (isW_chance j (by omega)) hB h.2.2.1 hw hf hp ⟨_, rfl, ?_⟩
      rw [h.1.2.2.1, e5, nm_calM hT.1 _ hf hp, el]
      have un : wyW T c p l 0 j m = if calM T.1.1 T.2.1 m p = l then 1 else 0 := rfl
      rw [un] at k
      refine ⟨fun q => ?_, fun q => ?_⟩
      · rw [if_neg q] at k; exact k
      · rw [if_pos q] at k; exact k
    refine s_X1_ways_0 _ ?_
    rw [e3, ej, en]
    exact ⟨fun _ => END, fun q => absurd q (by omega)⟩
  | r + 1, d, j, m, g, P, hj, h, e2, e3, e4, e5, hw, hf, k => by
    have hB := hT.1.BO
    have hE := hT.1.EB
    have h0 := hT.1.h0
    have hSB := hT.1.SB
    have n10 : nm 10 = 10 := by decide
    have n16 : nm 16 = 16 := by decide
    have ej : nm (j : Int) = j := nm_id (by omega) (by omega)
    have ej1 : nm ((j : Int) + 1) = ((j + 1 : Nat) : Int) := by rw [nm_id (by omega) (by omega)]; omega
    have en : nm ((n : Int) - 1) = (n : Int) - 1 := nm_id (by omega) (by omega)
    have ec : nm (c : Int) = c := nm_id (by omega) (by omega)
    have W0 := isW_chance j (by omega)
    have W1 := isW_chance (j + 1) (by omega)
    have un : wyW T c p l (r + 1) j m = (16 - c) * wyW T c p l r (j + 1) (dyA T j m) + c * wyW T c p l r (j + 1) (driftM T.1.1.1 j (dyA T j m)) := rfl
    rw [un] at k
    rw [show d + 2 + (r + 1) = d + 1 + r + 2 by omega]
    refine s_X1_ways_0 _ ?_
    rw [e3, ej, ej1, en, n10, n16, Int.toNat_natCast, Int.toNat_natCast]
    refine ⟨fun q => absurd q (by omega), fun _ => ⟨fun _ => ⟨by omega, by omega, by omega, by omega, ?_⟩, fun q => absurd q (by omega)⟩⟩
    refine c_become W1 W0 (Or.inr (by omega)) hB hw (hf.len hB) (fun g1 w1 f1 => ⟨rfl, ?_⟩)
    have h1 := h.keep (f1.Q (by omega) (by omega))
    refine c_crossTold W1 isC_28 hE h1.En h1.2.2.2.1 hSB w1 hf (by omega) (fun g2 z2 w2 f2 _ => ⟨z2, rfl, ?_⟩)
    have f12 := f1.trans f2
    have h2 := h.keep (f12.Q (by omega) (by omega))
    have wf2 := hf.cross (su := toldS T.1.1.2) (d := j) hB h0 _ (Nat.le_refl _)
    refine c_catchTold W1 hE h2.En w2 wf2 (by omega) (fun g3 w3 f3 => ⟨rfl, ?_⟩)
    have f13 := f12.trans f3
    have h3 := h.keep (f13.Q (by omega) (by omega))
    have wf3 := wf2.catch (ca := T.1.2.2.1) (d := j) hB T.1.2.2.1.length
    refine c_drift W1 hB h3.2.2.1 w3 wf3 (by omega) (fun g4 w4 f4 => ⟨rfl, ?_⟩)
    have f14 := f13.trans f4
    have h4 := h.keep (f14.Q (by omega) (by omega))
    have wf4 := wf3.drift hB j
    have w4 : WR g4 (160 + 5 * (j + 1)) T.1.1 (dyA T j m) := w4
    have wf4 : Wf T.1.1 (dyA T j m) := wf4
    have s14 : ∀ b, b < 160 + 5 * (j + 1) → g4 b = g b := fun b hb => f14 b (by omega)
    rw [s14 158 (by omega), e2, ec]
    -- the second way
    have L2 : ∀ (g5 : GI) (x : Int), x = ((16 - c : Nat) : Int) * (wyW T c p l r (j + 1) (dyA T j m) : Int) → IS g5 T → FrQ g g5 → (∀ b, b < 160 + 5 * (j + 1) → g5 b = g b) → WR g5 (160 + 5 * (j + 1)) T.1.1 (dyA T j m) → Zm w (d + 1 + r + 2) mX1_ways 127 [some (aR (some 158)), some (aI (j : Int)), some (aR (some 27)), some (aR (some (160 + 5 * (j + 1)))), some (aL x), none] [] g5 P := by
      intro g5 x hx h5 f5 s5 w5
      refine s_X1_ways_127 _ W1 _ ?_
      rw [s5 158 (by omega), e2, ec]
      refine ⟨fun q => ?_, fun q => ?_⟩
      · have hc0 : c = 0 := by omega
        have k := k g5 h5 f5 s5
        rw [hc0, Nat.zero_mul, Nat.add_zero] at k
        rw [hx, hc0]
        have e : (((16 - 0) * wyW T 0 p l r (j + 1) (dyA T j m) : Nat) : Int) = ((16 - 0 : Nat) : Int) * (wyW T 0 p l r (j + 1) (dyA T j m) : Int) := Int.natCast_mul _ _
        rw [← e]; exact k
      · refine c_drift W1 hB h5.2.2.1 w5 wf4 (by omega) (fun g6 w6 f6 => ⟨rfl, ?_⟩)
        have s6 : ∀ b, b < 160 + 5 * (j + 1) → g6 b = g b := fun b hb => by rw [f6 b (by omega)]; exact s5 b hb
        have h6 := h5.keep (f6.Q (by omega) (by omega))
        have f6q := f5.trans (f6.Q (by omega) (by omega))
        have := c_ways hT hc hp el hn r (d := d) (j := j + 1) (m := driftM T.1.1.1 j (dyA T j m)) (g := g6) (P := fun r' g4 => ∃ z5 : Int, r' = some (aL z5) ∧ (∀ v6 : Int, v6 = x + ((nm (g6 158 2)) * z5) → P (some (aL v6)) g4)) (by omega) h6 (by rw [s6 158 (by omega)]; exact e2) (by rw [s6 158 (by omega)]; exact e3) (by rw [s6 158 (by omega)]; exact e4) (by rw [s6 158 (by omega)]; exact e5) w6 (wf4.drift hB j) (fun g7 h7 f7 s7 => ⟨_, rfl, fun v6 e6 => ?_⟩)
        · rw [show (j : Int) + 1 = ((j + 1 : Nat) : Int) by omega, show d + 1 + r + 1 = d + 2 + r by omega]
          exact this
        · have k := k g7 h7 (f6q.trans f7) (fun b hb => by rw [s7 b (by omega)]; exact s6 b hb)
          rw [s6 158 (by omega), e2, ec, hx] at e6
          have e : v6 = (((16 - c) * wyW T c p l r (j + 1) (dyA T j m) + c * wyW T c p l r (j + 1) (driftM T.1.1.1 j (dyA T j m)) : Nat) : Int) := by
            rw [e6, Int.natCast_add, Int.natCast_mul, Int.natCast_mul]
          rw [e]; exact k
    refine ⟨fun q => ?_, fun q => ?_⟩
    · refine L2 g4 0 ?_ h4 (f14.Q (by omega) (by omega)) s14 w4
      rw [show 16 - c = 0 by omega]; simp
    · have := c_ways hT hc hp el hn r (d := d) (j := j + 1) (m := dyA T j m) (g := g4) (P := fun r' g18 => ∃ z19 : Int, r' = some (aL z19) ∧ (∀ v20 : Int, v20 = 0 + ((nm (16 - (c : Int))) * z19) → Zm w (d + 1 + r + 2) mX1_ways 127 [some (aR (some 158)), some (aI (j : Int)), some (aR (some 27)), some (aR (some (160 + 5 * (j + 1)))), some (aL v20), none] [] g18 P)) (by omega) h4 (by rw [s14 158 (by omega)]; exact e2) (by rw [s14 158 (by omega)]; exact e3) (by rw [s14 158 (by omega)]; exact e4) (by rw [s14 158 (by omega)]; exact e5) w4 wf4 (fun g7 h7 f7 s7 => ⟨_, rfl, fun v20 e20 => ?_⟩)
      · rw [show (j : Int) + 1 = ((j + 1 : Nat) : Int) by omega, show d + 1 + r + 1 = d + 2 + r by omega]
        exact this
      · refine L2 g7 v20 ?_ h7 ((f14.Q (by omega) (by omega)).trans f7) (fun b hb => by rw [s7 b (by omega)]; exact s14 b hb) (w4.same (fun b z1 z2 => s7 b (by omega)))
        rw [e20, nm_id (z := 16 - (c : Int)) (by omega) (by omega), Int.zero_add]
        congr 1
        omega
theorem lCmp_0 (x : Int) : nm (lCmp x 0) = 0 ↔ nml x = 0 := by
  have a := lCmp_lt x 0
  have b := lCmp_gt x 0
  have z : nml 0 = 0 := by decide
  rw [z] at a b
  omega
theorem c_weigh {c n p : Nat} {l zn : Int} (hT : GT T) (h : IS g T) (hc : c ≤ 16) (hn0 : 0 < n) (hn : n ≤ 10) (hp : p < nP T.1.1.2) (el : nm l = l) (hz : zn = (n : Int) - 1) (k : ∀ g', IS g' T → FrQ g g' → g' 158 6 = (shV T c p l n 0 : Int) → g' 158 7 = (shV T c p l n 1 : Int) → P none g') : Zm w (d + 13) mX1_weigh 0 [some (aR (some 158)), some (aI (c : Int)), some (aI zn), some (aI (p : Int)), some (aI l), none] [] g P := by
  have hB := hT.1.BO
  have hle := wyW_le (T := T) (p := p) (l := l) hc n 0 (beginM T.1.1)
  have hp16 := p16_lt n hn
  have ez : nm zn = (n : Int) - 1 := by rw [hz]; exact nm_id (by omega) (by omega)
  refine s_X1_weigh_0 _ _ _ _ (fun g1 e1 g2 e2 g3 e3 g4 e4 => ?_)
  have f4 : FrQ g g4 := fun b hb => by rw [e4, up2_ne _ _ _ (by omega), e3, up2_ne _ _ _ (by omega), e2, up2_ne _ _ _ (by omega), e1, up2_ne _ _ _ (by omega)]
  have h4 := h.keep f4
  have v2 : g4 158 2 = (c : Int) := by rw [e4, e3, e2, e1]; simp [up2_ap]
  have v3 : g4 158 3 = (n : Int) - 1 := by rw [e4, e3, e2, e1, hz]; simp [up2_ap]
  have v4 : g4 158 4 = (p : Int) := by rw [e4, e3, e2, e1]; simp [up2_ap]
  have v5 : g4 158 5 = l := by rw [e4, e3, e2, e1]; simp [up2_ap]
  refine c_become (isW_chance 0 (by omega)) isW_31 (Or.inr (by omega)) hB (h4.2.2.2.2.2.1 0 (by omega)) ((hT.1.wf 0).len hB) (fun g5 w5 f5 => ⟨rfl, ?_⟩)
  have s5 : g5 158 = g4 158 := f5 158 (by omega)
  have q5 := f4.trans (f5.Q (by omega) (by omega))
  have h5 := h.keep q5
  rw [show d + 10 + 2 = (d + 10 - n) + 2 + n by omega]
  refine c_ways hT hc hp el hn n (d := d + 10 - n) (j := 0) (m := beginM T.1.1) (by omega) h5 (by rw [s5]; exact v2) (by rw [s5]; exact v3) (by rw [s5]; exact v4) (by rw [s5]; exact v5) w5 (hT.1.wf 0) (fun g7 h7 f7 s7 => ⟨_, rfl, fun g9 e9 g10 e10 => ?_⟩)
  have hab : abV T c p l n = wyW T c p l n 0 (beginM T.1.1) := rfl
  rw [← hab] at e9 hle
  have f7g := q5.trans f7
  have f10 : FrQ g g10 := fun b hb => by rw [e10, up2_ne _ _ _ (by omega), e9, up2_ne _ _ _ (by omega)]; exact f7g b hb
  have n40 : nm 40 = 40 := by decide
  have n1 : nml 1 = 1 := by decide
  have h240 : (2 : Nat) ^ 40 = 1099511627776 := by decide
  have FIN : ∀ (g12 : GI) (A i : Nat), FrQ g g12 → i ≤ 4 * n → A * 2 ^ i = abV T c p l n → g12 158 6 = (A : Int) → g12 158 7 = ((2 ^ (4 * n - i) : Nat) : Int) → (4 * n - i = 0 ∨ A % 2 = 1) → P none g12 := by
    intro g12 A i r1 r2 r3 r4 r5 r6
    have hgh := gcd_half (A := A) (e := 4 * n - i) (i := i) (above := abV T c p l n) (n := n) r3 (by omega) r6
    refine k g12 (h.keep r1) r1 ?_ ?_
    · rw [r4]; unfold shV; rw [if_pos rfl, hgh.1]
    · rw [r5]; unfold shV; rw [if_neg (by decide), hgh.2]
  -- what is shared, taken away
  have L2 : ∀ g11 : GI, FrQ g g11 → g11 158 6 = (abV T c p l n : Int) → g11 158 7 = ((16 ^ n : Nat) : Int) → Zm w (d + 10 + 3) mX1_weigh 83 [some (aR (some 158)), none, none, none, none, some (aI 0)] [] g11 P := by
    intro g11 q11 y6 y7
    refine loopN (σ := GI) (fun i s => Zm w (d + 10 + 3) mX1_weigh 83 [some (aR (some 158)), none, none, none, none, some (aI (i : Int))] [] s P) (fun i s => FrQ g s ∧ i ≤ 4 * n ∧ ∃ A : Nat, A * 2 ^ i = abV T c p l n ∧ s 158 6 = (A : Int) ∧ s 158 7 = ((2 ^ (4 * n - i) : Nat) : Int)) 40 ?_ ?_ 0 g11 (Nat.zero_le _) ⟨q11, Nat.zero_le _, abV T c p l n, by simp, y6, by rw [y7, Nat.sub_zero, show (16 : Nat) = 2 ^ 4 by decide, ← Nat.pow_mul]⟩
    · intro g12 ⟨r1, r2, A, r3, r4, r5⟩
      have e40 : nm ((40 : Nat) : Int) = 40 := by decide
      refine s_X1_weigh_83 _ ?_
      rw [n40, e40]
      exact ⟨fun _ => FIN g12 A 40 r1 r2 r3 r4 r5 (Or.inl (by omega)), fun z => absurd z (by omega)⟩
    · intro i g12 hi ⟨r1, r2, A, r3, r4, r5⟩ ih
      have ei : nm (i : Int) = i := nm_id (by omega) (by omega)
      have hA : A ≤ abV T c p l n := by rw [← r3]; exact Nat.le_mul_of_pos_right A (Nat.two_pow_pos i)
      have he2 : 2 ^ (4 * n - i) ≤ 2 ^ 40 := Nat.pow_le_pow_right (by omega) (by omega)
      have c1 : 0 < nm (lCmp (g12 158 7) 1) ↔ 1 < 2 ^ (4 * n - i) := by
        rw [lCmp_gt, r5, n1, nml_nat (k := 2 ^ (4 * n - i)) (by omega)]
        generalize 2 ^ (4 * n - i) = B
        omega
      have l6 : lRem (g12 158 6) 2 = ((A % 2 : Nat) : Int) := by
        rw [r4]; exact lRem_nat (b := 2) (by omega) (by omega) (by omega)
      have c2 : nm (lCmp (lRem (g12 158 6) 2) 0) = 0 ↔ A % 2 = 0 := by
        rw [l6, lCmp_0, nml_id (by omega) (by omega)]
        omega
      have FIN := FIN g12 A i r1 r2 r3 r4 r5
      refine s_X1_weigh_83 _ ?_
      rw [n40, ei, c1, c2]
      refine ⟨fun z => absurd z (by omega), fun _ => ⟨fun z => FIN (Or.inl ?_), fun z => ⟨fun y => FIN (Or.inr (by omega)), fun y g13 e13 g14 e14 => ?_⟩⟩⟩
      · rcases Nat.eq_zero_or_pos (4 * n - i) with y | y
        · exact y
        · exfalso
          have := Nat.pow_le_pow_right (n := 2) (by omega) (show 1 ≤ 4 * n - i by omega)
          omega
      · have hpos : 4 * n - i ≠ 0 := by
          intro y; rw [y] at z; omega
        have ep : 2 ^ (4 * n - i) = 2 ^ (4 * n - (i + 1)) * 2 := by rw [← Nat.pow_succ, show (4 * n - (i + 1)).succ = 4 * n - i by omega]
        have l13 : g13 158 7 = ((2 ^ (4 * n - i) : Nat) : Int) := by rw [e13]; simp only [up2_ap, if_true]; exact r5
        refine ih g14 ⟨fun b hb => by rw [e14, up2_ne _ _ _ (by omega), e13, up2_ne _ _ _ (by omega)]; exact r1 b hb, by omega, A / 2, ?_, ?_, ?_⟩
        · have : A = A / 2 * 2 := by omega
          rw [← r3, Nat.pow_succ, Nat.mul_comm (2 ^ i) 2, ← Nat.mul_assoc, ← this]
        · rw [e14]
          have : up2 g13 158 7 (lDiv (g13 158 7) 2) 158 6 = g13 158 6 := by simp [up2_ap]
          rw [this, e13]
          have : up2 g12 158 6 (lDiv (g12 158 6) 2) 158 6 = lDiv (g12 158 6) 2 := by simp [up2_ap]
          rw [this, r4]
          exact lDiv_nat (b := 2) (by omega) (by omega) (by omega)
        · rw [e14]
          have : up2 g13 158 7 (lDiv (g13 158 7) 2) 158 7 = lDiv (g13 158 7) 2 := by simp [up2_ap]
          rw [this, l13]
          refine (lDiv_nat (b := 2) (by omega) (by omega) (by omega)).trans ?_
          congr 1
          omega
  -- sixteen to the days
  refine loopN (σ := GI) (fun i s => Zm w (d + 10 + 3) mX1_weigh 56 [some (aR (some 158)), none, some (aI zn), none, none, some (aI (i : Int))] [] s P) (fun i s => FrQ g s ∧ s 158 6 = (abV T c p l n : Int) ∧ s 158 7 = ((16 ^ i : Nat) : Int)) n ?_ ?_ 0 g10 (Nat.zero_le _) ⟨f10, by rw [e10, e9]; simp [up2_ap], by rw [e10]; simp [up2_ap]⟩
  · intro g11 ⟨r1, r2, r3⟩
    have en : nm (n : Int) = n := nm_id (by omega) (by omega)
    refine s_X1_weigh_56 _ _ ?_
    rw [ez, en]
    exact ⟨fun _ => L2 g11 r1 r2 r3, fun z => absurd z (by omega)⟩
  · intro i g11 hi ⟨r1, r2, r3⟩ ih
    have ei : nm (i : Int) = i := nm_id (by omega) (by omega)
    refine s_X1_weigh_56 _ _ ?_
    rw [ez, ei]
    refine ⟨fun z => absurd z (by omega), fun _ g12 e12 => ih g12 ⟨fun b hb => by rw [e12, up2_ne _ _ _ (by omega)]; exact r1 b hb, by rw [e12]; simp only [up2_ap]; simpa using r2, ?_⟩⟩
    rw [e12, r3]; simp [up2_ap, Nat.pow_succ]
theorem k_flooded {x1 x2 x3 x4 x5 : Int} (hT : GT T) (h : IC g T) (e1 : nm x1 = x1) (e2 : nm x2 = x2) (e3 : nm x3 = x3) (e4 : nm x4 = x4) (e5 : nm x5 = x5) (k : ∀ g', IS g' T → FrL g g' → P (some (aL (opFlooded T x1 x2 x3 x4 x5))) g') : Zm w (d + 15) mX10_flooded 0 [some (aR (some 0)), some (aI x1), some (aI x2), some (aI x3), some (aI x4), some (aI x5)] [] g P := by
  have n17 : nm 17 = 17 := by decide
  have n10 : nm 10 = 10 := by decide
  have n26 : nm 26 = 26 := by decide
  have n2 : nm 2 = 2 := by decide
  refine s_X10_flooded_0 (d := d + 10) _ _ _ _ _ ?_
  refine k_settle hT h (fun g1 s1 f1 => ⟨rfl, ?_⟩)
  rw [s1.2.2.1.2.1, wi_x e1 n17, wi_x e2 n10, wi_x e3 (nmP hT), wi_x e4 n26, wi_x e5 n2, e5]
  unfold opFlooded at k
  have NO : ¬ ((0 ≤ x1 ∧ x1 < 17) ∧ (0 ≤ x2 ∧ x2 < 10) ∧ (0 ≤ x3 ∧ x3 < (nP T.1.1.2 : Int)) ∧ (0 ≤ x4 ∧ x4 < 26) ∧ (0 ≤ x5 ∧ x5 < 2)) → P (some (aL (-9223372036854775806))) g1 := fun q => by
    rw [if_neg q] at k; exact k g1 s1 f1
  refine ⟨fun q => NO (fun z => q z.1), fun q1 => ⟨fun q => NO (fun z => q z.2.1), fun q2 => ⟨fun q => NO (fun z => q z.2.2.1), fun q3 => ⟨fun q => NO (fun z => q z.2.2.2.1), fun q4 => ⟨fun q5 => ?_, fun q => NO (fun z => q z.2.2.2.2)⟩⟩⟩⟩⟩
  have q1 := nn q1
  have q2 := nn q2
  have q3 := nn q3
  have q4 := nn q4
  have q5 := nn q5
  rw [if_pos ⟨q1, q2, q3, q4, q5⟩] at k
  have w1 : x1 = ((x1.toNat : Nat) : Int) := by omega
  have w3 : x3 = ((x3.toNat : Nat) : Int) := by omega
  have := c_weigh (w := w) (d := d + 1) (g := g1) (c := x1.toNat) (n := x2.toNat + 1) (p := x3.toNat) (l := x4) (zn := x2) (P := fun r g8 => r = none ∧ ((¬ x5 = 0 → P (some (aL (g8 158 7))) g8) ∧ (x5 = 0 → P (some (aL (g8 158 6))) g8))) hT s1 (by omega) (by omega) (by omega) (by omega) e4 (by omega) (fun g2 s2 f2 v1 v2 => ⟨rfl, fun y => ?_, fun y => ?_⟩)
  · rw [← w1, ← w3] at this
    exact this
  · have k := k g2 s2 (f1.trans f2.L)
    rw [v2]
    rw [show x5 = 1 by omega] at k
    exact k
  · have k := k g2 s2 (f1.trans f2.L)
    rw [v1]
    rw [y] at k
    exact k
/-! the model -/
theorem c_part {A B : Nat} {x : Int} (hA : A < 9223372036854775808) (hB0 : 0 < B) (hB : B < 9223372036854775808) (ex : nm x = x) (k : P (some (aL (((if x = 0 then A else B) / Nat.gcd A B : Nat) : Int))) g) : Zm w d mX11_part 0 [some (aL (A : Int)), none, some (aL (B : Int)), none, some (aI x), none, none, none, none, none, none] [] g P := by
  refine s_X11_part_0 _ _ _ ?_
  have hpos := Nat.gcd_pos_of_pos_right A hB0
  have L : ∀ (b a : Nat), a < 9223372036854775808 → b < 9223372036854775808 → Nat.gcd a b = Nat.gcd A B → Zm w d mX11_part 6 [some (aL (A : Int)), none, some (aL (B : Int)), none, some (aI x), some (aL (a : Int)), none, some (aL (b : Int)), none, none, none] [] g P := by
    intro b
    refine Nat.strongRecOn (motive := fun b => ∀ (a : Nat), a < 9223372036854775808 → b < 9223372036854775808 → Nat.gcd a b = Nat.gcd A B → Zm w d mX11_part 6 [some (aL (A : Int)), none, some (aL (B : Int)), none, some (aI x), some (aL (a : Int)), none, some (aL (b : Int)), none, none, none] [] g P) b ?_
    intro b IH a ha hb hg
    refine s_X11_part_6 _ _ _ _ _ ?_
    rw [lCmp_0, nml_id (z := (b : Int)) (by omega) (by omega), nml_id (z := (a : Int)) (by omega) (by omega), ex]
    refine ⟨fun q => ?_, fun q => ⟨q, fun v6 e6 => ?_⟩⟩
    · have hb0 : b = 0 := by omega
      rw [hb0, Nat.gcd_zero_right] at hg
      refine ⟨fun y => ⟨by omega, ?_⟩, fun y => ⟨by omega, ?_⟩⟩
      · rw [if_neg y, ← hg] at k
        rw [lDiv_nat hB (by omega) ha]; exact k
      · rw [if_pos y, ← hg] at k
        rw [lDiv_nat hA (by omega) ha]; exact k
    · have hb0 : 0 < b := by omega
      have hm := Nat.mod_lt a hb0
      rw [e6, lRem_nat ha hb0 hb]
      refine IH (a % b) hm b hb (by omega) ?_
      rw [← hg, Nat.gcd_comm a b, Nat.gcd_rec b a, Nat.gcd_comm]
  exact L B A hA hB rfl
theorem Bt.nat {s : Nat} (hs : s < 1073741824) : Bt (s : Int) (fun i => s.testBit i) := by
  refine ⟨nm_id (by omega) (by omega), fun i hi => ?_⟩
  rw [ofI_nat]
  show (BitVec.ofNat 32 s).getLsbD i = _
  rw [BitVec.getLsbD_ofNat, decide_eq_true hi, Bool.true_and]
  by_cases y : i < 30
  · rw [decide_eq_true y, Bool.true_and]
  · rw [decide_eq_false y, Bool.false_and]
    refine Nat.testBit_lt_two_pow (Nat.lt_of_lt_of_le hs ?_)
    have := Nat.pow_le_pow_right (n := 2) (by omega) (show 30 ≤ i by omega)
    have e : (2 : Nat) ^ 30 = 1073741824 := by decide
    omega
/-- between: all but the skies as told -/
def RSk (g0 g : GI) : Prop := (∀ b, b < 228 ∨ (228 < b ∧ b < 241) ∨ b = 248 → g b = g0 b) ∧ ∀ j, j ≠ 30 → g 228 j = g0 228 j
theorem RM.reS {g0 g g' : GI} {T : TT} (h : RM g0 T) (r : RSk g0 g) (e : g' = up2 g 228 30 (-1)) : RM g' T := by
  have f8 : g' 228 = g0 228 := funext fun j => by
    rw [e]; simp only [up2_ap, if_true]
    by_cases y : j = 30
    · rw [if_pos y, y, h.1.2.2.2.2.1.2.2.2.2]
    · rw [if_neg y]; exact r.2 j y
  refine h.keep2 (fun b hb => ?_)
  by_cases y : b = 228
  · rw [y]; exact f8
  · rw [e, up2_ne _ _ _ y]; exact r.1 b (by omega)
theorem RM.sky {g0 g : GI} {T : TT} {s : Nat} (h : RM g0 T) (r : RSk g0 g) (hs : s < 1073741824) (e : g 228 30 = (s : Int)) : EM g T.1.1 T.2.1 T.1.2.1 (toldS T.1.1.2) T.1.2.2.1 T.1.2.2.2.1 (fun i => s.testBit i) := by
  obtain ⟨⟨⟨a1, a2, a3⟩, b1, b2⟩, c, ⟨d1, d2, d3⟩, e', f13⟩ := h.2
  have f8 := r.2
  have f : ∀ b, 228 < b → b < 241 → g b = g0 b := fun b h1 h2 => r.1 b (by omega)
  exact ⟨⟨⟨by rw [f8 7 (by omega)]; exact a1, by rw [f8 12 (by omega)]; exact a2, by rw [f 235 (by omega) (by omega), f 236 (by omega) (by omega)]; exact a3⟩, by rw [f8 10 (by omega)]; exact b1, by rw [f 237 (by omega) (by omega)]; exact b2⟩, ⟨by rw [f8 14 (by omega)]; exact c.1, by rw [f 238 (by omega) (by omega)]; exact c.2.1, by rw [f8 16 (by omega)]; exact c.2.2.1, by rw [f 239 (by omega) (by omega)]; exact c.2.2.2⟩, ⟨d1, d2.same (f8 18 (by omega)) (f 240 (by omega) (by omega)), Or.inr (by rw [e]; exact Bt.nat hs)⟩, ⟨by rw [f8 27 (by omega)]; exact e'.1, by rw [f8 28 (by omega)]; exact e'.2.1, fun p hp => by rw [f8 28 (by omega), f8 29 (by omega), f 237 (by omega) (by omega)]; exact e'.2.2 p hp⟩, by rw [f8 13 (by omega)]; exact f13⟩
theorem iShl_2 : ∀ k : Nat, k < 10 → nm (iShl 2 (k : Int)) = ((2 ^ (k + 1) : Nat) : Int) := by decide +kernel
theorem lShl_16 : ∀ k : Nat, k < 10 → lShl 1 (4 * ((k : Int) + 1)) = ((16 ^ (k + 1) : Nat) : Int) := by decide +kernel
theorem p2_lt : ∀ n, n ≤ 10 → 2 ^ n ≤ 1024 := by decide
theorem j_floodedOf {c n p : Nat} {l zn x : Int} (hT : GT T) (h : RM g T) (hc : c ≤ 16) (hn0 : 0 < n) (hn : n ≤ 10) (hp : p < nP T.1.1.2) (el : nm l = l) (hz : zn = (n : Int) - 1) (ex : nm x = x) (k : ∀ g', RM g' T → FrH g g' → P (some (aL (shV T c p l n x : Int))) g') : Zm w (d + 5) mX11_floodedOf 0 [some (aR (some 228)), some (aI (c : Int)), some (aI zn), some (aI (p : Int)), some (aI l), some (aI x), none, none, none, none, none, none] [] g P := by
  have hE := hT.EBM
  have hle := wyW_le (T := T) (p := p) (l := l) hc n 0 (beginM T.1.1)
  have hp16 := p16_lt n hn
  have hp2 := p2_lt n hn
  have h16 : 0 < 16 ^ n := Nat.pos_of_ne_zero (by have := Nat.pow_le_pow_right (n := 16) (by omega) (Nat.zero_le n); omega)
  have ez : nm zn = (n : Int) - 1 := by rw [hz]; exact nm_id (by omega) (by omega)
  have zk : zn = ((n - 1 : Nat) : Int) := by omega
  have s2 : nm (iShl 2 zn) = ((2 ^ n : Nat) : Int) := by rw [zk, iShl_2 _ (by omega), show n - 1 + 1 = n by omega]
  have s16 : lShl 1 (4 * (zn + 1)) = ((16 ^ n : Nat) : Int) := by rw [zk, lShl_16 _ (by omega), show n - 1 + 1 = n by omega]
  have ec : nm (c : Int) = c := nm_id (by omega) (by omega)
  have ec6 : nm (16 - (c : Int)) = ((16 - c : Nat) : Int) := by rw [nm_id (by omega) (by omega)]; omega
  have hsum := wy_sum T c p l n 0 (beginM T.1.1)
  have hsk : ∀ s : Nat, skF T c p l 0 n (beginM T.1.1) s = if calM T.1.1 T.2.1 (aheadM T.1.1 T.1.2.1 (toldS T.1.1.2) T.1.2.2.1 (fun i => s.testBit i) n) p = l then wtW c n s else 0 := by
    intro s
    have := goM_ah (o := T.1.1) (cs := T.1.2.1) (su := toldS T.1.1.2) (ca := T.1.2.2.1) (fl := fun i => s.testBit i) n
    rw [← this]; rfl
  refine s_X11_floodedOf_0 _ _ _ _ _ ?_
  refine loopN (σ := Int × GI) (fun i s => Zm w (d + 5) mX11_floodedOf 6 [some (aR (some 228)), some (aI (c : Int)), some (aI zn), some (aI (p : Int)), some (aI l), some (aI x), some (aL s.1), none, some (aI (i : Int)), none, none, none] [] s.2 P) (fun i s => RSk g s.2 ∧ s.1 = (smN (skF T c p l 0 n (beginM T.1.1)) i : Int)) (2 ^ n) ?_ ?_ 0 (0, g) (Nat.zero_le _) ⟨⟨fun _ _ => rfl, fun _ _ => rfl⟩, rfl⟩
  · intro ⟨v, g3⟩ ⟨r1, r2⟩
    dsimp only at r1 r2
    refine s_X11_floodedOf_6 _ _ _ _ _ _ _ ?_
    dsimp only
    rw [s2, nm_nat (k := 2 ^ n) (by omega)]
    refine ⟨fun _ g4 e4 => ?_, fun z => absurd z (by omega)⟩
    rw [r2, ← hsum, s16]
    refine c_part (by omega) h16 (by omega) ex ⟨_, rfl, ?_⟩
    exact k g4 (h.reS r1 e4) (fun b hb => by rw [e4, up2_ne _ _ _ (by omega)]; exact r1.1 b (by omega))
  · intro i ⟨v, g3⟩ hi ⟨r1, r2⟩ ih
    dsimp only at r1 r2
    have ei : nm (i : Int) = i := nm_id (by omega) (by omega)
    refine s_X11_floodedOf_6 _ _ _ _ _ _ _ ?_
    dsimp only
    rw [s2, ei]
    refine ⟨fun z => absurd z (by omega), fun _ g4 e4 => ?_⟩
    have r4 : RSk g g4 := ⟨fun b hb => by rw [e4, up2_ne _ _ _ (by omega)]; exact r1.1 b hb, fun j hj => by rw [e4]; simp only [up2_ap, if_true]; rw [if_neg hj]; exact r1.2 j hj⟩
    have hM := h.sky (s := i) r4 (by omega) (by rw [e4]; simp [up2_ap])
    have un : smN (skF T c p l 0 n (beginM T.1.1)) (i + 1) = smN (skF T c p l 0 n (beginM T.1.1)) i + skF T c p l 0 n (beginM T.1.1) i := rfl
    have hski := hsk i
    refine c_isCalled hE hM hT.L hp el hz (by omega) (fun g5 f5 => ⟨_, rfl, ?_⟩)
    have r5 : RSk g g5 := ⟨fun b hb => by rw [f5 b (by omega)]; exact r4.1 b hb, fun j hj => by rw [f5 228 (by omega)]; exact r4.2 j hj⟩
    rw [nbI_0, decide_eq_false_iff_not]
    refine ⟨fun z => ih (v, g5) ⟨r5, ?_⟩, fun z => ?_⟩
    · dsimp only
      rw [un, hski, if_neg z, r2]; simp
    · have z := nn z
      rw [if_pos z] at hski
      refine loopN (σ := Int) (fun j v9 => Zm w (d + 5) mX11_floodedOf 37 [some (aR (some 228)), some (aI (c : Int)), some (aI zn), some (aI (p : Int)), some (aI l), some (aI x), some (aL v), none, some (aI (i : Int)), some (aL v9), none, some (aI (j : Int))] [] g5 P) (fun j v9 => v9 = (wtP c i j : Int)) n ?_ ?_ 0 1 (Nat.zero_le _) rfl
      · intro v9 r9
        have en : nm (n : Int) = n := nm_id (by omega) (by omega)
        refine s_X11_floodedOf_37 _ _ _ _ _ _ _ _ _ ?_
        rw [ez, en]
        refine ⟨fun _ v2 e2 => ih (v2, g5) ⟨r5, ?_⟩, fun y => absurd y (by omega)⟩
        dsimp only
        rw [e2, r2, r9, un, hski, wtP_W, Int.natCast_add]
      · intro j v9 hj r9 ih2
        have ej : nm (j : Int) = j := nm_id (by omega) (by omega)
        have eb : isB (i : Int) (j : Int) = bI (i.testBit j) := by
          unfold isB
          rw [(Bt.nat (s := i) (by omega)).test (show j < 30 by omega), nm_bI]
          cases i.testBit j <;> rfl
        have un2 : wtP c i (j + 1) = wtP c i j * (if i.testBit j then c else 16 - c) := rfl
        refine s_X11_floodedOf_37 _ _ _ _ _ _ _ _ _ ?_
        rw [ez, ej, eb, nbI_0, ec, ec6]
        refine ⟨fun y => absurd y (by omega), fun _ => ⟨fun y v4 e4 => ih2 v4 ?_, fun y v5 e5 => ih2 v5 ?_⟩⟩
        · rw [un2, y, e4, r9, Int.natCast_mul]; rfl
        · have y : i.testBit j = true := by simpa using y
          rw [un2, y, e5, r9, Int.natCast_mul]; rfl
theorem j_flooded {x1 x2 x3 x4 x5 : Int} (hT : GT T) (h : IM g T) (e1 : nm x1 = x1) (e2 : nm x2 = x2) (e3 : nm x3 = x3) (e4 : nm x4 = x4) (e5 : nm x5 = x5) (k : ∀ g', IM g' T → FrH g g' → P (some (aL (opFlooded T x1 x2 x3 x4 x5))) g') : Zm w (d + 6) mX11_flooded 0 [some (aR (some 228)), some (aI x1), some (aI x2), some (aI x3), some (aI x4), some (aI x5)] [] g P := by
  refine s_X11_flooded_0 _ _ _ _ _ ?_
  refine j_reads hT h (fun g1 s1 f1 => ⟨rfl, ?_⟩)
  rw [s1.2.1.2.1, nmP1 hT, lin_x e1 (by decide) (by decide), lin_x e2 (by decide) (by decide), inn_x e3, lin_x e4 (by decide) (by decide), inn_x e5]
  unfold opFlooded at k
  have NO : ¬ ((0 ≤ x1 ∧ x1 < 17) ∧ (0 ≤ x2 ∧ x2 < 10) ∧ (0 ≤ x3 ∧ x3 < (nP T.1.1.2 : Int)) ∧ (0 ≤ x4 ∧ x4 < 26) ∧ (0 ≤ x5 ∧ x5 < 2)) → Zm w (d + 6) mX11_flooded 71 [none, none, none, none, none, none] [] g1 P := fun q => by
    rw [if_neg q] at k
    refine s_X11_flooded_71 ?_
    have e : (-9223372036854775808 : Int) - nm (-2) = -9223372036854775806 := by decide
    rw [e]; exact k g1 s1.1 f1
  refine ⟨fun q => NO (fun z => by omega), fun q1 => ⟨fun q => NO (fun z => by omega), fun q2 => ⟨fun q => NO (fun z => by omega), fun q3 => ⟨fun q => NO (fun z => by omega), fun q4 => ⟨fun q => NO (fun z => by omega), fun q5 => ?_⟩⟩⟩⟩⟩
  rw [if_pos (by omega)] at k
  have w1 : x1 = ((x1.toNat : Nat) : Int) := by omega
  have w3 : x3 = ((x3.toNat : Nat) : Int) := by omega
  have := j_floodedOf (w := w) (d := d) (g := g1) (c := x1.toNat) (n := x2.toNat + 1) (p := x3.toNat) (l := x4) (zn := x2) (x := x5) (P := fun r g8 => ∃ z9 : Int, r = some (aL z9) ∧ P (some (aL z9)) g8) hT s1 (by omega) (by omega) (by omega) (by omega) e4 (by omega) e5 (fun g2 s2 f2 => ⟨_, rfl, k g2 s2.1 (f1.trans f2)⟩)
  rw [← w1, ← w3] at this
  exact this
end FL
