/-! the model: its rows of names against the one list -/
def RwM (g : GI) (n c : Nat) (al : List Nat) (h : Nat → Nat) : Prop := ∀ e, c ≤ e → e < n → g 242 e = ((h e - h (e + 1) : Nat) : Int) ∧ ∀ i, i < h e - h (e + 1) → g 241 (28 * e + i) = (al.getD (h (e + 1) + i) 0 : Int)
def NmM (g : GI) (o : Om) (wear : Int) (m : Mu) : Prop := (∀ x, x < nN o → g 243 x = (m.1 x : Int) ∧ g 244 x = (m.2.1 x : Int) ∧ g 245 x = letM o wear m x) ∧ ∀ p, p < nP o.2 → g 246 p = (m.2.2.1 p : Int)
def MW (g : GI) (o : Om) (wear : Int) (m : Mu) : Prop := (∃ h, Sg (nC o.1) 0 m.1 m.2.2.2 h ∧ RwM g (nC o.1) 0 m.2.2.2 h) ∧ (∀ c, nC o.1 ≤ c → c < 20 → g 242 c = 0) ∧ NmM g o wear m
def WM (g : GI) (o : Om) : Prop := WRM g o.1 ∧ WPM g o.2
def Fr1 (g g' : GI) : Prop := ∀ b, b < 241 ∨ 246 < b → g' b = g b
theorem Fr1.rfl {g : GI} : Fr1 g g := fun _ _ => Eq.refl _
theorem Fr1.trans {g g' g'' : GI} (h : Fr1 g g') (h' : Fr1 g' g'') : Fr1 g g'' := fun b hb => (h' b hb).trans (h b hb)
section MT
variable {w : GX} {d : Nat} {P : PN} {g : GI}
theorem c_comesInto {x c K : Nat} (hx : x < 28) (hc : c < 20) (hK : g 242 c = (K : Int)) (hK2 : K < 28) (k : P none (up2 (up2 (up2 g 241 (28 * c + K) x) 242 c ((K : Int) + 1)) 243 x c)) : Zm w d mX11_comesInto 0 [some (aR (some 228)), some (aI (x : Int)), some (aI (c : Int))] [] g P := by
  have ec : nm (c : Int) = c := nm_id (by omega) (by omega)
  have ex : nm (x : Int) = x := nm_id (by omega) (by omega)
  have ei : nm (28 * (c : Int) + (K : Int)) = ((28 * c + K : Nat) : Int) := by rw [nm_id (by omega) (by omega)]; omega
  refine s_X11_comesInto_0 _ _ ?_
  rw [ec, Int.toNat_natCast, hK, ei, ex, Int.toNat_natCast, Int.toNat_natCast]
  refine ⟨by omega, by omega, by omega, by omega, fun g5 e5 g6 e6 => ⟨by omega, by omega, fun g7 e7 => ?_⟩⟩
  subst e5
  rw [up2_ne _ _ _ (by omega), hK] at e6
  subst e6; subst e7
  exact k
theorem c_taken {c i K : Nat} (hc : c < 20) (hi : i < K) (hK2 : K ≤ 28) (hK : g 242 c = (K : Int)) {ci : Int} (hci : ci = (i : Int))
    (k : ∀ g' : GI, (∀ b, b ≠ 241 → b ≠ 242 → g' b = g b) → (∀ e, g' 242 e = if e = c then ((K - 1 : Nat) : Int) else g 242 e) → (∀ e, e < 28 * c ∨ 28 * c + 28 ≤ e → g' 241 e = g 241 e) → (∀ j, j < K - 1 → g' 241 (28 * c + j) = if j < i then g 241 (28 * c + j) else g 241 (28 * c + (j + 1))) → P (some (aI (g 241 (28 * c + i)))) g') : Zm w d mX11_taken 0 [some (aR (some 228)), some (aI (c : Int)), some (aI ci), none, none] [] g P := by
  subst hci
  have ec : nm (c : Int) = c := nm_id (by omega) (by omega)
  have ei : nm (28 * (c : Int) + (i : Int)) = ((28 * c + i : Nat) : Int) := by rw [nm_id (by omega) (by omega)]; omega
  have eK : nm (K : Int) = K := nm_id (by omega) (by omega)
  refine s_X11_taken_0 _ _ ?_
  rw [ei, Int.toNat_natCast]
  refine ⟨by omega, by omega, fun v5 e5 v6 e6 => ?_⟩
  subst e6; subst e5
  have := loopN (σ := GI) (fun j s => Zm w d mX11_taken 17 [some (aR (some 228)), some (aI (c : Int)), none, some (aI (g 241 (28 * c + i))), some (aI ((i + 1 + j : Nat) : Int))] [] s P) (fun j s => (∀ b, b ≠ 241 → s b = g b) ∧ (∀ e, e < 28 * c ∨ 28 * c + 28 ≤ e → s 241 e = g 241 e) ∧ ∀ l, l < K → s 241 (28 * c + l) = if i ≤ l ∧ l < i + j then g 241 (28 * c + (l + 1)) else g 241 (28 * c + l)) (K - 1 - i) ?_ ?_ 0 g (Nat.zero_le _) ⟨fun _ _ => rfl, fun _ _ => rfl, fun l _ => by rw [if_neg (by omega)]⟩
  · exact this
  · intro g3 ⟨r1, r2, r3⟩
    have e1 : nm ((i + 1 + (K - 1 - i) : Nat) : Int) = K := by rw [nm_id (by omega) (by omega)]; omega
    refine s_X11_taken_17 _ _ _ ?_
    rw [ec, Int.toNat_natCast, r1 242 (by omega), hK, eK, e1]
    refine ⟨by omega, by omega, fun _ g4 e4 => ?_, fun q => absurd q (by omega)⟩
    subst e4
    refine k _ (fun b h1 h2 => by rw [up2_ne _ _ _ h2]; exact r1 b h1) (fun e => ?_) (fun e he => by rw [up2_ne _ _ _ (by omega)]; exact r2 e he) (fun j hj => ?_)
    · simp only [up2_ap, if_true]
      by_cases q : e = c
      · rw [if_pos q, if_pos q]; omega
      · rw [if_neg q, if_neg q, r1 242 (by omega)]
    · rw [up2_ne _ _ _ (by omega), r3 j (by omega)]
      by_cases q : j < i
      · rw [if_neg (by omega), if_pos q]
      · rw [if_pos (by omega), if_neg q]
  · intro j g3 hj ⟨r1, r2, r3⟩ ih
    have e1 : nm ((i + 1 + j : Nat) : Int) = ((i + 1 + j : Nat) : Int) := nm_id (by omega) (by omega)
    have e2 : nm (28 * (c : Int) + ((i + 1 + j : Nat) : Int)) = ((28 * c + (i + 1 + j) : Nat) : Int) := by rw [nm_id (by omega) (by omega)]; omega
    have e3 : nm (28 * (c : Int) + ((i + 1 + j : Nat) : Int) - 1) = ((28 * c + (i + j) : Nat) : Int) := by rw [nm_id (by omega) (by omega)]; omega
    refine s_X11_taken_17 _ _ _ ?_
    rw [ec, Int.toNat_natCast, r1 242 (by omega), hK, eK, e1, e2, e3, Int.toNat_natCast, Int.toNat_natCast]
    refine ⟨by omega, by omega, fun q => absurd q (by omega), fun _ => ⟨by omega, by omega, by omega, by omega, fun g4 e4 => ?_⟩⟩
    refine ih g4 ⟨fun b hb => by rw [e4, up2_ne _ _ _ hb]; exact r1 b hb, fun e he => ?_, fun l hl => ?_⟩
    · rw [e4]; simp only [up2_ap, if_true]; rw [if_neg (by omega)]; exact r2 e he
    · rw [e4]; simp only [up2_ap, if_true]
      by_cases q : l = i + j
      · rw [if_pos (by omega), if_pos (by omega), r3 (i + 1 + j) (by omega), if_neg (by omega), q]
        congr 1; omega
      · rw [if_neg (by omega), r3 l hl]
        by_cases z : i ≤ l ∧ l < i + j
        · rw [if_pos z, if_pos (by omega)]
        · rw [if_neg z, if_neg (by omega)]
theorem MW.same {g g' : GI} {o : Om} {wear : Int} {m : Mu} (h : MW g o wear m) (hf : ∀ b, 240 < b → b < 247 → g' b = g b) : MW g' o wear m := by
  unfold MW RwM NmM at *
  rw [hf 241 (by omega) (by omega), hf 242 (by omega) (by omega), hf 243 (by omega) (by omega), hf 244 (by omega) (by omega), hf 245 (by omega) (by omega), hf 246 (by omega) (by omega)]
  exact h
theorem WM.same {g g' : GI} {o : Om} (h : WM g o) (hf : ∀ b, b < 241 → g' b = g b) : WM g' o := by
  unfold WM WRM WPM at *
  rw [hf 228 (by omega), hf 235 (by omega), hf 236 (by omega), hf 237 (by omega)]
  exact h
/-- what is left in the list, and where they are, when two are exchanged -/
theorem exch_at {o : Om} {m : Mu} (hB : BO o) (hf : Wf o m) {p luck : Nat} (hp : p < nP o.2) (hz : m.2.2.2.length - low m ≠ 0) :
    (exchM p luck m) = ((up1 (up1 m.1 (m.2.2.1 p) 0) (m.2.2.2.getD (exAt luck m) 0) (22 + p), m.2.1, up1 m.2.2.1 p (m.2.2.2.getD (exAt luck m) 0), m.2.2.2.eraseIdx (exAt luck m) ++ [m.2.2.1 p]), true) ∧
    (m.2.2.2.eraseIdx (exAt luck m) ++ [m.2.2.1 p]).length = m.2.2.2.length ∧
    (∀ j, j < m.2.2.2.length → (m.2.2.2.eraseIdx (exAt luck m) ++ [m.2.2.1 p]).getD j 0 = if j < m.2.2.2.length - 1 then (if j < exAt luck m then m.2.2.2.getD j 0 else m.2.2.2.getD (j + 1) 0) else m.2.2.1 p) ∧
    (∀ j, j < m.2.2.2.length → j ≠ exAt luck m → up1 (up1 m.1 (m.2.2.1 p) 0) (m.2.2.2.getD (exAt luck m) 0) (22 + p) (m.2.2.2.getD j 0) = m.1 (m.2.2.2.getD j 0)) ∧
    up1 (up1 m.1 (m.2.2.1 p) 0) (m.2.2.2.getD (exAt luck m) 0) (22 + p) (m.2.2.1 p) = 0 ∧ m.2.2.1 p ≠ m.2.2.2.getD (exAt luck m) 0 := by
  obtain ⟨h1, h2, h3, h4, h5, h6, h7⟩ := hf
  have hat := exAt_lt (luck := luck) hz
  have hC := hB.1
  have hP := hB.2
  have hh := h5 p hp
  have ht0 : m.1 (m.2.2.2.getD (exAt luck m) 0) = 0 := lowF_hi _ _ _ _ (show lowF m.1 m.2.2.2 m.2.2.2.length ≤ exAt luck m from Nat.le_add_right _ _) hat
  have hht : m.2.2.1 p ≠ m.2.2.2.getD (exAt luck m) 0 := fun e => by rw [e, ht0] at hh; omega
  refine ⟨?_, ?_, ?_, ?_, ?_, hht⟩
  · unfold exchM; rw [if_neg hz]
  · rw [List.length_append, erase_len _ hat]; simp; omega
  · intro j hj
    rw [getD_snoc, erase_len _ hat, erase_at _ hat]
    by_cases q : j < m.2.2.2.length - 1
    · rw [if_pos q, if_pos q]
    · rw [if_neg q, if_neg q, if_pos (by omega)]
  · intro j hj hne
    have n1 : m.2.2.2.getD j 0 ≠ m.2.2.2.getD (exAt luck m) 0 := fun e => hne (h1 j _ hj hat e)
    have n2 : m.2.2.2.getD j 0 ≠ m.2.2.1 p := fun e => by
      have := (h2 j hj).2
      rw [e, hh.2] at this
      omega
    rw [up1_ne _ _ n1, up1_ne _ _ n2]
  · rw [up1_ne _ _ hht, up1_eq]
set_option maxHeartbeats 1000000 in
theorem c_trades {o : Om} {wear : Int} {m : Mu} {kc p lk : Nat} (hB : BO o) (hwm : WM g o) (hw : MW g o wear m) (hf : Wf o m) (hp : p < nP o.2) (hk : kc < 36) (hl : lk < 1000) (hlo : -1 ≤ g 228 28 ∧ g 228 28 < 1000) (hlk : (if (p : Int) = g 228 28 then g 228 29 else g 237 (4 * p + 3)) = (lk : Int))
    (k : ∀ g' : GI, MW g' o wear (exchM p lk m).1 → (∀ b, b < 241 ∨ 247 < b → g' b = g b) → (∀ j, g' 247 j = if j = kc then (if (exchM p lk m).2 then 1 else g 247 j) else g 247 j) → P none g') : Zm w (d + 1) mX11_trades 0 [some (aR (some 228)), some (aI (kc : Int)), some (aI (p : Int)), none, none] [] g P := by
  obtain ⟨⟨h, hs, hr⟩, hz, hn⟩ := id hw
  have hC := hB.1
  have hP := hB.2
  have hN := nN_le hB
  have n0 : nm 0 = 0 := by decide
  have n2 : nm 2 = 2 := by decide
  have eC : nm (nC o.1 : Int) = nC o.1 := nm_id (by omega) (by omega)
  have ep : nm (p : Int) = p := nm_id (by omega) (by omega)
  have el : nm (g 228 28) = g 228 28 := nm_id (by omega) (by omega)
  have e4 : nm (4 * (p : Int) + 3) = ((4 * p + 3 : Nat) : Int) := by rw [nm_id (by omega) (by omega)]; omega
  have NO : m.2.2.2.length - low m = 0 → P none g := by
    intro q
    have e : exchM p lk m = (m, false) := by unfold exchM; rw [if_pos q]
    rw [e] at k
    exact k g hw (fun _ _ => rfl) (fun j => by simp)
  refine s_X11_trades_0 _ _ ?_
  rw [hwm.1.1, eC, n0, n2, show (0 : Int).toNat = 0 from rfl]
  refine ⟨fun q => NO ?_, fun q => ?_⟩
  · have : m.2.2.2.length = 0 := by have h1 := hs.1; have h2 := hs.2.1; rw [show nC o.1 = 0 by omega] at h1; omega
    omega
  have hC0 : 0 < nC o.1 := by omega
  have hlow := hs.lw hC0
  have hh0 : h 0 = m.2.2.2.length := hs.2.1
  have hh1 : h 1 ≤ h 0 := (hs.2.2 0 (Nat.le_refl _) hC0).1
  have hlen := hf.len hB
  have hr0 := hr 0 (Nat.le_refl _) hC0
  rw [show (0 : Nat) + 1 = 1 from rfl] at hr0
  rw [(hwm.1.2.2 0 hC0).1, nm_kob, hr0.1]
  have eK : nm ((h 0 - h 1 : Nat) : Int) = ((h 0 - h 1 : Nat) : Int) := nm_id (by omega) (by omega)
  rw [eK]
  refine ⟨fun q2 => NO ?_, fun q2 => ⟨fun q3 => ?_, fun q3 => NO (by omega)⟩⟩
  · refine Classical.byContradiction fun q3 => ?_
    have hlt : h 1 < m.2.2.2.length := by omega
    have := hf.2.2.2.2.2.1 (h 1) hlt ((hs.2.2 0 (Nat.le_refl _) hC0).2 (h 1) (Nat.le_refl _) (by omega))
    unfold isNm at this
    have := of_decide_eq_true this
    omega
  have hzz : m.2.2.2.length - low m ≠ 0 := by omega
  suffices H : ∀ y : Int, y = (lk : Int) → Zm w (d + 1) mX11_trades 52 [some (aR (some 228)), some (aI (kc : Int)), some (aI (p : Int)), none, none] [aI y] g P by
    rw [ep, el, e4, Int.toNat_natCast]
    refine ⟨fun z => ⟨by omega, by omega, H _ ?_⟩, fun z => H _ ?_⟩
    · rw [if_neg z] at hlk; exact hlk
    · rw [if_pos z] at hlk; exact hlk
  intro y hy
  subst hy
  obtain ⟨x1, x2, x3, x4, x5, x6⟩ := exch_at hB hf (luck := lk) hp hzz
  have hat := exAt_lt (luck := lk) hzz
  have hA : exAt lk m = h 1 + lk % (h 0 - h 1) := by unfold exAt; rw [hlow, ← hh0]
  have hi : lk % (h 0 - h 1) < h 0 - h 1 := Nat.mod_lt _ (by omega)
  generalize hI : lk % (h 0 - h 1) = I at hA hi
  generalize hAe : exAt lk m = A at *
  have eR : iRem (lk : Int) ((h 0 - h 1 : Nat) : Int) = (I : Int) := by rw [iRem_nat (by omega) (by omega) (by omega), hI]
  refine s_X11_trades_52 _ _ _ ?_
  rw [n0, show (0 : Int).toNat = 0 from rfl, hr0.1, eK, eR]
  refine ⟨q3, ?_⟩
  refine c_taken (c := 0) (i := I) (K := h 0 - h 1) (by omega) hi (by omega) hr0.1 rfl (fun g4 f4 a4 b4 c4 => ⟨_, rfl, ?_⟩)
  have eT : g 241 (28 * 0 + I) = (m.2.2.2.getD A 0 : Int) := by rw [hr0.2 I hi, hA]
  rw [eT]
  have hTn := (hf.2.1 A hat).1
  have hhp := (hf.2.2.2.2.1 p hp)
  generalize hT : m.2.2.2.getD A 0 = T at *
  rw [ep, Int.toNat_natCast, f4 246 (by omega) (by omega), hn.2 p hp]
  refine ⟨by omega, by omega, ?_⟩
  refine c_comesInto (x := m.2.2.1 p) (c := 0) (K := h 0 - h 1 - 1) (by omega) (by omega) (by rw [a4 0, if_pos rfl]) (by omega) ⟨rfl, fun g6 e6 => ?_⟩
  have eT' : nm (T : Int) = T := nm_id (by omega) (by omega)
  have ek : nm (kc : Int) = kc := nm_id (by omega) (by omega)
  rw [eT', Int.toNat_natCast, ek, Int.toNat_natCast]
  refine ⟨by omega, by omega, fun g7 e7 => ⟨by omega, by omega, fun g8 e8 => ?_⟩⟩
  rw [x1] at k
  have r241 : ∀ e, g8 241 e = if e = h 0 - h 1 - 1 then (m.2.2.1 p : Int) else g4 241 e := fun e => by
    rw [e8, up2_ne _ _ _ (by omega), e7, up2_ne _ _ _ (by omega), e6, up2_ne _ _ _ (by omega), up2_ne _ _ _ (by omega), up2_ne _ _ _ (by omega)]
    simp [up2_ap]
  have r242 : ∀ e, g8 242 e = g 242 e := fun e => by
    rw [e8, up2_ne _ _ _ (by omega), e7, up2_ne _ _ _ (by omega), e6, up2_ne _ _ _ (by omega), up2_ne _ _ _ (by omega)]
    simp only [up2_ap, if_true]
    by_cases q : e = 0
    · rw [if_pos q, q, hr0.1]; omega
    · rw [if_neg q, if_neg (by omega), a4, if_neg q]
  have r243 : ∀ e, g8 243 e = if e = T then 22 + (p : Int) else if e = m.2.2.1 p then 0 else g 243 e := fun e => by
    rw [e8, up2_ne _ _ _ (by omega), e7, e6]
    simp only [up2_ap, if_true]
    simp [f4 243 (by omega) (by omega)]
  have r246 : ∀ e, g8 246 e = if e = p then (T : Int) else g 246 e := fun e => by
    rw [e8, up2_ne _ _ _ (by omega), e7, up2_ne _ _ _ (by omega), e6]
    simp only [up2_ap, if_true]
    by_cases q : e = p
    · rw [if_pos q, if_pos q]
    · rw [if_neg q, if_neg q, if_neg (by omega), if_neg (by omega), if_neg (by omega), f4 246 (by omega) (by omega)]
  have rfr : ∀ b, b ≠ 241 → b ≠ 242 → b ≠ 243 → b ≠ 246 → b ≠ 247 → g8 b = g b := fun b b1 b2 b3 b4 b5 => by
    rw [e8, up2_ne _ _ _ b5, e7, up2_ne _ _ _ b3, e6, up2_ne _ _ _ b4, up2_ne _ _ _ b3, up2_ne _ _ _ b2, up2_ne _ _ _ b1, f4 b b1 b2]
  refine k g8 ⟨⟨h, ⟨hs.1, by rw [x2]; exact hs.2.1, fun e he1 he2 => ⟨(hs.2.2 e he1 he2).1, fun j j1 j2 => ?_⟩⟩, fun e he1 he2 => ⟨by rw [r242]; exact (hr e he1 he2).1, fun i hi' => ?_⟩⟩, fun c c1 c2 => by rw [r242]; exact hz c c1 c2, fun x hx => ?_, fun q hq => ?_⟩ (fun b hb => rfr b (by omega) (by omega) (by omega) (by omega) (by omega)) (fun j => ?_)
  · -- where they are
    show up1 (up1 m.1 (m.2.2.1 p) 0) T (22 + p) ((m.2.2.2.eraseIdx A ++ [m.2.2.1 p]).getD j 0) = e
    have hle := hs.anti 0 e (Nat.zero_le _) (by omega)
    rw [x3 j (by omega)]
    by_cases q0 : e = 0
    · subst q0
      split
      · split
        · rw [x4 j (by omega) (by omega)]; exact (hs.2.2 0 he1 he2).2 j j1 j2
        · rw [x4 (j + 1) (by omega) (by omega)]; exact (hs.2.2 0 he1 he2).2 (j + 1) (by omega) (by omega)
      · exact x5
    · have h1e := hs.anti 1 e (by omega) (by omega)
      rw [if_pos (by omega), if_pos (by omega), x4 j (by omega) (by omega)]
      exact (hs.2.2 e he1 he2).2 j j1 j2
  · show g8 241 (28 * e + i) = ((m.2.2.2.eraseIdx A ++ [m.2.2.1 p]).getD (h (e + 1) + i) 0 : Int)
    have hle := hs.anti 0 e (Nat.zero_le _) (by omega)
    rw [r241, x3 (h (e + 1) + i) (by omega)]
    by_cases q0 : e = 0
    · subst q0
      have hi' : i < h 0 - h 1 := hi'
      rw [show 28 * 0 + i = i by omega, show (0 : Nat) + 1 = 1 from rfl]
      have c4' := c4 i
      rw [show 28 * 0 + i = i by omega] at c4'
      by_cases q : i = h 0 - h 1 - 1
      · rw [if_pos q, if_neg (by omega)]
      · rw [if_neg q, if_pos (by omega), c4' (by omega)]
        have hri := hr0.2 i (by omega)
        rw [show 28 * 0 + i = i by omega] at hri
        by_cases z : i < I
        · rw [if_pos z, if_pos (by omega), hri]
        · rw [if_neg z, if_neg (by omega), hr0.2 (i + 1) (by omega)]
          congr 2
    · have h1e := hs.anti 1 e (by omega) (by omega)
      have hee := (hs.2.2 e he1 he2).1
      rw [if_neg (by omega), b4 _ (by omega), if_pos (by omega), if_pos (by omega)]
      exact (hr e he1 he2).2 i hi'
  · have hnx := hn.1 x hx
    refine ⟨?_, by rw [rfr 244 (by omega) (by omega) (by omega) (by omega) (by omega)]; exact hnx.2.1, by rw [rfr 245 (by omega) (by omega) (by omega) (by omega) (by omega)]; exact hnx.2.2⟩
    rw [r243]
    show _ = ((up1 (up1 m.1 (m.2.2.1 p) 0) T (22 + p) x : Nat) : Int)
    simp only [up1_ap]
    split
    · omega
    · split
      · rfl
      · exact hnx.1
  · show g8 246 q = ((up1 m.2.2.1 p T q : Nat) : Int)
    rw [r246]
    simp only [up1_ap]
    split
    · rfl
    · exact hn.2 q hq
  · rw [e8]
    simp only [up2_ap, if_true]
    split
    · rfl
    · rw [e7, up2_ne _ _ _ (by omega), e6, up2_ne _ _ _ (by omega), up2_ne _ _ _ (by omega), up2_ne _ _ _ (by omega), up2_ne _ _ _ (by omega), f4 247 (by omega) (by omega)]
/-- one is caught -/
theorem MW.sell {g g4 g5 : GI} {o : Om} {wear : Int} {m : Mu} {c : Nat} {h : Nat → Nat} (hB : BO o) (hf : Wf o m) (hs : Sg (nC o.1) 0 m.1 m.2.2.2 h) (hr : RwM g (nC o.1) 0 m.2.2.2 h) (hz : ∀ c, nC o.1 ≤ c → c < 20 → g 242 c = 0) (hn : NmM g o wear m) (hc : c < nC o.1) (hK : h (c + 1) < h c)
    (f4 : ∀ b, b ≠ 241 → b ≠ 242 → g4 b = g b) (a4 : ∀ e, g4 242 e = if e = c then ((h c - h (c + 1) - 1 : Nat) : Int) else g 242 e) (b4 : ∀ e, e < 28 * c ∨ 28 * c + 28 ≤ e → g4 241 e = g 241 e) (c4 : ∀ j, j < h c - h (c + 1) - 1 → g4 241 (28 * c + j) = g 241 (28 * c + (j + 1))) (e5 : g5 = up2 g4 243 (m.2.2.2.getD (h (c + 1)) 0) 21) : MW g5 o wear (sellM c m) := by
  have hC := hB.1
  have hlen := hf.len hB
  have hse := hs.se hc
  rw [if_pos hK] at hse
  have hcl := hs.le (c := c) (by omega)
  have hat : h (c + 1) < m.2.2.2.length := by omega
  generalize hT : m.2.2.2.getD (h (c + 1)) 0 = T at e5
  have hsell : sellM c m = (up1 m.1 T 21, m.2.1, m.2.2.1, m.2.2.2.eraseIdx (h (c + 1))) := by unfold sellM; rw [hse, if_pos hat, hT]
  rw [hsell]
  have hget : ∀ j, (m.2.2.2.eraseIdx (h (c + 1))).getD j 0 = if j < h (c + 1) then m.2.2.2.getD j 0 else m.2.2.2.getD (j + 1) 0 := fun j => erase_at _ hat
  have hwo : ∀ j, j < m.2.2.2.length → j ≠ h (c + 1) → up1 m.1 T 21 (m.2.2.2.getD j 0) = m.1 (m.2.2.2.getD j 0) := fun j hj hne => up1_ne _ _ (fun e => hne (hf.1 j _ hj hat (by rw [e, hT])))
  have hl' := erase_len m.2.2.2 hat
  refine ⟨⟨fun e => if e ≤ c then h e - 1 else h e, ⟨?_, ?_, fun e he1 he2 => ⟨?_, fun j j1 j2 => ?_⟩⟩, fun e he1 he2 => ⟨?_, fun i hi => ?_⟩⟩, fun e e1 e2 => ?_, fun x hx => ?_, fun p hp => ?_⟩
  · show (if nC o.1 ≤ c then _ else _) = 0
    rw [if_neg (by omega)]; exact hs.1
  · show (if 0 ≤ c then h 0 - 1 else _) = (m.2.2.2.eraseIdx (h (c + 1))).length
    rw [if_pos (Nat.zero_le _), hl', hs.2.1]
  · show (if e + 1 ≤ c then h (e + 1) - 1 else h (e + 1)) ≤ (if e ≤ c then h e - 1 else h e)
    have := (hs.2.2 e he1 he2).1
    by_cases q : e ≤ c
    · rw [if_pos q]
      split
      · omega
      · have : e = c := by omega
        subst this; omega
    · rw [if_neg q, if_neg (by omega)]; exact this
  · have j1 : (if e + 1 ≤ c then h (e + 1) - 1 else h (e + 1)) ≤ j := j1
    have j2 : j < (if e ≤ c then h e - 1 else h e) := j2
    show up1 m.1 T 21 ((m.2.2.2.eraseIdx (h (c + 1))).getD j 0) = e
    rw [hget]
    have hle := hs.anti 0 e (Nat.zero_le _) (by omega)
    have h0 : h 0 = m.2.2.2.length := hs.2.1
    by_cases q : e ≤ c
    · rw [if_pos q] at j2
      have hce := hs.anti e c q (by omega)
      by_cases q2 : e + 1 ≤ c
      · rw [if_pos q2] at j1
        have := hs.anti (e + 1) c q2 (by omega)
        rw [if_neg (by omega), hwo (j + 1) (by omega) (by omega)]
        exact (hs.2.2 e he1 he2).2 (j + 1) (by omega) (by omega)
      · rw [if_neg q2] at j1
        have : e = c := by omega
        subst this
        rw [if_neg (by omega), hwo (j + 1) (by omega) (by omega)]
        exact (hs.2.2 e he1 he2).2 (j + 1) (by omega) (by omega)
    · rw [if_neg q] at j2
      rw [if_neg (by omega)] at j1
      have := hs.anti (c + 1) e (by omega) (by omega)
      rw [if_pos (by omega), hwo j (by omega) (by omega)]
      exact (hs.2.2 e he1 he2).2 j j1 j2
  · show g5 242 e = (((if e ≤ c then h e - 1 else h e) - (if e + 1 ≤ c then h (e + 1) - 1 else h (e + 1)) : Nat) : Int)
    rw [e5, up2_ne _ _ _ (by omega), a4]
    by_cases q : e = c
    · subst q; rw [if_pos rfl, if_pos (Nat.le_refl _), if_neg (by omega)]; omega
    · rw [if_neg q, (hr e he1 he2).1]
      by_cases q2 : e ≤ c
      · have := hs.anti (e + 1) c (by omega) (by omega)
        rw [if_pos q2, if_pos (by omega)]; omega
      · rw [if_neg q2, if_neg (by omega)]
  · have hi : i < (if e ≤ c then h e - 1 else h e) - (if e + 1 ≤ c then h (e + 1) - 1 else h (e + 1)) := hi
    show g5 241 (28 * e + i) = ((m.2.2.2.eraseIdx (h (c + 1))).getD ((if e + 1 ≤ c then h (e + 1) - 1 else h (e + 1)) + i) 0 : Int)
    have hle := hs.anti 0 e (Nat.zero_le _) (by omega)
    have h0 : h 0 = m.2.2.2.length := hs.2.1
    rw [e5, up2_ne _ _ _ (by omega)]
    by_cases q : e = c
    · subst q
      rw [if_pos (Nat.le_refl _), if_neg (by omega)] at hi
      rw [if_neg (show ¬ e + 1 ≤ e by omega), hget, if_neg (by omega), c4 i (by omega), (hr e he1 he2).2 (i + 1) (by omega)]
      congr 2
    · by_cases q2 : e ≤ c
      · have := hs.anti (e + 1) c (by omega) (by omega)
        have := hs.anti e c (by omega) (by omega)
        rw [if_pos q2, if_pos (by omega)] at hi
        rw [b4 _ (by omega), if_pos (show e + 1 ≤ c by omega), hget, if_neg (by omega), (hr e he1 he2).2 i (by omega)]
        congr 2; omega
      · have := hs.anti (c + 1) e (by omega) (by omega)
        rw [if_neg q2, if_neg (by omega)] at hi
        rw [b4 _ (by omega), if_neg (show ¬ e + 1 ≤ c by omega), hget, if_pos (by omega)]
        exact (hr e he1 he2).2 i hi
  · rw [e5, up2_ne _ _ _ (by omega), a4, if_neg (by omega)]; exact hz e e1 e2
  · have hnx := hn.1 x hx
    refine ⟨?_, by rw [e5, up2_ne _ _ _ (by omega), f4 244 (by omega) (by omega)]; exact hnx.2.1, by rw [e5, up2_ne _ _ _ (by omega), f4 245 (by omega) (by omega)]; exact hnx.2.2⟩
    rw [e5]
    show _ = ((up1 m.1 T 21 x : Nat) : Int)
    simp only [up2_ap, up1_ap, if_true]
    split
    · rfl
    · rw [f4 243 (by omega) (by omega)]; exact hnx.1
  · rw [e5, up2_ne _ _ _ (by omega), f4 246 (by omega) (by omega)]; exact hn.2 p hp
end MT
