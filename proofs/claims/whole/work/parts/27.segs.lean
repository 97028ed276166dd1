/-! the cells' names in one list: where each cell's part begins -/
def Sg (n c : Nat) (wh : Nat → Nat) (al : List Nat) (h : Nat → Nat) : Prop := h n = 0 ∧ h c = al.length ∧ ∀ e, c ≤ e → e < n → h (e + 1) ≤ h e ∧ ∀ j, h (e + 1) ≤ j → j < h e → wh (al.getD j 0) = e
theorem Sg.lt {n : Nat} {wh : Nat → Nat} {al : List Nat} {h : Nat → Nat} (H : Sg n 0 wh al h) : ∀ k c, n - c = k → c ≤ n → ∀ j, j < h c → c ≤ wh (al.getD j 0)
  | 0, c, hk, hc, j, hj => by
    have : c = n := by omega
    subst this
    rw [H.1] at hj
    exact absurd hj (Nat.not_lt_zero j)
  | k + 1, c, hk, hc, j, hj => by
    by_cases q : j < h (c + 1)
    · have := Sg.lt H k (c + 1) (by omega) (by omega) j q
      omega
    · rw [(H.2.2 c (Nat.zero_le _) (by omega)).2 j (by omega) hj]
      exact Nat.le_refl _
theorem Sg.ge {n : Nat} {wh : Nat → Nat} {al : List Nat} {h : Nat → Nat} (H : Sg n 0 wh al h) : ∀ c, c < n → ∀ j, h (c + 1) ≤ j → j < al.length → wh (al.getD j 0) ≤ c
  | 0, hc, j, h1, h2 => by
    rw [(H.2.2 0 (Nat.le_refl _) hc).2 j h1 (by rw [H.2.1]; exact h2)]
    exact Nat.le_refl _
  | c + 1, hc, j, h1, h2 => by
    by_cases q : j < h (c + 1)
    · rw [(H.2.2 (c + 1) (Nat.zero_le _) hc).2 j h1 q]
      exact Nat.le_refl _
    · have := Sg.ge H c (by omega) j (by omega) h2
      omega
theorem Sg.anti {n : Nat} {wh : Nat → Nat} {al : List Nat} {h : Nat → Nat} (H : Sg n 0 wh al h) : ∀ c e, c ≤ e → e ≤ n → h e ≤ h c
  | c, 0, h1, _ => by rw [show c = 0 by omega]; exact Nat.le_refl _
  | c, e + 1, h1, h2 => by
    by_cases q : c = e + 1
    · rw [q]; exact Nat.le_refl _
    · have := Sg.anti H c e (by omega) (by omega)
      have := (H.2.2 e (Nat.zero_le _) (by omega)).1
      omega
theorem Sg.le {n : Nat} {wh : Nat → Nat} {al : List Nat} {h : Nat → Nat} (H : Sg n 0 wh al h) {c : Nat} (hc : c ≤ n) : h c ≤ al.length := by have := H.anti 0 c (Nat.zero_le _) hc; rw [H.2.1] at this; exact this
theorem Sg.lw {n : Nat} {m : Mu} {h : Nat → Nat} (H : Sg n 0 m.1 m.2.2.2 h) (hn : 0 < n) : low m = h 1 := by
  have h1 := H.le (c := 1) (by omega)
  have hl := low_le m
  rcases Nat.lt_trichotomy (low m) (h 1) with q | q | q
  · have a := lowF_hi m.1 m.2.2.2 m.2.2.2.length (low m) (Nat.le_refl _) (by omega)
    have b := H.lt (n - 1) 1 rfl (by omega) (low m) q
    omega
  · exact q
  · have a := lowF_lo m.1 m.2.2.2 m.2.2.2.length (show 0 < low m by omega)
    have b := H.ge 0 hn (low m - 1) (show h 1 ≤ low m - 1 by omega) (by omega)
    exact absurd (Nat.le_zero.mp b) a
theorem Sg.se {n : Nat} {m : Mu} {h : Nat → Nat} (H : Sg n 0 m.1 m.2.2.2 h) {c : Nat} (hc : c < n) : seAt c m = if h (c + 1) < h c then h (c + 1) else m.2.2.2.length := by
  have h1 := H.le (c := c) (by omega)
  by_cases q : h (c + 1) < h c
  · rw [if_pos q]
    refine fdx_one (by omega) (fun j hj => decide_eq_false ?_) (fun _ => decide_eq_true ((H.2.2 c (Nat.zero_le _) hc).2 _ (Nat.le_refl _) q))
    have := H.lt (n - (c + 1)) (c + 1) rfl (by omega) j hj
    omega
  · rw [if_neg q]
    refine fdx_one (Nat.le_refl _) (fun j hj => decide_eq_false ?_) (fun z => absurd z (Nat.lt_irrefl _))
    intro e
    by_cases z : j < h (c + 1)
    · have := H.lt (n - (c + 1)) (c + 1) rfl (by omega) j z
      omega
    · cases c with
      | zero => rw [H.2.1] at q; omega
      | succ c =>
        have := H.ge c (by omega) j (by omega) hj
        omega
theorem se_out {o : Om} {m : Mu} (hf : Wf o m) {c : Nat} (hc : nC o.1 ≤ c) : seAt c m = m.2.2.2.length :=
  fdx_one (Nat.le_refl _) (fun j hj => decide_eq_false (by have := (hf.2.1 j hj).2; omega)) (fun z => absurd z (Nat.lt_irrefl _))
/-- how worn at most -/
def Wo (m : Mu) (B : Nat) : Prop := ∀ x, m.2.1 x ≤ B
theorem Wo.begin (o : Om) : Wo (beginM o) 0 := fun _ => Nat.le_refl 0
theorem Wo.mono {m : Mu} {B B' : Nat} (h : Wo m B) (hb : B ≤ B') : Wo m B' := fun x => Nat.le_trans (h x) hb
theorem Wo.exch {m : Mu} {B p luck : Nat} (h : Wo m B) : Wo (exchM p luck m).1 B := by
  unfold exchM
  split
  · exact h
  · exact h
theorem Wo.sell {m : Mu} {B c : Nat} (h : Wo m B) : Wo (sellM c m) B := by
  unfold sellM
  split
  · exact h
  · exact h
theorem Wo.drs {m : Mu} {B : Nat} (t0 : List Int) (day : Nat) (hn : ∀ i j, i < m.2.2.2.length → j < m.2.2.2.length → m.2.2.2.getD i 0 = m.2.2.2.getD j 0 → i = j) (h : Wo m B) : ∀ i, i ≤ m.2.2.2.length → Wo (drK t0 day m i) (B + 1)
  | 0, _ => fun x => Nat.le_succ_of_le (h x)
  | i + 1, hi => fun x => by
    have ih := Wo.drs t0 day hn h i (by omega)
    by_cases e : x = m.2.2.2.getD i 0
    · have hw := (drK_wh t0 day m hn i (by omega) i (Nat.le_refl _) (by omega)).2
      show (dr1 t0 day (drK t0 day m i) (m.2.2.2.getD i 0)).2.1 x ≤ _
      rw [e]
      unfold dr1
      have := h (m.2.2.2.getD i 0)
      split
      · show up1 _ _ _ _ ≤ _
        rw [up1_eq, hw]; omega
      · show (drK t0 day m i).2.1 _ ≤ _
        rw [hw]; omega
    · have := (dr1_wh t0 day (drK t0 day m i) e).2
      show (dr1 t0 day (drK t0 day m i) (m.2.2.2.getD i 0)).2.1 x ≤ _
      rw [this]; exact ih x
theorem Wo.drift {m : Mu} {B : Nat} {o : Om} (hf : Wf o m) (day : Nat) (h : Wo m B) : Wo (driftM o.1 day m) (B + 1) := Wo.drs o.1 day hf.1 h _ (Nat.le_refl _)
theorem Wo.cross {o : Om} {cs : Log2} {su : Sup} {d B : Nat} {m : Mu} (h : Wo m B) : ∀ k, Wo (crossM o cs su d k m) B
  | 0 => h
  | k + 1 => by
    have ih := Wo.cross (o := o) (cs := cs) (su := su) (d := d) h k
    show Wo (if _ then _ else _) B
    split
    · exact ih.exch
    · exact ih
theorem Wo.catch {ca : Log2} {d B : Nat} {m : Mu} (h : Wo m B) : ∀ k, Wo (catchM ca d k m) B
  | 0 => h
  | k + 1 => by
    have ih := Wo.catch (ca := ca) (d := d) h k
    show Wo (if _ then _ else _) B
    split
    · exact ih.sell
    · exact ih
theorem Wo.drifts {o : Om} {fl : Nat → Bool} {d B : Nat} {m : Mu} (hB : BO o) (hf : Wf o m) (h : Wo m B) : Wo (driftsM o.1 fl d m) (B + 2) := by
  unfold driftsM
  split
  · exact (h.drift hf d).drift (hf.drift hB d) d
  · exact (h.drift hf d).mono (by omega)
theorem Wo.day {o : Om} {cs ca : Log2} {su : Sup} {fl : Nat → Bool} {d B : Nat} {m : Mu} (hB : BO o) (h0 : ∀ k, k < cs.length → 0 ≤ (cs.getD k (0, 0)).2) (hf : Wf o m) (h : Wo m B) : Wo (dayM o cs su ca fl d m) (B + 2) :=
  Wo.drifts hB ((hf.cross hB h0 _ (Nat.le_refl _)).catch hB _) ((h.cross _).catch _)
theorem Wo.ahead {o : Om} {cs ca : Log2} {su : Sup} {fl : Nat → Bool} (hB : BO o) (h0 : ∀ k, k < cs.length → 0 ≤ (cs.getD k (0, 0)).2) : ∀ d, Wo (aheadM o cs su ca fl d) (2 * d)
  | 0 => Wo.begin o
  | d + 1 => (Wo.ahead hB h0 d).day hB h0 (Wf.ahead hB h0 d)
/-- names in the cells ahead of c -/
abbrev cntN (t0 : List Int) (c : Nat) : Nat := ((List.range c).filter (isNm t0)).length
theorem cntN_s (t0 : List Int) (c : Nat) : cntN t0 (c + 1) = cntN t0 c + (if isNm t0 c then 1 else 0) := by
  unfold cntN
  rw [rvN_succ, List.length_append]
  cases isNm t0 c <;> simp
theorem cnt_mono (t0 : List Int) : ∀ c e, c ≤ e → cntN t0 c ≤ cntN t0 e
  | c, 0, h => by rw [show c = 0 by omega]; exact Nat.le_refl _
  | c, e + 1, h => by
    by_cases q : c = e + 1
    · rw [q]; exact Nat.le_refl _
    · have := cnt_mono t0 c e (by omega)
      have := cntN_s t0 e
      omega
theorem cnt_at (t0 : List Int) {c : Nat} (hc : isNm t0 c = true) : ∀ n, c < n → ((List.range n).filter (isNm t0)).getD (cntN t0 c) 0 = c
  | 0, h => absurd h (Nat.not_lt_zero c)
  | n + 1, h => by
    rw [rvN_succ]
    by_cases q : c = n
    · subst q
      rw [if_pos hc, getD_snoc, if_neg (Nat.lt_irrefl _), if_pos rfl]
    · have ih := cnt_at t0 hc n (by omega)
      have h1 := cnt_mono t0 (c + 1) n (by omega)
      have h2 := cntN_s t0 c
      rw [if_pos hc] at h2
      by_cases z : isNm t0 n = true
      · rw [if_pos z, getD_snoc, if_pos (show cntN t0 c < ((List.range n).filter (isNm t0)).length by have : cntN t0 n = ((List.range n).filter (isNm t0)).length := rfl; omega)]
        exact ih
      · rw [if_neg z, List.append_nil]; exact ih
theorem cofF_at {t0 : List Int} {c : Nat} (hc : isNm t0 c = true) (h : c < nC t0) : cofF t0 (cntN t0 c) = c := cnt_at t0 hc _ h
