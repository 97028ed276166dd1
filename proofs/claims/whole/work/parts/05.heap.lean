/-! the heap: fields, arrays, new cells, answers -/
theorem uw_0 : ∀ q ∈ u_ws RX0 TX0 2, q ∈ lw_gd := by decide +kernel
theorem uw_1 : ∀ q ∈ u_ws RX1 TX1 8, q ∈ lw_gd := by decide +kernel
theorem uw_2 : ∀ q ∈ u_ws RX2 TX2 8, q ∈ lw_gd := by decide +kernel
theorem uw_3 : ∀ q ∈ u_ws RX3 TX3 5, q ∈ lw_gd := by decide +kernel
theorem uw_4 : ∀ q ∈ u_ws RX4 TX4 4, q ∈ lw_gd := by decide +kernel
theorem uw_5 : ∀ q ∈ u_ws RX5 TX5 7, q ∈ lw_gd := by decide +kernel
theorem uw_6 : ∀ q ∈ u_ws RX6 TX6 3, q ∈ lw_gd := by decide +kernel
theorem uw_7 : ∀ q ∈ u_ws RX7 TX7 2, q ∈ lw_gd := by decide +kernel
theorem uw_8 : ∀ q ∈ u_ws RX8 TX8 5, q ∈ lw_gd := by decide +kernel
theorem uw_9 : ∀ q ∈ u_ws RX9 TX9 12, q ∈ lw_gd := by decide +kernel
theorem uw_10 : ∀ q ∈ u_ws RX10 TX10 13, q ∈ lw_gd := by decide +kernel
theorem uw_11 : ∀ q ∈ u_ws RX11 TX11 35, q ∈ lw_gd := by decide +kernel
def ftc (t : FieldType) : Nat := match t with
  | .int => 0
  | .boolean => 1
  | .long => 2
  | .object _ => 3
  | .array _ => 3
  | _ => 9
def ClsOk (ci : Nat) (q : vw_C) : Prop := ncf ci = q.2.2 ∧ ci < 12 ∧ (∀ x ∈ u_ws q.1 q.2.1 q.2.2, x ∈ lw_gd) ∧ ∃ ty : Nat → FieldType, (∀ k, k < q.2.2 → parseFieldDescriptor (q.2.1 k).2.2.1 = some (ty k)) ∧ (∀ a, a < q.2.2 → ∀ b, b < q.2.2 → a ≠ b → (q.2.1 a).2.1 ≠ (q.2.1 b).2.1) ∧ ∀ k, k < q.2.2 → ftc (ty k) = fcd ci k
theorem cok_0 : ClsOk 0 (RX0, TX0, 2) := ⟨rfl, by decide, uw_0, tyX0, tyX0_ok, nmX0, by decide +kernel⟩
theorem cok_1 : ClsOk 1 (RX1, TX1, 8) := ⟨rfl, by decide, uw_1, tyX1, tyX1_ok, nmX1, by decide +kernel⟩
theorem cok_2 : ClsOk 2 (RX2, TX2, 8) := ⟨rfl, by decide, uw_2, tyX2, tyX2_ok, nmX2, by decide +kernel⟩
theorem cok_3 : ClsOk 3 (RX3, TX3, 5) := ⟨rfl, by decide, uw_3, tyX3, tyX3_ok, nmX3, by decide +kernel⟩
theorem cok_4 : ClsOk 4 (RX4, TX4, 4) := ⟨rfl, by decide, uw_4, tyX4, tyX4_ok, nmX4, by decide +kernel⟩
theorem cok_5 : ClsOk 5 (RX5, TX5, 7) := ⟨rfl, by decide, uw_5, tyX5, tyX5_ok, nmX5, by decide +kernel⟩
theorem cok_6 : ClsOk 6 (RX6, TX6, 3) := ⟨rfl, by decide, uw_6, tyX6, tyX6_ok, nmX6, by decide +kernel⟩
theorem cok_7 : ClsOk 7 (RX7, TX7, 2) := ⟨rfl, by decide, uw_7, tyX7, tyX7_ok, nmX7, by decide +kernel⟩
theorem cok_8 : ClsOk 8 (RX8, TX8, 5) := ⟨rfl, by decide, uw_8, tyX8, tyX8_ok, nmX8, by decide +kernel⟩
theorem cok_9 : ClsOk 9 (RX9, TX9, 12) := ⟨rfl, by decide, uw_9, tyX9, tyX9_ok, nmX9, by decide +kernel⟩
theorem cok_10 : ClsOk 10 (RX10, TX10, 13) := ⟨rfl, by decide, uw_10, tyX10, tyX10_ok, nmX10, by decide +kernel⟩
theorem cok_11 : ClsOk 11 (RX11, TX11, 35) := ⟨rfl, by decide, uw_11, tyX11, tyX11_ok, nmX11, by decide +kernel⟩
theorem cls_ok {ci : Nat} {q : vw_C} (h : vwCl[ci]? = some q) : ClsOk ci q := by
  match ci, h with
  | 0, h => cases h; exact cok_0
  | 1, h => cases h; exact cok_1
  | 2, h => cases h; exact cok_2
  | 3, h => cases h; exact cok_3
  | 4, h => cases h; exact cok_4
  | 5, h => cases h; exact cok_5
  | 6, h => cases h; exact cok_6
  | 7, h => cases h; exact cok_7
  | 8, h => cases h; exact cok_8
  | 9, h => cases h; exact cok_9
  | 10, h => cases h; exact cok_10
  | 11, h => cases h; exact cok_11
  | ci + 12, h => simp [vwCl] at h
def up1 {α : Type} (f : Nat → α) (k : Nat) (v : α) : Nat → α := fun j => if j = k then v else f j
def upf {α : Type} (f : Nat → α) (k : Nat) (v : α) : Nat → α := fun j => if j = k then v else f j
def up2 {α : Type} (f : Nat → Nat → α) (a k : Nat) (v : α) : Nat → Nat → α := upf f a (up1 (f a) k v)
theorem up1_eq {α : Type} (f : Nat → α) (k : Nat) (v : α) : up1 f k v k = v := by simp [up1]
theorem up1_ne {α : Type} (f : Nat → α) {k j : Nat} (v : α) (h : j ≠ k) : up1 f k v j = f j := by simp [up1, h]
theorem upf_eq {α : Type} (f : Nat → α) (k : Nat) (v : α) : upf f k v k = v := by simp [upf]
theorem upf_ne {α : Type} (f : Nat → α) {k j : Nat} (v : α) (h : j ≠ k) : upf f k v j = f j := by simp [upf, h]
theorem up2_eq {α : Type} (f : Nat → Nat → α) (a k : Nat) (v : α) : up2 f a k v a = up1 (f a) k v := by simp [up2, upf]
theorem up2_ne {α : Type} (f : Nat → Nat → α) {a b : Nat} (k : Nat) (v : α) (h : b ≠ a) : up2 f a k v b = f b := by simp [up2, upf, h]
/-- a field by its link -/
def FLp (own : String) (idx ci k : Nat) : Prop := ∃ q : vw_C, vwCl[ci]? = some q ∧ k < q.2.2 ∧ Cond.fieldLink own idx (q.2.1 k).1 (q.2.1 k).2.1 (q.2.1 k).2.2.1 ∈ lw_gd
def FWp (own : String) (idx ci k : Nat) : Prop := ∃ q : vw_C, vwCl[ci]? = some q ∧ k < q.2.2 ∧ Cond.fieldLink own idx (q.2.1 k).1 (q.2.1 k).2.1 (q.2.1 k).2.2.1 ∈ lw_gd ∧ (q.2.1 k).2.2.2 = false
def FFp (own : String) (idx ci k : Nat) : Prop := ∃ q : vw_C, vwCl[ci]? = some q ∧ k < q.2.2 ∧ Cond.fieldLink own idx (q.2.1 k).1 (q.2.1 k).2.1 (q.2.1 k).2.2.1 ∈ lw_gd ∧ (q.2.1 k).2.2.2 = true ∧ (q.2.1 k).1 = own
theorem flds_at {w : GX} {t k : Nat} {z : Nat → Int} {r : Nat → Option Nat} (h : k < ncf t) : (flds w t z r)[k]? = some (fval w (fcd t k) (z k) (r k)) := by
  simp [flds, List.getElem?_map, List.getElem?_range h]
theorem flds_set {w : GX} {t k : Nat} {z z' : Nat → Int} {r r' : Nat → Option Nat} {v : Value} (hv : v = fval w (fcd t k) (z' k) (r' k)) (ho : ∀ j, j ≠ k → z' j = z j ∧ r' j = r j) : (flds w t z r).set k v = flds w t z' r' := by
  apply List.ext_getElem?
  intro i
  by_cases hi : i < ncf t
  · rw [flds_at hi]
    by_cases e : i = k
    · subst e
      rw [List.getElem?_set_self (by simpa [flds] using hi), hv]
    · rw [List.getElem?_set_ne (fun h => e h.symm), flds_at hi, (ho i e).1, (ho i e).2]
  · rw [List.getElem?_eq_none (by simp [flds]; omega), List.getElem?_eq_none (by simp [flds]; omega)]
theorem cel_o {w : GX} {k : Nat × Nat} {z : Nat → Int} {r : Nat → Option Nat} {ci : Nat} (h : k.1 = ci) (hc : ci < 12) : cel w k z r = .inr (ci, flds w ci z r) := by
  subst h; simp [cel, hc]
theorem cel_i {w : GX} {k : Nat × Nat} {z : Nat → Int} {r : Nat → Option Nat} {t : Nat} (h : k.1 = t) (hc : t = 12 ∨ t = 13) : cel w k z r = .inl (g_cy w t, k.2, .inl (fun i => Int32.ofInt (z i))) := by
  subst h; rcases hc with h | h <;> simp [cel, h]
theorem cel_r {w : GX} {k : Nat × Nat} {z : Nat → Int} {r : Nat → Option Nat} {t : Nat} (h : k.1 = t) (hc : 14 ≤ t) : cel w k z r = .inl (g_cy w t, k.2, .inr (.inr (.inr (.inr (fun i => (r i).map (adr w)))))) := by
  subst h
  have h1 : ¬ k.1 < 12 := by omega
  have h2 : ¬ k.1 < 14 := by omega
  simp [cel, h1, h2]
theorem Rp.obj {w : GX} {kd : KD} {rf : RF} {n : Nat} {g : GI} {H : Heap} (h : Rp w kd rf n g H) {a ci : Nat} (ha : (kd a).1 = ci) (hc : ci < 12) : (wsx w kd rf n g)[a]? = some (g_bs w + a, .inr (ci, flds w ci (g a) (rf a))) := by
  rw [wsx_get w kd rf g (h.lt (by omega)), cel_o ha hc]
/-- a store into one cell -/
theorem Rp.put {w : GX} {kd : KD} {rf rf' : RF} {n : Nat} {g g' : GI} {H H1 : Heap} (h : Rp w kd rf n g H) {a : Nat} (ha : a < n) (he : va_at (g_D w) vwCl (g_bs w + a, cel w (kd a) (g' a) (rf' a)) H1) (hz : H1.size = H.size) (oq : ∀ q : Nat, q ≠ g_bs w + a → H1[q]? = H[q]?) (ho : ∀ q, q ≠ a → g' q = g q ∧ rf' q = rf q) : Rp w kd rf' n g' H1 := by
  refine ⟨?_, by rw [hz]; exact h.2.1, h.2.2.1, h.2.2.2⟩
  have h1 := h.1.set (wsx_D w kd rf n g) (wsx_get w kd rf g ha) he oq
  rw [wsx_set (kd' := kd) (rf' := rf') (g' := g') (fun q hq => by rw [(ho q hq).1, (ho q hq).2])] at h1
  exact h1
section ZH
variable {w : GX} {d kc ks : Nat} {M : Mth} {pc : Nat} {ls : List (Option AV)} {st : List AV} {kd : KD} {rf : RF} {n : Nat} {g : GI} {Q : Post}
theorem z_get0 {idx ci k a : Nat} {v : AV} (hd : decode M.2.1 pc = .ok (.getfield idx, 3)) (hf : FLp M.2.2.2.2 idx ci k) (hk : (kd a).1 = ci) (hv : fval w (fcd ci k) (g a k) (rf a k) = cv w v) (kk : Zj w d kc ks M (pc + 3) ls (v :: st) kd rf n g Q) : Zj w d kc ks M pc ls (aR (some a) :: st) kd rf n g Q := by
  intro p e R s m args below meth c H locs cells slots mc ms Qc lsC C hR hS h1 h2 hl hq
  obtain ⟨⟨CC, T, N⟩, hc, hkN, hlk⟩ := hf
  obtain ⟨e1, e2, e3, -⟩ := cls_ok hc
  have ht := C.2.2.2.2.2.2.2.1
  show W p (g_l w) e R s m args below meth c H locs cells slots _ (F0 m pc lsC (.ref (adr w a) :: st.map (cv w)))
  rw [hR.adr (by omega)]
  refine va_get (D := g_D w) (ci := ci) (v := cv w v) C.1 C.2.1 ht e3 C.2.2.2.2.2.2.1 C.2.2.2.2.2.2.2.2.1.1 hR.1 a (hR.obj hk e2) hc k hkN (ht _ hlk) (fun _ h => h) ?_ hd (kk p e R s m args below meth c H locs cells slots mc ms Qc lsC C hR hS h1 h2 hl hq)
  rw [flds_at (by rw [e1]; exact hkN), hv]
theorem z_getI {idx ci k a : Nat} (hd : decode M.2.1 pc = .ok (.getfield idx, 3)) (hf : FLp M.2.2.2.2 idx ci k) (ht : fcd ci k < 2) (hk : (kd a).1 = ci) (kk : Zj w d kc ks M (pc + 3) ls (aI (g a k) :: st) kd rf n g Q) : Zj w d kc ks M pc ls (aR (some a) :: st) kd rf n g Q :=
  z_get0 hd hf hk (by unfold fval; rw [if_neg (by omega), if_neg (by omega)]; rfl) kk
theorem z_getL {idx ci k a : Nat} (hd : decode M.2.1 pc = .ok (.getfield idx, 3)) (hf : FLp M.2.2.2.2 idx ci k) (ht : fcd ci k = 2) (hk : (kd a).1 = ci) (kk : Zj w d kc ks M (pc + 3) ls (aL (g a k) :: st) kd rf n g Q) : Zj w d kc ks M pc ls (aR (some a) :: st) kd rf n g Q :=
  z_get0 hd hf hk (by unfold fval; rw [if_pos ht]; rfl) kk
theorem z_getR {idx ci k a : Nat} (hd : decode M.2.1 pc = .ok (.getfield idx, 3)) (hf : FLp M.2.2.2.2 idx ci k) (ht : fcd ci k = 3) (hk : (kd a).1 = ci) (kk : Zj w d kc ks M (pc + 3) ls (aR (rf a k) :: st) kd rf n g Q) : Zj w d kc ks M pc ls (aR (some a) :: st) kd rf n g Q :=
  z_get0 hd hf hk (by unfold fval; rw [if_neg (by omega), if_pos ht]; rfl) kk
/-- a field that is not final -/
theorem z_put0 {idx ci k a : Nat} {v : AV} {g' : GI} (hd : decode M.2.1 pc = .ok (.putfield idx, 3)) (hf : FWp M.2.2.2.2 idx ci k) (hk : (kd a).1 = ci) (hv : cv w v = fval w (fcd ci k) (g' a k) (rf a k)) (ho : ∀ q, q ≠ a → g' q = g q) (ho2 : ∀ j, j ≠ k → g' a j = g a j)
    (hfit : ∀ ty, ftc ty = fcd ci k → narrow ty (cv w v) = cv w v ∧ fits ty (cv w v) = true)
    (kk : Zj w d kc ks M (pc + 3) ls st kd rf n g' Q) : Zj w d kc ks M pc ls (v :: aR (some a) :: st) kd rf n g Q := by
  intro p e R s m args below meth c H locs cells slots mc ms Qc lsC C hR hS h1 h2 hl hq
  obtain ⟨⟨CC, T, N⟩, hc, hkN, hlk, hfin⟩ := hf
  obtain ⟨e1, e2, e3, ty, hty, hnm, htc⟩ := cls_ok hc
  have ht := C.2.2.2.2.2.2.2.1
  have hK := C.2.2.2.2.2.2.2.2.1.1
  show W p (g_l w) e R s m args below meth c H locs cells slots _ (F0 m pc lsC (cv w v :: .ref (adr w a) :: st.map (cv w)))
  rw [hR.adr (by omega)]
  have hlt : a < n := hR.lt (by omega)
  have he := hR.obj hk e2
  have hap := va_apart (own := CC) ht e3 ty hty hnm hK hc
  obtain ⟨r, hr1, cell, q1, q2, q3, q4⟩ := hR.1 a _ he
  have hr : r = (CC, T, N) := Option.some.inj (hr1.symm.trans hc)
  subst hr
  obtain ⟨hSl, hfc, kC, hkC, hkind⟩ := hK.1 ci _ hc
  obtain ⟨cf, kf, fi, f, hi, hsl⟩ := hSl k hkN
  have hlay := ht _ (e3 _ (u_in_lay hkN))
  unfold u_lay at hlay
  rw [if_neg (by rw [hfin]; decide)] at hlay
  have hst := (u_facts hfc hkC (u_lays ht e3 hkN) hi).1
  obtain ⟨hn, hft⟩ := hfit (ty k) (htc k hkN)
  have h6 := u_store hfc hkC hkind hlay hi (hty k hkN) hn hft
  refine W.putK C.1 C.2.1 (f := f) ⟨C.2.2.2.2.2.2.1, ht _ hlk, ⟨_, _, _, hi⟩, hst⟩ (by rw [q2]; exact h6) q1 q3 (by rw [hsl]; exact k2_hasslot (q4 k hkN)) rfl rfl hd fun H' f1 f2 f3 => ?_
  rw [hsl] at f1 ⊢
  have hset : (flds w ci (g a) (rf a)).set k (cv w v) = flds w ci (g' a) (rf a) := flds_set hv (fun j hj => ⟨ho2 j hj, rfl⟩)
  have hat : va_at (g_D w) vwCl (g_bs w + a, cel w (kd a) (g' a) (rf a)) H' := by
    rw [cel_o hk e2, ← hset]
    exact ⟨_, hc, t_OB.to (V := updV (vp_V (flds w ci (g a) (rf a))) k (cv w v)) ⟨_, f1, q2, q3, t_set q4 hap hkN (cv w v)⟩ (fun j _ => vp_updV_set (by simp only [flds, List.length_map, List.length_range]; rw [e1]; exact hkN) _ j)⟩
  exact kk p e R s m args below meth c H' _ cells slots mc ms Qc lsC C (hR.put hlt hat f2 f3 (fun q hq => ⟨ho q hq, rfl⟩)) (hS.put f2 f3 (by show g_bs w ≤ g_bs w + a; omega)) h1 h2 hl hq
theorem z_putI {idx ci k a : Nat} {z : Int} (hd : decode M.2.1 pc = .ok (.putfield idx, 3)) (hf : FWp M.2.2.2.2 idx ci k) (ht : fcd ci k = 0) (hk : (kd a).1 = ci) (kk : Zj w d kc ks M (pc + 3) ls st kd rf n (up2 g a k z) Q) : Zj w d kc ks M pc ls (aI z :: aR (some a) :: st) kd rf n g Q :=
  z_put0 hd hf hk (by rw [up2_eq, up1_eq, ht]; rfl) (fun q hq => up2_ne _ _ _ hq) (fun j hj => by rw [up2_eq, up1_ne _ _ hj]) (fun ty h => by rw [ht] at h; cases ty <;> first | (simp [ftc] at h; done) | exact ⟨rfl, rfl⟩) kk
theorem z_putZ {idx ci k a : Nat} {z : Int} (hd : decode M.2.1 pc = .ok (.putfield idx, 3)) (hf : FWp M.2.2.2.2 idx ci k) (ht : fcd ci k = 1) (hk : (kd a).1 = ci) (hz : z = 0 ∨ z = 1) (kk : Zj w d kc ks M (pc + 3) ls st kd rf n (up2 g a k z) Q) : Zj w d kc ks M pc ls (aI z :: aR (some a) :: st) kd rf n g Q :=
  z_put0 hd hf hk (by rw [up2_eq, up1_eq, ht]; rfl) (fun q hq => up2_ne _ _ _ hq) (fun j hj => by rw [up2_eq, up1_ne _ _ hj]) (fun ty h => by rw [ht] at h; cases ty <;> first | (simp [ftc] at h; done) | (rcases hz with rfl | rfl <;> exact ⟨rfl, rfl⟩)) kk
theorem z_putL {idx ci k a : Nat} {z : Int} (hd : decode M.2.1 pc = .ok (.putfield idx, 3)) (hf : FWp M.2.2.2.2 idx ci k) (ht : fcd ci k = 2) (hk : (kd a).1 = ci) (kk : Zj w d kc ks M (pc + 3) ls st kd rf n (up2 g a k z) Q) : Zj w d kc ks M pc ls (aL z :: aR (some a) :: st) kd rf n g Q :=
  z_put0 hd hf hk (by rw [up2_eq, up1_eq, ht]; rfl) (fun q hq => up2_ne _ _ _ hq) (fun j hj => by rw [up2_eq, up1_ne _ _ hj]) (fun ty h => by rw [ht] at h; cases ty <;> first | (simp [ftc] at h; done) | exact ⟨rfl, rfl⟩) kk
/-- a final field that holds a reference, in its constructor -/
theorem z_putF {idx ci k a r : Nat} (hd : decode M.2.1 pc = .ok (.putfield idx, 3)) (hf : FFp M.2.2.2.2 idx ci k) (ht3 : fcd ci k = 3) (hin : M.1.name = "<init>") (hk : (kd a).1 = ci) (kk : Zj w d kc ks M (pc + 3) ls st kd (up2 rf a k (some r)) n g Q) : Zj w d kc ks M pc ls (aR (some r) :: aR (some a) :: st) kd rf n g Q := by
  intro p e R s m args below meth c H locs cells slots mc ms Qc lsC C hR hS h1 h2 hl hq
  obtain ⟨⟨CC, T, N⟩, hc, hkN, hlk, hfin, hdecl⟩ := hf
  obtain ⟨e1, e2, e3, ty, hty, hnm, htc⟩ := cls_ok hc
  have ht := C.2.2.2.2.2.2.2.1
  have hK := C.2.2.2.2.2.2.2.2.1.1
  show W p (g_l w) e R s m args below meth c H locs cells slots _ (F0 m pc lsC (.ref (adr w r) :: .ref (adr w a) :: st.map (cv w)))
  rw [hR.adr (a := a) (by omega)]
  have hlt : a < n := hR.lt (by omega)
  have he := hR.obj hk e2
  have hap := va_apart (own := CC) ht e3 ty hty hnm hK hc
  obtain ⟨r', hr1, cell, q1, q2, q3, q4⟩ := hR.1 a _ he
  have hr : r' = (CC, T, N) := Option.some.inj (hr1.symm.trans hc)
  subst hr
  obtain ⟨hSl, hfc, kC, hkC, hkind⟩ := hK.1 ci _ hc
  obtain ⟨cf, kf, fi, f, hi, hsl⟩ := hSl k hkN
  have hlay := ht _ (e3 _ (u_in_lay hkN))
  unfold u_lay at hlay
  rw [if_pos hfin] at hlay
  have hst := (u_facts hfc hkC (u_lays ht e3 hkN) hi).1
  have hcf : m.cls = cf := by
    obtain ⟨_, _, c', _, _, _, -, -, hf', -, -, -, hown2, -⟩ := Cond.laysFinal_spec hlay
    have e1 : c' = cf := by have := hi.symm.trans hf'; simp at this; exact this.1.symm
    have hd2 : (T k).1 = M.2.2.2.2 := hdecl
    rw [hd2] at hown2
    rw [← e1]; exact Option.some.inj (C.2.2.2.2.2.2.1.symm.trans hown2)
  have hty3 := htc k hkN
  rw [ht3] at hty3
  have hnf : narrow (ty k) (.ref (adr w r)) = .ref (adr w r) ∧ fits (ty k) (.ref (adr w r)) = true := by
    cases hh : ty k <;> rw [hh] at hty3 <;> first | (simp [ftc] at hty3; done) | exact ⟨rfl, rfl⟩
  have h6 := u_fits hfc hkC hkind (Or.inr hlay) hi (hty k hkN) hnf.1 hnf.2
  refine W.putFinK C.1 C.2.1 C.2.2.2.2.2.2.1 (ht _ hlk) hi hst hcf (C.2.2.2.2.2.1.trans hin) (by rw [q2]; exact h6) q1 q3 (by rw [hsl]; exact k2_hasslot (q4 k hkN)) rfl rfl hd fun H' f1 f2 f3 => ?_
  rw [hsl] at f1 ⊢
  have hset : (flds w ci (g a) (rf a)).set k (.ref (adr w r)) = flds w ci (g a) (up2 rf a k (some r) a) := flds_set (by rw [up2_eq, up1_eq, ht3]; rfl) (fun j hj => ⟨rfl, by rw [up2_eq, up1_ne _ _ hj]⟩)
  have hat : va_at (g_D w) vwCl (g_bs w + a, cel w (kd a) (g a) (up2 rf a k (some r) a)) H' := by
    rw [cel_o hk e2, ← hset]
    exact ⟨_, hc, t_OB.to (V := updV (vp_V (flds w ci (g a) (rf a))) k (.ref (adr w r))) ⟨_, f1, q2, q3, t_set q4 hap hkN (.ref (adr w r))⟩ (fun j _ => vp_updV_set (by simp only [flds, List.length_map, List.length_range]; rw [e1]; exact hkN) _ j)⟩
  exact kk p e R s m args below meth c H' _ cells slots mc ms Qc lsC C (hR.put hlt hat f2 f3 (fun q hq => ⟨rfl, up2_ne _ _ _ hq⟩)) (hS.put f2 f3 (by show g_bs w ≤ g_bs w + a; omega)) h1 h2 hl hq
theorem in_of {i : Int} {N : Nat} (h1 : 0 ≤ nm i) (h2 : nm i < N) : vp_in (Int32.ofInt i) N := vp_in_iff.mpr ⟨h1, h2⟩
theorem cl_of {i : Int} : (Int32.ofInt i).toNatClampNeg = (nm i).toNat := rfl
theorem z_iald {a : Nat} {i : Int} (hd : decode M.2.1 pc = .ok (.iaload, 1)) (hk : (kd a).1 = 12) (h0 : 0 ≤ nm i) (hi : nm i < ((kd a).2 : Int)) (kk : Zj w d kc ks M (pc + 1) ls (aI (g a (nm i).toNat) :: st) kd rf n g Q) : Zj w d kc ks M pc ls (aI i :: aR (some a) :: st) kd rf n g Q := by
  intro p e R s m args below meth c H locs cells slots mc ms Qc lsC C hR hS h1 h2 hl hq
  show W p (g_l w) e R s m args below meth c H locs cells slots _ (F0 m pc lsC (.int (Int32.ofInt i) :: .ref (adr w a) :: st.map (cv w)))
  rw [hR.adr (by omega)]
  exact va_iald (f := fun i => Int32.ofInt (g a i)) C.1 C.2.1 C.2.2.2.2.2.2.2.2.1.1 hR.1 a 0 (by rw [wsx_get w kd rf g (hR.lt (by omega)), cel_i hk (Or.inl rfl)]) rfl (in_of h0 hi) hd (kk p e R s m args below meth c H locs cells slots mc ms Qc lsC C hR hS h1 h2 hl hq)
theorem z_bald {a : Nat} {i : Int} (hd : decode M.2.1 pc = .ok (.baload, 1)) (hk : (kd a).1 = 13) (h0 : 0 ≤ nm i) (hi : nm i < ((kd a).2 : Int)) (kk : Zj w d kc ks M (pc + 1) ls (aI (g a (nm i).toNat) :: st) kd rf n g Q) : Zj w d kc ks M pc ls (aI i :: aR (some a) :: st) kd rf n g Q := by
  intro p e R s m args below meth c H locs cells slots mc ms Qc lsC C hR hS h1 h2 hl hq
  show W p (g_l w) e R s m args below meth c H locs cells slots _ (F0 m pc lsC (.int (Int32.ofInt i) :: .ref (adr w a) :: st.map (cv w)))
  rw [hR.adr (by omega)]
  exact va_zald (f := fun i => Int32.ofInt (g a i)) C.1 C.2.1 C.2.2.2.2.2.2.2.2.1.1 hR.1 a 1 (by rw [wsx_get w kd rf g (hR.lt (by omega)), cel_i hk (Or.inr rfl)]) rfl (in_of h0 hi) hd (kk p e R s m args below meth c H locs cells slots mc ms Qc lsC C hR hS h1 h2 hl hq)
theorem z_aald {a : Nat} {i : Int} (hd : decode M.2.1 pc = .ok (.aaload, 1)) (hk : 14 ≤ (kd a).1 ∧ (kd a).1 < 17) (h0 : 0 ≤ nm i) (hi : nm i < ((kd a).2 : Int)) (kk : Zj w d kc ks M (pc + 1) ls (aR (rf a (nm i).toNat) :: st) kd rf n g Q) : Zj w d kc ks M pc ls (aI i :: aR (some a) :: st) kd rf n g Q := by
  intro p e R s m args below meth c H locs cells slots mc ms Qc lsC C hR hS h1 h2 hl hq
  show W p (g_l w) e R s m args below meth c H locs cells slots _ (F0 m pc lsC (.int (Int32.ofInt i) :: .ref (adr w a) :: st.map (cv w)))
  rw [hR.adr (by omega)]
  have hg := wsx_get w kd rf g (hR.lt (a := a) (by omega))
  have hc := kk p e R s m args below meth c H locs cells slots mc ms Qc lsC C hR hS h1 h2 hl hq
  have hK := C.2.2.2.2.2.2.2.2.1.1
  rcases (show (kd a).1 = 14 ∨ (kd a).1 = 15 ∨ (kd a).1 = 16 by omega) with h | h | h
  · exact va_aldq (f := fun i => (rf a i).map (adr w)) C.1 C.2.1 hK hR.1 a 2 (by rw [hg, cel_r h (by decide)]) rfl (in_of h0 hi) hd hc
  · exact va_aldq (f := fun i => (rf a i).map (adr w)) C.1 C.2.1 hK hR.1 a 3 (by rw [hg, cel_r h (by decide)]) rfl (in_of h0 hi) hd hc
  · exact va_aldq (f := fun i => (rf a i).map (adr w)) C.1 C.2.1 hK hR.1 a 4 (by rw [hg, cel_r h (by decide)]) rfl (in_of h0 hi) hd hc
theorem z_iast {a : Nat} {i z : Int} (hd : decode M.2.1 pc = .ok (.iastore, 1)) (hk : (kd a).1 = 12) (h0 : 0 ≤ nm i) (hi : nm i < ((kd a).2 : Int)) (kk : Zj w d kc ks M (pc + 1) ls st kd rf n (up2 g a (nm i).toNat z) Q) : Zj w d kc ks M pc ls (aI z :: aI i :: aR (some a) :: st) kd rf n g Q := by
  intro p e R s m args below meth c H locs cells slots mc ms Qc lsC C hR hS h1 h2 hl hq
  show W p (g_l w) e R s m args below meth c H locs cells slots _ (F0 m pc lsC (.int (Int32.ofInt z) :: .int (Int32.ofInt i) :: .ref (adr w a) :: st.map (cv w)))
  rw [hR.adr (by omega)]
  have hlt : a < n := hR.lt (by omega)
  have hg := wsx_get w kd rf g hlt
  rw [cel_i hk (Or.inl rfl)] at hg
  refine W.iast C.1 C.2.1 (hR.1 a _ hg) ((C.2.2.2.2.2.2.2.2.1.1.2 0 _ rfl).1 (kd a).2 (fun j => .int (Int32.ofInt (g a j)))) (fun q => by cases q) (by show ¬ (_ < 0 ∨ (arrV _ _ _).slots.size ≤ _); rw [arrV_size]; exact in_of h0 hi) rfl rfl hd fun H1 e1 z1 oq => ?_
  have hat : va_at (g_D w) vwCl (g_bs w + a, cel w (kd a) (up2 g a (nm i).toNat z a) (rf a)) H1 := by
    rw [cel_i hk (Or.inl rfl), up2_eq]
    show H1[g_bs w + a]? = some (vp_cell _ _)
    rw [e1, vp_cell_i, vp_cell_i, arrV_store]
    congr 2
    funext q
    by_cases hq : q = (nm i).toNat
    · subst hq; simp [updV, up1, cl_of]
    · simp [updV, up1, hq, cl_of]
  exact kk p e R s m args below meth c H1 _ cells slots mc ms Qc lsC C (hR.put hlt hat z1 oq (fun q hq => ⟨up2_ne _ _ _ hq, rfl⟩)) (hS.put z1 oq (by show g_bs w ≤ g_bs w + a; omega)) h1 h2 hl hq
theorem z_bast {a : Nat} {i z : Int} (hd : decode M.2.1 pc = .ok (.bastore, 1)) (hk : (kd a).1 = 13) (h0 : 0 ≤ nm i) (hi : nm i < ((kd a).2 : Int)) (hz : z = 0 ∨ z = 1) (kk : Zj w d kc ks M (pc + 1) ls st kd rf n (up2 g a (nm i).toNat z) Q) : Zj w d kc ks M pc ls (aI z :: aI i :: aR (some a) :: st) kd rf n g Q := by
  intro p e R s m args below meth c H locs cells slots mc ms Qc lsC C hR hS h1 h2 hl hq
  show W p (g_l w) e R s m args below meth c H locs cells slots _ (F0 m pc lsC (.int (Int32.ofInt z) :: .int (Int32.ofInt i) :: .ref (adr w a) :: st.map (cv w)))
  rw [hR.adr (by omega)]
  have hlt : a < n := hR.lt (by omega)
  have hg := wsx_get w kd rf g hlt
  rw [cel_i hk (Or.inr rfl)] at hg
  refine W.zast C.1 C.2.1 (hR.1 a _ hg) ((C.2.2.2.2.2.2.2.2.1.1.2 1 _ rfl).1 (kd a).2 (fun j => .int (Int32.ofInt (g a j)))) (fun q => by cases q) (by show ¬ (_ < 0 ∨ (arrV _ _ _).slots.size ≤ _); rw [arrV_size]; exact in_of h0 hi) rfl rfl hd fun H1 e1 z1 oq => ?_
  have hnz : narrow .boolean (.int (Int32.ofInt z)) = .int (Int32.ofInt z) := by rcases hz with rfl | rfl <;> rfl
  have hat : va_at (g_D w) vwCl (g_bs w + a, cel w (kd a) (up2 g a (nm i).toNat z a) (rf a)) H1 := by
    rw [cel_i hk (Or.inr rfl), up2_eq]
    show H1[g_bs w + a]? = some (vp_cell _ _)
    rw [e1, hnz, vp_cell_i, vp_cell_i, arrV_store]
    congr 2
    funext q
    by_cases hq : q = (nm i).toNat
    · subst hq; simp [updV, up1, cl_of]
    · simp [updV, up1, hq, cl_of]
  exact kk p e R s m args below meth c H1 _ cells slots mc ms Qc lsC C (hR.put hlt hat z1 oq (fun q hq => ⟨up2_ne _ _ _ hq, rfl⟩)) (hS.put z1 oq (by show g_bs w ≤ g_bs w + a; omega)) h1 h2 hl hq
theorem z_alen {a : Nat} (hd : decode M.2.1 pc = .ok (.arraylength, 1)) (hk : (kd a).1 = 12) (kk : Zj w d kc ks M (pc + 1) ls (aI ((kd a).2 : Int) :: st) kd rf n g Q) : Zj w d kc ks M pc ls (aR (some a) :: st) kd rf n g Q := by
  intro p e R s m args below meth c H locs cells slots mc ms Qc lsC C hR hS h1 h2 hl hq
  show W p (g_l w) e R s m args below meth c H locs cells slots _ (F0 m pc lsC (.ref (adr w a) :: st.map (cv w)))
  rw [hR.adr (by omega)]
  exact va_alen C.1 C.2.1 C.2.2.2.2.2.2.2.2.1.1 hR.1 a 0 (by rw [wsx_get w kd rf g (hR.lt (by omega)), cel_i hk (Or.inl rfl)]) rfl (v := Int32.ofInt ((kd a).2 : Int)) (by exact (Int32.ofInt_eq_ofNat).symm) hd (kk p e R s m args below meth c H locs cells slots mc ms Qc lsC C hR hS h1 h2 hl hq)
theorem z_sld {i : Int} (hd : decode M.2.1 pc = .ok (.iaload, 1)) (h0 : 0 ≤ nm i) (hi : nm i < (g_L w : Int)) (kk : Zj w d kc ks M (pc + 1) ls (aI (g_xs w (nm i).toNat).toInt :: st) kd rf n g Q) : Zj w d kc ks M pc ls (aI i :: aR (some SC) :: st) kd rf n g Q := by
  intro p e R s m args below meth c H locs cells slots mc ms Qc lsC C hR hS h1 h2 hl hq
  have hc := kk p e R s m args below meth c H locs cells slots mc ms Qc lsC C hR hS h1 h2 hl hq
  simp only [List.map_cons, cv, Int32.ofInt_toInt] at hc
  have ea : adr w SC = g_b w := if_pos rfl
  show W p (g_l w) e R s m args below meth c H locs cells slots _ (F0 m pc lsC (.int (Int32.ofInt i) :: .ref (adr w SC) :: st.map (cv w)))
  rw [ea]
  obtain ⟨k1, k2, -, -, -, -, -, -, -, k3, k4, k5, -⟩ := C
  exact va_sld (A := Ab w) k1 k2 k5 (by omega) (by show ¬ (g_bs w ≤ g_b w); omega) hS (in_of h0 hi) hd hc
theorem z_slen (hd : decode M.2.1 pc = .ok (.arraylength, 1)) (kk : Zj w d kc ks M (pc + 1) ls (aI (g_L w : Int) :: st) kd rf n g Q) : Zj w d kc ks M pc ls (aR (some SC) :: st) kd rf n g Q := by
  intro p e R s m args below meth c H locs cells slots mc ms Qc lsC C hR hS h1 h2 hl hq
  have hc := kk p e R s m args below meth c H locs cells slots mc ms Qc lsC C hR hS h1 h2 hl hq
  simp only [List.map_cons, cv] at hc
  rw [show Int32.ofInt (g_L w : Int) = Int32.ofNat (g_L w) from Int32.ofInt_eq_ofNat] at hc
  have ea : adr w SC = g_b w := if_pos rfl
  show W p (g_l w) e R s m args below meth c H locs cells slots _ (F0 m pc lsC (.ref (adr w SC) :: st.map (cv w)))
  rw [ea]
  obtain ⟨k1, k2, -, -, -, -, -, -, -, k3, k4, k5, -⟩ := C
  exact va_slen (A := Ab w) k1 k2 k5 (by omega) (by show ¬ (g_bs w ≤ g_b w); omega) hS hd hc
/-! answers -/
theorem z_iret {z : Int} (hd : decode M.2.1 pc = .ok (.ireturn, 1)) (hr : M.2.2.2.1 = some .int) (hQ : Q (some (aI z)) kd rf n g) : Zj w d kc ks M pc ls [aI z] kd rf n g Q := by
  intro p e R s m args below meth c H locs cells slots mc ms Qc lsC C hR hS h1 h2 hl hq
  have hlocks := C.2.2.2.1
  exact W.widen (by omega) (by omega) (W.iret C.1 C.2.1 (C.2.2.1.trans hr) (fun t ht hW => hq (some (aI z)) kd rf n g t hQ (by rw [ht]; exact hR) (hS.F ht)) hS.2.2 hd)
theorem z_zret {z : Int} (hd : decode M.2.1 pc = .ok (.ireturn, 1)) (hr : M.2.2.2.1 = some .boolean) (hz : z = 0 ∨ z = 1) (hQ : Q (some (aI z)) kd rf n g) : Zj w d kc ks M pc ls [aI z] kd rf n g Q := by
  intro p e R s m args below meth c H locs cells slots mc ms Qc lsC C hR hS h1 h2 hl hq
  have hlocks := C.2.2.2.1
  exact W.widen (by omega) (by omega) (W.zret (ty := .boolean) C.1 C.2.1 (C.2.2.1.trans hr) (by rcases hz with rfl | rfl <;> rfl) (fun t ht hW => hq (some (aI z)) kd rf n g t hQ (by rw [ht]; exact hR) (hS.F ht)) hS.2.2 hd)
theorem z_lret {z : Int} (hd : decode M.2.1 pc = .ok (.lreturn, 1)) (hr : M.2.2.2.1 = some .long) (hQ : Q (some (aL z)) kd rf n g) : Zj w d kc ks M pc ls [aL z] kd rf n g Q := by
  intro p e R s m args below meth c H locs cells slots mc ms Qc lsC C hR hS h1 h2 hl hq
  have hlocks := C.2.2.2.1
  exact W.widen (by omega) (by omega) (W.lret C.1 C.2.1 (C.2.2.1.trans hr) (fun t ht hW => hq (some (aL z)) kd rf n g t hQ (by rw [ht]; exact hR) (hS.F ht)) hS.2.2 hd)
theorem z_aret {a : Nat} {C0 : String} (hd : decode M.2.1 pc = .ok (.areturn, 1)) (hr : M.2.2.2.1 = some (.object C0)) (hQ : Q (some (aR (some a))) kd rf n g) : Zj w d kc ks M pc ls [aR (some a)] kd rf n g Q := by
  intro p e R s m args below meth c H locs cells slots mc ms Qc lsC C hR hS h1 h2 hl hq
  have hlocks := C.2.2.2.1
  exact W.widen (by omega) (by omega) (W.aret (v := .ref (adr w a)) C.1 C.2.1 (C.2.2.1.trans hr) (Or.inl ⟨_, rfl⟩) (Or.inr ⟨_, rfl⟩) (fun t ht hW => hq (some (aR (some a))) kd rf n g t hQ (by rw [ht]; exact hR) (hS.F ht)) hS.2.2 hd)
theorem z_vret (hd : decode M.2.1 pc = .ok (.return_, 1)) (hr : M.2.2.2.1 = none) (hQ : Q none kd rf n g) : Zj w d kc ks M pc ls [] kd rf n g Q := by
  intro p e R s m args below meth c H locs cells slots mc ms Qc lsC C hR hS h1 h2 hl hq
  have hlocks := C.2.2.2.1
  exact W.widen (by omega) (by omega) (W.vret C.1 C.2.1 (C.2.2.1.trans hr) (fun t ht hW => hq none kd rf n g t hQ (by rw [ht]; exact hR) (hS.F ht)) hS.2.2 hd)
end ZH
