
/-! numbers, values, stores, the judgement -/
def nm (z : Int) : Int := (Int32.ofInt z).toInt
def nml (z : Int) : Int := (Int64.ofInt z).toInt
theorem nm_id {z : Int} (h1 : -2147483648 ≤ z) (h2 : z < 2147483648) : nm z = z := by
  unfold nm; rw [Int32.toInt_ofInt]; show z.bmod (2 ^ 32) = z; exact Int.bmod_eq_of_le (by omega) (by omega)
theorem nml_id {z : Int} (h1 : -9223372036854775808 ≤ z) (h2 : z < 9223372036854775808) : nml z = z := by
  unfold nml; rw [Int64.toInt_ofInt]; show z.bmod (2 ^ 64) = z; exact Int.bmod_eq_of_le (by omega) (by omega)
theorem nm_rng (z : Int) : -2147483648 ≤ nm z ∧ nm z < 2147483648 := by
  have h1 := Int32.le_toInt (Int32.ofInt z)
  have h2 := Int32.toInt_lt (Int32.ofInt z)
  unfold nm; omega
theorem nml_rng (z : Int) : -9223372036854775808 ≤ nml z ∧ nml z < 9223372036854775808 := by
  have h1 := Int64.le_toInt (Int64.ofInt z)
  have h2 := Int64.toInt_lt (Int64.ofInt z)
  unfold nml; omega
theorem of_nm (z : Int) : Int32.ofInt (nm z) = Int32.ofInt z := Int32.ofInt_toInt _
theorem of_nml (z : Int) : Int64.ofInt (nml z) = Int64.ofInt z := Int64.ofInt_toInt _
theorem nm_nm (z : Int) : nm (nm z) = nm z := by unfold nm; rw [Int32.ofInt_toInt]
theorem nml_nml (z : Int) : nml (nml z) = nml z := by unfold nml; rw [Int64.ofInt_toInt]
theorem lt_nm (x y : Int) : Int32.ofInt x < Int32.ofInt y ↔ nm x < nm y := Int32.lt_iff_toInt_lt
theorem le_nm (x y : Int) : Int32.ofInt x ≤ Int32.ofInt y ↔ nm x ≤ nm y := Int32.le_iff_toInt_le
theorem eq_nm (x y : Int) : Int32.ofInt x = Int32.ofInt y ↔ nm x = nm y := Int32.toInt_inj.symm
abbrev AV : Type := Int ⊕ (Int ⊕ Option Nat)
abbrev aI (z : Int) : AV := Sum.inl z
abbrev aL (z : Int) : AV := Sum.inr (Sum.inl z)
abbrev aR (r : Option Nat) : AV := Sum.inr (Sum.inr r)
abbrev GX : Type := Launch × (Nat → ClassId) × (Nat → Nat → Nat) × (Nat → ClassId) × Nat × Nat × Nat × (Nat → Int32)
abbrev g_l (w : GX) : Launch := w.1
abbrev g_D (w : GX) : va_G := (w.2.1, w.2.2.1)
abbrev g_cy (w : GX) : Nat → ClassId := w.2.2.2.1
abbrev g_bs (w : GX) : Nat := w.2.2.2.2.1
abbrev g_b (w : GX) : Nat := w.2.2.2.2.2.1
abbrev g_L (w : GX) : Nat := w.2.2.2.2.2.2.1
abbrev g_xs (w : GX) : Nat → Int32 := w.2.2.2.2.2.2.2
/-- the script's own number among the cells -/
def SC : Nat := 1000000
def adr (w : GX) (a : Nat) : Nat := if a = SC then g_b w else g_bs w + a
def cv (w : GX) (v : AV) : Value := match v with
  | .inl z => .int (Int32.ofInt z)
  | .inr (.inl z) => .long (Int64.ofInt z)
  | .inr (.inr r) => va_rf (r.map (adr w))
/-- a class's fields: 0 an int, 1 a boolean, 2 a long, 3 a reference -/
def fcdL : List (List Nat) := [[3, 0], [3, 3, 0, 0, 0, 0, 2, 2], [3, 3, 3, 3, 3, 3, 0, 0], [3, 3, 3, 3, 3], [3, 3, 3, 0], [3, 3, 3, 3, 3, 0, 0], [3, 0, 0], [3, 0], [3, 3, 3, 3, 0], [3, 3, 3, 3, 3, 3, 3, 3, 0, 0, 0, 0], [3, 3, 3, 3, 3, 3, 3, 3, 3, 3, 3, 0, 1], [3, 3, 3, 3, 0, 3, 3, 0, 3, 3, 0, 3, 0, 0, 0, 3, 0, 3, 0, 3, 3, 3, 3, 3, 3, 3, 3, 0, 0, 0, 0, 0, 3, 3, 0]]
def fcd (c k : Nat) : Nat := (fcdL.getD c []).getD k 0
def ncf (c : Nat) : Nat := (fcdL.getD c []).length
def fval (w : GX) (t : Nat) (z : Int) (r : Option Nat) : Value := if t = 2 then .long (Int64.ofInt z) else if t = 3 then va_rf (r.map (adr w)) else .int (Int32.ofInt z)
abbrev KD : Type := Nat → Nat × Nat
abbrev RF : Type := Nat → Nat → Option Nat
abbrev GI : Type := Nat → Nat → Int
def flds (w : GX) (t : Nat) (z : Nat → Int) (r : Nat → Option Nat) : List Value := (List.range (ncf t)).map (fun k => fval w (fcd t k) (z k) (r k))
def cel (w : GX) (k : Nat × Nat) (z : Nat → Int) (r : Nat → Option Nat) : va_E :=
  if k.1 < 12 then .inr (k.1, flds w k.1 z r)
  else if k.1 < 14 then .inl (g_cy w k.1, k.2, .inl (fun i => Int32.ofInt (z i)))
  else .inl (g_cy w k.1, k.2, .inr (.inr (.inr (.inr (fun i => (r i).map (adr w))))))
def wsx (w : GX) (kd : KD) (rf : RF) (n : Nat) (g : GI) : va_W := (List.range n).map (fun a => (g_bs w + a, cel w (kd a) (g a) (rf a)))
theorem wsx_get (w : GX) (kd : KD) (rf : RF) {n : Nat} (g : GI) {a : Nat} (h : a < n) : (wsx w kd rf n g)[a]? = some (g_bs w + a, cel w (kd a) (g a) (rf a)) := by
  simp [wsx, List.getElem?_map, List.getElem?_range h]
theorem wsx_lt {w : GX} {kd : KD} {rf : RF} {n : Nat} {g : GI} {a : Nat} {q : Nat × va_E} (h : (wsx w kd rf n g)[a]? = some q) : a < n := by
  have := (List.getElem?_eq_some_iff.mp h).1
  simpa [wsx] using this
def Ab (w : GX) : Nat → Prop := fun q => g_bs w ≤ q
theorem wsx_D (w : GX) (kd : KD) (rf : RF) (n : Nat) (g : GI) : va_D (Ab w) (wsx w kd rf n g) := by
  refine ⟨fun i j p q hp hq e => ?_, fun k q hk => ?_⟩
  · have h1 := wsx_lt hp
    have h2 := wsx_lt hq
    rw [wsx_get w kd rf g h1] at hp
    rw [wsx_get w kd rf g h2] at hq
    cases hp; cases hq
    have e : g_bs w + i = g_bs w + j := e
    omega
  · have h1 := wsx_lt hk
    rw [wsx_get w kd rf g h1] at hk
    cases hk
    show g_bs w ≤ g_bs w + k
    omega
theorem wsx_set {w : GX} {kd kd' : KD} {rf rf' : RF} {n : Nat} {g g' : GI} {a : Nat} (ho : ∀ q, q ≠ a → cel w (kd' q) (g' q) (rf' q) = cel w (kd q) (g q) (rf q)) :
    (wsx w kd rf n g).set a (g_bs w + a, cel w (kd' a) (g' a) (rf' a)) = wsx w kd' rf' n g' := by
  apply List.ext_getElem?
  intro i
  by_cases hi : i < n
  · rw [wsx_get w kd' rf' g' hi]
    by_cases e : i = a
    · subst e
      rw [List.getElem?_set_self (by simpa [wsx] using hi)]
    · rw [List.getElem?_set_ne (fun h => e h.symm), wsx_get w kd rf g hi, ho i e]
  · rw [List.getElem?_eq_none (by simp [wsx]; omega), List.getElem?_eq_none (by simp [wsx]; omega)]
theorem wsx_push {w : GX} {kd kd' : KD} {rf rf' : RF} {n : Nat} {g g' : GI} (ho : ∀ q, q < n → cel w (kd' q) (g' q) (rf' q) = cel w (kd q) (g q) (rf q)) :
    wsx w kd rf n g ++ [(g_bs w + n, cel w (kd' n) (g' n) (rf' n))] = wsx w kd' rf' (n + 1) g' := by
  apply List.ext_getElem?
  intro i
  have hl : (wsx w kd rf n g).length = n := by simp [wsx]
  by_cases hi : i < n
  · rw [List.getElem?_append_left (by omega), wsx_get w kd rf g hi, wsx_get w kd' rf' g' (by omega), ho i hi]
  · by_cases e : i = n
    · subst e
      rw [List.getElem?_append_right (by omega), hl, Nat.sub_self, wsx_get w kd' rf' g' (by omega)]
      rfl
    · rw [List.getElem?_eq_none (by simp [hl]; omega), List.getElem?_eq_none (by simp [wsx]; omega)]
def Rp (w : GX) (kd : KD) (rf : RF) (n : Nat) (g : GI) (H : Heap) : Prop := va_P (g_D w) vwCl (wsx w kd rf n g) H ∧ H.size = g_bs w + n ∧ n < SC ∧ ∀ a, n ≤ a → (kd a).1 = 99
theorem Rp.lt {w : GX} {kd : KD} {rf : RF} {n : Nat} {g : GI} {H : Heap} (h : Rp w kd rf n g H) {a : Nat} (ha : (kd a).1 < 99) : a < n := by
  rcases Nat.lt_or_ge a n with q | q
  · exact q
  · have := h.2.2.2 a q; omega
theorem Rp.adr {w : GX} {kd : KD} {rf : RF} {n : Nat} {g : GI} {H : Heap} (h : Rp w kd rf n g H) {a : Nat} (ha : (kd a).1 < 99) : adr w a = g_bs w + a := by
  have h1 := h.lt ha
  have h2 := h.2.2.1
  show (if a = SC then g_b w else g_bs w + a) = _
  rw [if_neg (by omega)]
def lw_gd : List Cond := lw_tbl.filter goodWord
theorem gd_in {q : Cond} (h : q ∈ lw_tbl) (g : goodWord q = true) : q ∈ lw_gd := List.mem_filter.mpr ⟨h, g⟩
theorem gd_good (q : Cond) (h : q ∈ lw_gd) : goodWord q = true := (List.mem_filter.mp h).2
theorem tb_in {q : Cond} (i : Nat) (h : tables_1[i]? = some q) : q ∈ lw_tbl := List.mem_append_right _ (List.mem_of_getElem? h)
theorem tb_gd {q : Cond} (i : Nat) (h : tables_1[i]? = some q) (g : goodWord q = true) : q ∈ lw_gd := gd_in (tb_in i h) g
theorem pv_gd {q : Cond} (i : Nat) (h : (k2_sels lw_privs)[i]? = some q) (g : goodWord q = true) : q ∈ lw_gd := gd_in (List.mem_append_left _ (List.mem_of_getElem? h)) g
def nestW : List (String × Nat × MethodName × String) := [("ThrownNames", 35, ⟨"ThrownNames$World", "<init>", "()V"⟩, "ThrownNames"), ("ThrownNames$Days", 11, ⟨"ThrownNames$Case", "<init>", "()V"⟩, "ThrownNames"), ("ThrownNames$Days", 45, ⟨"ThrownNames$Water", "<init>", "()V"⟩, "ThrownNames"), ("ThrownNames$Plans", 11, ⟨"ThrownNames$Water", "<init>", "()V"⟩, "ThrownNames"), ("ThrownNames$Guess", 11, ⟨"ThrownNames$Case", "<init>", "()V"⟩, "ThrownNames"), ("ThrownNames$Guess", 20, ⟨"ThrownNames$Water", "<init>", "()V"⟩, "ThrownNames"), ("ThrownNames$Chance", 41, ⟨"ThrownNames$Water", "<init>", "()V"⟩, "ThrownNames"), ("ThrownNames", 89, ⟨"ThrownNames$Sheet", "<init>", "()V"⟩, "ThrownNames"), ("ThrownNames$Water", 65, ⟨"ThrownNames", "within", "(II)Z"⟩, "ThrownNames")]
def tysL (w : GX) : List (ClassId × FieldType) := [(g_cy w 12, .int), (g_cy w 13, .boolean), (g_cy w 14, .object "ThrownNames$Sheet"), (g_cy w 15, .object "ThrownNames$Text"), (g_cy w 16, .object "ThrownNames$Water")]
def Kx (w : GX) (s : State) : Prop := va_K (g_D w) vwCl (tysL w) s ∧ (∀ q ∈ nestW, va_Nw (.methodLinkNest q.1 q.2.1 q.2.2.1 q.2.2.2) s) ∧ (va_AO "ThrownNames$Sheet" s ∧ va_AO "ThrownNames$Text" s ∧ va_AO "ThrownNames$Water" s)
theorem Kx.warm {w : GX} {s U : State} (hW : s.WarmedH U.vm) (h : Kx w s) : Kx w U :=
  ⟨va_K.moved hW.alike h.1, fun q hq => va_Nw.warmM hW (h.2.1 q hq), h.2.2.1.moved hW.alike, h.2.2.2.1.moved hW.alike, h.2.2.2.2.moved hW.alike⟩
theorem Kx.same {w : GX} {s U : State} (hv : s.vm = U.vm) (h : Kx w s) : Kx w U :=
  ⟨va_K.moved (by rw [hv]; exact Vm.Alike.refl _) h.1, fun q hq => va_Nw.same rfl hv (h.2.1 q hq), h.2.2.1.moved (by rw [hv]; exact Vm.Alike.refl _), h.2.2.2.1.moved (by rw [hv]; exact Vm.Alike.refl _), h.2.2.2.2.moved (by rw [hv]; exact Vm.Alike.refl _)⟩
/-- locals -/
def LV (w : GX) (ls : List (Option AV)) (lsC : Array Slot) (nL : Nat) : Prop := lsC.size = nL ∧ ls.length = nL ∧ lv_wf lsC ∧ ∀ (i : Nat) (v : AV), ls[i]? = some (some v) → lsC[i]? = some (.val (cv w v))
/-- what stands around a method's walk -/
def Ctx (w : GX) (d : Nat) (M : Mth) (p : Program) (R : Room) (s : State) (m : MethodId) (args : Array Value) (meth : Method) (c : Code) (mc ms : Nat) : Prop :=
  p.tables.exec = Jvm.exec ∧ c.code = M.2.1 ∧ meth.sig.returnType = M.2.2.2.1 ∧ meth.locks = false ∧ c.maxLocals = M.2.2.1 ∧ meth.name = M.1.name ∧ s.vm.findClass M.2.2.2.2 = some m.cls ∧ (∀ q ∈ lw_gd, q.before args s = true) ∧ Kx w s ∧ g_bs w ≤ s.heap.size ∧ g_b w < g_bs w ∧ va_X (g_b w) (g_L w) (g_xs w) s s.heap ∧ d ≤ R.frames ∧ 100 * d ≤ R.locals ∧ mc ≤ R.cells ∧ ms ≤ R.slots
abbrev Post : Type := Option AV → KD → RF → Nat → GI → Prop
/-- THE JUDGEMENT: the method M, at pc, with these locals, stack and store, comes to its end with Q; it makes at most kc cells of ks slots, and d frames stand above it -/
def Zj (w : GX) (d kc ks : Nat) (M : Mth) (pc : Nat) (ls : List (Option AV)) (st : List AV) (kd : KD) (rf : RF) (n : Nat) (g : GI) (Q : Post) : Prop :=
  ∀ (p : Program) (e : Env) (R : Room) (s : State) (m : MethodId) (args : Array Value) (below : List Frame) (meth : Method) (c : Code) (H : Heap) (locs : List Loc) (cells slots mc ms : Nat) (Qc : Array Value → State → Outcome → State → Prop) (lsC : Array Slot),
    Ctx w d M p R s m args meth c mc ms → Rp w kd rf n g H → va_S (Ab w) s.heap H locs → cells + kc ≤ mc → slots + ks ≤ ms → LV w ls lsC M.2.2.1 →
    (∀ (r : Option AV) (kd' : KD) (rf' : RF) (n' : Nat) (g' : GI) (t : State), Q r kd' rf' n' g' → Rp w kd' rf' n' g' t.heap → va_F (Ab w) s t → Qc args s (.returned (r.map (cv w))) t) →
    W p (g_l w) e R s m args below meth c H locs cells slots (MQ below Qc args s mc ms (Ab w)) (F0 m pc lsC (st.map (cv w)))
