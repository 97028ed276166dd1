
/-! the judgement's rules: one an instruction -/
theorem z_of {w : GX} {d kc ks : Nat} {M : Mth} {pc pc' : Nat} {ls : List (Option AV)} {st st' : List AV} {kd : KD} {rf : RF} {n : Nat} {g : GI} {Q : Post}
    (h : ∀ (p : Program) (e : Env) (R : Room) (s : State) (m : MethodId) (args : Array Value) (below : List Frame) (meth : Method) (c : Code) (H : Heap) (locs : List Loc) (cells slots mc ms : Nat) (Qf : State → Prop) (lsC : Array Slot),
      Ctx w d M p R s m args meth c mc ms → LV w ls lsC M.2.2.1 → W p (g_l w) e R s m args below meth c H locs cells slots Qf (F0 m pc' lsC (st'.map (cv w))) → W p (g_l w) e R s m args below meth c H locs cells slots Qf (F0 m pc lsC (st.map (cv w))))
    (k : Zj w d kc ks M pc' ls st' kd rf n g Q) : Zj w d kc ks M pc ls st kd rf n g Q :=
  fun p e R s m args below meth c H locs cells slots mc ms Qc lsC C hR hS h1 h2 hl hq => h p e R s m args below meth c H locs cells slots mc ms _ lsC C hl (k p e R s m args below meth c H locs cells slots mc ms Qc lsC C hR hS h1 h2 hl hq)
def kn (w : GX) (ls : List (Option AV)) : List (Nat × Value) := (List.range ls.length).filterMap (fun i => match ls[i]? with
  | some (some v) => some (i, cv w v)
  | _ => none)
theorem kn_mem {w : GX} {ls : List (Option AV)} {i : Nat} {v : AV} (h : ls[i]? = some (some v)) : (i, cv w v) ∈ kn w ls := by
  refine List.mem_filterMap.mpr ⟨i, List.mem_range.mpr (List.getElem?_eq_some_iff.mp h).1, ?_⟩
  rw [h]
theorem kn_of {w : GX} {ls : List (Option AV)} {q : Nat × Value} (h : q ∈ kn w ls) : ∃ v, ls[q.1]? = some (some v) ∧ q.2 = cv w v := by
  obtain ⟨i, -, hi⟩ := List.mem_filterMap.mp h
  split at hi
  · rename_i v hv
    cases hi
    exact ⟨v, hv, rfl⟩
  · cases hi
theorem kn_has {w : GX} {ls : List (Option AV)} {lsC : Array Slot} {nL : Nat} (h : LV w ls lsC nL) : lv_has lsC nL (kn w ls) := by
  refine ⟨h.1, h.2.2.1, fun q hq => ?_⟩
  obtain ⟨v, h1, h2⟩ := kn_of hq
  rw [h2]
  exact h.2.2.2 q.1 v h1
theorem LV.at {w : GX} {ls : List (Option AV)} {lsC : Array Slot} {nL i : Nat} {v : AV} (h : LV w ls lsC nL) (hi : ls[i]? = some (some v)) : lsC[i]? = some (.val (cv w v)) := h.2.2.2 i v hi
def isLg (v : AV) : Bool := match v with
  | .inr (.inl _) => true
  | _ => false
theorem cat_cv (w : GX) (v : AV) : (cv w v).category = if isLg v then 2 else 1 := by
  rcases v with z | z | r
  · rfl
  · rfl
  · cases r <;> rfl
/-- no long stands just ahead of place i -/
def nlb (ls : List (Option AV)) (i : Nat) : Bool := match i with
  | 0 => true
  | j + 1 => match ls[j]? with
    | some (some v) => !(isLg v)
    | _ => true
theorem LV.set1 {w : GX} {ls : List (Option AV)} {lsC : Array Slot} {nL i : Nat} {v : AV} (hn : ls.length = nL) (hb : nlb ls i = true)
    (h : lv_has lsC nL ((i, cv w v) :: (kn w ls).filter (fun q => !(q.1 == i) && !(q.1 + 1 == i && q.2.category == 2)))) : LV w (ls.set i (some v)) lsC nL := by
  refine ⟨h.1, by rw [List.length_set]; exact hn, h.2.1, fun j u hj => ?_⟩
  by_cases e : j = i
  · subst e
    have hlt : j < ls.length := by
      have := (List.getElem?_eq_some_iff.mp hj).1
      rwa [List.length_set] at this
    rw [List.getElem?_set_self hlt] at hj
    cases hj
    exact h.2.2 (j, cv w v) List.mem_cons_self
  · rw [List.getElem?_set_ne (fun q => e q.symm)] at hj
    refine h.2.2 (j, cv w u) (List.mem_cons_of_mem _ (List.mem_filter.mpr ⟨kn_mem hj, ?_⟩))
    have e1 : (j == i) = false := by simpa using e
    simp only [e1, Bool.not_false, Bool.true_and, cat_cv]
    by_cases e2 : j + 1 = i
    · subst e2
      simp only [nlb, hj] at hb
      have : isLg u = false := by simpa using hb
      simp [this]
    · have : (j + 1 == i) = false := by simpa using e2
      simp [this]
theorem LV.set2 {w : GX} {ls : List (Option AV)} {lsC : Array Slot} {nL i : Nat} {v : AV} (hn : ls.length = nL) (hb : nlb ls i = true)
    (h : lv_has lsC nL ((i, cv w v) :: (kn w ls).filter (fun q => !(q.1 == i) && (!(q.1 == i + 1) && !(q.1 + 1 == i && q.2.category == 2))))) : LV w ((ls.set i (some v)).set (i + 1) none) lsC nL := by
  refine ⟨h.1, by rw [List.length_set, List.length_set]; exact hn, h.2.1, fun j u hj => ?_⟩
  by_cases e0 : j = i + 1
  · subst e0
    exfalso
    have hlt : i + 1 < (ls.set i (some v)).length := by
      have := (List.getElem?_eq_some_iff.mp hj).1
      rwa [List.length_set] at this
    rw [List.getElem?_set_self hlt] at hj
    cases hj
  · rw [List.getElem?_set_ne (fun q => e0 q.symm)] at hj
    by_cases e : j = i
    · subst e
      have hlt : j < ls.length := by
        have := (List.getElem?_eq_some_iff.mp hj).1
        rwa [List.length_set] at this
      rw [List.getElem?_set_self hlt] at hj
      cases hj
      exact h.2.2 (j, cv w v) List.mem_cons_self
    · rw [List.getElem?_set_ne (fun q => e q.symm)] at hj
      refine h.2.2 (j, cv w u) (List.mem_cons_of_mem _ (List.mem_filter.mpr ⟨kn_mem hj, ?_⟩))
      have e1 : (j == i) = false := by simpa using e
      have e3 : (j == i + 1) = false := by simpa using e0
      simp only [e1, e3, Bool.not_false, Bool.true_and, cat_cv]
      by_cases e2 : j + 1 = i
      · subst e2
        simp only [nlb, hj] at hb
        have : isLg u = false := by simpa using hb
        simp [this]
      · have : (j + 1 == i) = false := by simpa using e2
        simp [this]
/-- fewer locals known -/
def lle : List (Option AV) → List (Option AV) → Prop
  | [], [] => True
  | none :: t, _ :: t' => lle t t'
  | some v :: t, some u :: t' => v = u ∧ lle t t'
  | _, _ => False
theorem lle_len : ∀ {a b : List (Option AV)}, lle a b → a.length = b.length
  | [], [], _ => rfl
  | none :: t, _ :: t', h => by simp only [lle] at h; simp [lle_len h]
  | some v :: t, some u :: t', h => by simp only [lle] at h; simp [lle_len h.2]
  | some _ :: _, none :: _, h => by simp [lle] at h
  | [], _ :: _, h => by simp [lle] at h
  | _ :: _, [], h => by rename_i x y; cases x <;> simp [lle] at h
theorem lle_at : ∀ {a b : List (Option AV)}, lle a b → ∀ (i : Nat) (v : AV), a[i]? = some (some v) → b[i]? = some (some v)
  | [], [], _, i, v, h => by simp at h
  | none :: t, x :: t', hl, i, v, h => by
    simp only [lle] at hl
    cases i with
    | zero => simp at h
    | succ i => simpa using lle_at hl i v (by simpa using h)
  | some u :: t, some x :: t', hl, i, v, h => by
    simp only [lle] at hl
    cases i with
    | zero => simp at h; simp [← hl.1, h]
    | succ i => simpa using lle_at hl.2 i v (by simpa using h)
  | some _ :: _, none :: _, h, _, _, _ => by simp [lle] at h
  | [], _ :: _, h, _, _, _ => by simp [lle] at h
  | _ :: _, [], h, _, _, _ => by rename_i x y _ _ _; cases x <;> simp [lle] at h
theorem z_weak {w : GX} {d kc ks : Nat} {M : Mth} {pc : Nat} {ls ls' : List (Option AV)} {st : List AV} {kd : KD} {rf : RF} {n : Nat} {g : GI} {Q : Post} (h : lle ls' ls) (k : Zj w d kc ks M pc ls' st kd rf n g Q) : Zj w d kc ks M pc ls st kd rf n g Q :=
  fun p e R s m args below meth c H locs cells slots mc ms Qc lsC C hR hS h1 h2 hl hq => k p e R s m args below meth c H locs cells slots mc ms Qc lsC C hR hS h1 h2 ⟨hl.1, (lle_len h).trans hl.2.1, hl.2.2.1, fun i v hi => hl.2.2.2 i v (lle_at h i v hi)⟩ hq
theorem z_mono {w : GX} {d kc ks : Nat} {M : Mth} {pc : Nat} {ls : List (Option AV)} {st : List AV} {kd : KD} {rf : RF} {n : Nat} {g : GI} {Q Q' : Post} (h : ∀ r kd' rf' n' g', Q r kd' rf' n' g' → Q' r kd' rf' n' g') (k : Zj w d kc ks M pc ls st kd rf n g Q) : Zj w d kc ks M pc ls st kd rf n g Q' :=
  fun p e R s m args below meth c H locs cells slots mc ms Qc lsC C hR hS h1 h2 hl hq => k p e R s m args below meth c H locs cells slots mc ms Qc lsC C hR hS h1 h2 hl (fun r kd' rf' n' g' t q => hq r kd' rf' n' g' t (h _ _ _ _ _ q))
section ZR
variable {w : GX} {d kc ks : Nat} {M : Mth} {pc : Nat} {ls : List (Option AV)} {st : List AV} {kd : KD} {rf : RF} {n : Nat} {g : GI} {Q : Post}
def iAnd (x y : Int) : Int := (Int32.ofInt x &&& Int32.ofInt y).toInt
def iOr (x y : Int) : Int := (Int32.ofInt x ||| Int32.ofInt y).toInt
def iShl (x y : Int) : Int := (Int32.ofInt x <<< (Int32.ofInt y &&& 31)).toInt
def iShr (x y : Int) : Int := (Int32.ofInt x >>> (Int32.ofInt y &&& 31)).toInt
def iUshr (x y : Int) : Int := ((Int32.ofInt x).toUInt32 >>> ((Int32.ofInt y).toUInt32 &&& Int32.toUInt32 31)).toInt32.toInt
def lShl (x y : Int) : Int := (Int64.ofInt x <<< ((Int32.ofInt y).toInt64 &&& 63)).toInt
def iByte (x : Int) : Int := (Int32.ofInt x).toInt8.toInt32.toInt
def iShort (x : Int) : Int := (Int32.ofInt x).toInt16.toInt32.toInt
def iDiv (x y : Int) : Int := (Int32.ofInt x / Int32.ofInt y).toInt
def iRem (x y : Int) : Int := (Int32.ofInt x - Int32.ofInt x / Int32.ofInt y * Int32.ofInt y).toInt
def lDiv (x y : Int) : Int := (Int64.ofInt x / Int64.ofInt y).toInt
def lRem (x y : Int) : Int := (Int64.ofInt x - Int64.ofInt x / Int64.ofInt y * Int64.ofInt y).toInt
def lCmp (x y : Int) : Int := (lg_cmp (Int64.ofInt x) (Int64.ofInt y)).toInt
theorem z_iconst {z : Int} (hd : decode M.2.1 pc = .ok (.iconst z, 1)) (k : Zj w d kc ks M (pc + 1) ls (aI z :: st) kd rf n g Q) : Zj w d kc ks M pc ls (st) kd rf n g Q :=
  z_of (fun p e R s m args below meth c H locs cells slots mc ms Qf lsC C hl k => lv_iconst C.1 C.2.1 hd rfl k) k
theorem z_bipush {z : Int} (hd : decode M.2.1 pc = .ok (.bipush z, 2)) (hv : (Int8.ofInt z).toInt32 = Int32.ofInt z) (k : Zj w d kc ks M (pc + 2) ls (aI z :: st) kd rf n g Q) : Zj w d kc ks M pc ls (st) kd rf n g Q :=
  z_of (fun p e R s m args below meth c H locs cells slots mc ms Qf lsC C hl k => lv_bipush C.1 C.2.1 hd hv k) k
theorem z_sipush {z : Int} (hd : decode M.2.1 pc = .ok (.sipush z, 3)) (hv : (Int16.ofInt z).toInt32 = Int32.ofInt z) (k : Zj w d kc ks M (pc + 3) ls (aI z :: st) kd rf n g Q) : Zj w d kc ks M pc ls (st) kd rf n g Q :=
  z_of (fun p e R s m args below meth c H locs cells slots mc ms Qf lsC C hl k => lv_sipush C.1 C.2.1 hd hv k) k
theorem z_lconst {i : Fin 2} {z : Int} (hd : decode M.2.1 pc = .ok (.lconst i, 1)) (hv : Int64.ofNat (i : Nat) = Int64.ofInt z) (k : Zj w d kc ks M (pc + 1) ls (aL z :: st) kd rf n g Q) : Zj w d kc ks M pc ls (st) kd rf n g Q :=
  z_of (fun p e R s m args below meth c H locs cells slots mc ms Qf lsC C hl k => lv_lconst C.1 C.2.1 hd hv k) k
theorem z_ldc {i : Nat} {z : Int} (hd : decode M.2.1 pc = .ok (.ldc i, 2)) (hc : Cond.constant M.2.2.2.2 i (Int32.ofInt z) ∈ lw_gd) (k : Zj w d kc ks M (pc + 2) ls (aI z :: st) kd rf n g Q) : Zj w d kc ks M pc ls (st) kd rf n g Q :=
  z_of (fun p e R s m args below meth c H locs cells slots mc ms Qf lsC C hl k => lv_ldc C.1 C.2.1 C.2.2.2.2.2.2.1 (C.2.2.2.2.2.2.2.1 _ hc) hd k) k
theorem z_ldcw {i : Nat} {z : Int} (hd : decode M.2.1 pc = .ok (.ldc_w i, 3)) (hc : Cond.constant M.2.2.2.2 i (Int32.ofInt z) ∈ lw_gd) (k : Zj w d kc ks M (pc + 3) ls (aI z :: st) kd rf n g Q) : Zj w d kc ks M pc ls (st) kd rf n g Q :=
  z_of (fun p e R s m args below meth c H locs cells slots mc ms Qf lsC C hl k => lv_ldcw C.1 C.2.1 C.2.2.2.2.2.2.1 (C.2.2.2.2.2.2.2.1 _ hc) hd k) k
theorem z_ldc2 {i : Nat} {z : Int} (hd : decode M.2.1 pc = .ok (.ldc2_w i, 3)) (hc : Cond.constantLong M.2.2.2.2 i (Int64.ofInt z) ∈ lw_gd) (k : Zj w d kc ks M (pc + 3) ls (aL z :: st) kd rf n g Q) : Zj w d kc ks M pc ls (st) kd rf n g Q :=
  z_of (fun p e R s m args below meth c H locs cells slots mc ms Qf lsC C hl k => lv_ldc2 C.1 C.2.1 C.2.2.2.2.2.2.1 (C.2.2.2.2.2.2.2.1 _ hc) hd k) k
theorem z_iload_n {j : Fin 4} {i : Nat} {z : Int} (hd : decode M.2.1 pc = .ok (.iload_n j, 1)) (hi : (j : Nat) = i) (h : ls[i]? = some (some (aI z))) (k : Zj w d kc ks M (pc + 1) ls (aI z :: st) kd rf n g Q) : Zj w d kc ks M pc ls (st) kd rf n g Q :=
  z_of (fun p e R s m args below meth c H locs cells slots mc ms Qf lsC C hl k => lv_iload_n C.1 C.2.1 hd hi (hl.at h) k) k
theorem z_iload {i : Nat} {z : Int} (hd : decode M.2.1 pc = .ok (.iload i, 2)) (h : ls[i]? = some (some (aI z))) (k : Zj w d kc ks M (pc + 2) ls (aI z :: st) kd rf n g Q) : Zj w d kc ks M pc ls (st) kd rf n g Q :=
  z_of (fun p e R s m args below meth c H locs cells slots mc ms Qf lsC C hl k => lv_iload C.1 C.2.1 hd (hl.at h) k) k
theorem z_lload_n {j : Fin 4} {i : Nat} {z : Int} (hd : decode M.2.1 pc = .ok (.lload_n j, 1)) (hi : (j : Nat) = i) (h : ls[i]? = some (some (aL z))) (k : Zj w d kc ks M (pc + 1) ls (aL z :: st) kd rf n g Q) : Zj w d kc ks M pc ls (st) kd rf n g Q :=
  z_of (fun p e R s m args below meth c H locs cells slots mc ms Qf lsC C hl k => lv_lload_n C.1 C.2.1 hd hi (hl.at h) k) k
theorem z_lload {i : Nat} {z : Int} (hd : decode M.2.1 pc = .ok (.lload i, 2)) (h : ls[i]? = some (some (aL z))) (k : Zj w d kc ks M (pc + 2) ls (aL z :: st) kd rf n g Q) : Zj w d kc ks M pc ls (st) kd rf n g Q :=
  z_of (fun p e R s m args below meth c H locs cells slots mc ms Qf lsC C hl k => lv_lload C.1 C.2.1 hd (hl.at h) k) k
theorem z_aload_n {j : Fin 4} {i : Nat} {a : Nat} (hd : decode M.2.1 pc = .ok (.aload_n j, 1)) (hi : (j : Nat) = i) (h : ls[i]? = some (some (aR (some a)))) (k : Zj w d kc ks M (pc + 1) ls (aR (some a) :: st) kd rf n g Q) : Zj w d kc ks M pc ls (st) kd rf n g Q :=
  z_of (fun p e R s m args below meth c H locs cells slots mc ms Qf lsC C hl k => lv_aload_n C.1 C.2.1 hd hi (hl.at h) k) k
theorem z_aload {i : Nat} {a : Nat} (hd : decode M.2.1 pc = .ok (.aload i, 2)) (h : ls[i]? = some (some (aR (some a)))) (k : Zj w d kc ks M (pc + 2) ls (aR (some a) :: st) kd rf n g Q) : Zj w d kc ks M pc ls (st) kd rf n g Q :=
  z_of (fun p e R s m args below meth c H locs cells slots mc ms Qf lsC C hl k => lv_aload C.1 C.2.1 hd (hl.at h) k) k
theorem z_iadd {x y : Int} (hd : decode M.2.1 pc = .ok (.iadd, 1)) (k : Zj w d kc ks M (pc + 1) ls (aI (x + y) :: st) kd rf n g Q) : Zj w d kc ks M pc ls (aI y :: aI x :: st) kd rf n g Q :=
  z_of (fun p e R s m args below meth c H locs cells slots mc ms Qf lsC C hl k => lv_iadd C.1 C.2.1 hd (by have k := k; simp only [List.map_cons, cv, Int32.ofInt_add] at k; exact k)) k
theorem z_ladd {x y : Int} (hd : decode M.2.1 pc = .ok (.ladd, 1)) (k : Zj w d kc ks M (pc + 1) ls (aL (x + y) :: st) kd rf n g Q) : Zj w d kc ks M pc ls (aL y :: aL x :: st) kd rf n g Q :=
  z_of (fun p e R s m args below meth c H locs cells slots mc ms Qf lsC C hl k => lv_ladd C.1 C.2.1 hd (by have k := k; simp only [List.map_cons, cv, Int64.ofInt_add] at k; exact k)) k
theorem z_isub {x y : Int} (hd : decode M.2.1 pc = .ok (.isub, 1)) (k : Zj w d kc ks M (pc + 1) ls (aI (x - y) :: st) kd rf n g Q) : Zj w d kc ks M pc ls (aI y :: aI x :: st) kd rf n g Q :=
  z_of (fun p e R s m args below meth c H locs cells slots mc ms Qf lsC C hl k => lv_isub C.1 C.2.1 hd (by have k := k; simp only [List.map_cons, cv, Int32.ofInt_sub] at k; exact k)) k
theorem z_lsub {x y : Int} (hd : decode M.2.1 pc = .ok (.lsub, 1)) (k : Zj w d kc ks M (pc + 1) ls (aL (x - y) :: st) kd rf n g Q) : Zj w d kc ks M pc ls (aL y :: aL x :: st) kd rf n g Q :=
  z_of (fun p e R s m args below meth c H locs cells slots mc ms Qf lsC C hl k => lv_lsub C.1 C.2.1 hd (by have k := k; simp only [List.map_cons, cv, Int64.ofInt_sub] at k; exact k)) k
theorem z_imul {x y : Int} (hd : decode M.2.1 pc = .ok (.imul, 1)) (k : Zj w d kc ks M (pc + 1) ls (aI (x * y) :: st) kd rf n g Q) : Zj w d kc ks M pc ls (aI y :: aI x :: st) kd rf n g Q :=
  z_of (fun p e R s m args below meth c H locs cells slots mc ms Qf lsC C hl k => lv_imul C.1 C.2.1 hd (by have k := k; simp only [List.map_cons, cv, Int32.ofInt_mul] at k; exact k)) k
theorem z_lmul {x y : Int} (hd : decode M.2.1 pc = .ok (.lmul, 1)) (k : Zj w d kc ks M (pc + 1) ls (aL (x * y) :: st) kd rf n g Q) : Zj w d kc ks M pc ls (aL y :: aL x :: st) kd rf n g Q :=
  z_of (fun p e R s m args below meth c H locs cells slots mc ms Qf lsC C hl k => lv_lmul C.1 C.2.1 hd (by have k := k; simp only [List.map_cons, cv, Int64.ofInt_mul] at k; exact k)) k
theorem z_dup {v : AV} (hd : decode M.2.1 pc = .ok (.dup, 1)) (hv : isLg v = false) (k : Zj w d kc ks M (pc + 1) ls (v :: v :: st) kd rf n g Q) : Zj w d kc ks M pc ls (v :: st) kd rf n g Q :=
  z_of (fun p e R s m args below meth c H locs cells slots mc ms Qf lsC C hl k => lv_dup C.1 C.2.1 hd (by rw [cat_cv, hv]; rfl) k) k
theorem z_pop {v : AV} (hd : decode M.2.1 pc = .ok (.pop, 1)) (hv : isLg v = false) (k : Zj w d kc ks M (pc + 1) ls (st) kd rf n g Q) : Zj w d kc ks M pc ls (v :: st) kd rf n g Q :=
  z_of (fun p e R s m args below meth c H locs cells slots mc ms Qf lsC C hl k => lv_pop C.1 C.2.1 hd (by rw [cat_cv, hv]; rfl) k) k
theorem z_dup2 {v u : AV} (hd : decode M.2.1 pc = .ok (.dup2, 1)) (hv : isLg v = false) (hu : isLg u = false) (k : Zj w d kc ks M (pc + 1) ls (v :: u :: v :: u :: st) kd rf n g Q) : Zj w d kc ks M pc ls (v :: u :: st) kd rf n g Q :=
  z_of (fun p e R s m args below meth c H locs cells slots mc ms Qf lsC C hl k => lv_dup2_11 C.1 C.2.1 hd (by rw [cat_cv, hv]; rfl) (by rw [cat_cv, hu]; rfl) k) k
theorem z_iand {x y : Int} (hd : decode M.2.1 pc = .ok (.iand, 1)) (k : Zj w d kc ks M (pc + 1) ls (aI (iAnd x y) :: st) kd rf n g Q) : Zj w d kc ks M pc ls (aI y :: aI x :: st) kd rf n g Q :=
  z_of (fun p e R s m args below meth c H locs cells slots mc ms Qf lsC C hl k => lv_iand C.1 C.2.1 hd (by have k := k; simp only [List.map_cons, cv, iAnd, Int32.ofInt_toInt] at k; exact k)) k
theorem z_ior {x y : Int} (hd : decode M.2.1 pc = .ok (.ior, 1)) (k : Zj w d kc ks M (pc + 1) ls (aI (iOr x y) :: st) kd rf n g Q) : Zj w d kc ks M pc ls (aI y :: aI x :: st) kd rf n g Q :=
  z_of (fun p e R s m args below meth c H locs cells slots mc ms Qf lsC C hl k => lv_ior C.1 C.2.1 hd (by have k := k; simp only [List.map_cons, cv, iOr, Int32.ofInt_toInt] at k; exact k)) k
theorem z_ishl {x y : Int} (hd : decode M.2.1 pc = .ok (.ishl, 1)) (k : Zj w d kc ks M (pc + 1) ls (aI (iShl x y) :: st) kd rf n g Q) : Zj w d kc ks M pc ls (aI y :: aI x :: st) kd rf n g Q :=
  z_of (fun p e R s m args below meth c H locs cells slots mc ms Qf lsC C hl k => lv_ishl C.1 C.2.1 hd (by have k := k; simp only [List.map_cons, cv, iShl, Int32.ofInt_toInt] at k; exact k)) k
theorem z_ishr {x y : Int} (hd : decode M.2.1 pc = .ok (.ishr, 1)) (k : Zj w d kc ks M (pc + 1) ls (aI (iShr x y) :: st) kd rf n g Q) : Zj w d kc ks M pc ls (aI y :: aI x :: st) kd rf n g Q :=
  z_of (fun p e R s m args below meth c H locs cells slots mc ms Qf lsC C hl k => lv_ishr C.1 C.2.1 hd (by have k := k; simp only [List.map_cons, cv, iShr, Int32.ofInt_toInt] at k; exact k)) k
theorem z_iushr {x y : Int} (hd : decode M.2.1 pc = .ok (.iushr, 1)) (k : Zj w d kc ks M (pc + 1) ls (aI (iUshr x y) :: st) kd rf n g Q) : Zj w d kc ks M pc ls (aI y :: aI x :: st) kd rf n g Q :=
  z_of (fun p e R s m args below meth c H locs cells slots mc ms Qf lsC C hl k => lv_iushr C.1 C.2.1 hd rfl (by have k := k; simp only [List.map_cons, cv, iUshr, Int32.ofInt_toInt] at k; exact k)) k
theorem z_lshl {x y : Int} (hd : decode M.2.1 pc = .ok (.lshl, 1)) (k : Zj w d kc ks M (pc + 1) ls (aL (lShl x y) :: st) kd rf n g Q) : Zj w d kc ks M pc ls (aI y :: aL x :: st) kd rf n g Q :=
  z_of (fun p e R s m args below meth c H locs cells slots mc ms Qf lsC C hl k => lv_lshl C.1 C.2.1 hd rfl (by have k := k; simp only [List.map_cons, cv, lShl, Int64.ofInt_toInt] at k; exact k)) k
theorem z_i2b {x : Int} (hd : decode M.2.1 pc = .ok (.i2b, 1)) (k : Zj w d kc ks M (pc + 1) ls (aI (iByte x) :: st) kd rf n g Q) : Zj w d kc ks M pc ls (aI x :: st) kd rf n g Q :=
  z_of (fun p e R s m args below meth c H locs cells slots mc ms Qf lsC C hl k => lv_i2b C.1 C.2.1 hd rfl (by have k := k; simp only [List.map_cons, cv, iByte, Int32.ofInt_toInt] at k; exact k)) k
theorem z_i2s {x : Int} (hd : decode M.2.1 pc = .ok (.i2s, 1)) (k : Zj w d kc ks M (pc + 1) ls (aI (iShort x) :: st) kd rf n g Q) : Zj w d kc ks M pc ls (aI x :: st) kd rf n g Q :=
  z_of (fun p e R s m args below meth c H locs cells slots mc ms Qf lsC C hl k => lv_i2s C.1 C.2.1 hd rfl (by have k := k; simp only [List.map_cons, cv, iShort, Int32.ofInt_toInt] at k; exact k)) k
theorem z_i2l {x : Int} (hd : decode M.2.1 pc = .ok (.i2l, 1)) (k : Zj w d kc ks M (pc + 1) ls (aL (nm x) :: st) kd rf n g Q) : Zj w d kc ks M pc ls (aI x :: st) kd rf n g Q :=
  z_of (fun p e R s m args below meth c H locs cells slots mc ms Qf lsC C hl k => lv_i2l C.1 C.2.1 hd (Int64.toInt_inj.mp (by rw [Int32.toInt_toInt64]; have h := nm_rng x; exact (show nm x = nml (nm x) from (nml_id (by omega) (by omega)).symm))) k) k
theorem z_idiv {x y : Int} (hd : decode M.2.1 pc = .ok (.idiv, 1)) (hy : nm y ≠ 0) (k : Zj w d kc ks M (pc + 1) ls (aI (iDiv x y) :: st) kd rf n g Q) : Zj w d kc ks M pc ls (aI y :: aI x :: st) kd rf n g Q :=
  z_of (fun p e R s m args below meth c H locs cells slots mc ms Qf lsC C hl k => lv_idiv C.1 C.2.1 hd (fun q => hy (show (Int32.ofInt y).toInt = 0 by rw [q]; rfl)) (by have k := k; simp only [List.map_cons, cv, iDiv, Int32.ofInt_toInt] at k; exact k)) k
theorem z_irem {x y : Int} (hd : decode M.2.1 pc = .ok (.irem, 1)) (hy : nm y ≠ 0) (k : Zj w d kc ks M (pc + 1) ls (aI (iRem x y) :: st) kd rf n g Q) : Zj w d kc ks M pc ls (aI y :: aI x :: st) kd rf n g Q :=
  z_of (fun p e R s m args below meth c H locs cells slots mc ms Qf lsC C hl k => lv_irem C.1 C.2.1 hd (fun q => hy (show (Int32.ofInt y).toInt = 0 by rw [q]; rfl)) (by have k := k; simp only [List.map_cons, cv, iRem, Int32.ofInt_toInt] at k; exact k)) k
theorem z_ldiv {x y : Int} (hd : decode M.2.1 pc = .ok (.ldiv, 1)) (hy : nml y ≠ 0) (k : Zj w d kc ks M (pc + 1) ls (aL (lDiv x y) :: st) kd rf n g Q) : Zj w d kc ks M pc ls (aL y :: aL x :: st) kd rf n g Q :=
  z_of (fun p e R s m args below meth c H locs cells slots mc ms Qf lsC C hl k => lv_ldiv C.1 C.2.1 hd (fun q => hy (show (Int64.ofInt y).toInt = 0 by rw [q]; rfl)) (by have k := k; simp only [List.map_cons, cv, lDiv, Int64.ofInt_toInt] at k; exact k)) k
theorem z_lrem {x y : Int} (hd : decode M.2.1 pc = .ok (.lrem, 1)) (hy : nml y ≠ 0) (k : Zj w d kc ks M (pc + 1) ls (aL (lRem x y) :: st) kd rf n g Q) : Zj w d kc ks M pc ls (aL y :: aL x :: st) kd rf n g Q :=
  z_of (fun p e R s m args below meth c H locs cells slots mc ms Qf lsC C hl k => lv_lrem C.1 C.2.1 hd (fun q => hy (show (Int64.ofInt y).toInt = 0 by rw [q]; rfl)) (by have k := k; simp only [List.map_cons, cv, lRem, Int64.ofInt_toInt] at k; exact k)) k
theorem z_lcmp {x y : Int} (hd : decode M.2.1 pc = .ok (.lcmp, 1)) (k : Zj w d kc ks M (pc + 1) ls (aI (lCmp x y) :: st) kd rf n g Q) : Zj w d kc ks M pc ls (aL y :: aL x :: st) kd rf n g Q :=
  z_of (fun p e R s m args below meth c H locs cells slots mc ms Qf lsC C hl k => W.lcmp C.1 C.2.1 hd (by have k := k; simp only [List.map_cons, cv, lCmp, Int32.ofInt_toInt] at k; exact k)) k
theorem z_istore_n {j : Fin 4} {i : Nat} {z : Int} (hd : decode M.2.1 pc = .ok (.istore_n j, 1)) (hi : (j : Nat) = i) (hn : i < M.2.2.1) (hb : nlb ls i = true) (k : Zj w d kc ks M (pc + 1) (ls.set i (some (aI z))) st kd rf n g Q) : Zj w d kc ks M pc ls (aI z :: st) kd rf n g Q :=
  fun p e R s m args below meth c H locs cells slots mc ms Qc lsC C hR hS h1 h2 hl hq => lv_istore_n C.1 C.2.1 hd hi (kn_has hl) hn rfl (fun ls2 hl2 => k p e R s m args below meth c H locs cells slots mc ms Qc ls2 C hR hS h1 h2 (LV.set1 hl.2.1 hb hl2) hq)
theorem z_istore {i : Nat} {z : Int} (hd : decode M.2.1 pc = .ok (.istore i, 2)) (hn : i < M.2.2.1) (hb : nlb ls i = true) (k : Zj w d kc ks M (pc + 2) (ls.set i (some (aI z))) st kd rf n g Q) : Zj w d kc ks M pc ls (aI z :: st) kd rf n g Q :=
  fun p e R s m args below meth c H locs cells slots mc ms Qc lsC C hR hS h1 h2 hl hq => lv_istore C.1 C.2.1 hd (kn_has hl) hn rfl (fun ls2 hl2 => k p e R s m args below meth c H locs cells slots mc ms Qc ls2 C hR hS h1 h2 (LV.set1 hl.2.1 hb hl2) hq)
theorem z_astore_n {j : Fin 4} {i : Nat} {a : Nat} (hd : decode M.2.1 pc = .ok (.astore_n j, 1)) (hi : (j : Nat) = i) (hn : i < M.2.2.1) (hb : nlb ls i = true) (k : Zj w d kc ks M (pc + 1) (ls.set i (some (aR (some a)))) st kd rf n g Q) : Zj w d kc ks M pc ls (aR (some a) :: st) kd rf n g Q :=
  fun p e R s m args below meth c H locs cells slots mc ms Qc lsC C hR hS h1 h2 hl hq => lv_astore_n C.1 C.2.1 hd hi (kn_has hl) hn rfl (fun ls2 hl2 => k p e R s m args below meth c H locs cells slots mc ms Qc ls2 C hR hS h1 h2 (LV.set1 hl.2.1 hb hl2) hq)
theorem z_astore {i : Nat} {a : Nat} (hd : decode M.2.1 pc = .ok (.astore i, 2)) (hn : i < M.2.2.1) (hb : nlb ls i = true) (k : Zj w d kc ks M (pc + 2) (ls.set i (some (aR (some a)))) st kd rf n g Q) : Zj w d kc ks M pc ls (aR (some a) :: st) kd rf n g Q :=
  fun p e R s m args below meth c H locs cells slots mc ms Qc lsC C hR hS h1 h2 hl hq => lv_astore C.1 C.2.1 hd (kn_has hl) hn rfl (fun ls2 hl2 => k p e R s m args below meth c H locs cells slots mc ms Qc ls2 C hR hS h1 h2 (LV.set1 hl.2.1 hb hl2) hq)
theorem z_lstore_n {j : Fin 4} {i : Nat} {z : Int} (hd : decode M.2.1 pc = .ok (.lstore_n j, 1)) (hi : (j : Nat) = i) (hn : i + 1 < M.2.2.1) (hb : nlb ls i = true) (k : Zj w d kc ks M (pc + 1) ((ls.set i (some (aL z))).set (i + 1) none) st kd rf n g Q) : Zj w d kc ks M pc ls (aL z :: st) kd rf n g Q :=
  fun p e R s m args below meth c H locs cells slots mc ms Qc lsC C hR hS h1 h2 hl hq => lv_lstore_n C.1 C.2.1 hd hi (kn_has hl) hn rfl (fun ls2 hl2 => k p e R s m args below meth c H locs cells slots mc ms Qc ls2 C hR hS h1 h2 (LV.set2 hl.2.1 hb hl2) hq)
theorem z_lstore {i : Nat} {z : Int} (hd : decode M.2.1 pc = .ok (.lstore i, 2)) (hn : i + 1 < M.2.2.1) (hb : nlb ls i = true) (k : Zj w d kc ks M (pc + 2) ((ls.set i (some (aL z))).set (i + 1) none) st kd rf n g Q) : Zj w d kc ks M pc ls (aL z :: st) kd rf n g Q :=
  fun p e R s m args below meth c H locs cells slots mc ms Qc lsC C hR hS h1 h2 hl hq => lv_lstore C.1 C.2.1 hd (kn_has hl) hn rfl (fun ls2 hl2 => k p e R s m args below meth c H locs cells slots mc ms Qc ls2 C hR hS h1 h2 (LV.set2 hl.2.1 hb hl2) hq)
theorem z_iinc {i : Nat} {z x : Int} (hd : decode M.2.1 pc = .ok (.iinc i z, 3)) (h : ls[i]? = some (some (aI x))) (hn : i < M.2.2.1) (hb : nlb ls i = true) (k : Zj w d kc ks M (pc + 3) (ls.set i (some (aI (x + z)))) st kd rf n g Q) : Zj w d kc ks M pc ls st kd rf n g Q := by
  intro p e R s m args below meth c H locs cells slots mc ms Qc lsC C hR hS h1 h2 hl hq
  obtain ⟨q, hq1⟩ := List.getElem?_of_mem (kn_mem (w := w) h)
  exact lv_iinc C.1 C.2.1 hd (kn_has hl) (k := q) hq1 (Int32.ofInt_add x z).symm hn rfl (fun ls2 hl2 => k p e R s m args below meth c H locs cells slots mc ms Qc ls2 C hR hS h1 h2 (LV.set1 hl.2.1 hb hl2) hq)
theorem z_if_eq {x : Int} {off : Int} {tgt : Nat} (hd : decode M.2.1 pc = .ok (.ifCond .eq off, 3)) (ht : (pc : Int) + off = (tgt : Int)) (kt : nm x = 0 → Zj w d kc ks M tgt ls st kd rf n g Q) (kf : ¬ (nm x = 0) → Zj w d kc ks M (pc + 3) ls st kd rf n g Q) : Zj w d kc ks M pc ls (aI x :: st) kd rf n g Q := by
  intro p e R s m args below meth c H locs cells slots mc ms Qc lsC C hR hS h1 h2 hl hq
  have z0 : nm 0 = 0 := by decide
  refine lv_if_eq C.1 C.2.1 hd ht (fun q => kt ?_ p e R s m args below meth c H locs cells slots mc ms Qc lsC C hR hS h1 h2 hl hq) (fun q => kf ?_ p e R s m args below meth c H locs cells slots mc ms Qc lsC C hR hS h1 h2 hl hq)
  all_goals (first | (have q := q; rw [show (0 : Int32) = Int32.ofInt 0 from rfl] at q) | skip)
  all_goals (simp only [lt_nm, le_nm, eq_nm, z0] at q; (try rw [z0] at q); (first | exact q | omega))
theorem z_icmp_eq {x y : Int} {off : Int} {tgt : Nat} (hd : decode M.2.1 pc = .ok (.if_icmp .eq off, 3)) (ht : (pc : Int) + off = (tgt : Int)) (kt : nm x = nm y → Zj w d kc ks M tgt ls st kd rf n g Q) (kf : ¬ (nm x = nm y) → Zj w d kc ks M (pc + 3) ls st kd rf n g Q) : Zj w d kc ks M pc ls (aI y :: aI x :: st) kd rf n g Q := by
  intro p e R s m args below meth c H locs cells slots mc ms Qc lsC C hR hS h1 h2 hl hq
  have z0 : nm 0 = 0 := by decide
  refine lv_icmp_eq C.1 C.2.1 hd ht (fun q => kt ?_ p e R s m args below meth c H locs cells slots mc ms Qc lsC C hR hS h1 h2 hl hq) (fun q => kf ?_ p e R s m args below meth c H locs cells slots mc ms Qc lsC C hR hS h1 h2 hl hq)
  all_goals (first | (have q := q; rw [show (0 : Int32) = Int32.ofInt 0 from rfl] at q) | skip)
  all_goals (simp only [lt_nm, le_nm, eq_nm, z0] at q; (try rw [z0] at q); (first | exact q | omega))
theorem z_if_ne {x : Int} {off : Int} {tgt : Nat} (hd : decode M.2.1 pc = .ok (.ifCond .ne off, 3)) (ht : (pc : Int) + off = (tgt : Int)) (kt : ¬ nm x = 0 → Zj w d kc ks M tgt ls st kd rf n g Q) (kf : ¬ (¬ nm x = 0) → Zj w d kc ks M (pc + 3) ls st kd rf n g Q) : Zj w d kc ks M pc ls (aI x :: st) kd rf n g Q := by
  intro p e R s m args below meth c H locs cells slots mc ms Qc lsC C hR hS h1 h2 hl hq
  have z0 : nm 0 = 0 := by decide
  refine lv_if_ne C.1 C.2.1 hd ht (fun q => kt ?_ p e R s m args below meth c H locs cells slots mc ms Qc lsC C hR hS h1 h2 hl hq) (fun q => kf ?_ p e R s m args below meth c H locs cells slots mc ms Qc lsC C hR hS h1 h2 hl hq)
  all_goals (first | (have q := q; rw [show (0 : Int32) = Int32.ofInt 0 from rfl] at q) | skip)
  all_goals (simp only [lt_nm, le_nm, eq_nm, z0] at q; (try rw [z0] at q); (first | exact q | omega))
theorem z_icmp_ne {x y : Int} {off : Int} {tgt : Nat} (hd : decode M.2.1 pc = .ok (.if_icmp .ne off, 3)) (ht : (pc : Int) + off = (tgt : Int)) (kt : ¬ nm x = nm y → Zj w d kc ks M tgt ls st kd rf n g Q) (kf : ¬ (¬ nm x = nm y) → Zj w d kc ks M (pc + 3) ls st kd rf n g Q) : Zj w d kc ks M pc ls (aI y :: aI x :: st) kd rf n g Q := by
  intro p e R s m args below meth c H locs cells slots mc ms Qc lsC C hR hS h1 h2 hl hq
  have z0 : nm 0 = 0 := by decide
  refine lv_icmp_ne C.1 C.2.1 hd ht (fun q => kt ?_ p e R s m args below meth c H locs cells slots mc ms Qc lsC C hR hS h1 h2 hl hq) (fun q => kf ?_ p e R s m args below meth c H locs cells slots mc ms Qc lsC C hR hS h1 h2 hl hq)
  all_goals (first | (have q := q; rw [show (0 : Int32) = Int32.ofInt 0 from rfl] at q) | skip)
  all_goals (simp only [lt_nm, le_nm, eq_nm, z0] at q; (try rw [z0] at q); (first | exact q | omega))
theorem z_if_lt {x : Int} {off : Int} {tgt : Nat} (hd : decode M.2.1 pc = .ok (.ifCond .lt off, 3)) (ht : (pc : Int) + off = (tgt : Int)) (kt : nm x < 0 → Zj w d kc ks M tgt ls st kd rf n g Q) (kf : ¬ (nm x < 0) → Zj w d kc ks M (pc + 3) ls st kd rf n g Q) : Zj w d kc ks M pc ls (aI x :: st) kd rf n g Q := by
  intro p e R s m args below meth c H locs cells slots mc ms Qc lsC C hR hS h1 h2 hl hq
  have z0 : nm 0 = 0 := by decide
  refine lv_if_lt C.1 C.2.1 hd ht (fun q => kt ?_ p e R s m args below meth c H locs cells slots mc ms Qc lsC C hR hS h1 h2 hl hq) (fun q => kf ?_ p e R s m args below meth c H locs cells slots mc ms Qc lsC C hR hS h1 h2 hl hq)
  all_goals (first | (have q := q; rw [show (0 : Int32) = Int32.ofInt 0 from rfl] at q) | skip)
  all_goals (simp only [lt_nm, le_nm, eq_nm, z0] at q; (try rw [z0] at q); (first | exact q | omega))
theorem z_icmp_lt {x y : Int} {off : Int} {tgt : Nat} (hd : decode M.2.1 pc = .ok (.if_icmp .lt off, 3)) (ht : (pc : Int) + off = (tgt : Int)) (kt : nm x < nm y → Zj w d kc ks M tgt ls st kd rf n g Q) (kf : ¬ (nm x < nm y) → Zj w d kc ks M (pc + 3) ls st kd rf n g Q) : Zj w d kc ks M pc ls (aI y :: aI x :: st) kd rf n g Q := by
  intro p e R s m args below meth c H locs cells slots mc ms Qc lsC C hR hS h1 h2 hl hq
  have z0 : nm 0 = 0 := by decide
  refine lv_icmp_lt C.1 C.2.1 hd ht (fun q => kt ?_ p e R s m args below meth c H locs cells slots mc ms Qc lsC C hR hS h1 h2 hl hq) (fun q => kf ?_ p e R s m args below meth c H locs cells slots mc ms Qc lsC C hR hS h1 h2 hl hq)
  all_goals (first | (have q := q; rw [show (0 : Int32) = Int32.ofInt 0 from rfl] at q) | skip)
  all_goals (simp only [lt_nm, le_nm, eq_nm, z0] at q; (try rw [z0] at q); (first | exact q | omega))
theorem z_if_ge {x : Int} {off : Int} {tgt : Nat} (hd : decode M.2.1 pc = .ok (.ifCond .ge off, 3)) (ht : (pc : Int) + off = (tgt : Int)) (kt : ¬ nm x < 0 → Zj w d kc ks M tgt ls st kd rf n g Q) (kf : ¬ (¬ nm x < 0) → Zj w d kc ks M (pc + 3) ls st kd rf n g Q) : Zj w d kc ks M pc ls (aI x :: st) kd rf n g Q := by
  intro p e R s m args below meth c H locs cells slots mc ms Qc lsC C hR hS h1 h2 hl hq
  have z0 : nm 0 = 0 := by decide
  refine lv_if_ge C.1 C.2.1 hd ht (fun q => kt ?_ p e R s m args below meth c H locs cells slots mc ms Qc lsC C hR hS h1 h2 hl hq) (fun q => kf ?_ p e R s m args below meth c H locs cells slots mc ms Qc lsC C hR hS h1 h2 hl hq)
  all_goals (first | (have q := q; rw [show (0 : Int32) = Int32.ofInt 0 from rfl] at q) | skip)
  all_goals (simp only [lt_nm, le_nm, eq_nm, z0] at q; (try rw [z0] at q); (first | exact q | omega))
theorem z_icmp_ge {x y : Int} {off : Int} {tgt : Nat} (hd : decode M.2.1 pc = .ok (.if_icmp .ge off, 3)) (ht : (pc : Int) + off = (tgt : Int)) (kt : ¬ nm x < nm y → Zj w d kc ks M tgt ls st kd rf n g Q) (kf : ¬ (¬ nm x < nm y) → Zj w d kc ks M (pc + 3) ls st kd rf n g Q) : Zj w d kc ks M pc ls (aI y :: aI x :: st) kd rf n g Q := by
  intro p e R s m args below meth c H locs cells slots mc ms Qc lsC C hR hS h1 h2 hl hq
  have z0 : nm 0 = 0 := by decide
  refine lv_icmp_ge C.1 C.2.1 hd ht (fun q => kt ?_ p e R s m args below meth c H locs cells slots mc ms Qc lsC C hR hS h1 h2 hl hq) (fun q => kf ?_ p e R s m args below meth c H locs cells slots mc ms Qc lsC C hR hS h1 h2 hl hq)
  all_goals (first | (have q := q; rw [show (0 : Int32) = Int32.ofInt 0 from rfl] at q) | skip)
  all_goals (simp only [lt_nm, le_nm, eq_nm, z0] at q; (try rw [z0] at q); (first | exact q | omega))
theorem z_if_gt {x : Int} {off : Int} {tgt : Nat} (hd : decode M.2.1 pc = .ok (.ifCond .gt off, 3)) (ht : (pc : Int) + off = (tgt : Int)) (kt : 0 < nm x → Zj w d kc ks M tgt ls st kd rf n g Q) (kf : ¬ (0 < nm x) → Zj w d kc ks M (pc + 3) ls st kd rf n g Q) : Zj w d kc ks M pc ls (aI x :: st) kd rf n g Q := by
  intro p e R s m args below meth c H locs cells slots mc ms Qc lsC C hR hS h1 h2 hl hq
  have z0 : nm 0 = 0 := by decide
  refine lv_if_gt C.1 C.2.1 hd ht (fun q => kt ?_ p e R s m args below meth c H locs cells slots mc ms Qc lsC C hR hS h1 h2 hl hq) (fun q => kf ?_ p e R s m args below meth c H locs cells slots mc ms Qc lsC C hR hS h1 h2 hl hq)
  all_goals (first | (have q := q; rw [show (0 : Int32) = Int32.ofInt 0 from rfl] at q) | skip)
  all_goals (simp only [lt_nm, le_nm, eq_nm, z0] at q; (try rw [z0] at q); (first | exact q | omega))
theorem z_icmp_gt {x y : Int} {off : Int} {tgt : Nat} (hd : decode M.2.1 pc = .ok (.if_icmp .gt off, 3)) (ht : (pc : Int) + off = (tgt : Int)) (kt : nm y < nm x → Zj w d kc ks M tgt ls st kd rf n g Q) (kf : ¬ (nm y < nm x) → Zj w d kc ks M (pc + 3) ls st kd rf n g Q) : Zj w d kc ks M pc ls (aI y :: aI x :: st) kd rf n g Q := by
  intro p e R s m args below meth c H locs cells slots mc ms Qc lsC C hR hS h1 h2 hl hq
  have z0 : nm 0 = 0 := by decide
  refine lv_icmp_gt C.1 C.2.1 hd ht (fun q => kt ?_ p e R s m args below meth c H locs cells slots mc ms Qc lsC C hR hS h1 h2 hl hq) (fun q => kf ?_ p e R s m args below meth c H locs cells slots mc ms Qc lsC C hR hS h1 h2 hl hq)
  all_goals (first | (have q := q; rw [show (0 : Int32) = Int32.ofInt 0 from rfl] at q) | skip)
  all_goals (simp only [lt_nm, le_nm, eq_nm, z0] at q; (try rw [z0] at q); (first | exact q | omega))
theorem z_if_le {x : Int} {off : Int} {tgt : Nat} (hd : decode M.2.1 pc = .ok (.ifCond .le off, 3)) (ht : (pc : Int) + off = (tgt : Int)) (kt : ¬ 0 < nm x → Zj w d kc ks M tgt ls st kd rf n g Q) (kf : ¬ (¬ 0 < nm x) → Zj w d kc ks M (pc + 3) ls st kd rf n g Q) : Zj w d kc ks M pc ls (aI x :: st) kd rf n g Q := by
  intro p e R s m args below meth c H locs cells slots mc ms Qc lsC C hR hS h1 h2 hl hq
  have z0 : nm 0 = 0 := by decide
  refine lv_if_le C.1 C.2.1 hd ht (fun q => kt ?_ p e R s m args below meth c H locs cells slots mc ms Qc lsC C hR hS h1 h2 hl hq) (fun q => kf ?_ p e R s m args below meth c H locs cells slots mc ms Qc lsC C hR hS h1 h2 hl hq)
  all_goals (first | (have q := q; rw [show (0 : Int32) = Int32.ofInt 0 from rfl] at q) | skip)
  all_goals (simp only [lt_nm, le_nm, eq_nm, z0] at q; (try rw [z0] at q); (first | exact q | omega))
theorem z_icmp_le {x y : Int} {off : Int} {tgt : Nat} (hd : decode M.2.1 pc = .ok (.if_icmp .le off, 3)) (ht : (pc : Int) + off = (tgt : Int)) (kt : ¬ nm y < nm x → Zj w d kc ks M tgt ls st kd rf n g Q) (kf : ¬ (¬ nm y < nm x) → Zj w d kc ks M (pc + 3) ls st kd rf n g Q) : Zj w d kc ks M pc ls (aI y :: aI x :: st) kd rf n g Q := by
  intro p e R s m args below meth c H locs cells slots mc ms Qc lsC C hR hS h1 h2 hl hq
  have z0 : nm 0 = 0 := by decide
  refine lv_icmp_le C.1 C.2.1 hd ht (fun q => kt ?_ p e R s m args below meth c H locs cells slots mc ms Qc lsC C hR hS h1 h2 hl hq) (fun q => kf ?_ p e R s m args below meth c H locs cells slots mc ms Qc lsC C hR hS h1 h2 hl hq)
  all_goals (first | (have q := q; rw [show (0 : Int32) = Int32.ofInt 0 from rfl] at q) | skip)
  all_goals (simp only [lt_nm, le_nm, eq_nm, z0] at q; (try rw [z0] at q); (first | exact q | omega))
theorem z_goto {off : Int} {tgt : Nat} (hd : decode M.2.1 pc = .ok (.goto off, 3)) (ht : (pc : Int) + off = (tgt : Int)) (k : Zj w d kc ks M tgt ls st kd rf n g Q) : Zj w d kc ks M pc ls st kd rf n g Q :=
  fun p e R s m args below meth c H locs cells slots mc ms Qc lsC C hR hS h1 h2 hl hq => lv_goto C.1 C.2.1 hd ht (k p e R s m args below meth c H locs cells slots mc ms Qc lsC C hR hS h1 h2 hl hq)
end ZR
