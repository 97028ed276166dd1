/-! calls and new cells -/
def entA : List AV → List (Option AV)
  | [] => []
  | v :: r => if isLg v then some v :: none :: entA r else some v :: entA r
def ent (as : List AV) (nL : Nat) : List (Option AV) := entA as ++ List.replicate (nL - (entA as).length) none
theorem entA_len (w : GX) : ∀ as : List AV, (lg_sl (as.map (cv w))).length = (entA as).length
  | [] => rfl
  | v :: r => by
    have ih := entA_len w r
    have e : lg_sl ((v :: r).map (cv w)) = (if (cv w v).category = 2 then [.val (cv w v), .second] else [.val (cv w v)]) ++ lg_sl (r.map (cv w)) := by simp [lg_sl]
    rw [e, cat_cv]
    cases h : isLg v <;> simp [entA, h, ih]
theorem entA_mem (w : GX) : ∀ (as : List AV) (i0 i : Nat) (v : AV), (entA as)[i]? = some (some v) → (i0 + i, cv w v) ∈ lv_args i0 (as.map (cv w))
  | [], i0, i, v, h => by simp [entA] at h
  | u :: r, i0, i, v, h => by
    simp only [List.map_cons, lv_args, cat_cv]
    cases hl : isLg u with
    | true =>
      simp only [entA, hl, if_true] at h
      match i, h with
      | 0, h => simp at h; subst h; exact List.mem_cons_self
      | 1, h => simp at h
      | i + 2, h =>
        have := entA_mem w r (i0 + 2) i v (by simpa using h)
        rw [show i0 + (i + 2) = i0 + 2 + i by omega]
        exact List.mem_cons_of_mem _ (by simpa using this)
    | false =>
      simp only [entA, hl] at h
      match i, h with
      | 0, h => simp at h; subst h; exact List.mem_cons_self
      | i + 1, h =>
        have := entA_mem w r (i0 + 1) i v (by simpa using h)
        rw [show i0 + (i + 1) = i0 + 1 + i by omega]
        exact List.mem_cons_of_mem _ (by simpa using this)
theorem LV.ent (w : GX) {as : List AV} {nL : Nat} (h : (entA as).length ≤ nL) : LV w (ent as nL) ((lg_sl (as.map (cv w)) ++ List.replicate (nL - (lg_sl (as.map (cv w))).length) Slot.unset).toArray) nL := by
  have h0 := lv_entry (as.map (cv w)) (n := nL) (by rw [entA_len]; exact h)
  refine ⟨h0.1, ?_, h0.2.1, fun i v hi => ?_⟩
  · show (entA as ++ List.replicate (nL - (entA as).length) none).length = nL
    simp; omega
  · have hi : (entA as ++ List.replicate (nL - (entA as).length) none)[i]? = some (some v) := hi
    by_cases hlt : i < (entA as).length
    · rw [List.getElem?_append_left hlt] at hi
      have := entA_mem w as 0 i v hi
      rw [Nat.zero_add] at this
      exact h0.2.2 _ this
    · rw [List.getElem?_append_right (by omega)] at hi
      have := List.eq_of_mem_replicate (List.mem_of_getElem? hi)
      cases this
def Pcz (w : GX) (as : List AV) (kd : KD) (rf : RF) (n : Nat) (g : GI) : Array Value → State → Prop := fun v U => v = (as.map (cv w)).toArray ∧ Rp w kd rf n g U.heap ∧ Kx w U ∧ g_bs w ≤ U.heap.size ∧ g_b w < g_bs w ∧ va_X (g_b w) (g_L w) (g_xs w) U U.heap
def Qcz (w : GX) (Q : Post) : Array Value → State → Outcome → State → Prop := fun _ st o t => ∃ (r : Option AV) (kd : KD) (rf : RF) (n : Nat) (g : GI), o = .returned (r.map (cv w)) ∧ Q r kd rf n g ∧ Rp w kd rf n g t.heap ∧ va_F (Ab w) st t
abbrev Mws (M : Mth) : List Cond := Cond.code M.1 M.2.1 M.2.2.1 M.2.2.2.1 :: lw_gd
theorem z_met {w : GX} {d kc ks : Nat} {M : Mth} {as : List AV} {kd : KD} {rf : RF} {n : Nat} {g : GI} {Q : Post} (hy : plainName M.1.cls = true) (hown : M.2.2.2.2 = M.1.cls) (hlen : (entA as).length ≤ M.2.2.1) (k : Zj w d kc ks M 0 (ent as M.2.2.1) [] kd rf n g Q) :
    Met (g_l w) M.1 (Mws M) ({ frames := d, cells := kc, slots := ks, locals := 100 * d }) (Pcz w as kd rf n g) (Qcz w Q) kc ks (Ab w) := by
  refine Met.ofW (cc := M.2.1) (maxL := M.2.2.1) (ret := M.2.2.2.1) hy rfl ?_
  intro p e s m args below meth c s₁ B hml hv
  obtain ⟨rfl, hR, hK, hb1, hb2, hX⟩ := hv
  have hts := atoms_spec (ws := Mws M) B.pre
  rw [lg_entry_eq]
  exact k p e _ s m _ below meth c s.heap [] 0 0 kc ks (Qcz w Q) _ ⟨B.exec, B.bytes, B.returns, B.notSynchronized, hml, (name_of_methodNamed B.named B.method).1, by rw [hown]; exact findClass_of_methodNamed B.named, fun q hq => hts q (List.mem_cons_of_mem _ hq), hK, hb1, hb2, hX, Nat.le_refl _, Nat.le_refl _, Nat.le_refl _, Nat.le_refl _⟩ hR va_S.rf (by omega) (by omega) (LV.ent w hlen) (fun r kd' rf' n' g' t h1 h2 h3 => ⟨r, kd', rf', n', g', rfl, h1, h2, h3⟩)
theorem Pcz.blind {w : GX} {as : List AV} {kd : KD} {rf : RF} {n : Nat} {g : GI} : FrameBlind (Pcz w as kd rf n g) := by
  intro a U gg mk h
  obtain ⟨h1, h2, h3, h4, h5, h6⟩ := h
  exact ⟨h1, h2, Kx.same (s := U) (U := U.calling gg mk a) rfl h3, h4, h5, va_X.moved (u := U) (U := U.calling gg mk a) (Vm.Alike.refl U.vm) h6⟩
theorem Pcz.here {w : GX} {d : Nat} {M : Mth} {p : Program} {R : Room} {s : State} {m : MethodId} {args : Array Value} {meth : Method} {c : Code} {mc ms : Nat} {H : Heap} {locs : List Loc} {as : List AV} {kd : KD} {rf : RF} {n : Nat} {g : GI} (C : Ctx w d M p R s m args meth c mc ms) (hR : Rp w kd rf n g H) (hS : va_S (Ab w) s.heap H locs) :
    ∀ U : State, U.heap = H → s.WarmedH U.vm → Pcz w as kd rf n g (as.map (cv w)).toArray U := by
  intro U hU hW
  obtain ⟨-, -, -, -, -, -, -, -, k1, k2, k3, k4, -⟩ := C
  refine ⟨rfl, by rw [hU]; exact hR, Kx.warm hW k1, by rw [hU]; exact Nat.le_trans k2 hS.1, k3, ?_⟩
  rw [hU]
  exact va_X.moved hW.alike (va_X.kept k4 (hS.2.1 _ (by omega) (by show ¬ (g_bs w ≤ g_b w); omega)))
/-- a method that is called: its code's word, its class, how many it takes -/
def MOK (M : Mth) (na : Nat) : Prop := Cond.code M.1 M.2.1 M.2.2.1 M.2.2.2.1 ∈ lw_gd ∧ Cond.initialized M.1.cls ∈ lw_gd ∧ M.1.cls ≠ "java/lang/invoke/MethodHandle" ∧ M.1.cls ≠ "java/lang/invoke/VarHandle" ∧ (parseMethodDescriptor M.1.desc).map (fun d => d.parameters.length) = some na ∧ plainName M.1.cls = true ∧ M.2.2.2.2 = M.1.cls ∧ M.2.2.1 ≤ 60
theorem gd_GoodIn {ws : List Cond} (h : ∀ q ∈ ws, q ∈ lw_gd) : GoodIn lw_gd ws := fun q hq => ⟨h q hq, good_of_word (gd_good q (h q hq))⟩
theorem mws_in {M : Mth} {na : Nat} (h : MOK M na) : ∀ q ∈ Mws M, q ∈ lw_gd := fun q hq => by
  rcases List.mem_cons.mp hq with rfl | hq
  · exact h.1
  · exact hq
theorem fcd_lt (c k : Nat) : fcd c k < 4 := by
  unfold fcd
  have h : ∀ l ∈ fcdL, ∀ x ∈ l, x < 4 := by decide
  rw [List.getD_eq_getElem?_getD, List.getD_eq_getElem?_getD]
  cases h1 : fcdL[c]? with
  | none => simp
  | some l =>
    cases h2 : l[k]? with
    | none => simp [h2]
    | some x => simp [h2]; exact h l (List.mem_of_getElem? h1) x (List.mem_of_getElem? h2)
section ZK
variable {w : GX} {d kc ks kc' ks' : Nat} {M M' : Mth} {pc : Nat} {ls : List (Option AV)} {st : List AV} {kd : KD} {rf : RF} {n : Nat} {g : GI} {Q Q' : Post}
theorem z_after {p : Program} {e : Env} {R : Room} {s : State} {m : MethodId} {args : Array Value} {below : List Frame} {meth : Method} {c : Code} {H : Heap} {locs : List Loc} {cells slots mc ms : Nat} {Qc : Array Value → State → Outcome → State → Prop} {lsC : Array Slot} {st0 : List Value} {a : Array Value}
    (C : Ctx w d M p R s m args meth c mc ms) (hS : va_S (Ab w) s.heap H locs) (h1 : cells + (kc + kc') ≤ mc) (h2 : slots + (ks + ks') ≤ ms) (hl : LV w ls lsC M.2.2.1)
    (hq : ∀ (r : Option AV) (kd' : KD) (rf' : RF) (n' : Nat) (g' : GI) (t : State), Q r kd' rf' n' g' → Rp w kd' rf' n' g' t.heap → va_F (Ab w) s t → Qc args s (.returned (r.map (cv w))) t)
    (hr : va_Run p (g_l w) e R s m args below meth c H locs cells slots kc' ks' (F0 m pc lsC st0) (st.map (cv w)) (Qcz w Q' a) (Ab w))
    (hk : ∀ r kd' rf' n' g', Q' r kd' rf' n' g' → Zj w d kc ks M (pc + 3) ls (r.toList ++ st) kd' rf' n' g' Q) : W p (g_l w) e R s m args below meth c H locs cells slots (MQ below Qc args s mc ms (Ab w)) (F0 m pc lsC st0) := by
  intro T hT X
  obtain ⟨v, st₀, t, T', L, h0, X', hL, e1, e2, ⟨r, kd', rf', n', g', hv, hQ', hR', hF⟩, stp⟩ := hr T hT X
  cases hv
  obtain ⟨f1, f2⟩ := hF
  rw [h0] at f1 f2
  have hz := hk r kd' rf' n' g' hQ' p e R s m args below meth c T'.heap (locs ++ L) (cells + kc') (slots + ks') mc ms Qc lsC C (by rw [e1]; exact hR')
    ⟨by rw [e1]; exact Nat.le_trans hS.1 f1, fun q q1 q2 => by rw [e1, f2 q (Nat.lt_of_lt_of_le q1 hS.1) q2]; exact hS.2.1 q q1 q2, fun q hq => by
      rcases List.mem_append.mp hq with h | h
      · exact hS.2.2 q h
      · exact hL q h⟩ (by omega) (by omega) hl hq
  obtain ⟨t2, a1, b1⟩ := hz T' rfl X'
  refine ⟨t2, stp t2 ?_, b1⟩
  have e3 : (r.toList ++ st).map (cv w) = (r.map (cv w)).toList ++ st.map (cv w) := by cases r <;> simp
  rw [e3] at a1
  exact a1
theorem z_callS {idx na : Nat} {as stk : List AV} (hd : decode M.2.1 pc = .ok (.invokestatic idx, 3)) (hlk : Cond.methodLink M.2.2.2.2 idx M'.1 ∈ lw_gd) (hm : MOK M' na) (hs : Cond.static M'.1 ∈ lw_gd) (hna : as.length = na) (hlen : (entA as).length ≤ M'.2.2.1) (hst : stk = as.reverse ++ st) (hcat : catS st ≤ 8)
    (kz : Zj w d kc' ks' M' 0 (ent as M'.2.2.1) [] kd rf n g Q') (kk : ∀ r kd' rf' n' g', Q' r kd' rf' n' g' → Zj w (d + 1) kc ks M (pc + 3) ls (r.toList ++ st) kd' rf' n' g' Q) : Zj w (d + 1) (kc + kc') (ks + ks') M pc ls stk kd rf n g Q := by
  intro p e R s m args below meth c H locs cells slots mc ms Qc lsC C hR hS h1 h2 hl hq
  have ht := C.2.2.2.2.2.2.2.1
  obtain ⟨-, -, -, -, hml, -, hown, -, -, -, -, -, r1, r2, r3, r4⟩ := id C
  have hM := z_met hm.2.2.2.2.2.1 hm.2.2.2.2.2.2.1 hlen kz
  refine z_after C hS h1 h2 hl hq (va_runS (As := as.map (cv w)) (n := na) (rest := st.map (cv w)) ⟨C.1, C.2.1, hml, hown, ht⟩ hM ⟨callB_of na ht (gd_GoodIn (mws_in hm)) rfl rfl rfl (ht _ hm.2.1) (ht _ hlk) ⟨hm.2.2.1, hm.2.2.2.1, hm.2.2.2.2.1⟩ ⟨r1, ?_⟩, ht _ hs⟩ ⟨Pcz.blind, Pcz.here C hR hS⟩ rfl (by rw [List.length_map]; exact hna) hl.1 ?_ (lv_room (by rw [catS_cv]; exact hcat)) hd ⟨by omega, by omega⟩) kk
  · have := hm.2.2.2.2.2.2.2
    show 8 + (M'.2.2.1 + 11) + 100 * d ≤ R.locals
    omega
  · rw [hst, List.map_append, List.map_reverse]
theorem z_callSN {idx na : Nat} {as stk : List AV} {host : String} (hd : decode M.2.1 pc = .ok (.invokestatic idx, 3)) (hlk : (M.2.2.2.2, idx, M'.1, host) ∈ nestW) (hm : MOK M' na) (hs : Cond.static M'.1 ∈ lw_gd) (hna : as.length = na) (hlen : (entA as).length ≤ M'.2.2.1) (hst : stk = as.reverse ++ st) (hcat : catS st ≤ 8)
    (kz : Zj w d kc' ks' M' 0 (ent as M'.2.2.1) [] kd rf n g Q') (kk : ∀ r kd' rf' n' g', Q' r kd' rf' n' g' → Zj w (d + 1) kc ks M (pc + 3) ls (r.toList ++ st) kd' rf' n' g' Q) : Zj w (d + 1) (kc + kc') (ks + ks') M pc ls stk kd rf n g Q := by
  intro p e R s m args below meth c H locs cells slots mc ms Qc lsC C hR hS h1 h2 hl hq
  have ht := C.2.2.2.2.2.2.2.1
  obtain ⟨-, -, -, -, hml, -, hown, -, hKx, -, -, -, r1, r2, r3, r4⟩ := id C
  have hM := z_met hm.2.2.2.2.2.1 hm.2.2.2.2.2.2.1 hlen kz
  refine z_after C hS h1 h2 hl hq (va_runSN (As := as.map (cv w)) (n := na) (host := host) (Ts := lw_gd) (rest := st.map (cv w)) ⟨C.1, C.2.1, hml, hown, ht⟩ hM ⟨va_cnB na ht (gd_GoodIn (mws_in hm)) rfl rfl rfl (hKx.2.1 _ hlk) (ht _ hm.2.1) ⟨hm.2.2.1, hm.2.2.2.1, hm.2.2.2.2.1⟩ ⟨r1, ?_⟩, ht _ hs, trivial⟩ ⟨Pcz.blind, Pcz.here C hR hS⟩ rfl (by rw [List.length_map]; exact hna) hl.1 ?_ (lv_room (by rw [catS_cv]; exact hcat)) hd ⟨by omega, by omega⟩) kk
  · have := hm.2.2.2.2.2.2.2
    show 8 + (M'.2.2.1 + 11) + 100 * d ≤ R.locals
    omega
  · rw [hst, List.map_append, List.map_reverse]
theorem z_callV {idx na a ci : Nat} {as stk : List AV} {q : vw_C} (hd : decode M.2.1 pc = .ok (.invokevirtual idx, 3)) (hlk : Cond.methodLink M.2.2.2.2 idx M'.1 ∈ lw_gd) (hm : MOK M' na) (hs : Cond.instanceMethod M'.1 ∈ lw_gd) (hsel : Cond.selects M'.1.cls M'.1 M'.1 ∈ lw_gd) (hk : (kd a).1 = ci) (hcl : vwCl[ci]? = some q) (hqc : q.1 = M'.1.cls) (hna : as.length = na) (hlen : (entA (aR (some a) :: as)).length ≤ M'.2.2.1) (hst : stk = as.reverse ++ aR (some a) :: st) (hcat : catS st ≤ 8)
    (kz : Zj w d kc' ks' M' 0 (ent (aR (some a) :: as) M'.2.2.1) [] kd rf n g Q') (kk : ∀ r kd' rf' n' g', Q' r kd' rf' n' g' → Zj w (d + 1) kc ks M (pc + 3) ls (r.toList ++ st) kd' rf' n' g' Q) : Zj w (d + 1) (kc + kc') (ks + ks') M pc ls stk kd rf n g Q := by
  intro p e R s m args below meth c H locs cells slots mc ms Qc lsC C hR hS h1 h2 hl hq
  have ht := C.2.2.2.2.2.2.2.1
  obtain ⟨-, -, -, -, hml, -, hown, -, hKx, -, -, -, r1, r2, r3, r4⟩ := id C
  have hM := z_met hm.2.2.2.2.2.1 hm.2.2.2.2.2.2.1 hlen kz
  have hci := (cls_ok hcl).2.1
  have hrec := va_recv hKx.1 hR.1 hcl (hR.obj hk hci)
  rw [hqc, ← hR.adr (by omega)] at hrec
  refine z_after C hS h1 h2 hl hq (va_runV (C := M'.1.cls) (b := adr w a) (As := as.map (cv w)) (n := na) (rest := st.map (cv w)) ⟨C.1, C.2.1, hml, hown, ht⟩ hM ⟨callB_of na ht (gd_GoodIn (mws_in hm)) rfl rfl rfl (ht _ hm.2.1) (ht _ hlk) ⟨hm.2.2.1, hm.2.2.2.1, hm.2.2.2.2.1⟩ ⟨r1, ?_⟩, ht _ hs, ht _ hsel⟩ ⟨Pcz.blind, hrec, Pcz.here (as := aR (some a) :: as) C hR hS⟩ rfl (by rw [List.length_map]; exact hna) hl.1 ?_ (lv_room (by rw [catS_cv]; exact hcat)) hd ⟨by omega, by omega⟩) kk
  · have := hm.2.2.2.2.2.2.2
    show 8 + (M'.2.2.1 + 11) + 100 * d ≤ R.locals
    omega
  · rw [hst, List.map_append, List.map_reverse]; rfl
theorem z_callI {idx na a : Nat} {as stk : List AV} (hd : decode M.2.1 pc = .ok (.invokespecial idx, 3)) (hlk : Cond.methodLink M.2.2.2.2 idx M'.1 ∈ lw_gd) (hm : MOK M' na) (hs : Cond.instanceMethod M'.1 ∈ lw_gd) (hin : M'.1.name = "<init>") (hret : M'.2.2.2.1 = none) (hna : as.length = na) (hlen : (entA (aR (some a) :: as)).length ≤ M'.2.2.1) (hst : stk = as.reverse ++ aR (some a) :: st) (hcat : catS st ≤ 8)
    (kz : Zj w d kc' ks' M' 0 (ent (aR (some a) :: as) M'.2.2.1) [] kd rf n g Q') (kk : ∀ r kd' rf' n' g', Q' r kd' rf' n' g' → Zj w (d + 1) kc ks M (pc + 3) ls (r.toList ++ st) kd' rf' n' g' Q) : Zj w (d + 1) (kc + kc') (ks + ks') M pc ls stk kd rf n g Q := by
  intro p e R s m args below meth c H locs cells slots mc ms Qc lsC C hR hS h1 h2 hl hq
  have ht := C.2.2.2.2.2.2.2.1
  obtain ⟨-, -, -, -, hml, -, hown, -, hKx, -, -, -, r1, r2, r3, r4⟩ := id C
  have hM := z_met hm.2.2.2.2.2.1 hm.2.2.2.2.2.2.1 hlen kz
  refine z_after C hS h1 h2 hl hq (va_runI (b := adr w a) (As := as.map (cv w)) (n := na) (rest := st.map (cv w)) ⟨C.1, C.2.1, hml, hown, ht⟩ hM ⟨callB_of na ht (gd_GoodIn (mws_in hm)) (by rw [← hret]) rfl rfl (ht _ hm.2.1) (ht _ hlk) ⟨hm.2.2.1, hm.2.2.2.1, hm.2.2.2.2.1⟩ ⟨r1, ?_⟩, hin, ht _ hs⟩ ⟨Pcz.blind, Pcz.here (as := aR (some a) :: as) C hR hS⟩ rfl (by rw [List.length_map]; exact hna) hl.1 ?_ (lv_room (by rw [catS_cv]; exact hcat)) hd ⟨by omega, by omega⟩) kk
  · have := hm.2.2.2.2.2.2.2
    show 8 + (M'.2.2.1 + 11) + 100 * d ≤ R.locals
    omega
  · rw [hst, List.map_append, List.map_reverse]; rfl
theorem z_callIN {idx na a : Nat} {as stk : List AV} {host : String} (hd : decode M.2.1 pc = .ok (.invokespecial idx, 3)) (hlk : (M.2.2.2.2, idx, M'.1, host) ∈ nestW) (hm : MOK M' na) (hs : Cond.instanceMethod M'.1 ∈ lw_gd) (hin : M'.1.name = "<init>") (hret : M'.2.2.2.1 = none) (hna : as.length = na) (hlen : (entA (aR (some a) :: as)).length ≤ M'.2.2.1) (hst : stk = as.reverse ++ aR (some a) :: st) (hcat : catS st ≤ 8)
    (kz : Zj w d kc' ks' M' 0 (ent (aR (some a) :: as) M'.2.2.1) [] kd rf n g Q') (kk : ∀ r kd' rf' n' g', Q' r kd' rf' n' g' → Zj w (d + 1) kc ks M (pc + 3) ls (r.toList ++ st) kd' rf' n' g' Q) : Zj w (d + 1) (kc + kc') (ks + ks') M pc ls stk kd rf n g Q := by
  intro p e R s m args below meth c H locs cells slots mc ms Qc lsC C hR hS h1 h2 hl hq
  have ht := C.2.2.2.2.2.2.2.1
  obtain ⟨-, -, -, -, hml, -, hown, -, hKx, -, -, -, r1, r2, r3, r4⟩ := id C
  have hM := z_met hm.2.2.2.2.2.1 hm.2.2.2.2.2.2.1 hlen kz
  refine z_after C hS h1 h2 hl hq (va_runIN (b := adr w a) (As := as.map (cv w)) (n := na) (host := host) (Ts := lw_gd) (rest := st.map (cv w)) ⟨C.1, C.2.1, hml, hown, ht⟩ hM ⟨va_cnB na ht (gd_GoodIn (mws_in hm)) (by rw [← hret]) rfl rfl (hKx.2.1 _ hlk) (ht _ hm.2.1) ⟨hm.2.2.1, hm.2.2.2.1, hm.2.2.2.2.1⟩ ⟨r1, ?_⟩, hin, ht _ hs⟩ ⟨Pcz.blind, Pcz.here (as := aR (some a) :: as) C hR hS⟩ rfl (by rw [List.length_map]; exact hna) hl.1 ?_ (lv_room (by rw [catS_cv]; exact hcat)) hd ⟨by omega, by omega⟩) kk
  · have := hm.2.2.2.2.2.2.2
    show 8 + (M'.2.2.1 + 11) + 100 * d ≤ R.locals
    omega
  · rw [hst, List.map_append, List.map_reverse]; rfl
theorem z_oinit {idx a : Nat} (hd : decode M.2.1 pc = .ok (.invokespecial idx, 3)) (hlk : Cond.methodLink M.2.2.2.2 idx Lib.objectInit ∈ lw_gd) (hin : Cond.instanceMethod Lib.objectInit ∈ lw_gd) (hco : Cond.code Lib.objectInit ⟨#[0xb1]⟩ 1 none ∈ lw_gd) (hcat : catS st ≤ 8) (kk : Zj w (d + 1) kc ks M (pc + 3) ls st kd rf n g Q) : Zj w (d + 1) kc ks M pc ls (aR (some a) :: st) kd rf n g Q := by
  intro p e R s m args below meth c H locs cells slots mc ms Qc lsC C hR hS h1 h2 hl hq
  have ht := C.2.2.2.2.2.2.2.1
  obtain ⟨-, -, -, -, hml, -, hown, -, hKx, -, -, -, r1, r2, r3, r4⟩ := id C
  refine W.objInit C.1 C.2.1 hown (ht _ hlk) (ht _ hin) (ht _ hco) rfl (by rw [hml]; exact hl.1) (a := adr w a) (rest := st.map (cv w)) rfl hd (by omega) ?_ (kk p e R s m args below meth c H locs cells slots mc ms Qc lsC C hR hS h1 h2 hl hq)
  have h8 : 2 * (F0 m pc lsC ((aR (some a) :: st).map (cv w))).monitorRoom + ((st.map (cv w)).map fun v => v.category).sum ≤ 8 := lv_room (by rw [catS_cv]; exact hcat)
  omega
/-! new cells -/
theorem Rp.grow {H H1 : Heap} {k : Nat × Nat} {z : Nat → Int} {r : Nat → Option Nat} (hR : Rp w kd rf n g H) (hn : n + 1 < SC) (o1 : ∀ q, q < H.size → H1[q]? = H[q]?) (hz : H1.size = H.size + 1) (he : va_at (g_D w) vwCl (g_bs w + n, cel w k z r) H1) : Rp w (upf kd n k) (upf rf n r) (n + 1) (upf g n z) H1 := by
  refine ⟨?_, by rw [hz, hR.2.1]; omega, hn, fun a ha => ?_⟩
  · have hk : ∀ (k : Nat) (x : Nat × va_E), (wsx w kd rf n g)[k]? = some x → H1[x.1]? = H[x.1]? := fun k x hx => o1 x.1 ((hR.1 k x hx).lt)
    have h1 : va_P (g_D w) vwCl (wsx w kd rf n g ++ [(g_bs w + n, cel w (upf kd n k n) (upf g n z n) (upf rf n r n))]) H1 := by
      refine (hR.1.kept hk).app (fun j x hx => ?_)
      have hz : j < 1 := (List.getElem?_eq_some_iff.mp hx).1
      rw [show j = 0 by omega] at hx
      cases hx
      rw [upf_eq, upf_eq, upf_eq]
      exact he
    rw [wsx_push (kd' := upf kd n k) (rf' := upf rf n r) (g' := upf g n z) (fun q hq => by rw [upf_ne _ _ (by omega), upf_ne _ _ (by omega), upf_ne _ _ (by omega)])] at h1
    exact h1
  · rw [upf_ne _ _ (by omega)]
    exact hR.2.2.2 a (by omega)
theorem va_S.grow {w : GX} {H0 H H1 : Heap} {locs : List Loc} (hS : va_S (Ab w) H0 H locs) (o1 : ∀ q, q < H.size → H1[q]? = H[q]?) (hz : H1.size = H.size + 1) : va_S (Ab w) H0 H1 locs :=
  ⟨Nat.le_trans hS.1 (by omega), fun x h1 h2 => (o1 x (Nat.lt_of_lt_of_le h1 hS.1)).trans (hS.2.1 x h1 h2), hS.2.2⟩
theorem z_new {idx ci : Nat} {q : vw_C} (hd : decode M.2.1 pc = .ok (.new idx, 3)) (hcl : vwCl[ci]? = some q) (hlk : Cond.classLink M.2.2.2.2 idx q.1 ∈ lw_gd) (hins : Cond.instantiable q.1 q.2.2 ∈ lw_gd) (hini : Cond.initialized q.1 ∈ lw_gd) (hn : n + 1 < SC)
    (kk : Zj w d kc ks M (pc + 3) ls (aR (some n) :: st) (upf kd n (ci, 0)) (upf rf n (fun _ => none)) (n + 1) (upf g n (fun _ => 0)) Q) : Zj w d (kc + 1) (ks + q.2.2) M pc ls st kd rf n g Q := by
  intro p e R s m args below meth c H locs cells slots mc ms Qc lsC C hR hS h1 h2 hl hq
  have ht := C.2.2.2.2.2.2.2.1
  obtain ⟨-, -, -, -, hml, -, hown, -, hKx, -, -, -, r1, r2, r3, r4⟩ := id C
  obtain ⟨CC, T, N⟩ := q
  obtain ⟨e1, e2, e3, ty, hty, hnm, htc⟩ := cls_ok hcl
  have hKn := hKx.1.1 ci _ hcl
  refine W.newcK C.1 C.2.1 hown (ht _ hlk) (ht _ hins) (ht _ hini) rfl hd (by omega) (by omega) hKn.2.1 hR.2.1 fun H1 kC hkC f1 z1 o1 => ?_
  rw [← hR.2.1] at o1 z1
  have hfs : ∀ j, j < N → defaultValue (ty j) = vp_V (flds w ci (fun _ => 0) (fun _ => none)) j := by
    intro j hj
    have h3 := htc j hj
    unfold vp_V
    rw [List.getD_eq_getElem?_getD, flds_at (by rw [e1]; exact hj), ← h3]
    cases hh : ty j <;> first | rfl | (rw [hh] at h3; simp [ftc] at h3; exfalso; have := fcd_lt ci j; omega)
  have he : va_at (g_D w) vwCl (g_bs w + n, cel w (ci, 0) (fun _ => 0) (fun _ => none)) H1 := by
    rw [cel_o rfl e2]
    exact ⟨_, hcl, (u_born ty ht e3 hKn hkC f1 hty).to hfs⟩
  have e1' : ncf ci = N := e1
  have h2 : slots + (ks + N) ≤ ms := h2
  have hc := kk p e R s m args below meth c H1 locs (cells + 1) (slots + N) mc ms Qc lsC C (hR.grow hn o1 z1 he) (hS.grow o1 z1) (by omega) (by omega) hl hq
  have ea : adr w n = g_bs w + n := if_neg (by omega)
  have hc : W p (g_l w) e R s m args below meth c H1 locs (cells + 1) (slots + N) (MQ below Qc args s mc ms (Ab w)) (F0 m (pc + 3) lsC (.ref (adr w n) :: st.map (cv w))) := hc
  rw [ea] at hc
  exact hc
theorem z_newa {ty : FieldType} {at_ : ArrayType} {t : Nat} {z : Int} (hd : decode M.2.1 pc = .ok (.newarray at_, 2)) (hat : newarray.typeOf at_ = ty) (htt : (ty = .int ∧ t = 12) ∨ (ty = .boolean ∧ t = 13)) (hw : Cond.arrayClass ty ∈ lw_gd) (h0 : 0 ≤ nm z) (h9 : nm z < 1000) (hn : n + 1 < SC)
    (kk : Zj w d kc ks M (pc + 2) ls (aR (some n) :: st) (upf kd n (t, (nm z).toNat)) (upf rf n (fun _ => none)) (n + 1) (upf g n (fun _ => 0)) Q) : Zj w d (kc + 1) (ks + (nm z).toNat) M pc ls (aI z :: st) kd rf n g Q := by
  intro p e R s m args below meth c H locs cells slots mc ms Qc lsC C hR hS h1 h2 hl hq
  have ht := C.2.2.2.2.2.2.2.1
  obtain ⟨-, -, -, -, hml, -, hown, -, hKx, -, -, -, r1, r2, r3, r4⟩ := id C
  subst hat
  have hneg : ¬ Int32.ofInt z < 0 := fun q => by
    have := Int32.lt_iff_toInt_lt.mp q
    have e0 : (0 : Int32).toInt = 0 := rfl
    have : nm z < 0 := by rw [e0] at this; exact this
    omega
  have hcb : componentBytes (newarray.typeOf at_) ≤ 8 := by rcases htt with ⟨h, -⟩ | ⟨h, -⟩ <;> rw [h] <;> decide
  have hby : (nm z).toNat * componentBytes (newarray.typeOf at_) ≤ 536870912 := by
    have : (nm z).toNat * componentBytes (newarray.typeOf at_) ≤ 1000 * 8 := Nat.mul_le_mul (by omega) hcb
    omega
  refine va_newaK C.1 C.2.1 (ht _ hw) (n := Int32.ofInt z) (N := (nm z).toNat) rfl hd rfl hneg rfl hby (by omega) (by omega) hR.2.1 fun H1 cA f1 z1 o1 hAr hNm => ?_
  rw [← hR.2.1] at o1 z1
  have ea : adr w n = g_bs w + n := if_neg (by have := hR.2.2.1; omega)
  have he : va_at (g_D w) vwCl (g_bs w + n, cel w (t, (nm z).toNat) (fun _ => 0) (fun _ => none)) H1 := by
    rcases htt with ⟨h, rfl⟩ | ⟨h, rfl⟩
    · rw [cel_i rfl (Or.inl rfl)]
      have e1 : cA = g_cy w 12 := Option.some.inj (hNm.symm.trans (by rw [h]; exact (hKx.1.2 0 _ rfl).2))
      show H1[g_bs w + n]? = some (vp_cell _ _)
      rw [f1, h, ← e1]
      rfl
    · rw [cel_i rfl (Or.inr rfl)]
      have e1 : cA = g_cy w 13 := Option.some.inj (hNm.symm.trans (by rw [h]; exact (hKx.1.2 1 _ rfl).2))
      show H1[g_bs w + n]? = some (vp_cell _ _)
      rw [f1, h, ← e1]
      rfl
  have hc := kk p e R s m args below meth c H1 locs (cells + 1) (slots + (nm z).toNat) mc ms Qc lsC C (hR.grow hn o1 z1 he) (hS.grow o1 z1) (by omega) (by omega) hl hq
  have hc : W p (g_l w) e R s m args below meth c H1 locs (cells + 1) (slots + (nm z).toNat) (MQ below Qc args s mc ms (Ab w)) (F0 m (pc + 2) lsC (.ref (adr w n) :: st.map (cv w))) := hc
  rw [ea] at hc
  exact hc
theorem z_newq {idx t : Nat} {z : Int} {CC : String} (hd : decode M.2.1 pc = .ok (.anewarray idx, 3)) (hlk : Cond.classLink M.2.2.2.2 idx CC ∈ lw_gd) (htt : (CC = "ThrownNames$Sheet" ∧ t = 14) ∨ (CC = "ThrownNames$Text" ∧ t = 15) ∨ (CC = "ThrownNames$Water" ∧ t = 16)) (h0 : 0 ≤ nm z) (h9 : nm z < 1000) (hn : n + 1 < SC)
    (kk : Zj w d kc ks M (pc + 3) ls (aR (some n) :: st) (upf kd n (t, (nm z).toNat)) (upf rf n (fun _ => none)) (n + 1) (upf g n (fun _ => 0)) Q) : Zj w d (kc + 1) (ks + (nm z).toNat) M pc ls (aI z :: st) kd rf n g Q := by
  intro p e R s m args below meth c H locs cells slots mc ms Qc lsC C hR hS h1 h2 hl hq
  have ht := C.2.2.2.2.2.2.2.1
  obtain ⟨-, -, -, -, hml, -, hown, -, hKx, -, -, -, r1, r2, r3, r4⟩ := id C
  have hneg : ¬ Int32.ofInt z < 0 := fun q => by
    have := Int32.lt_iff_toInt_lt.mp q
    have e0 : (0 : Int32).toInt = 0 := rfl
    have : nm z < 0 := by rw [e0] at this; exact this
    omega
  have hao : va_AO CC s := by
    rcases htt with ⟨rfl, -⟩ | ⟨rfl, -⟩ | ⟨rfl, -⟩
    · exact hKx.2.2.1
    · exact hKx.2.2.2.1
    · exact hKx.2.2.2.2
  have hcy : s.vm.findClass ("[" ++ (FieldType.object CC).toString) = some (g_cy w t) := by
    rcases htt with ⟨rfl, rfl⟩ | ⟨rfl, rfl⟩ | ⟨rfl, rfl⟩
    · exact (hKx.1.2 2 _ rfl).2.choose_spec.choose_spec.2.2.2
    · exact (hKx.1.2 3 _ rfl).2.choose_spec.choose_spec.2.2.2
    · exact (hKx.1.2 4 _ rfl).2.choose_spec.choose_spec.2.2.2
  refine W.anew C.1 C.2.1 hown (ht _ hlk) (va_AO.use hao) (n := Int32.ofInt z) rfl hd rfl hneg (by rw [cl_of]; omega) (by omega) (by rw [cl_of]; omega) fun cA kA comp f1 f2 f3 f4 => ?_
  have e1 : cA = g_cy w t := Option.some.inj (f1.symm.trans hcy)
  subst e1
  rw [cl_of]
  generalize hH1 : H.push ({ cls := g_cy w t, slots := Array.replicate (nm z).toNat .null, vm := .none } : Cell) = H1
  have z1 : H1.size = H.size + 1 := by rw [← hH1, Array.size_push]
  have o1 : ∀ q : Nat, q < H.size → H1[q]? = H[q]? := fun q hq => by rw [← hH1, Array.getElem?_push, if_neg (Nat.ne_of_lt hq)]
  have ea : adr w n = g_bs w + n := if_neg (by have := hR.2.2.1; omega)
  have he : va_at (g_D w) vwCl (g_bs w + n, cel w (t, (nm z).toNat) (fun _ => 0) (fun _ => none)) H1 := by
    rw [cel_r rfl (by rcases htt with ⟨-, h⟩ | ⟨-, h⟩ | ⟨-, h⟩ <;> omega)]
    show H1[g_bs w + n]? = some (vp_cell _ _)
    rw [← hR.2.1, ← hH1, Array.getElem?_push_size, vp_cell_q]
    exact congrArg some (arrV_new _ _ _)
  have hc := kk p e R s m args below meth c H1 locs (cells + 1) (slots + (nm z).toNat) mc ms Qc lsC C (hR.grow hn o1 z1 he) (hS.grow o1 z1) (by omega) (by omega) hl hq
  have hc : W p (g_l w) e R s m args below meth c H1 locs (cells + 1) (slots + (nm z).toNat) (MQ below Qc args s mc ms (Ab w)) (F0 m (pc + 3) lsC (.ref (adr w n) :: st.map (cv w))) := hc
  rw [ea, ← hR.2.1] at hc
  exact hc
/-- an object into an array of references -/
theorem z_aast {a v ci t : Nat} {i : Int} {q : vw_C} (hd : decode M.2.1 pc = .ok (.aastore, 1)) (hk : (kd a).1 = t) (hcl : vwCl[ci]? = some q) (htt : (q.1 = "ThrownNames$Sheet" ∧ t = 14) ∨ (q.1 = "ThrownNames$Text" ∧ t = 15) ∨ (q.1 = "ThrownNames$Water" ∧ t = 16)) (hv : (kd v).1 = ci) (h0 : 0 ≤ nm i) (hi : nm i < ((kd a).2 : Int))
    (kk : Zj w d kc ks M (pc + 1) ls st kd (up2 rf a (nm i).toNat (some v)) n g Q) : Zj w d kc ks M pc ls (aR (some v) :: aI i :: aR (some a) :: st) kd rf n g Q := by
  intro p e R s m args below meth c H locs cells slots mc ms Qc lsC C hR hS h1 h2 hl hq
  obtain ⟨-, -, -, -, hml, -, hown, -, hKx, -, -, -, r1, r2, r3, r4⟩ := id C
  show W p (g_l w) e R s m args below meth c H locs cells slots _ (F0 m pc lsC (.ref (adr w v) :: .int (Int32.ofInt i) :: .ref (adr w a) :: st.map (cv w)))
  have hci := (cls_ok hcl).2.1
  have ht : 14 ≤ t ∧ t < 17 := by rcases htt with ⟨-, h⟩ | ⟨-, h⟩ | ⟨-, h⟩ <;> omega
  rw [hR.adr (a := a) (by omega), hR.adr (a := v) (by omega)]
  have hlt : a < n := hR.lt (by omega)
  have hg := wsx_get w kd rf g hlt
  rw [cel_r hk ht.1] at hg
  obtain ⟨r', hr', cellV, g1, g2, g3, -⟩ := hR.1 v _ (hR.obj hv hci)
  have hcls := (hKx.1.1 ci q hcl).2
  have hra : va_RA s (g_cy w t) (.object q.1) := by
    rcases htt with ⟨e1, rfl⟩ | ⟨e1, rfl⟩ | ⟨e1, rfl⟩ <;> rw [e1]
    · exact (hKx.1.2 2 _ rfl).2
    · exact (hKx.1.2 3 _ rfl).2
    · exact (hKx.1.2 4 _ rfl).2
  obtain ⟨kA, comp, k1, k2, k3, -⟩ := hra
  have hcomp : comp = (g_D w).1 ci := Option.some.inj (k3.symm.trans hcls.1)
  subst hcomp
  obtain ⟨kC, hkC, -⟩ := hcls.2
  have hx : vp_in (Int32.ofInt i) (kd a).2 := in_of h0 hi
  refine W.aast C.1 C.2.1 (hR.1 a _ hg) (fun q h => by cases h) (fun h => by cases h) k1 k2 rfl hkC ⟨fun q => hx (Or.inl q), ?_⟩ g1 (fun q h => by rw [g3] at h; cases h) (by rw [g2]; exact hkC) (by rw [g2]; exact va_assign hcls) rfl rfl hd fun H1 e1 z1 oq => ?_
  · show _ < (arrV _ _ _).slots.size
    rw [arrV_size]
    exact Nat.not_le.mp fun q => hx (Or.inr q)
  · have hat : va_at (g_D w) vwCl (g_bs w + a, cel w (kd a) (g a) (up2 rf a (nm i).toNat (some v) a)) H1 := by
      rw [cel_r hk ht.1, up2_eq]
      show H1[g_bs w + a]? = some (vp_cell _ _)
      rw [e1, vp_cell_q, vp_cell_q, arrV_store, ← hR.adr (a := v) (by omega)]
      congr 2
      funext q
      by_cases hq : q = (nm i).toNat
      · subst hq; simp [updV, up1, cl_of, va_rf]
      · simp [updV, up1, hq, cl_of]
    exact kk p e R s m args below meth c H1 _ cells slots mc ms Qc lsC C (hR.put hlt hat z1 oq (fun q hq => ⟨rfl, up2_ne _ _ _ hq⟩)) (hS.put z1 oq (by show g_bs w ≤ g_bs w + a; omega)) h1 h2 hl hq
end ZK
