/-! THE CLAIM OUT OF ONE WALK OF THE LAW'S BODY. Your part is whole_start (and what it stands on); all else here is the same for every law, but numbers. -/
def R_law : String := "ThrownNamesLaw"
def lw_P (b : Addr) (xs : List Int32) (args : Array Value) (s : State) : Prop := args = #[.ref b] ∧ s.IntsAt b xs ∧ xs.length ≤ 384 ∧ (Jvm.Cond.and given_1 narrow_1).before args s = true
def lw_Q (_ : Array Value) (s : State) (o : Outcome) (t : State) : Prop := o = .returned (some (.int 1)) ∧ Framed s o t [] 600000 7302250
def lw_Z (below : List Frame) (a : Array Value) (s : State) : State → Prop := fun t => ∃ o, t.status = .running ∧ Ended t below o ∧ lw_Q a s o t
/-- the law's own end, with 1 on the stack, nothing written that was there before, its room as the claim has it -/
theorem lw_ret {p : Program} {l : Launch} {e : Env} {s : State} {m : MethodId} {below : List Frame} {meth : Method} {c : Code} {b : Nat} (hx : p.tables.exec = Jvm.exec) (hb : c.code = code) (hr : meth.sig.returnType = ret) (hlocks : meth.locks = false) {pc : Nat} {H : Heap} {ls : Array Slot} (hdg : decode code pc = .ok (.ireturn, 1)) : W p l e room_1 s m #[Value.ref b] below meth c H [] 600000 7302250 (lw_Z below #[Value.ref b] s) (F0 m pc ls [.int 1]) := by
  intro T hT X
  obtain ⟨fs, hret, hrun, hended, hW, hframe⟩ := X.leave (v := some (.int 1)) (hlocks := hlocks) (fun h => by rw [hr] at h; cases h)
  have hmeth' : T.vm.method? m = some meth := X.method'
  refine ⟨T.setFrames fs, ?_, .returned (some (.int 1)), hrun, hended, rfl, ⟨_, rfl⟩, hW, hframe⟩
  jvm_step X.here [X.here.top, hx, hb, hdg, hmeth', hr, ret, narrow_b1]
  (try refine ⟨rfl, ?_⟩); (try refine ⟨rfl, ?_⟩)
  first | (intro acts; rw [hret _ acts rfl rfl rfl]) | rw [hret _ _ rfl rfl rfl]
  exact Steps.refl _
/-- what holds at the law's entry: the machine, the code, the tables' words (any of lw_tbl by 'hts w (by decide +kernel)'), the script of L ints xs at the cell b, what the Statement gives of the start (any of its parts by flat_of_before) -/
def lw_At (p : Program) (s : State) (m : MethodId) (meth : Method) (c : Code) (b L : Nat) (xs : Nat → Int32) : Prop :=
  p.tables.exec = Jvm.exec ∧ c.code = code ∧ meth.sig.returnType = ret ∧ c.maxLocals = 4 ∧ s.vm.findClass R_law = some m.cls ∧ (∀ w ∈ lw_tbl, w.before #[Value.ref b] s = true) ∧ va_X b L xs s s.heap ∧ b < s.heap.size ∧ meth.locks = false ∧ (Jvm.Cond.and given_1 narrow_1).before #[Value.ref b] s = true ∧ meth.name = "law"
/-! the start of all things -/
def T0 : TT := (((([] : List Int), ([] : List Int)), ([] : Log2), ([] : Log2), ([] : List Int), ([] : Log3)), 8, 0, fun _ => (0, -1, fun _ => 0))
theorem no_i (i : Nat) : ¬ ((i : Int) < -1) := by omega
theorem GT_0 : GT T0 := ⟨⟨Nat.zero_le _, fun i h => absurd h (Nat.not_lt_zero i), Nat.zero_le _, fun i h => absurd h (Nat.not_lt_zero i), ⟨Nat.zero_le _, fun i h => absurd h (Nat.not_lt_zero i)⟩, ⟨Nat.zero_le _, fun i h => absurd h (Nat.not_lt_zero i)⟩, ⟨Nat.zero_le _, fun i h => absurd h (Nat.not_lt_zero i)⟩, ⟨Nat.zero_le _, fun i h => absurd h (Nat.not_lt_zero i)⟩⟩, ⟨by decide, by decide⟩, fun s hs => ⟨by show (-1 : Int) ≤ -1; omega, by show (-1 : Int) ≤ 60; omega, fun h => absurd h (by show ¬ (0 : Int) ≤ -1; omega), fun i h => absurd h (no_i i)⟩⟩
theorem IC_0 {g : GI} (h1 : g 2 3 = 0) (h2 : g 6 3 = 0) (h3 : g 10 3 = 0) (h4 : g 14 3 = 0) (h5 : g 18 11 = 8) (h6 : g 0 11 = 0) (h7 : g 0 12 = 1) (h8 : g 216 1 = 0) (h9 : g 218 1 = 0) (h10 : ∀ s, s < 4 → g (220 + 2 * s) 2 = -1) : IC g T0 :=
  ⟨⟨⟨h8, fun i h => absurd h (Nat.not_lt_zero i)⟩, ⟨h9, fun i h => absurd h (Nat.not_lt_zero i)⟩, ⟨h1, fun i h => absurd h (Nat.not_lt_zero i)⟩, ⟨h2, fun i h => absurd h (Nat.not_lt_zero i)⟩, ⟨h3, fun i h => absurd h (Nat.not_lt_zero i)⟩, ⟨h4, fun i h => absurd h (Nat.not_lt_zero i)⟩⟩, Or.inl h7, h5, h6, fun s hs => ⟨h10 s hs, fun h => absurd h (by show ¬ (0 : Int) ≤ -1; omega), fun i h => absurd h (no_i i)⟩⟩
theorem IM_0 {g : GI} (h1 : g 228 4 = 0) (h2 : g 228 14 = 0) (h3 : g 228 16 = 0) (h4 : g 228 18 = 0) (h5 : g 228 31 = 0) (h6 : g 234 0 = 0) (h7 : g 234 1 = 0) (h8 : g 228 13 = 8) (h9 : g 228 27 = -1) (h10 : g 228 28 = -1) (h11 : g 228 30 = -1) (k0 : g 229 0 = -1) (k1 : g 229 1 = -1) (k2 : g 229 2 = -1) (k3 : g 229 3 = -1) : IM g T0 := by
  refine ⟨⟨h6, fun i h => absurd h (Nat.not_lt_zero i), h7, fun i h => absurd h (Nat.not_lt_zero i)⟩, ⟨h2, fun i h => absurd h (Nat.not_lt_zero i), h3, fun i h => absurd h (Nat.not_lt_zero i)⟩, ⟨h4, fun i h => absurd h (Nat.not_lt_zero i)⟩, ⟨h5, fun i h => absurd h (Nat.not_lt_zero i)⟩, ⟨h8, h1, h9, h10, h11⟩, fun s hs => ⟨fun _ => ?_, fun h => absurd h (by show ¬ (0 : Int) ≤ -1; omega), fun i h => absurd h (no_i i)⟩⟩
  rcases (show s = 0 ∨ s = 1 ∨ s = 2 ∨ s = 3 by omega) with e | e | e | e <;> subst e
  · exact k0
  · exact k1
  · exact k2
  · exact k3
theorem wsx_rf {w : GX} {kd : KD} {rf rf2 : RF} {n : Nat} {g : GI} (h : ∀ a, a < n → rf a = rf2 a) : wsx w kd rf n g = wsx w kd rf2 n g := by
  unfold wsx
  apply List.map_congr_left
  intro a ha
  rw [h a (List.mem_range.mp ha)]
theorem z_rf {w : GX} {d kc ks : Nat} {M : Mth} {pc : Nat} {ls : List (Option AV)} {st : List AV} {kd : KD} {rf rf2 : RF} {n : Nat} {g : GI} {Q : Post} (h : ∀ a, a < n → rf a = rf2 a) (k : Zj w d kc ks M pc ls st kd rf2 n g Q) : Zj w d kc ks M pc ls st kd rf n g Q :=
  fun p e R s m args below meth c H locs cells slots mc ms Qc lsC C hR => k p e R s m args below meth c H locs cells slots mc ms Qc lsC C ⟨by rw [← wsx_rf h]; exact hR.1, hR.2⟩
theorem law_start {w : GX} {d : Nat} {rf : RF} {g : GI} (hL : g_L w ≤ 384) : Zj w (d + 17) 250 5594 mL_law 0 [some (aR (some SC)), none, none, none] [] (kdn 0) rf 0 g (Pn (fun r _ => r = some (aI 1))) := by
  have hr : Rin 0 0 (fun b j => j < 0 ∧ b < 0) rf rf := ⟨fun _ _ => rfl, fun b j _ h => absurd h (Nat.not_lt_zero b)⟩
  refine n_new (ci := 10) (q := (RX10, TX10, 13)) (N := 13) (U := (fun b j => j < 0 ∧ b < 0)) dL_law_0 rfl cl_L_7 ib_X10 ii_X10 rfl (by decide +kernel) (by decide) (Nat.le_refl _) hr (fun r1 g1 hr1 y1 f1 z1 => ?_)
  refine z_dup dL_law_3 rfl ?_
  refine n_call (M' := mX10_init) (c := 0) (n' := 228) (as := []) (kc := 22) (ks := 1551) (kc' := 227) (ks' := 4030) (U := (fun b j => j < 0 ∧ b < 0)) dL_law_4 lk_L_9 mok_X10_init in_X10_init rfl rfl rfl (Nat.le_of_ble_eq_true rfl) rfl (Nat.le_of_ble_eq_true rfl) rfl (Nat.le_refl _) (n_X10 (d := d + 13)) hr1 y1 z1 (fun r2 g2 hr2 f2 G2 => ?_)
  refine z_astore_n dL_law_7 rfl (by decide) rfl ?_
  refine n_new (ci := 11) (q := (RX11, TX11, 35)) (N := 35) (U := (fun b j => j < 0 ∧ b < 0)) dL_law_8 rfl cl_L_10 ib_X11 ii_X11 rfl (by decide +kernel) (by decide) (Nat.zero_le _) hr2 (fun r3 g3 hr3 y3 f3 z3 => ?_)
  refine z_dup dL_law_11 rfl ?_
  refine n_call (M' := mX11_init) (c := 228) (n' := 250) (as := []) (kc := 0) (ks := 0) (kc' := 21) (ks' := 1516) (U := (fun b j => j < 0 ∧ b < 0)) dL_law_12 lk_L_12 mok_X11_init in_X11_init rfl rfl rfl (Nat.le_of_ble_eq_true rfl) rfl (Nat.le_of_ble_eq_true rfl) rfl (Nat.zero_le _) (n_X11 (d := d + 15)) hr3 y3 z3 (fun r4 g4 hr4 f4 G4 => ?_)
  refine z_astore_n dL_law_15 rfl (by decide) rfl ?_
  refine z_iconst dL_law_16 ?_
  refine z_istore_n dL_law_17 rfl (by decide) rfl ?_
  rw [kdn_250]
  refine z_rf (rf2 := rf0) (fun a ha => funext fun j => (hr4.2 a j (Nat.zero_le _) ha).resolve_left (fun h => absurd h.1 (Nat.not_lt_zero _))) ?_
  obtain ⟨a1, a2, a3, a4, a5, a6, a7, a8, a9, a10⟩ := G2
  obtain ⟨b1, b2, b3, b4, b5, b6, b7, b8, b9, b10, b11, b12, b13, b14, b15⟩ := G4
  exact law_loop (P := fun r _ => r = some (aI 1)) hL ⟨T0, GT_0, (IC_0 a1 a2 a3 a4 a5 a6 a7 a8 a9 a10).hi (fun b hb => (f4 b hb).trans (f3 b (by omega))), IM_0 b1 b2 b3 b4 b5 b6 b7 b8 b9 b10 b11 b12 b13 b14 b15⟩ (fun _ => rfl)
/-- what the tables say of the classes -/
theorem k_known {s : State} {args : Array Value} (hts : ∀ q ∈ lw_gd, q.before args s = true) : ∃ F : Nat → ClassId × (Nat → Nat), ∀ (c : Nat) (q : vw_C), vwCl[c]? = some q → u_Kn s q.1 q.2.1 q.2.2 (F c).1 (F c).2 := by
  have h : ∀ c : Nat, ∃ z : ClassId × (Nat → Nat), ∀ q : vw_C, vwCl[c]? = some q → u_Kn s q.1 q.2.1 q.2.2 z.1 z.2 := by
    intro c
    match c with
    | 0 =>
      obtain ⟨cC, iS, h⟩ := u_known (C := RX0) (T := TX0) (N := 2) hts uw_0 (hts _ ib_X0)
      exact ⟨(cC, iS), fun q hq => by cases hq; exact h⟩
    | 1 =>
      obtain ⟨cC, iS, h⟩ := u_known (C := RX1) (T := TX1) (N := 8) hts uw_1 (hts _ ib_X1)
      exact ⟨(cC, iS), fun q hq => by cases hq; exact h⟩
    | 2 =>
      obtain ⟨cC, iS, h⟩ := u_known (C := RX2) (T := TX2) (N := 8) hts uw_2 (hts _ ib_X2)
      exact ⟨(cC, iS), fun q hq => by cases hq; exact h⟩
    | 3 =>
      obtain ⟨cC, iS, h⟩ := u_known (C := RX3) (T := TX3) (N := 5) hts uw_3 (hts _ ib_X3)
      exact ⟨(cC, iS), fun q hq => by cases hq; exact h⟩
    | 4 =>
      obtain ⟨cC, iS, h⟩ := u_known (C := RX4) (T := TX4) (N := 4) hts uw_4 (hts _ ib_X4)
      exact ⟨(cC, iS), fun q hq => by cases hq; exact h⟩
    | 5 =>
      obtain ⟨cC, iS, h⟩ := u_known (C := RX5) (T := TX5) (N := 7) hts uw_5 (hts _ ib_X5)
      exact ⟨(cC, iS), fun q hq => by cases hq; exact h⟩
    | 6 =>
      obtain ⟨cC, iS, h⟩ := u_known (C := RX6) (T := TX6) (N := 3) hts uw_6 (hts _ ib_X6)
      exact ⟨(cC, iS), fun q hq => by cases hq; exact h⟩
    | 7 =>
      obtain ⟨cC, iS, h⟩ := u_known (C := RX7) (T := TX7) (N := 2) hts uw_7 (hts _ ib_X7)
      exact ⟨(cC, iS), fun q hq => by cases hq; exact h⟩
    | 8 =>
      obtain ⟨cC, iS, h⟩ := u_known (C := RX8) (T := TX8) (N := 5) hts uw_8 (hts _ ib_X8)
      exact ⟨(cC, iS), fun q hq => by cases hq; exact h⟩
    | 9 =>
      obtain ⟨cC, iS, h⟩ := u_known (C := RX9) (T := TX9) (N := 12) hts uw_9 (hts _ ib_X9)
      exact ⟨(cC, iS), fun q hq => by cases hq; exact h⟩
    | 10 =>
      obtain ⟨cC, iS, h⟩ := u_known (C := RX10) (T := TX10) (N := 13) hts uw_10 (hts _ ib_X10)
      exact ⟨(cC, iS), fun q hq => by cases hq; exact h⟩
    | 11 =>
      obtain ⟨cC, iS, h⟩ := u_known (C := RX11) (T := TX11) (N := 35) hts uw_11 (hts _ ib_X11)
      exact ⟨(cC, iS), fun q hq => by cases hq; exact h⟩
    | n + 12 =>
      refine ⟨(0, fun _ => 0), fun q hq => ?_⟩
      have := (List.getElem?_eq_some_iff.mp hq).1
      have e : vwCl.length = 12 := rfl
      omega
  obtain ⟨F, hF⟩ := Classical.axiomOfChoice h
  exact ⟨F, fun c q hq => hF c q hq⟩
theorem nest_in : ∀ q ∈ nestW, Cond.methodLinkNest q.1 q.2.1 q.2.2.1 q.2.2.2 ∈ tables_1 := by decide +kernel
theorem ao_S : Cond.arrayOver (.object "ThrownNames$Sheet") ∈ tables_1 := List.mem_of_getElem? (i := 305) (by decide +kernel)
theorem ao_T : Cond.arrayOver (.object "ThrownNames$Text") ∈ tables_1 := List.mem_of_getElem? (i := 26) (by decide +kernel)
theorem ao_W : Cond.arrayOver (.object "ThrownNames$Water") ∈ tables_1 := List.mem_of_getElem? (i := 148) (by decide +kernel)
theorem a_int {s : State} {args : Array Value} {ty : FieldType} (hty : ty = .int ∨ ty = .boolean) (h : (Cond.arrayClass ty).before args s = true) : ∃ cA : ClassId, ArrOfT s cA ty ∧ va_RA s cA ty := by
  obtain ⟨c, k, comp, h1, h2, h3⟩ := Cond.arrayClass_spec h
  refine ⟨c, fun N z => ⟨(fun k h => by cases h), k, h2, comp, h3⟩, ?_⟩
  rcases hty with rfl | rfl <;> exact h1
theorem a_obj {s : State} {args : Array Value} {C : String} (h : (Cond.arrayOver (.object C)).before args s = true) : ∃ cA : ClassId, ArrOfT s cA (.object C) ∧ va_RA s cA (.object C) := by
  obtain ⟨comp, c, k, h1, h2, h3, h4, h5⟩ := Cond.arrayOver_spec h
  exact ⟨c, fun N z => ⟨(fun k h => by cases h), k, h3, comp, h4⟩, k, comp, h3, h4, h1, h5⟩
/-- nothing that was there before is written -/
theorem fr_end {s t : State} {o : Outcome} {L : List Loc} {k n : Nat} (h : FrameEnd s o t L k n) (hL : ∀ q ∈ L, s.heap.size ≤ q.base) : Framed s o t [] k n := by
  obtain ⟨h1, h2, a1, a2, a3, a4, a5, a6⟩ := h
  refine ⟨h1, h2, a1, a2, a3, a4, a5, fun a c hc => ?_⟩
  obtain ⟨c', b1, b2, b3, b4⟩ := a6 a c hc
  refine ⟨c', b1, b2, b3, fun i _ => b4 i (fun hm => ?_)⟩
  have h3 := hL _ hm
  have h4 : a < s.heap.size := (Array.getElem?_eq_some_iff.mp hc).1
  exact absurd h3 (Nat.not_le.mpr h4)
theorem whole_start {p : Program} {e : Env} {s : State} {m : MethodId} {below : List Frame} {meth : Method} {c : Code} (l : Launch) {b L : Nat} {xs : Nat → Int32} (hL : L ≤ 384) (C0 : lw_At p s m meth c b L xs) : W p l e room_1 s m #[Value.ref b] below meth c s.heap [] 0 0 (lw_Z below #[Value.ref b] s) (entryFrame m ([Value.ref b] : List Value).toArray 4) := by
  obtain ⟨hx, hb, hr, hml, hown, hts, hX, hbl, hlocks, hgv, hnm⟩ := C0
  have htg : ∀ q ∈ lw_gd, q.before #[Value.ref b] s = true := fun q hq => hts q (List.mem_filter.mp hq).1
  have htb : ∀ q ∈ tables_1, q.before #[Value.ref b] s = true := fun q hq => hts q (List.mem_append_right _ hq)
  obtain ⟨F, hF⟩ := k_known htg
  obtain ⟨c12, i1, i2⟩ := a_int (Or.inl rfl) (htg _ w_aI)
  obtain ⟨c13, z1, z2⟩ := a_int (Or.inr rfl) (htg _ w_aZ)
  obtain ⟨c14, s1, s2⟩ := a_obj (htb _ ao_S)
  obtain ⟨c15, t1, t2⟩ := a_obj (htb _ ao_T)
  obtain ⟨c16, w1, w2⟩ := a_obj (htb _ ao_W)
  let w : GX := (l, fun k => (F k).1, fun k => (F k).2, fun t => if t = 12 then c12 else if t = 13 then c13 else if t = 14 then c14 else if t = 15 then c15 else c16, s.heap.size, b, L, xs)
  have hK : Kx w s := by
    refine ⟨⟨hF, fun k q hk => ?_⟩, fun q hq => va_Nw.of rfl (htb _ (nest_in q hq)), va_AO.of (htb _ ao_S), va_AO.of (htb _ ao_T), va_AO.of (htb _ ao_W)⟩
    match k, hk with
    | 0, hk => cases hk; exact ⟨i1, i2⟩
    | 1, hk => cases hk; exact ⟨z1, z2⟩
    | 2, hk => cases hk; exact ⟨s1, s2⟩
    | 3, hk => cases hk; exact ⟨t1, t2⟩
    | 4, hk => cases hk; exact ⟨w1, w2⟩
    | n + 5, hk =>
      have := (List.getElem?_eq_some_iff.mp hk).1
      have e : (tysL w).length = 5 := rfl
      omega
  have hRp : Rp w (kdn 0) (fun _ _ => none) 0 (fun _ _ => 0) s.heap := ⟨fun k q h => by simp [wsx] at h, rfl, by decide, fun a _ => rfl⟩
  have hZ := law_start (w := w) (d := 0) (rf := fun _ _ => none) (g := fun _ _ => 0) hL
  have hlv := LV.ent w (as := [aR (some SC)]) (nL := 4) (Nat.le_of_ble_eq_true rfl)
  have hcv : ([aR (some SC)] : List AV).map (cv w) = [Value.ref b] := rfl
  rw [hcv] at hlv
  rw [lg_entry_eq]
  have K := hZ p e room_1 s m #[Value.ref b] below meth c s.heap [] 0 0 600000 7302250 (fun _ _ o _ => o = .returned (some (.int 1))) _ ⟨hx, hb, hr, hlocks, hml, hnm, hown, htg, hK, Nat.le_refl _, hbl, hX, by decide, by decide, Nat.le_refl _, Nat.le_refl _⟩ hRp va_S.rf (by decide) (by decide) hlv (fun r kd' rf' n' g' t h1 h2 h3 => by
    obtain ⟨-, -, -, h4⟩ := h1
    rw [h4]; rfl)
  intro T hT X
  obtain ⟨t, st, o, q1, q2, q3, L', q4, q5⟩ := K T hT X
  exact ⟨t, st, o, q1, q2, q3, fr_end q4 q5⟩
-- ===== YOUR PART ENDS =====
set_option maxHeartbeats 4000000 in
theorem lw_walk (l : Launch) (b : Addr) (xs : List Int32) : MetFree l x (headSpec (Jvm.Cond.code x code maxLocals ret :: tables_1) room_1) (lw_P b xs) (fun _ _ _ _ _ => True) lw_Q := by
  refine MetFree.of_bodyS (code := code) (maxLocals := maxLocals) (ret := ret) (by decide) ?_ ?_
  · intro args s m h hn
    obtain ⟨meth, c, h1, h2, h3, h4, h5, h6, -, -⟩ := Cond.code_spec hn (atoms_spec (ws := Jvm.Cond.code x code maxLocals ret :: tables_1) h _ List.mem_cons_self)
    exact ⟨meth, c, h1, h2, h3, h4, h5, h6⟩
  · intro p e s m args below meth c s₁ B hml0 hP _
    obtain ⟨rfl, hx, hbd, hgv⟩ := hP
    obtain ⟨scr, harrAt, hlist, hof, hsmall⟩ := hx
    obtain ⟨hcb, hkn, -, -⟩ := State.arrayAt?_spec harrAt
    have hown : s.vm.findClass R_law = some m.cls := findClass_of_methodNamed B.named
    have hts0 : ∀ c ∈ (Jvm.Cond.code x code maxLocals ret :: tables_1), c.before #[Value.ref b] s = true := atoms_spec (ws := Jvm.Cond.code x code maxLocals ret :: tables_1) B.pre
    have hts : ∀ w ∈ lw_tbl, w.before #[Value.ref b] s = true := k2_hts_sels lw_privs (fun w hw => hts0 w (List.mem_cons_of_mem _ hw)) lw_privs_ok
    have hml : c.maxLocals = 4 := B.maxLocals_eq (hts0 _ List.mem_cons_self)
    have X₀ : Stand p l e room_1 s m #[Value.ref b] below meth c s₁ [] 0 0 := Stand.of_body B
    have hh0 : s₁.heap = s.heap := by rw [B.state]; rfl
    have hsz : scr.slots.size = xs.length := by rw [← Array.length_toList, hlist, List.length_map]
    have hval : ∀ j : Nat, j < xs.length → scr.slots[j]? = some (.int (xs.getD j 0)) := fun j hj => by
      rw [← Array.getElem?_toList, hlist]
      simp [hj]
    have hbl : b < s.heap.size := (Array.getElem?_eq_some_iff.mp hcb).1
    have hX : va_X b xs.length (fun j => xs.getD j 0) s s.heap := ⟨scr, hcb, hof, hkn, hsz, hval⟩
    have K : W p l e room_1 s m #[Value.ref b] below meth c s₁.heap [] 0 0 (lw_Z below #[Value.ref b] s) (entryFrame m ([Value.ref b] : List Value).toArray 4) := by
      rw [hh0]
      exact whole_start l hbd ⟨B.exec, B.bytes, B.returns, hml, hown, hts, hX, hbl, B.notSynchronized, hgv, (name_of_methodNamed B.named B.method).1⟩
    obtain ⟨t, a1, o, b1, b2, b3⟩ := K s₁ rfl X₀
    exact ⟨t, o, a1, b1, b2, b3⟩
theorem lw_pre_spec {args : Array Value} {s : State} (h : (Jvm.Cond.and given_1 narrow_1).before args s = true) (hr : rest_1_c.before args s = true) : ∃ (b : Addr) (xs : List Int32), lw_P b xs args s := by
  have hs := flat_of_before _ h
  have hq := flat_of_before _ hr
  have hc : (Cond.count 1).before args s = true := hs _ (by decide +kernel)
  have harr : (Cond.arrayOf (.arg 0) .int).before args s = true := hs _ (by decide +kernel)
  have hle : (Cond.le (.length (.arg 0)) (.int 384)).before args s = true := hs _ (by decide +kernel)
  have hlen : (Cond.isInt (.length (.arg 0))).before args s = true := hq _ (by decide +kernel)
  have hall : (Cond.all (.arg 0) (.isInt (.elem (.arg 0) (.index 0)))).before args s = true := hq _ (by decide +kernel)
  obtain ⟨b, xs, hb, hx⟩ := State.ints_of_pre rfl harr hlen hall
  have hsm : xs.length < 2 ^ 31 := hx.choose_spec.2.2.2
  have hev : (Term.length (.arg 0)).eval args s none [] s = some (.int xs.length.toInt32) := hx.length_eval hb
  have hv := Cond.le_ints hev (show (Term.int 384).eval args s none [] s = some (.int 384) from rfl)
  have hd : xs.length.toInt32 ≤ 384 := by
    simpa [Cond.before, Cond.holds, hv] using hle
  have hN : xs.length ≤ 384 := (Int32.ofNat_le_ofNat hsm (by decide)).mp (show Int32.ofNat xs.length ≤ Int32.ofNat 384 from hd)
  exact ⟨b, xs, Cond.one_arg hc (show args[0]? = some (.ref b) from hb), hx, hN, h⟩
theorem lw_comes (l : Launch) : Comes l x (Jvm.Cond.code x code maxLocals ret :: tables_1) room_1 (fun tb e args s => Calls_1 tb e args s ∧ rest_1 tb e args s ∧ Pre_1 tb e args s)
    (fun _ _ args s o t => lw_Q args s o t) := by
  intro p e ha hc hk s m args below hf hfit hheap happ hpre
  obtain ⟨b, xs, hP⟩ := lw_pre_spec hpre.2.2 hpre.2.1
  obtain ⟨k, o, h1, h2, h3, hQ⟩ := lw_walk l b xs p e ha hc hk s m args below hf ((Spec.applies_iff_loose hf).mp happ).1 hP trivial
  exact ⟨k, o, h1, h2, h3, hQ⟩
theorem lw_frame {s t : State} {o : Outcome} {args : Array Value} (h : Framed s o t [] 600000 7302250) :
    Framed s o t (fieldLocs frame_1_writes args s ++ arrayLocs frame_1_arrays args s ++ staticLocs frame_1_statics s) 600000 7302250 := h
theorem lw_limb (L : Cond) (hL : ∀ (args : Array Value) (s t : State), L.after args s (.returned (some (.int 1))) t = true) :
    ArmFor flags0 classFile x code maxLocals ret World_1 tables_1 room_1 Calls_1 rest_1 Pre_1
      (fun tb e a s o t => postC L tb e a s o t ∧ Framed s o t (fieldLocs frame_1_writes a s ++ arrayLocs frame_1_arrays a s ++ staticLocs frame_1_statics s) 600000 7302250) := by
  intro l _ _ _ p e ha hc hk s m args below hf hfit hheap happ hpre
  obtain ⟨k, o, h1, h2, h3, rfl, hF⟩ := lw_comes l p e ha hc hk s m args below hf hfit hheap happ hpre
  exact ⟨k, _, h1, h2, h3, hL args s _, lw_frame hF⟩
theorem i_vc : Claimed_1_1 ∧ Claimed_1_2 := ⟨lw_limb limb_1_1 (fun args s t => by simp [limb_1_1, Cond.after, Cond.holds, Cond.value]), lw_limb limb_1_2 (fun args s t => Cond.after_iff.mpr (by
  first | (rw [show limb_1_2 = Cond.eq .result (.int 1) from rfl, Cond.eq_ints (x := 1) (y := 1) rfl rfl]; simp; done) | (simp [limb_1_2, Cond.value, Term.eval]; done)))⟩
