/-! switches, copies, new cells, calls -/
def sw (x : Int) (df : Nat) : List (Int × Nat) → Nat
  | [] => df
  | (v, t) :: r => if nm x = v then t else sw x df r
theorem sw_mem {x : Int} {df t : Nat} : ∀ {cs : List (Int × Nat)}, (∀ t', (nm x, t') ∈ cs → t' = t) → (nm x, t) ∈ cs → sw x df cs = t
  | [], _, h => by cases h
  | (v, u) :: r, hu, h => by
    by_cases e : nm x = v
    · simp only [sw, if_pos e]
      exact hu u (by rw [e]; exact List.mem_cons_self)
    · simp only [sw, if_neg e]
      refine sw_mem (fun t' ht => hu t' (List.mem_cons_of_mem _ ht)) ?_
      rcases List.mem_cons.mp h with q | q
      · cases q; exact absurd rfl e
      · exact q
theorem sw_not {x : Int} {df : Nat} : ∀ {cs : List (Int × Nat)}, (∀ t', (nm x, t') ∉ cs) → sw x df cs = df
  | [], _ => rfl
  | (v, u) :: r, hu => by
    by_cases e : nm x = v
    · exact absurd (by rw [e]; exact List.mem_cons_self) (hu u)
    · simp only [sw, if_neg e]
      exact sw_not (fun t' ht => hu t' (List.mem_cons_of_mem _ ht))
def tcs (pc : Nat) (lo : Int) (offs : Array Int) : List (Int × Nat) := (List.range offs.size).map (fun (j : Nat) => (lo + (j : Int), ((pc : Int) + offs.getD j 0).toNat))
section ZS
variable {w : GX} {d kc ks : Nat} {M : Mth} {pc : Nat} {ls : List (Option AV)} {st : List AV} {kd : KD} {rf : RF} {n : Nat} {g : GI} {Q : Post}
theorem z_tsw {x dflt lo hi : Int} {offs : Array Int} {len df : Nat} {cs : List (Int × Nat)} (hd : decode M.2.1 pc = .ok (.tableswitch dflt lo hi offs, len)) (hcs : cs = tcs pc lo offs) (hsz : lo + offs.size = hi + 1) (hdf : (pc : Int) + dflt = (df : Int)) (hp : ∀ j, j < offs.size → 0 ≤ (pc : Int) + offs.getD j 0)
    (k : Zj w d kc ks M (sw x df cs) ls st kd rf n g Q) : Zj w d kc ks M pc ls (aI x :: st) kd rf n g Q := by
  intro p e R s m args below meth c H locs cells slots mc ms Qc lsC C hR hS h1 h2 hl hq
  have hk := k p e R s m args below meth c H locs cells slots mc ms Qc lsC C hR hS h1 h2 hl hq
  by_cases ho : nm x < lo ∨ hi < nm x
  · rw [sw_not (x := x) (df := df) (cs := cs)] at hk
    · exact lv_tableOut C.1 C.2.1 hd ho hdf hk
    · intro t' ht
      rw [hcs] at ht
      obtain ⟨j, hj, hj2⟩ := List.mem_map.mp ht
      have := List.mem_range.mp hj
      have q1 := congrArg Prod.fst hj2
      simp only at q1
      omega
  · have hj : (nm x - lo).toNat < offs.size := by omega
    have e1 : offs[(nm x - lo).toNat]? = some (offs.getD (nm x - lo).toNat 0) := by
      rw [Array.getD_eq_getD_getElem?, Array.getElem?_eq_getElem hj]; rfl
    have h3 := hp _ hj
    rw [sw_mem (x := x) (df := df) (cs := cs) (t := ((pc : Int) + offs.getD (nm x - lo).toNat 0).toNat)] at hk
    · exact lv_tableIn C.1 C.2.1 hd (show ¬ nm x < lo by omega) (show ¬ hi < nm x by omega) e1 (by omega) hk
    · intro t' ht
      rw [hcs] at ht
      obtain ⟨j, hj, hj2⟩ := List.mem_map.mp ht
      have q1 := congrArg Prod.fst hj2
      have q2 := congrArg Prod.snd hj2
      simp only at q1 q2
      rw [← q2, show (nm x - lo).toNat = j by omega]
    · rw [hcs]
      refine List.mem_map.mpr ⟨(nm x - lo).toNat, List.mem_range.mpr hj, ?_⟩
      rw [show lo + ((nm x - lo).toNat : Int) = nm x by omega]
theorem z_lsw {x dflt : Int} {ps : Array (Int × Int)} {len df : Nat} {cs : List (Int × Nat)} (hd : decode M.2.1 pc = .ok (.lookupswitch dflt ps, len)) (hs : (ps.toList.zip (ps.toList.drop 1)).all (fun (a, next) => a.1 < next.1) = true) (hcs : cs = ps.toList.map (fun q => (q.1, ((pc : Int) + q.2).toNat))) (hdf : (pc : Int) + dflt = (df : Int)) (hp : ∀ q ∈ ps.toList, 0 ≤ (pc : Int) + q.2)
    (k : Zj w d kc ks M (sw x df cs) ls st kd rf n g Q) : Zj w d kc ks M pc ls (aI x :: st) kd rf n g Q := by
  intro p e R s m args below meth c H locs cells slots mc ms Qc lsC C hR hS h1 h2 hl hq
  have hk := k p e R s m args below meth c H locs cells slots mc ms Qc lsC C hR hS h1 h2 hl hq
  refine lv_lookup C.1 C.2.1 hd hs rfl (tgt := sw x df cs) ?_ hk
  rw [hcs]
  generalize ps.toList = L at hp
  clear hcs hs hd hk k
  induction L with
  | nil => simpa [sw, Op.lookupswitch.offset] using hdf
  | cons q r ih =>
    obtain ⟨a, o⟩ := q
    rw [Op.lookupswitch.offset_cons]
    have h0 := hp (a, o) List.mem_cons_self
    simp only at h0
    by_cases e1 : nm x = a
    · rw [if_pos (by first | exact e1.symm | exact e1)]
      simp only [List.map_cons, sw, if_pos e1]
      omega
    · rw [if_neg (by first | exact fun h => e1 h.symm | exact e1)]
      simp only [List.map_cons, sw, if_neg e1]
      exact ih (fun q hq => hp q (List.mem_cons_of_mem _ hq))
end ZS
section ZA
variable {p : Program} {l : Launch} {e : Env} {R : Room} {s : State} {m : MethodId} {args : Array Value} {below : List Frame} {meth : Method} {c : Code} {H : Heap} {locs : List Loc} {cells slots : Nat} {Qf : State → Prop} {cc : ByteArray} {pc : Nat} {ls : Array Slot} {rest : List Value}
/-- arraycopy of ints: what the heap is behind it -/
theorem w_acopy (hexec : p.tables.exec = Jvm.exec) (hb : c.code = cc) (hml : c.maxLocals = ls.size) {own : String} {index : Nat} (hown : s.vm.findClass own = some m.cls) (hlink : (Cond.methodLink own index arraycopyName).before args s = true) (hnat : (Cond.native arraycopyName).before args s = true) (hstat : (Cond.static arraycopyName).before args s = true) (hini : (Cond.initialized "java/lang/System").before args s = true)
    {a a0 : Nat} {cI : ClassId} {n0 n1 : Nat} {f h : Nat → Int32} (hc0 : H[a0]? = some (vp_cell cI (n0, .inl f))) (hc1 : H[a]? = some (vp_cell cI (n1, .inl h))) (hA : ArrOfT s cI .int)
    {sp dp n : Int32} (h1 : ¬ sp < 0) (h2 : ¬ dp < 0) (h3 : ¬ n < 0) (h4 : sp.toInt + n.toInt ≤ n0) (h5 : dp.toInt + n.toInt ≤ n1)
    (hframes : 1 ≤ R.frames) (hlocals : (rest.map fun v => v.category).sum + (nativeFrameWords "java/lang/System" "arraycopy" 5 + 11) ≤ R.locals) (hdg : decode cc pc = .ok (.invokestatic index, 3))
    (kk : ∀ (H1 : Heap) (L : List Loc), H1[a]? = some (vp_cell cI (n1, .inl (va_cpy f h sp.toNatClampNeg dp.toNatClampNeg n.toNatClampNeg))) → H1.size = H.size → (∀ q, q ≠ a → H1[q]? = H[q]?) → (∀ q ∈ L, q.base = a) → W p l e R s m args below meth c H1 (locs ++ L) cells slots Qf (F0 m (pc + 3) ls rest)) : W p l e R s m args below meth c H locs cells slots Qf (F0 m pc ls (.int n :: .int dp :: .ref a :: .int sp :: .ref a0 :: rest)) := by
  have nn : ∀ z : Int32, ¬ z < 0 → z.toInt = (z.toNatClampNeg : Int) := fun z hz => by
    have hz0 := Int32.le_iff_toInt_le.mp (Int32.not_lt.mp hz)
    have : (0 : Int32).toInt = 0 := rfl
    show z.toInt = ((z.toInt.toNat : Nat) : Int)
    omega
  intro T hT X
  obtain ⟨-, k0, hk0, cm0, hkk0⟩ := hA n0 (fun j => .int (f j))
  have e0 := nn sp h1
  have e1 := nn dp h2
  have e2 := nn n h3
  have s0 : (vp_cell cI (n0, .inl f)).slots.size = n0 := arrV_size _ _ _
  have s1 : (vp_cell cI (n1, .inl h)).slots.size = n1 := arrV_size _ _ _
  obtain ⟨vm', X', step⟩ := X.arraycopy hexec hown hlink hnat hstat hini (src := a0) (dst := a) (cs := vp_cell cI (n0, .inl f)) (cd := vp_cell cI (n1, .inl h)) (srcPos := sp) (destPos := dp) (n := n) (by rw [hT]; exact hc0) (by rw [hT]; exact hc1)
    (fun _ h => by cases h) (fun _ h => by cases h) (fun h => by cases h) (fun h => by cases h) hk0 hk0 hkk0 hkk0 (by simp [refKind]) h1 h2 h3 (by rw [s0]; omega) (by rw [s1]; omega)
    (fun vm₁ _ i hi => by
      have e : (vp_cell cI (n0, .inl f)).slots.getD (sp.toNatClampNeg + i) .null = .int (f (sp.toNatClampNeg + i)) := by
        rw [Array.getD_eq_getD_getElem?]
        show ((arrV cI n0 (fun j => .int (f j))).slots[_]?).getD _ = _
        rw [arrV_read _ _ (by omega)]
        rfl
      rw [e]
      exact ⟨rfl, trivial⟩)
    (g := F0 m pc ls (.int n :: .int dp :: .ref a :: .int sp :: .ref a0 :: rest)) rfl (by rw [hml]) (rest := rest) rfl (by rw [hb]; exact hdg) hframes (by show 2 * 0 + _ + _ ≤ _; omega)
  have ecp : copied (vp_cell cI (n0, .inl f)) (vp_cell cI (n1, .inl h)) sp dp n = vp_cell cI (n1, .inl (va_cpy f h sp.toNatClampNeg dp.toNatClampNeg n.toNatClampNeg)) := va_copied (fun z => .int z) cI cI f h (by omega)
  rw [ecp] at X' step
  have hl : a < H.size := (Array.getElem?_eq_some_iff.mp hc1).1
  obtain ⟨t, a1, b1⟩ := kk (H.setIfInBounds a (vp_cell cI (n1, .inl (va_cpy f h sp.toNatClampNeg dp.toNatClampNeg n.toNatClampNeg)))) _ (by simp [Array.getElem?_setIfInBounds, hl]) (by simp) (fun q hq => by simp [Array.getElem?_setIfInBounds, Ne.symm hq])
    (fun q hq => by obtain ⟨z, -, hz⟩ := List.mem_map.mp hq; rw [← hz]) _ (by rw [← hT]; rfl) X'
  exact ⟨t, step t a1, b1⟩
end ZA
section ZC
variable {w : GX} {d kc ks : Nat} {M : Mth} {pc : Nat} {ls : List (Option AV)} {st : List AV} {kd : KD} {rf : RF} {n : Nat} {g : GI} {Q : Post}
def catS (st : List AV) : Nat := (st.map (fun v => if isLg v then 2 else 1)).sum
theorem catS_cv (w : GX) (st : List AV) : ((st.map (cv w)).map fun v => v.category).sum = catS st := by
  unfold catS
  congr 1
  rw [List.map_map]
  apply List.map_congr_left
  intro v _
  exact cat_cv w v
theorem z_acopy {idx a a0 : Nat} {sp dp len : Int} (hd : decode M.2.1 pc = .ok (.invokestatic idx, 3)) (hl0 : Cond.methodLink M.2.2.2.2 idx arraycopyName ∈ lw_gd) (hnat : Cond.native arraycopyName ∈ lw_gd) (hsta : Cond.static arraycopyName ∈ lw_gd) (hini : Cond.initialized "java/lang/System" ∈ lw_gd) (hcat : catS st ≤ 8) (hdp : 1 ≤ d)
    (hk0 : (kd a0).1 = 12) (hk1 : (kd a).1 = 12) (h1 : 0 ≤ nm sp) (h2 : 0 ≤ nm dp) (h3 : 0 ≤ nm len) (h4 : nm sp + nm len ≤ (kd a0).2) (h5 : nm dp + nm len ≤ (kd a).2)
    (kk : Zj w d kc ks M (pc + 3) ls st kd rf n (upf g a (va_cpy (g a0) (g a) (nm sp).toNat (nm dp).toNat (nm len).toNat)) Q) : Zj w d kc ks M pc ls (aI len :: aI dp :: aR (some a) :: aI sp :: aR (some a0) :: st) kd rf n g Q := by
  intro p e R s m args below meth c H locs cells slots mc ms Qc lsC C hR hS hc1 hc2 hl hq
  show W p (g_l w) e R s m args below meth c H locs cells slots _ (F0 m pc lsC (.int (Int32.ofInt len) :: .int (Int32.ofInt dp) :: .ref (adr w a) :: .int (Int32.ofInt sp) :: .ref (adr w a0) :: st.map (cv w)))
  rw [hR.adr (a := a) (by omega), hR.adr (a := a0) (by omega)]
  have hlt : a < n := hR.lt (by omega)
  have hg0 := wsx_get w kd rf g (hR.lt (a := a0) (by omega))
  rw [cel_i hk0 (Or.inl rfl)] at hg0
  have hg1 := wsx_get w kd rf g hlt
  rw [cel_i hk1 (Or.inl rfl)] at hg1
  have hpos : ∀ z : Int, 0 ≤ nm z → ¬ Int32.ofInt z < 0 := fun z hz q => by
    have := Int32.lt_iff_toInt_lt.mp q
    have e0 : (0 : Int32).toInt = 0 := rfl
    have : nm z < 0 := by rw [e0] at this; exact this
    omega
  have ht := C.2.2.2.2.2.2.2.1
  have hRL := C.2.2.2.2.2.2.2.2.2.2.2.2.2.1
  have hRF := C.2.2.2.2.2.2.2.2.2.2.2.2.1
  refine w_acopy C.1 C.2.1 (by rw [C.2.2.2.2.1]; exact hl.1.symm) C.2.2.2.2.2.2.1 (ht _ hl0) (ht _ hnat) (ht _ hsta) (ht _ hini) (hR.1 a0 _ hg0) (hR.1 a _ hg1) (C.2.2.2.2.2.2.2.2.1.1.2 0 _ rfl).1 (hpos _ h1) (hpos _ h2) (hpos _ h3) h4 h5 (by omega) ?_ hd fun H1 L e1 z1 oq hL => ?_
  · rw [catS_cv]
    have : nativeFrameWords "java/lang/System" "arraycopy" 5 = 7 := by decide +kernel
    omega
  · have hat : va_at (g_D w) vwCl (g_bs w + a, cel w (kd a) (upf g a (va_cpy (g a0) (g a) (nm sp).toNat (nm dp).toNat (nm len).toNat) a) (rf a)) H1 := by
      rw [cel_i hk1 (Or.inl rfl), upf_eq]
      show H1[g_bs w + a]? = some (vp_cell _ _)
      rw [e1]
      congr 4
      funext q
      show va_cpy _ _ (nm sp).toNat (nm dp).toNat (nm len).toNat q = Int32.ofInt (va_cpy _ _ _ _ _ q)
      unfold va_cpy
      split <;> rfl
    refine kk p e R s m args below meth c H1 _ cells slots mc ms Qc lsC C (hR.put hlt hat z1 oq (fun q hq => ⟨upf_ne _ _ hq, rfl⟩)) ⟨by rw [z1]; exact hS.1, fun q g1 g2 => ?_, fun q hq => ?_⟩ hc1 hc2 hl hq
    · rw [oq q (fun e => g2 (by rw [e]; show g_bs w ≤ g_bs w + a; omega))]
      exact hS.2.1 q g1 g2
    · rcases List.mem_append.mp hq with h | h
      · exact hS.2.2 q h
      · rw [hL q h]; show g_bs w ≤ g_bs w + a; omega
end ZC
