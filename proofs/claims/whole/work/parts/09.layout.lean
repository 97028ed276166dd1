/-! the cells as the constructors lay them; the judgement over them -/
def kdL : List (Nat × Nat) := [(10, 0), (15, 2), (4, 0), (12, 16), (12, 16), (12, 16), (4, 0), (12, 8), (12, 8), (12, 8), (4, 0), (12, 6), (12, 6), (12, 6), (4, 0), (12, 8), (12, 8), (12, 8), (9, 0), (12, 20), (13, 20), (13, 20), (12, 20), (12, 28), (12, 28), (12, 8), (12, 8), (2, 0), (0, 0), (12, 8), (16, 21), (8, 0), (12, 28), (12, 28), (12, 8), (12, 20), (8, 0), (12, 28), (12, 28), (12, 8), (12, 20), (8, 0), (12, 28), (12, 28), (12, 8), (12, 20), (8, 0), (12, 28), (12, 28), (12, 8), (12, 20), (8, 0), (12, 28), (12, 28), (12, 8), (12, 20), (8, 0), (12, 28), (12, 28), (12, 8), (12, 20), (8, 0), (12, 28), (12, 28), (12, 8), (12, 20), (8, 0), (12, 28), (12, 28), (12, 8), (12, 20), (8, 0), (12, 28), (12, 28), (12, 8), (12, 20), (8, 0), (12, 28), (12, 28), (12, 8), (12, 20), (8, 0), (12, 28), (12, 28), (12, 8), (12, 20), (8, 0), (12, 28), (12, 28), (12, 8), (12, 20), (8, 0), (12, 28), (12, 28), (12, 8), (12, 20), (8, 0), (12, 28), (12, 28), (12, 8), (12, 20), (8, 0), (12, 28), (12, 28), (12, 8), (12, 20), (8, 0), (12, 28), (12, 28), (12, 8), (12, 20), (8, 0), (12, 28), (12, 28), (12, 8), (12, 20), (8, 0), (12, 28), (12, 28), (12, 8), (12, 20), (8, 0), (12, 28), (12, 28), (12, 8), (12, 20), (8, 0), (12, 28), (12, 28), (12, 8), (12, 20), (8, 0), (12, 28), (12, 28), (12, 8), (12, 20), (5, 0), (8, 0), (12, 28), (12, 28), (12, 8), (12, 20), (8, 0), (12, 28), (12, 28), (12, 8), (12, 20), (12, 2), (12, 2), (3, 0), (0, 0), (12, 8), (8, 0), (12, 28), (12, 28), (12, 8), (12, 20), (12, 208), (1, 0), (16, 11), (8, 0), (12, 28), (12, 28), (12, 8), (12, 20), (8, 0), (12, 28), (12, 28), (12, 8), (12, 20), (8, 0), (12, 28), (12, 28), (12, 8), (12, 20), (8, 0), (12, 28), (12, 28), (12, 8), (12, 20), (8, 0), (12, 28), (12, 28), (12, 8), (12, 20), (8, 0), (12, 28), (12, 28), (12, 8), (12, 20), (8, 0), (12, 28), (12, 28), (12, 8), (12, 20), (8, 0), (12, 28), (12, 28), (12, 8), (12, 20), (8, 0), (12, 28), (12, 28), (12, 8), (12, 20), (8, 0), (12, 28), (12, 28), (12, 8), (12, 20), (8, 0), (12, 28), (12, 28), (12, 8), (12, 20), (14, 4), (7, 0), (12, 20), (7, 0), (12, 47), (6, 0), (12, 60), (6, 0), (12, 60), (6, 0), (12, 60), (6, 0), (12, 60), (11, 0), (12, 4), (12, 4), (12, 240), (12, 60), (12, 96), (12, 2), (12, 20), (12, 20), (12, 32), (12, 72), (12, 20), (12, 6), (12, 560), (12, 20), (12, 28), (12, 28), (12, 28), (12, 8), (12, 36), (12, 24), (12, 208)]
def rfL : List (List (Option Nat)) := [[some 1, some 2, some 6, some 10, some 14, some 18, some 27, some 136, some 149, some 158, some 215, none, none], [some 216, some 218], [some 3, some 4, some 5, none], [], [], [], [some 7, some 8, some 9, none], [], [], [], [some 11, some 12, some 13, none], [], [], [], [some 15, some 16, some 17, none], [], [], [], [some 19, some 20, some 21, some 22, some 23, some 24, some 25, some 26, none, none, none, none], [], [], [], [], [], [], [], [], [some 18, some 2, some 6, some 10, some 28, some 30, none, none], [some 29, none], [], [some 31, some 36, some 41, some 46, some 51, some 56, some 61, some 66, some 71, some 76, some 81, some 86, some 91, some 96, some 101, some 106, some 111, some 116, some 121, some 126, some 131], [some 32, some 33, some 34, some 35, none], [], [], [], [], [some 37, some 38, some 39, some 40, none], [], [], [], [], [some 42, some 43, some 44, some 45, none], [], [], [], [], [some 47, some 48, some 49, some 50, none], [], [], [], [], [some 52, some 53, some 54, some 55, none], [], [], [], [], [some 57, some 58, some 59, some 60, none], [], [], [], [], [some 62, some 63, some 64, some 65, none], [], [], [], [], [some 67, some 68, some 69, some 70, none], [], [], [], [], [some 72, some 73, some 74, some 75, none], [], [], [], [], [some 77, some 78, some 79, some 80, none], [], [], [], [], [some 82, some 83, some 84, some 85, none], [], [], [], [], [some 87, some 88, some 89, some 90, none], [], [], [], [], [some 92, some 93, some 94, some 95, none], [], [], [], [], [some 97, some 98, some 99, some 100, none], [], [], [], [], [some 102, some 103, some 104, some 105, none], [], [], [], [], [some 107, some 108, some 109, some 110, none], [], [], [], [], [some 112, some 113, some 114, some 115, none], [], [], [], [], [some 117, some 118, some 119, some 120, none], [], [], [], [], [some 122, some 123, some 124, some 125, none], [], [], [], [], [some 127, some 128, some 129, some 130, none], [], [], [], [], [some 132, some 133, some 134, some 135, none], [], [], [], [], [some 27, some 137, some 142, some 147, some 148, none, none], [some 138, some 139, some 140, some 141, none], [], [], [], [], [some 143, some 144, some 145, some 146, none], [], [], [], [], [], [], [some 27, some 14, some 150, some 152, some 157], [some 151, none], [], [some 153, some 154, some 155, some 156, none], [], [], [], [], [], [some 27, some 159, none, none, none, none, none, none], [some 160, some 165, some 170, some 175, some 180, some 185, some 190, some 195, some 200, some 205, some 210], [some 161, some 162, some 163, some 164, none], [], [], [], [], [some 166, some 167, some 168, some 169, none], [], [], [], [], [some 171, some 172, some 173, some 174, none], [], [], [], [], [some 176, some 177, some 178, some 179, none], [], [], [], [], [some 181, some 182, some 183, some 184, none], [], [], [], [], [some 186, some 187, some 188, some 189, none], [], [], [], [], [some 191, some 192, some 193, some 194, none], [], [], [], [], [some 196, some 197, some 198, some 199, none], [], [], [], [], [some 201, some 202, some 203, some 204, none], [], [], [], [], [some 206, some 207, some 208, some 209, none], [], [], [], [], [some 211, some 212, some 213, some 214, none], [], [], [], [], [some 220, some 222, some 224, some 226], [some 217, none], [], [some 219, none], [], [some 221, none, none], [], [some 223, none, none], [], [some 225, none, none], [], [some 227, none, none], [], [some 229, some 230, some 231, some 232, none, some 233, some 234, none, some 235, some 236, none, some 237, none, none, none, some 238, none, some 239, none, some 240, some 241, some 242, some 243, some 244, some 245, some 246, some 247, none, none, none, none, none, some 248, some 249, none], [], [], [], [], [], [], [], [], [], [], [], [], [], [], [], [], [], [], [], [], []]
def kd0 : KD := fun a => kdL.getD a (99, 0)
def rf0 : RF := fun a k => (rfL.getD a []).getD k none
abbrev PN : Type := Option AV → GI → Prop
def Pn (P : PN) : Post := fun r kd rf n g => kd = kd0 ∧ rf = rf0 ∧ n = 250 ∧ P r g
abbrev Zm (w : GX) (d : Nat) (M : Mth) (pc : Nat) (ls : List (Option AV)) (st : List AV) (g : GI) (P : PN) : Prop := Zj w d 0 0 M pc ls st kd0 rf0 250 g (Pn P)
theorem m_mono {w : GX} {d : Nat} {M : Mth} {pc : Nat} {ls : List (Option AV)} {st : List AV} {g : GI} {P P' : PN} (h : ∀ r g', P r g' → P' r g') (k : Zm w d M pc ls st g P) : Zm w d M pc ls st g P' :=
  z_mono (fun r kd rf n g' q => ⟨q.1, q.2.1, q.2.2.1, h r g' q.2.2.2⟩) k
section ZN
variable {w : GX} {d : Nat} {M M' : Mth} {pc : Nat} {ls : List (Option AV)} {st : List AV} {g : GI} {P : PN}
theorem m_iret {z : Int} (hd : decode M.2.1 pc = .ok (.ireturn, 1)) (hr : M.2.2.2.1 = some .int) (hQ : P (some (aI z)) g) : Zm w d M pc ls [aI z] g P := z_iret hd hr ⟨rfl, rfl, rfl, hQ⟩
theorem m_zret {z : Int} (hd : decode M.2.1 pc = .ok (.ireturn, 1)) (hr : M.2.2.2.1 = some .boolean) (hz : z = 0 ∨ z = 1) (hQ : P (some (aI z)) g) : Zm w d M pc ls [aI z] g P := z_zret hd hr hz ⟨rfl, rfl, rfl, hQ⟩
theorem m_lret {z : Int} (hd : decode M.2.1 pc = .ok (.lreturn, 1)) (hr : M.2.2.2.1 = some .long) (hQ : P (some (aL z)) g) : Zm w d M pc ls [aL z] g P := z_lret hd hr ⟨rfl, rfl, rfl, hQ⟩
theorem m_aret {a : Nat} {C0 : String} (hd : decode M.2.1 pc = .ok (.areturn, 1)) (hr : M.2.2.2.1 = some (.object C0)) (hQ : P (some (aR (some a))) g) : Zm w d M pc ls [aR (some a)] g P := z_aret hd hr ⟨rfl, rfl, rfl, hQ⟩
theorem m_vret (hd : decode M.2.1 pc = .ok (.return_, 1)) (hr : M.2.2.2.1 = none) (hQ : P none g) : Zm w d M pc ls [] g P := z_vret hd hr ⟨rfl, rfl, rfl, hQ⟩
theorem m_getR {idx ci k a r : Nat} (hd : decode M.2.1 pc = .ok (.getfield idx, 3)) (hf : FLp M.2.2.2.2 idx ci k) (ht : fcd ci k = 3) (hk : (kd0 a).1 = ci) (hr : rf0 a k = some r) (kk : Zm w d M (pc + 3) ls (aR (some r) :: st) g P) : Zm w d M pc ls (aR (some a) :: st) g P :=
  z_getR hd hf ht hk (by rw [hr]; exact kk)
theorem m_aald {a r : Nat} {i : Int} (hd : decode M.2.1 pc = .ok (.aaload, 1)) (hk : 14 ≤ (kd0 a).1 ∧ (kd0 a).1 < 17) (h0 : 0 ≤ nm i) (hi : nm i < ((kd0 a).2 : Int)) (hr : rf0 a (nm i).toNat = some r) (kk : Zm w d M (pc + 1) ls (aR (some r) :: st) g P) : Zm w d M pc ls (aI i :: aR (some a) :: st) g P :=
  z_aald hd hk h0 hi (by rw [hr]; exact kk)
theorem m_callS {idx na : Nat} {as stk : List AV} {lo : List (Option AV)} (hd : decode M.2.1 pc = .ok (.invokestatic idx, 3)) (hlk : Cond.methodLink M.2.2.2.2 idx M'.1 ∈ lw_gd) (hm : MOK M' na) (hs : Cond.static M'.1 ∈ lw_gd) (hna : as.length = na) (hlen : (entA as).length ≤ M'.2.2.1) (hst : stk = as.reverse ++ st) (hcat : catS st ≤ 8) (hlo : lo = ent as M'.2.2.1)
    (kz : Zm w d M' 0 lo [] g (fun r g' => Zm w (d + 1) M (pc + 3) ls (r.toList ++ st) g' P)) : Zm w (d + 1) M pc ls stk g P :=
  z_callS (kc := 0) (ks := 0) (kc' := 0) (ks' := 0) hd hlk hm hs hna hlen hst hcat (hlo ▸ kz) (fun r kd' rf' n' g' h => by obtain ⟨rfl, rfl, rfl, h⟩ := h; exact h)
theorem m_callSN {idx na : Nat} {as stk : List AV} {lo : List (Option AV)} {host : String} (hd : decode M.2.1 pc = .ok (.invokestatic idx, 3)) (hlk : (M.2.2.2.2, idx, M'.1, host) ∈ nestW) (hm : MOK M' na) (hs : Cond.static M'.1 ∈ lw_gd) (hna : as.length = na) (hlen : (entA as).length ≤ M'.2.2.1) (hst : stk = as.reverse ++ st) (hcat : catS st ≤ 8) (hlo : lo = ent as M'.2.2.1)
    (kz : Zm w d M' 0 lo [] g (fun r g' => Zm w (d + 1) M (pc + 3) ls (r.toList ++ st) g' P)) : Zm w (d + 1) M pc ls stk g P :=
  z_callSN (kc := 0) (ks := 0) (kc' := 0) (ks' := 0) hd hlk hm hs hna hlen hst hcat (hlo ▸ kz) (fun r kd' rf' n' g' h => by obtain ⟨rfl, rfl, rfl, h⟩ := h; exact h)
theorem m_callV {idx na a ci : Nat} {as stk : List AV} {lo : List (Option AV)} {q : vw_C} (hd : decode M.2.1 pc = .ok (.invokevirtual idx, 3)) (hlk : Cond.methodLink M.2.2.2.2 idx M'.1 ∈ lw_gd) (hm : MOK M' na) (hs : Cond.instanceMethod M'.1 ∈ lw_gd) (hsel : Cond.selects M'.1.cls M'.1 M'.1 ∈ lw_gd) (hk : (kd0 a).1 = ci) (hcl : vwCl[ci]? = some q) (hqc : q.1 = M'.1.cls) (hna : as.length = na) (hlen : (entA (aR (some a) :: as)).length ≤ M'.2.2.1) (hst : stk = as.reverse ++ aR (some a) :: st) (hcat : catS st ≤ 8) (hlo : lo = ent (aR (some a) :: as) M'.2.2.1)
    (kz : Zm w d M' 0 lo [] g (fun r g' => Zm w (d + 1) M (pc + 3) ls (r.toList ++ st) g' P)) : Zm w (d + 1) M pc ls stk g P :=
  z_callV (kc := 0) (ks := 0) (kc' := 0) (ks' := 0) hd hlk hm hs hsel hk hcl hqc hna hlen hst hcat (hlo ▸ kz) (fun r kd' rf' n' g' h => by obtain ⟨rfl, rfl, rfl, h⟩ := h; exact h)
def iMax (x y : Int) : Int := if nm x < nm y then y else x
def iMin (x y : Int) : Int := if nm y < nm x then y else x
theorem m_max {idx : Nat} {x y : Int} (hd : decode M.2.1 pc = .ok (.invokestatic idx, 3)) (hlk : Cond.methodLink M.2.2.2.2 idx Lib.Math.max.name ∈ lw_gd) (hcat : catS st ≤ 8) (k : Zm w (d + 1) M (pc + 3) ls (aI (iMax x y) :: st) g P) : Zm w (d + 1) M pc ls (aI y :: aI x :: st) g P := by
  intro p e R s m args below meth c H locs cells slots mc ms Qc lsC C hR hS h1 h2 hl hq
  have hk := k p e R s m args below meth c H locs cells slots mc ms Qc lsC C hR hS h1 h2 hl hq
  have ht := C.2.2.2.2.2.2.2.1
  obtain ⟨-, -, -, -, hml, -, hown, -, hKx, -, -, -, r1, r2, r3, r4⟩ := id C
  refine va_mmax C.1 C.2.1 (hml.trans hl.1.symm) hown (ht _ hlk) (ht _ w_smax) (ht _ ii_J9) (ht _ w_cmax) (by omega) (by rw [catS_cv]; omega) (by omega) (by omega) hd ?_
  have e1 : (if Int32.ofInt x < Int32.ofInt y then Int32.ofInt y else Int32.ofInt x) = Int32.ofInt (iMax x y) := by
    unfold iMax
    by_cases h : nm x < nm y
    · rw [if_pos h, if_pos ((lt_nm x y).mpr h)]
    · rw [if_neg h, if_neg (fun q => h ((lt_nm x y).mp q))]
  rw [e1]
  exact hk
theorem m_min {idx : Nat} {x y : Int} (hd : decode M.2.1 pc = .ok (.invokestatic idx, 3)) (hlk : Cond.methodLink M.2.2.2.2 idx Lib.Math.min.name ∈ lw_gd) (hcat : catS st ≤ 8) (k : Zm w (d + 1) M (pc + 3) ls (aI (iMin x y) :: st) g P) : Zm w (d + 1) M pc ls (aI y :: aI x :: st) g P := by
  intro p e R s m args below meth c H locs cells slots mc ms Qc lsC C hR hS h1 h2 hl hq
  have hk := k p e R s m args below meth c H locs cells slots mc ms Qc lsC C hR hS h1 h2 hl hq
  have ht := C.2.2.2.2.2.2.2.1
  obtain ⟨-, -, -, -, hml, -, hown, -, hKx, -, -, -, r1, r2, r3, r4⟩ := id C
  refine va_mmin C.1 C.2.1 (hml.trans hl.1.symm) hown (ht _ hlk) (ht _ w_smin) (ht _ ii_J9) (ht _ w_cmin) (by omega) (by rw [catS_cv]; omega) (by omega) (by omega) hd ?_
  have e1 : (if Int32.ofInt y < Int32.ofInt x then Int32.ofInt y else Int32.ofInt x) = Int32.ofInt (iMin x y) := by
    unfold iMin
    by_cases h : nm y < nm x
    · rw [if_pos h, if_pos ((lt_nm y x).mpr h)]
    · rw [if_neg h, if_neg (fun q => h ((lt_nm y x).mp q))]
  rw [e1]
  exact hk
theorem m_acopy {idx a a0 : Nat} {sp dp len : Int} (hd : decode M.2.1 pc = .ok (.invokestatic idx, 3)) (hl0 : Cond.methodLink M.2.2.2.2 idx arraycopyName ∈ lw_gd) (hcat : catS st ≤ 8)
    (hk0 : (kd0 a0).1 = 12) (hk1 : (kd0 a).1 = 12) (h1 : 0 ≤ nm sp) (h2 : 0 ≤ nm dp) (h3 : 0 ≤ nm len) (h4 : nm sp + nm len ≤ (kd0 a0).2) (h5 : nm dp + nm len ≤ (kd0 a).2)
    (kk : Zm w (d + 1) M (pc + 3) ls st (upf g a (va_cpy (g a0) (g a) (nm sp).toNat (nm dp).toNat (nm len).toNat)) P) : Zm w (d + 1) M pc ls (aI len :: aI dp :: aR (some a) :: aI sp :: aR (some a0) :: st) g P :=
  z_acopy hd hl0 w_nat w_sta ii_J10 hcat (by omega) hk0 hk1 h1 h2 h3 h4 h5 kk
end ZN
theorem sw_c {x v : Int} {df t : Nat} {r : List (Int × Nat)} (h : nm x = v) : sw x df ((v, t) :: r) = t := by simp [sw, h]
theorem sw_n {x v : Int} {df t : Nat} {r : List (Int × Nat)} (h : ¬ nm x = v) : sw x df ((v, t) :: r) = sw x df r := by simp [sw, h]
theorem sw_e {x : Int} {df : Nat} : sw x df [] = df := rfl
theorem kd_of {a t : Nat} (h : (kd0 a).1 = t) : kd0 a = (t, (kd0 a).2) := by rw [← h]
section ZO
variable {w : GX} {d : Nat} {M M' : Mth} {pc : Nat} {ls : List (Option AV)} {st : List AV} {g : GI} {P : PN}
theorem m_iald {a l : Nat} {i : Int} (hd : decode M.2.1 pc = .ok (.iaload, 1)) (hk : kd0 a = (12, l)) (h0 : 0 ≤ nm i) (hi : nm i < (l : Int)) (kk : Zm w d M (pc + 1) ls (aI (g a (nm i).toNat) :: st) g P) : Zm w d M pc ls (aI i :: aR (some a) :: st) g P :=
  z_iald hd (by rw [hk]) h0 (by rw [hk]; exact hi) kk
theorem m_bald {a l : Nat} {i : Int} (hd : decode M.2.1 pc = .ok (.baload, 1)) (hk : kd0 a = (13, l)) (h0 : 0 ≤ nm i) (hi : nm i < (l : Int)) (kk : Zm w d M (pc + 1) ls (aI (g a (nm i).toNat) :: st) g P) : Zm w d M pc ls (aI i :: aR (some a) :: st) g P :=
  z_bald hd (by rw [hk]) h0 (by rw [hk]; exact hi) kk
theorem m_iast {a l : Nat} {i z : Int} (hd : decode M.2.1 pc = .ok (.iastore, 1)) (hk : kd0 a = (12, l)) (h0 : 0 ≤ nm i) (hi : nm i < (l : Int)) (kk : Zm w d M (pc + 1) ls st (up2 g a (nm i).toNat z) P) : Zm w d M pc ls (aI z :: aI i :: aR (some a) :: st) g P :=
  z_iast hd (by rw [hk]) h0 (by rw [hk]; exact hi) kk
theorem m_bast {a l : Nat} {i z : Int} (hd : decode M.2.1 pc = .ok (.bastore, 1)) (hk : kd0 a = (13, l)) (h0 : 0 ≤ nm i) (hi : nm i < (l : Int)) (hz : z = 0 ∨ z = 1) (kk : Zm w d M (pc + 1) ls st (up2 g a (nm i).toNat z) P) : Zm w d M pc ls (aI z :: aI i :: aR (some a) :: st) g P :=
  z_bast hd (by rw [hk]) h0 (by rw [hk]; exact hi) hz kk
theorem m_alen {a l : Nat} (hd : decode M.2.1 pc = .ok (.arraylength, 1)) (hk : kd0 a = (12, l)) (kk : Zm w d M (pc + 1) ls (aI ((l : Nat) : Int) :: st) g P) : Zm w d M pc ls (aR (some a) :: st) g P :=
  z_alen hd (by rw [hk]) (by rw [hk]; exact kk)
theorem m_aaldv {a l r t : Nat} {i : Int} (hd : decode M.2.1 pc = .ok (.aaload, 1)) (hk : kd0 a = (t, l)) (h0 : 0 ≤ nm i) (hi : nm i < (l : Int)) (hr : rf0 a (nm i).toNat = some r) (kk : Zm w d M (pc + 1) ls (aR (some r) :: st) g P) (ht : 14 ≤ t ∧ t < 17 := by decide) : Zm w d M pc ls (aI i :: aR (some a) :: st) g P :=
  m_aald hd (by rw [hk]; exact ht) h0 (by rw [hk]; exact hi) hr kk
theorem m_acopyv {idx a a0 l0 l1 : Nat} {sp dp len : Int} (hd : decode M.2.1 pc = .ok (.invokestatic idx, 3)) (hl0 : Cond.methodLink M.2.2.2.2 idx arraycopyName ∈ lw_gd) (hcat : catS st ≤ 8)
    (hk0 : kd0 a0 = (12, l0)) (hk1 : kd0 a = (12, l1)) (h1 : 0 ≤ nm sp) (h2 : 0 ≤ nm dp) (h3 : 0 ≤ nm len) (h4 : nm sp + nm len ≤ (l0 : Int)) (h5 : nm dp + nm len ≤ (l1 : Int))
    (kk : Zm w (d + 1) M (pc + 3) ls st (upf g a (va_cpy (g a0) (g a) (nm sp).toNat (nm dp).toNat (nm len).toNat)) P) : Zm w (d + 1) M pc ls (aI len :: aI dp :: aR (some a) :: aI sp :: aR (some a0) :: st) g P :=
  m_acopy hd hl0 hcat (by rw [hk0]) (by rw [hk1]) h1 h2 h3 (by rw [hk0]; exact h4) (by rw [hk1]; exact h5) kk
end ZO
theorem kv_0 : kd0 0 = (10, 0) := by decide +kernel
theorem kt_0 : (kd0 0).1 = 10 := by decide +kernel
theorem rv_0_0 : rf0 0 0 = some 1 := by decide +kernel
theorem rv_0_1 : rf0 0 1 = some 2 := by decide +kernel
theorem rv_0_2 : rf0 0 2 = some 6 := by decide +kernel
theorem rv_0_3 : rf0 0 3 = some 10 := by decide +kernel
theorem rv_0_4 : rf0 0 4 = some 14 := by decide +kernel
theorem rv_0_5 : rf0 0 5 = some 18 := by decide +kernel
theorem rv_0_6 : rf0 0 6 = some 27 := by decide +kernel
theorem rv_0_7 : rf0 0 7 = some 136 := by decide +kernel
theorem rv_0_8 : rf0 0 8 = some 149 := by decide +kernel
theorem rv_0_9 : rf0 0 9 = some 158 := by decide +kernel
theorem rv_0_10 : rf0 0 10 = some 215 := by decide +kernel
theorem kv_1 : kd0 1 = (15, 2) := by decide +kernel
theorem kv_2 : kd0 2 = (4, 0) := by decide +kernel
theorem kt_2 : (kd0 2).1 = 4 := by decide +kernel
theorem rv_2_0 : rf0 2 0 = some 3 := by decide +kernel
theorem rv_2_1 : rf0 2 1 = some 4 := by decide +kernel
theorem rv_2_2 : rf0 2 2 = some 5 := by decide +kernel
theorem kv_3 : kd0 3 = (12, 16) := by decide +kernel
theorem kv_4 : kd0 4 = (12, 16) := by decide +kernel
theorem kv_5 : kd0 5 = (12, 16) := by decide +kernel
theorem kv_6 : kd0 6 = (4, 0) := by decide +kernel
theorem kt_6 : (kd0 6).1 = 4 := by decide +kernel
theorem rv_6_0 : rf0 6 0 = some 7 := by decide +kernel
theorem rv_6_1 : rf0 6 1 = some 8 := by decide +kernel
theorem rv_6_2 : rf0 6 2 = some 9 := by decide +kernel
theorem kv_7 : kd0 7 = (12, 8) := by decide +kernel
theorem kv_8 : kd0 8 = (12, 8) := by decide +kernel
theorem kv_9 : kd0 9 = (12, 8) := by decide +kernel
theorem kv_10 : kd0 10 = (4, 0) := by decide +kernel
theorem kt_10 : (kd0 10).1 = 4 := by decide +kernel
theorem rv_10_0 : rf0 10 0 = some 11 := by decide +kernel
theorem rv_10_1 : rf0 10 1 = some 12 := by decide +kernel
theorem rv_10_2 : rf0 10 2 = some 13 := by decide +kernel
theorem kv_11 : kd0 11 = (12, 6) := by decide +kernel
theorem kv_12 : kd0 12 = (12, 6) := by decide +kernel
theorem kv_13 : kd0 13 = (12, 6) := by decide +kernel
theorem kv_14 : kd0 14 = (4, 0) := by decide +kernel
theorem kt_14 : (kd0 14).1 = 4 := by decide +kernel
theorem rv_14_0 : rf0 14 0 = some 15 := by decide +kernel
theorem rv_14_1 : rf0 14 1 = some 16 := by decide +kernel
theorem rv_14_2 : rf0 14 2 = some 17 := by decide +kernel
theorem kv_15 : kd0 15 = (12, 8) := by decide +kernel
theorem kv_16 : kd0 16 = (12, 8) := by decide +kernel
theorem kv_17 : kd0 17 = (12, 8) := by decide +kernel
theorem kv_18 : kd0 18 = (9, 0) := by decide +kernel
theorem kt_18 : (kd0 18).1 = 9 := by decide +kernel
theorem rv_18_0 : rf0 18 0 = some 19 := by decide +kernel
theorem rv_18_1 : rf0 18 1 = some 20 := by decide +kernel
theorem rv_18_2 : rf0 18 2 = some 21 := by decide +kernel
theorem rv_18_3 : rf0 18 3 = some 22 := by decide +kernel
theorem rv_18_4 : rf0 18 4 = some 23 := by decide +kernel
theorem rv_18_5 : rf0 18 5 = some 24 := by decide +kernel
theorem rv_18_6 : rf0 18 6 = some 25 := by decide +kernel
theorem rv_18_7 : rf0 18 7 = some 26 := by decide +kernel
theorem kv_19 : kd0 19 = (12, 20) := by decide +kernel
theorem kv_20 : kd0 20 = (13, 20) := by decide +kernel
theorem kv_21 : kd0 21 = (13, 20) := by decide +kernel
theorem kv_22 : kd0 22 = (12, 20) := by decide +kernel
theorem kv_23 : kd0 23 = (12, 28) := by decide +kernel
theorem kv_24 : kd0 24 = (12, 28) := by decide +kernel
theorem kv_25 : kd0 25 = (12, 8) := by decide +kernel
theorem kv_26 : kd0 26 = (12, 8) := by decide +kernel
theorem kv_27 : kd0 27 = (2, 0) := by decide +kernel
theorem kt_27 : (kd0 27).1 = 2 := by decide +kernel
theorem rv_27_0 : rf0 27 0 = some 18 := by decide +kernel
theorem rv_27_1 : rf0 27 1 = some 2 := by decide +kernel
theorem rv_27_2 : rf0 27 2 = some 6 := by decide +kernel
theorem rv_27_3 : rf0 27 3 = some 10 := by decide +kernel
theorem rv_27_4 : rf0 27 4 = some 28 := by decide +kernel
theorem rv_27_5 : rf0 27 5 = some 30 := by decide +kernel
theorem kv_28 : kd0 28 = (0, 0) := by decide +kernel
theorem kt_28 : (kd0 28).1 = 0 := by decide +kernel
theorem rv_28_0 : rf0 28 0 = some 29 := by decide +kernel
theorem kv_29 : kd0 29 = (12, 8) := by decide +kernel
theorem kv_30 : kd0 30 = (16, 21) := by decide +kernel
theorem kv_31 : kd0 31 = (8, 0) := by decide +kernel
theorem kt_31 : (kd0 31).1 = 8 := by decide +kernel
theorem rv_31_0 : rf0 31 0 = some 32 := by decide +kernel
theorem rv_31_1 : rf0 31 1 = some 33 := by decide +kernel
theorem rv_31_2 : rf0 31 2 = some 34 := by decide +kernel
theorem rv_31_3 : rf0 31 3 = some 35 := by decide +kernel
theorem kv_32 : kd0 32 = (12, 28) := by decide +kernel
theorem kv_33 : kd0 33 = (12, 28) := by decide +kernel
theorem kv_34 : kd0 34 = (12, 8) := by decide +kernel
theorem kv_35 : kd0 35 = (12, 20) := by decide +kernel
theorem kv_36 : kd0 36 = (8, 0) := by decide +kernel
theorem kt_36 : (kd0 36).1 = 8 := by decide +kernel
theorem rv_36_0 : rf0 36 0 = some 37 := by decide +kernel
theorem rv_36_1 : rf0 36 1 = some 38 := by decide +kernel
theorem rv_36_2 : rf0 36 2 = some 39 := by decide +kernel
theorem rv_36_3 : rf0 36 3 = some 40 := by decide +kernel
theorem kv_37 : kd0 37 = (12, 28) := by decide +kernel
theorem kv_38 : kd0 38 = (12, 28) := by decide +kernel
theorem kv_39 : kd0 39 = (12, 8) := by decide +kernel
theorem kv_40 : kd0 40 = (12, 20) := by decide +kernel
theorem kv_41 : kd0 41 = (8, 0) := by decide +kernel
theorem kt_41 : (kd0 41).1 = 8 := by decide +kernel
theorem rv_41_0 : rf0 41 0 = some 42 := by decide +kernel
theorem rv_41_1 : rf0 41 1 = some 43 := by decide +kernel
theorem rv_41_2 : rf0 41 2 = some 44 := by decide +kernel
theorem rv_41_3 : rf0 41 3 = some 45 := by decide +kernel
theorem kv_42 : kd0 42 = (12, 28) := by decide +kernel
theorem kv_43 : kd0 43 = (12, 28) := by decide +kernel
theorem kv_44 : kd0 44 = (12, 8) := by decide +kernel
theorem kv_45 : kd0 45 = (12, 20) := by decide +kernel
theorem kv_46 : kd0 46 = (8, 0) := by decide +kernel
theorem kt_46 : (kd0 46).1 = 8 := by decide +kernel
theorem rv_46_0 : rf0 46 0 = some 47 := by decide +kernel
theorem rv_46_1 : rf0 46 1 = some 48 := by decide +kernel
theorem rv_46_2 : rf0 46 2 = some 49 := by decide +kernel
theorem rv_46_3 : rf0 46 3 = some 50 := by decide +kernel
theorem kv_47 : kd0 47 = (12, 28) := by decide +kernel
theorem kv_48 : kd0 48 = (12, 28) := by decide +kernel
theorem kv_49 : kd0 49 = (12, 8) := by decide +kernel
theorem kv_50 : kd0 50 = (12, 20) := by decide +kernel
theorem kv_51 : kd0 51 = (8, 0) := by decide +kernel
theorem kt_51 : (kd0 51).1 = 8 := by decide +kernel
theorem rv_51_0 : rf0 51 0 = some 52 := by decide +kernel
theorem rv_51_1 : rf0 51 1 = some 53 := by decide +kernel
theorem rv_51_2 : rf0 51 2 = some 54 := by decide +kernel
theorem rv_51_3 : rf0 51 3 = some 55 := by decide +kernel
theorem kv_52 : kd0 52 = (12, 28) := by decide +kernel
theorem kv_53 : kd0 53 = (12, 28) := by decide +kernel
theorem kv_54 : kd0 54 = (12, 8) := by decide +kernel
theorem kv_55 : kd0 55 = (12, 20) := by decide +kernel
theorem kv_56 : kd0 56 = (8, 0) := by decide +kernel
theorem kt_56 : (kd0 56).1 = 8 := by decide +kernel
theorem rv_56_0 : rf0 56 0 = some 57 := by decide +kernel
theorem rv_56_1 : rf0 56 1 = some 58 := by decide +kernel
theorem rv_56_2 : rf0 56 2 = some 59 := by decide +kernel
theorem rv_56_3 : rf0 56 3 = some 60 := by decide +kernel
theorem kv_57 : kd0 57 = (12, 28) := by decide +kernel
theorem kv_58 : kd0 58 = (12, 28) := by decide +kernel
theorem kv_59 : kd0 59 = (12, 8) := by decide +kernel
theorem kv_60 : kd0 60 = (12, 20) := by decide +kernel
theorem kv_61 : kd0 61 = (8, 0) := by decide +kernel
theorem kt_61 : (kd0 61).1 = 8 := by decide +kernel
theorem rv_61_0 : rf0 61 0 = some 62 := by decide +kernel
theorem rv_61_1 : rf0 61 1 = some 63 := by decide +kernel
theorem rv_61_2 : rf0 61 2 = some 64 := by decide +kernel
theorem rv_61_3 : rf0 61 3 = some 65 := by decide +kernel
theorem kv_62 : kd0 62 = (12, 28) := by decide +kernel
theorem kv_63 : kd0 63 = (12, 28) := by decide +kernel
theorem kv_64 : kd0 64 = (12, 8) := by decide +kernel
theorem kv_65 : kd0 65 = (12, 20) := by decide +kernel
theorem kv_66 : kd0 66 = (8, 0) := by decide +kernel
theorem kt_66 : (kd0 66).1 = 8 := by decide +kernel
theorem rv_66_0 : rf0 66 0 = some 67 := by decide +kernel
theorem rv_66_1 : rf0 66 1 = some 68 := by decide +kernel
theorem rv_66_2 : rf0 66 2 = some 69 := by decide +kernel
theorem rv_66_3 : rf0 66 3 = some 70 := by decide +kernel
theorem kv_67 : kd0 67 = (12, 28) := by decide +kernel
theorem kv_68 : kd0 68 = (12, 28) := by decide +kernel
theorem kv_69 : kd0 69 = (12, 8) := by decide +kernel
theorem kv_70 : kd0 70 = (12, 20) := by decide +kernel
theorem kv_71 : kd0 71 = (8, 0) := by decide +kernel
theorem kt_71 : (kd0 71).1 = 8 := by decide +kernel
theorem rv_71_0 : rf0 71 0 = some 72 := by decide +kernel
theorem rv_71_1 : rf0 71 1 = some 73 := by decide +kernel
theorem rv_71_2 : rf0 71 2 = some 74 := by decide +kernel
theorem rv_71_3 : rf0 71 3 = some 75 := by decide +kernel
theorem kv_72 : kd0 72 = (12, 28) := by decide +kernel
theorem kv_73 : kd0 73 = (12, 28) := by decide +kernel
theorem kv_74 : kd0 74 = (12, 8) := by decide +kernel
theorem kv_75 : kd0 75 = (12, 20) := by decide +kernel
theorem kv_76 : kd0 76 = (8, 0) := by decide +kernel
theorem kt_76 : (kd0 76).1 = 8 := by decide +kernel
theorem rv_76_0 : rf0 76 0 = some 77 := by decide +kernel
theorem rv_76_1 : rf0 76 1 = some 78 := by decide +kernel
theorem rv_76_2 : rf0 76 2 = some 79 := by decide +kernel
theorem rv_76_3 : rf0 76 3 = some 80 := by decide +kernel
theorem kv_77 : kd0 77 = (12, 28) := by decide +kernel
theorem kv_78 : kd0 78 = (12, 28) := by decide +kernel
theorem kv_79 : kd0 79 = (12, 8) := by decide +kernel
theorem kv_80 : kd0 80 = (12, 20) := by decide +kernel
theorem kv_81 : kd0 81 = (8, 0) := by decide +kernel
theorem kt_81 : (kd0 81).1 = 8 := by decide +kernel
theorem rv_81_0 : rf0 81 0 = some 82 := by decide +kernel
theorem rv_81_1 : rf0 81 1 = some 83 := by decide +kernel
theorem rv_81_2 : rf0 81 2 = some 84 := by decide +kernel
theorem rv_81_3 : rf0 81 3 = some 85 := by decide +kernel
theorem kv_82 : kd0 82 = (12, 28) := by decide +kernel
theorem kv_83 : kd0 83 = (12, 28) := by decide +kernel
theorem kv_84 : kd0 84 = (12, 8) := by decide +kernel
theorem kv_85 : kd0 85 = (12, 20) := by decide +kernel
theorem kv_86 : kd0 86 = (8, 0) := by decide +kernel
theorem kt_86 : (kd0 86).1 = 8 := by decide +kernel
theorem rv_86_0 : rf0 86 0 = some 87 := by decide +kernel
theorem rv_86_1 : rf0 86 1 = some 88 := by decide +kernel
theorem rv_86_2 : rf0 86 2 = some 89 := by decide +kernel
theorem rv_86_3 : rf0 86 3 = some 90 := by decide +kernel
theorem kv_87 : kd0 87 = (12, 28) := by decide +kernel
theorem kv_88 : kd0 88 = (12, 28) := by decide +kernel
theorem kv_89 : kd0 89 = (12, 8) := by decide +kernel
theorem kv_90 : kd0 90 = (12, 20) := by decide +kernel
theorem kv_91 : kd0 91 = (8, 0) := by decide +kernel
theorem kt_91 : (kd0 91).1 = 8 := by decide +kernel
theorem rv_91_0 : rf0 91 0 = some 92 := by decide +kernel
theorem rv_91_1 : rf0 91 1 = some 93 := by decide +kernel
theorem rv_91_2 : rf0 91 2 = some 94 := by decide +kernel
theorem rv_91_3 : rf0 91 3 = some 95 := by decide +kernel
theorem kv_92 : kd0 92 = (12, 28) := by decide +kernel
theorem kv_93 : kd0 93 = (12, 28) := by decide +kernel
theorem kv_94 : kd0 94 = (12, 8) := by decide +kernel
theorem kv_95 : kd0 95 = (12, 20) := by decide +kernel
theorem kv_96 : kd0 96 = (8, 0) := by decide +kernel
theorem kt_96 : (kd0 96).1 = 8 := by decide +kernel
theorem rv_96_0 : rf0 96 0 = some 97 := by decide +kernel
theorem rv_96_1 : rf0 96 1 = some 98 := by decide +kernel
theorem rv_96_2 : rf0 96 2 = some 99 := by decide +kernel
theorem rv_96_3 : rf0 96 3 = some 100 := by decide +kernel
theorem kv_97 : kd0 97 = (12, 28) := by decide +kernel
theorem kv_98 : kd0 98 = (12, 28) := by decide +kernel
theorem kv_99 : kd0 99 = (12, 8) := by decide +kernel
theorem kv_100 : kd0 100 = (12, 20) := by decide +kernel
theorem kv_101 : kd0 101 = (8, 0) := by decide +kernel
theorem kt_101 : (kd0 101).1 = 8 := by decide +kernel
theorem rv_101_0 : rf0 101 0 = some 102 := by decide +kernel
theorem rv_101_1 : rf0 101 1 = some 103 := by decide +kernel
theorem rv_101_2 : rf0 101 2 = some 104 := by decide +kernel
theorem rv_101_3 : rf0 101 3 = some 105 := by decide +kernel
theorem kv_102 : kd0 102 = (12, 28) := by decide +kernel
theorem kv_103 : kd0 103 = (12, 28) := by decide +kernel
theorem kv_104 : kd0 104 = (12, 8) := by decide +kernel
theorem kv_105 : kd0 105 = (12, 20) := by decide +kernel
theorem kv_106 : kd0 106 = (8, 0) := by decide +kernel
theorem kt_106 : (kd0 106).1 = 8 := by decide +kernel
theorem rv_106_0 : rf0 106 0 = some 107 := by decide +kernel
theorem rv_106_1 : rf0 106 1 = some 108 := by decide +kernel
theorem rv_106_2 : rf0 106 2 = some 109 := by decide +kernel
theorem rv_106_3 : rf0 106 3 = some 110 := by decide +kernel
theorem kv_107 : kd0 107 = (12, 28) := by decide +kernel
theorem kv_108 : kd0 108 = (12, 28) := by decide +kernel
theorem kv_109 : kd0 109 = (12, 8) := by decide +kernel
theorem kv_110 : kd0 110 = (12, 20) := by decide +kernel
theorem kv_111 : kd0 111 = (8, 0) := by decide +kernel
theorem kt_111 : (kd0 111).1 = 8 := by decide +kernel
theorem rv_111_0 : rf0 111 0 = some 112 := by decide +kernel
theorem rv_111_1 : rf0 111 1 = some 113 := by decide +kernel
theorem rv_111_2 : rf0 111 2 = some 114 := by decide +kernel
theorem rv_111_3 : rf0 111 3 = some 115 := by decide +kernel
theorem kv_112 : kd0 112 = (12, 28) := by decide +kernel
theorem kv_113 : kd0 113 = (12, 28) := by decide +kernel
theorem kv_114 : kd0 114 = (12, 8) := by decide +kernel
theorem kv_115 : kd0 115 = (12, 20) := by decide +kernel
theorem kv_116 : kd0 116 = (8, 0) := by decide +kernel
theorem kt_116 : (kd0 116).1 = 8 := by decide +kernel
theorem rv_116_0 : rf0 116 0 = some 117 := by decide +kernel
theorem rv_116_1 : rf0 116 1 = some 118 := by decide +kernel
theorem rv_116_2 : rf0 116 2 = some 119 := by decide +kernel
theorem rv_116_3 : rf0 116 3 = some 120 := by decide +kernel
theorem kv_117 : kd0 117 = (12, 28) := by decide +kernel
theorem kv_118 : kd0 118 = (12, 28) := by decide +kernel
theorem kv_119 : kd0 119 = (12, 8) := by decide +kernel
theorem kv_120 : kd0 120 = (12, 20) := by decide +kernel
theorem kv_121 : kd0 121 = (8, 0) := by decide +kernel
theorem kt_121 : (kd0 121).1 = 8 := by decide +kernel
theorem rv_121_0 : rf0 121 0 = some 122 := by decide +kernel
theorem rv_121_1 : rf0 121 1 = some 123 := by decide +kernel
theorem rv_121_2 : rf0 121 2 = some 124 := by decide +kernel
theorem rv_121_3 : rf0 121 3 = some 125 := by decide +kernel
theorem kv_122 : kd0 122 = (12, 28) := by decide +kernel
theorem kv_123 : kd0 123 = (12, 28) := by decide +kernel
theorem kv_124 : kd0 124 = (12, 8) := by decide +kernel
theorem kv_125 : kd0 125 = (12, 20) := by decide +kernel
theorem kv_126 : kd0 126 = (8, 0) := by decide +kernel
theorem kt_126 : (kd0 126).1 = 8 := by decide +kernel
theorem rv_126_0 : rf0 126 0 = some 127 := by decide +kernel
theorem rv_126_1 : rf0 126 1 = some 128 := by decide +kernel
theorem rv_126_2 : rf0 126 2 = some 129 := by decide +kernel
theorem rv_126_3 : rf0 126 3 = some 130 := by decide +kernel
theorem kv_127 : kd0 127 = (12, 28) := by decide +kernel
theorem kv_128 : kd0 128 = (12, 28) := by decide +kernel
theorem kv_129 : kd0 129 = (12, 8) := by decide +kernel
theorem kv_130 : kd0 130 = (12, 20) := by decide +kernel
theorem kv_131 : kd0 131 = (8, 0) := by decide +kernel
theorem kt_131 : (kd0 131).1 = 8 := by decide +kernel
theorem rv_131_0 : rf0 131 0 = some 132 := by decide +kernel
theorem rv_131_1 : rf0 131 1 = some 133 := by decide +kernel
theorem rv_131_2 : rf0 131 2 = some 134 := by decide +kernel
theorem rv_131_3 : rf0 131 3 = some 135 := by decide +kernel
theorem kv_132 : kd0 132 = (12, 28) := by decide +kernel
theorem kv_133 : kd0 133 = (12, 28) := by decide +kernel
theorem kv_134 : kd0 134 = (12, 8) := by decide +kernel
theorem kv_135 : kd0 135 = (12, 20) := by decide +kernel
theorem kv_136 : kd0 136 = (5, 0) := by decide +kernel
theorem kt_136 : (kd0 136).1 = 5 := by decide +kernel
theorem rv_136_0 : rf0 136 0 = some 27 := by decide +kernel
theorem rv_136_1 : rf0 136 1 = some 137 := by decide +kernel
theorem rv_136_2 : rf0 136 2 = some 142 := by decide +kernel
theorem rv_136_3 : rf0 136 3 = some 147 := by decide +kernel
theorem rv_136_4 : rf0 136 4 = some 148 := by decide +kernel
theorem kv_137 : kd0 137 = (8, 0) := by decide +kernel
theorem kt_137 : (kd0 137).1 = 8 := by decide +kernel
theorem rv_137_0 : rf0 137 0 = some 138 := by decide +kernel
theorem rv_137_1 : rf0 137 1 = some 139 := by decide +kernel
theorem rv_137_2 : rf0 137 2 = some 140 := by decide +kernel
theorem rv_137_3 : rf0 137 3 = some 141 := by decide +kernel
theorem kv_138 : kd0 138 = (12, 28) := by decide +kernel
theorem kv_139 : kd0 139 = (12, 28) := by decide +kernel
theorem kv_140 : kd0 140 = (12, 8) := by decide +kernel
theorem kv_141 : kd0 141 = (12, 20) := by decide +kernel
theorem kv_142 : kd0 142 = (8, 0) := by decide +kernel
theorem kt_142 : (kd0 142).1 = 8 := by decide +kernel
theorem rv_142_0 : rf0 142 0 = some 143 := by decide +kernel
theorem rv_142_1 : rf0 142 1 = some 144 := by decide +kernel
theorem rv_142_2 : rf0 142 2 = some 145 := by decide +kernel
theorem rv_142_3 : rf0 142 3 = some 146 := by decide +kernel
theorem kv_143 : kd0 143 = (12, 28) := by decide +kernel
theorem kv_144 : kd0 144 = (12, 28) := by decide +kernel
theorem kv_145 : kd0 145 = (12, 8) := by decide +kernel
theorem kv_146 : kd0 146 = (12, 20) := by decide +kernel
theorem kv_147 : kd0 147 = (12, 2) := by decide +kernel
theorem kv_148 : kd0 148 = (12, 2) := by decide +kernel
theorem kv_149 : kd0 149 = (3, 0) := by decide +kernel
theorem kt_149 : (kd0 149).1 = 3 := by decide +kernel
theorem rv_149_0 : rf0 149 0 = some 27 := by decide +kernel
theorem rv_149_1 : rf0 149 1 = some 14 := by decide +kernel
theorem rv_149_2 : rf0 149 2 = some 150 := by decide +kernel
theorem rv_149_3 : rf0 149 3 = some 152 := by decide +kernel
theorem rv_149_4 : rf0 149 4 = some 157 := by decide +kernel
theorem kv_150 : kd0 150 = (0, 0) := by decide +kernel
theorem kt_150 : (kd0 150).1 = 0 := by decide +kernel
theorem rv_150_0 : rf0 150 0 = some 151 := by decide +kernel
theorem kv_151 : kd0 151 = (12, 8) := by decide +kernel
theorem kv_152 : kd0 152 = (8, 0) := by decide +kernel
theorem kt_152 : (kd0 152).1 = 8 := by decide +kernel
theorem rv_152_0 : rf0 152 0 = some 153 := by decide +kernel
theorem rv_152_1 : rf0 152 1 = some 154 := by decide +kernel
theorem rv_152_2 : rf0 152 2 = some 155 := by decide +kernel
theorem rv_152_3 : rf0 152 3 = some 156 := by decide +kernel
theorem kv_153 : kd0 153 = (12, 28) := by decide +kernel
theorem kv_154 : kd0 154 = (12, 28) := by decide +kernel
theorem kv_155 : kd0 155 = (12, 8) := by decide +kernel
theorem kv_156 : kd0 156 = (12, 20) := by decide +kernel
theorem kv_157 : kd0 157 = (12, 208) := by decide +kernel
theorem kv_158 : kd0 158 = (1, 0) := by decide +kernel
theorem kt_158 : (kd0 158).1 = 1 := by decide +kernel
theorem rv_158_0 : rf0 158 0 = some 27 := by decide +kernel
theorem rv_158_1 : rf0 158 1 = some 159 := by decide +kernel
theorem kv_159 : kd0 159 = (16, 11) := by decide +kernel
theorem kv_160 : kd0 160 = (8, 0) := by decide +kernel
theorem kt_160 : (kd0 160).1 = 8 := by decide +kernel
theorem rv_160_0 : rf0 160 0 = some 161 := by decide +kernel
theorem rv_160_1 : rf0 160 1 = some 162 := by decide +kernel
theorem rv_160_2 : rf0 160 2 = some 163 := by decide +kernel
theorem rv_160_3 : rf0 160 3 = some 164 := by decide +kernel
theorem kv_161 : kd0 161 = (12, 28) := by decide +kernel
theorem kv_162 : kd0 162 = (12, 28) := by decide +kernel
theorem kv_163 : kd0 163 = (12, 8) := by decide +kernel
theorem kv_164 : kd0 164 = (12, 20) := by decide +kernel
theorem kv_165 : kd0 165 = (8, 0) := by decide +kernel
theorem kt_165 : (kd0 165).1 = 8 := by decide +kernel
theorem rv_165_0 : rf0 165 0 = some 166 := by decide +kernel
theorem rv_165_1 : rf0 165 1 = some 167 := by decide +kernel
theorem rv_165_2 : rf0 165 2 = some 168 := by decide +kernel
theorem rv_165_3 : rf0 165 3 = some 169 := by decide +kernel
theorem kv_166 : kd0 166 = (12, 28) := by decide +kernel
theorem kv_167 : kd0 167 = (12, 28) := by decide +kernel
theorem kv_168 : kd0 168 = (12, 8) := by decide +kernel
theorem kv_169 : kd0 169 = (12, 20) := by decide +kernel
theorem kv_170 : kd0 170 = (8, 0) := by decide +kernel
theorem kt_170 : (kd0 170).1 = 8 := by decide +kernel
theorem rv_170_0 : rf0 170 0 = some 171 := by decide +kernel
theorem rv_170_1 : rf0 170 1 = some 172 := by decide +kernel
theorem rv_170_2 : rf0 170 2 = some 173 := by decide +kernel
theorem rv_170_3 : rf0 170 3 = some 174 := by decide +kernel
theorem kv_171 : kd0 171 = (12, 28) := by decide +kernel
theorem kv_172 : kd0 172 = (12, 28) := by decide +kernel
theorem kv_173 : kd0 173 = (12, 8) := by decide +kernel
theorem kv_174 : kd0 174 = (12, 20) := by decide +kernel
theorem kv_175 : kd0 175 = (8, 0) := by decide +kernel
theorem kt_175 : (kd0 175).1 = 8 := by decide +kernel
theorem rv_175_0 : rf0 175 0 = some 176 := by decide +kernel
theorem rv_175_1 : rf0 175 1 = some 177 := by decide +kernel
theorem rv_175_2 : rf0 175 2 = some 178 := by decide +kernel
theorem rv_175_3 : rf0 175 3 = some 179 := by decide +kernel
theorem kv_176 : kd0 176 = (12, 28) := by decide +kernel
theorem kv_177 : kd0 177 = (12, 28) := by decide +kernel
theorem kv_178 : kd0 178 = (12, 8) := by decide +kernel
theorem kv_179 : kd0 179 = (12, 20) := by decide +kernel
theorem kv_180 : kd0 180 = (8, 0) := by decide +kernel
theorem kt_180 : (kd0 180).1 = 8 := by decide +kernel
theorem rv_180_0 : rf0 180 0 = some 181 := by decide +kernel
theorem rv_180_1 : rf0 180 1 = some 182 := by decide +kernel
theorem rv_180_2 : rf0 180 2 = some 183 := by decide +kernel
theorem rv_180_3 : rf0 180 3 = some 184 := by decide +kernel
theorem kv_181 : kd0 181 = (12, 28) := by decide +kernel
theorem kv_182 : kd0 182 = (12, 28) := by decide +kernel
theorem kv_183 : kd0 183 = (12, 8) := by decide +kernel
theorem kv_184 : kd0 184 = (12, 20) := by decide +kernel
theorem kv_185 : kd0 185 = (8, 0) := by decide +kernel
theorem kt_185 : (kd0 185).1 = 8 := by decide +kernel
theorem rv_185_0 : rf0 185 0 = some 186 := by decide +kernel
theorem rv_185_1 : rf0 185 1 = some 187 := by decide +kernel
theorem rv_185_2 : rf0 185 2 = some 188 := by decide +kernel
theorem rv_185_3 : rf0 185 3 = some 189 := by decide +kernel
theorem kv_186 : kd0 186 = (12, 28) := by decide +kernel
theorem kv_187 : kd0 187 = (12, 28) := by decide +kernel
theorem kv_188 : kd0 188 = (12, 8) := by decide +kernel
theorem kv_189 : kd0 189 = (12, 20) := by decide +kernel
theorem kv_190 : kd0 190 = (8, 0) := by decide +kernel
theorem kt_190 : (kd0 190).1 = 8 := by decide +kernel
theorem rv_190_0 : rf0 190 0 = some 191 := by decide +kernel
theorem rv_190_1 : rf0 190 1 = some 192 := by decide +kernel
theorem rv_190_2 : rf0 190 2 = some 193 := by decide +kernel
theorem rv_190_3 : rf0 190 3 = some 194 := by decide +kernel
theorem kv_191 : kd0 191 = (12, 28) := by decide +kernel
theorem kv_192 : kd0 192 = (12, 28) := by decide +kernel
theorem kv_193 : kd0 193 = (12, 8) := by decide +kernel
theorem kv_194 : kd0 194 = (12, 20) := by decide +kernel
theorem kv_195 : kd0 195 = (8, 0) := by decide +kernel
theorem kt_195 : (kd0 195).1 = 8 := by decide +kernel
theorem rv_195_0 : rf0 195 0 = some 196 := by decide +kernel
theorem rv_195_1 : rf0 195 1 = some 197 := by decide +kernel
theorem rv_195_2 : rf0 195 2 = some 198 := by decide +kernel
theorem rv_195_3 : rf0 195 3 = some 199 := by decide +kernel
theorem kv_196 : kd0 196 = (12, 28) := by decide +kernel
theorem kv_197 : kd0 197 = (12, 28) := by decide +kernel
theorem kv_198 : kd0 198 = (12, 8) := by decide +kernel
theorem kv_199 : kd0 199 = (12, 20) := by decide +kernel
theorem kv_200 : kd0 200 = (8, 0) := by decide +kernel
theorem kt_200 : (kd0 200).1 = 8 := by decide +kernel
theorem rv_200_0 : rf0 200 0 = some 201 := by decide +kernel
theorem rv_200_1 : rf0 200 1 = some 202 := by decide +kernel
theorem rv_200_2 : rf0 200 2 = some 203 := by decide +kernel
theorem rv_200_3 : rf0 200 3 = some 204 := by decide +kernel
theorem kv_201 : kd0 201 = (12, 28) := by decide +kernel
theorem kv_202 : kd0 202 = (12, 28) := by decide +kernel
theorem kv_203 : kd0 203 = (12, 8) := by decide +kernel
theorem kv_204 : kd0 204 = (12, 20) := by decide +kernel
theorem kv_205 : kd0 205 = (8, 0) := by decide +kernel
theorem kt_205 : (kd0 205).1 = 8 := by decide +kernel
theorem rv_205_0 : rf0 205 0 = some 206 := by decide +kernel
theorem rv_205_1 : rf0 205 1 = some 207 := by decide +kernel
theorem rv_205_2 : rf0 205 2 = some 208 := by decide +kernel
theorem rv_205_3 : rf0 205 3 = some 209 := by decide +kernel
theorem kv_206 : kd0 206 = (12, 28) := by decide +kernel
theorem kv_207 : kd0 207 = (12, 28) := by decide +kernel
theorem kv_208 : kd0 208 = (12, 8) := by decide +kernel
theorem kv_209 : kd0 209 = (12, 20) := by decide +kernel
theorem kv_210 : kd0 210 = (8, 0) := by decide +kernel
theorem kt_210 : (kd0 210).1 = 8 := by decide +kernel
theorem rv_210_0 : rf0 210 0 = some 211 := by decide +kernel
theorem rv_210_1 : rf0 210 1 = some 212 := by decide +kernel
theorem rv_210_2 : rf0 210 2 = some 213 := by decide +kernel
theorem rv_210_3 : rf0 210 3 = some 214 := by decide +kernel
theorem kv_211 : kd0 211 = (12, 28) := by decide +kernel
theorem kv_212 : kd0 212 = (12, 28) := by decide +kernel
theorem kv_213 : kd0 213 = (12, 8) := by decide +kernel
theorem kv_214 : kd0 214 = (12, 20) := by decide +kernel
theorem kv_215 : kd0 215 = (14, 4) := by decide +kernel
theorem kv_216 : kd0 216 = (7, 0) := by decide +kernel
theorem kt_216 : (kd0 216).1 = 7 := by decide +kernel
theorem rv_216_0 : rf0 216 0 = some 217 := by decide +kernel
theorem kv_217 : kd0 217 = (12, 20) := by decide +kernel
theorem kv_218 : kd0 218 = (7, 0) := by decide +kernel
theorem kt_218 : (kd0 218).1 = 7 := by decide +kernel
theorem rv_218_0 : rf0 218 0 = some 219 := by decide +kernel
theorem kv_219 : kd0 219 = (12, 47) := by decide +kernel
theorem kv_220 : kd0 220 = (6, 0) := by decide +kernel
theorem kt_220 : (kd0 220).1 = 6 := by decide +kernel
theorem rv_220_0 : rf0 220 0 = some 221 := by decide +kernel
theorem kv_221 : kd0 221 = (12, 60) := by decide +kernel
theorem kv_222 : kd0 222 = (6, 0) := by decide +kernel
theorem kt_222 : (kd0 222).1 = 6 := by decide +kernel
theorem rv_222_0 : rf0 222 0 = some 223 := by decide +kernel
theorem kv_223 : kd0 223 = (12, 60) := by decide +kernel
theorem kv_224 : kd0 224 = (6, 0) := by decide +kernel
theorem kt_224 : (kd0 224).1 = 6 := by decide +kernel
theorem rv_224_0 : rf0 224 0 = some 225 := by decide +kernel
theorem kv_225 : kd0 225 = (12, 60) := by decide +kernel
theorem kv_226 : kd0 226 = (6, 0) := by decide +kernel
theorem kt_226 : (kd0 226).1 = 6 := by decide +kernel
theorem rv_226_0 : rf0 226 0 = some 227 := by decide +kernel
theorem kv_227 : kd0 227 = (12, 60) := by decide +kernel
theorem kv_228 : kd0 228 = (11, 0) := by decide +kernel
theorem kt_228 : (kd0 228).1 = 11 := by decide +kernel
theorem rv_228_0 : rf0 228 0 = some 229 := by decide +kernel
theorem rv_228_1 : rf0 228 1 = some 230 := by decide +kernel
theorem rv_228_2 : rf0 228 2 = some 231 := by decide +kernel
theorem rv_228_3 : rf0 228 3 = some 232 := by decide +kernel
theorem rv_228_5 : rf0 228 5 = some 233 := by decide +kernel
theorem rv_228_6 : rf0 228 6 = some 234 := by decide +kernel
theorem rv_228_8 : rf0 228 8 = some 235 := by decide +kernel
theorem rv_228_9 : rf0 228 9 = some 236 := by decide +kernel
theorem rv_228_11 : rf0 228 11 = some 237 := by decide +kernel
theorem rv_228_15 : rf0 228 15 = some 238 := by decide +kernel
theorem rv_228_17 : rf0 228 17 = some 239 := by decide +kernel
theorem rv_228_19 : rf0 228 19 = some 240 := by decide +kernel
theorem rv_228_20 : rf0 228 20 = some 241 := by decide +kernel
theorem rv_228_21 : rf0 228 21 = some 242 := by decide +kernel
theorem rv_228_22 : rf0 228 22 = some 243 := by decide +kernel
theorem rv_228_23 : rf0 228 23 = some 244 := by decide +kernel
theorem rv_228_24 : rf0 228 24 = some 245 := by decide +kernel
theorem rv_228_25 : rf0 228 25 = some 246 := by decide +kernel
theorem rv_228_26 : rf0 228 26 = some 247 := by decide +kernel
theorem rv_228_32 : rf0 228 32 = some 248 := by decide +kernel
theorem rv_228_33 : rf0 228 33 = some 249 := by decide +kernel
theorem kv_229 : kd0 229 = (12, 4) := by decide +kernel
theorem kv_230 : kd0 230 = (12, 4) := by decide +kernel
theorem kv_231 : kd0 231 = (12, 240) := by decide +kernel
theorem kv_232 : kd0 232 = (12, 60) := by decide +kernel
theorem kv_233 : kd0 233 = (12, 96) := by decide +kernel
theorem kv_234 : kd0 234 = (12, 2) := by decide +kernel
theorem kv_235 : kd0 235 = (12, 20) := by decide +kernel
theorem kv_236 : kd0 236 = (12, 20) := by decide +kernel
theorem kv_237 : kd0 237 = (12, 32) := by decide +kernel
theorem kv_238 : kd0 238 = (12, 72) := by decide +kernel
theorem kv_239 : kd0 239 = (12, 20) := by decide +kernel
theorem kv_240 : kd0 240 = (12, 6) := by decide +kernel
theorem kv_241 : kd0 241 = (12, 560) := by decide +kernel
theorem kv_242 : kd0 242 = (12, 20) := by decide +kernel
theorem kv_243 : kd0 243 = (12, 28) := by decide +kernel
theorem kv_244 : kd0 244 = (12, 28) := by decide +kernel
theorem kv_245 : kd0 245 = (12, 28) := by decide +kernel
theorem kv_246 : kd0 246 = (12, 8) := by decide +kernel
theorem kv_247 : kd0 247 = (12, 36) := by decide +kernel
theorem kv_248 : kd0 248 = (12, 24) := by decide +kernel
theorem kv_249 : kd0 249 = (12, 208) := by decide +kernel
def isW (a : Nat) : Prop := kd0 a = (8, 0) ∧ kd0 (a + 1) = (12, 28) ∧ kd0 (a + 2) = (12, 28) ∧ kd0 (a + 3) = (12, 8) ∧ kd0 (a + 4) = (12, 20) ∧ rf0 a 0 = some (a + 1) ∧ rf0 a 1 = some (a + 2) ∧ rf0 a 2 = some (a + 3) ∧ rf0 a 3 = some (a + 4) ∧ 31 ≤ a ∧ a ≤ 210
def isT (a : Nat) : Prop := kd0 a = (7, 0) ∧ rf0 a 0 = some (a + 1) ∧ (kd0 (a + 1)).1 = 12
def isLo (a : Nat) : Prop := kd0 a = (4, 0) ∧ rf0 a 0 = some (a + 1) ∧ rf0 a 1 = some (a + 2) ∧ rf0 a 2 = some (a + 3) ∧ (kd0 (a + 1)).1 = 12 ∧ (kd0 (a + 2)).1 = 12 ∧ (kd0 (a + 3)).1 = 12 ∧ (kd0 (a + 2)).2 = (kd0 (a + 1)).2 ∧ (kd0 (a + 3)).2 = (kd0 (a + 1)).2
def isS (a : Nat) : Prop := kd0 a = (6, 0) ∧ rf0 a 0 = some (a + 1) ∧ kd0 (a + 1) = (12, 60)
def isC (a : Nat) : Prop := kd0 a = (0, 0) ∧ rf0 a 0 = some (a + 1) ∧ kd0 (a + 1) = (12, 8)
theorem w_ahead : ∀ j, j < 21 → rf0 30 j = some (31 + 5 * j) := by decide +kernel
theorem w_chance : ∀ j, j < 11 → rf0 159 j = some (160 + 5 * j) := by decide +kernel
theorem w_sheets : ∀ j, j < 4 → rf0 215 j = some (220 + 2 * j) := by decide +kernel
theorem w_texts : ∀ j, j < 2 → rf0 1 j = some (216 + 2 * j) := by decide +kernel
theorem isW_ahead : ∀ j, j < 21 → isW (31 + 5 * j) := by unfold isW; decide +kernel
theorem isW_chance : ∀ j, j < 11 → isW (160 + 5 * j) := by unfold isW; decide +kernel
theorem isS_at : ∀ j, j < 4 → isS (220 + 2 * j) := by unfold isS; decide +kernel
theorem isT_at : ∀ j, j < 2 → isT (216 + 2 * j) := by unfold isT; decide +kernel
theorem isLo_2 : isLo 2 := by unfold isLo; decide +kernel
theorem isLo_6 : isLo 6 := by unfold isLo; decide +kernel
theorem isLo_10 : isLo 10 := by unfold isLo; decide +kernel
theorem isLo_14 : isLo 14 := by unfold isLo; decide +kernel
theorem isC_28 : isC 28 := by unfold isC; decide +kernel
theorem isW_31 : isW 31 := by unfold isW; decide +kernel
theorem isW_36 : isW 36 := by unfold isW; decide +kernel
theorem isW_41 : isW 41 := by unfold isW; decide +kernel
theorem isW_46 : isW 46 := by unfold isW; decide +kernel
theorem isW_51 : isW 51 := by unfold isW; decide +kernel
theorem isW_56 : isW 56 := by unfold isW; decide +kernel
theorem isW_61 : isW 61 := by unfold isW; decide +kernel
theorem isW_66 : isW 66 := by unfold isW; decide +kernel
theorem isW_71 : isW 71 := by unfold isW; decide +kernel
theorem isW_76 : isW 76 := by unfold isW; decide +kernel
theorem isW_81 : isW 81 := by unfold isW; decide +kernel
theorem isW_86 : isW 86 := by unfold isW; decide +kernel
theorem isW_91 : isW 91 := by unfold isW; decide +kernel
theorem isW_96 : isW 96 := by unfold isW; decide +kernel
theorem isW_101 : isW 101 := by unfold isW; decide +kernel
theorem isW_106 : isW 106 := by unfold isW; decide +kernel
theorem isW_111 : isW 111 := by unfold isW; decide +kernel
theorem isW_116 : isW 116 := by unfold isW; decide +kernel
theorem isW_121 : isW 121 := by unfold isW; decide +kernel
theorem isW_126 : isW 126 := by unfold isW; decide +kernel
theorem isW_131 : isW 131 := by unfold isW; decide +kernel
theorem isW_137 : isW 137 := by unfold isW; decide +kernel
theorem isW_142 : isW 142 := by unfold isW; decide +kernel
theorem isC_150 : isC 150 := by unfold isC; decide +kernel
theorem isW_152 : isW 152 := by unfold isW; decide +kernel
theorem isW_160 : isW 160 := by unfold isW; decide +kernel
theorem isW_165 : isW 165 := by unfold isW; decide +kernel
theorem isW_170 : isW 170 := by unfold isW; decide +kernel
theorem isW_175 : isW 175 := by unfold isW; decide +kernel
theorem isW_180 : isW 180 := by unfold isW; decide +kernel
theorem isW_185 : isW 185 := by unfold isW; decide +kernel
theorem isW_190 : isW 190 := by unfold isW; decide +kernel
theorem isW_195 : isW 195 := by unfold isW; decide +kernel
theorem isW_200 : isW 200 := by unfold isW; decide +kernel
theorem isW_205 : isW 205 := by unfold isW; decide +kernel
theorem isW_210 : isW 210 := by unfold isW; decide +kernel
theorem isT_216 : isT 216 := by unfold isT; decide +kernel
theorem isT_218 : isT 218 := by unfold isT; decide +kernel
theorem isS_220 : isS 220 := by unfold isS; decide +kernel
theorem isS_222 : isS 222 := by unfold isS; decide +kernel
theorem isS_224 : isS 224 := by unfold isS; decide +kernel
theorem isS_226 : isS 226 := by unfold isS; decide +kernel
