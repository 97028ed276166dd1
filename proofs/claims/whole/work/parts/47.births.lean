/-! the constructors: cells are laid one after the other as the layout has them -/
def kdn (n : Nat) : KD := fun a => if a < n then kd0 a else (99, 0)
theorem kdn_lt {n a : Nat} (h : a < n) : kdn n a = kd0 a := if_pos h
theorem kdn_up {n : Nat} {q : Nat × Nat} (h : kd0 n = q) : upf (kdn n) n q = kdn (n + 1) := by
  funext b
  by_cases e : b = n
  · rw [e, upf_eq, kdn_lt (by omega), h]
  · rw [upf_ne _ _ e]
    show (if b < n then kd0 b else (99, 0)) = (if b < n + 1 then kd0 b else (99, 0))
    by_cases z : b < n
    · rw [if_pos z, if_pos (by omega)]
    · rw [if_neg z, if_neg (by omega)]
theorem kdL_len : kdL.length = 250 := by decide +kernel
theorem rfL_len : rfL.length ≤ 250 := by decide +kernel
theorem kdn_250 : kdn 250 = kd0 := by
  funext b
  show (if b < 250 then kd0 b else (99, 0)) = kd0 b
  by_cases z : b < 250
  · rw [if_pos z]
  · rw [if_neg z]
    show _ = kdL.getD b (99, 0)
    rw [List.getD_eq_getElem?_getD, List.getElem?_eq_none (by rw [kdL_len]; omega)]; rfl
theorem rf0_big {a j : Nat} (h : (rfL.getD a []).length ≤ j) : rf0 a j = none := by
  show (rfL.getD a []).getD j none = none
  rw [List.getD_eq_getElem?_getD, List.getElem?_eq_none h]; rfl
theorem rf0_250 {a : Nat} (h : 250 ≤ a) (j : Nat) : rf0 a j = none := by
  refine rf0_big ?_
  rw [List.getD_eq_getElem?_getD, List.getElem?_eq_none (by have := rfL_len; omega)]
  exact Nat.zero_le _
/-- from a0 on, up to n, all references are laid but those of U; below a0 they are as before -/
def Rin (a0 n : Nat) (U : Nat → Nat → Prop) (rfi rf : RF) : Prop := (∀ b, b < a0 → rf b = rfi b) ∧ ∀ b j, a0 ≤ b → b < n → U b j ∨ rf b j = rf0 b j
theorem Rin.start {a : Nat} {U : Nat → Nat → Prop} {rf : RF} (hz : ∀ j, rf a j = none) (hU : ∀ j, U a j ∨ rf0 a j = none) : Rin a (a + 1) U rf rf :=
  ⟨fun _ _ => rfl, fun b j h1 h2 => by
    have e : b = a := by omega
    subst e
    rcases hU j with h | h
    · exact Or.inl h
    · exact Or.inr (by rw [hz, h])⟩
theorem Rin.all {a n : Nat} {U : Nat → Nat → Prop} {rfi rf : RF} (h : Rin a n U rfi rf) (hU : ∀ b j, ¬ U b j) : ∀ b j, a ≤ b → b < n → rf b j = rf0 b j := fun b j h1 h2 => (h.2 b j h1 h2).resolve_left (hU b j)
/-- a constructor's contract, on the cell a that was just made -/
def Ct (w : GX) (d kc ks : Nat) (M : Mth) (a n' : Nat) (lo : List (Option AV)) (G : GI → Prop) : Prop := ∀ (rf : RF) (g : GI) (Q : Post), (∀ j, rf a j = none) → (∀ j, g a j = 0) → (∀ rf' g', (∀ b, b < a → rf' b = rf b) → (∀ b j, a ≤ b → b < n' → rf' b j = rf0 b j) → (∀ b, b < a → g' b = g b) → G g' → Q none (kdn n') rf' n' g') → Zj w d kc ks M 0 lo [] (kdn (a + 1)) rf (a + 1) g Q
section NB
variable {w : GX} {d kc ks kc' ks' : Nat} {M M' : Mth} {pc : Nat} {ls : List (Option AV)} {st : List AV} {rf rfi : RF} {n a0 : Nat} {g : GI} {Q : Post} {U U' : Nat → Nat → Prop}
theorem z_max {kd : KD} {idx : Nat} {x y : Int} (hd : decode M.2.1 pc = .ok (.invokestatic idx, 3)) (hlk : Cond.methodLink M.2.2.2.2 idx Lib.Math.max.name ∈ lw_gd) (hcat : catS st ≤ 8) (k : Zj w (d + 1) kc ks M (pc + 3) ls (aI (iMax x y) :: st) kd rf n g Q) : Zj w (d + 1) kc ks M pc ls (aI y :: aI x :: st) kd rf n g Q := by
  intro p e R s m args below meth c H locs cells slots mc ms Qc lsC C hR hS h1 h2 hl hq
  have hk := k p e R s m args below meth c H locs cells slots mc ms Qc lsC C hR hS h1 h2 hl hq
  have ht := C.2.2.2.2.2.2.2.1
  obtain ⟨-, -, -, -, hml, -, hown, -, hKx, -, -, -, r1, r2, r3, r4⟩ := id C
  refine va_mmax C.1 C.2.1 (hml.trans hl.1.symm) hown (ht _ hlk) (ht _ w_smax) (ht _ ii_J9) (ht _ w_cmax) (by omega) (by rw [catS_cv]; omega) (by omega) (by omega) hd ?_
  have e1 : (if Int32.ofInt x < Int32.ofInt y then Int32.ofInt y else Int32.ofInt x) = Int32.ofInt (iMax x y) := by
    unfold iMax
    by_cases h : nm x < nm y
    · rw [if_pos h, if_pos ((lt_nm x y).mpr h)]
    · rw [if_neg h, if_neg (fun q => h ((lt_nm x y).mp q))]
  rw [e1]
  exact hk
theorem Rin.grow (h : Rin a0 n U rfi rf) (hs : ∀ b j, b < n → U b j → U' b j) (hn : ∀ j, U' n j ∨ rf0 n j = none) : Rin a0 (n + 1) U' rfi (upf rf n (fun _ => none)) ∨ n < a0 := by
  rcases Nat.lt_or_ge n a0 with q | q
  · exact Or.inr q
  · refine Or.inl ⟨fun b hb => by rw [upf_ne _ _ (by omega)]; exact h.1 b hb, fun b j h1 h2 => ?_⟩
    by_cases e : b = n
    · subst e
      rw [upf_eq]
      rcases hn j with z | z
      · exact Or.inl z
      · exact Or.inr z.symm
    · rw [upf_ne _ _ e]
      exact (h.2 b j h1 (by omega)).imp_left (hs b j (by omega))
theorem n_new {idx ci N : Nat} {q : vw_C} (hd : decode M.2.1 pc = .ok (.new idx, 3)) (hcl : vwCl[ci]? = some q) (hlk : Cond.classLink M.2.2.2.2 idx q.1 ∈ lw_gd) (hins : Cond.instantiable q.1 q.2.2 ∈ lw_gd) (hini : Cond.initialized q.1 ∈ lw_gd) (hN : q.2.2 = N) (hkd : kd0 n = (ci, 0)) (hn : n < 250) (ha : a0 ≤ n) (hr : Rin a0 n U rfi rf)
    (kk : ∀ rf' g', Rin a0 (n + 1) (fun b j => U b j ∨ b = n) rfi rf' → (∀ j, rf' n j = none) → (∀ b, b ≠ n → g' b = g b) → (∀ j, g' n j = 0) → Zj w d kc ks M (pc + 3) ls (aR (some n) :: st) (kdn (n + 1)) rf' (n + 1) g' Q) : Zj w d (kc + 1) (ks + N) M pc ls st (kdn n) rf n g Q := by
  subst hN
  refine z_new hd hcl hlk hins hini (show n + 1 < 1000000 by omega) ?_
  rw [kdn_up hkd]
  refine kk _ _ ((hr.grow (U' := fun b j => U b j ∨ b = n) (fun b j _ h => Or.inl h) (fun j => Or.inl (Or.inr rfl))).resolve_right (by omega)) (fun j => by rw [upf_eq]) (fun b hb => upf_ne _ _ hb) (fun j => by rw [upf_eq])
theorem n_arr {ty : FieldType} {at_ : ArrayType} {t L : Nat} {z : Int} (hd : decode M.2.1 pc = .ok (.newarray at_, 2)) (hat : newarray.typeOf at_ = ty) (htt : (ty = .int ∧ t = 12) ∨ (ty = .boolean ∧ t = 13)) (hw : Cond.arrayClass ty ∈ lw_gd) (hz : nm z = (L : Int)) (hL : L < 1000) (hkd : kd0 n = (t, L)) (hn : n < 250) (ha : a0 ≤ n) (hrz : rfL.getD n [] = []) (hr : Rin a0 n U rfi rf)
    (kk : ∀ rf' g', Rin a0 (n + 1) U rfi rf' → (∀ b, b ≠ n → g' b = g b) → (∀ j, g' n j = 0) → Zj w d kc ks M (pc + 2) ls (aR (some n) :: st) (kdn (n + 1)) rf' (n + 1) g' Q) : Zj w d (kc + 1) (ks + L) M pc ls (aI z :: st) (kdn n) rf n g Q := by
  have e : (nm z).toNat = L := by omega
  have := z_newa (w := w) (d := d) (kc := kc) (ks := ks) (M := M) (pc := pc) (ls := ls) (st := st) (kd := kdn n) (rf := rf) (n := n) (g := g) (Q := Q) (z := z) hd hat htt hw (by omega) (by omega) (show n + 1 < 1000000 by omega)
  rw [e, kdn_up hkd] at this
  refine this (kk _ _ ((hr.grow (fun b j _ h => h) (fun j => Or.inr (rf0_big (by rw [hrz]; exact Nat.zero_le _)))).resolve_right (by omega)) (fun b hb => upf_ne _ _ hb) (fun j => by rw [upf_eq]))
theorem n_arq {idx t L : Nat} {z : Int} {CC : String} (hd : decode M.2.1 pc = .ok (.anewarray idx, 3)) (hlk : Cond.classLink M.2.2.2.2 idx CC ∈ lw_gd) (htt : (CC = "ThrownNames$Sheet" ∧ t = 14) ∨ (CC = "ThrownNames$Text" ∧ t = 15) ∨ (CC = "ThrownNames$Water" ∧ t = 16)) (hz : nm z = (L : Int)) (hL : L < 1000) (hkd : kd0 n = (t, L)) (hn : n < 250) (ha : a0 ≤ n) (hrz : (rfL.getD n []).length ≤ L) (hs : ∀ b j, b < n → U b j → U' b j) (hU : ∀ j, j < L → U' n j) (hr : Rin a0 n U rfi rf)
    (kk : ∀ rf' g', Rin a0 (n + 1) U' rfi rf' → (∀ b, b ≠ n → g' b = g b) → Zj w d kc ks M (pc + 3) ls (aR (some n) :: st) (kdn (n + 1)) rf' (n + 1) g' Q) : Zj w d (kc + 1) (ks + L) M pc ls (aI z :: st) (kdn n) rf n g Q := by
  have e : (nm z).toNat = L := by omega
  have := z_newq (w := w) (d := d) (kc := kc) (ks := ks) (M := M) (pc := pc) (ls := ls) (st := st) (kd := kdn n) (rf := rf) (n := n) (g := g) (Q := Q) (z := z) hd hlk htt (by omega) (by omega) (show n + 1 < 1000000 by omega)
  rw [e, kdn_up hkd] at this
  refine this (kk _ _ ((hr.grow hs (fun j => ?_)).resolve_right (by omega)) (fun b hb => upf_ne _ _ hb))
  rcases Nat.lt_or_ge j L with q | q
  · exact Or.inl (hU j q)
  · exact Or.inr (rf0_big (by omega))
theorem Rin.put {b k r : Nat} (h : Rin a0 n U rfi rf) (hb : a0 ≤ b) (h0 : rf0 b k = some r) (hU : ∀ c j, U c j → U' c j ∨ (c = b ∧ j = k)) : Rin a0 n U' rfi (up2 rf b k (some r)) := by
  refine ⟨fun c hc => by rw [up2_ne _ _ _ (by omega)]; exact h.1 c hc, fun c j h1 h2 => ?_⟩
  by_cases e : c = b
  · subst e
    rw [up2_eq]
    by_cases e2 : j = k
    · subst e2; rw [up1_eq]; exact Or.inr h0.symm
    · rw [up1_ne _ _ e2]
      rcases h.2 c j h1 h2 with z | z
      · rcases hU c j z with y | y
        · exact Or.inl y
        · exact absurd y.2 e2
      · exact Or.inr z
  · rw [up2_ne _ _ _ e]
    rcases h.2 c j h1 h2 with z | z
    · rcases hU c j z with y | y
      · exact Or.inl y
      · exact absurd y.1 e
    · exact Or.inr z
theorem n_put {idx ci k b r l : Nat} (hd : decode M.2.1 pc = .ok (.putfield idx, 3)) (hf : FFp M.2.2.2.2 idx ci k) (ht3 : fcd ci k = 3) (hin : M.1.name = "<init>") (hk : kd0 b = (ci, l)) (hb : b < n) (ha : a0 ≤ b) (h0 : rf0 b k = some r) (hU : ∀ c j, U c j → U' c j ∨ (c = b ∧ j = k)) (hr : Rin a0 n U rfi rf)
    (kk : ∀ rf', Rin a0 n U' rfi rf' → Zj w d kc ks M (pc + 3) ls st (kdn n) rf' n g Q) : Zj w d kc ks M pc ls (aR (some r) :: aR (some b) :: st) (kdn n) rf n g Q :=
  z_putF hd hf ht3 hin (by rw [kdn_lt hb, hk]) (kk _ (hr.put ha h0 hU))
theorem n_putI {idx ci k b l : Nat} {z : Int} (hd : decode M.2.1 pc = .ok (.putfield idx, 3)) (hf : FWp M.2.2.2.2 idx ci k) (ht : fcd ci k = 0) (hk : kd0 b = (ci, l)) (hb : b < n)
    (kk : ∀ g', (∀ c, c ≠ b → g' c = g c) → (∀ j, j ≠ k → g' b j = g b j) → g' b k = z → Zj w d kc ks M (pc + 3) ls st (kdn n) rf n g' Q) : Zj w d kc ks M pc ls (aI z :: aR (some b) :: st) (kdn n) rf n g Q :=
  z_putI hd hf ht (by rw [kdn_lt hb, hk]) (kk _ (fun c hc => up2_ne _ _ _ hc) (fun j hj => by rw [up2_eq, up1_ne _ _ hj]) (by rw [up2_eq, up1_eq]))
theorem n_putZ {idx ci k b l : Nat} {z : Int} (hd : decode M.2.1 pc = .ok (.putfield idx, 3)) (hf : FWp M.2.2.2.2 idx ci k) (ht : fcd ci k = 1) (hk : kd0 b = (ci, l)) (hb : b < n) (hz : z = 0 ∨ z = 1)
    (kk : ∀ g', (∀ c, c ≠ b → g' c = g c) → (∀ j, j ≠ k → g' b j = g b j) → g' b k = z → Zj w d kc ks M (pc + 3) ls st (kdn n) rf n g' Q) : Zj w d kc ks M pc ls (aI z :: aR (some b) :: st) (kdn n) rf n g Q :=
  z_putZ hd hf ht (by rw [kdn_lt hb, hk]) hz (kk _ (fun c hc => up2_ne _ _ _ hc) (fun j hj => by rw [up2_eq, up1_ne _ _ hj]) (by rw [up2_eq, up1_eq]))
theorem n_putL {idx ci k b l : Nat} {z : Int} (hd : decode M.2.1 pc = .ok (.putfield idx, 3)) (hf : FWp M.2.2.2.2 idx ci k) (ht : fcd ci k = 2) (hk : kd0 b = (ci, l)) (hb : b < n)
    (kk : ∀ g', (∀ c, c ≠ b → g' c = g c) → (∀ j, j ≠ k → g' b j = g b j) → g' b k = z → Zj w d kc ks M (pc + 3) ls st (kdn n) rf n g' Q) : Zj w d kc ks M pc ls (aL z :: aR (some b) :: st) (kdn n) rf n g Q :=
  z_putL hd hf ht (by rw [kdn_lt hb, hk]) (kk _ (fun c hc => up2_ne _ _ _ hc) (fun j hj => by rw [up2_eq, up1_ne _ _ hj]) (by rw [up2_eq, up1_eq]))
theorem n_getR {idx ci k b r l : Nat} (hd : decode M.2.1 pc = .ok (.getfield idx, 3)) (hf : FLp M.2.2.2.2 idx ci k) (ht : fcd ci k = 3) (hk : kd0 b = (ci, l)) (hb : b < n) (ha : a0 ≤ b) (h0 : rf0 b k = some r) (hU : ¬ U b k) (hr : Rin a0 n U rfi rf)
    (kk : Zj w d kc ks M (pc + 3) ls (aR (some r) :: st) (kdn n) rf n g Q) : Zj w d kc ks M pc ls (aR (some b) :: st) (kdn n) rf n g Q :=
  z_getR hd hf ht (by rw [kdn_lt hb, hk]) (by rw [(hr.2 b k ha hb).resolve_left hU, h0]; exact kk)
theorem n_aast {b v ci t L iN : Nat} {i : Int} {q : vw_C} (hd : decode M.2.1 pc = .ok (.aastore, 1)) (hk : kd0 b = (t, L)) (hb : b < n) (ha : a0 ≤ b) (hcl : vwCl[ci]? = some q) (htt : (q.1 = "ThrownNames$Sheet" ∧ t = 14) ∨ (q.1 = "ThrownNames$Text" ∧ t = 15) ∨ (q.1 = "ThrownNames$Water" ∧ t = 16)) (hv : kd0 v = (ci, 0)) (hvn : v < n) (hi : nm i = (iN : Int)) (hiL : iN < L) (h0 : rf0 b iN = some v) (hU : ∀ c j, U c j → U' c j ∨ (c = b ∧ j = iN)) (hr : Rin a0 n U rfi rf)
    (kk : ∀ rf', Rin a0 n U' rfi rf' → Zj w d kc ks M (pc + 1) ls st (kdn n) rf' n g Q) : Zj w d kc ks M pc ls (aR (some v) :: aI i :: aR (some b) :: st) (kdn n) rf n g Q := by
  have e : (nm i).toNat = iN := by omega
  refine z_aast hd (by rw [kdn_lt hb, hk]) hcl htt (by rw [kdn_lt hvn, hv]) (by omega) (by rw [kdn_lt hb, hk]; show nm i < (L : Int); omega) ?_
  rw [e]
  exact kk _ (hr.put ha h0 hU)
theorem Rin.call {c n' : Nat} {rf' : RF} (h : Rin a0 (c + 1) (fun b j => U b j ∨ b = c) rfi rf) (ha : a0 ≤ c) (f : ∀ b, b < c → rf' b = rf b) (hc : ∀ b j, c ≤ b → b < n' → rf' b j = rf0 b j) : Rin a0 n' U rfi rf' := by
  refine ⟨fun b hb => (f b (by omega)).trans (h.1 b hb), fun b j h1 h2 => ?_⟩
  rcases Nat.lt_or_ge b c with q | q
  · rw [f b q]
    rcases h.2 b j h1 (by omega) with z | z
    · rcases z with z | z
      · exact Or.inl z
      · omega
    · exact Or.inr z
  · exact Or.inr (hc b j q h2)
theorem n_call {idx na c n' : Nat} {as stk : List AV} {lo : List (Option AV)} {G : GI → Prop} (hd : decode M.2.1 pc = .ok (.invokespecial idx, 3)) (hlk : Cond.methodLink M.2.2.2.2 idx M'.1 ∈ lw_gd) (hm : MOK M' na) (hs : Cond.instanceMethod M'.1 ∈ lw_gd) (hin : M'.1.name = "<init>") (hret : M'.2.2.2.1 = none) (hna : as.length = na) (hlen : (entA (aR (some c) :: as)).length ≤ M'.2.2.1) (hst : stk = as.reverse ++ aR (some c) :: st) (hcat : catS st ≤ 8) (hlo : lo = ent (aR (some c) :: as) M'.2.2.1) (ha : a0 ≤ c) (hc : Ct w d kc' ks' M' c n' lo G) (hr : Rin a0 (c + 1) (fun b j => U b j ∨ b = c) rfi rf) (hz : ∀ j, rf c j = none) (hg : ∀ j, g c j = 0)
    (kk : ∀ rf' g', Rin a0 n' U rfi rf' → (∀ b, b < c → g' b = g b) → G g' → Zj w (d + 1) kc ks M (pc + 3) ls st (kdn n') rf' n' g' Q) : Zj w (d + 1) (kc + kc') (ks + ks') M pc ls stk (kdn (c + 1)) rf (c + 1) g Q := by
  refine z_callI (Q' := fun r kd' rf' n2 g' => r = none ∧ kd' = kdn n' ∧ n2 = n' ∧ Rin a0 n' U rfi rf' ∧ (∀ b, b < c → g' b = g b) ∧ G g') hd hlk hm hs hin hret hna hlen hst hcat ?_ (fun r kd' rf' n2 g' h => ?_)
  · rw [← hlo]
    exact hc rf g _ hz hg (fun rf' g' f1 f2 f3 f4 => ⟨rfl, rfl, rfl, hr.call ha f1 f2, f3, f4⟩)
  · obtain ⟨rfl, rfl, rfl, h1, h2, h3⟩ := h
    exact kk rf' g' h1 h2 h3
theorem n_callN {idx na c n' : Nat} {as stk : List AV} {lo : List (Option AV)} {G : GI → Prop} {host : String} (hd : decode M.2.1 pc = .ok (.invokespecial idx, 3)) (hlk : (M.2.2.2.2, idx, M'.1, host) ∈ nestW) (hm : MOK M' na) (hs : Cond.instanceMethod M'.1 ∈ lw_gd) (hin : M'.1.name = "<init>") (hret : M'.2.2.2.1 = none) (hna : as.length = na) (hlen : (entA (aR (some c) :: as)).length ≤ M'.2.2.1) (hst : stk = as.reverse ++ aR (some c) :: st) (hcat : catS st ≤ 8) (hlo : lo = ent (aR (some c) :: as) M'.2.2.1) (ha : a0 ≤ c) (hc : Ct w d kc' ks' M' c n' lo G) (hr : Rin a0 (c + 1) (fun b j => U b j ∨ b = c) rfi rf) (hz : ∀ j, rf c j = none) (hg : ∀ j, g c j = 0)
    (kk : ∀ rf' g', Rin a0 n' U rfi rf' → (∀ b, b < c → g' b = g b) → G g' → Zj w (d + 1) kc ks M (pc + 3) ls st (kdn n') rf' n' g' Q) : Zj w (d + 1) (kc + kc') (ks + ks') M pc ls stk (kdn (c + 1)) rf (c + 1) g Q := by
  refine z_callIN (Q' := fun r kd' rf' n2 g' => r = none ∧ kd' = kdn n' ∧ n2 = n' ∧ Rin a0 n' U rfi rf' ∧ (∀ b, b < c → g' b = g b) ∧ G g') hd hlk hm hs hin hret hna hlen hst hcat ?_ (fun r kd' rf' n2 g' h => ?_)
  · rw [← hlo]
    exact hc rf g _ hz hg (fun rf' g' f1 f2 f3 f4 => ⟨rfl, rfl, rfl, hr.call ha f1 f2, f3, f4⟩)
  · obtain ⟨rfl, rfl, rfl, h1, h2, h3⟩ := h
    exact kk rf' g' h1 h2 h3
end NB
theorem dX0_init_0 : decode cX0_init 0 = .ok (.aload_n 0, 1) := by decide +kernel
theorem dX0_init_1 : decode cX0_init 1 = .ok (.invokespecial 3, 3) := by decide +kernel
theorem dX0_init_4 : decode cX0_init 4 = .ok (.aload_n 0, 1) := by decide +kernel
theorem dX0_init_5 : decode cX0_init 5 = .ok (.bipush 8, 2) := by decide +kernel
theorem dX0_init_7 : decode cX0_init 7 = .ok (.newarray .int, 2) := by decide +kernel
theorem dX0_init_9 : decode cX0_init 9 = .ok (.putfield 9, 3) := by decide +kernel
theorem dX0_init_12 : decode cX0_init 12 = .ok (.aload_n 0, 1) := by decide +kernel
theorem dX0_init_13 : decode cX0_init 13 = .ok (.iconst (-1), 1) := by decide +kernel
theorem dX0_init_14 : decode cX0_init 14 = .ok (.putfield 15, 3) := by decide +kernel
theorem dX0_init_17 : decode cX0_init 17 = .ok (.return_, 1) := by decide +kernel
theorem n_X0 {w : GX} {d a : Nat} (hC : isC a) (ha : a < 240) (hz : rfL.getD (a + 1) [] = []) (hj : ∀ j, 1 ≤ j → rf0 a j = none) : Ct w (d + 1) 1 8 mX0_init a (a + 2) [some (aR (some a))] (fun _ => True) := by
  intro rf g Q hz0 hg0 k
  have hr : Rin a (a + 1) (fun b j => (b = a ∧ j = 0)) rf rf := Rin.start hz0 (fun j => (Nat.eq_zero_or_pos j).imp (fun h => ⟨rfl, h⟩) (hj j))
  have hf : ∀ b, b < a → g b = g b := fun _ _ => rfl
  refine z_aload_n dX0_init_0 rfl rfl ?_
  refine z_oinit dX0_init_1 lk_X0_3 w_oin w_oco (Nat.le_of_ble_eq_true rfl) ?_
  refine z_aload_n dX0_init_4 rfl rfl ?_
  refine z_bipush dX0_init_5 rfl ?_
  refine n_arr (ty := .int) (t := 12) (L := 8) (U := (fun b j => (b = a ∧ j = 0))) dX0_init_7 rfl (Or.inl ⟨rfl, rfl⟩) w_aI (by decide) (by decide) hC.2.2 (by omega) (by omega) hz hr (fun r1 g1 hr1 f1 z1 => ?_)
  have hf1 : ∀ b, b < a → g1 b = g b := fun b hb => (f1 b (by omega)).trans (hf b hb)
  refine n_put (l := 0) (U := (fun b j => (b = a ∧ j = 0))) (U' := (fun b j => j < 0 ∧ b < 0)) dX0_init_9 ff_X0_9 (by decide) rfl hC.1 (by omega) (by omega) hC.2.1 (by intro c j h; (try dsimp only at h ⊢); omega) hr1 (fun r2 hr2 => ?_)
  refine z_aload_n dX0_init_12 rfl rfl ?_
  refine z_iconst dX0_init_13 ?_
  refine n_putI (l := 0) dX0_init_14 fw_X0_15 (by decide) hC.1 (by omega) (fun g3 f3 o3 e3 => ?_)
  have hf3 : ∀ b, b < a → g3 b = g b := fun b hb => (f3 b (by omega)).trans (hf1 b hb)
  refine z_vret dX0_init_17 rfl ?_
  exact k _ _ hr2.1 (hr2.all (fun b j h => absurd h.1 (Nat.not_lt_zero _))) hf3 trivial
theorem dX6_init_0 : decode cX6_init 0 = .ok (.aload_n 0, 1) := by decide +kernel
theorem dX6_init_1 : decode cX6_init 1 = .ok (.invokespecial 3, 3) := by decide +kernel
theorem dX6_init_4 : decode cX6_init 4 = .ok (.aload_n 0, 1) := by decide +kernel
theorem dX6_init_5 : decode cX6_init 5 = .ok (.bipush 60, 2) := by decide +kernel
theorem dX6_init_7 : decode cX6_init 7 = .ok (.newarray .int, 2) := by decide +kernel
theorem dX6_init_9 : decode cX6_init 9 = .ok (.putfield 9, 3) := by decide +kernel
theorem dX6_init_12 : decode cX6_init 12 = .ok (.aload_n 0, 1) := by decide +kernel
theorem dX6_init_13 : decode cX6_init 13 = .ok (.iconst 0, 1) := by decide +kernel
theorem dX6_init_14 : decode cX6_init 14 = .ok (.putfield 15, 3) := by decide +kernel
theorem dX6_init_17 : decode cX6_init 17 = .ok (.aload_n 0, 1) := by decide +kernel
theorem dX6_init_18 : decode cX6_init 18 = .ok (.iconst (-1), 1) := by decide +kernel
theorem dX6_init_19 : decode cX6_init 19 = .ok (.putfield 19, 3) := by decide +kernel
theorem dX6_init_22 : decode cX6_init 22 = .ok (.return_, 1) := by decide +kernel
theorem n_X6 {w : GX} {d a : Nat} (hS : isS a) (ha : a < 240) (hz : rfL.getD (a + 1) [] = []) (hj : ∀ j, 1 ≤ j → rf0 a j = none) : Ct w (d + 1) 1 60 mX6_init a (a + 2) [some (aR (some a))] (fun g => g a 2 = -1) := by
  intro rf g Q hz0 hg0 k
  have hr : Rin a (a + 1) (fun b j => (b = a ∧ j = 0)) rf rf := Rin.start hz0 (fun j => (Nat.eq_zero_or_pos j).imp (fun h => ⟨rfl, h⟩) (hj j))
  have hf : ∀ b, b < a → g b = g b := fun _ _ => rfl
  refine z_aload_n dX6_init_0 rfl rfl ?_
  refine z_oinit dX6_init_1 lk_X6_3 w_oin w_oco (Nat.le_of_ble_eq_true rfl) ?_
  refine z_aload_n dX6_init_4 rfl rfl ?_
  refine z_bipush dX6_init_5 rfl ?_
  refine n_arr (ty := .int) (t := 12) (L := 60) (U := (fun b j => (b = a ∧ j = 0))) dX6_init_7 rfl (Or.inl ⟨rfl, rfl⟩) w_aI (by decide) (by decide) hS.2.2 (by omega) (by omega) hz hr (fun r1 g1 hr1 f1 z1 => ?_)
  have hf1 : ∀ b, b < a → g1 b = g b := fun b hb => (f1 b (by omega)).trans (hf b hb)
  refine n_put (l := 0) (U := (fun b j => (b = a ∧ j = 0))) (U' := (fun b j => j < 0 ∧ b < 0)) dX6_init_9 ff_X6_9 (by decide) rfl hS.1 (by omega) (by omega) hS.2.1 (by intro c j h; (try dsimp only at h ⊢); omega) hr1 (fun r2 hr2 => ?_)
  refine z_aload_n dX6_init_12 rfl rfl ?_
  refine z_iconst dX6_init_13 ?_
  refine n_putI (l := 0) dX6_init_14 fw_X6_15 (by decide) hS.1 (by omega) (fun g3 f3 o3 e3 => ?_)
  have hf3 : ∀ b, b < a → g3 b = g b := fun b hb => (f3 b (by omega)).trans (hf1 b hb)
  refine z_aload_n dX6_init_17 rfl rfl ?_
  refine z_iconst dX6_init_18 ?_
  refine n_putI (l := 0) dX6_init_19 fw_X6_19 (by decide) hS.1 (by omega) (fun g4 f4 o4 e4 => ?_)
  have hf4 : ∀ b, b < a → g4 b = g b := fun b hb => (f4 b (by omega)).trans (hf3 b hb)
  refine z_vret dX6_init_22 rfl ?_
  exact k _ _ hr2.1 (hr2.all (fun b j h => absurd h.1 (Nat.not_lt_zero _))) hf4 e4
theorem dX7_init_0 : decode cX7_init 0 = .ok (.aload_n 0, 1) := by decide +kernel
theorem dX7_init_1 : decode cX7_init 1 = .ok (.invokespecial 3, 3) := by decide +kernel
theorem dX7_init_4 : decode cX7_init 4 = .ok (.aload_n 0, 1) := by decide +kernel
theorem dX7_init_5 : decode cX7_init 5 = .ok (.iconst 0, 1) := by decide +kernel
theorem dX7_init_6 : decode cX7_init 6 = .ok (.putfield 9, 3) := by decide +kernel
theorem dX7_init_9 : decode cX7_init 9 = .ok (.aload_n 0, 1) := by decide +kernel
theorem dX7_init_10 : decode cX7_init 10 = .ok (.iload_n 1, 1) := by decide +kernel
theorem dX7_init_11 : decode cX7_init 11 = .ok (.iconst 0, 1) := by decide +kernel
theorem dX7_init_12 : decode cX7_init 12 = .ok (.invokestatic 15, 3) := by decide +kernel
theorem dX7_init_15 : decode cX7_init 15 = .ok (.newarray .int, 2) := by decide +kernel
theorem dX7_init_17 : decode cX7_init 17 = .ok (.putfield 21, 3) := by decide +kernel
theorem dX7_init_20 : decode cX7_init 20 = .ok (.return_, 1) := by decide +kernel
theorem mxL {L : Nat} (h : L < 100) : nm (iMax (L : Int) 0) = (L : Int) := by
  have e0 : nm 0 = 0 := by decide
  have eL : nm (L : Int) = L := nm_id (by omega) (by omega)
  unfold iMax
  rw [eL, e0, if_neg (by omega), eL]
theorem n_X7 {w : GX} {d a L : Nat} (hT : isT a) (hL : L < 100) (hk : kd0 (a + 1) = (12, L)) (ha : a < 240) (hz : rfL.getD (a + 1) [] = []) (hj : ∀ j, 1 ≤ j → rf0 a j = none) : Ct w (d + 1) 1 (0 + L) mX7_init a (a + 2) [some (aR (some a)), some (aI (L : Int))] (fun g => g a 1 = 0) := by
  have hm := mxL hL
  intro rf g Q hz0 hg0 k
  have hr : Rin a (a + 1) (fun b j => (b = a ∧ j = 0)) rf rf := Rin.start hz0 (fun j => (Nat.eq_zero_or_pos j).imp (fun h => ⟨rfl, h⟩) (hj j))
  have hf : ∀ b, b < a → g b = g b := fun _ _ => rfl
  refine z_aload_n dX7_init_0 rfl rfl ?_
  refine z_oinit dX7_init_1 lk_X7_3 w_oin w_oco (Nat.le_of_ble_eq_true rfl) ?_
  refine z_aload_n dX7_init_4 rfl rfl ?_
  refine z_iconst dX7_init_5 ?_
  refine n_putI (l := 0) dX7_init_6 fw_X7_9 (by decide) hT.1 (by omega) (fun g1 f1 o1 e1 => ?_)
  have hf1 : ∀ b, b < a → g1 b = g b := fun b hb => (f1 b (by omega)).trans (hf b hb)
  refine z_aload_n dX7_init_9 rfl rfl ?_
  refine z_iload_n dX7_init_10 rfl rfl ?_
  refine z_iconst dX7_init_11 ?_
  refine z_max dX7_init_12 lk_X7_15 (Nat.le_of_ble_eq_true rfl) ?_
  refine n_arr (ty := .int) (t := 12) (L := L) (U := (fun b j => (b = a ∧ j = 0))) dX7_init_15 rfl (Or.inl ⟨rfl, rfl⟩) w_aI (hm) (by omega) hk (by omega) (by omega) hz hr (fun r2 g2 hr2 f2 z2 => ?_)
  have hf2 : ∀ b, b < a → g2 b = g b := fun b hb => (f2 b (by omega)).trans (hf1 b hb)
  have q3 : g2 a 1 = 0 := (congrFun (f2 a (by omega)) 1).trans e1
  refine n_put (l := 0) (U := (fun b j => (b = a ∧ j = 0))) (U' := (fun b j => j < 0 ∧ b < 0)) dX7_init_17 ff_X7_21 (by decide) rfl hT.1 (by omega) (by omega) hT.2.1 (by intro c j h; (try dsimp only at h ⊢); omega) hr2 (fun r4 hr4 => ?_)
  refine z_vret dX7_init_20 rfl ?_
  exact k _ _ hr4.1 (hr4.all (fun b j h => absurd h.1 (Nat.not_lt_zero _))) hf2 q3
theorem dX4_init_0 : decode cX4_init 0 = .ok (.aload_n 0, 1) := by decide +kernel
theorem dX4_init_1 : decode cX4_init 1 = .ok (.invokespecial 3, 3) := by decide +kernel
theorem dX4_init_4 : decode cX4_init 4 = .ok (.aload_n 0, 1) := by decide +kernel
theorem dX4_init_5 : decode cX4_init 5 = .ok (.iconst 0, 1) := by decide +kernel
theorem dX4_init_6 : decode cX4_init 6 = .ok (.putfield 9, 3) := by decide +kernel
theorem dX4_init_9 : decode cX4_init 9 = .ok (.iload_n 1, 1) := by decide +kernel
theorem dX4_init_10 : decode cX4_init 10 = .ok (.iconst 0, 1) := by decide +kernel
theorem dX4_init_11 : decode cX4_init 11 = .ok (.invokestatic 15, 3) := by decide +kernel
theorem dX4_init_14 : decode cX4_init 14 = .ok (.istore_n 2, 1) := by decide +kernel
theorem dX4_init_15 : decode cX4_init 15 = .ok (.aload_n 0, 1) := by decide +kernel
theorem dX4_init_16 : decode cX4_init 16 = .ok (.iload_n 2, 1) := by decide +kernel
theorem dX4_init_17 : decode cX4_init 17 = .ok (.newarray .int, 2) := by decide +kernel
theorem dX4_init_19 : decode cX4_init 19 = .ok (.putfield 21, 3) := by decide +kernel
theorem dX4_init_22 : decode cX4_init 22 = .ok (.aload_n 0, 1) := by decide +kernel
theorem dX4_init_23 : decode cX4_init 23 = .ok (.iload_n 2, 1) := by decide +kernel
theorem dX4_init_24 : decode cX4_init 24 = .ok (.newarray .int, 2) := by decide +kernel
theorem dX4_init_26 : decode cX4_init 26 = .ok (.putfield 25, 3) := by decide +kernel
theorem dX4_init_29 : decode cX4_init 29 = .ok (.aload_n 0, 1) := by decide +kernel
theorem dX4_init_30 : decode cX4_init 30 = .ok (.iload_n 2, 1) := by decide +kernel
theorem dX4_init_31 : decode cX4_init 31 = .ok (.newarray .int, 2) := by decide +kernel
theorem dX4_init_33 : decode cX4_init 33 = .ok (.putfield 28, 3) := by decide +kernel
theorem dX4_init_36 : decode cX4_init 36 = .ok (.return_, 1) := by decide +kernel
theorem n_X4 {w : GX} {d a L : Nat} (hO : isLo a) (hL : L < 100) (hk1 : kd0 (a + 1) = (12, L)) (hk2 : kd0 (a + 2) = (12, L)) (hk3 : kd0 (a + 3) = (12, L)) (ha : a < 240) (hz : ∀ i, 0 < i → i < 4 → rfL.getD (a + i) [] = []) (hj : ∀ j, 3 ≤ j → rf0 a j = none) : Ct w (d + 1) 3 (0 + L + L + L) mX4_init a (a + 4) [some (aR (some a)), some (aI (L : Int)), none] (fun g => g a 3 = 0) := by
  have hm := mxL hL
  intro rf g Q hz0 hg0 k
  have hr : Rin a (a + 1) (fun b j => (b = a ∧ j = 0) ∨ (b = a ∧ j = 1) ∨ (b = a ∧ j = 2)) rf rf := Rin.start hz0 (fun j => by rcases Nat.lt_or_ge j 3 with h | h; exact Or.inl (by omega); exact Or.inr (hj j h))
  have hf : ∀ b, b < a → g b = g b := fun _ _ => rfl
  refine z_aload_n dX4_init_0 rfl rfl ?_
  refine z_oinit dX4_init_1 lk_X4_3 w_oin w_oco (Nat.le_of_ble_eq_true rfl) ?_
  refine z_aload_n dX4_init_4 rfl rfl ?_
  refine z_iconst dX4_init_5 ?_
  refine n_putI (l := 0) dX4_init_6 fw_X4_9 (by decide) hO.1 (by omega) (fun g1 f1 o1 e1 => ?_)
  have hf1 : ∀ b, b < a → g1 b = g b := fun b hb => (f1 b (by omega)).trans (hf b hb)
  refine z_iload_n dX4_init_9 rfl rfl ?_
  refine z_iconst dX4_init_10 ?_
  refine z_max dX4_init_11 lk_X4_15 (Nat.le_of_ble_eq_true rfl) ?_
  refine z_istore_n dX4_init_14 rfl (by decide) rfl ?_
  refine z_aload_n dX4_init_15 rfl rfl ?_
  refine z_iload_n dX4_init_16 rfl rfl ?_
  refine n_arr (ty := .int) (t := 12) (L := L) (U := (fun b j => (b = a ∧ j = 0) ∨ (b = a ∧ j = 1) ∨ (b = a ∧ j = 2))) dX4_init_17 rfl (Or.inl ⟨rfl, rfl⟩) w_aI (hm) (by omega) hk1 (by omega) (by omega) (hz 1 (by omega) (by omega)) hr (fun r2 g2 hr2 f2 z2 => ?_)
  have hf2 : ∀ b, b < a → g2 b = g b := fun b hb => (f2 b (by omega)).trans (hf1 b hb)
  have q3 : g2 a 3 = 0 := (congrFun (f2 a (by omega)) 3).trans e1
  refine n_put (l := 0) (U := (fun b j => (b = a ∧ j = 0) ∨ (b = a ∧ j = 1) ∨ (b = a ∧ j = 2))) (U' := (fun b j => (b = a ∧ j = 1) ∨ (b = a ∧ j = 2))) dX4_init_19 ff_X4_21 (by decide) rfl hO.1 (by omega) (by omega) hO.2.1 (by intro c j h; (try dsimp only at h ⊢); omega) hr2 (fun r4 hr4 => ?_)
  refine z_aload_n dX4_init_22 rfl rfl ?_
  refine z_iload_n dX4_init_23 rfl rfl ?_
  refine n_arr (ty := .int) (t := 12) (L := L) (U := (fun b j => (b = a ∧ j = 1) ∨ (b = a ∧ j = 2))) dX4_init_24 rfl (Or.inl ⟨rfl, rfl⟩) w_aI (hm) (by omega) hk2 (by omega) (by omega) (hz 2 (by omega) (by omega)) hr4 (fun r5 g5 hr5 f5 z5 => ?_)
  have hf5 : ∀ b, b < a → g5 b = g b := fun b hb => (f5 b (by omega)).trans (hf2 b hb)
  have q6 : g5 a 3 = 0 := (congrFun (f5 a (by omega)) 3).trans q3
  refine n_put (l := 0) (U := (fun b j => (b = a ∧ j = 1) ∨ (b = a ∧ j = 2))) (U' := (fun b j => (b = a ∧ j = 2))) dX4_init_26 ff_X4_25 (by decide) rfl hO.1 (by omega) (by omega) hO.2.2.1 (by intro c j h; (try dsimp only at h ⊢); omega) hr5 (fun r7 hr7 => ?_)
  refine z_aload_n dX4_init_29 rfl rfl ?_
  refine z_iload_n dX4_init_30 rfl rfl ?_
  refine n_arr (ty := .int) (t := 12) (L := L) (U := (fun b j => (b = a ∧ j = 2))) dX4_init_31 rfl (Or.inl ⟨rfl, rfl⟩) w_aI (hm) (by omega) hk3 (by omega) (by omega) (hz 3 (by omega) (by omega)) hr7 (fun r8 g8 hr8 f8 z8 => ?_)
  have hf8 : ∀ b, b < a → g8 b = g b := fun b hb => (f8 b (by omega)).trans (hf5 b hb)
  have q9 : g8 a 3 = 0 := (congrFun (f8 a (by omega)) 3).trans q6
  refine n_put (l := 0) (U := (fun b j => (b = a ∧ j = 2))) (U' := (fun b j => j < 0 ∧ b < 0)) dX4_init_33 ff_X4_28 (by decide) rfl hO.1 (by omega) (by omega) hO.2.2.2.1 (by intro c j h; (try dsimp only at h ⊢); omega) hr8 (fun r10 hr10 => ?_)
  refine z_vret dX4_init_36 rfl ?_
  exact k _ _ hr10.1 (hr10.all (fun b j h => absurd h.1 (Nat.not_lt_zero _))) hf8 q9
theorem dX8_init_0 : decode cX8_init 0 = .ok (.aload_n 0, 1) := by decide +kernel
theorem dX8_init_1 : decode cX8_init 1 = .ok (.invokespecial 3, 3) := by decide +kernel
theorem dX8_init_4 : decode cX8_init 4 = .ok (.aload_n 0, 1) := by decide +kernel
theorem dX8_init_5 : decode cX8_init 5 = .ok (.bipush 28, 2) := by decide +kernel
theorem dX8_init_7 : decode cX8_init 7 = .ok (.newarray .int, 2) := by decide +kernel
theorem dX8_init_9 : decode cX8_init 9 = .ok (.putfield 9, 3) := by decide +kernel
theorem dX8_init_12 : decode cX8_init 12 = .ok (.aload_n 0, 1) := by decide +kernel
theorem dX8_init_13 : decode cX8_init 13 = .ok (.bipush 28, 2) := by decide +kernel
theorem dX8_init_15 : decode cX8_init 15 = .ok (.newarray .int, 2) := by decide +kernel
theorem dX8_init_17 : decode cX8_init 17 = .ok (.putfield 15, 3) := by decide +kernel
theorem dX8_init_20 : decode cX8_init 20 = .ok (.aload_n 0, 1) := by decide +kernel
theorem dX8_init_21 : decode cX8_init 21 = .ok (.bipush 8, 2) := by decide +kernel
theorem dX8_init_23 : decode cX8_init 23 = .ok (.newarray .int, 2) := by decide +kernel
theorem dX8_init_25 : decode cX8_init 25 = .ok (.putfield 18, 3) := by decide +kernel
theorem dX8_init_28 : decode cX8_init 28 = .ok (.aload_n 0, 1) := by decide +kernel
theorem dX8_init_29 : decode cX8_init 29 = .ok (.bipush 20, 2) := by decide +kernel
theorem dX8_init_31 : decode cX8_init 31 = .ok (.newarray .int, 2) := by decide +kernel
theorem dX8_init_33 : decode cX8_init 33 = .ok (.putfield 21, 3) := by decide +kernel
theorem dX8_init_36 : decode cX8_init 36 = .ok (.aload_n 0, 1) := by decide +kernel
theorem dX8_init_37 : decode cX8_init 37 = .ok (.iconst 0, 1) := by decide +kernel
theorem dX8_init_38 : decode cX8_init 38 = .ok (.putfield 24, 3) := by decide +kernel
theorem dX8_init_41 : decode cX8_init 41 = .ok (.return_, 1) := by decide +kernel
theorem n_X8 {w : GX} {d a : Nat} (hW : isW a) (ha : a < 240) (hz : ∀ i, 0 < i → i < 5 → rfL.getD (a + i) [] = []) (hj : ∀ j, 4 ≤ j → rf0 a j = none) : Ct w (d + 1) 4 84 mX8_init a (a + 5) [some (aR (some a))] (fun _ => True) := by
  intro rf g Q hz0 hg0 k
  have hr : Rin a (a + 1) (fun b j => (b = a ∧ j = 0) ∨ (b = a ∧ j = 1) ∨ (b = a ∧ j = 2) ∨ (b = a ∧ j = 3)) rf rf := Rin.start hz0 (fun j => by rcases Nat.lt_or_ge j 4 with h | h; exact Or.inl (by omega); exact Or.inr (hj j h))
  have hf : ∀ b, b < a → g b = g b := fun _ _ => rfl
  refine z_aload_n dX8_init_0 rfl rfl ?_
  refine z_oinit dX8_init_1 lk_X8_3 w_oin w_oco (Nat.le_of_ble_eq_true rfl) ?_
  refine z_aload_n dX8_init_4 rfl rfl ?_
  refine z_bipush dX8_init_5 rfl ?_
  refine n_arr (ty := .int) (t := 12) (L := 28) (U := (fun b j => (b = a ∧ j = 0) ∨ (b = a ∧ j = 1) ∨ (b = a ∧ j = 2) ∨ (b = a ∧ j = 3))) dX8_init_7 rfl (Or.inl ⟨rfl, rfl⟩) w_aI (by decide) (by decide) hW.2.1 (by omega) (by omega) (hz 1 (by omega) (by omega)) hr (fun r1 g1 hr1 f1 z1 => ?_)
  have hf1 : ∀ b, b < a → g1 b = g b := fun b hb => (f1 b (by omega)).trans (hf b hb)
  refine n_put (l := 0) (U := (fun b j => (b = a ∧ j = 0) ∨ (b = a ∧ j = 1) ∨ (b = a ∧ j = 2) ∨ (b = a ∧ j = 3))) (U' := (fun b j => (b = a ∧ j = 1) ∨ (b = a ∧ j = 2) ∨ (b = a ∧ j = 3))) dX8_init_9 ff_X8_9 (by decide) rfl hW.1 (by omega) (by omega) hW.2.2.2.2.2.1 (by intro c j h; (try dsimp only at h ⊢); omega) hr1 (fun r2 hr2 => ?_)
  refine z_aload_n dX8_init_12 rfl rfl ?_
  refine z_bipush dX8_init_13 rfl ?_
  refine n_arr (ty := .int) (t := 12) (L := 28) (U := (fun b j => (b = a ∧ j = 1) ∨ (b = a ∧ j = 2) ∨ (b = a ∧ j = 3))) dX8_init_15 rfl (Or.inl ⟨rfl, rfl⟩) w_aI (by decide) (by decide) hW.2.2.1 (by omega) (by omega) (hz 2 (by omega) (by omega)) hr2 (fun r3 g3 hr3 f3 z3 => ?_)
  have hf3 : ∀ b, b < a → g3 b = g b := fun b hb => (f3 b (by omega)).trans (hf1 b hb)
  refine n_put (l := 0) (U := (fun b j => (b = a ∧ j = 1) ∨ (b = a ∧ j = 2) ∨ (b = a ∧ j = 3))) (U' := (fun b j => (b = a ∧ j = 2) ∨ (b = a ∧ j = 3))) dX8_init_17 ff_X8_15 (by decide) rfl hW.1 (by omega) (by omega) hW.2.2.2.2.2.2.1 (by intro c j h; (try dsimp only at h ⊢); omega) hr3 (fun r4 hr4 => ?_)
  refine z_aload_n dX8_init_20 rfl rfl ?_
  refine z_bipush dX8_init_21 rfl ?_
  refine n_arr (ty := .int) (t := 12) (L := 8) (U := (fun b j => (b = a ∧ j = 2) ∨ (b = a ∧ j = 3))) dX8_init_23 rfl (Or.inl ⟨rfl, rfl⟩) w_aI (by decide) (by decide) hW.2.2.2.1 (by omega) (by omega) (hz 3 (by omega) (by omega)) hr4 (fun r5 g5 hr5 f5 z5 => ?_)
  have hf5 : ∀ b, b < a → g5 b = g b := fun b hb => (f5 b (by omega)).trans (hf3 b hb)
  refine n_put (l := 0) (U := (fun b j => (b = a ∧ j = 2) ∨ (b = a ∧ j = 3))) (U' := (fun b j => (b = a ∧ j = 3))) dX8_init_25 ff_X8_18 (by decide) rfl hW.1 (by omega) (by omega) hW.2.2.2.2.2.2.2.1 (by intro c j h; (try dsimp only at h ⊢); omega) hr5 (fun r6 hr6 => ?_)
  refine z_aload_n dX8_init_28 rfl rfl ?_
  refine z_bipush dX8_init_29 rfl ?_
  refine n_arr (ty := .int) (t := 12) (L := 20) (U := (fun b j => (b = a ∧ j = 3))) dX8_init_31 rfl (Or.inl ⟨rfl, rfl⟩) w_aI (by decide) (by decide) hW.2.2.2.2.1 (by omega) (by omega) (hz 4 (by omega) (by omega)) hr6 (fun r7 g7 hr7 f7 z7 => ?_)
  have hf7 : ∀ b, b < a → g7 b = g b := fun b hb => (f7 b (by omega)).trans (hf5 b hb)
  refine n_put (l := 0) (U := (fun b j => (b = a ∧ j = 3))) (U' := (fun b j => j < 0 ∧ b < 0)) dX8_init_33 ff_X8_21 (by decide) rfl hW.1 (by omega) (by omega) hW.2.2.2.2.2.2.2.2.1 (by intro c j h; (try dsimp only at h ⊢); omega) hr7 (fun r8 hr8 => ?_)
  refine z_aload_n dX8_init_36 rfl rfl ?_
  refine z_iconst dX8_init_37 ?_
  refine n_putI (l := 0) dX8_init_38 fw_X8_24 (by decide) hW.1 (by omega) (fun g9 f9 o9 e9 => ?_)
  have hf9 : ∀ b, b < a → g9 b = g b := fun b hb => (f9 b (by omega)).trans (hf7 b hb)
  refine z_vret dX8_init_41 rfl ?_
  exact k _ _ hr8.1 (hr8.all (fun b j h => absurd h.1 (Nat.not_lt_zero _))) hf9 trivial
theorem dX9_init_0 : decode cX9_init 0 = .ok (.aload_n 0, 1) := by decide +kernel
theorem dX9_init_1 : decode cX9_init 1 = .ok (.invokespecial 3, 3) := by decide +kernel
theorem dX9_init_4 : decode cX9_init 4 = .ok (.aload_n 0, 1) := by decide +kernel
theorem dX9_init_5 : decode cX9_init 5 = .ok (.bipush 20, 2) := by decide +kernel
theorem dX9_init_7 : decode cX9_init 7 = .ok (.newarray .int, 2) := by decide +kernel
theorem dX9_init_9 : decode cX9_init 9 = .ok (.putfield 9, 3) := by decide +kernel
theorem dX9_init_12 : decode cX9_init 12 = .ok (.aload_n 0, 1) := by decide +kernel
theorem dX9_init_13 : decode cX9_init 13 = .ok (.bipush 20, 2) := by decide +kernel
theorem dX9_init_15 : decode cX9_init 15 = .ok (.newarray .boolean, 2) := by decide +kernel
theorem dX9_init_17 : decode cX9_init 17 = .ok (.putfield 15, 3) := by decide +kernel
theorem dX9_init_20 : decode cX9_init 20 = .ok (.aload_n 0, 1) := by decide +kernel
theorem dX9_init_21 : decode cX9_init 21 = .ok (.bipush 20, 2) := by decide +kernel
theorem dX9_init_23 : decode cX9_init 23 = .ok (.newarray .boolean, 2) := by decide +kernel
theorem dX9_init_25 : decode cX9_init 25 = .ok (.putfield 19, 3) := by decide +kernel
theorem dX9_init_28 : decode cX9_init 28 = .ok (.aload_n 0, 1) := by decide +kernel
theorem dX9_init_29 : decode cX9_init 29 = .ok (.bipush 20, 2) := by decide +kernel
theorem dX9_init_31 : decode cX9_init 31 = .ok (.newarray .int, 2) := by decide +kernel
theorem dX9_init_33 : decode cX9_init 33 = .ok (.putfield 22, 3) := by decide +kernel
theorem dX9_init_36 : decode cX9_init 36 = .ok (.aload_n 0, 1) := by decide +kernel
theorem dX9_init_37 : decode cX9_init 37 = .ok (.bipush 28, 2) := by decide +kernel
theorem dX9_init_39 : decode cX9_init 39 = .ok (.newarray .int, 2) := by decide +kernel
theorem dX9_init_41 : decode cX9_init 41 = .ok (.putfield 25, 3) := by decide +kernel
theorem dX9_init_44 : decode cX9_init 44 = .ok (.aload_n 0, 1) := by decide +kernel
theorem dX9_init_45 : decode cX9_init 45 = .ok (.bipush 28, 2) := by decide +kernel
theorem dX9_init_47 : decode cX9_init 47 = .ok (.newarray .int, 2) := by decide +kernel
theorem dX9_init_49 : decode cX9_init 49 = .ok (.putfield 28, 3) := by decide +kernel
theorem dX9_init_52 : decode cX9_init 52 = .ok (.aload_n 0, 1) := by decide +kernel
theorem dX9_init_53 : decode cX9_init 53 = .ok (.bipush 8, 2) := by decide +kernel
theorem dX9_init_55 : decode cX9_init 55 = .ok (.newarray .int, 2) := by decide +kernel
theorem dX9_init_57 : decode cX9_init 57 = .ok (.putfield 31, 3) := by decide +kernel
theorem dX9_init_60 : decode cX9_init 60 = .ok (.aload_n 0, 1) := by decide +kernel
theorem dX9_init_61 : decode cX9_init 61 = .ok (.bipush 8, 2) := by decide +kernel
theorem dX9_init_63 : decode cX9_init 63 = .ok (.newarray .int, 2) := by decide +kernel
theorem dX9_init_65 : decode cX9_init 65 = .ok (.putfield 34, 3) := by decide +kernel
theorem dX9_init_68 : decode cX9_init 68 = .ok (.aload_n 0, 1) := by decide +kernel
theorem dX9_init_69 : decode cX9_init 69 = .ok (.iconst 0, 1) := by decide +kernel
theorem dX9_init_70 : decode cX9_init 70 = .ok (.putfield 37, 3) := by decide +kernel
theorem dX9_init_73 : decode cX9_init 73 = .ok (.aload_n 0, 1) := by decide +kernel
theorem dX9_init_74 : decode cX9_init 74 = .ok (.iconst 0, 1) := by decide +kernel
theorem dX9_init_75 : decode cX9_init 75 = .ok (.putfield 41, 3) := by decide +kernel
theorem dX9_init_78 : decode cX9_init 78 = .ok (.aload_n 0, 1) := by decide +kernel
theorem dX9_init_79 : decode cX9_init 79 = .ok (.iconst 0, 1) := by decide +kernel
theorem dX9_init_80 : decode cX9_init 80 = .ok (.putfield 44, 3) := by decide +kernel
theorem dX9_init_83 : decode cX9_init 83 = .ok (.aload_n 0, 1) := by decide +kernel
theorem dX9_init_84 : decode cX9_init 84 = .ok (.bipush 8, 2) := by decide +kernel
theorem dX9_init_86 : decode cX9_init 86 = .ok (.putfield 47, 3) := by decide +kernel
theorem dX9_init_89 : decode cX9_init 89 = .ok (.return_, 1) := by decide +kernel
theorem rj_18 : ∀ j, 8 ≤ j → rf0 18 j = none := fun j h => by
  rcases Nat.lt_or_ge j 12 with q | q
  · exact (by decide +kernel : ∀ j, j < 12 → 8 ≤ j → rf0 18 j = none) j q h
  · exact rf0_big (Nat.le_trans (by decide +kernel) q)
theorem n_X9 {w : GX} {d : Nat} : Ct w (d + 1) 8 152 mX9_init 18 27 [some (aR (some 18))] (fun g => g 18 11 = 8) := by
  intro rf g Q hz0 hg0 k
  have hr : Rin 18 (18 + 1) (fun b j => (b = 18 ∧ j = 0) ∨ (b = 18 ∧ j = 1) ∨ (b = 18 ∧ j = 2) ∨ (b = 18 ∧ j = 3) ∨ (b = 18 ∧ j = 4) ∨ (b = 18 ∧ j = 5) ∨ (b = 18 ∧ j = 6) ∨ (b = 18 ∧ j = 7)) rf rf := Rin.start hz0 (fun j => by rcases Nat.lt_or_ge j 8 with h | h; exact Or.inl (by omega); exact Or.inr (rj_18 j h))
  have hf : ∀ b, b < 18 → g b = g b := fun _ _ => rfl
  refine z_aload_n dX9_init_0 rfl rfl ?_
  refine z_oinit dX9_init_1 lk_X9_3 w_oin w_oco (Nat.le_of_ble_eq_true rfl) ?_
  refine z_aload_n dX9_init_4 rfl rfl ?_
  refine z_bipush dX9_init_5 rfl ?_
  refine n_arr (ty := .int) (t := 12) (L := 20) (U := (fun b j => (b = 18 ∧ j = 0) ∨ (b = 18 ∧ j = 1) ∨ (b = 18 ∧ j = 2) ∨ (b = 18 ∧ j = 3) ∨ (b = 18 ∧ j = 4) ∨ (b = 18 ∧ j = 5) ∨ (b = 18 ∧ j = 6) ∨ (b = 18 ∧ j = 7))) dX9_init_7 rfl (Or.inl ⟨rfl, rfl⟩) w_aI (by decide) (by decide) (by decide +kernel) (by omega) (by omega) (by decide +kernel) hr (fun r1 g1 hr1 f1 z1 => ?_)
  have hf1 : ∀ b, b < 18 → g1 b = g b := fun b hb => (f1 b (by omega)).trans (hf b hb)
  refine n_put (l := 0) (U := (fun b j => (b = 18 ∧ j = 0) ∨ (b = 18 ∧ j = 1) ∨ (b = 18 ∧ j = 2) ∨ (b = 18 ∧ j = 3) ∨ (b = 18 ∧ j = 4) ∨ (b = 18 ∧ j = 5) ∨ (b = 18 ∧ j = 6) ∨ (b = 18 ∧ j = 7))) (U' := (fun b j => (b = 18 ∧ j = 1) ∨ (b = 18 ∧ j = 2) ∨ (b = 18 ∧ j = 3) ∨ (b = 18 ∧ j = 4) ∨ (b = 18 ∧ j = 5) ∨ (b = 18 ∧ j = 6) ∨ (b = 18 ∧ j = 7))) dX9_init_9 ff_X9_9 (by decide) rfl (by decide +kernel) (by omega) (by omega) (by decide +kernel) (by intro c j h; (try dsimp only at h ⊢); omega) hr1 (fun r2 hr2 => ?_)
  refine z_aload_n dX9_init_12 rfl rfl ?_
  refine z_bipush dX9_init_13 rfl ?_
  refine n_arr (ty := .boolean) (t := 13) (L := 20) (U := (fun b j => (b = 18 ∧ j = 1) ∨ (b = 18 ∧ j = 2) ∨ (b = 18 ∧ j = 3) ∨ (b = 18 ∧ j = 4) ∨ (b = 18 ∧ j = 5) ∨ (b = 18 ∧ j = 6) ∨ (b = 18 ∧ j = 7))) dX9_init_15 rfl (Or.inr ⟨rfl, rfl⟩) w_aZ (by decide) (by decide) (by decide +kernel) (by omega) (by omega) (by decide +kernel) hr2 (fun r3 g3 hr3 f3 z3 => ?_)
  have hf3 : ∀ b, b < 18 → g3 b = g b := fun b hb => (f3 b (by omega)).trans (hf1 b hb)
  refine n_put (l := 0) (U := (fun b j => (b = 18 ∧ j = 1) ∨ (b = 18 ∧ j = 2) ∨ (b = 18 ∧ j = 3) ∨ (b = 18 ∧ j = 4) ∨ (b = 18 ∧ j = 5) ∨ (b = 18 ∧ j = 6) ∨ (b = 18 ∧ j = 7))) (U' := (fun b j => (b = 18 ∧ j = 2) ∨ (b = 18 ∧ j = 3) ∨ (b = 18 ∧ j = 4) ∨ (b = 18 ∧ j = 5) ∨ (b = 18 ∧ j = 6) ∨ (b = 18 ∧ j = 7))) dX9_init_17 ff_X9_15 (by decide) rfl (by decide +kernel) (by omega) (by omega) (by decide +kernel) (by intro c j h; (try dsimp only at h ⊢); omega) hr3 (fun r4 hr4 => ?_)
  refine z_aload_n dX9_init_20 rfl rfl ?_
  refine z_bipush dX9_init_21 rfl ?_
  refine n_arr (ty := .boolean) (t := 13) (L := 20) (U := (fun b j => (b = 18 ∧ j = 2) ∨ (b = 18 ∧ j = 3) ∨ (b = 18 ∧ j = 4) ∨ (b = 18 ∧ j = 5) ∨ (b = 18 ∧ j = 6) ∨ (b = 18 ∧ j = 7))) dX9_init_23 rfl (Or.inr ⟨rfl, rfl⟩) w_aZ (by decide) (by decide) (by decide +kernel) (by omega) (by omega) (by decide +kernel) hr4 (fun r5 g5 hr5 f5 z5 => ?_)
  have hf5 : ∀ b, b < 18 → g5 b = g b := fun b hb => (f5 b (by omega)).trans (hf3 b hb)
  refine n_put (l := 0) (U := (fun b j => (b = 18 ∧ j = 2) ∨ (b = 18 ∧ j = 3) ∨ (b = 18 ∧ j = 4) ∨ (b = 18 ∧ j = 5) ∨ (b = 18 ∧ j = 6) ∨ (b = 18 ∧ j = 7))) (U' := (fun b j => (b = 18 ∧ j = 3) ∨ (b = 18 ∧ j = 4) ∨ (b = 18 ∧ j = 5) ∨ (b = 18 ∧ j = 6) ∨ (b = 18 ∧ j = 7))) dX9_init_25 ff_X9_19 (by decide) rfl (by decide +kernel) (by omega) (by omega) (by decide +kernel) (by intro c j h; (try dsimp only at h ⊢); omega) hr5 (fun r6 hr6 => ?_)
  refine z_aload_n dX9_init_28 rfl rfl ?_
  refine z_bipush dX9_init_29 rfl ?_
  refine n_arr (ty := .int) (t := 12) (L := 20) (U := (fun b j => (b = 18 ∧ j = 3) ∨ (b = 18 ∧ j = 4) ∨ (b = 18 ∧ j = 5) ∨ (b = 18 ∧ j = 6) ∨ (b = 18 ∧ j = 7))) dX9_init_31 rfl (Or.inl ⟨rfl, rfl⟩) w_aI (by decide) (by decide) (by decide +kernel) (by omega) (by omega) (by decide +kernel) hr6 (fun r7 g7 hr7 f7 z7 => ?_)
  have hf7 : ∀ b, b < 18 → g7 b = g b := fun b hb => (f7 b (by omega)).trans (hf5 b hb)
  refine n_put (l := 0) (U := (fun b j => (b = 18 ∧ j = 3) ∨ (b = 18 ∧ j = 4) ∨ (b = 18 ∧ j = 5) ∨ (b = 18 ∧ j = 6) ∨ (b = 18 ∧ j = 7))) (U' := (fun b j => (b = 18 ∧ j = 4) ∨ (b = 18 ∧ j = 5) ∨ (b = 18 ∧ j = 6) ∨ (b = 18 ∧ j = 7))) dX9_init_33 ff_X9_22 (by decide) rfl (by decide +kernel) (by omega) (by omega) (by decide +kernel) (by intro c j h; (try dsimp only at h ⊢); omega) hr7 (fun r8 hr8 => ?_)
  refine z_aload_n dX9_init_36 rfl rfl ?_
  refine z_bipush dX9_init_37 rfl ?_
  refine n_arr (ty := .int) (t := 12) (L := 28) (U := (fun b j => (b = 18 ∧ j = 4) ∨ (b = 18 ∧ j = 5) ∨ (b = 18 ∧ j = 6) ∨ (b = 18 ∧ j = 7))) dX9_init_39 rfl (Or.inl ⟨rfl, rfl⟩) w_aI (by decide) (by decide) (by decide +kernel) (by omega) (by omega) (by decide +kernel) hr8 (fun r9 g9 hr9 f9 z9 => ?_)
  have hf9 : ∀ b, b < 18 → g9 b = g b := fun b hb => (f9 b (by omega)).trans (hf7 b hb)
  refine n_put (l := 0) (U := (fun b j => (b = 18 ∧ j = 4) ∨ (b = 18 ∧ j = 5) ∨ (b = 18 ∧ j = 6) ∨ (b = 18 ∧ j = 7))) (U' := (fun b j => (b = 18 ∧ j = 5) ∨ (b = 18 ∧ j = 6) ∨ (b = 18 ∧ j = 7))) dX9_init_41 ff_X9_25 (by decide) rfl (by decide +kernel) (by omega) (by omega) (by decide +kernel) (by intro c j h; (try dsimp only at h ⊢); omega) hr9 (fun r10 hr10 => ?_)
  refine z_aload_n dX9_init_44 rfl rfl ?_
  refine z_bipush dX9_init_45 rfl ?_
  refine n_arr (ty := .int) (t := 12) (L := 28) (U := (fun b j => (b = 18 ∧ j = 5) ∨ (b = 18 ∧ j = 6) ∨ (b = 18 ∧ j = 7))) dX9_init_47 rfl (Or.inl ⟨rfl, rfl⟩) w_aI (by decide) (by decide) (by decide +kernel) (by omega) (by omega) (by decide +kernel) hr10 (fun r11 g11 hr11 f11 z11 => ?_)
  have hf11 : ∀ b, b < 18 → g11 b = g b := fun b hb => (f11 b (by omega)).trans (hf9 b hb)
  refine n_put (l := 0) (U := (fun b j => (b = 18 ∧ j = 5) ∨ (b = 18 ∧ j = 6) ∨ (b = 18 ∧ j = 7))) (U' := (fun b j => (b = 18 ∧ j = 6) ∨ (b = 18 ∧ j = 7))) dX9_init_49 ff_X9_28 (by decide) rfl (by decide +kernel) (by omega) (by omega) (by decide +kernel) (by intro c j h; (try dsimp only at h ⊢); omega) hr11 (fun r12 hr12 => ?_)
  refine z_aload_n dX9_init_52 rfl rfl ?_
  refine z_bipush dX9_init_53 rfl ?_
  refine n_arr (ty := .int) (t := 12) (L := 8) (U := (fun b j => (b = 18 ∧ j = 6) ∨ (b = 18 ∧ j = 7))) dX9_init_55 rfl (Or.inl ⟨rfl, rfl⟩) w_aI (by decide) (by decide) (by decide +kernel) (by omega) (by omega) (by decide +kernel) hr12 (fun r13 g13 hr13 f13 z13 => ?_)
  have hf13 : ∀ b, b < 18 → g13 b = g b := fun b hb => (f13 b (by omega)).trans (hf11 b hb)
  refine n_put (l := 0) (U := (fun b j => (b = 18 ∧ j = 6) ∨ (b = 18 ∧ j = 7))) (U' := (fun b j => (b = 18 ∧ j = 7))) dX9_init_57 ff_X9_31 (by decide) rfl (by decide +kernel) (by omega) (by omega) (by decide +kernel) (by intro c j h; (try dsimp only at h ⊢); omega) hr13 (fun r14 hr14 => ?_)
  refine z_aload_n dX9_init_60 rfl rfl ?_
  refine z_bipush dX9_init_61 rfl ?_
  refine n_arr (ty := .int) (t := 12) (L := 8) (U := (fun b j => (b = 18 ∧ j = 7))) dX9_init_63 rfl (Or.inl ⟨rfl, rfl⟩) w_aI (by decide) (by decide) (by decide +kernel) (by omega) (by omega) (by decide +kernel) hr14 (fun r15 g15 hr15 f15 z15 => ?_)
  have hf15 : ∀ b, b < 18 → g15 b = g b := fun b hb => (f15 b (by omega)).trans (hf13 b hb)
  refine n_put (l := 0) (U := (fun b j => (b = 18 ∧ j = 7))) (U' := (fun b j => j < 0 ∧ b < 0)) dX9_init_65 ff_X9_34 (by decide) rfl (by decide +kernel) (by omega) (by omega) (by decide +kernel) (by intro c j h; (try dsimp only at h ⊢); omega) hr15 (fun r16 hr16 => ?_)
  refine z_aload_n dX9_init_68 rfl rfl ?_
  refine z_iconst dX9_init_69 ?_
  refine n_putI (l := 0) dX9_init_70 fw_X9_37 (by decide) (by decide +kernel) (by omega) (fun g17 f17 o17 e17 => ?_)
  have hf17 : ∀ b, b < 18 → g17 b = g b := fun b hb => (f17 b (by omega)).trans (hf15 b hb)
  refine z_aload_n dX9_init_73 rfl rfl ?_
  refine z_iconst dX9_init_74 ?_
  refine n_putI (l := 0) dX9_init_75 fw_X9_41 (by decide) (by decide +kernel) (by omega) (fun g18 f18 o18 e18 => ?_)
  have hf18 : ∀ b, b < 18 → g18 b = g b := fun b hb => (f18 b (by omega)).trans (hf17 b hb)
  refine z_aload_n dX9_init_78 rfl rfl ?_
  refine z_iconst dX9_init_79 ?_
  refine n_putI (l := 0) dX9_init_80 fw_X9_44 (by decide) (by decide +kernel) (by omega) (fun g19 f19 o19 e19 => ?_)
  have hf19 : ∀ b, b < 18 → g19 b = g b := fun b hb => (f19 b (by omega)).trans (hf18 b hb)
  refine z_aload_n dX9_init_83 rfl rfl ?_
  refine z_bipush dX9_init_84 rfl ?_
  refine n_putI (l := 0) dX9_init_86 fw_X9_47 (by decide) (by decide +kernel) (by omega) (fun g20 f20 o20 e20 => ?_)
  have hf20 : ∀ b, b < 18 → g20 b = g b := fun b hb => (f20 b (by omega)).trans (hf19 b hb)
  refine z_vret dX9_init_89 rfl ?_
  exact k _ _ hr16.1 (hr16.all (fun b j h => absurd h.1 (Nat.not_lt_zero _))) hf20 e20
