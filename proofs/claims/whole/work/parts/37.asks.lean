/-! what is asked: cells, people, who is called what -/
theorem letF_rng {S : Sx} (hG : Gd S) {x : Nat} (hx : x < nN S.1) : 0 ≤ letF S.1 x ∧ letF S.1 x < 26 := by
  unfold letF
  have hx : x < nR S.1.1 + nP S.1.2 := hx
  split
  · rename_i q
    obtain ⟨h1, h2⟩ := cofF_spec q
    unfold isNm at h2
    have h2 := of_decide_eq_true h2
    have hc := nC_le S.1.1
    have hb := hG.2.1 (cofF S.1.1 x) (by omega)
    have en : nm (by_ S.1.1 (cofF S.1.1 x)) = by_ S.1.1 (cofF S.1.1 x) := nm_id (by omega) (by omega)
    unfold kob at h2
    rw [en] at h2
    (repeat' split at h2) <;> omega
  · have := (pp_fit hG.2.2.2.1 (p := x - nR S.1.1) (by omega)).1
    omega
theorem vow_rng {l : Int} (h : 0 ≤ l) : 0 ≤ vow l ∧ vow l < 26 := by unfold vow; (repeat' split) <;> omega
theorem letM_rng {S : Sx} (hG : Gd S) (wear : Int) (m : Mu) {x : Nat} (hx : x < nN S.1) : 0 ≤ letM S.1 wear m x ∧ letM S.1 wear m x < 26 := by
  have h := letF_rng hG hx
  unfold letM lwh
  split
  · exact h
  · rw [nm_id (z := letF S.1 x) (by omega) (by omega)]; exact vow_rng h.1
theorem nm_letM {S : Sx} (hG : Gd S) (wear : Int) (m : Mu) {x : Nat} (hx : x < nN S.1) : nm (letM S.1 wear m x) = letM S.1 wear m x := by
  have := letM_rng hG wear m hx
  exact nm_id (by omega) (by omega)
theorem nm_calM {S : Sx} (hG : Gd S) (wear : Int) {m : Mu} (hf : Wf S.1 m) {p : Nat} (hp : p < nP S.1.2) : nm (calM S.1 wear m p) = calM S.1 wear m p := nm_letM hG wear m (hf.2.2.2.2.1 p hp).1
theorem calM_rng {S : Sx} (hG : Gd S) (wear : Int) {m : Mu} (hf : Wf S.1 m) {p : Nat} (hp : p < nP S.1.2) : 0 ≤ calM S.1 wear m p ∧ calM S.1 wear m p < 26 := letM_rng hG wear m (hf.2.2.2.2.1 p hp).1
theorem Gd.wf {S : Sx} (h : Gd S) (d : Nat) : Wf S.1 (ahS S d) := Wf.ahead h.BO h.h0 d
theorem IC.keep {g g' : GI} {T : TT} (h : IC g T) (f : FrC g g') (hs : St g' T.1) : IC g' T := by
  obtain ⟨⟨a1, a2, a3, a4, a5, a6⟩, -, c1, c2, c3⟩ := h
  have f1 := f.1
  exact ⟨⟨a1.same (f1 _ (by omega)) (f1 _ (by omega)), a2.same (f1 _ (by omega)) (f1 _ (by omega)), a3.same (f1 _ (by omega)) (f1 _ (by omega)) (f1 _ (by omega)), a4.same (f1 _ (by omega)) (f1 _ (by omega)) (f1 _ (by omega)), a5.same (f1 _ (by omega)) (f1 _ (by omega)), a6.same (fun b _ _ => f1 b (by omega))⟩, hs, by rw [f.2.2]; exact c1, by rw [f.2.1 11 (by omega)]; exact c2, c3.same (fun b _ _ => f1 b (by omega))⟩
theorem FrC.L {g g' : GI} (f : FrC g g') : FrL g g' := fun b hb => f.1 b (by omega)
/-- settled, with all that was told -/
def IS (g : GI) (T : TT) : Prop := IC g T ∧ g 0 12 = 0 ∧ Ca g T.1
/-- what lies between the days and the sheets may change -/
def FrQ (g g' : GI) : Prop := ∀ b, b < 136 ∨ 214 < b → g' b = g b
theorem FrQ.rfl {g : GI} : FrQ g g := fun _ _ => Eq.refl _
theorem FrQ.trans {g g' g'' : GI} (h : FrQ g g') (h' : FrQ g' g'') : FrQ g g'' := fun b hb => (h' b hb).trans (h b hb)
theorem FrQ.L {g g' : GI} (f : FrQ g g') : FrL g g' := fun b hb => f b (by omega)
theorem IS.keep {g g' : GI} {T : TT} (h : IS g T) (f : FrQ g g') : IS g' T := by
  have hc : Ca g' T.1 := h.2.2.same (fun b _ _ => f b (by omega)) (fun j _ => by rw [f 18 (by omega)])
  have h0 : g' 0 12 = 0 := by rw [f 0 (by omega)]; exact h.2.1
  exact ⟨h.1.keep ⟨fun b hb => f b (by omega), fun j _ => by rw [f 0 (by omega)], by rw [f 18 (by omega)]⟩ (Or.inr ⟨h0, hc⟩), h0, hc⟩
/-- the model's texts read, with all that was told -/
def RM (g : GI) (T : TT) : Prop := IM g T ∧ EM g T.1.1 T.2.1 T.1.2.1 (toldS T.1.1.2) T.1.2.2.1 T.1.2.2.2.1 (floodB T.1.2.2.2.1)
theorem GT.EBM {T : TT} (h : GT T) : EBM T.1.1 T.2.1 T.1.2.1 (toldS T.1.1.2) T.1.2.2.1 := by
  have hc := h.1.2.2.2.2.1
  have ha := h.1.2.2.2.2.2.1
  exact ⟨h.1.BO, ⟨by have := hc.1; omega, hc.2⟩, ⟨by have := ha.1; omega, ha.2⟩, h.1.SB, h.2.1.1, h.2.1.2⟩
theorem IM.keep {g g' : GI} {T : TT} (h : IM g T) (f : ∀ b, 228 < b → b < 235 → b ≠ 232 → g' b = g b) (f8 : ∀ j, j = 4 ∨ j = 13 ∨ j = 14 ∨ j = 16 ∨ j = 18 ∨ j = 27 ∨ j = 28 ∨ j = 30 ∨ j = 31 → g' 228 j = g 228 j) (f238 : ∀ j, j < 2 * T.1.2.1.length → g' 238 j = g 238 j) (f239 : ∀ j, j < 2 * T.1.2.2.1.length → g' 239 j = g 239 j) (f240 : g' 240 = g 240) (f248 : g' 248 = g 248) : IM g' T := by
  obtain ⟨a1, a2, a3, a4, a5, a6⟩ := h
  exact ⟨a1.same (f _ (by omega) (by omega) (by omega)) (f _ (by omega) (by omega) (by omega)), ⟨by rw [f8 14 (by omega)]; exact a2.1, fun k hk => by rw [f238 _ (by omega), f238 _ (by omega)]; exact a2.2.1 k hk, by rw [f8 16 (by omega)]; exact a2.2.2.1, fun k hk => by rw [f239 _ (by omega), f239 _ (by omega)]; exact a2.2.2.2 k hk⟩, a3.same (f8 _ (by omega)) f240, a4.same (f8 _ (by omega)) f248, by rw [f8 13 (by omega), f8 4 (by omega), f8 27 (by omega), f8 28 (by omega), f8 30 (by omega)]; exact a5, a6.same (f _ (by omega) (by omega) (by omega)) (f _ (by omega) (by omega) (by omega)) (f _ (by omega) (by omega) (by omega))⟩
theorem IM.keep2 {g g' : GI} {T : TT} (h : IM g T) (f : ∀ b, b < 241 ∨ b = 248 → g' b = g b) : IM g' T :=
  h.keep (fun b _ _ _ => f b (by omega)) (fun j _ => by rw [f 228 (by omega)]) (fun j _ => by rw [f 238 (by omega)]) (fun j _ => by rw [f 239 (by omega)]) (f 240 (by omega)) (f 248 (by omega))
theorem RM.keep2 {g g' : GI} {T : TT} (h : RM g T) (f : ∀ b, b < 241 ∨ b = 248 → g' b = g b) : RM g' T := ⟨h.1.keep2 f, h.2.same (fun b hb => f b (by omega))⟩
section QA
variable {w : GX} {d : Nat} {P : PN} {g : GI} {T : TT}
theorem k_settle (hT : GT T) (h : IC g T) (k : ∀ g', IS g' T → FrL g g' → P none g') : Zm w (d + 4) mX10_settle 0 [some (aR (some 0))] [] g P :=
  c_settle hT.1 h.1 h.2.1 (fun g' h0 hc f => k g' ⟨h.keep f (Or.inr ⟨h0, hc⟩), h0, hc⟩ f.L)
theorem j_reads (hT : GT T) (h : IM g T) (k : ∀ g', RM g' T → FrH g g' → P none g') : Zm w (d + 4) mX11_reads 0 [some (aR (some 228))] [] g P := by
  refine c_reads h.1 hT.1.1 hT.1.2.1 hT.1.2.2.1 hT.1.2.2.2.1 (fun g' w1 w2 f f8 => k g' ?_ (fun b hb => f b (by omega) (by omega) (by omega) (by omega)))
  have hm : IM g' T := h.keep (fun b _ _ _ => f b (by omega) (by omega) (by omega) (by omega)) (fun j hj => f8 j (by omega) (by omega) (by omega)) (fun j _ => by rw [f 238 (by omega) (by omega) (by omega) (by omega)]) (fun j _ => by rw [f 239 (by omega) (by omega) (by omega) (by omega)]) (f 240 (by omega) (by omega) (by omega) (by omega)) (f 248 (by omega) (by omega) (by omega) (by omega))
  obtain ⟨a1, a2, a3, a4, a5, a6⟩ := id hm
  refine ⟨hm, ⟨w1, w2⟩, a2, ⟨hT.1.2.2.2.2.2.2.1, a3, Or.inl ⟨a5.2.2.2.2, rfl⟩⟩, ⟨a5.2.2.1, by rw [a5.2.2.2.1]; omega, fun p hp => ?_⟩, a5.1⟩
  rw [a5.2.2.2.1, if_neg (by omega), (w2.2 p hp).2.2.2]
  have := luk_rng hT.1.2.2.2.1 hp
  show _ = (((lukF T.1.1.2 p).toNat : Nat) : Int)
  omega
theorem j_lives {n : Nat} {z : Int} (hT : GT T) (h : RM g T) (hz : z = (n : Int) - 1) (hn : n ≤ 20) (k : ∀ g', RM g' T → MW g' T.1.1 T.2.1 (ahS T.1 n) → (∀ j, j < T.1.2.1.length → g' 247 j = bI (chgN T.1.1 T.1.2.1 (toldS T.1.1.2) T.1.2.2.1 (floodB T.1.2.2.2.1) n j)) → FrH g g' → P none g') : Zm w (d + 3) mX11_lives 0 [some (aR (some 228)), some (aI z), none] [] g P :=
  c_lives hz hn hT.EBM h.2 (fun g' m1 c1 f => k g' (h.keep2 (fun b _ => f b (by omega))) m1 c1 (fun b hb => f b (by omega)))
/-! faults -/
def Vfault (T : TT) (t z : Int) : Prop := (¬ (0 ≤ t ∧ t < 2) ∧ z = -2) ∨ (t = 0 ∧ FP (fun i => kob (by_ T.1.1.1 i) = -1) T.1.1.1.length z) ∨ (t = 1 ∧ FPp (fun i => fitP ((i % 6 : Nat) : Int) (by_ T.1.1.2 i) = 0) T.1.1.2.length z)
theorem Vfault.one {T : TT} {t z z' : Int} (h : Vfault T t z) (h' : Vfault T t z') : z = z' := by
  rcases h with ⟨q, e⟩ | ⟨q, e⟩ | ⟨q, e⟩ <;> rcases h' with ⟨q', e'⟩ | ⟨q', e'⟩ | ⟨q', e'⟩
  · rw [e, e']
  · omega
  · omega
  · omega
  · exact e.one e'
  · omega
  · omega
  · omega
  · exact e.one e'
theorem k_fault {x1 : Int} (hT : GT T) (h : IC g T) (e1 : nm x1 = x1) (k : ∀ z, Vfault T x1 z → P (some (aI z)) g) : Zm w (d + 3) mX10_fault 0 [some (aR (some 0)), some (aI x1)] [] g P := by
  have n2 : nm 2 = 2 := by decide
  obtain ⟨⟨a1, a2, -⟩, -⟩ := h
  refine s_X10_fault_0 _ ?_
  rw [wi_x e1 n2, e1]
  refine ⟨fun q => ⟨fun q0 => ?_, fun q0 => ?_⟩, fun q => k _ (Or.inl ⟨q, rfl⟩)⟩
  · have q := nn q
    refine c_ppF isT_218 a2.1 (by rw [show (kd0 (218 + 1)).2 = 47 by decide +kernel]; exact hT.1.2.2.1) (by have := hT.1.2.2.1; omega) (fun z hz => ⟨z, rfl, k z (Or.inr (Or.inr ⟨by omega, ?_⟩))⟩)
    rcases hz with ⟨r, hr, e, hb, hn⟩ | ⟨hn, e⟩
    · refine Or.inl ⟨r, hr, e, ?_, fun j hj => ?_⟩
      · rw [a2.2 r hr] at hb; exact hb
      · have := hn j hj; dsimp only at this; rw [a2.2 j (by omega)] at this; exact this
    · exact Or.inr ⟨fun j hj => by have := hn j hj; dsimp only at this; rw [a2.2 j hj] at this; exact this, e⟩
  · refine c_rvF isT_216 a1.1 (by rw [show (kd0 (216 + 1)).2 = 20 by decide +kernel]; exact hT.1.1) (by have := hT.1.1; omega) (fun z hz => ⟨z, rfl, k z (Or.inr (Or.inl ⟨q0, hz.congr (fun j hj => by rw [a1.2 j hj])⟩))⟩)
theorem j_fault {x1 : Int} (hT : GT T) (h : IM g T) (e1 : nm x1 = x1) (k : ∀ g' z, Vfault T x1 z → IM g' T → FrH g g' → P (some (aI z)) g') : Zm w (d + 4) mX11_fault 0 [some (aR (some 228)), some (aI x1)] [] g P := by
  refine s_X11_fault_0 _ ?_
  rw [inn_x e1, e1]
  refine ⟨fun q => ⟨fun q0 => ?_, fun q0 => ?_⟩, fun q => k g _ (Or.inl ⟨by omega, rfl⟩) h FrH.rfl⟩
  · refine c_readsPeople h.1 hT.1.2.2.1 hT.1.2.2.2.1 (fun g' z hz _ f f8 => ⟨z, rfl, k g' z (Or.inr (Or.inr ⟨by omega, hz⟩)) ?_ (fun b hb => f b (by omega) (by omega))⟩)
    exact h.keep (fun b _ _ _ => f b (by omega) (by omega)) (fun j hj => f8 j (by omega)) (fun j _ => by rw [f 238 (by omega) (by omega)]) (fun j _ => by rw [f 239 (by omega) (by omega)]) (f 240 (by omega) (by omega)) (f 248 (by omega) (by omega))
  · refine c_readsRiver h.1 hT.1.1 hT.1.2.1 (fun g' z hz _ f f8 => ⟨z, rfl, k g' z (Or.inr (Or.inl ⟨q0, hz⟩)) ?_ (fun b hb => f b (by omega) (by omega) (by omega))⟩)
    exact h.keep (fun b _ _ _ => f b (by omega) (by omega) (by omega)) (fun j hj => f8 j (by omega) (by omega)) (fun j _ => by rw [f 238 (by omega) (by omega) (by omega)]) (fun j _ => by rw [f 239 (by omega) (by omega) (by omega)]) (f 240 (by omega) (by omega) (by omega)) (f 248 (by omega) (by omega) (by omega))
/-! cells, people -/
def opCell (T : TT) (c : Int) : Int := if 0 ≤ c ∧ c < 20 then (if c < (nC T.1.1.1 : Int) then kob (by_ T.1.1.1 c.toNat) else -1) else -2
def perV (T : TT) (p : Nat) (x : Int) : Int := if x = 0 then by_ T.1.1.2 (6 * p) - 97 else if x = 1 then oweP T.1.1.2 p else if x = 2 then wedF T.1.1.2 p else lukF T.1.1.2 p
def opPerson (T : TT) (p x : Int) : Int := if (0 ≤ p ∧ p < (nP T.1.1.2 : Int)) ∧ (0 ≤ x ∧ x < 4) then perV T p.toNat x else -2
theorem nmC {T : TT} (hT : GT T) : nm (nC T.1.1.1 : Int) = nC T.1.1.1 := nm_id (by omega) (by have := hT.1.BO.1; omega)
theorem nmP {T : TT} (hT : GT T) : nm (nP T.1.1.2 : Int) = nP T.1.1.2 := nm_id (by omega) (by have := hT.1.BO.2; omega)
theorem nmP1 {T : TT} (hT : GT T) : nm ((nP T.1.1.2 : Int) - 1) = (nP T.1.1.2 : Int) - 1 := nm_id (by omega) (by have := hT.1.BO.2; omega)
theorem k_cell {x1 : Int} (hT : GT T) (h : IC g T) (e1 : nm x1 = x1) (k : ∀ g', IC g' T → FrL g g' → P (some (aI (opCell T x1))) g') : Zm w (d + 5) mX10_cell 0 [some (aR (some 0)), some (aI x1)] [] g P := by
  have n20 : nm 20 = 20 := by decide
  refine s_X10_cell_0 _ ?_
  rw [wi_x e1 n20]
  unfold opCell at k
  refine ⟨fun q => ?_, fun q => ?_⟩
  · have q := nn q
    refine k_settle hT h (fun g1 s1 f1 => ⟨rfl, ?_⟩)
    rw [s1.2.2.1.1.1, nmC hT, e1]
    rw [if_pos q] at k
    refine ⟨fun q2 => ?_, fun q2 => ⟨by omega, by omega, ?_⟩⟩
    · rw [if_neg q2] at k; exact k g1 s1.1 f1
    · rw [if_pos q2] at k
      rw [(s1.2.2.1.1.2.2.1 x1.toNat (by omega)).1]
      exact k g1 s1.1 f1
  · rw [if_neg q] at k; exact k g h FrL.rfl
theorem j_cell {x1 : Int} (hT : GT T) (h : IM g T) (e1 : nm x1 = x1) (k : ∀ g', IM g' T → FrH g g' → P (some (aI (opCell T x1))) g') : Zm w (d + 5) mX11_cell 0 [some (aR (some 228)), some (aI x1)] [] g P := by
  refine s_X11_cell_0 _ ?_
  refine j_reads hT h (fun g1 s1 f1 => ⟨rfl, ?_⟩)
  rw [lin_x e1 (by decide) (by decide), s1.2.1.1.1, nmC hT, e1]
  unfold opCell at k
  refine ⟨fun q => ⟨fun q2 => ?_, fun q2 => ⟨by omega, by omega, ?_⟩⟩, fun q => ?_⟩
  · rw [if_pos (by omega), if_neg q2] at k; exact k g1 s1.1 f1
  · rw [if_pos (by omega), if_pos q2] at k
    rw [(s1.2.1.1.2.2 x1.toNat (by omega)).1]
    exact k g1 s1.1 f1
  · rw [if_neg (by omega)] at k; exact k g1 s1.1 f1
theorem k_person {x1 x2 : Int} (hT : GT T) (h : IC g T) (e1 : nm x1 = x1) (e2 : nm x2 = x2) (k : ∀ g', IS g' T → FrL g g' → P (some (aI (opPerson T x1 x2))) g') : Zm w (d + 5) mX10_person 0 [some (aR (some 0)), some (aI x1), some (aI x2), none] [] g P := by
  have n4 : nm 4 = 4 := by decide
  have hP := hT.1.BO.2
  have hN := nN_le hT.1.BO
  refine s_X10_person_0 _ _ ?_
  refine k_settle hT h (fun g1 s1 f1 => ⟨rfl, ?_⟩)
  have hw := s1.2.2.1
  rw [hw.2.1, hw.1.2.1, wi_x e1 (nmP hT), wi_x e2 n4, e1, e2]
  unfold opPerson at k
  refine ⟨fun q => ?_, fun q => ⟨fun q2 v5 e5 => ?_, fun q2 => ?_⟩⟩
  · rw [if_neg (fun z => q z.1)] at k; exact k g1 s1 f1
  · have q := nn q
    have q2 := nn q2
    have hpp := hw.2.2 x1.toNat (by omega)
    rw [if_pos ⟨q, q2⟩] at k
    have hNe : nN T.1.1 = nR T.1.1.1 + nP T.1.1.2 := rfl
    have ev : nm v5 = ((nR T.1.1.1 + x1.toNat : Nat) : Int) := by rw [nm_id (by omega) (by omega)]; omega
    rw [ev, Int.toNat_natCast, hpp.1, hpp.2.1, hpp.2.2.1, hpp.2.2.2]
    unfold perV at k
    refine ⟨fun z => ⟨by omega, by omega, ?_⟩, fun z => ⟨by omega, by omega, ?_⟩, fun z => ⟨by omega, by omega, ?_⟩, fun z1 z2 z3 => ⟨by omega, by omega, ?_⟩⟩
    · rw [if_pos z] at k; exact k g1 s1 f1
    · rw [if_neg (by omega), if_pos z] at k; exact k g1 s1 f1
    · rw [if_neg (by omega), if_neg (by omega), if_pos z] at k; exact k g1 s1 f1
    · rw [if_neg z1, if_neg z2, if_neg z3] at k; exact k g1 s1 f1
  · rw [if_neg (fun z => q2 z.2)] at k; exact k g1 s1 f1
theorem perM (hw : WM g T.1.1) {p : Nat} (hp : p < nP T.1.1.2) {x : Nat} (hx : x < 4) : g 237 (4 * p + x) = perV T p (x : Int) := by
  have := hw.2.2 p hp
  unfold perV
  rcases (by omega : x = 0 ∨ x = 1 ∨ x = 2 ∨ x = 3) with e | e | e | e <;> subst e
  · exact this.1
  · exact this.2.1
  · exact this.2.2.1
  · exact this.2.2.2
theorem j_person {x1 x2 : Int} (hT : GT T) (h : IM g T) (e1 : nm x1 = x1) (e2 : nm x2 = x2) (k : ∀ g', IM g' T → FrH g g' → P (some (aI (opPerson T x1 x2))) g') : Zm w (d + 5) mX11_person 0 [some (aR (some 228)), some (aI x1), some (aI x2)] [] g P := by
  have hP := hT.1.BO.2
  refine s_X11_person_0 _ _ ?_
  refine j_reads hT h (fun g1 s1 f1 => ⟨rfl, ?_⟩)
  rw [s1.2.1.2.1, nmP1 hT, inn_x e1, lin_x e2 (by decide) (by decide)]
  unfold opPerson at k
  refine ⟨fun q => ?_, fun q => ⟨fun q2 => ?_, fun q2 => ?_⟩⟩
  · rw [if_neg (by omega)] at k; exact k g1 s1.1 f1
  · rw [if_neg (by omega)] at k; exact k g1 s1.1 f1
  · rw [if_pos (by omega)] at k
    have ev : nm (4 * x1 + x2) = ((4 * x1.toNat + x2.toNat : Nat) : Int) := by rw [nm_id (by omega) (by omega)]; omega
    rw [ev, Int.toNat_natCast, perM (T := T) s1.2.1 (by omega) (by omega), show ((x2.toNat : Nat) : Int) = x2 by omega]
    exact ⟨by omega, by omega, k g1 s1.1 f1⟩
/-! who is called what -/
def calV (T : TT) (m : Mu) (p : Nat) (x : Int) : Int := if x = 0 then (m.2.2.1 p : Int) else if x = 1 then calM T.1.1 T.2.1 m p else if x = 2 then oweF T.1.1 (m.2.2.1 p) else spoM T.1.1 m p
def opCalled (T : TT) (d p x : Int) : Int := if (0 ≤ d ∧ d < 20) ∧ (0 ≤ p ∧ p < (nP T.1.1.2 : Int)) ∧ (0 ≤ x ∧ x < 4) then calV T (ahS T.1 (d.toNat + 1)) p.toNat x else -2
theorem k_called {x1 x2 x3 : Int} (hT : GT T) (h : IC g T) (e1 : nm x1 = x1) (e2 : nm x2 = x2) (e3 : nm x3 = x3) (k : ∀ g', IS g' T → FrL g g' → P (some (aI (opCalled T x1 x2 x3))) g') : Zm w (d + 5) mX10_called 0 [some (aR (some 0)), some (aI x1), some (aI x2), some (aI x3), none] [] g P := by
  have n4 : nm 4 = 4 := by decide
  have n20 : nm 20 = 20 := by decide
  have hB := hT.1.BO
  have hP := hB.2
  have hN := nN_le hB
  refine s_X10_called_0 _ _ _ ?_
  refine k_settle hT h (fun g1 s1 f1 => ⟨rfl, ?_⟩)
  have hw := s1.2.2.1
  rw [hw.2.1, wi_x e1 n20, wi_x e2 (nmP hT), wi_x e3 n4]
  unfold opCalled at k
  refine ⟨fun q => ?_, fun q => ⟨fun q2 => ?_, fun q2 => ⟨fun q3 => ?_, fun q3 => ?_⟩⟩⟩
  · rw [if_neg (fun z => q z.1)] at k; exact k g1 s1 f1
  · rw [if_neg (fun z => q2 z.2.1)] at k; exact k g1 s1 f1
  · have q := nn q
    have q2 := nn q2
    have q3 := nn q3
    rw [if_pos ⟨q, q2, q3⟩] at k
    have ed : nm (x1 + 1) = ((x1.toNat + 1 : Nat) : Int) := by rw [nm_id (by omega) (by omega)]; omega
    have hWa := isW_ahead (x1.toNat + 1) (by omega)
    have hwr := s1.2.2.2.2.2.1 (x1.toNat + 1) (by omega)
    have hf := hT.1.wf (x1.toNat + 1)
    have hhp := hf.2.2.2.2.1 x2.toNat (by omega)
    generalize ahS T.1 (x1.toNat + 1) = m at hwr hf hhp k
    have eh : nm ((m.2.2.1 x2.toNat : Nat) : Int) = ((m.2.2.1 x2.toNat : Nat) : Int) := nm_id (by omega) (by omega)
    rw [ed, Int.toNat_natCast, e3, e2, hwr.2.1 x2.toNat (by omega), eh, Int.toNat_natCast, (letF_at hw hhp.1).2]
    unfold calV at k
    have ex : x2 = ((x2.toNat : Nat) : Int) := by omega
    refine ⟨by omega, by omega, fun z => ⟨by omega, by omega, ?_⟩, fun z => ?_, fun z => ⟨by omega, by omega, by omega, by omega, ?_⟩, fun z1 z2 z3 => ?_⟩
    · rw [if_pos z] at k; exact k g1 s1 f1
    · rw [if_neg (by omega), if_pos z] at k
      rw [ex]
      refine c_letterOf hWa hB hw hwr hf (by omega) ⟨_, rfl, ?_⟩
      rw [s1.1.2.2.1]; exact k g1 s1 f1
    · rw [if_neg (by omega), if_neg (by omega), if_pos z] at k; exact k g1 s1 f1
    · rw [if_neg z1, if_neg z2, if_neg z3] at k
      rw [ex]
      exact c_spouse hWa hB hT.1.wedOk hw hwr hf (by omega) ⟨_, rfl, k g1 s1 f1⟩
  · rw [if_neg (fun z => q3 z.2.2)] at k; exact k g1 s1 f1
theorem c_owesBy {x : Nat} (hT : GT T) (hw : WM g T.1.1) (hx : x < nN T.1.1) (k : P (some (aI (oweF T.1.1 x))) g) : Zm w d mX11_owesBy 0 [some (aR (some 228)), some (aI (x : Int))] [] g P := by
  have hN := nN_le hT.1.BO
  have hNe : nN T.1.1 = nR T.1.1.1 + nP T.1.1.2 := rfl
  have hP := hT.1.BO.2
  have ex : nm (x : Int) = x := nm_id (by omega) (by omega)
  have eR : nm (nR T.1.1.1 : Int) = nR T.1.1.1 := nm_id (by omega) (by omega)
  refine s_X11_owesBy_0 _ ?_
  rw [hw.1.2.1, ex, eR]
  unfold oweF at k
  refine ⟨fun q => ?_, fun q => ?_⟩
  · have ev : nm (4 * ((x : Int) - (nR T.1.1.1 : Int)) + 1) = ((4 * (x - nR T.1.1.1) + 1 : Nat) : Int) := by rw [nm_id (by omega) (by omega)]; omega
    rw [ev, Int.toNat_natCast, (hw.2.2 (x - nR T.1.1.1) (by omega)).2.1]
    rw [if_neg (by omega)] at k
    exact ⟨by omega, by omega, k⟩
  · rw [if_pos (by omega)] at k; exact k
theorem c_spouseM {m : Mu} {p : Nat} (hT : GT T) (hw : WM g T.1.1) (hm : MW g T.1.1 T.2.1 m) (hf : Wf T.1.1 m) (hp : p < nP T.1.1.2) (k : P (some (aI (spoM T.1.1 m p))) g) : Zm w (d + 2) mX11_spouseOf 0 [some (aR (some 228)), some (aI (p : Int)), none, none] [] g P := by
  have hN := nN_le hT.1.BO
  have hNe : nN T.1.1 = nR T.1.1.1 + nP T.1.1.2 := rfl
  have hP := hT.1.BO.2
  have n22 : nm 22 = 22 := by decide
  have hh := (hf.2.2.2.2.1 p hp).1
  have ep : nm (p : Int) = p := nm_id (by omega) (by omega)
  have eh : nm ((m.2.2.1 p : Nat) : Int) = ((m.2.2.1 p : Nat) : Int) := nm_id (by omega) (by omega)
  have eR : nm (nR T.1.1.1 : Int) = nR T.1.1.1 := nm_id (by omega) (by omega)
  refine s_X11_spouseOf_0 _ ?_
  rw [ep, Int.toNat_natCast, hm.2.2.2 p hp, hw.1.2.1, eh, eR]
  refine ⟨by omega, by omega, fun q => ?_, fun q => ?_⟩
  · have ev : nm (4 * (((m.2.2.1 p : Nat) : Int) - (nR T.1.1.1 : Int)) + 2) = ((4 * (m.2.2.1 p - nR T.1.1.1) + 2 : Nat) : Int) := by rw [nm_id (by omega) (by omega)]; omega
    have hlt : m.2.2.1 p - nR T.1.1.1 < nP T.1.1.2 := by omega
    have hwd := hT.1.wedOk _ hlt
    rw [ev, Int.toNat_natCast, (hw.2.2 _ hlt).2.2.1]
    refine ⟨by omega, by omega, ?_⟩
    have ew : nm (wedF T.1.1.2 (m.2.2.1 p - nR T.1.1.1)) = wedF T.1.1.2 (m.2.2.1 p - nR T.1.1.1) := nm_id (by omega) (by omega)
    refine s_X11_spouseOf_37 _ ?_
    rw [hw.2.1, nmP1 hT, inn_x ew, hw.1.2.1]
    unfold spoM at k
    rw [if_neg (show ¬ m.2.2.1 p < nR T.1.1.1 by omega)] at k
    refine ⟨fun q2 => ?_, fun q2 => ?_⟩
    · rw [if_pos (by omega)] at k
      have es : nm ((nR T.1.1.1 : Int) + wedF T.1.1.2 (m.2.2.1 p - nR T.1.1.1)) = ((nR T.1.1.1 + (wedF T.1.1.2 (m.2.2.1 p - nR T.1.1.1)).toNat : Nat) : Int) := by rw [nm_id (by omega) (by omega)]; omega
      have hxs : nR T.1.1.1 + (wedF T.1.1.2 (m.2.2.1 p - nR T.1.1.1)).toNat < nN T.1.1 := by omega
      rw [es, Int.toNat_natCast]
      refine ⟨by omega, by omega, fun v6 e6 => ?_⟩
      rw [(hm.2.2.1 _ hxs).1] at e6
      have h30 := hf.2.2.2.2.2.2 _ hxs
      have e8 : nm v6 = v6 := nm_id (by omega) (by omega)
      rw [e8, n22]
      refine ⟨fun q3 => ?_, fun q3 => ?_⟩
      · rw [if_neg (by omega)] at k; rw [e6]; exact k
      · rw [if_pos (by omega)] at k; exact k
    · rw [if_neg (by omega)] at k; exact k
  · have e0 : nm (-1) = -1 := by decide
    refine s_X11_spouseOf_37 _ ?_
    rw [hw.2.1, nmP1 hT, inn_x e0]
    unfold spoM at k
    rw [if_pos (by omega)] at k
    exact ⟨fun q2 => absurd (fun z => by omega) q2, fun _ => k⟩
theorem c_calledNow {m : Mu} {p : Nat} {x : Int} (hT : GT T) (hw : WM g T.1.1) (hm : MW g T.1.1 T.2.1 m) (hf : Wf T.1.1 m) (hp : p < nP T.1.1.2) (ex : nm x = x) (k : P (some (aI (calV T m p x))) g) : Zm w (d + 3) mX11_calledNow 0 [some (aR (some 228)), some (aI (p : Int)), some (aI x)] [] g P := by
  have hN := nN_le hT.1.BO
  have hP := hT.1.BO.2
  have hh := (hf.2.2.2.2.1 p hp).1
  have ep : nm (p : Int) = p := nm_id (by omega) (by omega)
  have eh : nm ((m.2.2.1 p : Nat) : Int) = ((m.2.2.1 p : Nat) : Int) := nm_id (by omega) (by omega)
  refine s_X11_calledNow_0 _ _ ?_
  rw [ep, ex, Int.toNat_natCast, hm.2.2.2 p hp, eh, Int.toNat_natCast, (hm.2.2.1 _ hh).2.2]
  unfold calV at k
  refine ⟨fun z => ⟨by omega, by omega, ?_⟩, fun z => ⟨by omega, by omega, by omega, by omega, ?_⟩, fun z => ⟨by omega, by omega, ?_⟩, fun z1 z2 z3 => ?_⟩
  · rw [if_pos z] at k; exact k
  · rw [if_neg (by omega), if_pos z] at k; exact k
  · rw [if_neg (by omega), if_neg (by omega), if_pos z] at k
    exact c_owesBy hT hw hh ⟨_, rfl, k⟩
  · rw [if_neg z1, if_neg z2, if_neg z3] at k
    exact c_spouseM hT hw hm hf hp ⟨_, rfl, k⟩
theorem j_calledOf {n p : Nat} {x1 x : Int} (hT : GT T) (h : RM g T) (hn : n < 20) (e1 : x1 = (n : Int)) (hp : p < nP T.1.1.2) (ex : nm x = x) (k : ∀ g', RM g' T → FrH g g' → P (some (aI (calV T (ahS T.1 (n + 1)) p x))) g') : Zm w (d + 4) mX11_calledOf 0 [some (aR (some 228)), some (aI x1), some (aI (p : Int)), some (aI x)] [] g P := by
  refine s_X11_calledOf_0 _ _ _ ?_
  refine j_lives (n := n + 1) hT h (by omega) (by omega) (fun g1 r1 m1 _ f1 => ⟨rfl, ?_⟩)
  exact c_calledNow hT r1.2.1 m1 (hT.1.wf _) hp ex ⟨_, rfl, k g1 r1 f1⟩
theorem j_called {x1 x2 x3 : Int} (hT : GT T) (h : IM g T) (e1 : nm x1 = x1) (e2 : nm x2 = x2) (e3 : nm x3 = x3) (k : ∀ g', IM g' T → FrH g g' → P (some (aI (opCalled T x1 x2 x3))) g') : Zm w (d + 5) mX11_called 0 [some (aR (some 228)), some (aI x1), some (aI x2), some (aI x3)] [] g P := by
  refine s_X11_called_0 _ _ _ ?_
  refine j_reads hT h (fun g1 s1 f1 => ⟨rfl, ?_⟩)
  rw [s1.2.1.2.1, nmP1 hT, inn_x e1, inn_x e2, lin_x e3 (by decide) (by decide)]
  unfold opCalled at k
  refine ⟨fun q => ?_, fun q => ⟨fun q2 => ?_, fun q2 => ⟨fun q3 => ?_, fun q3 => ?_⟩⟩⟩
  · rw [if_neg (by omega)] at k; exact k g1 s1.1 f1
  · rw [if_neg (by omega)] at k; exact k g1 s1.1 f1
  · rw [if_neg (by omega)] at k; exact k g1 s1.1 f1
  · rw [if_pos (by omega)] at k
    rw [show x2 = ((x2.toNat : Nat) : Int) by omega]
    exact j_calledOf (n := x1.toNat) hT s1 (by omega) (by omega) (by omega) e3 (fun g2 s2 f2 => ⟨_, rfl, k g2 s2.1 (f1.trans f2)⟩)
/-! names -/
def namV (T : TT) (m : Mu) (x : Nat) (y : Int) : Int := if y = 0 then (m.1 x : Int) else if y = 1 then (m.2.1 x : Int) else letM T.1.1 T.2.1 m x
def opName (T : TT) (d x y : Int) : Int := if (0 ≤ d ∧ d < 20) ∧ (0 ≤ x ∧ x < (nN T.1.1 : Int)) ∧ (0 ≤ y ∧ y < 3) then namV T (ahS T.1 (d.toNat + 1)) x.toNat y else -2
theorem nN_int (T : TT) : (nR T.1.1.1 : Int) + (nP T.1.1.2 : Int) = (nN T.1.1 : Int) := by unfold nN; omega
theorem nmN {T : TT} (hT : GT T) : nm (nN T.1.1 : Int) = nN T.1.1 := nm_id (by omega) (by have := nN_le hT.1.BO; omega)
theorem nmN1 {T : TT} (hT : GT T) : nm ((nN T.1.1 : Int) - 1) = (nN T.1.1 : Int) - 1 := nm_id (by omega) (by have := nN_le hT.1.BO; omega)
theorem k_name {x1 x2 x3 : Int} (hT : GT T) (h : IC g T) (e1 : nm x1 = x1) (e2 : nm x2 = x2) (e3 : nm x3 = x3) (k : ∀ g', IS g' T → FrL g g' → P (some (aI (opName T x1 x2 x3))) g') : Zm w (d + 5) mX10_name 0 [some (aR (some 0)), some (aI x1), some (aI x2), some (aI x3), none] [] g P := by
  have n3 : nm 3 = 3 := by decide
  have n20 : nm 20 = 20 := by decide
  have hN := nN_le hT.1.BO
  refine s_X10_name_0 _ _ _ ?_
  refine k_settle hT h (fun g1 s1 f1 => ⟨rfl, ?_⟩)
  have hw := s1.2.2.1
  rw [hw.1.2.1, hw.2.1, nN_int, wi_x e1 n20, wi_x e2 (nmN hT), wi_x e3 n3]
  unfold opName at k
  refine ⟨fun q => ?_, fun q => ⟨fun q2 => ?_, fun q2 => ⟨fun q3 => ?_, fun q3 => ?_⟩⟩⟩
  · rw [if_neg (fun z => q z.1)] at k; exact k g1 s1 f1
  · rw [if_neg (fun z => q2 z.2.1)] at k; exact k g1 s1 f1
  · have q := nn q
    have q2 := nn q2
    have q3 := nn q3
    rw [if_pos ⟨q, q2, q3⟩] at k
    have ed : nm (x1 + 1) = ((x1.toNat + 1 : Nat) : Int) := by rw [nm_id (by omega) (by omega)]; omega
    have hwr := s1.2.2.2.2.2.1 (x1.toNat + 1) (by omega)
    generalize ahS T.1 (x1.toNat + 1) = m at hwr k
    have hx : x2.toNat < nN T.1.1 := by omega
    rw [ed, Int.toNat_natCast, e3, e2, (hwr.1 _ hx).1, (hwr.1 _ hx).2, (letF_at hw hx).1, s1.1.2.2.1]
    unfold namV at k
    refine ⟨by omega, by omega, fun z => ⟨by omega, by omega, ?_⟩, fun z => ⟨by omega, by omega, ?_⟩, fun z1 z2 => ⟨by omega, by omega, by omega, by omega, ?_⟩⟩
    · rw [if_pos z] at k; exact k g1 s1 f1
    · rw [if_neg (by omega), if_pos z] at k; exact k g1 s1 f1
    · rw [if_neg z1, if_neg z2] at k; exact k g1 s1 f1
  · rw [if_neg (fun z => q3 z.2.2)] at k; exact k g1 s1 f1
theorem j_nameOf {n x : Nat} {x1 y : Int} (hT : GT T) (h : RM g T) (hn : n < 20) (e1 : x1 = (n : Int)) (hx : x < nN T.1.1) (ey : nm y = y) (k : ∀ g', RM g' T → FrH g g' → P (some (aI (namV T (ahS T.1 (n + 1)) x y))) g') : Zm w (d + 4) mX11_nameOf 0 [some (aR (some 228)), some (aI x1), some (aI (x : Int)), some (aI y)] [] g P := by
  have hN := nN_le hT.1.BO
  have n1 : nm 1 = 1 := by decide
  have ex : nm (x : Int) = x := nm_id (by omega) (by omega)
  refine s_X11_nameOf_0 _ _ _ ?_
  refine j_lives (n := n + 1) hT h (by omega) (by omega) (fun g1 r1 m1 _ f1 => ⟨rfl, ?_⟩)
  have hm := m1.2.2.1 x hx
  rw [ey, ex, Int.toNat_natCast, n1, hm.1, hm.2.1, hm.2.2]
  unfold namV at k
  refine ⟨fun z => ⟨fun z2 => ⟨by omega, by omega, ?_⟩, fun z2 => ⟨by omega, by omega, ?_⟩⟩, fun z => ⟨by omega, by omega, ?_⟩⟩
  · rw [if_neg z, if_neg z2] at k; exact k g1 r1 f1
  · rw [if_neg z, if_pos z2] at k; exact k g1 r1 f1
  · rw [if_pos z] at k; exact k g1 r1 f1
theorem j_name {x1 x2 x3 : Int} (hT : GT T) (h : IM g T) (e1 : nm x1 = x1) (e2 : nm x2 = x2) (e3 : nm x3 = x3) (k : ∀ g', IM g' T → FrH g g' → P (some (aI (opName T x1 x2 x3))) g') : Zm w (d + 5) mX11_name 0 [some (aR (some 228)), some (aI x1), some (aI x2), some (aI x3)] [] g P := by
  have hN := nN_le hT.1.BO
  refine s_X11_name_0 _ _ _ ?_
  refine j_reads hT h (fun g1 s1 f1 => ⟨rfl, ?_⟩)
  rw [s1.2.1.1.2.1, s1.2.1.2.1, nN_int, nmN1 hT, inn_x e1, lin_x e2 (by decide) (nml_id (by omega) (by omega)), lin_x e3 (by decide) (by decide)]
  unfold opName at k
  refine ⟨fun q => ?_, fun q => ⟨fun q2 => ?_, fun q2 => ⟨fun q3 => ?_, fun q3 => ?_⟩⟩⟩
  · rw [if_neg (by omega)] at k; exact k g1 s1.1 f1
  · rw [if_neg (by omega)] at k; exact k g1 s1.1 f1
  · rw [if_neg (by omega)] at k; exact k g1 s1.1 f1
  · rw [if_pos (by omega)] at k
    rw [show x2 = ((x2.toNat : Nat) : Int) by omega]
    exact j_nameOf (n := x1.toNat) hT s1 (by omega) (by omega) (by omega) e3 (fun g2 s2 f2 => ⟨_, rfl, k g2 s2.1 (f1.trans f2)⟩)
/-! changes -/
abbrev chS (S : Sx) (i : Nat) : Bool := chgN S.1 S.2.1 (toldS S.1.2) S.2.2.1 (floodB S.2.2.2.1) 20 i
def opChanges (T : TT) (k : Int) : Int := if 0 ≤ k ∧ k < (T.1.2.1.length : Int) then bI (chS T.1 k.toNat) else -2
theorem k_changes {x1 : Int} (hT : GT T) (h : IC g T) (e1 : nm x1 = x1) (k : ∀ g', IS g' T → FrL g g' → P (some (aI (opChanges T x1))) g') : Zm w (d + 5) mX10_changes 0 [some (aR (some 0)), some (aI x1)] [] g P := by
  have hl := hT.1.2.2.2.2.1.1
  have el : nm (T.1.2.1.length : Int) = T.1.2.1.length := nm_id (by omega) (by omega)
  refine s_X10_changes_0 _ ?_
  refine k_settle hT h (fun g1 s1 f1 => ⟨rfl, ?_⟩)
  rw [s1.1.1.2.2.1.1, wi_x e1 el]
  unfold opChanges at k
  refine ⟨fun q => ?_, fun q => ?_⟩
  · have q := nn q
    rw [if_pos q] at k
    have := s1.2.2.2.2.2.2.test (k := x1.toNat) (by omega)
    rw [show ((x1.toNat : Nat) : Int) = x1 by omega, decide_eq_true (show x1.toNat < T.1.2.1.length by omega), Bool.true_and] at this
    rw [this]; exact k g1 s1 f1
  · rw [if_neg q] at k; exact k g1 s1 f1
theorem j_changesOf {n : Nat} {x1 : Int} (hT : GT T) (h : RM g T) (hn : n < T.1.2.1.length) (e1 : x1 = (n : Int)) (k : ∀ g', RM g' T → FrH g g' → P (some (aI (bI (chS T.1 n)))) g') : Zm w (d + 4) mX11_changesOf 0 [some (aR (some 228)), some (aI x1)] [] g P := by
  have hl := hT.1.2.2.2.2.1.1
  have en : nm x1 = (n : Int) := by rw [e1]; exact nm_id (by omega) (by omega)
  refine s_X11_changesOf_0 _ ?_
  refine j_lives (n := 20) hT h (by omega) (by omega) (fun g1 r1 m1 c1 f1 => ⟨rfl, ?_⟩)
  rw [en, Int.toNat_natCast, c1 n hn]
  exact ⟨by omega, by omega, k g1 r1 f1⟩
theorem j_changes {x1 : Int} (hT : GT T) (h : IM g T) (e1 : nm x1 = x1) (k : ∀ g', IM g' T → FrH g g' → P (some (aI (opChanges T x1))) g') : Zm w (d + 5) mX11_changes 0 [some (aR (some 228)), some (aI x1)] [] g P := by
  have hl := hT.1.2.2.2.2.1.1
  have el : nm ((T.1.2.1.length : Int) - 1) = (T.1.2.1.length : Int) - 1 := nm_id (by omega) (by omega)
  refine s_X11_changes_0 _ ?_
  refine j_reads hT h (fun g1 s1 f1 => ⟨rfl, ?_⟩)
  rw [s1.2.2.1.1, el, lin_x e1 (by decide) (nml_id (by omega) (by omega))]
  unfold opChanges at k
  refine ⟨fun q => ?_, fun q => ?_⟩
  · rw [if_neg (by omega)] at k; exact k g1 s1.1 f1
  · rw [if_pos (by omega)] at k
    exact j_changesOf (n := x1.toNat) hT s1 (by omega) (by omega) (fun g2 s2 f2 => ⟨_, rfl, k g2 s2.1 (f1.trans f2)⟩)
/-! counts -/
def opCount (T : TT) (x : Int) : Int := if x = 0 then (nC T.1.1.1 : Int) else if x = 1 then (nP T.1.1.2 : Int) else if x = 2 then (T.1.1.1.length : Int) else if x = 3 then (T.1.1.2.length : Int) else if x = 4 then (nN T.1.1 : Int) else if x = 5 then (T.1.2.1.length : Int) else if x = 6 then (T.1.2.2.1.length : Int) + (T.1.2.2.2.1.length : Int) else if x = 7 then (T.1.2.2.2.2.length : Int) else if x = 8 then T.2.2.1 else -2
theorem k_count {x1 : Int} (hT : GT T) (h : IC g T) (e1 : nm x1 = x1) (k : ∀ g', IS g' T → FrL g g' → P (some (aI (opCount T x1))) g') : Zm w (d + 5) mX10_count 0 [some (aR (some 0)), some (aI x1)] [] g P := by
  refine s_X10_count_0 _ ?_
  refine k_settle hT h (fun g1 s1 f1 => ⟨rfl, ?_⟩)
  have hw := s1.2.2.1
  obtain ⟨⟨a1, a2, a3, a4, a5, a6⟩, -, c1, c2, -⟩ := id s1.1
  rw [e1, hw.1.1, hw.2.1, a1.1, a2.1, hw.1.2.1, nN_int, a3.1, a4.1, a5.1, a6.1, c2]
  have k := k g1 s1 f1
  unfold opCount at k
  refine ⟨fun z => ?_, fun z => ?_, fun z => ?_, fun z => ?_, fun z => ?_, fun z => ?_, fun z => ?_, fun z => ?_, fun z => ?_, fun z1 z2 z3 z4 z5 z6 z7 z8 z9 => ?_⟩
  · subst z; exact k
  · subst z; exact k
  · subst z; exact k
  · subst z; exact k
  · subst z; exact k
  · subst z; exact k
  · subst z; exact k
  · subst z; exact k
  · subst z; exact k
  · rw [if_neg z1, if_neg z2, if_neg z3, if_neg z4, if_neg z5, if_neg z6, if_neg z7, if_neg z8, if_neg z9] at k; exact k
theorem j_count {x1 : Int} (hT : GT T) (h : IM g T) (e1 : nm x1 = x1) (k : ∀ g', RM g' T → FrH g g' → P (some (aI (opCount T x1))) g') : Zm w (d + 5) mX11_count 0 [some (aR (some 228)), some (aI x1)] [] g P := by
  refine s_X11_count_0 _ ?_
  refine j_reads hT h (fun g1 s1 f1 => ⟨rfl, ?_⟩)
  have hw := s1.2.1
  obtain ⟨a1, a2, a3, a4, a5, a6⟩ := id s1.1
  have k := k g1 s1 f1
  unfold opCount at k
  rw [e1, hw.1.1, hw.2.1, hw.1.2.1, nN_int, a2.1, a2.2.2.1, a3.1, a4.1, a5.2.1]
  have n0 : nm (2 - 2) = 0 := by decide
  have n1 : nm (3 - 2) = 1 := by decide
  refine ⟨fun z => ?_, fun z => ?_, fun z => ?_, fun z => ?_, fun z => ?_, fun z => ?_, fun z => ?_, fun z => ?_, fun z => ?_, fun z1 z2 z3 z4 z5 z6 z7 z8 z9 => ?_⟩
  · subst z; exact k
  · subst z; exact k
  · subst z
    rw [n0, show (0 : Int).toNat = 0 from rfl, a1.1]
    exact ⟨by omega, by omega, k⟩
  · subst z
    rw [n1, show (1 : Int).toNat = 1 from rfl, a1.2.2.1]
    exact ⟨by omega, by omega, k⟩
  · subst z; exact k
  · subst z; exact k
  · subst z; exact k
  · subst z; exact k
  · subst z; exact k
  · rw [if_neg z1, if_neg z2, if_neg z3, if_neg z4, if_neg z5, if_neg z6, if_neg z7, if_neg z8, if_neg z9] at k; exact k
end QA
