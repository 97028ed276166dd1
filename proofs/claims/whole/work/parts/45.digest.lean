/-! the digest: all the answers in one number -/
def itN (f : Nat → Int → Int) : Nat → Int → Int
  | 0, h => h
  | n + 1, h => f n (itN f n h)
def hsh (v : Nat → Int) : Nat → Int → Int := itN (fun k h => 31 * h + nm (v k))
/-- picks the one value that a property allows -/
def Th (th : (Int → Prop) → Int) : Prop := ∀ (V : Int → Prop) z, V z → (∀ z', V z' → z' = z) → th V = z
theorem Th.some : ∃ th, Th th := ⟨fun V => Classical.epsilon V, fun V z h u => u _ (Classical.epsilon_spec ⟨z, h⟩)⟩
def vFlt (th : (Int → Prop) → Int) (T : TT) (k : Nat) : Int := th (Vfault T (k : Int))
def dP (T : TT) (p : Nat) (h : Int) : Int := hsh (fun i => opCalled T 19 (p : Int) (i : Int)) 4 (hsh (fun i => opCalled T 3 (p : Int) (i : Int)) 4 (hsh (fun i => opPerson T (p : Int) (i : Int)) 4 h))
def dM1 (th : (Int → Prop) → Int) (T : TT) (p : Nat) (h : Int) : Int := 31 * h + nm (th (Vret T (p : Int) 2 9 (-1)))
def dM2 (th : (Int → Prop) → Int) (T : TT) (p : Nat) (h : Int) : Int := 31 * dM1 th T p h + nm (th (Vret T (p : Int) 2 9 0))
def dM3 (th : (Int → Prop) → Int) (T : TT) (p : Nat) (h : Int) : Int := 31 * dM2 th T p h + nm (th (Vlucky T (p : Int)))
def dM4 (th : (Int → Prop) → Int) (T : TT) (p : Nat) (h : Int) : Int := 31 * dM3 th T p h + opFlooded T 5 6 (p : Int) 2 0
def dM5 (th : (Int → Prop) → Int) (T : TT) (p : Nat) (h : Int) : Int := 31 * dM4 th T p h + opFlooded T 5 6 (p : Int) 2 1
def dM (th : (Int → Prop) → Int) (T : TT) (p : Nat) (h : Int) : Int := 31 * dM5 th T p h + nm (opCrowd T 7 19 (p : Int))
def dN (T : TT) (x : Nat) (h : Int) : Int := 31 * hsh (fun j => opName T 9 (x : Int) (j : Int)) 3 h + nm (opName T 19 (x : Int) 0)
def dE1 (T : TT) (h : Int) : Int := 31 * h + nm (opSame T 9)
def dE2 (th : (Int → Prop) → Int) (T : TT) (h : Int) : Int := 31 * dE1 T h + nm (th (Vfirst T 0))
def dE3 (th : (Int → Prop) → Int) (T : TT) (h : Int) : Int := 31 * dE2 th T h + nm (th (Vfirst T 1))
def dE4 (th : (Int → Prop) → Int) (T : TT) (h : Int) : Int := 31 * dE3 th T h + nm (opNet T 2 (-1))
def dE5 (th : (Int → Prop) → Int) (T : TT) (h : Int) : Int := 31 * dE4 th T h + nm (opNet T 2 0)
def dE6 (th : (Int → Prop) → Int) (T : TT) (h : Int) : Int := 31 * dE5 th T h + nm (th (fun z => Bt z (nvB T)))
def dE7 (th : (Int → Prop) → Int) (T : TT) (h : Int) : Int := 31 * dE6 th T h + nm (opAsk T 9)
def dE (th : (Int → Prop) → Int) (T : TT) (h : Int) : Int := 31 * dE7 th T h + nm (opCrowd T 7 19 (-1))
def dgA (T : TT) : Int := hsh (fun k => opCount T (k : Int)) 8 17
def dgB (th : (Int → Prop) → Int) (T : TT) : Int := hsh (vFlt th T) 2 (dgA T)
def dgC (th : (Int → Prop) → Int) (T : TT) : Int := hsh (fun c => opCell T (c : Int)) (nC T.1.1.1) (dgB th T)
def dgD (th : (Int → Prop) → Int) (T : TT) : Int := itN (dP T) (nP T.1.1.2) (dgC th T)
def dgE (th : (Int → Prop) → Int) (T : TT) : Int := itN (dM th T) (nP T.1.1.2) (dgD th T)
def dgF (th : (Int → Prop) → Int) (T : TT) : Int := itN (dN T) (nN T.1.1) (dgE th T)
def dgG (th : (Int → Prop) → Int) (T : TT) : Int := hsh (fun k => opChanges T (k : Int)) T.1.2.1.length (dgF th T)
def opDigest (th : (Int → Prop) → Int) (T : TT) : Int := dE th T (dgG th T)
section DG
variable {w : GX} {d : Nat} {P : PN} {g : GI} {T : TT} {th : (Int → Prop) → Int}
theorem Th.fault (hth : Th th) {k : Nat} {z : Int} (h : Vfault T (k : Int) z) : z = vFlt th T k := (hth _ z h (fun z' h' => h'.one h)).symm
theorem Th.ret (hth : Th th) {a b c e z : Int} (h : Vret T a b c e z) : z = th (Vret T a b c e) := (hth _ z h (fun z' h' => h'.one h)).symm
theorem Th.lucky (hth : Th th) {a z : Int} (h : Vlucky T a z) : z = th (Vlucky T a) := (hth _ z h (fun z' h' => h'.one h)).symm
theorem Th.first (hth : Th th) {a z : Int} (h : Vfirst T a z) : z = th (Vfirst T a) := (hth _ z h (fun z' h' => h'.one h)).symm
theorem Th.bits (hth : Th th) {z : Int} {f : Nat → Bool} (h : Bt z f) : z = th (fun z => Bt z f) := (hth _ z h (fun z' h' => h'.uniq h)).symm
theorem k_cellS {c : Nat} (hT : GT T) (h : IS g T) (hc : c < nC T.1.1.1) (k : ∀ g', IS g' T → FrL g g' → P (some (aI (opCell T (c : Int)))) g') : Zm w (d + 5) mX10_cell 0 [some (aR (some 0)), some (aI (c : Int))] [] g P := by
  have n20 : nm 20 = 20 := by decide
  have hC := nC_le T.1.1.1
  have hB := hT.1.BO.1
  have e1 : nm (c : Int) = c := nm_id (by omega) (by omega)
  refine s_X10_cell_0 _ ?_
  rw [wi_x e1 n20]
  unfold opCell at k
  refine ⟨fun q => ?_, fun q => absurd q (by omega)⟩
  refine k_settle hT h.1 (fun g1 s1 f1 => ⟨rfl, ?_⟩)
  rw [s1.2.2.1.1.1, nmC hT, e1]
  rw [if_pos (by omega), if_pos (by omega)] at k
  refine ⟨fun q2 => absurd q2 (by omega), fun q2 => ⟨by omega, by omega, ?_⟩⟩
  rw [(s1.2.2.1.1.2.2.1 (c : Int).toNat (by omega)).1]
  exact k g1 s1 f1
theorem kd_10 {h : Int} (hth : Th th) (hT : GT T) (hs : IS g T) (k : ∀ g', IS g' T → FrL g g' → Zm w (d + 16) mX10_digest 37 [some (aR (some 0)), some (aL (hsh (fun k => opCount T (k : Int)) 8 h)), none, some (aI (0)), none, none] [] g' P) : Zm w (d + 16) mX10_digest 10 [some (aR (some 0)), some (aL (h)), none, some (aI (0)), none, none] [] g P := by
  have n8 : nm 8 = 8 := by decide
  have e8 : nm ((8 : Nat) : Int) = 8 := by decide
  refine loopN (σ := Int × GI) (fun i s => Zm w (d + 16) mX10_digest 10 [some (aR (some 0)), some (aL (s.1)), none, some (aI ((i : Int))), none, none] [] s.2 P) (fun i s => IS s.2 T ∧ FrL g s.2 ∧ s.1 = hsh (fun k => opCount T (k : Int)) i h) 8 ?_ ?_ 0 (h, g) (Nat.zero_le _) ⟨hs, FrL.rfl, rfl⟩
  · intro ⟨v, g1⟩ ⟨r1, r2, r3⟩
    dsimp only at r1 r2 r3
    refine s_X10_digest_10 (d := d + 10) _ _ ?_
    dsimp only
    rw [n8, e8]
    refine ⟨fun _ => ?_, fun y => absurd y (by omega)⟩
    rw [r3]; exact k g1 r1 r2
  · intro i ⟨v, g1⟩ hi ⟨r1, r2, r3⟩ ih
    dsimp only at r1 r2 r3
    have ei : nm (i : Int) = i := nm_id (by omega) (by omega)
    refine s_X10_digest_10 (d := d + 10) _ _ ?_
    dsimp only
    rw [n8, ei]
    refine ⟨fun y => absurd y (by omega), fun _ => ?_⟩
    exact k_count hT r1.1 ei (fun g2 s2 f2 => ⟨_, rfl, fun v4 e4 => ih (v4, g2) ⟨s2, r2.trans f2, by rw [e4, r3]; rfl⟩⟩)
theorem kd_37 {h : Int} (hth : Th th) (hT : GT T) (hs : IS g T) (k : ∀ g', IS g' T → FrL g g' → Zm w (d + 16) mX10_digest 63 [some (aR (some 0)), some (aL (hsh (vFlt th T) 2 h)), none, some (aI (0)), none, none] [] g' P) : Zm w (d + 16) mX10_digest 37 [some (aR (some 0)), some (aL (h)), none, some (aI (0)), none, none] [] g P := by
  have n2 : nm 2 = 2 := by decide
  have e2 : nm ((2 : Nat) : Int) = 2 := by decide
  refine loopN (σ := Int × GI) (fun i s => Zm w (d + 16) mX10_digest 37 [some (aR (some 0)), some (aL (s.1)), none, some (aI ((i : Int))), none, none] [] s.2 P) (fun i s => IS s.2 T ∧ FrL g s.2 ∧ s.1 = hsh (vFlt th T) i h) 2 ?_ ?_ 0 (h, g) (Nat.zero_le _) ⟨hs, FrL.rfl, rfl⟩
  · intro ⟨v, g1⟩ ⟨r1, r2, r3⟩
    dsimp only at r1 r2 r3
    refine s_X10_digest_37 (d := d + 10) _ _ ?_
    dsimp only
    rw [n2, e2]
    refine ⟨fun _ => ?_, fun y => absurd y (by omega)⟩
    rw [r3]; exact k g1 r1 r2
  · intro i ⟨v, g1⟩ hi ⟨r1, r2, r3⟩ ih
    dsimp only at r1 r2 r3
    have ei : nm (i : Int) = i := nm_id (by omega) (by omega)
    refine s_X10_digest_37 (d := d + 10) _ _ ?_
    dsimp only
    rw [n2, ei]
    refine ⟨fun y => absurd y (by omega), fun _ => ?_⟩
    exact k_fault hT r1.1 ei (fun z hz => ⟨z, rfl, fun v4 e4 => ih (v4, g1) ⟨r1, r2, by rw [e4, r3, hth.fault hz]; rfl⟩⟩)
theorem kd_63 {h : Int} (hth : Th th) (hT : GT T) (hs : IS g T) (k : ∀ g', IS g' T → FrL g g' → Zm w (d + 16) mX10_digest 95 [some (aR (some 0)), some (aL (hsh (fun c => opCell T (c : Int)) (nC T.1.1.1) h)), none, some (aI (0)), none, none] [] g' P) : Zm w (d + 16) mX10_digest 63 [some (aR (some 0)), some (aL (h)), none, some (aI (0)), none, none] [] g P := by
  have hC := nC_le T.1.1.1
  have hB := hT.1.BO.1
  refine loopN (σ := Int × GI) (fun i s => Zm w (d + 16) mX10_digest 63 [some (aR (some 0)), some (aL (s.1)), none, some (aI ((i : Int))), none, none] [] s.2 P) (fun i s => IS s.2 T ∧ FrL g s.2 ∧ s.1 = hsh (fun c => opCell T (c : Int)) i h) (nC T.1.1.1) ?_ ?_ 0 (h, g) (Nat.zero_le _) ⟨hs, FrL.rfl, rfl⟩
  · intro ⟨v, g1⟩ ⟨r1, r2, r3⟩
    dsimp only at r1 r2 r3
    refine s_X10_digest_63 (d := d + 10) _ _ ?_
    dsimp only
    rw [r1.2.2.1.1.1, nmC hT]
    refine ⟨fun _ => ?_, fun y => absurd y (by omega)⟩
    rw [r3]; exact k g1 r1 r2
  · intro i ⟨v, g1⟩ hi ⟨r1, r2, r3⟩ ih
    dsimp only at r1 r2 r3
    have ei : nm (i : Int) = i := nm_id (by omega) (by omega)
    refine s_X10_digest_63 (d := d + 10) _ _ ?_
    dsimp only
    rw [r1.2.2.1.1.1, nmC hT, ei]
    refine ⟨fun y => absurd y (by omega), fun _ => ?_⟩
    exact k_cellS hT r1 hi (fun g2 s2 f2 => ⟨_, rfl, fun v4 e4 => ih (v4, g2) ⟨s2, r2.trans f2, by rw [e4, r3]; rfl⟩⟩)
theorem kd_109 {h : Int} {p : Nat} (hp : p < nP T.1.1.2) (hT : GT T) (hs : IS g T) (k : ∀ g', IS g' T → FrL g g' → Zm w (d + 16) mX10_digest 139 [some (aR (some 0)), some (aL (hsh (fun i => opPerson T (p : Int) (i : Int)) 4 h)), none, some (aI ((p : Int))), some (aI 3), none] [] g' P) : Zm w (d + 16) mX10_digest 109 [some (aR (some 0)), some (aL (h)), none, some (aI ((p : Int))), some (aI (0)), none] [] g P := by
  have hP := hT.1.BO.2
  have hN := nN_le hT.1.BO
  have n4 : nm 4 = 4 := by decide
  have e4 : nm ((4 : Nat) : Int) = 4 := by decide
  refine loopN (σ := Int × GI) (fun i s => Zm w (d + 16) mX10_digest 109 [some (aR (some 0)), some (aL (s.1)), none, some (aI ((p : Int))), some (aI ((i : Int))), none] [] s.2 P) (fun i s => IS s.2 T ∧ FrL g s.2 ∧ s.1 = hsh (fun i => opPerson T (p : Int) (i : Int)) i h) 4 ?_ ?_ 0 (h, g) (Nat.zero_le _) ⟨hs, FrL.rfl, rfl⟩
  · intro ⟨v, g1⟩ ⟨r1, r2, r3⟩
    dsimp only at r1 r2 r3
    refine s_X10_digest_109 (d := d + 10) _ _ _ ?_
    dsimp only
    rw [n4, e4]
    refine ⟨fun _ => ?_, fun y => absurd y (by omega)⟩
    rw [r3]; exact k g1 r1 r2
  · intro i ⟨v, g1⟩ hi ⟨r1, r2, r3⟩ ih
    dsimp only at r1 r2 r3
    have ei : nm (i : Int) = i := nm_id (by omega) (by omega)
    refine s_X10_digest_109 (d := d + 10) _ _ _ ?_
    dsimp only
    rw [n4, ei]
    refine ⟨fun y => absurd y (by omega), fun _ => ?_⟩
    exact k_person hT r1.1 (nm_id (by omega) (by omega)) ei (fun g2 s2 f2 => ⟨_, rfl, fun v4 e4 => ih (v4, g2) ⟨s2, r2.trans f2, by rw [e4, r3]; rfl⟩⟩)
theorem kd_149 {h : Int} {p : Nat} {D : Int} (hD : 0 ≤ D ∧ D < 20) (hp : p < nP T.1.1.2) (hT : GT T) (hs : IS g T) (k : ∀ g', IS g' T → FrL g g' → Zm w (d + 16) mX10_digest 139 [some (aR (some 0)), some (aL (hsh (fun i => opCalled T D (p : Int) (i : Int)) 4 h)), none, some (aI ((p : Int))), some (aI (D + 16)), none] [] g' P) : Zm w (d + 16) mX10_digest 149 [some (aR (some 0)), some (aL (h)), none, some (aI ((p : Int))), some (aI (D : Int)), some (aI (0))] [] g P := by
  have hP := hT.1.BO.2
  have hN := nN_le hT.1.BO
  have n4 : nm 4 = 4 := by decide
  have e4 : nm ((4 : Nat) : Int) = 4 := by decide
  refine loopN (σ := Int × GI) (fun i s => Zm w (d + 16) mX10_digest 149 [some (aR (some 0)), some (aL (s.1)), none, some (aI ((p : Int))), some (aI (D : Int)), some (aI ((i : Int)))] [] s.2 P) (fun i s => IS s.2 T ∧ FrL g s.2 ∧ s.1 = hsh (fun i => opCalled T D (p : Int) (i : Int)) i h) 4 ?_ ?_ 0 (h, g) (Nat.zero_le _) ⟨hs, FrL.rfl, rfl⟩
  · intro ⟨v, g1⟩ ⟨r1, r2, r3⟩
    dsimp only at r1 r2 r3
    refine s_X10_digest_149 (d := d + 10) _ _ _ _ ?_
    dsimp only
    rw [n4, e4]
    refine ⟨fun _ => ?_, fun y => absurd y (by omega)⟩
    rw [r3]; exact k g1 r1 r2
  · intro i ⟨v, g1⟩ hi ⟨r1, r2, r3⟩ ih
    dsimp only at r1 r2 r3
    have ei : nm (i : Int) = i := nm_id (by omega) (by omega)
    refine s_X10_digest_149 (d := d + 10) _ _ _ _ ?_
    dsimp only
    rw [n4, ei]
    refine ⟨fun y => absurd y (by omega), fun _ => ?_⟩
    exact k_called hT r1.1 (nm_id (by omega) (by omega)) (nm_id (by omega) (by omega)) ei (fun g2 s2 f2 => ⟨_, rfl, fun v4 e4 => ih (v4, g2) ⟨s2, r2.trans f2, by rw [e4, r3]; rfl⟩⟩)
theorem kd_323a {h : Int} {x : Nat} (hx : x < nN T.1.1) (hT : GT T) (hs : IS g T) (k : ∀ g', IS g' T → FrL g g' → Zm w (d + 16) mX10_digest 309 [some (aR (some 0)), some (aL (dN T x h)), none, some (aI ((x : Int) + 1)), none, none] [] g' P) : Zm w (d + 16) mX10_digest 323 [some (aR (some 0)), some (aL (h)), none, some (aI ((x : Int))), some (aI (0)), none] [] g P := by
  have hP := hT.1.BO.2
  have hN := nN_le hT.1.BO
  have n3 : nm 3 = 3 := by decide
  have e3 : nm ((3 : Nat) : Int) = 3 := by decide
  refine loopN (σ := Int × GI) (fun i s => Zm w (d + 16) mX10_digest 323 [some (aR (some 0)), some (aL (s.1)), none, some (aI ((x : Int))), some (aI ((i : Int))), none] [] s.2 P) (fun i s => IS s.2 T ∧ FrL g s.2 ∧ s.1 = hsh (fun j => opName T 9 (x : Int) (j : Int)) i h) 3 ?_ ?_ 0 (h, g) (Nat.zero_le _) ⟨hs, FrL.rfl, rfl⟩
  · intro ⟨v, g1⟩ ⟨r1, r2, r3⟩
    dsimp only at r1 r2 r3
    refine s_X10_digest_323 (d := d + 10) _ _ _ ?_
    dsimp only
    rw [n3, e3]
    refine ⟨fun _ => ?_, fun y => absurd y (by omega)⟩
    refine k_name hT r1.1 (by decide) (nm_id (by omega) (by omega)) (by decide) (fun g2 s2 f2 => ⟨_, rfl, fun v4 e4 => ?_⟩)
    have e : v4 = dN T x h := by rw [e4, r3]; rfl
    rw [e]; exact k g2 s2 (r2.trans f2)
  · intro i ⟨v, g1⟩ hi ⟨r1, r2, r3⟩ ih
    dsimp only at r1 r2 r3
    have ei : nm (i : Int) = i := nm_id (by omega) (by omega)
    refine s_X10_digest_323 (d := d + 10) _ _ _ ?_
    dsimp only
    rw [n3, ei]
    refine ⟨fun y => absurd y (by omega), fun _ => ?_⟩
    exact k_name hT r1.1 (by decide) (nm_id (by omega) (by omega)) ei (fun g2 s2 f2 => ⟨_, rfl, fun v4 e4 => ih (v4, g2) ⟨s2, r2.trans f2, by rw [e4, r3]; rfl⟩⟩)
theorem kd_95 {h : Int} (hT : GT T) (hs : IS g T) (k : ∀ g', IS g' T → FrL g g' → Zm w (d + 16) mX10_digest 192 [some (aR (some 0)), some (aL (itN (dP T) (nP T.1.1.2) h)), none, some (aI (0)), none, none] [] g' P) : Zm w (d + 16) mX10_digest 95 [some (aR (some 0)), some (aL (h)), none, some (aI (0)), none, none] [] g P := by
  have hP := hT.1.BO.2
  have n19 : nm 19 = 19 := by decide
  have n3 : nm 3 = 3 := by decide
  refine loopN (σ := Int × GI) (fun i s => Zm w (d + 16) mX10_digest 95 [some (aR (some 0)), some (aL (s.1)), none, some (aI ((i : Int))), none, none] [] s.2 P) (fun i s => IS s.2 T ∧ FrL g s.2 ∧ s.1 = itN (dP T) i h) (nP T.1.1.2) ?_ ?_ 0 (h, g) (Nat.zero_le _) ⟨hs, FrL.rfl, rfl⟩
  · intro ⟨v, g1⟩ ⟨r1, r2, r3⟩
    dsimp only at r1 r2 r3
    refine s_X10_digest_95 (d := d + 10) _ _ ?_
    dsimp only
    rw [r1.2.2.1.2.1, nmP hT]
    refine ⟨fun _ => ?_, fun y => absurd y (by omega)⟩
    rw [r3]; exact k g1 r1 r2
  · intro i ⟨v, g1⟩ hi ⟨r1, r2, r3⟩ ih
    dsimp only at r1 r2 r3
    have ei : nm (i : Int) = i := nm_id (by omega) (by omega)
    refine s_X10_digest_95 (d := d + 10) _ _ ?_
    dsimp only
    rw [r1.2.2.1.2.1, nmP hT, ei]
    refine ⟨fun y => absurd y (by omega), fun _ => ?_⟩
    refine kd_109 hi hT r1 (fun g2 s2 f2 => ?_)
    refine s_X10_digest_139 (d := d + 10) _ _ _ ?_
    rw [n19, n3]
    refine ⟨fun y => absurd y (by omega), fun _ => ?_⟩
    refine kd_149 (D := 3) (by omega) hi hT s2 (fun g3 s3 f3 => ?_)
    refine s_X10_digest_139 (d := d + 10) _ _ _ ?_
    rw [n19, show nm (3 + 16) = 19 by decide]
    refine ⟨fun y => absurd y (by omega), fun _ => ?_⟩
    refine kd_149 (D := 3 + 16) (by omega) hi hT s3 (fun g4 s4 f4 => ?_)
    refine s_X10_digest_139 (d := d + 10) _ _ _ ?_
    rw [n19, show nm (3 + 16 + 16) = 35 by decide]
    refine ⟨fun _ => ?_, fun y => absurd y (by omega)⟩
    exact ih (_, g4) ⟨s4, ((r2.trans f2).trans f3).trans f4, by rw [r3]; rfl⟩
theorem kd_192 {h : Int} (hth : Th th) (hT : GT T) (hs : IS g T) (k : ∀ g', IS g' T → FrL g g' → Zm w (d + 16) mX10_digest 309 [some (aR (some 0)), some (aL (itN (dM th T) (nP T.1.1.2) h)), none, some (aI (0)), none, none] [] g' P) : Zm w (d + 16) mX10_digest 192 [some (aR (some 0)), some (aL (h)), none, some (aI (0)), none, none] [] g P := by
  have hP := hT.1.BO.2
  refine loopN (σ := Int × GI) (fun i s => Zm w (d + 16) mX10_digest 192 [some (aR (some 0)), some (aL (s.1)), none, some (aI ((i : Int))), none, none] [] s.2 P) (fun i s => IS s.2 T ∧ FrL g s.2 ∧ s.1 = itN (dM th T) i h) (nP T.1.1.2) ?_ ?_ 0 (h, g) (Nat.zero_le _) ⟨hs, FrL.rfl, rfl⟩
  · intro ⟨v, g1⟩ ⟨r1, r2, r3⟩
    dsimp only at r1 r2 r3
    refine s_X10_digest_192 (d := d + 10) _ _ ?_
    dsimp only
    rw [r1.2.2.1.2.1, nmP hT]
    refine ⟨fun _ => ?_, fun y => absurd y (by omega)⟩
    rw [r3]; exact k g1 r1 r2
  · intro i ⟨v, g1⟩ hi ⟨r1, r2, r3⟩ ih
    dsimp only at r1 r2 r3
    have ei : nm (i : Int) = i := nm_id (by omega) (by omega)
    refine s_X10_digest_192 (d := d + 10) _ _ ?_
    dsimp only
    rw [r1.2.2.1.2.1, nmP hT, ei]
    refine ⟨fun y => absurd y (by omega), fun _ => ?_⟩
    refine k_returns hT r1.1 ei (by decide) (by decide) (by decide) (fun g2 z2 h2 s2 f2 => ⟨z2, rfl, fun v2 e2 => ?_⟩)
    have e2 : v2 = dM1 th T i v := by rw [e2, hth.ret h2]; rfl
    refine k_returns hT s2.1 ei (by decide) (by decide) (by decide) (fun g3 z3 h3 s3 f3 => ⟨z3, rfl, fun v3 e3 => ?_⟩)
    have e3 : v3 = dM2 th T i v := by rw [e3, hth.ret h3, e2]; rfl
    refine k_lucky hT s3.1 ei (fun g4 z4 h4 s4 f4 => ⟨z4, rfl, fun v4 e4 => ?_⟩)
    have e4 : v4 = dM3 th T i v := by rw [e4, hth.lucky h4, e3]; rfl
    refine k_flooded hT s4.1 (by decide) (by decide) ei (by decide) (by decide) (fun g5 s5 f5 => ⟨_, rfl, fun v5 e5 => ?_⟩)
    have e5 : v5 = dM4 th T i v := by rw [e5, e4]; rfl
    refine k_flooded hT s5.1 (by decide) (by decide) ei (by decide) (by decide) (fun g6 s6 f6 => ⟨_, rfl, fun v6 e6 => ?_⟩)
    have e6 : v6 = dM5 th T i v := by rw [e6, e5]; rfl
    refine k_crowd hT s6.1 (by decide) ei (fun g7 s7 f7 => ⟨_, rfl, fun v7 e7 => ?_⟩)
    have e7 : v7 = dM th T i v := by rw [e7, e6]; rfl
    exact ih (v7, g7) ⟨s7, (((((r2.trans f2).trans f3).trans f4).trans f5).trans f6).trans f7, by rw [e7, r3]; rfl⟩
theorem kd_309 {h : Int} (hT : GT T) (hs : IS g T) (k : ∀ g', IS g' T → FrL g g' → Zm w (d + 16) mX10_digest 376 [some (aR (some 0)), some (aL (itN (dN T) (nN T.1.1) h)), none, some (aI (0)), none, none] [] g' P) : Zm w (d + 16) mX10_digest 309 [some (aR (some 0)), some (aL (h)), none, some (aI (0)), none, none] [] g P := by
  have hN := nN_le hT.1.BO
  have eN : nm ((nR T.1.1.1 : Int) + (nP T.1.1.2 : Int)) = (nN T.1.1 : Int) := by
    have : nN T.1.1 = nR T.1.1.1 + nP T.1.1.2 := rfl
    rw [nm_id (by omega) (by omega)]; omega
  refine loopN (σ := Int × GI) (fun i s => Zm w (d + 16) mX10_digest 309 [some (aR (some 0)), some (aL (s.1)), none, some (aI ((i : Int))), none, none] [] s.2 P) (fun i s => IS s.2 T ∧ FrL g s.2 ∧ s.1 = itN (dN T) i h) (nN T.1.1) ?_ ?_ 0 (h, g) (Nat.zero_le _) ⟨hs, FrL.rfl, rfl⟩
  · intro ⟨v, g1⟩ ⟨r1, r2, r3⟩
    dsimp only at r1 r2 r3
    have ei : nm (nN T.1.1 : Int) = nN T.1.1 := nm_id (by omega) (by omega)
    refine s_X10_digest_309 (d := d + 10) _ _ ?_
    dsimp only
    rw [r1.2.2.1.1.2.1, r1.2.2.1.2.1, eN, ei]
    refine ⟨fun _ => ?_, fun y => absurd y (by omega)⟩
    rw [r3]; exact k g1 r1 r2
  · intro i ⟨v, g1⟩ hi ⟨r1, r2, r3⟩ ih
    dsimp only at r1 r2 r3
    have ei : nm (i : Int) = i := nm_id (by omega) (by omega)
    refine s_X10_digest_309 (d := d + 10) _ _ ?_
    dsimp only
    rw [r1.2.2.1.1.2.1, r1.2.2.1.2.1, eN, ei]
    refine ⟨fun y => absurd y (by omega), fun _ => ?_⟩
    exact kd_323a hi hT r1 (fun g2 s2 f2 => ih (_, g2) ⟨s2, r2.trans f2, by rw [r3]; rfl⟩)
theorem kd_376 {h : Int} (hth : Th th) (hT : GT T) (hs : IS g T) (k : ∀ g', IS g' T → FrL g g' → P (some (aL (dE th T (hsh (fun k => opChanges T (k : Int)) T.1.2.1.length h)))) g') : Zm w (d + 16) mX10_digest 376 [some (aR (some 0)), some (aL (h)), none, some (aI (0)), none, none] [] g P := by
  have hl := hT.1.2.2.2.2.1.1
  have el : nm (T.1.2.1.length : Int) = T.1.2.1.length := nm_id (by omega) (by omega)
  refine loopN (σ := Int × GI) (fun i s => Zm w (d + 16) mX10_digest 376 [some (aR (some 0)), some (aL (s.1)), none, some (aI ((i : Int))), none, none] [] s.2 P) (fun i s => IS s.2 T ∧ FrL g s.2 ∧ s.1 = hsh (fun k => opChanges T (k : Int)) i h) T.1.2.1.length ?_ ?_ 0 (h, g) (Nat.zero_le _) ⟨hs, FrL.rfl, rfl⟩
  · intro ⟨v, g1⟩ ⟨r1, r2, r3⟩
    dsimp only at r1 r2 r3
    have hlen : g1 2 3 = (T.1.2.1.length : Int) := r1.1.1.2.2.1.1
    refine s_X10_digest_376 (d := d + 10) _ _ ?_
    dsimp only
    rw [hlen, el]
    refine ⟨fun _ => ?_, fun y => absurd y (by omega)⟩
    rw [← r3] at k
    clear r3
    refine k_same hT r1.1 (by decide) (fun g2 s2 f2 => ⟨_, rfl, fun v2 e2 => ?_⟩)
    have e2 : v2 = dE1 T v := e2
    refine k_first hT s2.1 (by decide) (fun g3 z3 h3 s3 f3 => ⟨z3, rfl, fun v3 e3 => ?_⟩)
    have e3 : v3 = dE2 th T v := by rw [e3, hth.first h3, e2]; rfl
    refine k_first hT s3.1 (by decide) (fun g4 z4 h4 s4 f4 => ⟨z4, rfl, fun v4 e4 => ?_⟩)
    have e4 : v4 = dE3 th T v := by rw [e4, hth.first h4, e3]; rfl
    refine k_net hT s4.1 (by decide) (by decide) (fun g5 s5 f5 => ⟨_, rfl, fun v5 e5 => ?_⟩)
    have e5 : v5 = dE4 th T v := by rw [e5, e4]; rfl
    refine k_net hT s5.1 (by decide) (by decide) (fun g6 s6 f6 => ⟨_, rfl, fun v6 e6 => ?_⟩)
    have e6 : v6 = dE5 th T v := by rw [e6, e5]; rfl
    refine k_never hT s6.1 (fun g7 z7 h7 s7 f7 => ⟨z7, rfl, fun v7 e7 => ?_⟩)
    have e7 : v7 = dE6 th T v := by rw [e7, hth.bits h7, e6]; rfl
    refine k_ask hT s7.1 (by decide) (fun g8 s8 f8 => ⟨_, rfl, fun v8 e8 => ?_⟩)
    have e8 : v8 = dE7 th T v := by rw [e8, e7]; rfl
    refine k_crowd hT s8.1 (by decide) (by decide) (fun g9 s9 f9 => ⟨_, rfl, ?_⟩)
    rw [e8]
    exact k g9 s9 ((((((((r2.trans f2).trans f3).trans f4).trans f5).trans f6).trans f7).trans f8).trans f9)
  · intro i ⟨v, g1⟩ hi ⟨r1, r2, r3⟩ ih
    dsimp only at r1 r2 r3
    have hlen : g1 2 3 = (T.1.2.1.length : Int) := r1.1.1.2.2.1.1
    have ei : nm (i : Int) = i := nm_id (by omega) (by omega)
    refine s_X10_digest_376 (d := d + 10) _ _ ?_
    dsimp only
    rw [hlen, el, ei]
    refine ⟨fun y => absurd y (by omega), fun _ => ?_⟩
    exact k_changes hT r1.1 ei (fun g2 s2 f2 => ⟨_, rfl, fun v4 e4 => ih (v4, g2) ⟨s2, r2.trans f2, by rw [e4, r3]; rfl⟩⟩)
theorem k_digest (hth : Th th) (hT : GT T) (h : IC g T) (k : ∀ g', IC g' T → FrL g g' → P (some (aL (opDigest th T))) g') : Zm w (d + 16) mX10_digest 0 [some (aR (some 0)), none, none, none, none, none] [] g P := by
  refine s_X10_digest_0 (d := d + 10) ?_
  refine k_settle hT h (fun g1 s1 f1 => ⟨rfl, ?_⟩)
  refine kd_10 hth hT s1 (fun g2 s2 f2 => ?_)
  refine kd_37 hth hT s2 (fun g3 s3 f3 => ?_)
  refine kd_63 hth hT s3 (fun g4 s4 f4 => ?_)
  refine kd_95 hT s4 (fun g5 s5 f5 => ?_)
  refine kd_192 hth hT s5 (fun g6 s6 f6 => ?_)
  refine kd_309 hT s6 (fun g7 s7 f7 => ?_)
  refine kd_376 hth hT s7 (fun g8 s8 f8 => ?_)
  exact k g8 s8.1 (((((((f1.trans f2).trans f3).trans f4).trans f5).trans f6).trans f7).trans f8)
end DG
