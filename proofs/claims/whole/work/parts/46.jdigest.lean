/-! the digest of the model -/
section DJ
variable {w : GX} {d : Nat} {P : PN} {g : GI} {T : TT} {th : (Int → Prop) → Int}
theorem RM.river {g g' : GI} (h : RM g T) (hw : WRM g' T.1.1.1) (f : ∀ b, b ≠ 228 → b ≠ 235 → b ≠ 236 → g' b = g b) (f8 : ∀ j, j ≠ 7 → j ≠ 12 → g' 228 j = g 228 j) : RM g' T := by
  refine ⟨h.1.keep (fun b _ _ _ => f b (by omega) (by omega) (by omega)) (fun j hj => f8 j (by omega) (by omega)) (fun j _ => by rw [f 238 (by omega) (by omega) (by omega)]) (fun j _ => by rw [f 239 (by omega) (by omega) (by omega)]) (f 240 (by omega) (by omega) (by omega)) (f 248 (by omega) (by omega) (by omega)), ?_⟩
  obtain ⟨⟨-, b1, b2⟩, c, ⟨d1, d2, d3⟩, e, f13⟩ := h.2
  have f237 := f 237 (by omega) (by omega) (by omega)
  have f238 := f 238 (by omega) (by omega) (by omega)
  have f239 := f 239 (by omega) (by omega) (by omega)
  have f240 := f 240 (by omega) (by omega) (by omega)
  exact ⟨⟨hw, by rw [f8 10 (by omega) (by omega)]; exact b1, by rw [f237]; exact b2⟩, ⟨by rw [f8 14 (by omega) (by omega)]; exact c.1, by rw [f238]; exact c.2.1, by rw [f8 16 (by omega) (by omega)]; exact c.2.2.1, by rw [f239]; exact c.2.2.2⟩, ⟨d1, d2.same (f8 18 (by omega) (by omega)) f240, by rw [f8 30 (by omega) (by omega)]; exact d3⟩, ⟨by rw [f8 27 (by omega) (by omega)]; exact e.1, by rw [f8 28 (by omega) (by omega)]; exact e.2.1, fun p hp => by rw [f8 28 (by omega) (by omega), f8 29 (by omega) (by omega), f237]; exact e.2.2 p hp⟩, by rw [f8 13 (by omega) (by omega)]; exact f13⟩
theorem RM.people {g g' : GI} (hT : GT T) (h : RM g T) (hw : WPM g' T.1.1.2) (f : ∀ b, b ≠ 228 → b ≠ 237 → g' b = g b) (f8 : ∀ j, j ≠ 10 → g' 228 j = g 228 j) : RM g' T := by
  refine ⟨h.1.keep (fun b _ _ _ => f b (by omega) (by omega)) (fun j hj => f8 j (by omega)) (fun j _ => by rw [f 238 (by omega) (by omega)]) (fun j _ => by rw [f 239 (by omega) (by omega)]) (f 240 (by omega) (by omega)) (f 248 (by omega) (by omega)), ?_⟩
  obtain ⟨⟨⟨a1, a2, a3⟩, -⟩, c, ⟨d1, d2, d3⟩, e, f13⟩ := h.2
  have h28 := h.1.2.2.2.2.1.2.2.2.1
  refine ⟨⟨⟨by rw [f8 7 (by omega)]; exact a1, by rw [f8 12 (by omega)]; exact a2, by rw [f 235 (by omega) (by omega), f 236 (by omega) (by omega)]; exact a3⟩, hw⟩, ⟨by rw [f8 14 (by omega)]; exact c.1, by rw [f 238 (by omega) (by omega)]; exact c.2.1, by rw [f8 16 (by omega)]; exact c.2.2.1, by rw [f 239 (by omega) (by omega)]; exact c.2.2.2⟩, ⟨d1, d2.same (f8 18 (by omega)) (f 240 (by omega) (by omega)), by rw [f8 30 (by omega)]; exact d3⟩, ⟨by rw [f8 27 (by omega)]; exact e.1, by rw [f8 28 (by omega)]; exact e.2.1, fun p hp => ?_⟩, by rw [f8 13 (by omega)]; exact f13⟩
  rw [f8 28 (by omega), h28, if_neg (by omega), (hw.2 p hp).2.2.2]
  have := luk_rng hT.1.2.2.2.1 hp
  show _ = (((lukF T.1.1.2 p).toNat : Nat) : Int)
  omega
theorem opPerson_at {p i : Nat} (hp : p < nP T.1.1.2) (hi : i < 4) : opPerson T (p : Int) (i : Int) = perV T p (i : Int) := by
  unfold opPerson; rw [if_pos (by omega), Int.toNat_natCast]
theorem opCalled_at {n p i : Nat} (hn : n < 20) (hp : p < nP T.1.1.2) (hi : i < 4) : opCalled T (n : Int) (p : Int) (i : Int) = calV T (ahS T.1 (n + 1)) p (i : Int) := by
  unfold opCalled; rw [if_pos (by omega), Int.toNat_natCast, Int.toNat_natCast]
theorem opName_at {n x i : Nat} (hn : n < 20) (hx : x < nN T.1.1) (hi : i < 3) : opName T (n : Int) (x : Int) (i : Int) = namV T (ahS T.1 (n + 1)) x (i : Int) := by
  unfold opName; rw [if_pos (by omega), Int.toNat_natCast, Int.toNat_natCast]
theorem jd_6 {h : Int} (hth : Th th) (hT : GT T) (hs : IM g T) (k : ∀ g', RM g' T → FrH g g' → Zm w (d + 8) mX11_digest 57 [some (aR (some 228)), some (aL (hsh (vFlt th T) 2 (hsh (fun k => opCount T (k : Int)) 8 h))), none, some (aI (0)), none] [] g' P) : Zm w (d + 8) mX11_digest 6 [some (aR (some 228)), some (aL (h)), none, some (aI (0)), none] [] g P := by
  have n8 : nm 8 = 8 := by decide
  have e8 : nm ((8 : Nat) : Int) = 8 := by decide
  refine loopN (σ := Int × GI) (fun i s => Zm w (d + 8) mX11_digest 6 [some (aR (some 228)), some (aL (s.1)), none, some (aI ((i : Int))), none] [] s.2 P) (fun i s => IM s.2 T ∧ (0 < i → RM s.2 T) ∧ FrH g s.2 ∧ s.1 = hsh (fun k => opCount T (k : Int)) i h) 8 ?_ ?_ 0 (h, g) (Nat.zero_le _) ⟨hs, fun y => absurd y (Nat.lt_irrefl 0), FrH.rfl, rfl⟩
  · intro ⟨v, g1⟩ ⟨_, r1, r2, r3⟩
    dsimp only at r1 r2 r3
    have r1 := r1 (by omega)
    refine s_X11_digest_6 _ _ ?_
    dsimp only
    rw [n8, e8]
    refine ⟨fun _ => ?_, fun y => absurd y (by omega)⟩
    refine c_readsRiver r1.1.1 hT.1.1 hT.1.2.1 (fun g2 z2 h2 w2 f2 f8 => ⟨z2, rfl, fun v2 e2 => ?_⟩)
    have s2 := r1.river w2 f2 f8
    have t2 : FrH g g2 := fun b hb => by rw [f2 b (by omega) (by omega) (by omega)]; exact r2 b hb
    have q2 : z2 = vFlt th T 0 := hth.fault (Or.inr (Or.inl ⟨rfl, h2⟩))
    refine c_readsPeople s2.1.1 hT.1.2.2.1 hT.1.2.2.2.1 (fun g3 z3 h3 w3 f3 f38 => ⟨z3, rfl, fun v3 e3 => ?_⟩)
    have s3 := s2.people hT w3 f3 f38
    have t3 : FrH g g3 := fun b hb => by rw [f3 b (by omega) (by omega)]; exact t2 b hb
    have q3 : z3 = vFlt th T 1 := hth.fault (Or.inr (Or.inr ⟨rfl, h3⟩))
    have e : v3 = hsh (vFlt th T) 2 (hsh (fun k => opCount T (k : Int)) 8 h) := by rw [e3, e2, q2, q3, r3]; rfl
    rw [e]
    exact k g3 s3 t3
  · intro i ⟨v, g1⟩ hi ⟨r1, _, r2, r3⟩ ih
    dsimp only at r1 r2 r3
    have ei : nm (i : Int) = i := nm_id (by omega) (by omega)
    refine s_X11_digest_6 _ _ ?_
    dsimp only
    rw [n8, ei]
    refine ⟨fun y => absurd y (by omega), fun _ => ?_⟩
    exact j_count hT r1 ei (fun g2 s2 f2 => ⟨_, rfl, fun v4 e4 => ih (v4, g2) ⟨s2.1, fun _ => s2, r2.trans f2, by rw [e4, r3]; rfl⟩⟩)
theorem jd_57 {h : Int} (hT : GT T) (hs : RM g T) (k : Zm w (d + 8) mX11_digest 87 [some (aR (some 228)), some (aL (hsh (fun c => opCell T (c : Int)) (nC T.1.1.1) h)), none, some (aI (0)), none] [] g P) : Zm w (d + 8) mX11_digest 57 [some (aR (some 228)), some (aL (h)), none, some (aI (0)), none] [] g P := by
  have hC := nC_le T.1.1.1
  have hB := hT.1.BO.1
  refine loopN (σ := Int) (fun i v => Zm w (d + 8) mX11_digest 57 [some (aR (some 228)), some (aL (v)), none, some (aI ((i : Int))), none] [] g P) (fun i v => v = hsh (fun c => opCell T (c : Int)) i h) (nC T.1.1.1) ?_ ?_ 0 h (Nat.zero_le _) rfl
  · intro v r3
    refine s_X11_digest_57 _ _ ?_
    rw [hs.2.1.1.1, nmC hT]
    refine ⟨fun _ => ?_, fun y => absurd y (by omega)⟩
    rw [r3]; exact k
  · intro i v hi r3 ih
    have ei : nm (i : Int) = i := nm_id (by omega) (by omega)
    refine s_X11_digest_57 _ _ ?_
    rw [hs.2.1.1.1, nmC hT, ei, Int.toNat_natCast, (hs.2.1.1.2.2 i hi).1]
    refine ⟨fun y => absurd y (by omega), fun _ => ⟨by omega, by omega, fun v6 e6 => ih v6 ?_⟩⟩
    have : opCell T (i : Int) = kob (by_ T.1.1.1 i) := by unfold opCell; rw [if_pos (by omega), if_pos (by omega), Int.toNat_natCast]
    rw [e6, r3, ← this]; rfl
theorem j_tellsPerson {h : Int} {p : Nat} (hT : GT T) (hs : RM g T) (hp : p < nP T.1.1.2) (k : ∀ g', RM g' T → FrH g g' → P (some (aL (dP T p h))) g') : Zm w (d + 5) mX11_tellsPerson 0 [some (aR (some 228)), some (aL h), none, some (aI (p : Int)), none, none, none] [] g P := by
  have hP := hT.1.BO.2
  have n4 : nm 4 = 4 := by decide
  have n8 : nm 8 = 8 := by decide
  have e4 : nm ((4 : Nat) : Int) = 4 := by decide
  refine s_X11_tellsPerson_0 _ _ ?_
  -- called on two days
  have L2 : ∀ h1, h1 = hsh (fun i => opPerson T (p : Int) (i : Int)) 4 h → Zm w (d + 5) mX11_tellsPerson 42 [some (aR (some 228)), none, none, some (aI (p : Int)), some (aL h1), none, some (aI 0)] [] g P := by
    intro h1 eh1
    have L3 : ∀ g1 v1, RM g1 T → FrH g g1 → v1 = hsh (fun i => opCalled T 3 (p : Int) (i : Int)) 4 h1 → Zm w (d + 5) mX11_tellsPerson 42 [some (aR (some 228)), none, none, some (aI (p : Int)), some (aL v1), none, some (aI ((4 + 0 : Nat) : Int))] [] g1 P := by
      intro g1 v1 s1 f1 ev1
      refine loopN (σ := Int × GI) (fun i s => Zm w (d + 5) mX11_tellsPerson 42 [some (aR (some 228)), none, none, some (aI (p : Int)), some (aL s.1), none, some (aI ((4 + i : Nat) : Int))] [] s.2 P) (fun i s => RM s.2 T ∧ FrH g s.2 ∧ s.1 = hsh (fun i => opCalled T 19 (p : Int) (i : Int)) i v1) 4 ?_ ?_ 0 (v1, g1) (Nat.zero_le _) ⟨s1, f1, rfl⟩
      · intro ⟨v, g2⟩ ⟨r1, r2, r3⟩
        dsimp only at r1 r2 r3
        refine s_X11_tellsPerson_42 _ _ _ ?_
        dsimp only
        rw [n8, show nm ((4 + 4 : Nat) : Int) = 8 by decide]
        refine ⟨fun _ => ?_, fun y => absurd y (by omega)⟩
        have e : v = dP T p h := by rw [r3, ev1, eh1]; rfl
        rw [e]; exact k g2 r1 r2
      · intro i ⟨v, g2⟩ hi ⟨r1, r2, r3⟩ ih
        dsimp only at r1 r2 r3
        have ei : nm ((4 + i : Nat) : Int) = ((4 + i : Nat) : Int) := nm_id (by omega) (by omega)
        refine s_X11_tellsPerson_42 _ _ _ ?_
        dsimp only
        rw [n8, n4, ei]
        refine ⟨fun y => absurd y (by omega), fun _ => ⟨fun _ => ?_, fun y => absurd y (by omega)⟩⟩
        refine s_X11_tellsPerson_68 _ _ _ _ ?_
        have er : iRem ((4 + i : Nat) : Int) 4 = (i : Int) := by
          have := iRem_nat (a := 4 + i) (b := 4) (by omega) (by omega) (by omega)
          rw [show (4 + i) % 4 = i by omega] at this
          exact this
        rw [er]
        refine j_calledOf (n := 19) hT r1 (by omega) rfl hp (nm_id (by omega) (by omega)) (fun g3 s3 f3 => ⟨_, rfl, fun v3 e3 => ih (v3, g3) ⟨s3, r2.trans f3, ?_⟩⟩)
        rw [← opCalled_at (by omega) hp hi] at e3
        rw [e3, r3]; rfl
    refine loopN (σ := Int × GI) (fun i s => Zm w (d + 5) mX11_tellsPerson 42 [some (aR (some 228)), none, none, some (aI (p : Int)), some (aL s.1), none, some (aI (i : Int))] [] s.2 P) (fun i s => RM s.2 T ∧ FrH g s.2 ∧ s.1 = hsh (fun i => opCalled T 3 (p : Int) (i : Int)) i h1) 4 ?_ ?_ 0 (h1, g) (Nat.zero_le _) ⟨hs, FrH.rfl, rfl⟩
    · intro ⟨v, g2⟩ ⟨r1, r2, r3⟩
      exact L3 g2 v r1 r2 r3
    · intro i ⟨v, g2⟩ hi ⟨r1, r2, r3⟩ ih
      dsimp only at r1 r2 r3
      have ei : nm (i : Int) = (i : Int) := nm_id (by omega) (by omega)
      refine s_X11_tellsPerson_42 _ _ _ ?_
      dsimp only
      rw [n8, n4, ei]
      refine ⟨fun y => absurd y (by omega), fun _ => ⟨fun y => absurd y (by omega), fun _ => ?_⟩⟩
      refine s_X11_tellsPerson_68 _ _ _ _ ?_
      have er : iRem (i : Int) 4 = (i : Int) := by
        have := iRem_nat (a := i) (b := 4) (by omega) (by omega) (by omega)
        rw [show i % 4 = i by omega] at this
        exact this
      rw [er]
      refine j_calledOf (n := 3) hT r1 (by omega) rfl hp ei (fun g3 s3 f3 => ⟨_, rfl, fun v3 e3 => ih (v3, g3) ⟨s3, r2.trans f3, ?_⟩⟩)
      rw [← opCalled_at (by omega) hp hi] at e3
      rw [e3, r3]; rfl
  refine loopN (σ := Int) (fun i v => Zm w (d + 5) mX11_tellsPerson 6 [some (aR (some 228)), none, none, some (aI (p : Int)), some (aL v), none, some (aI (i : Int))] [] g P) (fun i v => v = hsh (fun i => opPerson T (p : Int) (i : Int)) i h) 4 ?_ ?_ 0 h (Nat.zero_le _) rfl
  · intro v r3
    refine s_X11_tellsPerson_6 _ _ _ ?_
    rw [n4, e4]
    exact ⟨fun _ => L2 v r3, fun y => absurd y (by omega)⟩
  · intro i v hi r3 ih
    have ei : nm (i : Int) = (i : Int) := nm_id (by omega) (by omega)
    have ev : nm (4 * (p : Int) + (i : Int)) = ((4 * p + i : Nat) : Int) := by rw [nm_id (by omega) (by omega)]; omega
    refine s_X11_tellsPerson_6 _ _ _ ?_
    rw [n4, ei, ev, Int.toNat_natCast, perM (T := T) hs.2.1 hp hi, ← opPerson_at hp hi]
    exact ⟨fun y => absurd y (by omega), fun _ => ⟨by omega, by omega, fun v6 e6 => ih v6 (by rw [e6, r3]; rfl)⟩⟩
theorem jd_87 {h : Int} (hT : GT T) (hs : RM g T) (k : ∀ g', RM g' T → FrH g g' → Zm w (d + 8) mX11_digest 110 [some (aR (some 228)), some (aL (itN (dP T) (nP T.1.1.2) h)), none, some (aI (0)), none] [] g' P) : Zm w (d + 8) mX11_digest 87 [some (aR (some 228)), some (aL (h)), none, some (aI (0)), none] [] g P := by
  have hP := hT.1.BO.2
  refine loopN (σ := Int × GI) (fun i s => Zm w (d + 8) mX11_digest 87 [some (aR (some 228)), some (aL (s.1)), none, some (aI ((i : Int))), none] [] s.2 P) (fun i s => RM s.2 T ∧ FrH g s.2 ∧ s.1 = itN (dP T) i h) (nP T.1.1.2) ?_ ?_ 0 (h, g) (Nat.zero_le _) ⟨hs, FrH.rfl, rfl⟩
  · intro ⟨v, g1⟩ ⟨r1, r2, r3⟩
    dsimp only at r1 r2 r3
    refine s_X11_digest_87 _ _ ?_
    dsimp only
    rw [r1.2.1.2.1, nmP hT]
    refine ⟨fun _ => ?_, fun y => absurd y (by omega)⟩
    rw [r3]; exact k g1 r1 r2
  · intro i ⟨v, g1⟩ hi ⟨r1, r2, r3⟩ ih
    dsimp only at r1 r2 r3
    have ei : nm (i : Int) = i := nm_id (by omega) (by omega)
    refine s_X11_digest_87 _ _ ?_
    dsimp only
    rw [r1.2.1.2.1, nmP hT, ei]
    refine ⟨fun y => absurd y (by omega), fun _ => ?_⟩
    exact j_tellsPerson hT r1 hi (fun g2 s2 f2 => ⟨_, rfl, ih (_, g2) ⟨s2, r2.trans f2, by rw [r3]; rfl⟩⟩)
theorem j_tellsMore {h : Int} {p : Nat} (hth : Th th) (hT : GT T) (hs : RM g T) (hp : p < nP T.1.1.2) (k : ∀ g', RM g' T → FrH g g' → P (some (aL (dM th T p h))) g') : Zm w (d + 7) mX11_tellsMore 0 [some (aR (some 228)), some (aL h), none, some (aI (p : Int)), none, none] [] g P := by
  have hP := hT.1.BO.2
  have ep : nm (p : Int) = p := nm_id (by omega) (by omega)
  refine s_X11_tellsMore_0 _ _ ?_
  refine j_returnsOf (n := 10) hT hs hp (by decide) (by omega) (by omega) (by omega) (by decide) (by omega) (fun g2 z2 h2 s2 f2 => ⟨z2, rfl, fun v2 e2 => ?_⟩)
  have h2 : Vret T (p : Int) 2 9 (-1) z2 := Or.inr ⟨by omega, h2⟩
  have e2 : v2 = dM1 th T p h := by rw [e2, hth.ret h2]; rfl
  refine j_returnsOf (n := 10) hT s2 hp (by decide) (by omega) (by omega) (by omega) (by decide) (by omega) (fun g3 z3 h3 s3 f3 => ⟨z3, rfl, fun v3 e3 => ?_⟩)
  have h3 : Vret T (p : Int) 2 9 0 z3 := Or.inr ⟨by omega, h3⟩
  have e3 : v3 = dM2 th T p h := by rw [e3, hth.ret h3, e2]; rfl
  refine j_luckyOf hT s3 hp (fun g4 z4 h4 s4 f4 => ⟨z4, rfl, fun v4 e4 => ?_⟩)
  have h4 : Vlucky T (p : Int) z4 := Or.inr ⟨by omega, h4⟩
  have e4 : v4 = dM3 th T p h := by rw [e4, hth.lucky h4, e3]; rfl
  have hfl : ∀ x : Int, 0 ≤ x → x < 2 → opFlooded T 5 6 (p : Int) 2 x = (shV T 5 p 2 7 x : Int) := fun x h1 h2 => by
    unfold opFlooded; rw [if_pos (by omega), Int.toNat_natCast]; rfl
  refine j_floodedOf (c := 5) (n := 7) hT s4 (by omega) (by omega) (by omega) hp (by decide) (by omega) (by decide) (fun g5 s5 f5 => ⟨_, rfl, fun v5 e5 => ?_⟩)
  have e5 : v5 = dM4 th T p h := by rw [e5, e4, ← hfl 0 (by omega) (by omega)]; rfl
  refine j_floodedOf (c := 5) (n := 7) hT s5 (by omega) (by omega) (by omega) hp (by decide) (by omega) (by decide) (fun g6 s6 f6 => ⟨_, rfl, fun v6 e6 => ?_⟩)
  have e6 : v6 = dM5 th T p h := by rw [e6, e5, ← hfl 1 (by omega) (by omega)]; rfl
  refine j_crowdOf (n := 20) hT s6 (by omega) (by omega) (by omega) ep (by omega) (fun g7 s7 f7 => ⟨_, rfl, ?_⟩)
  have hcr : (if (p : Int) = -1 then (usV T (crM T 7 20) : Int) else calM T.1.1 T.2.1 (crM T 7 20) (p : Int).toNat) = opCrowd T 7 19 (p : Int) := by
    unfold opCrowd; rw [if_pos (show (0 ≤ (19 : Int) ∧ (19 : Int) < 20) ∧ ((p : Int) = -1 ∨ (0 ≤ (p : Int) ∧ (p : Int) < (nP T.1.1.2 : Int))) by omega)]; rfl
  rw [hcr, e6]
  exact k g7 s7 (((((f2.trans f3).trans f4).trans f5).trans f6).trans f7)
theorem jd_110 {h : Int} (hth : Th th) (hT : GT T) (hs : RM g T) (k : ∀ g', RM g' T → FrH g g' → Zm w (d + 8) mX11_digest 133 [some (aR (some 228)), some (aL (itN (dM th T) (nP T.1.1.2) h)), none, some (aI (0)), none] [] g' P) : Zm w (d + 8) mX11_digest 110 [some (aR (some 228)), some (aL (h)), none, some (aI (0)), none] [] g P := by
  have hP := hT.1.BO.2
  refine loopN (σ := Int × GI) (fun i s => Zm w (d + 8) mX11_digest 110 [some (aR (some 228)), some (aL (s.1)), none, some (aI ((i : Int))), none] [] s.2 P) (fun i s => RM s.2 T ∧ FrH g s.2 ∧ s.1 = itN (dM th T) i h) (nP T.1.1.2) ?_ ?_ 0 (h, g) (Nat.zero_le _) ⟨hs, FrH.rfl, rfl⟩
  · intro ⟨v, g1⟩ ⟨r1, r2, r3⟩
    dsimp only at r1 r2 r3
    refine s_X11_digest_110 _ _ ?_
    dsimp only
    rw [r1.2.1.2.1, nmP hT]
    refine ⟨fun _ => ?_, fun y => absurd y (by omega)⟩
    rw [r3]; exact k g1 r1 r2
  · intro i ⟨v, g1⟩ hi ⟨r1, r2, r3⟩ ih
    dsimp only at r1 r2 r3
    have ei : nm (i : Int) = i := nm_id (by omega) (by omega)
    refine s_X11_digest_110 _ _ ?_
    dsimp only
    rw [r1.2.1.2.1, nmP hT, ei]
    refine ⟨fun y => absurd y (by omega), fun _ => ?_⟩
    exact j_tellsMore hth hT r1 hi (fun g2 s2 f2 => ⟨_, rfl, ih (_, g2) ⟨s2, r2.trans f2, by rw [r3]; rfl⟩⟩)
theorem jd_133 {h : Int} (hT : GT T) (hs : RM g T) (k : ∀ g', RM g' T → FrH g g' → Zm w (d + 8) mX11_digest 197 [some (aR (some 228)), some (aL (itN (dN T) (nN T.1.1) h)), none, some (aI (0)), none] [] g' P) : Zm w (d + 8) mX11_digest 133 [some (aR (some 228)), some (aL (h)), none, some (aI (0)), none] [] g P := by
  have hN := nN_le hT.1.BO
  have n3 : nm 3 = 3 := by decide
  have e3 : nm ((3 : Nat) : Int) = 3 := by decide
  have eN : nm ((nR T.1.1.1 : Int) + (nP T.1.1.2 : Int)) = (nN T.1.1 : Int) := by
    have : nN T.1.1 = nR T.1.1.1 + nP T.1.1.2 := rfl
    rw [nm_id (by omega) (by omega)]; omega
  refine loopN (σ := Int × GI) (fun i s => Zm w (d + 8) mX11_digest 133 [some (aR (some 228)), some (aL (s.1)), none, some (aI ((i : Int))), none] [] s.2 P) (fun i s => RM s.2 T ∧ FrH g s.2 ∧ s.1 = itN (dN T) i h) (nN T.1.1) ?_ ?_ 0 (h, g) (Nat.zero_le _) ⟨hs, FrH.rfl, rfl⟩
  · intro ⟨v, g1⟩ ⟨r1, r2, r3⟩
    dsimp only at r1 r2 r3
    have ei : nm (nN T.1.1 : Int) = nN T.1.1 := nm_id (by omega) (by omega)
    refine s_X11_digest_133 _ _ ?_
    dsimp only
    rw [r1.2.1.1.2.1, r1.2.1.2.1, eN, ei]
    refine ⟨fun _ => ?_, fun y => absurd y (by omega)⟩
    rw [r3]; exact k g1 r1 r2
  · intro i ⟨v, g1⟩ hi ⟨r1, r2, r3⟩ ih
    dsimp only at r1 r2 r3
    have ei : nm (i : Int) = i := nm_id (by omega) (by omega)
    refine s_X11_digest_133 _ _ ?_
    dsimp only
    rw [r1.2.1.1.2.1, r1.2.1.2.1, eN, ei]
    refine ⟨fun y => absurd y (by omega), fun _ => ?_⟩
    refine loopN (σ := Int × GI) (fun j s => Zm w (d + 8) mX11_digest 144 [some (aR (some 228)), some (aL (s.1)), none, some (aI ((i : Int))), some (aI (j : Int))] [] s.2 P) (fun j s => RM s.2 T ∧ FrH g s.2 ∧ s.1 = hsh (fun j => opName T 9 (i : Int) (j : Int)) j v) 3 ?_ ?_ 0 (v, g1) (Nat.zero_le _) ⟨r1, r2, rfl⟩
    · intro ⟨v2, g2⟩ ⟨q1, q2, q3⟩
      dsimp only at q1 q2 q3
      refine s_X11_digest_144 _ _ _ ?_
      dsimp only
      rw [n3, e3]
      refine ⟨fun _ => ?_, fun y => absurd y (by omega)⟩
      refine j_nameOf (n := 19) hT q1 (by omega) rfl hi (by decide) (fun g3 s3 f3 => ⟨_, rfl, fun v3 e3 => ih (v3, g3) ⟨s3, q2.trans f3, ?_⟩⟩)
      have := opName_at (T := T) (n := 19) (x := i) (i := 0) (by omega) hi (by omega)
      rw [e3, q3, r3]
      show _ = 31 * _ + nm (opName T ((19 : Nat) : Int) (i : Int) ((0 : Nat) : Int))
      rw [this]; rfl
    · intro j ⟨v2, g2⟩ hj ⟨q1, q2, q3⟩ ih2
      dsimp only at q1 q2 q3
      have ej : nm (j : Int) = j := nm_id (by omega) (by omega)
      refine s_X11_digest_144 _ _ _ ?_
      dsimp only
      rw [n3, ej]
      refine ⟨fun y => absurd y (by omega), fun _ => ?_⟩
      refine j_nameOf (n := 9) hT q1 (by omega) rfl hi ej (fun g3 s3 f3 => ⟨_, rfl, fun v3 e3 => ih2 (v3, g3) ⟨s3, q2.trans f3, ?_⟩⟩)
      rw [← opName_at (by omega) hi hj] at e3
      rw [e3, q3]; rfl
theorem jd_197 {h : Int} (hth : Th th) (hT : GT T) (hs : RM g T) (k : ∀ g', RM g' T → FrH g g' → P (some (aL (dE th T (hsh (fun k => opChanges T (k : Int)) T.1.2.1.length h)))) g') : Zm w (d + 8) mX11_digest 197 [some (aR (some 228)), some (aL (h)), none, some (aI (0)), none] [] g P := by
  have hl := hT.1.2.2.2.2.1.1
  have el : nm (T.1.2.1.length : Int) = T.1.2.1.length := nm_id (by omega) (by omega)
  refine loopN (σ := Int × GI) (fun i s => Zm w (d + 8) mX11_digest 197 [some (aR (some 228)), some (aL (s.1)), none, some (aI ((i : Int))), none] [] s.2 P) (fun i s => RM s.2 T ∧ FrH g s.2 ∧ s.1 = hsh (fun k => opChanges T (k : Int)) i h) T.1.2.1.length ?_ ?_ 0 (h, g) (Nat.zero_le _) ⟨hs, FrH.rfl, rfl⟩
  · intro ⟨v, g1⟩ ⟨r1, r2, r3⟩
    dsimp only at r1 r2 r3
    refine s_X11_digest_197 _ _ ?_
    dsimp only
    rw [r1.2.2.1.1, el]
    refine ⟨fun _ => ?_, fun y => absurd y (by omega)⟩
    rw [← r3] at k
    clear r3
    refine j_sameOf (n := 9) hT r1 (by omega) rfl (fun g2 s2 f2 => ⟨_, rfl, fun v2 e2 => ?_⟩)
    have e2 : v2 = dE1 T v := e2
    refine j_firstOf hT s2 (by decide) (fun g3 z3 h3 s3 f3 => ⟨z3, rfl, fun v3 e3 => ?_⟩)
    have h3 : Vfirst T 0 z3 := Or.inr ⟨by omega, h3⟩
    have e3 : v3 = dE2 th T v := by rw [e3, hth.first h3, e2]; rfl
    refine j_firstOf hT s3 (by decide) (fun g4 z4 h4 s4 f4 => ⟨z4, rfl, fun v4 e4 => ?_⟩)
    have h4 : Vfirst T 1 z4 := Or.inr ⟨by omega, h4⟩
    have e4 : v4 = dE3 th T v := by rw [e4, hth.first h4, e3]; rfl
    refine j_netOf (x := 2) hT s4 (by omega) (by decide) (fun g5 s5 f5 => ⟨_, rfl, fun v5 e5 => ?_⟩)
    have e5 : v5 = dE4 th T v := by rw [e5, e4]; rfl
    refine j_netOf (x := 2) hT s5 (by omega) (by decide) (fun g6 s6 f6 => ⟨_, rfl, fun v6 e6 => ?_⟩)
    have e6 : v6 = dE5 th T v := by rw [e6, e5]; rfl
    refine j_neverNow hT s6 (fun g7 z7 h7 s7 f7 => ⟨z7, rfl, fun v7 e7 => ?_⟩)
    have e7 : v7 = dE6 th T v := by rw [e7, hth.bits h7, e6]; rfl
    refine j_askOf (n := 10) hT s7 (by omega) (by omega) (fun g8 s8 f8 => ⟨_, rfl, fun v8 e8 => ?_⟩)
    have e8 : v8 = dE7 th T v := by rw [e8, e7]; rfl
    refine j_crowdOf (n := 20) hT s8 (by omega) (by omega) (by omega) (by decide) (Or.inl rfl) (fun g9 s9 f9 => ⟨_, rfl, ?_⟩)
    rw [e8]
    exact k g9 s9 ((((((((r2.trans f2).trans f3).trans f4).trans f5).trans f6).trans f7).trans f8).trans f9)
  · intro i ⟨v, g1⟩ hi ⟨r1, r2, r3⟩ ih
    dsimp only at r1 r2 r3
    have ei : nm (i : Int) = i := nm_id (by omega) (by omega)
    refine s_X11_digest_197 _ _ ?_
    dsimp only
    rw [r1.2.2.1.1, el, ei]
    refine ⟨fun y => absurd y (by omega), fun _ => ?_⟩
    refine j_changesOf hT r1 hi rfl (fun g2 s2 f2 => ⟨_, rfl, fun v4 e4 => ih (v4, g2) ⟨s2, r2.trans f2, ?_⟩⟩)
    have : opChanges T (i : Int) = bI (chS T.1 i) := by unfold opChanges; rw [if_pos (by omega), Int.toNat_natCast]
    rw [e4, r3, ← this]; rfl
theorem j_digest (hth : Th th) (hT : GT T) (h : IM g T) (k : ∀ g', IM g' T → FrH g g' → P (some (aL (opDigest th T))) g') : Zm w (d + 8) mX11_digest 0 [some (aR (some 228)), none, none, none, none] [] g P := by
  refine s_X11_digest_0 ?_
  refine jd_6 hth hT h (fun g2 s2 f2 => ?_)
  refine jd_57 hT s2 ?_
  refine jd_87 hT s2 (fun g3 s3 f3 => ?_)
  refine jd_110 hth hT s3 (fun g4 s4 f4 => ?_)
  refine jd_133 hT s4 (fun g5 s5 f5 => ?_)
  refine jd_197 hth hT s5 (fun g6 s6 f6 => ?_)
  exact k g6 s6.1 ((((f2.trans f3).trans f4).trans f5).trans f6)
end DJ
