/-! THE COMMON VALUES: what both sides compute, over lists -/
def lst (f : Nat → Int) (n : Nat) : List Int := (List.range n).map f
def lst2 (f h : Nat → Int) (n : Nat) : List (Int × Int) := (List.range n).map (fun i => (f i, h i))
theorem lst_len (f : Nat → Int) (n : Nat) : (lst f n).length = n := by simp [lst]
theorem lst2_len (f h : Nat → Int) (n : Nat) : (lst2 f h n).length = n := by simp [lst2]
theorem lst_at {f : Nat → Int} {n i : Nat} (h : i < n) : (lst f n).getD i 0 = f i := by
  simp [lst, List.getElem?_range h, List.getD_eq_getElem?_getD]
theorem lst2_at {f k : Nat → Int} {n i : Nat} (h : i < n) : (lst2 f k n).getD i (0, 0) = (f i, k i) := by
  simp [lst2, List.getElem?_range h, List.getD_eq_getElem?_getD]
theorem lst_congr {f k : Nat → Int} {n : Nat} (h : ∀ i, i < n → f i = k i) : lst f n = lst k n := by
  unfold lst
  apply List.map_congr_left
  intro i hi
  exact h i (List.mem_range.mp hi)
theorem lst2_congr {f k f' k' : Nat → Int} {n : Nat} (h : ∀ i, i < n → f i = f' i ∧ k i = k' i) : lst2 f k n = lst2 f' k' n := by
  unfold lst2
  apply List.map_congr_left
  intro i hi
  have := h i (List.mem_range.mp hi)
  rw [this.1, this.2]
/-- a byte of a text -/
def by_ (t : List Int) (i : Nat) : Int := t.getD i 0
theorem by_at {f : Nat → Int} {n i : Nat} (h : i < n) : by_ (lst f n) i = f i := lst_at h
def rvOk (t : List Int) : Bool := (List.range t.length).all (fun i => decide (kob (by_ t i) ≠ -1))
def ppOk (t : List Int) : Bool := (List.range t.length).all (fun i => decide (fitP ((i % 6 : Nat) : Int) (by_ t i) ≠ 0)) && decide (t.length = 0 ∨ t.length % 6 = 5)
theorem rvOk_iff {t : List Int} : rvOk t = true ↔ ∀ i, i < t.length → kob (by_ t i) ≠ -1 := by simp [rvOk]
theorem ppOk_iff {t : List Int} : ppOk t = true ↔ (∀ i, i < t.length → fitP ((i % 6 : Nat) : Int) (by_ t i) ≠ 0) ∧ (t.length = 0 ∨ t.length % 6 = 5) := by
  simp [ppOk]
def nC (t0 : List Int) : Nat := if rvOk t0 then t0.length else 0
def nP (t1 : List Int) : Nat := if ppOk t1 then (t1.length + 1) / 6 else 0
def isNm (t0 : List Int) (c : Nat) : Bool := decide (kob (by_ t0 c) = 3)
def rvN (t0 : List Int) : List Nat := (List.range (nC t0)).filter (isNm t0)
def nR (t0 : List Int) : Nat := (rvN t0).length
def cofF (t0 : List Int) (x : Nat) : Nat := (rvN t0).getD x 0
abbrev Om : Type := List Int × List Int
def nN (o : Om) : Nat := nR o.1 + nP o.2
def letF (o : Om) (x : Nat) : Int := if x < nR o.1 then by_ o.1 (cofF o.1 x) - 97 else by_ o.2 (6 * (x - nR o.1)) - 97
def oweP (t1 : List Int) (p : Nat) : Int := 10 * (by_ t1 (6 * p + 1) - 48) + (by_ t1 (6 * p + 2) - 48)
def oweF (o : Om) (x : Nat) : Int := if x < nR o.1 then 0 else oweP o.2 (x - nR o.1)
def wedF (t1 : List Int) (p : Nat) : Int := if by_ t1 (6 * p + 3) = 46 then -1 else by_ t1 (6 * p + 3) - 48
def lukF (t1 : List Int) (p : Nat) : Int := by_ t1 (6 * p + 4) - 48
def evD (t0 : List Int) (c : Nat) : Bool := decide (nC t0 ≤ c + 1 ∨ kob (by_ t0 (c + 1)) ≠ 2)
def odD (t0 : List Int) (c : Nat) : Bool := evD t0 c && decide (kob (by_ t0 c) ≠ 1)
def drD (t0 : List Int) (day c : Nat) : Bool := if day % 2 = 0 then evD t0 c else odD t0 c
/-- where all names are: place, wear, who has which, the names in cells from the last cell to the first -/
abbrev Mu : Type := (Nat → Nat) × (Nat → Nat) × (Nat → Nat) × List Nat
abbrev Mu.wh (m : Mu) : Nat → Nat := m.1
abbrev Mu.wo (m : Mu) : Nat → Nat := m.2.1
abbrev Mu.ha (m : Mu) : Nat → Nat := m.2.2.1
abbrev Mu.al (m : Mu) : List Nat := m.2.2.2
def beginM (o : Om) : Mu := (fun x => if x < nR o.1 then cofF o.1 x else 22 + (x - nR o.1), fun _ => 0, fun p => nR o.1 + p, (List.range (nR o.1)).reverse)
/-- the place from which on all stand in cell 0 -/
def lowF (wh : Nat → Nat) (al : List Nat) : Nat → Nat
  | 0 => 0
  | n + 1 => if wh (al.getD n 0) = 0 then lowF wh al n else n + 1
def low (m : Mu) : Nat := lowF m.1 m.2.2.2 m.2.2.2.length
def exAt (luck : Nat) (m : Mu) : Nat := low m + luck % (m.2.2.2.length - low m)
def exchM (p luck : Nat) (m : Mu) : Mu × Bool :=
  if m.2.2.2.length - low m = 0 then (m, false)
  else
    ((up1 (up1 m.1 (m.2.2.1 p) 0) (m.2.2.2.getD (exAt luck m) 0) (22 + p), m.2.1, up1 m.2.2.1 p (m.2.2.2.getD (exAt luck m) 0), m.2.2.2.eraseIdx (exAt luck m) ++ [m.2.2.1 p]), true)
/-- the first of n places -/
def fdx (p : Nat → Bool) : Nat → Nat
  | 0 => 0
  | n + 1 => if fdx p n < n then fdx p n else if p n then n else n + 1
def seAt (c : Nat) (m : Mu) : Nat := fdx (fun i => decide (m.1 (m.2.2.2.getD i 0) = c)) m.2.2.2.length
def sellM (c : Nat) (m : Mu) : Mu :=
  if seAt c m < m.2.2.2.length then (up1 m.1 (m.2.2.2.getD (seAt c m) 0) 21, m.2.1, m.2.2.1, m.2.2.2.eraseIdx (seAt c m)) else m
/-- one name drifts -/
def dr1 (t0 : List Int) (day : Nat) (m : Mu) (x : Nat) : Mu :=
  if drD t0 day (m.1 x) then
    (up1 m.1 x (if m.1 x + 1 < nC t0 then m.1 x + 1 else 20), up1 m.2.1 x (m.2.1 x + 1), m.2.2.1, if m.1 x + 1 < nC t0 then m.2.2.2 ++ [x] else m.2.2.2)
  else (m.1, m.2.1, m.2.2.1, m.2.2.2 ++ [x])
def drK (t0 : List Int) (day : Nat) (m : Mu) : Nat → Mu
  | 0 => (m.1, m.2.1, m.2.2.1, [])
  | i + 1 => dr1 t0 day (drK t0 day m i) (m.2.2.2.getD i 0)
def driftM (t0 : List Int) (day : Nat) (m : Mu) : Mu := drK t0 day m m.2.2.2.length
abbrev Log2 : Type := List (Int × Int)
/-- what is supposed: one crossing that was not (or none), everybody's luck -/
abbrev Sup : Type := Option Nat × (Nat → Nat)
def crosses1 (o : Om) (cs : Log2) (su : Sup) (d k : Nat) : Bool := decide ((cs.getD k (0, 0)).1 = (d : Int) ∧ su.1 ≠ some k ∧ (cs.getD k (0, 0)).2 < (nP o.2 : Int))
def crossM (o : Om) (cs : Log2) (su : Sup) (d : Nat) : Nat → Mu → Mu
  | 0, m => m
  | k + 1, m => if crosses1 o cs su d k then (exchM (cs.getD k (0, 0)).2.toNat (su.2 (cs.getD k (0, 0)).2.toNat) (crossM o cs su d k m)).1 else crossM o cs su d k m
/-- whether crossing k changes a name on that day -/
def chgM (o : Om) (cs : Log2) (su : Sup) (d k : Nat) (m : Mu) : Bool := crosses1 o cs su d k && (exchM (cs.getD k (0, 0)).2.toNat (su.2 (cs.getD k (0, 0)).2.toNat) (crossM o cs su d k m)).2
def catchM (ca : Log2) (d : Nat) : Nat → Mu → Mu
  | 0, m => m
  | k + 1, m => if (ca.getD k (0, 0)).1 = (d : Int) then sellM (ca.getD k (0, 0)).2.toNat (catchM ca d k m) else catchM ca d k m
def driftsM (t0 : List Int) (fl : Nat → Bool) (d : Nat) (m : Mu) : Mu := if fl d then driftM t0 d (driftM t0 d m) else driftM t0 d m
def dayM (o : Om) (cs : Log2) (su : Sup) (ca : Log2) (fl : Nat → Bool) (d : Nat) (m : Mu) : Mu := driftsM o.1 fl d (catchM ca d ca.length (crossM o cs su d cs.length m))
/-- ahead of day d -/
def aheadM (o : Om) (cs : Log2) (su : Sup) (ca : Log2) (fl : Nat → Bool) : Nat → Mu
  | 0 => beginM o
  | d + 1 => dayM o cs su ca fl d (aheadM o cs su ca fl d)
def floodB (fs : List Int) (d : Nat) : Bool := (List.range fs.length).any (fun k => decide (fs.getD k 0 = (d : Int)))
def toldS (t1 : List Int) : Sup := (none, fun p => (lukF t1 p).toNat)
def letM (o : Om) (wear : Int) (m : Mu) (x : Nat) : Int := lwh (letF o x) (m.2.1 x) wear
def calM (o : Om) (wear : Int) (m : Mu) (p : Nat) : Int := letM o wear m (m.2.2.1 p)
