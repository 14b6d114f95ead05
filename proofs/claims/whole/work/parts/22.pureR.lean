/-! THE REFERENCE: what its methods answer and write, in the words of its own memory R (roles from 100 on) -/
theorem wr_wr (M : wM) (r j : Nat) (a b : Int32) : wr (wr M r j a) r j b = wr M r j b := by
  funext r'
  by_cases h : r' = r
  · subst h; funext j'; simp only [wr_self]; by_cases hj : j' = j <;> simp [upd, hj]
  · simp only [wr_ne h]
def noV (b : Bool) (p : Int32) : Int32 := if b = true then nI 0 else p
theorem noV_t {b : Bool} {p : Int32} (h : (!b) = false) : noV b p = nI 0 := by cases b; cases h; rfl
theorem noV_f {b : Bool} {p : Int32} (h : (!b) = true) : noV b p = p := by cases b; rfl; cases h
theorem not_ff {b : Bool} (h : (!b) = false) : b = true := by cases b; cases h; rfl
theorem not_tt {b : Bool} (h : (!b) = true) : b = false := by cases b; rfl; cases h
def vI (v lo hi : Int32) : Bool := decide (lo ≤ v) && decide (v ≤ hi)
theorem vI_vIn {x : Int32} {n : Nat} (h0 : 0 < n) (hn : n < 2 ^ 31) : vI x (nI 0) (nI (n - 1)) = vIn x n := by
  unfold vI vIn
  rcases pk_ix x hn with h | h | ⟨j, hj, rfl⟩
  · have h1 : ¬ (0 : Int32) ≤ x := Int32.not_le.mpr h
    have h2 : ¬ nI 0 ≤ x := h1
    simp [h1, h2]
  · have h1 : ¬ x < nI n := Int32.not_lt.mpr h
    have h2 : ¬ x ≤ nI (n - 1) := fun z => h1 (Int32.lt_of_le_of_lt z (nI_lt (by omega) hn))
    simp [h1, h2]
  · have h1 : (0 : Int32) ≤ nI j := nI_pos' (by omega)
    have h2 : nI 0 ≤ nI j := h1
    have h3 : nI j < nI n := nI_lt hj hn
    have h4 : nI j ≤ nI (n - 1) := nI_le (by omega) (by omega)
    simp [h1, h2, h3, h4]
theorem vI_sub {x : Int32} {m : Nat} (hm : m < 2 ^ 31) : vI x (nI 0) (nI m - nI 1) = vIn x m := by
  cases m with
  | zero =>
    unfold vI vIn
    have h1 : nI 0 - nI 1 = (-1 : Int32) := by decide
    rw [h1]
    by_cases h : (0 : Int32) ≤ x
    · have h2 : ¬ x ≤ (-1 : Int32) := fun z => absurd (Int32.le_trans h z) (by decide)
      have h3 : ¬ x < nI 0 := Int32.not_lt.mpr h
      simp [h2, h3]
    · have h2 : ¬ nI 0 ≤ x := h
      simp [h, h2]
  | succ m => rw [pk_sub (by omega)]; exact vI_vIn (n := m + 1) (by omega) hm
theorem isC_vIn (x : Int32) : (decide (x = nI 0) || decide (x = nI 1)) = vIn x 2 := by
  rw [← vI_vIn (n := 2) (by decide) (by decide)]
  rcases pk_ix x (n := 2) (by decide) with h | h | ⟨j, hj, rfl⟩
  · have h1 : ¬ nI 0 ≤ x := Int32.not_le.mpr h
    have h2 : ¬ x = nI 0 := fun z => h1 (by rw [z]; decide)
    have h3 : ¬ x = nI 1 := fun z => h1 (by rw [z]; decide)
    simp [vI, h1, h2, h3]
  · have h1 : ¬ x ≤ nI (2 - 1) := fun z => absurd (Int32.le_trans h z) (by decide)
    have h2 : ¬ x = nI 0 := fun z => h1 (by rw [z]; decide)
    have h3 : ¬ x = nI 1 := fun z => h1 (by rw [z]; decide)
    simp [vI, h1, h2, h3]
  · rcases (show j = 0 ∨ j = 1 by omega) with rfl | rfl <;> decide
def mnN (R : wM) (c : Nat) : Nat := (R 101 c).toNatClampNeg
def wrN (R : wM) (c : Nat) : Nat := (R 103 c).toNatClampNeg
def siN (R : wM) : Nat := (R rMod 16).toNatClampNeg
def trN (R : wM) : Nat := (R rMod 17).toNatClampNeg
def scC (R : wM) (k : Nat) : Nat := (R 122 k).toNatClampNeg
def scL (R : wM) (k : Nat) : Nat := (R 121 k).toNatClampNeg
abbrev nowR (R : wM) : Int32 := R rMod 18
def isTru (le : Int32) : Bool := decide (le = nI 112) || (decide (le = nI 100) || decide (le = nI 97))
def okB (R : wM) (c n : Nat) : Prop := ∀ j, j < n → (isOrd (R 111 (c * 60 + j)) = true → (R 113 (c * 60 + j)).toNatClampNeg < 4 ∧ R 113 (c * 60 + j) = nI (R 113 (c * 60 + j)).toNatClampNeg) ∧ (isTru (R 111 (c * 60 + j)) = true → (R 114 (c * 60 + j)).toNatClampNeg < 8 ∧ R 114 (c * 60 + j) = nI (R 114 (c * 60 + j)).toNatClampNeg)
def okEr (R : wM) (c n : Nat) : Prop := ∀ j, j < n → narrow .char (.int (R 111 (c * 60 + j))) = .int (R 111 (c * 60 + j))
def okU (R : wM) (c : Nat) : Prop := ∀ t, t < 7 → narrow .boolean (.int (R 104 (c * 7 + t))) = .int (R 104 (c * 7 + t)) ∧ ∀ lo, lo < 4 → narrow .boolean (.int (R 107 ((c * 7 + t) * 4 + lo))) = .int (R 107 ((c * 7 + t) * 4 + lo))
def RVC (R : wM) (c : Nat) : Prop := R 101 c = nI (mnN R c) ∧ mnN R c ≤ 7 ∧ R 103 c = nI (wrN R c) ∧ wrN R c ≤ 60 ∧ okB R c (wrN R c) ∧ okEr R c (wrN R c) ∧ okU R c
def RVS (R : wM) (k : Nat) : Prop := R 122 k = nI (scC R k) ∧ scC R k < 2 ∧ R 121 k = nI (scL R k) ∧ scL R k < 4
def RVT (R : wM) (k : Nat) : Prop := narrow .char (.int (R 129 k)) = .int (R 129 k) ∧ ∀ c, c < 2 → narrow .char (.int (R 130 (2 * k + c))) = .int (R 130 (2 * k + c))
def RV (R : wM) : Prop := (∀ c, c < 2 → RVC R c) ∧ (R rMod 16 = nI (siN R) ∧ siN R ≤ 20) ∧ (R rMod 17 = nI (trN R) ∧ trN R ≤ 8) ∧ (∀ k, k < siN R → RVS R k) ∧ ∀ k, k < trN R → RVT R k
-- tests
def isT (R : wM) (ca to : Int32) : Bool := vIn ca 2 && vIn to (mnN R (cI ca))
def isE (R : wM) (ca en : Int32) : Bool := vIn ca 2 && vIn en (wrN R (cI ca))
theorem isT_ok {R : wM} {ca to : Int32} (h : isT R ca to = true) (hm : ∀ c, c < 2 → mnN R c ≤ 7) : ∃ c t, c < 2 ∧ t < mnN R c ∧ ca = nI c ∧ to = nI t := by
  simp only [isT, Bool.and_eq_true] at h
  obtain ⟨c, hc, rfl⟩ := vIn_ok' h.1 (by decide)
  have hq := hm c hc
  have h2 := h.2
  rw [cI_nI hc (by decide)] at h2
  obtain ⟨t, ht, rfl⟩ := vIn_ok' h2 (by omega)
  exact ⟨c, t, hc, ht, rfl, rfl⟩
theorem isE_ok {R : wM} {ca en : Int32} (h : isE R ca en = true) (hm : ∀ c, c < 2 → wrN R c ≤ 60) : ∃ c e, c < 2 ∧ e < wrN R c ∧ ca = nI c ∧ en = nI e := by
  simp only [isE, Bool.and_eq_true] at h
  obtain ⟨c, hc, rfl⟩ := vIn_ok' h.1 (by decide)
  have hq := hm c hc
  have h2 := h.2
  rw [cI_nI hc (by decide)] at h2
  obtain ⟨t, ht, rfl⟩ := vIn_ok' h2 (by omega)
  exact ⟨c, t, hc, ht, rfl, rfl⟩
-- castles
def zgN (R : wM) (c t : Nat) : Nat → wM
  | 0 => wr (wr R 104 (c * 7 + t) (nI 1)) 105 (c * 7 + t) (nI 0)
  | j + 1 => wr (zgN R c t j) 107 ((c * 7 + t) * 4 + j) (nI 0)
def ztN (R : wM) (c t : Nat) : Nat → wM
  | 0 => zgN R c t 4
  | j + 1 => wr (ztN R c t j) 109 ((c * 7 + t) * 3 + j) (nI 0)
def raA (R : wM) (c : Nat) (hi wi : Int32) : wM := wr (wr (wr R 101 c hi) 102 c wi) 103 c (nI 0)
def raT (R : wM) (c : Nat) (hi wi : Int32) : Nat → wM
  | 0 => raA R c hi wi
  | t + 1 => ztN (raT R c hi wi t) c t 3
def raL (R : wM) (c : Nat) (hi wi : Int32) : Nat → wM
  | 0 => raT R c hi wi 7
  | j + 1 => wr (raL R c hi wi j) 110 (c * 4 * 3 + j) (nI 0)
def raS (R : wM) (c : Nat) (hi wi : Int32) : Nat → wM
  | 0 => raL R c hi wi 12
  | k + 1 => if raS R c hi wi k 126 k = 0 then (if R 122 k = nI c then wr (raS R c hi wi k) 126 k (nI 1) else wr (raS R c hi wi k) 126 k (nI 0)) else wr (raS R c hi wi k) 126 k (nI 1)
theorem zgN_ne {R : wM} {c t n r : Nat} (h1 : r ≠ 104) (h2 : r ≠ 105) (h3 : r ≠ 107) : zgN R c t n r = R r := by
  induction n with
  | zero => simp only [zgN]; rw [wr_ne h2, wr_ne h1]
  | succ n ih => simp only [zgN]; rw [wr_ne h3, ih]
theorem ztN_ne {R : wM} {c t n r : Nat} (h1 : r ≠ 104) (h2 : r ≠ 105) (h3 : r ≠ 107) (h4 : r ≠ 109) : ztN R c t n r = R r := by
  induction n with
  | zero => exact zgN_ne h1 h2 h3
  | succ n ih => simp only [ztN]; rw [wr_ne h4, ih]
theorem raT_ne {R : wM} {c n r : Nat} {hi wi : Int32} (h0 : r ≠ 101) (h5 : r ≠ 102) (h6 : r ≠ 103) (h1 : r ≠ 104) (h2 : r ≠ 105) (h3 : r ≠ 107) (h4 : r ≠ 109) : raT R c hi wi n r = R r := by
  induction n with
  | zero => simp only [raT, raA]; rw [wr_ne h6, wr_ne h5, wr_ne h0]
  | succ n ih => simp only [raT]; rw [ztN_ne h1 h2 h3 h4, ih]
theorem raL_ne {R : wM} {c n r : Nat} {hi wi : Int32} (h0 : r ≠ 101) (h5 : r ≠ 102) (h6 : r ≠ 103) (h1 : r ≠ 104) (h2 : r ≠ 105) (h3 : r ≠ 107) (h4 : r ≠ 109) (h7 : r ≠ 110) : raL R c hi wi n r = R r := by
  induction n with
  | zero => exact raT_ne h0 h5 h6 h1 h2 h3 h4
  | succ n ih => simp only [raL]; rw [wr_ne h7, ih]
theorem raS_ne {R : wM} {c n r : Nat} {hi wi : Int32} (h0 : r ≠ 101) (h5 : r ≠ 102) (h6 : r ≠ 103) (h1 : r ≠ 104) (h2 : r ≠ 105) (h3 : r ≠ 107) (h4 : r ≠ 109) (h7 : r ≠ 110) (h8 : r ≠ 126) : raS R c hi wi n r = R r := by
  induction n with
  | zero => exact raL_ne h0 h5 h6 h1 h2 h3 h4 h7
  | succ n ih =>
    simp only [raS]
    split
    · split <;> rw [wr_ne h8, ih]
    · rw [wr_ne h8, ih]
def mRaise (R : wM) (c : Nat) (hi wi : Int32) : wM := raS R c hi wi (siN R)
def prN (R : wM) (c : Nat) : Nat → Int32
  | 0 => (-1)
  | k + 1 => if R 130 (2 * k + c) = nI 112 then nI k else prN R c k
def mPrep (R : wM) (c : Nat) : Int32 := prN R c (trN R)
def dwN (R : wM) (c t : Nat) : Nat → wM
  | 0 => wr (wr R 104 (c * 7 + t) (nI 0)) 105 (c * 7 + t) (nI 0)
  | j + 1 => wr (dwN R c t j) 109 ((c * 7 + t) * 3 + j) (nI 0)
theorem dwN_ne {R : wM} {c t n r : Nat} (h1 : r ≠ 104) (h2 : r ≠ 105) (h4 : r ≠ 109) : dwN R c t n r = R r := by
  induction n with
  | zero => simp only [dwN]; rw [wr_ne h2, wr_ne h1]
  | succ n ih => simp only [dwN]; rw [wr_ne h4, ih]
def buN (R : wM) (c t : Nat) : Nat → wM
  | 0 => R
  | k + 1 => wr (buN R c t k) 115 (c * 60 + k) (clB (buN R c t k 115 (c * 60 + k)) t)
theorem buN_ne {R : wM} {c t n r : Nat} (h : r ≠ 115) : buN R c t n r = R r := by
  induction n with
  | zero => rfl
  | succ n ih => simp only [buN]; rw [wr_ne h, ih]
def bitI (x : Int32) (t : Nat) : Int32 := (x >>> (nI t &&& 31)) &&& nI 1
def buC (R : wM) (c t : Nat) : Nat → Int32
  | 0 => nI 0
  | k + 1 => buC R c t k + bitI (buN R c t k 115 (c * 60 + k)) t
def riM (R : wM) (c t : Nat) (now : Int32) : wM := wr (wr (wr R 104 (c * 7 + t) (nI 1)) 105 (c * 7 + t) (nI 1)) 106 (c * 7 + t) now
def rcN (R : wM) (c lo : Nat) : Nat → Int32
  | 0 => nI 0
  | t + 1 => if R 104 (c * 7 + t) = 0 then rcN R c lo t ||| nI 0 else if R 107 ((c * 7 + t) * 4 + lo) = 0 then rcN R c lo t ||| (nI 1 <<< (nI t &&& 31)) else rcN R c lo t ||| nI 0
def rcU (R : wM) (c : Nat) : Nat → Int32
  | 0 => nI 0
  | t + 1 => if R 104 (c * 7 + t) = 0 then rcU R c t ||| nI 0 else rcU R c t ||| (nI 1 <<< (nI t &&& 31))
def mReach (R : wM) (c lo : Nat) : Int32 := rcN R c lo (mnN R c)
def mUp (R : wM) (c : Nat) : Int32 := rcU R c (mnN R c)
def onN (x : Int32) : Nat → Int32
  | 0 => nI 0
  | t + 1 => onN x t + bitI x t
def onI (x : Int32) : Int32 := onN x 7
def mQ (R : wM) (c : Nat) (x : Int32) : Bool := decide (R 101 c < nI 2 * onI x)
def mRest (R : wM) (c t : Nat) : Bool := decide (¬ R 105 (c * 7 + t) = 0) && decide (nowR R < R 106 (c * 7 + t) + nI 20)
def mVote (R : wM) (c t g : Nat) : Bool := decide (nowR R < R 109 ((c * 7 + t) * 3 + g))
def mOpen (R : wM) (c g lo : Nat) : Bool := decide (nowR R < R 110 ((c * 4 + lo) * 3 + g))
def mOth (R : wM) (c t g lo : Nat) : Bool := mVote R c t g && decide (¬ R 108 ((c * 7 + t) * 3 + g) = nI lo)
def leN (R : wM) (c g lo : Nat) : Nat → Int32
  | 0 => mReach R c lo
  | t + 1 => if (mRest R c t || mOth R c t g lo) = true then clB (leN R c g lo t) t else leN R c g lo t
def mCan (R : wM) (c g lo : Nat) : Int32 := leN R c g lo (mnN R c)
def mxR (a b : Int32) : Int32 := if b < a then a else b
def lgN (R : wM) (c g lo : Nat) (can to : Int32) : Nat → wM
  | 0 => R
  | t + 1 => if bitI can t = 0 then lgN R c g lo can to t else wr (wr (lgN R c g lo can to t) 109 ((c * 7 + t) * 3 + g) (mxR (R 109 ((c * 7 + t) * 3 + g)) to)) 108 ((c * 7 + t) * 3 + g) (nI lo)
theorem lgN_ne {R : wM} {c g lo n r : Nat} {can to : Int32} (h1 : r ≠ 108) (h2 : r ≠ 109) : lgN R c g lo can to n r = R r := by
  induction n with
  | zero => rfl
  | succ n ih => simp only [lgN]; split; exact ih; rw [wr_ne h1, wr_ne h2, ih]
theorem lgN_at {R : wM} {c g lo : Nat} {can to : Int32} : ∀ {n t : Nat}, n ≤ t → lgN R c g lo can to n 109 ((c * 7 + t) * 3 + g) = R 109 ((c * 7 + t) * 3 + g)
  | 0, _, _ => rfl
  | n + 1, t, h => by
    simp only [lgN]
    split
    · exact lgN_at (by omega)
    · rw [wr_othr (by decide), wr_othj (by omega)]; exact lgN_at (by omega)
def mLease (R : wM) (c g lo : Nat) (can to : Int32) : wM := wr (lgN R c g lo can to (mnN R c)) 110 ((c * 4 + lo) * 3 + g) (mxR (R 110 ((c * 4 + lo) * 3 + g)) to)
def gvP (R : wM) (c g lo : Nat) (nr : Int32) (t : Nat) : Bool := decide (¬ bitI nr t = 0) && (mVote R c t g && decide (R 108 ((c * 7 + t) * 3 + g) = nI lo))
def gvN (R : wM) (c g lo : Nat) (nr : Int32) : Nat → wM
  | 0 => R
  | t + 1 => if gvP (gvN R c g lo nr t) c g lo nr t = true then wr (gvN R c g lo nr t) 109 ((c * 7 + t) * 3 + g) (nI 0) else gvN R c g lo nr t
theorem gvN_ne {R : wM} {c g lo n r : Nat} {nr : Int32} (h : r ≠ 109) : gvN R c g lo nr n r = R r := by
  induction n with
  | zero => rfl
  | succ n ih => simp only [gvN]; split; rw [wr_ne h, ih]; exact ih
def gvC (R : wM) (c g lo : Nat) (nr : Int32) : Nat → Nat
  | 0 => 0
  | t + 1 => gvC R c g lo nr t + (if gvP (gvN R c g lo nr t) c g lo nr t = true then 1 else 0)
def mGive (R : wM) (c g lo : Nat) (nr : Int32) : wM := wr (gvN R c g lo nr (mnN R c)) 110 ((c * 4 + lo) * 3 + g) (nI 0)
def ofN (R : wM) (c g : Nat) : Nat → Int32
  | 0 => (-1)
  | j + 1 => if mOpen R c g j = true then nI j else ofN R c g j
-- entries
def cmN (R : wM) (c : Nat) : Nat → wM
  | 0 => R
  | k + 1 => wr (cmN R c k) 116 (c * 60 + k) (if cmN R c k 116 (c * 60 + k) = 0 then b2i (mQ R c (R 115 (c * 60 + k))) else nI 1)
theorem cmN_ne {R : wM} {c n r : Nat} (h : r ≠ 116) : cmN R c n r = R r := by
  induction n with
  | zero => rfl
  | succ n ih => simp only [cmN]; rw [wr_ne h, ih]
def wsA (R : wM) (c : Nat) (si wi lo tr near : Int32) : wM := wr (wr (wr (wr (wr (wr (wr R 111 (c * 60 + wrN R c) si) 112 (c * 60 + wrN R c) wi) 113 (c * 60 + wrN R c) lo) 114 (c * 60 + wrN R c) tr) 115 (c * 60 + wrN R c) near) 116 (c * 60 + wrN R c) (nI 0)) 103 c (nI (wrN R c + 1))
def mWrite (R : wM) (c : Nat) (si wi lo tr near : Int32) : wM := cmN (wsA R c si wi lo tr near) c (wrN R c + 1)
def wP1 (R : wM) (at' : Nat) : wM :=
  if R 111 at' = nI 105 then (if R 112 at' ≤ R 135 (R 113 at').toNatClampNeg then wr (wr R 135 (R 113 at').toNatClampNeg (R 135 (R 113 at').toNatClampNeg - R 112 at')) rMod 31 (R rMod 31 + R 112 at') else R) else R
def wP2 (R : wM) (at' : Nat) : wM :=
  if (decide (R 111 at' = nI 111) || decide (R 111 at' = nI 114)) = true then (if R 112 at' ≤ R rMod 31 - R rMod 32 then wr (wr R rMod 31 (R rMod 31 - R 112 at')) 135 (R 113 at').toNatClampNeg (R 135 (R 113 at').toNatClampNeg + R 112 at') else R) else R
def wP3h (R : wM) (c at' : Nat) : Int32 := if R 126 0 = 0 then 0 else 0
/-- what is added to the held gold, and to the gold -/
def wHe (le wi : Int32) (fr : Bool) : Int32 := if fr = true then (if le = nI 112 then wi else -wi) else nI 0
def wGo (le wi : Int32) (fr : Bool) : Int32 := if le = nI 100 then (if fr = true then -wi else wi) else nI 0
def wFr (R : wM) (c at' : Nat) : Bool := decide (R 127 (R 114 at').toNatClampNeg = nI c)
def wP3 (R : wM) (c at' : Nat) : wM :=
  if isTru (R 111 at') = true then wr (wr R rMod 32 (R rMod 32 + wHe (R 111 at') (R 112 at') (wFr R c at'))) rMod 31 (R rMod 31 + wGo (R 111 at') (R 112 at') (wFr R c at')) else R
theorem wP1_ne {R : wM} {a r : Nat} (h1 : r ≠ rMod) (h2 : r ≠ 135) : wP1 R a r = R r := by
  unfold wP1; split
  · split
    · rw [wr_ne h1, wr_ne h2]
    · rfl
  · rfl
theorem wP2_ne {R : wM} {a r : Nat} (h1 : r ≠ rMod) (h2 : r ≠ 135) : wP2 R a r = R r := by
  unfold wP2; split
  · split
    · rw [wr_ne h2, wr_ne h1]
    · rfl
  · rfl
theorem wP3_ne {R : wM} {c a r : Nat} (h1 : r ≠ rMod) : wP3 R c a r = R r := by
  unfold wP3; split
  · rw [wr_ne h1, wr_ne h1]
  · rfl
def mWeigh (R : wM) (c at' : Nat) : wM := wP3 (wP2 (wP1 R at') at') c at'
theorem mWeigh_ne {R : wM} {c a r : Nat} (h1 : r ≠ rMod) (h2 : r ≠ 135) : mWeigh R c a r = R r := by
  unfold mWeigh; rw [wP3_ne h1, wP2_ne h1 h2, wP1_ne h1 h2]
def cntR (R : wM) (c k : Nat) : Bool := decide (¬ R 116 (c * 60 + k) = 0) || decide (R 111 (c * 60 + k) = nI 45)
def mCnt (R : wM) (c : Nat) : Nat := lead (cntR R c) (wrN R c)
def smB (R : wM) (c : Nat) : Nat → wM
  | 0 => wr (wr (wr R rMod 31 (R 102 c)) rMod 32 (nI 0)) rMod 33 (nI 0)
  | j + 1 => wr (smB R c j) 135 j (nI 0)
def smN (R : wM) (c : Nat) : Nat → wM
  | 0 => smB R c 4
  | k + 1 => wr (mWeigh (smN R c k) c (c * 60 + k)) rMod 33 (nI (k + 1))
theorem smB_ne {R : wM} {c n r : Nat} (h1 : r ≠ rMod) (h2 : r ≠ 135) : smB R c n r = R r := by
  induction n with
  | zero => simp only [smB]; rw [wr_ne h1, wr_ne h1, wr_ne h1]
  | succ n ih => simp only [smB]; rw [wr_ne h2, ih]
theorem smN_ne {R : wM} {c n r : Nat} (h1 : r ≠ rMod) (h2 : r ≠ 135) : smN R c n r = R r := by
  induction n with
  | zero => exact smB_ne h1 h2
  | succ n ih => simp only [smN]; rw [wr_ne h1, mWeigh_ne h1 h2, ih]
theorem smN_cnt {R : wM} {c : Nat} : ∀ n, smN R c n rMod 33 = nI n
  | 0 => by simp only [smN, smB]; rw [wr_othr (by decide), wr_othr (by decide), wr_othr (by decide), wr_othr (by decide), wr_same]
  | n + 1 => by simp only [smN]; rw [wr_same]
def mSum (R : wM) (c : Nat) : wM := smN R c (mCnt R c)
theorem mSum_ne {R : wM} {c r : Nat} (h1 : r ≠ rMod) (h2 : r ≠ 135) : mSum R c r = R r := smN_ne h1 h2
/-- the fields of the reference that the sums leave alone -/
theorem wP_oth {R : wM} {c a k : Nat} (h1 : k ≠ 31) (h2 : k ≠ 32) : mWeigh R c a rMod k = R rMod k := by
  have e1 : wP1 R a rMod k = R rMod k := by
    unfold wP1; split
    · split
      · rw [wr_othj h1, wr_othr (by decide)]
      · rfl
    · rfl
  have e2 : wP2 (wP1 R a) a rMod k = wP1 R a rMod k := by
    unfold wP2; split
    · split
      · rw [wr_othr (by decide), wr_othj h1]
      · rfl
    · rfl
  unfold mWeigh wP3; split
  · rw [wr_othj h1, wr_othj h2, e2, e1]
  · rw [e2, e1]
theorem smN_oth {R : wM} {c k : Nat} (h1 : k ≠ 31) (h2 : k ≠ 32) (h3 : k ≠ 33) : ∀ n, smN R c n rMod k = R rMod k
  | 0 => by simp only [smN, smB]; rw [wr_othr (by decide), wr_othr (by decide), wr_othr (by decide), wr_othr (by decide), wr_othj h3, wr_othj h2, wr_othj h1]
  | n + 1 => by simp only [smN]; rw [wr_othj h3, wP_oth h1 h2]; exact smN_oth h1 h2 h3 n
def mHang (R : wM) (c : Nat) : Bool := decide (mCnt R c < wrN R c)
abbrev thr (R : wM) (k : Nat) : wM := wr R rMod 19 (nI k)
-- codes, answers, memories of the public ones; T is the memory behind the tests that held
def vBR (tw gd : Int32) : Bool := vI tw (nI 1) (nI 7) && vI gd (nI 0) (nI 9999)
def kBuildR (R : wM) (ca tw gd : Int32) : Nat := if vIn ca 2 = true then (if vBR tw gd = true then (if prN (thr R 0) (cI ca) (trN R) < 0 then 0 else 3) else 2) else 1
def buildR (R : wM) (ca tw gd : Int32) : wM := if kBuildR R ca tw gd = 0 then raS (thr R 0) (cI ca) tw gd (siN R) else thr R (kBuildR R ca tw gd)
def kWaitR (ti : Int32) : Nat := if vI ti (nI 1) (nI 100) = true then 0 else 1
def waitR (R : wM) (ti : Int32) : wM := if kWaitR ti = 0 then wr (thr R 0) rMod 18 (nowR R + ti) else thr R (kWaitR ti)
def kTowR (R : wM) (ca to : Int32) : Nat := if isT R ca to = true then 0 else 1
def fallR (R : wM) (ca to : Int32) : wM := if kTowR R ca to = 0 then dwN (thr R 0) (cI ca) (cI to) 3 else thr R (kTowR R ca to)
def burnR (R : wM) (ca to : Int32) : wM := if kTowR R ca to = 0 then buN (dwN (thr R 0) (cI ca) (cI to) 3) (cI ca) (cI to) (wrN R (cI ca)) else thr R (kTowR R ca to)
def riseR (R : wM) (ca to : Int32) : wM := if kTowR R ca to = 0 then (if R 104 (cI ca * 7 + cI to) = 0 then riM (thr R 0) (cI ca) (cI to) (nowR R) else thr R 0) else thr R (kTowR R ca to)
def kCutR (R : wM) (ca to lo : Int32) : Nat := if (isT R ca to && vIn lo 4) = true then 0 else 1
def cutR (R : wM) (ca to lo : Int32) (is : Bool) : wM := if kCutR R ca to lo = 0 then wr (thr R 0) 107 ((cI ca * 7 + cI to) * 4 + cI lo) (b2i is) else thr R (kCutR R ca to lo)
def vR3 (ca ga lo : Int32) : Bool := vIn ca 2 && (vIn ga 3 && vIn lo 4)
def canR (R : wM) (ca ga lo : Int32) : Int32 := leN (thr R 0) (cI ca) (cI ga) (cI lo) (mnN R (cI ca))
def kLeaseR (R : wM) (lo ca ga ti : Int32) : Nat := if vR3 ca ga lo = true then (if vI ti (nI 1) (nI 20) = true then (if mQ (thr R 0) (cI ca) (canR R ca ga lo) = true then 0 else 3) else 2) else 1
def leaseR (R : wM) (lo ca ga ti : Int32) : wM := if kLeaseR R lo ca ga ti = 0 then wr (lgN (thr R 0) (cI ca) (cI ga) (cI lo) (canR R ca ga lo) (nowR R + ti) (mnN R (cI ca))) 110 ((cI ca * 4 + cI lo) * 3 + cI ga) (mxR (R 110 ((cI ca * 4 + cI lo) * 3 + cI ga)) (nowR R + ti)) else thr R (kLeaseR R lo ca ga ti)
def kGiveR (R : wM) (lo ca ga : Int32) : Nat := if vR3 ca ga lo = true then (if mOpen (thr R 0) (cI ca) (cI ga) (cI lo) = true then 0 else 2) else 1
def nrR (R : wM) (ca lo : Int32) : Int32 := rcN (thr R 0) (cI ca) (cI lo) (mnN R (cI ca))
def giveR (R : wM) (lo ca ga : Int32) : wM := if kGiveR R lo ca ga = 0 then wr (gvN (thr R 0) (cI ca) (cI ga) (cI lo) (nrR R ca lo) (mnN R (cI ca))) 110 ((cI ca * 4 + cI lo) * 3 + cI ga) (nI 0) else thr R (kGiveR R lo ca ga)
def kG3R (lo ca ga : Int32) : Nat := if vR3 ca ga lo = true then 0 else 1
def kOpenR (R : wM) (ca ga : Int32) : Nat := if (vIn ca 2 && vIn ga 3) = true then (if 0 ≤ ofN (thr R 0) (cI ca) (cI ga) 4 then 0 else 2) else 1
def kVoteR (R : wM) (ca to ga : Int32) : Nat := if (isT R ca to && vIn ga 3) = true then (if mVote (thr R 0) (cI ca) (cI to) (cI ga) = true then 0 else 2) else 1
def kCLR (ca lo : Int32) : Nat := if (vIn ca 2 && vIn lo 4) = true then 0 else 1
def kCR (ca : Int32) : Nat := if vIn ca 2 = true then 0 else 1
def kER (R : wM) (ca en : Int32) : Nat := if isE R ca en = true then 0 else 1
def kHasR (R : wM) (ca to en : Int32) : Nat := if (isT R ca to && isE R ca en) = true then 0 else 1
def towRR (R : wM) (c t : Nat) : Int32 := if R 104 (c * 7 + t) = 0 then nI 100 else if mRest (thr R 0) c t = true then nI 119 else nI 117
def spRN (R : wM) (c : Nat) (all : Int32) : Nat → wM
  | 0 => R
  | k + 1 => if spRN R c all k 115 (c * 60 + k) &&& all = 0 then spRN R c all k else wr (spRN R c all k) 115 (c * 60 + k) (spRN R c all k 115 (c * 60 + k) ||| all)
theorem spRN_ne {R : wM} {c n r : Nat} {all : Int32} (h : r ≠ 115) : spRN R c all n r = R r := by
  induction n with
  | zero => rfl
  | succ n ih => simp only [spRN]; split; exact ih; rw [wr_ne h, ih]
def spRC (R : wM) (c : Nat) (all : Int32) : Nat → Int32
  | 0 => nI 0
  | k + 1 => if spRN R c all k 115 (c * 60 + k) &&& all = 0 then spRC R c all k else spRC R c all k + onI (all &&& (spRN R c all k 115 (c * 60 + k) ^^^ (-1)))
def upR (R : wM) (ca : Int32) : Int32 := rcU (thr R 0) (cI ca) (mnN R (cI ca))
def spreadR (R : wM) (ca : Int32) : wM := if kCR ca = 0 then cmN (spRN (thr R 0) (cI ca) (upR R ca) (wrN R (cI ca))) (cI ca) (wrN R (cI ca)) else thr R (kCR ca)
def stRP (R : wM) (c k : Nat) : Bool := decide (R 115 (c * 60 + k) = 0) && decide (¬ R 111 (c * 60 + k) = nI 45)
def stRN (S R : wM) (c k0 : Nat) : Nat → wM
  | 0 => S
  | i + 1 => wr (stRN S R c k0 i) 111 (c * 60 + (k0 + i)) (if stRP R c (k0 + i) = true then nI 45 else R 111 (c * 60 + (k0 + i)))
theorem stRN_ne {S R : wM} {c k0 n r : Nat} (h : r ≠ 111) : stRN S R c k0 n r = S r := by
  induction n with
  | zero => rfl
  | succ n ih => simp only [stRN]; rw [wr_ne h, ih]
theorem stRN_at {S R : wM} {c k0 : Nat} : ∀ {n i : Nat}, n ≤ i → stRN S R c k0 n 111 (c * 60 + (k0 + i)) = S 111 (c * 60 + (k0 + i))
  | 0, _, _ => rfl
  | n + 1, i, h => by simp only [stRN]; rw [wr_othj (by omega)]; exact stRN_at (by omega)
def stRC (R : wM) (c k0 : Nat) : Nat → Nat
  | 0 => 0
  | i + 1 => stRC R c k0 i + (if stRP R c (k0 + i) = true then 1 else 0)
theorem stRC_le (R : wM) (c k0 : Nat) : ∀ n, stRC R c k0 n ≤ n
  | 0 => Nat.le_refl _
  | n + 1 => by have := stRC_le R c k0 n; simp only [stRC]; split <;> omega
/-- the memory behind the sums: the castle's, w entries -/
def suM (R : wM) (c w : Nat) : wM := smN R c (lead (cntR R c) w)
theorem suM_ne {R : wM} {c w r : Nat} (h1 : r ≠ rMod) (h2 : r ≠ 135) : suM R c w r = R r := smN_ne h1 h2
def suC (R : wM) (c w : Nat) : Nat := lead (cntR R c) w
theorem suM_cnt {R : wM} {c w : Nat} : suM R c w rMod 33 = nI (suC R c w) := smN_cnt _
theorem suM_oth {R : wM} {c w k : Nat} (h1 : k ≠ 31) (h2 : k ≠ 32) (h3 : k ≠ 33) : suM R c w rMod k = R rMod k := smN_oth h1 h2 h3 _
theorem mQ_cm {R : wM} {c n : Nat} {x : Int32} : mQ (cmN R c n) c x = mQ R c x := by unfold mQ; rw [cmN_ne (by decide)]
