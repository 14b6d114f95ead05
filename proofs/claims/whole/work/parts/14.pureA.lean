/-! what the class's methods answer and write, in the memory's words; a loop is a recursion over its count -/
def imax (x y : Int32) : Int32 := if x < y then y else x
def hasB (x : Int32) (t : Nat) : Bool := decide (¬ (x &&& (nI 1 <<< (nI t &&& 31)) = 0))
def clB (x : Int32) (t : Nat) : Int32 := x &&& ((nI 1 <<< (nI t &&& 31)) ^^^ (-1))
def ushr (x y : Int32) : Int32 := (x.toUInt32 >>> (y.toUInt32 &&& Int32.toUInt32 31)).toInt32
def bc1 (x : Int32) : Int32 := x - (ushr x (nI 1) &&& 1431655765)
def bc2 (x : Int32) : Int32 := (x &&& 858993459) + (ushr x (nI 2) &&& 858993459)
def bc3 (x : Int32) : Int32 := (x + ushr x (nI 4)) &&& 252645135
def bc4 (x : Int32) : Int32 := x + ushr x (nI 8)
def bc5 (x : Int32) : Int32 := x + ushr x (nI 16)
def bcI (x : Int32) : Int32 := bc5 (bc4 (bc3 (bc2 (bc1 x)))) &&& nI 63
def cntB (p : Nat → Bool) : Nat → Nat
  | 0 => 0
  | n + 1 => cntB p n + (if p n = true then 1 else 0)
theorem cntB_le (p : Nat → Bool) : ∀ n, cntB p n ≤ n
  | 0 => Nat.le_refl _
  | n + 1 => by have := cntB_le p n; simp only [cntB]; split <;> omega
def clrN (M : wM) (r : Nat) : Nat → wM
  | 0 => M
  | k + 1 => wr (clrN M r k) r k (nI 0)
theorem clrN_ne {M : wM} {r n r' : Nat} (h : r' ≠ r) : clrN M r n r' = M r' := by
  induction n with
  | zero => rfl
  | succ n ih => exact (wr_ne h).trans ih
-- gates
def gOpen (M : wM) (c g lo : Nat) (now : Int32) : Bool := decide (now < M (rLT c g) lo)
def gHeld (M : wM) (c g t : Nat) (now : Int32) : Bool := decide (now < M (rVT c g) t)
def gOther (M : wM) (c g t : Nat) (lord now : Int32) : Bool := gHeld M c g t now && decide (M (rVL c g) t ≠ lord)
def gClear (M : wM) (c g : Nat) : wM := clrN (clrN M (rVT c g) 7) (rLT c g) 4
def grN (M : wM) (c g : Nat) (lord voters till : Int32) : Nat → wM
  | 0 => M
  | k + 1 => if hasB voters k = true then wr (wr (grN M c g lord voters till k) (rVL c g) k lord) (rVT c g) k (imax (grN M c g lord voters till k (rVT c g) k) till) else grN M c g lord voters till k
theorem grN_ne {M : wM} {c g : Nat} {lord voters till : Int32} {n r : Nat} (h1 : r ≠ rVL c g) (h2 : r ≠ rVT c g) : grN M c g lord voters till n r = M r := by
  induction n with
  | zero => rfl
  | succ n ih => simp only [grN]; split; rw [wr_ne h2, wr_ne h1, ih]; exact ih
def gGrant (M : wM) (c g lo : Nat) (voters till : Int32) : wM := wr (grN M c g (nI lo) voters till 7) (rLT c g) lo (imax (M (rLT c g) lo) till)
/-- does the loop of endLease take this tower -/
def enP (M : wM) (c g : Nat) (lord near now : Int32) (k : Nat) : Bool := hasB near k && (gHeld M c g k now && decide (M (rVL c g) k = lord))
def enN (M : wM) (c g : Nat) (lord near now : Int32) : Nat → wM
  | 0 => M
  | k + 1 => if enP (enN M c g lord near now k) c g lord near now k = true then wr (enN M c g lord near now k) (rVT c g) k (nI 0) else enN M c g lord near now k
theorem enN_ne {M : wM} {c g : Nat} {lord near now : Int32} {n r : Nat} (h : r ≠ rVT c g) : enN M c g lord near now n r = M r := by
  induction n with
  | zero => rfl
  | succ n ih => simp only [enN]; split; rw [wr_ne h, ih]; exact ih
def enC (M : wM) (c g : Nat) (lord near now : Int32) : Nat → Nat
  | 0 => 0
  | k + 1 => enC M c g lord near now k + (if enP (enN M c g lord near now k) c g lord near now k = true then 1 else 0)
theorem enC_le (M : wM) (c g : Nat) (lord near now : Int32) : ∀ n, enC M c g lord near now n ≤ n
  | 0 => Nat.le_refl _
  | n + 1 => by have := enC_le M c g lord near now n; simp only [enC]; split <;> omega
def gEnd (M : wM) (c g lo : Nat) (near now : Int32) : wM := wr (enN M c g (nI lo) near now 7) (rLT c g) lo (nI 0)
-- rows
def cnts (M : wM) (c k : Nat) : Bool := decide (¬ M (rCo c) k = 0) || decide (M (rLe c) k = nI 45)
/-- how many hold from the first on -/
def lead (p : Nat → Bool) : Nat → Nat
  | 0 => 0
  | n + 1 => if lead p n = n ∧ p n = true then n + 1 else lead p n
theorem lead_le (p : Nat → Bool) : ∀ n, lead p n ≤ n
  | 0 => Nat.le_refl _
  | n + 1 => by have := lead_le p n; simp only [lead]; split <;> omega
theorem lead_all {p : Nat → Bool} : ∀ {n : Nat}, (∀ j, j < n → p j = true) → lead p n = n
  | 0, _ => rfl
  | n + 1, h => by simp only [lead]; rw [if_pos ⟨lead_all (fun j hj => h j (by omega)), h n (by omega)⟩]
theorem lead_at {p : Nat → Bool} {k : Nat} : ∀ {n : Nat}, k ≤ n → (∀ j, j < k → p j = true) → p k = false → lead p n = k
  | 0, hk, _, _ => by have : k = 0 := by omega
                      subst this; rfl
  | n + 1, hk, h, h0 => by
    simp only [lead]
    by_cases e : k = n + 1
    · subst e
      rw [if_pos ⟨lead_all (fun j hj => h j (by omega)), h n (by omega)⟩]
    · have h1 := lead_at (n := n) (by omega) h h0
      rw [if_neg, h1]
      rintro ⟨a, b⟩
      have : k = n := by omega
      subst this
      rw [h0] at b
      cases b
theorem lead_all' {p : Nat → Bool} : ∀ {n : Nat} {j : Nat}, j < lead p n → p j = true
  | 0, j, h => by simp [lead] at h
  | n + 1, j, h => by
    simp only [lead] at h
    split at h
    · rename_i e
      by_cases hj : j = n
      · subst hj; exact e.2
      · exact lead_all' (n := n) (by omega)
    · exact lead_all' h
theorem lead_stop {p : Nat → Bool} : ∀ {n : Nat}, lead p n < n → p (lead p n) = false
  | 0, h => by simp [lead] at h
  | n + 1, h => by
    by_cases e : lead p n = n ∧ p n = true
    · simp only [lead, if_pos e] at h; omega
    · simp only [lead, if_neg e] at h ⊢
      by_cases h1 : lead p n = n
      · rw [h1]
        cases hp : p n with
        | false => rfl
        | true => exact absurd ⟨h1, hp⟩ e
      · exact lead_stop (by have := lead_le p n; omega)
theorem ext_lt {p : Nat → Bool} {k : Nat} (h : ∀ j, j < k → p j = true) (hk : p k = true) : ∀ j, j < k + 1 → p j = true := fun j hj => by
  by_cases e : j = k
  · subst e; exact hk
  · exact h j (by omega)
def rCnt (M : wM) (c sz : Nat) : Nat := lead (cnts M c) sz
def rHang (M : wM) (c sz : Nat) : Bool := decide (rCnt M c sz < sz)
def rApp (M : wM) (c sz : Nat) (le am : Int32) : wM := wr (wr (wr (wr (wr M (rRow c) 0 (nI (sz + 1))) (rLe c) sz le) (rAm c) sz am) (rHo c) sz (nI 0)) (rCo c) sz (nI 0)
def stP (M : wM) (c k : Nat) : Bool := decide (M (rHo c) k = 0) && decide (¬ M (rLe c) k = nI 45)
def stN (M : wM) (c k0 : Nat) : Nat → wM
  | 0 => M
  | i + 1 => if stP (stN M c k0 i) c (k0 + i) = true then wr (stN M c k0 i) (rLe c) (k0 + i) (nI 45) else stN M c k0 i
theorem stN_ne {M : wM} {c k0 n r : Nat} (h : r ≠ rLe c) : stN M c k0 n r = M r := by
  induction n with
  | zero => rfl
  | succ n ih => simp only [stN]; split; rw [wr_ne h, ih]; exact ih
def stC (M : wM) (c k0 : Nat) : Nat → Nat
  | 0 => 0
  | i + 1 => stC M c k0 i + (if stP (stN M c k0 i) c (k0 + i) = true then 1 else 0)
theorem stC_le (M : wM) (c k0 : Nat) : ∀ n, stC M c k0 n ≤ n
  | 0 => Nat.le_refl _
  | n + 1 => by have := stC_le M c k0 n; simp only [stC]; split <;> omega
def rStrike (M : wM) (c sz : Nat) : wM := stN M c (rCnt M c sz) (sz - rCnt M c sz)
def rStruck (M : wM) (c sz : Nat) : Nat := stC M c (rCnt M c sz) (sz - rCnt M c sz)
def drN (M : wM) (c t : Nat) : Nat → wM
  | 0 => M
  | k + 1 => if hasB (drN M c t k (rHo c) k) t = true then wr (drN M c t k) (rHo c) k (clB (drN M c t k (rHo c) k) t) else drN M c t k
theorem drN_ne {M : wM} {c t n r : Nat} (h : r ≠ rHo c) : drN M c t n r = M r := by
  induction n with
  | zero => rfl
  | succ n ih => simp only [drN]; split; rw [wr_ne h, ih]; exact ih
def drC (M : wM) (c t : Nat) : Nat → Nat
  | 0 => 0
  | k + 1 => drC M c t k + (if hasB (drN M c t k (rHo c) k) t = true then 1 else 0)
theorem drC_le (M : wM) (c t : Nat) : ∀ n, drC M c t n ≤ n
  | 0 => Nat.le_refl _
  | n + 1 => by have := drC_le M c t n; simp only [drC]; split <;> omega
def hcN (M : wM) (c : Nat) : Nat → Int32
  | 0 => nI 0
  | k + 1 => hcN M c k + bcI (M (rHo c) k)
def mvN (M : wM) (c : Nat) : Nat → Int32
  | 0 => nI 0
  | k + 1 => if M (rLe c) k = nI 100 then (if M (rFh c) k = 0 then mvN M c k + M (rAm c) k else mvN M c k + -M (rAm c) k) else mvN M c k
-- the ledger
def lFree (M : wM) (c : Nat) : Int32 := M (rLed c) 0 - M (rLed c) 1
def tOrd (M : wM) (c : Nat) (le am : Int32) (lo : Nat) : wM :=
  if le = nI 105 then (if am ≤ M (rPu c) lo then wr (wr M (rPu c) lo (M (rPu c) lo - am)) (rLed c) 0 (M (rLed c) 0 + am) else M)
  else if am ≤ lFree M c then wr (wr M (rLed c) 0 (M (rLed c) 0 - am)) (rPu c) lo (M (rPu c) lo + am) else M
def tT1 (M : wM) (c : Nat) (le am fh : Int32) : wM := if le = nI 100 then (if fh = 0 then wr M (rLed c) 0 (M (rLed c) 0 + am) else wr M (rLed c) 0 (M (rLed c) 0 + -am)) else M
def tTru (M : wM) (c : Nat) (le am fh : Int32) : wM :=
  if fh = 0 then tT1 M c le am fh else if le = nI 112 then wr (tT1 M c le am fh) (rLed c) 1 (M (rLed c) 1 + am) else if le = nI 100 then wr (tT1 M c le am fh) (rLed c) 1 (M (rLed c) 1 - am) else if le = nI 97 then wr (tT1 M c le am fh) (rLed c) 1 (M (rLed c) 1 - am) else tT1 M c le am fh
def isOrd (le : Int32) : Bool := decide (le = nI 105) || (decide (le = nI 111) || decide (le = nI 114))
def tStep (M0 M : wM) (c k : Nat) : wM := if isOrd (M0 (rLe c) k) = true then tOrd M c (M0 (rLe c) k) (M0 (rAm c) k) (M0 (rLo c) k).toNatClampNeg else tTru M c (M0 (rLe c) k) (M0 (rAm c) k) (M0 (rFh c) k)
def tBase (M : wM) (c : Nat) (gb : Int32) : wM := clrN (wr (wr M (rLed c) 0 gb) (rLed c) 1 (nI 0)) (rPu c) 4
def tN (M : wM) (c : Nat) (gb : Int32) : Nat → wM
  | 0 => tBase M c gb
  | k + 1 => tStep M (tN M c gb k) c k
theorem tOrd_ne {M : wM} {c lo r : Nat} {le am : Int32} (h1 : r ≠ rLed c) (h2 : r ≠ rPu c) : tOrd M c le am lo r = M r := by
  simp only [tOrd]; split <;> split <;> simp only [wr_ne h1, wr_ne h2]
theorem tT1_ne {M : wM} {c r : Nat} {le am fh : Int32} (h1 : r ≠ rLed c) : tT1 M c le am fh r = M r := by
  simp only [tT1]; split
  · split <;> simp only [wr_ne h1]
  · rfl
theorem tTru_ne {M : wM} {c r : Nat} {le am fh : Int32} (h1 : r ≠ rLed c) : tTru M c le am fh r = M r := by
  simp only [tTru]
  split
  · exact tT1_ne h1
  · split
    · rw [wr_ne h1]; exact tT1_ne h1
    · split
      · rw [wr_ne h1]; exact tT1_ne h1
      · split
        · rw [wr_ne h1]; exact tT1_ne h1
        · exact tT1_ne h1
theorem tN_ne {M : wM} {c n r : Nat} {gb : Int32} (h1 : r ≠ rLed c) (h2 : r ≠ rPu c) : tN M c gb n r = M r := by
  induction n with
  | zero => simp only [tN, tBase]; rw [clrN_ne h2, wr_ne h1, wr_ne h1]
  | succ n ih => simp only [tN, tStep]; split; rw [tOrd_ne h1 h2, ih]; rw [tTru_ne h1, ih]
def lsum (M : wM) (c : Nat) : Nat → Int32
  | 0 => M (rLed c) 0
  | k + 1 => lsum M c k + M (rPu c) k
def inB (M : wM) (c : Nat) : Bool := decide (lead (fun k => decide (0 ≤ M (rPu c) k)) 4 = 4) && (decide (0 ≤ M (rLed c) 1) && decide (M (rLed c) 1 ≤ M (rLed c) 0))
theorem rApp_ne {M : wM} {c sz r : Nat} {le am : Int32} (h1 : r ≠ rRow c) (h2 : r ≠ rLe c) (h3 : r ≠ rAm c) (h4 : r ≠ rHo c) (h5 : r ≠ rCo c) : rApp M c sz le am r = M r := by
  simp only [rApp]; rw [wr_ne h5, wr_ne h4, wr_ne h3, wr_ne h2, wr_ne h1]
