/-! the reference: entries written, weighed, summed -/
theorem rcN_eq {R R' : wM} {c lo : Nat} (h1 : R' 104 = R 104) (h2 : R' 107 = R 107) : ∀ n, rcN R' c lo n = rcN R c lo n
  | 0 => rfl
  | n + 1 => by simp only [rcN]; rw [h1, h2, rcN_eq h1 h2 n]
theorem rcU_eq {R R' : wM} {c : Nat} (h1 : R' 104 = R 104) : ∀ n, rcU R' c n = rcU R c n
  | 0 => rfl
  | n + 1 => by simp only [rcU]; rw [h1, rcU_eq h1 n]
def wsW (R : wM) (c w : Nat) (si wi lo tr near : Int32) : wM := wr (wr (wr (wr (wr (wr (wr R 111 (c * 60 + w) si) 112 (c * 60 + w) wi) 113 (c * 60 + w) lo) 114 (c * 60 + w) tr) 115 (c * 60 + w) near) 116 (c * 60 + w) (nI 0)) 103 c (nI (w + 1))
def mWr (R : wM) (c w : Nat) (si wi lo tr near : Int32) : wM := cmN (wsW R c w si wi lo tr near) c (w + 1)
theorem wP21_ne {R : wM} {a r : Nat} (h1 : r ≠ rMod) (h2 : r ≠ 135) : wP2 (wP1 R a) a r = R r := by rw [wP2_ne h1 h2, wP1_ne h1 h2]
def hgR (R : wM) (c w : Nat) : Bool := decide (suC R c w < w)
def oldR (R : wM) (k : Nat) : Bool := decide (¬ R 126 k = 0) || decide (R 123 k + nI 10 ≤ R rMod 18)
theorem mWr_ne {R : wM} {c w r : Nat} {si wi lo tr near : Int32} (h1 : r ≠ 111) (h2 : r ≠ 112) (h3 : r ≠ 113) (h4 : r ≠ 114) (h5 : r ≠ 115) (h6 : r ≠ 116) (h7 : r ≠ 103) : mWr R c w si wi lo tr near r = R r := by
  unfold mWr; rw [cmN_ne h6]; unfold wsW; rw [wr_ne h7, wr_ne h6, wr_ne h5, wr_ne h4, wr_ne h3, wr_ne h2, wr_ne h1]
