/-! the reference's public methods: codes, answers, memories -/
theorem th_ {M : wM} {k : Int32} {r j : Nat} (h : (r == 100) = false) : wr M rMod 19 k r j = M r j := wr_othr (fun e => by rw [e] at h; exact absurd h (by decide))
abbrev suR (R : wM) (ca : Int32) : wM := suM (thr R 0) (cI ca) (wrN R (cI ca))
def ordBR (S : wM) (lo : Nat) (isIn : Bool) (am : Int32) : Bool := if isIn = true then decide (am ≤ S 135 lo) else decide (am ≤ S rMod 31 - S rMod 32)
def ord3R (R : wM) (lo ca ga : Int32) (isIn : Bool) (am : Int32) : Bool := mOpen (suR R ca) (cI ca) (cI ga) (cI lo) && (ordBR (suR R ca) (cI lo) isIn am && decide (¬ rcN (suR R ca) (cI ca) (cI lo) (mnN R (cI ca)) = 0))
def kOrdR (R : wM) (lo ca ga : Int32) (isIn : Bool) (am : Int32) : Nat := if vR3 ca ga lo = true then (if vI am (nI 1) (nI 999) = true then (if ord3R R lo ca ga isIn am = true then (if wrN R (cI ca) < 60 then 0 else 4) else 3) else 2) else 1
def orderR (R : wM) (lo ca ga : Int32) (isIn : Bool) (am : Int32) : wM :=
  if kOrdR R lo ca ga isIn am = 0 then mWr (thr (suR R ca) 0) (cI ca) (wrN R (cI ca)) (if isIn = true then nI 105 else nI 111) am (nI (cI lo)) (nI 0) (rcN (thr (suR R ca) 0) (cI ca) (cI lo) (mnN R (cI ca)))
  else if kOrdR R lo ca ga isIn am ≤ 2 then thr R (kOrdR R lo ca ga isIn am) else thr (suR R ca) (kOrdR R lo ca ga isIn am)
def sumR (R : wM) (ca : Int32) : wM := if kCR ca = 0 then suR R ca else thr R 1
def strikeR (R : wM) (ca : Int32) : wM := if kCR ca = 0 then stRN (suR R ca) R (cI ca) (suC (thr R 0) (cI ca) (wrN R (cI ca))) (wrN R (cI ca) - suC (thr R 0) (cI ca) (wrN R (cI ca))) else thr R 1
def purseR (R : wM) (lo ca : Int32) : wM := if kCLR ca lo = 0 then suR R ca else thr R 1
