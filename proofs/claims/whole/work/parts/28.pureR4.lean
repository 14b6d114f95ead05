/-! the reference: sights, raids, truces, figures -/
abbrev T0 (R : wM) : wM := wr R rMod 19 (nI 0)
abbrev suT (R : wM) (c : Nat) : wM := suM (wr R rMod 19 (nI 0)) c (wrN R c)
theorem okB_eq {R R' : wM} {c n : Nat} (h1 : R' 111 = R 111) (h2 : R' 113 = R 113) (h3 : R' 114 = R 114) (h : okB R c n) : okB R' c n := by
  unfold okB at *; rw [h1, h2, h3]; exact h
def kScoR (R : wM) (lo ca : Int32) : Nat := if (vIn ca 2 && vIn lo 4) = true then (if mQ (T0 R) (cI ca) (rcN (T0 R) (cI ca) (cI lo) (mnN R (cI ca))) = true then (if siN R < 20 then 0 else 3) else 2) else 1
def scoRR (R : wM) (lo ca : Int32) : wM := if kScoR R lo ca = 0 then
  wr (wr (wr (wr (wr (wr (wr (suT R (cI ca)) 121 (siN R) (nI (cI lo))) 122 (siN R) (nI (cI ca))) 123 (siN R) (R rMod 18)) 124 (siN R) (nI (suC (T0 R) (cI ca) (wrN R (cI ca))))) 125 (siN R) (suT R (cI ca) rMod 31 - suT R (cI ca) rMod 32)) 126 (siN R) (nI 0)) rMod 16 (nI (siN R + 1))
  else thr R (kScoR R lo ca)
def kReaR (R : wM) (si : Int32) : Nat := if vIn si (siN R) = true then (if oldR (T0 R) (cI si) = true then 2 else 0) else 1
def kRaiR (R : wM) (si ga : Int32) : Nat := if (vIn si (siN R) && vIn ga 3) = true then (if wrN R (scC R (cI si)) < 60 then 0 else 2) else 1
def raiNr (R : wM) (k : Nat) : Int32 := rcN (T0 R) (scC R k) (scL R k) (mnN R (scC R k))
def raiVR (R : wM) (k g : Nat) : Int32 :=
  if oldR (T0 R) k = true then nI 111 else if mOpen (T0 R) (scC R k) g (scL R k) = true then (if mQ (T0 R) (scC R k) (raiNr R k) = true then
    (if hgR (T0 R) (scC R k) (wrN R (scC R k)) = true then nI 115 else if nI (suC (T0 R) (scC R k) (wrN R (scC R k))) = R 124 k then nI 119 else nI 115) else nI 113) else nI 103
def raiMR (R : wM) (k g : Nat) : wM :=
  if oldR (T0 R) k = true then T0 R else if mOpen (T0 R) (scC R k) g (scL R k) = true then (if mQ (T0 R) (scC R k) (raiNr R k) = true then
    (if hgR (T0 R) (scC R k) (wrN R (scC R k)) = true then suT R (scC R k) else if nI (suC (T0 R) (scC R k) (wrN R (scC R k))) = R 124 k then
      wr (mWr (suT R (scC R k)) (scC R k) (wrN R (scC R k)) (nI 114) (R 125 k / nI 2) (nI (scL R k)) (nI 0) (rcN (suT R (scC R k)) (scC R k) (scL R k) (mnN R (scC R k)))) 131 (scL R k) (R 131 (scL R k) + nI 1)
     else suT R (scC R k)) else T0 R) else T0 R
def raidRR (R : wM) (si ga : Int32) : wM := if kRaiR R si ga = 0 then raiMR R (cI si) (cI ga) else thr R (kRaiR R si ga)
def kLoR (lo : Int32) : Nat := if vIn lo 4 = true then 0 else 1
def kTruR (R : wM) (fr wo : Int32) : Nat := if vIn fr 2 = true then (if vI wo (nI 1) (nI 999) = true then (if trN R < 8 then 0 else 3) else 2) else 1
def truRR (R : wM) (fr wo : Int32) : wM := if kTruR R fr wo = 0 then
  wr (wr (wr (wr (wr (wr (T0 R) 127 (trN R) (nI (cI fr))) 128 (trN R) wo) 129 (trN R) (nI 45)) 130 (2 * trN R) (nI 45)) 130 (2 * trN R + 1) (nI 45)) rMod 17 (nI (trN R + 1))
  else thr R (kTruR R fr wo)
def preBR (R : wM) (k c lo : Nat) : Bool :=
  (!hgR (T0 R) c (wrN R c)) && (decide (prN (suT R c) c (trN R) < 0) && (decide (R 130 (2 * k + c) = nI 45) && (decide (R 129 k = nI 45) &&
   ((decide (¬ R 127 k = nI c) || decide (R 128 k ≤ suT R c rMod 31 - suT R c rMod 32)) && mQ (suT R c) c (rcN (suT R c) c lo (mnN R c))))))
def kPreR (R : wM) (tr ca lo : Int32) : Nat := if (vIn tr (trN R) && (vIn ca 2 && vIn lo 4)) = true then (if preBR R (cI tr) (cI ca) (cI lo) = true then (if wrN R (cI ca) < 60 then 0 else 3) else 2) else 1
def preRR (R : wM) (tr ca lo : Int32) : wM := if kPreR R tr ca lo = 0 then
  mWr (wr (wr (suT R (cI ca)) rMod 19 (nI 0)) 130 (2 * cI tr + cI ca) (nI 112)) (cI ca) (wrN R (cI ca)) (nI 112) (R 128 (cI tr)) (nI (cI lo)) (nI (cI tr)) (rcN (wr (wr (suT R (cI ca)) rMod 19 (nI 0)) 130 (2 * cI tr + cI ca) (nI 112)) (cI ca) (cI lo) (mnN R (cI ca)))
  else if kPreR R tr ca lo = 1 then thr R 1 else thr (suT R (cI ca)) (kPreR R tr ca lo)
def pzI (R : wM) (j : Nat) : Nat := if R 130 j = nI 112 then 1 else 0
def decBR (R : wM) (k : Nat) (de : Bool) : Bool := decide (R 129 k = nI 45) && (!de || (decide (R 130 (2 * k) = nI 112) && decide (R 130 (2 * k + 1) = nI 112)))
def kDecR (R : wM) (tr : Int32) (de : Bool) : Nat := if vIn tr (trN R) = true then (if decBR R (cI tr) de = true then 0 else 2) else 1
def decRR (R : wM) (tr : Int32) (de : Bool) : wM := if kDecR R tr de = 0 then wr (T0 R) 129 (cI tr) (if de = true then nI 100 else nI 97) else thr R (kDecR R tr de)
def prQ (R : wM) (c : Nat) : Nat := (prN (T0 R) c (trN R)).toNatClampNeg
theorem prN_ok {R : wM} {c : Nat} : ∀ n, n ≤ 8 → ¬ prN R c n < 0 → ∃ k, k < n ∧ prN R c n = nI k := by
  intro n
  induction n with
  | zero => intro _ h; exact absurd (show (-1 : Int32) < 0 by decide) h
  | succ n ih =>
    intro hn h
    unfold prN at h ⊢
    split
    · exact ⟨n, by omega, rfl⟩
    · rename_i h9; rw [if_neg h9] at h
      obtain ⟨k, a, b⟩ := ih (by omega) h
      exact ⟨k, by omega, b⟩
theorem prQ_ok {R : wM} {c : Nat} (hn : trN R ≤ 8) (h : (0 : Int32) ≤ prN (wr R rMod 19 (nI 0)) c (trN R)) : prN (wr R rMod 19 (nI 0)) c (trN R) = nI (prQ R c) ∧ prQ R c < trN R := by
  obtain ⟨k, a, b⟩ := prN_ok (R := wr R rMod 19 (nI 0)) (c := c) (trN R) hn (Int32.not_lt.mpr h)
  have e : prQ R c = k := by unfold prQ T0; rw [b]; exact nI_clamp (by omega)
  rw [e]; exact ⟨b, a⟩
def setBR (R : wM) (c : Nat) : Bool :=
  (!hgR (T0 R) c (wrN R c)) && (mQ (suT R c) c (rcU (suT R c) c (mnN R c)) && decide (¬ R 129 (prQ R c) = nI 45))
def kSetR (R : wM) (ca : Int32) : Nat := if vIn ca 2 = true then (if prN (T0 R) (cI ca) (trN R) < 0 then 2 else (if setBR R (cI ca) = true then (if wrN R (cI ca) < 60 then 0 else 3) else 2)) else 1
def setRR (R : wM) (ca : Int32) : wM := if kSetR R ca = 0 then
  mWr (wr (wr (suT R (cI ca)) rMod 19 (nI 0)) 130 (2 * prQ R (cI ca) + cI ca) (R 129 (prQ R (cI ca)))) (cI ca) (wrN R (cI ca)) (R 129 (prQ R (cI ca))) (R 128 (prQ R (cI ca))) (-1) (nI (prQ R (cI ca))) (rcU (wr (wr (suT R (cI ca)) rMod 19 (nI 0)) 130 (2 * prQ R (cI ca) + cI ca) (R 129 (prQ R (cI ca)))) (cI ca) (mnN R (cI ca)))
  else if kSetR R ca = 1 then thr R 1 else if prN (T0 R) (cI ca) (trN R) < 0 then thr R 2 else thr (suT R (cI ca)) (kSetR R ca)
def kTCR (R : wM) (tr ca : Int32) : Nat := if (vIn tr (trN R) && vIn ca 2) = true then 0 else 1
def ckM (R : wM) : Nat → wM
  | 0 => R
  | n + 1 => suM (ckM R n) n (wrN R n)
theorem ckM_ne {R : wM} {n r : Nat} (h1 : r ≠ rMod) (h2 : r ≠ 135) : ckM R n r = R r := by
  induction n with
  | zero => rfl
  | succ n ih => unfold ckM; rw [suM_ne h1 h2, ih]
def ckL (S : wM) (x : Int64) : Nat → Int64
  | 0 => x
  | j + 1 => 31 * ckL S x j + (S 135 j).toInt64
def ckN (R : wM) : Nat → Int64
  | 0 => 7
  | n + 1 => ckL (suM (ckM R n) n (wrN R n)) (31 * ckN R n + (suM (ckM R n) n (wrN R n) rMod 31).toInt64) 4
def meR (R : wM) (c : Nat) : Nat → Int32
  | 0 => nI 0
  | k + 1 => meR R c k + onI (R 115 (c * 60 + k))
