/-! sights, truces, the game itself: codes of what is thrown, answers, memories -/
abbrev eIOE : String := "java/lang/IndexOutOfBoundsException"
abbrev eIAE : String := "java/lang/IllegalArgumentException"
abbrev eUOE : String := "java/lang/UnsupportedOperationException"
abbrev eNSE : String := "java/util/NoSuchElementException"
abbrev eISE : String := "java/lang/IllegalStateException"
/-- the exception of this place in the list -/
def XE (L : List String) (k : Nat) (E : String) : Prop := 0 < k ∧ L[k - 1]? = some E
theorem XE_of {L : List String} {k k' : Nat} {E : String} (h : k' = k) (h0 : 0 < k) (h1 : L[k - 1]? = some E) : XE L k' E := by subst h; exact ⟨h0, h1⟩
def vIn (x : Int32) (n : Nat) : Bool := decide (0 ≤ x) && decide (x < nI n)
theorem vIn_nI {c n : Nat} (h : c < n) (hn : n < 2 ^ 31) : vIn (nI c) n = true := by
  have h1 : (0 : Int32) ≤ nI c := nI_pos' (Nat.lt_trans h hn)
  have h2 : nI c < nI n := nI_lt h hn
  simp [vIn, h1, h2]
theorem vIn_ok {x : Int32} {n : Nat} (h1 : 0 ≤ x) (h2 : x < nI n) (hn : n < 2 ^ 31) : ∃ c : Nat, c < n ∧ x = nI c := by
  rcases pk_ix x hn with h | h | ⟨j, hj, rfl⟩
  · exact absurd h (Int32.not_lt.mpr h1)
  · exact absurd h2 (Int32.not_lt.mpr h)
  · exact ⟨j, hj, rfl⟩
theorem vIn_ok' {x : Int32} {n : Nat} (h : vIn x n = true) (hn : n < 2 ^ 31) : ∃ c : Nat, c < n ∧ x = nI c := by
  simp only [vIn, Bool.and_eq_true, decide_eq_true_eq] at h
  exact vIn_ok h.1 h.2 hn
def cI (x : Int32) : Nat := x.toNatClampNeg
theorem cI_nI {c n : Nat} (h : c < n) (hn : n < 2 ^ 31) : cI (nI c) = c := nI_clamp (Nat.lt_trans h hn)
theorem nI_inj2 {a b n : Nat} (ha : a < n) (hb : b < n) (hn : n < 2 ^ 31) (h : nI a = nI b) : a = b := (nI_eq (Nat.lt_trans ha hn) (Nat.lt_trans hb hn)).mp h
def vAm (x : Int32) : Bool := decide (nI 1 ≤ x) && decide (x ≤ nI 999)
def vB (tw gd : Int32) : Bool := decide (nI 1 ≤ tw) && (decide (tw ≤ nI 7) && (decide (0 ≤ gd) && decide (gd ≤ nI 9999)))
def vW (t : Int32) : Bool := decide (nI 1 ≤ t) && decide (t ≤ nI 100)
def vL (t : Int32) : Bool := decide (nI 1 ≤ t) && decide (t ≤ nI 20)
def tcN (M : wM) (c : Nat) : Nat := (M (rCas c) 0).toNatClampNeg
def szN (M : wM) (c : Nat) : Nat := (M (rRow c) 0).toNatClampNeg
def scN (M : wM) : Nat := (M rMain 5).toNatClampNeg
def tnN (M : wM) : Nat := (M rMain 6).toNatClampNeg
def plN (M : wM) (k : Nat) : Nat := (M (rSi k) 0).toNatClampNeg
def loN (M : wM) (k : Nat) : Nat := (M (rSi k) 1).toNatClampNeg
abbrev nowM (M : wM) : Int32 := M rMain 7
def okE (M : wM) (c sz : Nat) : Prop := ∀ j, j < sz → narrow .char (.int (M (rLe c) j)) = .int (M (rLe c) j) ∧ narrow .boolean (.int (M (rCo c) j)) = .int (M (rCo c) j)
/-- what a method needs of the class's memory -/
def IVC (M : wM) (c : Nat) : Prop := M (rCas c) 0 = nI (tcN M c) ∧ tcN M c ≤ 7 ∧ M (rRow c) 0 = nI (szN M c) ∧ szN M c ≤ 60 ∧ okL M c (szN M c) ∧ okE M c (szN M c)
def IVS (M : wM) (k : Nat) : Prop := M (rSi k) 0 = nI (plN M k) ∧ plN M k < 2 ∧ M (rSi k) 1 = nI (loN M k) ∧ loN M k < 4
def IVT (M : wM) (k : Nat) : Prop := narrow .char (.int (M (rTr k) 2)) = .int (M (rTr k) 2) ∧ ∀ c, c < 2 → narrow .char (.int (M (rSt k) c)) = .int (M (rSt k) c)
def IV (M : wM) : Prop := (∀ c, c < 2 → IVC M c) ∧ (M rMain 5 = nI (scN M) ∧ scN M ≤ 20) ∧ (M rMain 6 = nI (tnN M) ∧ tnN M ≤ 8) ∧ (∀ k, k < scN M → IVS M k) ∧ ∀ k, k < tnN M → IVT M k
theorem vp_of_nar {ty : FieldType} {x : Int32} (h : narrow ty (.int x) = .int x) : vp_nar ty x = x := by unfold vp_nar; rw [h]
theorem plv_at {V : wV} {x : Int32} {p : Nat} (hp : p < 2) (h : x = nI p) : plv V x = .ref (V.1 (rCas p)) := by
  rcases (show p = 0 ∨ p = 1 by omega) with rfl | rfl <;> rw [h] <;> rfl
-- sights
def sOld (M : wM) (k p : Nat) (now : Int32) : Bool := decide (M (rSi k) 2 + nI 10 ≤ now) || decide (¬ M (rCas p) 2 = M (rSi k) 3)
def lk4 (M : wM) (k c lo : Nat) (now : Int32) : wM := wr (wr (wr (wr M (rSi k) 0 (nI c)) (rSi k) 1 (nI lo)) (rSi k) 2 now) (rSi k) 3 (M (rCas c) 2)
def lk5 (M : wM) (k c lo sz : Nat) (now : Int32) : wM := wr (lk4 M k c lo now) (rSi k) 4 (nI (rCnt (lk4 M k c lo now) c sz))
def sLook (M : wM) (k c lo sz : Nat) (now : Int32) : wM := wr (telM (lk5 M k c lo sz now) c sz) (rSi k) 5 (lFree (telM (lk5 M k c lo sz now) c sz) c)
theorem lk4_ne {M : wM} {k c lo r : Nat} {now : Int32} (h : r ≠ rSi k) : lk4 M k c lo now r = M r := by unfold lk4; rw [wr_ne h, wr_ne h, wr_ne h, wr_ne h]
theorem lk5_ne {M : wM} {k c lo sz r : Nat} {now : Int32} (h : r ≠ rSi k) : lk5 M k c lo sz now r = M r := by unfold lk5; rw [wr_ne h, lk4_ne h]
theorem sLook_ne {M : wM} {k c lo sz r : Nat} {now : Int32} (h : r ≠ rSi k) (h1 : r ≠ rLed c) (h2 : r ≠ rPu c) : sLook M k c lo sz now r = M r := by unfold sLook; rw [wr_ne h, telM_ne h1 h2, lk5_ne h]
theorem okL_eq {M M' : wM} {c sz : Nat} (h1 : M' (rLe c) = M (rLe c)) (h2 : M' (rLo c) = M (rLo c)) (h : okL M c sz) : okL M' c sz := by
  intro j hj ho; rw [h1] at ho; rw [h2]; exact h j hj ho
-- truces
def bg3 (M : wM) (k : Nat) (fr am : Int32) : wM := wr (wr (wr M (rTr k) 0 fr) (rTr k) 1 am) (rTr k) 2 (nI 45)
def bgN (M : wM) (k : Nat) (fr am : Int32) : Nat → wM
  | 0 => bg3 M k fr am
  | j + 1 => wr (bgN M k fr am j) (rSt k) j (nI 45)
theorem bgN_ne {M : wM} {k n r : Nat} {fr am : Int32} (h1 : r ≠ rTr k) (h2 : r ≠ rSt k) : bgN M k fr am n r = M r := by
  induction n with
  | zero => simp only [bgN, bg3]; rw [wr_ne h1, wr_ne h1, wr_ne h1]
  | succ n ih => simp only [bgN]; rw [wr_ne h2, ih]
def tDec (M : wM) (k : Nat) : Bool := decide (¬ M (rTr k) 2 = nI 45)
def tPre (M : wM) (k : Nat) : Nat := cntB (fun j => decide (M (rSt k) j = nI 112)) 2
-- the game
def opP (M : wM) (c k : Nat) : Bool := decide (¬ M (rSt k) c = nI 112)
def opQ (M : wM) (c : Nat) : Nat := lead (opP M c) (tnN M)
def opT (M : wM) (c : Nat) : Int32 := if opQ M c < tnN M then nI (opQ M c) else (-1)
theorem opT_ok {M : wM} {c : Nat} (h : 0 ≤ opT M c) : opT M c = nI (opQ M c) ∧ opQ M c < tnN M := by
  unfold opT at h ⊢
  split
  · rename_i h1; exact ⟨rfl, h1⟩
  · rename_i h1; rw [if_neg h1] at h; exact absurd h (by decide)
def vC (x : Int32) : Bool := vIn x 2
def kTow (M : wM) (ca to : Int32) : Nat := if (vC ca && vIn to (tcN M (cI ca))) = true then 0 else 1
def kEnt (M : wM) (ca en : Int32) : Nat := if (vC ca && vIn en (szN M (cI ca))) = true then 0 else 1
def kVote (M : wM) (ca to ga : Int32) : Nat := if (vC ca && (vIn to (tcN M (cI ca)) && vIn ga 3)) = true then (if gHeld M (cI ca) (cI ga) (cI to) (nowM M) = true then 0 else 2) else 1
def kBuild (M : wM) (ca tw gd : Int32) : Nat := if vC ca = true then (if vB tw gd = true then (if opT M (cI ca) < 0 then 0 else 3) else 2) else 1
def kWait (t : Int32) : Nat := if vW t = true then 0 else 1
def kCut (M : wM) (ca to lo : Int32) : Nat := if (vC ca && (vIn to (tcN M (cI ca)) && vIn lo 4)) = true then 0 else 1
def vG3 (ca ga lo : Int32) : Bool := vC ca && (vIn ga 3 && vIn lo 4)
def kLease (M : wM) (lo ca ga ti : Int32) : Nat := if vG3 ca ga lo = true then (if vL ti = true then (if qrm M (cI ca) (voN M (cI ca) (cI ga) (cI lo) (nowM M) (tcN M (cI ca))) = true then 0 else 3) else 2) else 1
def kGive (M : wM) (lo ca ga : Int32) : Nat := if vG3 ca ga lo = true then (if gOpen M (cI ca) (cI ga) (cI lo) (nowM M) = true then 0 else 2) else 1
def kG3 (lo ca ga : Int32) : Nat := if vG3 ca ga lo = true then 0 else 1
def ofQ (M : wM) (c g : Nat) (now : Int32) : Nat := lead (fun j => !gOpen M c g j now) 4
def kOpen (M : wM) (ca ga : Int32) : Nat := if (vC ca && vIn ga 3) = true then (if ofQ M (cI ca) (cI ga) (nowM M) < 4 then 0 else 2) else 1
def kCL (ca lo : Int32) : Nat := if (vC ca && vIn lo 4) = true then 0 else 1
def kC (ca : Int32) : Nat := if vC ca = true then 0 else 1
def towR (M : wM) (c t : Nat) (now : Int32) : Int32 := if hasB (M (rCas c) 3) t = true then (if cWait M c t now = true then nI 119 else nI 117) else nI 100
def ordE (M : wM) (c lo : Nat) (isIn : Bool) (am : Int32) : Bool := if isIn = true then decide (am ≤ telM M c (szN M c) (rPu c) lo) else decide (am ≤ lFree (telM M c (szN M c)) c)
def ord3 (M : wM) (c g lo : Nat) (isIn : Bool) (am : Int32) : Bool := gOpen M c g lo (nowM M) && (ordE M c lo isIn am && decide (¬ nearI (telM M c (szN M c)) c lo = 0))
def kOrd (M : wM) (lo ca ga : Int32) (isIn : Bool) (am : Int32) : Nat := if vG3 ca ga lo = true then (if vAm am = true then (if ord3 M (cI ca) (cI ga) (cI lo) isIn am = true then (if szN M (cI ca) < 60 then 0 else 4) else 3) else 2) else 1
def ordX (M : wM) (lo ca ga : Int32) (am : Int32) : wM := if (vG3 ca ga lo && (vAm am && gOpen M (cI ca) (cI ga) (cI lo) (nowM M))) = true then telM M (cI ca) (szN M (cI ca)) else M
def ordM (M : wM) (c lo : Nat) (isIn : Bool) (am : Int32) : wM := cWrite (telM M c (szN M c)) c (szN M c) (if isIn = true then nI 105 else nI 111) am (nI lo) (nearI (telM M c (szN M c)) c lo)
def kHas (M : wM) (ca to en : Int32) : Nat := if (vC ca && (vIn to (tcN M (cI ca)) && vIn en (szN M (cI ca)))) = true then 0 else 1
def kScout (M : wM) (lo ca : Int32) : Nat := if (vC ca && vIn lo 4) = true then (if qrm M (cI ca) (nearI M (cI ca) (cI lo)) = true then (if scN M < 20 then 0 else 3) else 2) else 1
def scoM (M : wM) (c lo : Nat) : wM := wr (sLook M (scN M) c lo (szN M c) (nowM M)) rMain 5 (nI (scN M + 1))
def kRead (M : wM) (si : Int32) : Nat := if vIn si (scN M) = true then (if sOld M (cI si) (plN M (cI si)) (nowM M) = true then 2 else 0) else 1
def orO (M : wM) (k p lo g sz : Nat) (now : Int32) : Int32 :=
  if sOld M k p now = true then nI 111 else if gOpen M p g lo now = false then nI 103 else if qrm M p (nearI M p lo) = false then nI 113 else if nI (rCnt M p sz) = M (rSi k) 4 then (if rHang M p sz = true then nI 115 else nI 119) else nI 115
def kRaid (M : wM) (si ga : Int32) : Nat := if (vIn si (scN M) && vIn ga 3) = true then (if szN M (plN M (cI si)) < 60 then 0 else 2) else 1
def raiR (M : wM) (k g : Nat) : Int32 := orO M k (plN M k) (loN M k) g (szN M (plN M k)) (nowM M)
def raiW (M : wM) (k : Nat) : wM := cWrite M (plN M k) (szN M (plN M k)) (nI 114) (M (rSi k) 5 / nI 2) (nI (loN M k)) (nearI M (plN M k) (loN M k))
def raiM (M : wM) (k g : Nat) : wM := if raiR M k g = nI 119 then wr (raiW M k) rWin (loN M k) (M rWin (loN M k) + nI 1) else M
theorem cWrite_ne {M : wM} {c sz r : Nat} {le am lo tw : Int32} (h1 : r ≠ rRow c) (h2 : r ≠ rLe c) (h3 : r ≠ rAm c) (h4 : r ≠ rHo c) (h5 : r ≠ rCo c) (h6 : r ≠ rLo c) : cWrite M c sz le am lo tw r = M r := by
  unfold cWrite; rw [seM_ne h4 h5, wr_ne h6, rApp_ne h1 h2 h3 h4 h5]
def kTruce (M : wM) (fr am : Int32) : Nat := if vC fr = true then (if vAm am = true then (if tnN M < 8 then 0 else 3) else 2) else 1
def truM (M : wM) (fr am : Int32) : wM := wr (bgN M (tnN M) fr am 2) rMain 6 (nI (tnN M + 1))
def cpB (M : wM) (k c lo : Nat) : Bool := !tDec M k && (decide (opT M c < 0) && (qrm M c (nearI M c lo) && !rHang M c (szN M c)))
def canP (M : wM) (k c lo : Nat) : Bool := cpB M k c lo && (decide (¬ M (rTr k) 0 = nI c) || decide (M (rTr k) 1 ≤ lFree (telM M c (szN M c)) c))
def canM (M : wM) (k c lo : Nat) : wM := if (cpB M k c lo && decide (M (rTr k) 0 = nI c)) = true then telM M c (szN M c) else M
theorem canM_ne {M : wM} {k c lo r : Nat} (h1 : r ≠ rLed c) (h2 : r ≠ rPu c) : canM M k c lo r = M r := by
  unfold canM; split
  · exact telM_ne h1 h2
  · rfl
def vP3 (M : wM) (tr ca lo : Int32) : Bool := vIn tr (tnN M) && (vC ca && vIn lo 4)
def kPrep (M : wM) (tr ca lo : Int32) : Nat := if vP3 M tr ca lo = true then (if canP M (cI tr) (cI ca) (cI lo) = true then (if szN M (cI ca) < 60 then 0 else 3) else 2) else 1
def preX (M : wM) (tr ca lo : Int32) : wM := if vP3 M tr ca lo = true then canM M (cI tr) (cI ca) (cI lo) else M
def pre1 (M : wM) (k c lo : Nat) : wM := wr (canM M k c lo) (rSt k) c (nI 112)
def preM (M : wM) (k c lo : Nat) : wM := cWriteT (pre1 M k c lo) c (szN M c) (nI 112) (M (rTr k) 1) (decide (M (rTr k) 0 = nI c)) (nearI (pre1 M k c lo) c lo)
def kDec (M : wM) (tr : Int32) (dn : Bool) : Nat := if vIn tr (tnN M) = true then (if tDec M (cI tr) = true then 2 else if (dn && decide (tPre M (cI tr) < 2)) = true then 2 else 0) else 1
def decM (M : wM) (k : Nat) (dn : Bool) : wM := wr M (rTr k) 2 (if dn = true then nI 100 else nI 97)
def stl2 (M : wM) (c : Nat) : Bool := decide (0 ≤ opT M c) && (tDec M (opQ M c) && (qrm M c (M (rCas c) 3) && !rHang M c (szN M c)))
def kSet (M : wM) (ca : Int32) : Nat := if vC ca = true then (if stl2 M (cI ca) = true then (if szN M (cI ca) < 60 then 0 else 3) else 2) else 1
def set1 (M : wM) (c : Nat) : wM := wr M (rSt (opQ M c)) c (M (rTr (opQ M c)) 2)
def setM (M : wM) (c : Nat) : wM := cWriteT (set1 M c) c (szN M c) (M (rTr (opQ M c)) 2) (M (rTr (opQ M c)) 1) (decide (M (rTr (opQ M c)) 0 = nI c)) (M (rCas c) 3)
def kTC (M : wM) (tr ca : Int32) : Nat := if (vIn tr (tnN M) && vC ca) = true then 0 else 1
def chkA (M : wM) : wM := telM M 0 (szN M 0)
def chk (M : wM) : Int64 := adN (telM (chkA M) 1 (szN M 1)) 1 (adN (chkA M) 0 7 4) 4
def chkM (M : wM) : wM := telM (chkA M) 1 (szN M 1)
def sndA (M : wM) : wM := cSndM M 0 (szN M 0) (nowM M)
def snd (M : wM) : Bool := cSnd M 0 (szN M 0) (nowM M) && cSnd (sndA M) 1 (szN M 1) (nowM M)
def sndM (M : wM) : wM := if cSnd M 0 (szN M 0) (nowM M) = true then cSndM (sndA M) 1 (szN M 1) (nowM M) else sndA M
theorem cSndM_ne {M : wM} {c sz r : Nat} {now : Int32} (h1 : r ≠ rLed c) (h2 : r ≠ rPu c) : cSndM M c sz now r = M r := by
  unfold cSndM; split
  · exact telM_ne h1 h2
  · rfl
theorem dnN_row {M : wM} {c t n : Nat} (hn : n ≤ 3) : dnN M c t n (rRow c) = M (rRow c) := by
  induction n with
  | zero => simp only [dnN]; rw [wr_ne (by simp only [rRow, rCas]; omega)]
  | succ n ih => simp only [dnN]; rw [wr_ne (by simp only [rRow, rVT]; omega), ih (by omega)]
theorem raiR_nar (M : wM) (k g : Nat) : narrow .char (.int (raiR M k g)) = .int (raiR M k g) := by
  unfold raiR orO; split; decide; split; decide; split; decide; split; split; decide; decide; decide
theorem cWriteT_ne {M : wM} {c sz r : Nat} {le am tw : Int32} {fh : Bool} (h1 : r ≠ rRow c) (h2 : r ≠ rLe c) (h3 : r ≠ rAm c) (h4 : r ≠ rHo c) (h5 : r ≠ rCo c) (h6 : r ≠ rFh c) : cWriteT M c sz le am fh tw r = M r := by
  unfold cWriteT; rw [seM_ne h4 h5, wr_ne h6, rApp_ne h1 h2 h3 h4 h5]
