/-! the castle's methods -/
theorem rCnt_eq {M M' : wM} {c sz : Nat} (h1 : M' (rCo c) = M (rCo c)) (h2 : M' (rLe c) = M (rLe c)) : rCnt M' c sz = rCnt M c sz := by
  unfold rCnt cnts; rw [h1, h2]
theorem tBase_ne {M : wM} {c r : Nat} {gb : Int32} (h1 : r ≠ rLed c) (h2 : r ≠ rPu c) : tBase M c gb r = M r := tN_ne (n := 0) h1 h2
/-- the lords of orders are lords -/
def okL (M : wM) (c sz : Nat) : Prop := ∀ j, j < sz → isOrd (M (rLe c) j) = true → (M (rLo c) j).toNatClampNeg < 4 ∧ M (rLo c) j = nI (M (rLo c) j).toNatClampNeg
def rwB (M : wM) (c : Nat) (tw gd : Int32) : wM := wr (wr (wr (wr M (rCas c) 0 tw) (rCas c) 1 gd) (rCas c) 2 (M (rCas c) 2 + nI 1)) (rCas c) 3 ((nI 1 <<< (tw &&& 31)) - nI 1)
def gcN (M : wM) (c : Nat) : Nat → wM
  | 0 => M
  | g + 1 => gClear (gcN M c g) c g
def cRaise (M : wM) (c : Nat) (tw gd : Int32) : wM := wr (gcN (clrN (clrN (rwB M c tw gd) (rWt c) 7) (rCt c) 4) c 3) (rRow c) 0 (nI 0)
def qrm (M : wM) (c : Nat) (x : Int32) : Bool := decide (M (rCas c) 0 < nI 2 * bcI x)
def cWait (M : wM) (c t : Nat) (now : Int32) : Bool := decide (now < M (rWt c) t)
def dnN (M : wM) (c t : Nat) : Nat → wM
  | 0 => wr M (rCas c) 3 (clB (M (rCas c) 3) t)
  | g + 1 => wr (dnN M c t g) (rVT c g) t (nI 0)
def cUp (M : wM) (c t : Nat) (wt : Int32) : wM := wr (wr M (rCas c) 3 (M (rCas c) 3 ||| (nI 1 <<< (nI t &&& 31)))) (rWt c) t wt
def cCut (M : wM) (c t lo : Nat) (is : Bool) : wM := if hasB (M (rCt c) lo) t = is then M else wr M (rCt c) lo (M (rCt c) lo ^^^ (nI 1 <<< (nI t &&& 31)))
def nearI (M : wM) (c lo : Nat) : Int32 := M (rCas c) 3 &&& (M (rCt c) lo ^^^ (-1))
def voN (M : wM) (c g lo : Nat) (now : Int32) : Nat → Int32
  | 0 => nearI M c lo
  | k + 1 => if (cWait M c k now || gOther M c g k (nI lo) now) = true then clB (voN M c g lo now k) k else voN M c g lo now k
def seM (M : wM) (c k : Nat) (tw : Int32) : wM :=
  if qrm (wr M (rHo c) k (M (rHo c) k ||| tw)) c (M (rHo c) k ||| tw) = true then wr (wr M (rHo c) k (M (rHo c) k ||| tw)) (rCo c) k (nI 1) else wr M (rHo c) k (M (rHo c) k ||| tw)
def seG (M : wM) (c k : Nat) (tw : Int32) : Int32 := bcI (tw &&& (M (rHo c) k ^^^ (-1)))
theorem seM_ne {M : wM} {c k r : Nat} {tw : Int32} (h1 : r ≠ rHo c) (h2 : r ≠ rCo c) : seM M c k tw r = M r := by
  simp only [seM]; split
  · rw [wr_ne h2, wr_ne h1]
  · rw [wr_ne h1]
def cWrite (M : wM) (c sz : Nat) (le am lo tw : Int32) : wM := seM (wr (rApp M c sz le am) (rLo c) sz lo) c sz tw
def cWriteT (M : wM) (c sz : Nat) (le am : Int32) (fh : Bool) (tw : Int32) : wM := seM (wr (rApp M c sz le am) (rFh c) sz (b2i fh)) c sz tw
def spN (M : wM) (c : Nat) : Nat → wM
  | 0 => M
  | k + 1 => if spN M c k (rHo c) k &&& M (rCas c) 3 = 0 then spN M c k else seM (spN M c k) c k (M (rCas c) 3)
theorem spN_ne {M : wM} {c n r : Nat} (h1 : r ≠ rHo c) (h2 : r ≠ rCo c) : spN M c n r = M r := by
  induction n with
  | zero => rfl
  | succ n ih => simp only [spN]; split; exact ih; rw [seM_ne h1 h2, ih]
def spG (M : wM) (c : Nat) : Nat → Int32
  | 0 => nI 0
  | k + 1 => if spN M c k (rHo c) k &&& M (rCas c) 3 = 0 then spG M c k else spG M c k + seG (spN M c k) c k (M (rCas c) 3)
def telM (M : wM) (c sz : Nat) : wM := tN M c (M (rCas c) 1) (rCnt M c sz)
theorem telM_ne {M : wM} {c sz r : Nat} (h1 : r ≠ rLed c) (h2 : r ≠ rPu c) : telM M c sz r = M r := tN_ne h1 h2
def adN (M : wM) (c : Nat) (s0 : Int64) : Nat → Int64
  | 0 => 31 * s0 + (M (rLed c) 0).toInt64
  | k + 1 => 31 * adN M c s0 k + (M (rPu c) k).toInt64
def sndG (M : wM) (c : Nat) (now : Int32) : Bool := decide (lead (fun j => decide (cntB (fun lo => gOpen M c j lo now) 4 ≤ 1)) 3 = 3)
def cSnd (M : wM) (c sz : Nat) (now : Int32) : Bool := sndG M c now && (inB (telM M c sz) c && decide (lsum (telM M c sz) c 4 = M (rCas c) 1 + mvN (telM M c sz) c (rCnt (telM M c sz) c sz)))
def cSndM (M : wM) (c sz : Nat) (now : Int32) : wM := if sndG M c now = true then telM M c sz else M
theorem bb_eq {p : Program} {l : Launch} {e : Env} {R : Room} {s : State} {m : MethodId} {args : Array Value} {below : List Frame} {meth : Method} {c : Code} {cc : ByteArray} {H : Heap} {locs : List Loc} {cells slots pc : Nat} {Q : State → Prop} {ls : Array Slot} {rest : List Value} (hexec : p.tables.exec = Jvm.exec) (hb : c.code = cc) {a b : Bool} {off : Int} {tgt : Nat} (hdg : decode cc pc = .ok (.if_icmp .eq off, 3)) (ht : (pc : Int) + off = (tgt : Int)) (kt : a = b → W p l e R s m args below meth c H locs cells slots Q (F0 m tgt ls rest)) (kf : a ≠ b → W p l e R s m args below meth c H locs cells slots Q (F0 m (pc + 3) ls rest)) : W p l e R s m args below meth c H locs cells slots Q (F0 m pc ls (.int (b2i b) :: .int (b2i a) :: rest)) :=
  lv_icmp_eq hexec hb hdg ht (fun h => kt (by cases a <;> cases b <;> first | rfl | exact absurd h (by decide))) (fun h => kf (fun z => h (by rw [z])))
