/-! THE CALLS, one by one: codes, answers, and the relation behind them. First those that change nothing but ledgers and sums. -/
theorem vIn_cI {x : Int32} {n : Nat} (h : vIn x n = true) (hn : n < 2 ^ 31) : cI x < n := by
  obtain ⟨c, hc, rfl⟩ := vIn_ok' h hn
  rw [show cI (nI c) = c from nI_clamp (Nat.lt_trans hc hn)]; exact hc
theorem ifk0 {b : Bool} {a c : Nat} (hc : c ≠ 0) (h : (if b = true then a else c) = 0) : b = true ∧ a = 0 := by
  cases b
  · exact absurd h (by simpa using hc)
  · exact ⟨rfl, by simpa using h⟩
theorem mVote_k {R : wM} {k c t g : Nat} : mVote (thr R k) c t g = mVote R c t g := by
  unfold mVote nowR
  show decide (wr R rMod 19 (nI k) rMod 18 < wr R rMod 19 (nI k) 109 ((c * 7 + t) * 3 + g)) = _
  rw [wr_othj (by decide), wr_othr (by decide)]
section Ops
variable {M R : wM} {n : Nat}
theorem Re.tT (h : Re M R n) (ca to : Int32) : isT R ca to = (vC ca && vIn to (tcN M (cI ca))) := by
  unfold isT vC
  cases e : vIn ca 2 with
  | false => rw [Bool.false_and, Bool.false_and]
  | true => rw [h.mn (vIn_cI e (by decide))]
theorem Re.tE (h : Re M R n) (ca en : Int32) : isE R ca en = (vC ca && vIn en (szN M (cI ca))) := by
  unfold isE vC
  cases e : vIn ca 2 with
  | false => rw [Bool.false_and, Bool.false_and]
  | true => rw [h.wn (vIn_cI e (by decide))]
theorem thr19 {k : Nat} : thr R k rMod 19 = nI k := wr_same _ _ _ _
theorem op_leaseOf (h : Re M R n) (lo ca ga : Int32) : kG3R lo ca ga = kG3 lo ca ga ∧ (kG3 lo ca ga = 0 → M (rLT (cI ca) (cI ga)) (cI lo) = R 110 ((cI ca * 4 + cI lo) * 3 + cI ga)) := by
  refine ⟨rfl, fun hk => ?_⟩
  obtain ⟨h1, -⟩ := ifk0 (by decide) hk
  simp only [vG3, vC, Bool.and_eq_true] at h1
  exact h.lt (vIn_cI h1.1 (by decide)) (vIn_cI h1.2.1 (by decide)) (vIn_cI h1.2.2 (by decide))
theorem op_vote (h : Re M R n) (ca to ga : Int32) : kVoteR R ca to ga = kVote M ca to ga ∧ (kVote M ca to ga = 0 → M (rVL (cI ca) (cI ga)) (cI to) = R 108 ((cI ca * 7 + cI to) * 3 + cI ga) ∧ M (rVT (cI ca) (cI ga)) (cI to) = R 109 ((cI ca * 7 + cI to) * 3 + cI ga)) := by
  unfold kVoteR kVote
  rw [h.tT, Bool.and_assoc]
  cases e : (vC ca && (vIn to (tcN M (cI ca)) && vIn ga 3)) with
  | false => exact ⟨by simp, fun hk => by simp at hk⟩
  | true =>
    simp only [Bool.and_eq_true] at e
    have hc := vIn_cI e.1 (by decide)
    have hg := vIn_cI e.2.2 (by decide)
    have ht7 : cI to < 7 := Nat.lt_of_lt_of_le (vIn_cI e.2.1 (Nat.lt_of_le_of_lt (h.tc7 hc) (by decide))) (h.tc7 hc)
    refine ⟨?_, fun _ => (h.t hc ht7).2.2.2.1 _ hg⟩
    rw [mVote_k, h.votes hc hg ht7]
theorem op_near (h : Re M R n) (lo ca : Int32) : kCLR ca lo = kCL ca lo ∧ (kCL ca lo = 0 → bcI (nearI M (cI ca) (cI lo)) = onI (rcN (thr R 0) (cI ca) (cI lo) (mnN R (cI ca)))) := by
  refine ⟨rfl, fun hk => ?_⟩
  obtain ⟨h1, -⟩ := ifk0 (by decide) hk
  simp only [vC, Bool.and_eq_true] at h1
  have hc := vIn_cI h1.1 (by decide)
  have hlo := vIn_cI h1.2 (by decide)
  rw [show rcN (thr R 0) (cI ca) (cI lo) (mnN R (cI ca)) = nearI M (cI ca) (cI lo) from (h.onK (k := 0)).reach hc hlo, (h.near hc hlo).1.bco]
theorem op_tower (h : Re M R n) (hn : n ≤ 512) (ca to : Int32) : kTowR R ca to = kTow M ca to ∧ (kTow M ca to = 0 → towR M (cI ca) (cI to) (nowM M) = towRR R (cI ca) (cI to)) := by
  unfold kTowR kTow
  rw [h.tT]
  refine ⟨rfl, fun hk => ?_⟩
  obtain ⟨h1, -⟩ := ifk0 (by decide) hk
  simp only [vC, Bool.and_eq_true] at h1
  have hc := vIn_cI h1.1 (by decide)
  have ht := vIn_cI h1.2 (Nat.lt_of_le_of_lt (h.tc7 hc) (by decide))
  have ht7 : cI to < 7 := Nat.lt_of_lt_of_le ht (h.tc7 hc)
  unfold towR towRR
  rw [(h.t hc ht7).1 ht]
  by_cases e : R 104 (cI ca * 7 + cI to) = 0
  · simp [e]
  · rw [show mRest (thr R 0) (cI ca) (cI to) = mRest R (cI ca) (cI to) from rfl, h.rest hn hc ht e]
    simp [e]
theorem op_entries (h : Re M R n) (ca : Int32) : kCR ca = kC ca ∧ (kC ca = 0 → nI (szN M (cI ca)) = nI (wrN R (cI ca))) := by
  refine ⟨rfl, fun hk => ?_⟩
  obtain ⟨h1, -⟩ := ifk0 (by decide) hk
  rw [h.wn (vIn_cI h1 (by decide))]
theorem op_counting (h : Re M R n) (ca : Int32) : kCR ca = kC ca ∧ (kC ca = 0 → nI (rCnt M (cI ca) (szN M (cI ca))) = nI (suC (thr R 0) (cI ca) (wrN R (cI ca)))) := by
  refine ⟨rfl, fun hk => ?_⟩
  obtain ⟨h1, -⟩ := ifk0 (by decide) hk
  rw [← (h.onK (k := 0)).cnt (vIn_cI h1 (by decide))]; rfl
theorem op_ent (h : Re M R n) (ca en : Int32) : kER R ca en = kEnt M ca en ∧ (kEnt M ca en = 0 → cI ca < 2 ∧ cI en < szN M (cI ca) ∧ ReE M R (cI ca) (cI en)) := by
  unfold kER kEnt
  rw [h.tE]
  refine ⟨rfl, fun hk => ?_⟩
  obtain ⟨h1, -⟩ := ifk0 (by decide) hk
  simp only [vC, Bool.and_eq_true] at h1
  have hc := vIn_cI h1.1 (by decide)
  have hk9 := vIn_cI h1.2 (Nat.lt_of_le_of_lt (h.sz60 hc) (by decide))
  exact ⟨hc, hk9, h.e hc hk9⟩
theorem op_has (h : Re M R n) (ca to en : Int32) : kHasR R ca to en = kHas M ca to en ∧ (kHas M ca to en = 0 → b2i (hasB (M (rHo (cI ca)) (cI en)) (cI to)) = b2i (decide (bitI (R 115 (cI ca * 60 + cI en)) (cI to) = nI 1))) := by
  unfold kHasR kHas
  rw [h.tT, h.tE]
  have e : ((vC ca && vIn to (tcN M (cI ca))) && (vC ca && vIn en (szN M (cI ca)))) = (vC ca && (vIn to (tcN M (cI ca)) && vIn en (szN M (cI ca)))) := by cases vC ca <;> cases vIn to (tcN M (cI ca)) <;> rfl
  rw [e]
  refine ⟨rfl, fun hk => ?_⟩
  obtain ⟨h1, -⟩ := ifk0 (by decide) hk
  simp only [vC, Bool.and_eq_true] at h1
  have hc := vIn_cI h1.1 (by decide)
  have ht7 : cI to < 7 := Nat.lt_of_lt_of_le (vIn_cI h1.2.1 (Nat.lt_of_le_of_lt (h.tc7 hc) (by decide))) (h.tc7 hc)
  obtain ⟨-, -, b3, -, b5, -⟩ := h.e hc (vIn_cI h1.2.2 (Nat.lt_of_le_of_lt (h.sz60 hc) (by decide)))
  rw [← b3, b5.bit ht7]
  cases hasB (M (rHo (cI ca)) (cI en)) (cI to) <;> decide
theorem op_gold (h : Re M R n) (ca : Int32) (isH : Bool) : kCR ca = kC ca ∧ (kC ca = 0 → (if isH = true then telM M (cI ca) (szN M (cI ca)) (rLed (cI ca)) 1 else telM M (cI ca) (szN M (cI ca)) (rLed (cI ca)) 0) = (if isH = true then suR R ca rMod 32 else suR R ca rMod 31)) := by
  refine ⟨rfl, fun hk => ?_⟩
  obtain ⟨h1, -⟩ := ifk0 (by decide) hk
  obtain ⟨l1, l2, l3⟩ := (h.onK (k := 0)).led (vIn_cI h1 (by decide))
  rw [l1, l2]; rfl
theorem op_purse (h : Re M R n) (lo ca : Int32) : kCLR ca lo = kCL ca lo ∧ (kCL ca lo = 0 → telM M (cI ca) (szN M (cI ca)) (rPu (cI ca)) (cI lo) = suR R ca 135 (cI lo)) := by
  refine ⟨rfl, fun hk => ?_⟩
  obtain ⟨h1, -⟩ := ifk0 (by decide) hk
  simp only [vC, Bool.and_eq_true] at h1
  obtain ⟨l1, l2, l3⟩ := (h.onK (k := 0)).led (vIn_cI h1.1 (by decide))
  exact l3 _ (vIn_cI h1.2 (by decide))
theorem Re.si (h : Re M R n) {k : Nat} (hk : k < scN M) : ReS M R (n + 1) k := h.2.2.2.2.2.2.1 k hk
theorem Re.tr (h : Re M R n) {k : Nat} (hk : k < tnN M) : ReP M R k := h.2.2.2.2.2.2.2.1 k hk
theorem Re.sc (h : Re M R n) : scN M = siN R := h.2.2.2.2.1
theorem Re.tn (h : Re M R n) : tnN M = trN R := h.2.2.2.2.2.1
theorem Re.sc20 (h : Re M R n) : scN M ≤ 20 := h.1.2.1.2
theorem Re.tn8 (h : Re M R n) : tnN M ≤ 8 := h.1.2.2.1.2
theorem Re.old (h : Re M R n) {k : Nat} (hk : k < scN M) : oldR (T0 R) k = sOld M k (plN M k) (nowM M) := by
  obtain ⟨-, -, h3, -, -, h6, -⟩ := h.si hk
  unfold sOld
  rw [h.now, h3, h6, Bool.or_comm]; rfl
theorem op_read (h : Re M R n) (si : Int32) : kReaR R si = kRead M si ∧ (kRead M si = 0 → M (rSi (cI si)) 4 = R 124 (cI si) ∧ M (rSi (cI si)) 5 = R 125 (cI si)) := by
  unfold kReaR kRead
  rw [← h.sc]
  cases e : vIn si (scN M) with
  | false => exact ⟨by simp, fun hk => by simp at hk⟩
  | true =>
    have hk := vIn_cI e (Nat.lt_of_le_of_lt h.sc20 (by decide))
    obtain ⟨-, -, -, h4, h5, -⟩ := h.si hk
    exact ⟨by rw [h.old hk], fun _ => ⟨h4, h5⟩⟩
theorem op_won (h : Re M R n) (lo : Int32) (hk : kLoR lo = 0) : M rWin (cI lo) = R 131 (cI lo) := by
  obtain ⟨h1, -⟩ := ifk0 (by decide) hk
  exact h.2.2.2.2.2.2.2.2.2.2.1 _ (vIn_cI h1 (by decide))
theorem op_truceOf (h : Re M R n) (tr ca : Int32) : kTCR R tr ca = kTC M tr ca ∧ (kTC M tr ca = 0 → M (rSt (cI tr)) (cI ca) = R 130 (2 * cI tr + cI ca)) := by
  unfold kTCR kTC
  rw [← h.tn]
  refine ⟨rfl, fun hk => ?_⟩
  obtain ⟨h1, -⟩ := ifk0 (by decide) hk
  simp only [vC, Bool.and_eq_true] at h1
  exact (h.tr (vIn_cI h1.1 (Nat.lt_of_le_of_lt h.tn8 (by decide)))).2.2.2.1 _ (vIn_cI h1.2 (by decide))
end Ops
