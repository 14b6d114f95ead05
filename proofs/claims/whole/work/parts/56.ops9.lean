/-! entries are committed: both sides -/
theorem nar01 {x : Int32} (h : narrow .boolean (.int x) = .int x) : x = nI 0 ∨ x = nI 1 := by
  have h2 : x &&& 1 = x := by
    have : narrow .boolean (.int x) = .int (x &&& 1) := rfl
    rw [this] at h; exact Value.int.inj h
  have h3 : x.toBitVec &&& 1#32 = x.toBitVec := by
    have := congrArg Int32.toBitVec h2
    rw [Int32.toBitVec_and] at this
    exact this
  have h4 : x.toBitVec.toNat % 2 = x.toBitVec.toNat := by
    have := congrArg BitVec.toNat h3
    rw [BitVec.toNat_and] at this
    rw [← Nat.and_one_is_mod]; exact this
  have h5 : x.toBitVec.toNat = 0 ∨ x.toBitVec.toNat = 1 := by omega
  rcases h5 with e | e
  · left; apply Int32.toBitVec_inj.mp; apply BitVec.eq_of_toNat_eq; rw [e]; rfl
  · right; apply Int32.toBitVec_inj.mp; apply BitVec.eq_of_toNat_eq; rw [e]; rfl
theorem cmN_at {R : wM} {c : Nat} : ∀ {n k : Nat}, cmN R c n 116 k = if c * 60 ≤ k ∧ k < c * 60 + n then (if R 116 k = 0 then b2i (mQ R c (R 115 k)) else nI 1) else R 116 k
  | 0, k => by simp only [cmN]; exact (if_neg (c := c * 60 ≤ k ∧ k < c * 60 + 0) (by omega)).symm
  | n + 1, k => by
    have hQ : ∀ x, mQ (cmN R c n) c x = mQ R c x := fun x => mQ_cm
    simp only [cmN]
    by_cases e : k = c * 60 + n
    · subst e
      rw [wr_same, cmN_at, if_neg (c := c * 60 ≤ c * 60 + n ∧ c * 60 + n < c * 60 + n) (by omega), if_pos (c := c * 60 ≤ c * 60 + n ∧ c * 60 + n < c * 60 + (n + 1)) (by omega)]
    · rw [wr_othj e, cmN_at]
      by_cases e2 : c * 60 ≤ k ∧ k < c * 60 + n
      · rw [if_pos e2, if_pos (c := c * 60 ≤ k ∧ k < c * 60 + (n + 1)) (by omega)]
      · rw [if_neg e2, if_neg (c := c * 60 ≤ k ∧ k < c * 60 + (n + 1)) (by omega)]
/-- what is committed behind a step -/
def coV (q : Bool) (x : Int32) : Int32 := if q = true then nI 1 else x
theorem coV_eq {q : Bool} {x : Int32} (h : x = nI 0 ∨ x = nI 1) : (if x = 0 then b2i q else nI 1) = coV q x := by
  rcases h with rfl | rfl <;> cases q <;> rfl
theorem coV_id {q : Bool} {x : Int32} (h : x = nI 0 ∨ x = nI 1) (hq : q = true → ¬ x = 0) : coV q x = x := by
  cases q with
  | false => rfl
  | true =>
    rcases h with rfl | rfl
    · exact absurd rfl (hq rfl)
    · rfl
theorem coV_nz {q : Bool} {x : Int32} (hq : q = true) : ¬ coV q x = 0 := by subst hq; exact (by decide : ¬ nI 1 = 0)
theorem coV_nar {q : Bool} {x : Int32} (h : narrow .boolean (.int x) = .int x) : narrow .boolean (.int (coV q x)) = .int (coV q x) := by
  cases q with
  | false => exact h
  | true => exact b2i_nar true
/-! spread -/
theorem seM_ho {M : wM} {c k : Nat} {tw : Int32} {j : Nat} : seM M c k tw (rHo c) j = if j = k then M (rHo c) k ||| tw else M (rHo c) j := by
  unfold seM
  split
  · rw [wr_othr (by simp only [rHo, rCo]; omega)]
    by_cases e : j = k
    · subst e; rw [wr_same, if_pos rfl]
    · rw [wr_othj e, if_neg e]
  · by_cases e : j = k
    · subst e; rw [wr_same, if_pos rfl]
    · rw [wr_othj e, if_neg e]
theorem seM_co {M : wM} {c k : Nat} {tw : Int32} {j : Nat} : seM M c k tw (rCo c) j = if j = k then coV (qrm M c (M (rHo c) k ||| tw)) (M (rCo c) k) else M (rCo c) j := by
  have hq : qrm (wr M (rHo c) k (M (rHo c) k ||| tw)) c (M (rHo c) k ||| tw) = qrm M c (M (rHo c) k ||| tw) := by
    unfold qrm; rw [wr_ne (by simp only [rCas, rHo]; omega)]
  unfold seM coV
  rw [hq]
  by_cases e : j = k
  · subst e
    rw [if_pos rfl]
    split
    · rw [wr_same]
    · rw [wr_othr (by simp only [rHo, rCo]; omega)]
  · rw [if_neg e]
    split
    · rw [wr_othj e, wr_othr (by simp only [rHo, rCo]; omega)]
    · rw [wr_othr (by simp only [rHo, rCo]; omega)]
/-- the holders behind a spread -/
def spH (x all : Int32) : Int32 := if x &&& all = 0 then x else x ||| all
theorem spN_at {M : wM} {c s : Nat} (hco : ∀ k, k < s → (M (rCo c) k = nI 0 ∨ M (rCo c) k = nI 1) ∧ (qrm M c (M (rHo c) k) = true → ¬ M (rCo c) k = 0)) : ∀ {n : Nat}, n ≤ s → ∀ k, k < s →
    spN M c n (rHo c) k = (if k < n then spH (M (rHo c) k) (M (rCas c) 3) else M (rHo c) k) ∧ spN M c n (rCo c) k = (if k < n then coV (qrm M c (spH (M (rHo c) k) (M (rCas c) 3))) (M (rCo c) k) else M (rCo c) k)
  | 0, _, k, _ => by simp only [spN]; rw [if_neg (by omega), if_neg (by omega)]; exact ⟨rfl, rfl⟩
  | n + 1, hn, k, hk => by
    have ih := spN_at hco (n := n) (by omega)
    have hcas : spN M c n (rCas c) = M (rCas c) := spN_ne (by simp only [rCas, rHo]; omega) (by simp only [rCas, rCo]; omega)
    have hq : ∀ x, qrm (spN M c n) c x = qrm M c x := fun x => by unfold qrm; rw [hcas]
    have hn1 : spN M c n (rHo c) n = M (rHo c) n := by rw [(ih n (by omega)).1, if_neg (by omega)]
    have hn2 : spN M c n (rCo c) n = M (rCo c) n := by rw [(ih n (by omega)).2, if_neg (by omega)]
    simp only [spN]
    rw [hn1]
    by_cases e : k = n
    · subst e
      rw [if_pos (c := k < k + 1) (by omega), if_pos (c := k < k + 1) (by omega)]
      unfold spH
      split
      · exact ⟨hn1, by rw [hn2, coV_id (hco k hk).1 (hco k hk).2]⟩
      · rw [seM_ho, seM_co, if_pos rfl, if_pos rfl, hq, hn1, hn2]
        exact ⟨rfl, rfl⟩
    · have a1 : (if k < n + 1 then spH (M (rHo c) k) (M (rCas c) 3) else M (rHo c) k) = spN M c n (rHo c) k := by
        rw [(ih k hk).1]
        by_cases e2 : k < n
        · rw [if_pos e2, if_pos (by omega)]
        · rw [if_neg e2, if_neg (by omega)]
      have a2 : (if k < n + 1 then coV (qrm M c (spH (M (rHo c) k) (M (rCas c) 3))) (M (rCo c) k) else M (rCo c) k) = spN M c n (rCo c) k := by
        rw [(ih k hk).2]
        by_cases e2 : k < n
        · rw [if_pos e2, if_pos (by omega)]
        · rw [if_neg e2, if_neg (by omega)]
      rw [a1, a2]
      split
      · exact ⟨rfl, rfl⟩
      · rw [seM_ho, seM_co, if_neg e, if_neg e]
        exact ⟨rfl, rfl⟩
theorem spRN_at {R : wM} {c : Nat} {all : Int32} : ∀ {n k : Nat}, spRN R c all n 115 k = if c * 60 ≤ k ∧ k < c * 60 + n then spH (R 115 k) all else R 115 k
  | 0, k => by simp only [spRN]; exact (if_neg (c := c * 60 ≤ k ∧ k < c * 60 + 0) (by omega)).symm
  | n + 1, k => by
    have hn : spRN R c all n 115 (c * 60 + n) = R 115 (c * 60 + n) := by rw [spRN_at]; exact if_neg (by omega)
    simp only [spRN]
    rw [hn]
    by_cases e : k = c * 60 + n
    · subst e
      rw [if_pos (c := c * 60 ≤ c * 60 + n ∧ c * 60 + n < c * 60 + (n + 1)) (by omega)]
      unfold spH
      split
      · exact hn
      · rw [wr_same]
    · have a : (if c * 60 ≤ k ∧ k < c * 60 + (n + 1) then spH (R 115 k) all else R 115 k) = spRN R c all n 115 k := by
        rw [spRN_at]
        by_cases e2 : c * 60 ≤ k ∧ k < c * 60 + n
        · rw [if_pos e2, if_pos (c := c * 60 ≤ k ∧ k < c * 60 + (n + 1)) (by omega)]
        · rw [if_neg e2, if_neg (c := c * 60 ≤ k ∧ k < c * 60 + (n + 1)) (by omega)]
      rw [a]
      split
      · rfl
      · rw [wr_othj e]
theorem spC_eq {M R : wM} {c s : Nat} (hup : Mk (M (rCas c) 3)) (hco : ∀ k, k < s → (M (rCo c) k = nI 0 ∨ M (rCo c) k = nI 1) ∧ (qrm M c (M (rHo c) k) = true → ¬ M (rCo c) k = 0)) : ∀ {n : Nat}, n ≤ s → (∀ k, k < n → M (rHo c) k = R 115 (c * 60 + k) ∧ Mk (M (rHo c) k)) → spG M c n = spRC R c (M (rCas c) 3) n
  | 0, _, _ => rfl
  | n + 1, hn, hm => by
    obtain ⟨q1, q2⟩ := hm n (by omega)
    have e1 : spN M c n (rHo c) n = M (rHo c) n := by rw [(spN_at hco (n := n) (by omega) n (by omega)).1, if_neg (by omega)]
    have e2 : spRN R c (M (rCas c) 3) n 115 (c * 60 + n) = R 115 (c * 60 + n) := by rw [spRN_at]; exact if_neg (by omega)
    simp only [spG, spRC]
    rw [spC_eq hup hco (by omega) (fun k hk => hm k (by omega)), e2, e1, ← q1]
    unfold seG
    rw [e1, (hup.but q2).1.bco]
theorem Re.hco {M R : wM} {n c : Nat} (h : Re M R n) (hc : c < 2) : ∀ k, k < szN M c → (M (rCo c) k = nI 0 ∨ M (rCo c) k = nI 1) ∧ (qrm M c (M (rHo c) k) = true → ¬ M (rCo c) k = 0) := fun k hk =>
  ⟨nar01 ((h.oke hc hk).2.2.1), (h.e hc hk).2.2.2.2.2.2.2⟩
theorem spH_mk {x all : Int32} (hx : Mk x) (ha : Mk all) : Mk (spH x all) := by
  unfold spH; split
  · exact hx
  · exact (hx.or ha).1
theorem Re.spread {M R : wM} {n c : Nat} (h : Re M R n) (hc : c < 2) : spG M c (szN M c) = spRC R c (M (rCas c) 3) (wrN R c) ∧ Re (spN M c (szN M c)) (cmN (spRN R c (M (rCas c) 3) (wrN R c)) c (wrN R c)) n := by
  have hup := h.up hc
  have hco := h.hco hc
  have s60 := h.sz60 hc
  have hm : ∀ k, k < szN M c → M (rHo c) k = R 115 (c * 60 + k) ∧ Mk (M (rHo c) k) := fun k hk => ⟨(h.e hc hk).2.2.1, (h.e hc hk).2.2.2.2.1⟩
  rw [h.wn hc]
  refine ⟨spC_eq hup hco (Nat.le_refl _) hm, ?_⟩
  have mr : ∀ r, r ≠ rHo c → r ≠ rCo c → spN M c (szN M c) r = M r := fun r h1 h2 => spN_ne h1 h2
  have rn : ∀ r, r ≠ 115 → r ≠ 116 → cmN (spRN R c (M (rCas c) 3) (szN M c)) c (szN M c) r = R r := fun r h1 h2 => (cmN_ne h2).trans (spRN_ne h1)
  have r5 : ∀ k, cmN (spRN R c (M (rCas c) 3) (szN M c)) c (szN M c) 115 k = spRN R c (M (rCas c) 3) (szN M c) 115 k := fun k => congrFun (cmN_ne (by decide)) k
  have hQ : ∀ x, mQ (spRN R c (M (rCas c) 3) (szN M c)) c x = mQ R c x := fun x => by unfold mQ; rw [spRN_ne (by decide)]
  refine h.ent hc (fun j hj => mr _ (by simp only [rHo]; omega) (by simp only [rCo]; omega)) (fun c' hc' hne j hj => mr _ (by simp only [rHo]; omega) (by simp only [rCo]; omega)) (fun r h1 h2 => mr _ (by simp only [rHo]; omega) (by simp only [rCo]; omega)) (fun r h1 h2 _ => rn r (by omega) (by omega)) (fun c' _ _ => by rw [rn 103 (by decide) (by decide)]) (fun r c' k h1 h2 hc' hne hk => ?_) (fun r h1 h2 => rn r (by omega) (by omega)) (by rw [rn rMod (by decide) (by decide)]) (by rw [rn rMod (by decide) (by decide)]) (by rw [rn rMod (by decide) (by decide)]) s60 (by rw [mr _ (by simp only [rRow, rHo]; omega) (by simp only [rRow, rCo]; omega)]; exact (h.1.1 c hc).2.2.1) (by rw [rn 103 (by decide) (by decide)]; exact (h.c hc).2.2.2.2.1) (fun k hk => ?_)
  · by_cases e : r = 115
    · subst e; rw [r5, spRN_at]; exact if_neg (by omega)
    · by_cases e6 : r = 116
      · subst e6; rw [cmN_at, spRN_ne (by decide)]; exact if_neg (by omega)
      · rw [rn r e e6]
  · obtain ⟨b1, b2, b3, b4, b5, b6, b7, b8⟩ := h.e hc hk
    obtain ⟨a1, a2⟩ := spN_at hco (Nat.le_refl _) k hk
    rw [if_pos hk] at a1 a2
    have k1 := spH_mk b5 hup
    have m17 : spN M c (szN M c) (rLe c) = M (rLe c) := mr _ (by simp only [rLe, rHo]; omega) (by simp only [rLe, rCo]; omega)
    have m18 : spN M c (szN M c) (rAm c) = M (rAm c) := mr _ (by simp only [rAm, rHo]; omega) (by simp only [rAm, rCo]; omega)
    have m19 : spN M c (szN M c) (rLo c) = M (rLo c) := mr _ (by simp only [rLo, rHo]; omega) (by simp only [rLo, rCo]; omega)
    have m21 : spN M c (szN M c) (rFh c) = M (rFh c) := mr _ (by simp only [rFh, rHo]; omega) (by simp only [rFh, rCo]; omega)
    have mc : spN M c (szN M c) (rCas c) = M (rCas c) := mr _ (by simp only [rCas, rHo]; omega) (by simp only [rCas, rCo]; omega)
    have r15 : spRN R c (M (rCas c) 3) (szN M c) 115 (c * 60 + k) = spH (M (rHo c) k) (M (rCas c) 3) := by rw [spRN_at, b3]; exact if_pos (by omega)
    have r16 : cmN (spRN R c (M (rCas c) 3) (szN M c)) c (szN M c) 116 (c * 60 + k) = coV (qrm M c (spH (M (rHo c) k) (M (rCas c) 3))) (M (rCo c) k) := by
      rw [cmN_at, if_pos (c := c * 60 ≤ c * 60 + k ∧ c * 60 + k < c * 60 + szN M c) (by omega), r15, spRN_ne (by decide), hQ, h.q hc k1, ← b4]
      exact coV_eq (hco k hk).1
    have trn : trN (cmN (spRN R c (M (rCas c) 3) (szN M c)) c (szN M c)) = trN R := by unfold trN; rw [rn rMod (by decide) (by decide)]
    have eq9 : ∀ x, qrm (spN M c (szN M c)) c x = qrm M c x := fun x => by unfold qrm; rw [mc]
    refine ⟨⟨by rw [m17, rn 111 (by decide) (by decide)]; exact b1, by rw [m18, rn 112 (by decide) (by decide)]; exact b2, by rw [a1, r5, r15], by rw [a2, r16], by rw [a1]; exact k1, by rw [m17, m19, rn 113 (by decide) (by decide)]; exact b6, ?_, ?_⟩, ?_⟩
    · unfold wFr; rw [m17, m21, trn, rn 114 (by decide) (by decide), rn 127 (by decide) (by decide)]; exact b7
    · rw [eq9, a1, a2]
      exact fun q => coV_nz q
    · unfold OkE
      rw [m17, m19, a2, rn 114 (by decide) (by decide)]
      have := h.oke hc hk
      exact ⟨this.1, this.2.1, coV_nar this.2.2.1, this.2.2.2⟩
theorem op_spread {M R : wM} {n : Nat} (h : Re M R n) (ca : Int32) : kCR ca = kC ca ∧ (kC ca = 0 → spG M (cI ca) (szN M (cI ca)) = spRC (thr R 0) (cI ca) (upR R ca) (wrN R (cI ca)) ∧ Re (spN M (cI ca) (szN M (cI ca))) (cmN (spRN (thr R 0) (cI ca) (upR R ca) (wrN R (cI ca))) (cI ca) (wrN R (cI ca))) n) := by
  refine ⟨rfl, fun hk => ?_⟩
  obtain ⟨h1, -⟩ := ifk0 (by decide) hk
  have hc := vIn_cI h1 (by decide)
  have hu : upR R ca = M (rCas (cI ca)) 3 := (h.onK (k := 0)).reachU hc
  rw [hu]
  exact (h.onK (k := 0)).spread hc
/-! strike -/
theorem stN_at {M : wM} {c k0 : Nat} : ∀ {n k : Nat}, stN M c k0 n (rLe c) k = if k0 ≤ k ∧ k < k0 + n ∧ M (rHo c) k = 0 then nI 45 else M (rLe c) k
  | 0, k => by simp only [stN]; exact (if_neg (c := k0 ≤ k ∧ k < k0 + 0 ∧ M (rHo c) k = 0) (by omega)).symm
  | n + 1, k => by
    have ho : stN M c k0 n (rHo c) = M (rHo c) := stN_ne (by simp only [rHo, rLe]; omega)
    have hl : stN M c k0 n (rLe c) (k0 + n) = M (rLe c) (k0 + n) := by rw [stN_at]; exact if_neg (by omega)
    simp only [stN]
    unfold stP
    rw [ho, hl]
    by_cases e : k = k0 + n
    · subst e
      by_cases e1 : M (rHo c) (k0 + n) = 0
      · rw [if_pos (c := k0 ≤ k0 + n ∧ k0 + n < k0 + (n + 1) ∧ M (rHo c) (k0 + n) = 0) ⟨by omega, by omega, e1⟩]
        by_cases e2 : M (rLe c) (k0 + n) = nI 45
        · rw [if_neg (by simp [e2])]; rw [hl]; exact e2
        · rw [if_pos (by simp [e1, e2]), wr_same]
      · rw [if_neg (c := k0 ≤ k0 + n ∧ k0 + n < k0 + (n + 1) ∧ M (rHo c) (k0 + n) = 0) (fun z => e1 z.2.2), if_neg (by simp [e1])]; exact hl
    · have a : (if k0 ≤ k ∧ k < k0 + (n + 1) ∧ M (rHo c) k = 0 then nI 45 else M (rLe c) k) = stN M c k0 n (rLe c) k := by
        rw [stN_at]
        by_cases e2 : k0 ≤ k ∧ k < k0 + n ∧ M (rHo c) k = 0
        · rw [if_pos e2, if_pos (c := k0 ≤ k ∧ k < k0 + (n + 1) ∧ M (rHo c) k = 0) ⟨e2.1, by omega, e2.2.2⟩]
        · rw [if_neg e2, if_neg (c := k0 ≤ k ∧ k < k0 + (n + 1) ∧ M (rHo c) k = 0) (fun z => e2 ⟨z.1, by omega, z.2.2⟩)]
      rw [a]
      split
      · rw [wr_othj e]
      · rfl
theorem stRN_v {S R : wM} {c k0 : Nat} : ∀ {n k : Nat}, stRN S R c k0 n 111 k = if c * 60 + k0 ≤ k ∧ k < c * 60 + k0 + n then (if R 115 k = 0 then nI 45 else R 111 k) else S 111 k
  | 0, k => by simp only [stRN]; exact (if_neg (c := c * 60 + k0 ≤ k ∧ k < c * 60 + k0 + 0) (by omega)).symm
  | n + 1, k => by
    simp only [stRN]
    by_cases e : k = c * 60 + (k0 + n)
    · subst e
      rw [wr_same, if_pos (c := c * 60 + k0 ≤ c * 60 + (k0 + n) ∧ c * 60 + (k0 + n) < c * 60 + k0 + (n + 1)) (by omega)]
      unfold stRP
      by_cases e1 : R 115 (c * 60 + (k0 + n)) = 0
      · rw [if_pos e1]
        by_cases e2 : R 111 (c * 60 + (k0 + n)) = nI 45
        · rw [if_neg (by simp [e2])]; exact e2
        · rw [if_pos (by simp [e1, e2])]
      · rw [if_neg e1, if_neg (by simp [e1])]
    · rw [wr_othj e, stRN_v]
      by_cases e2 : c * 60 + k0 ≤ k ∧ k < c * 60 + k0 + n
      · rw [if_pos e2, if_pos (c := c * 60 + k0 ≤ k ∧ k < c * 60 + k0 + (n + 1)) (by omega)]
      · rw [if_neg e2, if_neg (c := c * 60 + k0 ≤ k ∧ k < c * 60 + k0 + (n + 1)) (by omega)]
theorem stC_eq {M R : wM} {c k0 : Nat} : ∀ {n : Nat}, (∀ k, k < k0 + n → M (rHo c) k = R 115 (c * 60 + k) ∧ M (rLe c) k = R 111 (c * 60 + k)) → stC M c k0 n = stRC R c k0 n
  | 0, _ => rfl
  | n + 1, hm => by
    obtain ⟨q1, q2⟩ := hm (k0 + n) (by omega)
    have ho : stN M c k0 n (rHo c) = M (rHo c) := stN_ne (by simp only [rHo, rLe]; omega)
    have hl : stN M c k0 n (rLe c) (k0 + n) = M (rLe c) (k0 + n) := by rw [stN_at]; exact if_neg (by omega)
    simp only [stC, stRC]
    rw [stC_eq (fun k hk => hm k (by omega))]
    unfold stP stRP
    rw [ho, hl, q1, q2]
theorem Re.strike {M R : wM} {n c k0 : Nat} (h : Re M R n) (hc : c < 2) (hk0 : k0 ≤ szN M c) : stC M c k0 (szN M c - k0) = stRC R c k0 (wrN R c - k0) ∧ Re (stN M c k0 (szN M c - k0)) (stRN R R c k0 (wrN R c - k0)) n := by
  have s60 := h.sz60 hc
  rw [h.wn hc]
  refine ⟨stC_eq (fun k hk => ⟨(h.e hc (k := k) (by omega)).2.2.1, (h.e hc (k := k) (by omega)).1⟩), ?_⟩
  generalize hM : stN M c k0 (szN M c - k0) = M'
  generalize hR : stRN R R c k0 (szN M c - k0) = R'
  have mr : ∀ r, r ≠ rLe c → M' r = M r := fun r h1 => by rw [← hM]; exact stN_ne h1
  have rn : ∀ r, r ≠ 111 → R' r = R r := fun r h1 => by rw [← hR]; exact stRN_ne h1
  refine h.ent hc (fun j hj => mr _ (by simp only [rLe]; omega)) (fun c' hc' hne j hj => mr _ (by simp only [rLe]; omega)) (fun r h1 h2 => mr _ (by simp only [rLe]; omega)) (fun r h1 h2 _ => rn r (by omega)) (fun c' _ _ => by rw [rn 103 (by decide)]) (fun r c' k h1 h2 hc' hne hk => ?_) (fun r h1 h2 => rn r (by omega)) (by rw [rn rMod (by decide)]) (by rw [rn rMod (by decide)]) (by rw [rn rMod (by decide)]) s60 (by rw [mr _ (by simp only [rRow, rLe]; omega)]; exact (h.1.1 c hc).2.2.1) (by rw [rn 103 (by decide)]; exact (h.c hc).2.2.2.2.1) (fun k hk => ?_)
  · by_cases e : r = 111
    · subst e; rw [← hR, stRN_v]; exact if_neg (by omega)
    · rw [rn r e]
  · obtain ⟨b1, b2, b3, b4, b5, b6, b7, b8⟩ := h.e hc hk
    have a1 : M' (rLe c) k = if k0 ≤ k ∧ M (rHo c) k = 0 then nI 45 else M (rLe c) k := by
      rw [← hM, stN_at]
      by_cases e : k0 ≤ k ∧ M (rHo c) k = 0
      · rw [if_pos e]; exact if_pos ⟨e.1, by omega, e.2⟩
      · rw [if_neg e]; exact if_neg (fun z => e ⟨z.1, z.2.2⟩)
    have a2 : R' 111 (c * 60 + k) = if k0 ≤ k ∧ M (rHo c) k = 0 then nI 45 else M (rLe c) k := by
      rw [← hR, stRN_v, ← b3, ← b1]
      by_cases e : k0 ≤ k
      · rw [if_pos (c := c * 60 + k0 ≤ c * 60 + k ∧ c * 60 + k < c * 60 + k0 + (szN M c - k0)) (by omega)]
        by_cases e2 : M (rHo c) k = 0
        · rw [if_pos e2, if_pos ⟨e, e2⟩]
        · rw [if_neg e2, if_neg (fun z => e2 z.2)]
      · rw [if_neg (c := c * 60 + k0 ≤ c * 60 + k ∧ c * 60 + k < c * 60 + k0 + (szN M c - k0)) (by omega), if_neg (fun z => e z.1)]
    have m18 : M' (rAm c) = M (rAm c) := mr _ (by simp only [rAm, rLe]; omega)
    have m19 : M' (rLo c) = M (rLo c) := mr _ (by simp only [rLo, rLe]; omega)
    have m20 : M' (rHo c) = M (rHo c) := mr _ (by simp only [rHo, rLe]; omega)
    have m21 : M' (rFh c) = M (rFh c) := mr _ (by simp only [rFh, rLe]; omega)
    have m22 : M' (rCo c) = M (rCo c) := mr _ (by simp only [rCo, rLe]; omega)
    have mc : M' (rCas c) = M (rCas c) := mr _ (by simp only [rCas, rLe]; omega)
    have trn : trN R' = trN R := by unfold trN; rw [rn rMod (by decide)]
    have eq9 : ∀ x, qrm M' c x = qrm M c x := fun x => by unfold qrm; rw [mc]
    have ok := h.oke hc hk
    refine ⟨⟨by rw [a1, a2], by rw [m18, rn 112 (by decide)]; exact b2, by rw [m20, rn 115 (by decide)]; exact b3, by rw [m22, rn 116 (by decide)]; exact b4, by rw [m20]; exact b5, ?_, ?_, ?_⟩, ?_⟩
    · rw [a1, m19, rn 113 (by decide)]
      split
      · intro z; exact absurd z (by decide)
      · exact b6
    · unfold wFr; rw [a1, m21, trn, rn 114 (by decide), rn 127 (by decide)]
      split
      · intro z; exact absurd z (by decide)
      · exact b7
    · rw [eq9, m20, m22]; exact b8
    · unfold OkE
      rw [a1, m19, m22, rn 114 (by decide)]
      split
      · exact ⟨fun z => absurd z (by decide), by decide, ok.2.2.1, fun z => absurd z (by decide)⟩
      · exact ok
theorem stRN_S {S R R' : wM} {c k0 : Nat} (e1 : ∀ k, R 115 k = R' 115 k) (e2 : ∀ k, R 111 k = R' 111 k) : ∀ n, stRN S R c k0 n = stRN S R' c k0 n
  | 0 => rfl
  | n + 1 => by simp only [stRN]; rw [stRN_S e1 e2 n]; unfold stRP; rw [e1, e2]
theorem stRC_S {R R' : wM} {c k0 : Nat} (e1 : ∀ k, R 115 k = R' 115 k) (e2 : ∀ k, R 111 k = R' 111 k) : ∀ n, stRC R c k0 n = stRC R' c k0 n
  | 0 => rfl
  | n + 1 => by simp only [stRC]; rw [stRC_S e1 e2 n]; unfold stRP; rw [e1, e2]
theorem suR_ne {R : wM} {ca : Int32} {r : Nat} (h1 : r ≠ rMod) (h2 : r ≠ 135) : suR R ca r = R r := (suM_ne h1 h2).trans (wr_ne h1)
theorem suT_ne {R : wM} {c r : Nat} (h1 : r ≠ rMod) (h2 : r ≠ 135) : suT R c r = R r := (suM_ne h1 h2).trans (wr_ne h1)
theorem op_strike {M R : wM} {n : Nat} (h : Re M R n) (ca : Int32) : kCR ca = kC ca ∧ (kC ca = 0 → nI (rStruck M (cI ca) (szN M (cI ca))) = nI (stRC R (cI ca) (suC (thr R 0) (cI ca) (wrN R (cI ca))) (wrN R (cI ca) - suC (thr R 0) (cI ca) (wrN R (cI ca)))) ∧
    Re (rStrike M (cI ca) (szN M (cI ca))) (stRN (suR R ca) R (cI ca) (suC (thr R 0) (cI ca) (wrN R (cI ca))) (wrN R (cI ca) - suC (thr R 0) (cI ca) (wrN R (cI ca)))) n) := by
  refine ⟨rfl, fun hk => ?_⟩
  obtain ⟨h1, -⟩ := ifk0 (by decide) hk
  have hc := vIn_cI h1 (by decide)
  have hcnt : suC (thr R 0) (cI ca) (wrN R (cI ca)) = rCnt M (cI ca) (szN M (cI ca)) := (h.onK (k := 0)).cnt hc
  have hS : Re M (suR R ca) n := (h.onK (k := 0)).onS
  have h9 := hS.strike hc (k0 := rCnt M (cI ca) (szN M (cI ca))) (lead_le _ _)
  have wn : wrN (suR R ca) (cI ca) = wrN R (cI ca) := by unfold wrN; rw [suR_ne (by decide) (by decide)]
  have e1 : ∀ k, suR R ca 115 k = R 115 k := fun k => by rw [suR_ne (by decide) (by decide)]
  have e2 : ∀ k, suR R ca 111 k = R 111 k := fun k => by rw [suR_ne (by decide) (by decide)]
  rw [hcnt]
  rw [wn, stRN_S e1 e2, stRC_S e1 e2] at h9
  refine ⟨?_, h9.2⟩
  unfold rStruck
  rw [h9.1]
/-! an entry is written -/
theorem mWr_at {R : wM} {c w : Nat} {si wi lo tr near : Int32} {k : Nat} (hk : k < w + 1) : mWr R c w si wi lo tr near 111 (c * 60 + k) = (if k = w then si else R 111 (c * 60 + k)) ∧ mWr R c w si wi lo tr near 112 (c * 60 + k) = (if k = w then wi else R 112 (c * 60 + k)) ∧
    mWr R c w si wi lo tr near 113 (c * 60 + k) = (if k = w then lo else R 113 (c * 60 + k)) ∧ mWr R c w si wi lo tr near 114 (c * 60 + k) = (if k = w then tr else R 114 (c * 60 + k)) ∧ mWr R c w si wi lo tr near 115 (c * 60 + k) = (if k = w then near else R 115 (c * 60 + k)) ∧
    mWr R c w si wi lo tr near 116 (c * 60 + k) = (if (if k = w then nI 0 else R 116 (c * 60 + k)) = 0 then b2i (mQ R c (if k = w then near else R 115 (c * 60 + k))) else nI 1) ∧ mWr R c w si wi lo tr near 103 c = nI (w + 1) := by
  have hQ : ∀ x, mQ (wsW R c w si wi lo tr near) c x = mQ R c x := fun x => by
    unfold mQ wsW
    rw [wr_ne (by decide), wr_ne (by decide), wr_ne (by decide), wr_ne (by decide), wr_ne (by decide), wr_ne (by decide), wr_ne (by decide)]
  have a5 : wsW R c w si wi lo tr near 115 (c * 60 + k) = (if k = w then near else R 115 (c * 60 + k)) := by
    unfold wsW
    rw [wr_othr (by decide), wr_othr (by decide)]
    by_cases e : k = w
    · subst e; rw [wr_same, if_pos rfl]
    · rw [wr_othj (by omega), if_neg e, wr_othr (by decide), wr_othr (by decide), wr_othr (by decide), wr_othr (by decide)]
  have a6 : wsW R c w si wi lo tr near 116 (c * 60 + k) = (if k = w then nI 0 else R 116 (c * 60 + k)) := by
    unfold wsW
    rw [wr_othr (by decide)]
    by_cases e : k = w
    · subst e; rw [wr_same, if_pos rfl]
    · rw [wr_othj (by omega), if_neg e, wr_othr (by decide), wr_othr (by decide), wr_othr (by decide), wr_othr (by decide), wr_othr (by decide)]
  unfold mWr
  refine ⟨?_, ?_, ?_, ?_, ?_, ?_, ?_⟩
  · rw [cmN_ne (by decide)]; unfold wsW
    rw [wr_othr (by decide), wr_othr (by decide), wr_othr (by decide), wr_othr (by decide), wr_othr (by decide), wr_othr (by decide)]
    by_cases e : k = w
    · subst e; rw [wr_same, if_pos rfl]
    · rw [wr_othj (by omega), if_neg e]
  · rw [cmN_ne (by decide)]; unfold wsW
    rw [wr_othr (by decide), wr_othr (by decide), wr_othr (by decide), wr_othr (by decide), wr_othr (by decide)]
    by_cases e : k = w
    · subst e; rw [wr_same, if_pos rfl]
    · rw [wr_othj (by omega), if_neg e, wr_othr (by decide)]
  · rw [cmN_ne (by decide)]; unfold wsW
    rw [wr_othr (by decide), wr_othr (by decide), wr_othr (by decide), wr_othr (by decide)]
    by_cases e : k = w
    · subst e; rw [wr_same, if_pos rfl]
    · rw [wr_othj (by omega), if_neg e, wr_othr (by decide), wr_othr (by decide)]
  · rw [cmN_ne (by decide)]; unfold wsW
    rw [wr_othr (by decide), wr_othr (by decide), wr_othr (by decide)]
    by_cases e : k = w
    · subst e; rw [wr_same, if_pos rfl]
    · rw [wr_othj (by omega), if_neg e, wr_othr (by decide), wr_othr (by decide), wr_othr (by decide)]
  · rw [cmN_ne (by decide)]; exact a5
  · rw [cmN_at, if_pos (c := c * 60 ≤ c * 60 + k ∧ c * 60 + k < c * 60 + (w + 1)) (by omega), a5, a6, hQ]
  · rw [cmN_ne (by decide)]; unfold wsW; rw [wr_same]
theorem mWr_off {R : wM} {c c' w : Nat} {si wi lo tr near : Int32} (hc : c < 2) (hc' : c' < 2) (hne : c' ≠ c) (hw : w < 60) {r k : Nat} (h1 : 111 ≤ r) (h2 : r ≤ 116) (hk : k < 60) : mWr R c w si wi lo tr near r (c' * 60 + k) = R r (c' * 60 + k) := by
  have h0 : wsW R c w si wi lo tr near r (c' * 60 + k) = R r (c' * 60 + k) := by
    have hw9 : ∀ (T : wM) (q : Nat) (v : Int32), wr T q (c * 60 + w) v r (c' * 60 + k) = T r (c' * 60 + k) := fun T q v => by
      by_cases e : r = q
      · subst e; exact wr_othj (by omega)
      · exact wr_othr e
    unfold wsW
    rw [wr_othr (by omega), hw9, hw9, hw9, hw9, hw9, hw9]
  unfold mWr
  by_cases e : r = 116
  · subst e; rw [cmN_at, h0]; exact if_neg (by omega)
  · rw [cmN_ne e]; exact h0
theorem Re.write {M M0 R : wM} {n c s : Nat} {si wi lo tr near : Int32} (h : Re M R n) (hc : c < 2) (hs : szN M c = s) (hs60 : s < 60) (hN : Mk near) (M' : wM)
    (hrow : M' (rRow c) 0 = nI (s + 1)) (hle : ∀ k, M' (rLe c) k = if k = s then si else M (rLe c) k) (ham : ∀ k, M' (rAm c) k = if k = s then wi else M (rAm c) k) (hho : ∀ k, M' (rHo c) k = if k = s then near else M (rHo c) k)
    (hco : ∀ k, M' (rCo c) k = if k = s then coV (qrm M c near) (nI 0) else M (rCo c) k) (hlo : ∀ k, k ≠ s → M' (rLo c) k = M (rLo c) k) (hfh : ∀ k, k ≠ s → M' (rFh c) k = M (rFh c) k)
    (hlo' : isOrd si = true → M' (rLo c) s = lo ∧ lo.toNatClampNeg < 4 ∧ lo = nI lo.toNatClampNeg) (hfh' : isTru si = true → tr.toNatClampNeg < trN R ∧ tr = nI tr.toNatClampNeg ∧ M' (rFh c) s = b2i (decide (R 127 tr.toNatClampNeg = nI c)))
    (hsi : narrow .char (.int si) = .int si) (hrow' : ∀ j, j ≠ 0 → M' (rRow c) j = M (rRow c) j)
    (mr : ∀ r, r < 100 → r ≠ rRow c → r ≠ rLe c → r ≠ rAm c → r ≠ rLo c → r ≠ rHo c → r ≠ rFh c → r ≠ rCo c → M' r = M r) : Re M' (mWr R c s si wi lo tr near) n := by
  have s60 := h.sz60 hc
  have rn : ∀ r, r ≠ 111 → r ≠ 112 → r ≠ 113 → r ≠ 114 → r ≠ 115 → r ≠ 116 → r ≠ 103 → mWr R c s si wi lo tr near r = R r := fun r h1 h2 h3 h4 h5 h6 h7 => mWr_ne h1 h2 h3 h4 h5 h6 h7
  have r3 : ∀ k, k ≠ c → mWr R c s si wi lo tr near 103 k = R 103 k := fun k hk => by
    unfold mWr; rw [cmN_ne (by decide)]; unfold wsW; rw [wr_othj hk, wr_othr (by decide), wr_othr (by decide), wr_othr (by decide), wr_othr (by decide), wr_othr (by decide), wr_othr (by decide)]
  refine h.ent hc (fun j hj => mr _ (by omega) (by simp only [rRow]; omega) (by simp only [rLe]; omega) (by simp only [rAm]; omega) (by simp only [rLo]; omega) (by simp only [rHo]; omega) (by simp only [rFh]; omega) (by simp only [rCo]; omega)) (fun c' hc' hne j hj => mr _ (by omega) (by simp only [rRow]; omega) (by simp only [rLe]; omega) (by simp only [rAm]; omega) (by simp only [rLo]; omega) (by simp only [rHo]; omega) (by simp only [rFh]; omega) (by simp only [rCo]; omega)) (fun r h1 h2 => mr _ (by omega) (by simp only [rRow]; omega) (by simp only [rLe]; omega) (by simp only [rAm]; omega) (by simp only [rLo]; omega) (by simp only [rHo]; omega) (by simp only [rFh]; omega) (by simp only [rCo]; omega)) (fun r h1 h2 h3 => rn r (by omega) (by omega) (by omega) (by omega) (by omega) (by omega) h3) (fun c' _ hne => r3 c' hne) (fun r c' k h1 h2 hc' hne hk => mWr_off hc hc' hne hs60 h1 h2 hk) (fun r h1 h2 => rn r (by omega) (by omega) (by omega) (by omega) (by omega) (by omega) (by omega)) (by rw [rn rMod (by decide) (by decide) (by decide) (by decide) (by decide) (by decide) (by decide)]) (by rw [rn rMod (by decide) (by decide) (by decide) (by decide) (by decide) (by decide) (by decide)]) (by rw [rn rMod (by decide) (by decide) (by decide) (by decide) (by decide) (by decide) (by decide)]) (s := s + 1) (by omega) hrow (mWr_at (k := s) (by omega)).2.2.2.2.2.2 (fun k hk => ?_)
  obtain ⟨w1, w2, w3, w4, w5, w6, -⟩ := mWr_at (R := R) (c := c) (w := s) (si := si) (wi := wi) (lo := lo) (tr := tr) (near := near) hk
  have trn : trN (mWr R c s si wi lo tr near) = trN R := by unfold trN; rw [rn rMod (by decide) (by decide) (by decide) (by decide) (by decide) (by decide) (by decide)]
  have mc : M' (rCas c) = M (rCas c) := mr _ (by simp only [rCas]; omega) (by simp only [rCas, rRow]; omega) (by simp only [rCas, rLe]; omega) (by simp only [rCas, rAm]; omega) (by simp only [rCas, rLo]; omega) (by simp only [rCas, rHo]; omega) (by simp only [rCas, rFh]; omega) (by simp only [rCas, rCo]; omega)
  have eq9 : ∀ x, qrm M' c x = qrm M c x := fun x => by unfold qrm; rw [mc]
  have r127 : mWr R c s si wi lo tr near 127 = R 127 := rn 127 (by decide) (by decide) (by decide) (by decide) (by decide) (by decide) (by decide)
  by_cases e : k = s
  · subst e
    rw [if_pos rfl] at w1 w2 w3 w4 w5
    rw [if_pos rfl, if_pos rfl, h.q hc hN, if_pos (show (nI 0 : Int32) = 0 from rfl)] at w6
    have c1 : coV (qrm M c near) (nI 0) = b2i (qrm M c near) := by unfold coV b2i; rfl
    refine ⟨⟨by rw [hle, if_pos rfl, w1], by rw [ham, if_pos rfl, w2], by rw [hho, if_pos rfl, w5], by rw [hco, if_pos rfl, w6, c1], by rw [hho, if_pos rfl]; exact hN, ?_, ?_, ?_⟩, ?_⟩
    · rw [hle, if_pos rfl, w3]; exact fun ho => (hlo' ho).1
    · rw [hle, if_pos rfl, trn, w4]
      intro ht
      obtain ⟨q1, q2, q3⟩ := hfh' ht
      refine ⟨q1, ?_⟩
      unfold wFr; rw [w4, r127]; exact q3
    · rw [eq9, hho, hco, if_pos rfl, if_pos rfl]; exact fun q => coV_nz q
    · unfold OkE
      rw [hle, hco, if_pos rfl, if_pos rfl, w4]
      refine ⟨fun ho => ?_, hsi, coV_nar (b2i_nar false), fun ht => (hfh' ht).2.1⟩
      rw [(hlo' ho).1]; exact (hlo' ho).2
  · have hk9 : k < szN M c := by omega
    obtain ⟨b1, b2, b3, b4, b5, b6, b7, b8⟩ := h.e hc hk9
    have ok := h.oke hc hk9
    rw [if_neg e] at w1 w2 w3 w4 w5
    rw [if_neg e, if_neg e, ← b3, h.q hc b5, ← b4, coV_eq (h.hco hc k hk9).1, coV_id (h.hco hc k hk9).1 (h.hco hc k hk9).2] at w6
    refine ⟨⟨by rw [hle, if_neg e, w1]; exact b1, by rw [ham, if_neg e, w2]; exact b2, by rw [hho, if_neg e, w5]; exact b3, by rw [hco, if_neg e, w6], by rw [hho, if_neg e]; exact b5, ?_, ?_, ?_⟩, ?_⟩
    · rw [hle, if_neg e, hlo k e, w3]; exact b6
    · rw [hle, if_neg e, hfh k e, trn, w4]; unfold wFr; rw [w4, r127]; exact b7
    · rw [eq9, hho, hco, if_neg e, if_neg e]; exact b8
    · unfold OkE; rw [hle, hco, hlo k e, if_neg e, if_neg e, w4]; exact ok
