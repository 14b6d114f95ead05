/-! EACH CALL OF THE LAW, in one form: the codes agree, the answers agree, what both wrote stands in the relation and keeps the invariants, the reference tells what it threw -/
def ST (n K KR : Nat) (VC VR : Int32) (M1 M2 R' : wM) : Prop := KR = K ∧ (K = 0 → VC = VR) ∧ Re (if K = 0 then M1 else M2) R' (n + 1) ∧ Inv (if K = 0 then M1 else M2) ∧ R' rMod 19 = nI KR
section St
variable {M R : wM} {n : Nat}
theorem suR19 {ca : Int32} : suR R ca rMod 19 = nI 0 := (suM_oth (by decide) (by decide) (by decide)).trans (wr_same _ _ _ _)
theorem suT19 {c : Nat} : suT R c rMod 19 = nI 0 := (suM_oth (by decide) (by decide) (by decide)).trans (wr_same _ _ _ _)
theorem st_ro (h : Re M R n) (hI : Inv M) {K KR : Nat} {VC VR : Int32} (e : KR = K) (v : K = 0 → VC = VR) : ST n K KR VC VR M M (thr R KR) :=
  ⟨e, v, by rw [ite_self]; exact h.onK.mono (by omega), by rw [ite_self]; exact hI, thr19⟩
theorem st_build (h : Re M R n) (hI : Inv M) (hn : n < 512) (ca tw gd : Int32) : ST n (kBuild M ca tw gd) (kBuildR R ca tw gd) (nI (szN M (cI ca))) (nI (wrN R (cI ca))) (cRaise M (cI ca) tw gd) M (buildR R ca tw gd) := by
  obtain ⟨a, b, c⟩ := op_build h (by omega) ca tw gd
  refine ⟨a, b, c, ?_, ?_⟩
  · by_cases hk : kBuild M ca tw gd = 0
    · rw [if_pos hk]; exact hI.raise h (by omega) hk
    · rw [if_neg hk]; exact hI
  · unfold buildR
    by_cases hk : kBuildR R ca tw gd = 0
    · rw [if_pos hk, hk, raS_ne (by decide) (by decide) (by decide) (by decide) (by decide) (by decide) (by decide) (by decide) (by decide)]; exact thr19
    · rw [if_neg hk]; exact thr19
theorem st_wait (h : Re M R n) (hI : Inv M) (hn : n < 512) (ti : Int32) : ST n (kWait ti) (kWaitR ti) (nowM M + ti) (nowR R + ti) (wr M rMain 7 (nowM M + ti)) M (waitR R ti) := by
  obtain ⟨a, b⟩ := op_wait h ti
  refine ⟨a, fun hk => (b hk).1, ?_, ?_, ?_⟩
  · unfold waitR
    rw [a]
    by_cases hk : kWait ti = 0
    · rw [if_pos hk, if_pos hk]; exact (b hk).2
    · rw [if_neg hk, if_neg hk]; exact h.onK.mono (by omega)
  · by_cases hk : kWait ti = 0
    · rw [if_pos hk]; exact hI.wait h (by omega) hk
    · rw [if_neg hk]; exact hI
  · unfold waitR
    by_cases hk : kWaitR ti = 0
    · rw [if_pos hk, hk, wr_othj (by decide)]; exact thr19
    · rw [if_neg hk]; exact thr19
theorem st_fall (h : Re M R n) (hI : Inv M) (ca to : Int32) : ST n (kTow M ca to) (kTowR R ca to) (b2i (hasB (M (rCas (cI ca)) 3) (cI to))) (b2i (decide (¬ R 104 (cI ca * 7 + cI to) = 0))) (dnN M (cI ca) (cI to) 3) M (fallR R ca to) := by
  have a := kTow_eq h ca to
  refine ⟨a, fun hk => by rw [(op_fall h ca to hk).1], ?_, ?_, ?_⟩
  · unfold fallR
    rw [a]
    by_cases hk : kTow M ca to = 0
    · rw [if_pos hk, if_pos hk]; exact (op_fall h ca to hk).2.mono (by omega)
    · rw [if_neg hk, if_neg hk]; exact h.onK.mono (by omega)
  · by_cases hk : kTow M ca to = 0
    · obtain ⟨hc, -, ht⟩ := kTow_ok h hk
      rw [if_pos hk]; exact hI.down h hc ht
    · rw [if_neg hk]; exact hI
  · unfold fallR
    by_cases hk : kTowR R ca to = 0
    · rw [if_pos hk, hk, dwN_ne (by decide) (by decide) (by decide)]; exact thr19
    · rw [if_neg hk]; exact thr19
theorem st_burn (h : Re M R n) (hI : Inv M) (ca to : Int32) : ST n (kTow M ca to) (kTowR R ca to) (nI (drC (dnN M (cI ca) (cI to) 3) (cI ca) (cI to) (szN M (cI ca)))) (buC (dwN (thr R 0) (cI ca) (cI to) 3) (cI ca) (cI to) (wrN R (cI ca))) (drN (dnN M (cI ca) (cI to) 3) (cI ca) (cI to) (szN M (cI ca))) M (burnR R ca to) := by
  have a := kTow_eq h ca to
  refine ⟨a, fun hk => (op_burn h ca to hk).1, ?_, ?_, ?_⟩
  · unfold burnR
    rw [a]
    by_cases hk : kTow M ca to = 0
    · rw [if_pos hk, if_pos hk]; exact (op_burn h ca to hk).2.mono (by omega)
    · rw [if_neg hk, if_neg hk]; exact h.onK.mono (by omega)
  · by_cases hk : kTow M ca to = 0
    · obtain ⟨hc, -, ht⟩ := kTow_ok h hk
      rw [if_pos hk]; exact (hI.down h hc ht).drop (h.down hc ht) hc
    · rw [if_neg hk]; exact hI
  · unfold burnR
    by_cases hk : kTowR R ca to = 0
    · rw [if_pos hk, hk, buN_ne (by decide), dwN_ne (by decide) (by decide) (by decide)]; exact thr19
    · rw [if_neg hk]; exact thr19
theorem st_rise (h : Re M R n) (hI : Inv M) (ca to : Int32) : ST n (kTow M ca to) (kTowR R ca to) (b2i (!hasB (M (rCas (cI ca)) 3) (cI to))) (b2i (decide (R 104 (cI ca * 7 + cI to) = 0))) (if hasB (M (rCas (cI ca)) 3) (cI to) = true then M else cUp M (cI ca) (cI to) (nowM M + nI 20)) M (riseR R ca to) := by
  have a := kTow_eq h ca to
  refine ⟨a, fun hk => by rw [(op_rise h ca to hk).1], ?_, ?_, ?_⟩
  · unfold riseR
    rw [a]
    by_cases hk : kTow M ca to = 0
    · rw [if_pos hk, if_pos hk]; exact (op_rise h ca to hk).2.mono (by omega)
    · rw [if_neg hk, if_neg hk]; exact h.onK.mono (by omega)
  · by_cases hk : kTow M ca to = 0
    · obtain ⟨hc, -, ht⟩ := kTow_ok h hk
      rw [if_pos hk]
      split
      · exact hI
      · exact hI.rise h hc ht
    · rw [if_neg hk]; exact hI
  · unfold riseR
    by_cases hk : kTowR R ca to = 0
    · rw [if_pos hk, hk]
      split
      · rw [riM_ne (by decide) (by decide) (by decide)]; exact thr19
      · exact thr19
    · rw [if_neg hk]; exact thr19
theorem b2i_dec {x : Int32} (h : narrow .boolean (.int x) = .int x) : b2i (decide (¬ x = 0)) = x := by
  rcases nar01 h with rfl | rfl <;> decide
theorem st_cut (h : Re M R n) (hI : Inv M) (ca to lo : Int32) (is : Bool) : ST n (kCut M ca to lo) (kCutR R ca to lo) (b2i (hasB (M (rCt (cI ca)) (cI lo)) (cI to))) (R 107 ((cI ca * 7 + cI to) * 4 + cI lo)) (cCut M (cI ca) (cI to) (cI lo) is) M (cutR R ca to lo is) := by
  obtain ⟨a, b⟩ := op_cut h ca to lo is
  have hok : kCut M ca to lo = 0 → cI ca < 2 ∧ cI to < 7 ∧ cI lo < 4 := fun hk => by
    obtain ⟨h1, -⟩ := ifk0 (by decide) hk
    simp only [vC, Bool.and_eq_true] at h1
    have hc := vIn_cI h1.1 (by decide)
    exact ⟨hc, Nat.lt_of_lt_of_le (vIn_cI h1.2.1 (Nat.lt_of_le_of_lt (h.tc7 hc) (by decide))) (h.tc7 hc), vIn_cI h1.2.2 (by decide)⟩
  refine ⟨a, fun hk => ?_, ?_, ?_, ?_⟩
  · obtain ⟨hc, ht, hl⟩ := hok hk
    rw [(b hk).1]
    exact b2i_dec (((h.2.1.1 _ hc).2.2.2.2.2.2 _ ht).2 _ hl)
  · unfold cutR
    rw [a]
    by_cases hk : kCut M ca to lo = 0
    · rw [if_pos hk, if_pos hk]; exact (b hk).2.mono (by omega)
    · rw [if_neg hk, if_neg hk]; exact h.onK.mono (by omega)
  · by_cases hk : kCut M ca to lo = 0
    · rw [if_pos hk]; exact hI.cut h (hok hk).1
    · rw [if_neg hk]; exact hI
  · unfold cutR
    by_cases hk : kCutR R ca to lo = 0
    · rw [if_pos hk, hk]; exact (wr_othr (by decide)).trans thr19
    · rw [if_neg hk]; exact thr19
theorem st_lease (h : Re M R n) (hI : Inv M) (hn : n < 512) (lo ca ga ti : Int32) : ST n (kLease M lo ca ga ti) (kLeaseR R lo ca ga ti) (imax (M (rLT (cI ca) (cI ga)) (cI lo)) (nowM M + ti)) (mxR (R 110 ((cI ca * 4 + cI lo) * 3 + cI ga)) (nowR R + ti)) (gGrant M (cI ca) (cI ga) (cI lo) (voN M (cI ca) (cI ga) (cI lo) (nowM M) (tcN M (cI ca))) (nowM M + ti)) M (leaseR R lo ca ga ti) := by
  obtain ⟨a, b, c⟩ := op_lease h (by omega) lo ca ga ti
  refine ⟨a, b, c.mono (by omega), ?_, ?_⟩
  · by_cases hk : kLease M lo ca ga ti = 0
    · rw [if_pos hk]; exact hI.lease h (by omega) hk
    · rw [if_neg hk]; exact hI
  · unfold leaseR
    by_cases hk : kLeaseR R lo ca ga ti = 0
    · rw [if_pos hk, hk, wr_othr (by decide), lgN_ne (by decide) (by decide)]; exact thr19
    · rw [if_neg hk]; exact thr19
theorem st_giveUp (h : Re M R n) (hI : Inv M) (hn : n < 512) (lo ca ga : Int32) : ST n (kGive M lo ca ga) (kGiveR R lo ca ga) (nI (enC M (cI ca) (cI ga) (nI (cI lo)) (nearI M (cI ca) (cI lo)) (nowM M) 7)) (nI (gvC (thr R 0) (cI ca) (cI ga) (cI lo) (nrR R ca lo) (mnN R (cI ca)))) (gEnd M (cI ca) (cI ga) (cI lo) (nearI M (cI ca) (cI lo)) (nowM M)) M (giveR R lo ca ga) := by
  obtain ⟨a, b, c⟩ := op_give h lo ca ga
  refine ⟨a, b, c.mono (by omega), ?_, ?_⟩
  · by_cases hk : kGive M lo ca ga = 0
    · rw [if_pos hk]; exact hI.give h (by omega) hk
    · rw [if_neg hk]; exact hI
  · unfold giveR
    by_cases hk : kGiveR R lo ca ga = 0
    · rw [if_pos hk, hk, wr_othr (by decide), gvN_ne (by decide)]; exact thr19
    · rw [if_neg hk]; exact thr19
theorem st_leaseOf (h : Re M R n) (hI : Inv M) (lo ca ga : Int32) : ST n (kG3 lo ca ga) (kG3R lo ca ga) (M (rLT (cI ca) (cI ga)) (cI lo)) (R 110 ((cI ca * 4 + cI lo) * 3 + cI ga)) M M (thr R (kG3R lo ca ga)) :=
  st_ro h hI (op_leaseOf h lo ca ga).1 (op_leaseOf h lo ca ga).2
theorem st_openFor (h : Re M R n) (hI : Inv M) (ca ga : Int32) : ST n (kOpen M ca ga) (kOpenR R ca ga) (nI (ofQ M (cI ca) (cI ga) (nowM M))) (ofN (thr R 0) (cI ca) (cI ga) 4) M M (thr R (kOpenR R ca ga)) :=
  st_ro h hI (op_openFor h hI.1.1 ca ga).1 (op_openFor h hI.1.1 ca ga).2
theorem st_voteOf (h : Re M R n) (hI : Inv M) (ca to ga : Int32) : ST n (kVote M ca to ga) (kVoteR R ca to ga) (M (rVL (cI ca) (cI ga)) (cI to)) (R 108 ((cI ca * 7 + cI to) * 3 + cI ga)) M M (thr R (kVoteR R ca to ga)) :=
  st_ro h hI (op_vote h ca to ga).1 (fun hk => ((op_vote h ca to ga).2 hk).1)
theorem st_voteTill (h : Re M R n) (hI : Inv M) (ca to ga : Int32) : ST n (kVote M ca to ga) (kVoteR R ca to ga) (M (rVT (cI ca) (cI ga)) (cI to)) (R 109 ((cI ca * 7 + cI to) * 3 + cI ga)) M M (thr R (kVoteR R ca to ga)) :=
  st_ro h hI (op_vote h ca to ga).1 (fun hk => ((op_vote h ca to ga).2 hk).2)
theorem st_near (h : Re M R n) (hI : Inv M) (lo ca : Int32) : ST n (kCL ca lo) (kCLR ca lo) (bcI (nearI M (cI ca) (cI lo))) (onI (rcN (thr R 0) (cI ca) (cI lo) (mnN R (cI ca)))) M M (thr R (kCLR ca lo)) :=
  st_ro h hI (op_near h lo ca).1 (op_near h lo ca).2
theorem st_tower (h : Re M R n) (hI : Inv M) (hn : n < 512) (ca to : Int32) : ST n (kTow M ca to) (kTowR R ca to) (towR M (cI ca) (cI to) (nowM M)) (towRR R (cI ca) (cI to)) M M (thr R (kTowR R ca to)) :=
  st_ro h hI (op_tower h (by omega) ca to).1 (op_tower h (by omega) ca to).2
theorem st_order (h : Re M R n) (hI : Inv M) (lo ca ga : Int32) (isIn : Bool) (am : Int32) : ST n (kOrd M lo ca ga isIn am) (kOrdR R lo ca ga isIn am) (nI (szN M (cI ca))) (nI (wrN R (cI ca))) (ordM M (cI ca) (cI lo) isIn am) (ordX M lo ca ga am) (orderR R lo ca ga isIn am) := by
  obtain ⟨a, b, c⟩ := op_order h lo ca ga isIn am
  refine ⟨a, b, c.mono (by omega), ?_, ?_⟩
  · by_cases hk : kOrd M lo ca ga isIn am = 0
    · rw [if_pos hk]; exact hI.order h hk
    · rw [if_neg hk]; exact hI.orX h
  · unfold orderR
    by_cases hk : kOrdR R lo ca ga isIn am = 0
    · rw [if_pos hk, hk, mWr_ne (by decide) (by decide) (by decide) (by decide) (by decide) (by decide) (by decide)]; exact thr19
    · rw [if_neg hk]
      split
      · exact thr19
      · exact thr19
theorem st_spread (h : Re M R n) (hI : Inv M) (ca : Int32) : ST n (kC ca) (kCR ca) (spG M (cI ca) (szN M (cI ca))) (spRC (thr R 0) (cI ca) (upR R ca) (wrN R (cI ca))) (spN M (cI ca) (szN M (cI ca))) M (spreadR R ca) := by
  obtain ⟨a, b⟩ := op_spread h ca
  refine ⟨a, fun hk => (b hk).1, ?_, ?_, ?_⟩
  · unfold spreadR
    rw [a]
    by_cases hk : kC ca = 0
    · rw [if_pos hk, if_pos hk]; exact (b hk).2.mono (by omega)
    · rw [if_neg hk, if_neg hk]; exact h.onK.mono (by omega)
  · by_cases hk : kC ca = 0
    · obtain ⟨h1, -⟩ := ifk0 (by decide) hk
      rw [if_pos hk]; exact hI.spread h (vIn_cI h1 (by decide))
    · rw [if_neg hk]; exact hI
  · unfold spreadR
    by_cases hk : kCR ca = 0
    · rw [if_pos hk, hk, cmN_ne (by decide), spRN_ne (by decide)]; exact thr19
    · rw [if_neg hk]; exact thr19
theorem st_strike (h : Re M R n) (hI : Inv M) (ca : Int32) : ST n (kC ca) (kCR ca) (nI (rStruck M (cI ca) (szN M (cI ca)))) (nI (stRC R (cI ca) (suC (thr R 0) (cI ca) (wrN R (cI ca))) (wrN R (cI ca) - suC (thr R 0) (cI ca) (wrN R (cI ca))))) (rStrike M (cI ca) (szN M (cI ca))) M (strikeR R ca) := by
  obtain ⟨a, b⟩ := op_strike h ca
  refine ⟨a, fun hk => (b hk).1, ?_, ?_, ?_⟩
  · unfold strikeR
    rw [a]
    by_cases hk : kC ca = 0
    · rw [if_pos hk, if_pos hk]; exact (b hk).2.mono (by omega)
    · rw [if_neg hk, if_neg hk]; exact h.onK.mono (by omega)
  · by_cases hk : kC ca = 0
    · obtain ⟨h1, -⟩ := ifk0 (by decide) hk
      rw [if_pos hk]; exact hI.strike h (vIn_cI h1 (by decide))
    · rw [if_neg hk]; exact hI
  · unfold strikeR
    by_cases hk : kCR ca = 0
    · rw [if_pos hk, hk, stRN_ne (by decide)]; exact suR19
    · rw [if_neg hk, show kCR ca = 1 by unfold kCR at hk ⊢; split at hk <;> rename_i h9; exact absurd rfl hk; rw [if_neg h9]]; exact thr19
theorem kC1 {ca : Int32} (hk : ¬ kCR ca = 0) : kCR ca = 1 := by
  unfold kCR at hk ⊢
  split at hk
  · exact absurd rfl hk
  · rename_i h9; rw [if_neg h9]
theorem kCL1 {ca lo : Int32} (hk : ¬ kCLR ca lo = 0) : kCLR ca lo = 1 := by
  unfold kCLR at hk ⊢
  split at hk
  · exact absurd rfl hk
  · rename_i h9; rw [if_neg h9]
theorem st_entries (h : Re M R n) (hI : Inv M) (ca : Int32) : ST n (kC ca) (kCR ca) (nI (szN M (cI ca))) (nI (wrN R (cI ca))) M M (thr R (kCR ca)) :=
  st_ro h hI (op_entries h ca).1 (op_entries h ca).2
theorem st_sum (h : Re M R n) (hI : Inv M) (ca : Int32) {VC VR : Int32} {M1 : wM} (h1 : kC ca = 0 → M1 = M ∨ M1 = telM M (cI ca) (szN M (cI ca))) (v : kC ca = 0 → VC = VR) : ST n (kC ca) (kCR ca) VC VR M1 M (sumR R ca) := by
  have a : kCR ca = kC ca := rfl
  refine ⟨a, v, ?_, ?_, ?_⟩
  · unfold sumR
    rw [a]
    by_cases hk : kC ca = 0
    · rw [if_pos hk, if_pos hk]
      have hc := vIn_cI (ifk0 (by decide) hk).1 (by decide)
      rcases h1 hk with e | e
      · rw [e]; exact ((h.onK (k := 0)).onS).mono (by omega)
      · rw [e]; exact (((h.onK (k := 0)).onS).onT hc).mono (by omega)
    · rw [if_neg hk, if_neg hk]; exact h.onK.mono (by omega)
  · by_cases hk : kC ca = 0
    · rw [if_pos hk]
      have hc := vIn_cI (ifk0 (by decide) hk).1 (by decide)
      rcases h1 hk with e | e
      · rw [e]; exact hI
      · rw [e]; exact hI.tel h hc
    · rw [if_neg hk]; exact hI
  · unfold sumR
    by_cases hk : kCR ca = 0
    · rw [if_pos hk, hk]; exact suR19
    · rw [if_neg hk, kC1 hk]; exact thr19
theorem st_counting (h : Re M R n) (hI : Inv M) (ca : Int32) : ST n (kC ca) (kCR ca) (nI (rCnt M (cI ca) (szN M (cI ca)))) (nI (suC (thr R 0) (cI ca) (wrN R (cI ca)))) M M (sumR R ca) :=
  st_sum h hI ca (fun _ => Or.inl rfl) (op_counting h ca).2
theorem st_gold (h : Re M R n) (hI : Inv M) (ca : Int32) (isH : Bool) : ST n (kC ca) (kCR ca) (if isH = true then telM M (cI ca) (szN M (cI ca)) (rLed (cI ca)) 1 else telM M (cI ca) (szN M (cI ca)) (rLed (cI ca)) 0) (if isH = true then suR R ca rMod 32 else suR R ca rMod 31) (telM M (cI ca) (szN M (cI ca))) M (sumR R ca) :=
  st_sum h hI ca (fun _ => Or.inr rfl) (op_gold h ca isH).2
theorem st_entryOf (h : Re M R n) (hI : Inv M) (ca en : Int32) : ST n (kEnt M ca en) (kER R ca en) (M (rLe (cI ca)) (cI en)) (R 111 (cI ca * 60 + cI en)) M M (thr R (kER R ca en)) :=
  st_ro h hI (op_ent h ca en).1 (fun hk => ((op_ent h ca en).2 hk).2.2.1)
theorem st_amountOf (h : Re M R n) (hI : Inv M) (ca en : Int32) : ST n (kEnt M ca en) (kER R ca en) (M (rAm (cI ca)) (cI en)) (R 112 (cI ca * 60 + cI en)) M M (thr R (kER R ca en)) :=
  st_ro h hI (op_ent h ca en).1 (fun hk => ((op_ent h ca en).2 hk).2.2.2.1)
theorem st_isCommitted (h : Re M R n) (hI : Inv M) (ca en : Int32) : ST n (kEnt M ca en) (kER R ca en) (M (rCo (cI ca)) (cI en)) (b2i (decide (¬ R 116 (cI ca * 60 + cI en) = 0))) M M (thr R (kER R ca en)) :=
  st_ro h hI (op_ent h ca en).1 (fun hk => by
    obtain ⟨hc, hk9, -, -, -, b4, -⟩ := (op_ent h ca en).2 hk
    rw [← b4, b2i_dec (h.oke hc hk9).2.2.1])
theorem st_has (h : Re M R n) (hI : Inv M) (ca to en : Int32) : ST n (kHas M ca to en) (kHasR R ca to en) (b2i (hasB (M (rHo (cI ca)) (cI en)) (cI to))) (b2i (decide (bitI (R 115 (cI ca * 60 + cI en)) (cI to) = nI 1))) M M (thr R (kHasR R ca to en)) :=
  st_ro h hI (op_has h ca to en).1 (op_has h ca to en).2
theorem st_purse (h : Re M R n) (hI : Inv M) (lo ca : Int32) : ST n (kCL ca lo) (kCLR ca lo) (telM M (cI ca) (szN M (cI ca)) (rPu (cI ca)) (cI lo)) (suR R ca 135 (cI lo)) (telM M (cI ca) (szN M (cI ca))) M (purseR R lo ca) := by
  obtain ⟨a, b⟩ := op_purse h lo ca
  have hok : kCL ca lo = 0 → cI ca < 2 := fun hk => by
    obtain ⟨h1, -⟩ := ifk0 (by decide) hk
    simp only [vC, Bool.and_eq_true] at h1
    exact vIn_cI h1.1 (by decide)
  refine ⟨a, b, ?_, ?_, ?_⟩
  · unfold purseR
    rw [a]
    by_cases hk : kCL ca lo = 0
    · rw [if_pos hk, if_pos hk]; exact (((h.onK (k := 0)).onS).onT (hok hk)).mono (by omega)
    · rw [if_neg hk, if_neg hk]; exact h.onK.mono (by omega)
  · by_cases hk : kCL ca lo = 0
    · rw [if_pos hk]; exact hI.tel h (hok hk)
    · rw [if_neg hk]; exact hI
  · unfold purseR
    by_cases hk : kCLR ca lo = 0
    · rw [if_pos hk, hk]; exact suR19
    · rw [if_neg hk, kCL1 hk]; exact thr19
theorem st_scout (h : Re M R n) (hI : Inv M) (lo ca : Int32) : ST n (kScout M lo ca) (kScoR R lo ca) (nI (scN M)) (nI (siN R)) (scoM M (cI ca) (cI lo)) M (scoRR R lo ca) := by
  obtain ⟨a, b, c⟩ := op_scout h lo ca
  refine ⟨a, b, c.mono (by omega), ?_, ?_⟩
  · by_cases hk : kScout M lo ca = 0
    · rw [if_pos hk]; exact hI.scout h hk
    · rw [if_neg hk]; exact hI
  · unfold scoRR
    by_cases hk : kScoR R lo ca = 0
    · rw [if_pos hk, hk, wr_othj (by decide), wr_othr (by decide), wr_othr (by decide), wr_othr (by decide), wr_othr (by decide), wr_othr (by decide), wr_othr (by decide)]; exact suT19
    · rw [if_neg hk]; exact thr19
theorem st_read (h : Re M R n) (hI : Inv M) (si : Int32) (isC : Bool) : ST n (kRead M si) (kReaR R si) (if isC = true then M (rSi (cI si)) 4 else M (rSi (cI si)) 5) (if isC = true then R 124 (cI si) else R 125 (cI si)) M M (thr R (kReaR R si)) :=
  st_ro h hI (op_read h si).1 (fun hk => by
    obtain ⟨a, b⟩ := (op_read h si).2 hk
    rw [a, b])
theorem st_raid (h : Re M R n) (hI : Inv M) (si ga : Int32) : ST n (kRaid M si ga) (kRaiR R si ga) (raiR M (cI si) (cI ga)) (raiVR R (cI si) (cI ga)) (raiM M (cI si) (cI ga)) M (raidRR R si ga) := by
  obtain ⟨a, b, c⟩ := op_raid h si ga
  refine ⟨a, b, c.mono (by omega), ?_, ?_⟩
  · by_cases hk : kRaid M si ga = 0
    · rw [if_pos hk]; exact hI.raid h hk
    · rw [if_neg hk]; exact hI
  · unfold raidRR
    by_cases hk : kRaiR R si ga = 0
    · rw [if_pos hk, hk]
      unfold raiMR
      split
      · exact thr19
      · split
        · split
          · split
            · exact suT19
            · split
              · rw [wr_othr (by decide), mWr_ne (by decide) (by decide) (by decide) (by decide) (by decide) (by decide) (by decide)]; exact suT19
              · exact suT19
          · exact thr19
        · exact thr19
    · rw [if_neg hk]; exact thr19
theorem st_won (h : Re M R n) (hI : Inv M) (lo : Int32) : ST n (if vIn lo 4 = true then 0 else 1) (kLoR lo) (M rWin (cI lo)) (R 131 (cI lo)) M M (thr R (kLoR lo)) :=
  st_ro h hI rfl (fun hk => op_won h lo hk)
theorem st_truce (h : Re M R n) (hI : Inv M) (fr wo : Int32) : ST n (kTruce M fr wo) (kTruR R fr wo) (nI (tnN M)) (nI (trN R)) (truM M fr wo) M (truRR R fr wo) := by
  obtain ⟨a, b⟩ := op_truce h fr wo
  refine ⟨a, fun hk => (b hk).1, ?_, ?_, ?_⟩
  · by_cases hk : kTruce M fr wo = 0
    · rw [if_pos hk]; exact (b hk).2.mono (by omega)
    · rw [if_neg hk]
      unfold truRR
      rw [a, if_neg hk]; exact h.onK.mono (by omega)
  · by_cases hk : kTruce M fr wo = 0
    · rw [if_pos hk]; exact hI.truce h hk
    · rw [if_neg hk]; exact hI
  · unfold truRR
    by_cases hk : kTruR R fr wo = 0
    · rw [if_pos hk, hk, wr_othj (by decide), wr_othr (by decide), wr_othr (by decide), wr_othr (by decide), wr_othr (by decide), wr_othr (by decide)]; exact thr19
    · rw [if_neg hk]; exact thr19
theorem st_prepare (h : Re M R n) (hI : Inv M) (tr ca lo : Int32) : ST n (kPrep M tr ca lo) (kPreR R tr ca lo) (nI (szN M (cI ca))) (nI (wrN R (cI ca))) (preM M (cI tr) (cI ca) (cI lo)) (preX M tr ca lo) (preRR R tr ca lo) := by
  obtain ⟨a, b, c⟩ := op_prepare h hI.2.2 tr ca lo
  refine ⟨a, b, c.mono (by omega), ?_, ?_⟩
  · by_cases hk : kPrep M tr ca lo = 0
    · rw [if_pos hk]; exact hI.prepare h hk
    · rw [if_neg hk]; exact hI.prX h
  · unfold preRR
    by_cases hk : kPreR R tr ca lo = 0
    · rw [if_pos hk, hk, mWr_ne (by decide) (by decide) (by decide) (by decide) (by decide) (by decide) (by decide), wr_othr (by decide)]; exact thr19
    · rw [if_neg hk]
      split
      · rename_i h1; rw [h1]; exact thr19
      · exact thr19
theorem st_decide (h : Re M R n) (hI : Inv M) (tr : Int32) (dn : Bool) : ST n (kDec M tr dn) (kDecR R tr dn) (nI (tPre M (cI tr))) (nI (pzI R (2 * cI tr) + pzI R (2 * cI tr + 1))) (decM M (cI tr) dn) M (decRR R tr dn) := by
  obtain ⟨a, b⟩ := op_decide h tr dn
  refine ⟨a, fun hk => by rw [(b hk).1], ?_, ?_, ?_⟩
  · unfold decRR
    rw [a]
    by_cases hk : kDec M tr dn = 0
    · rw [if_pos hk, if_pos hk]; exact (b hk).2.mono (by omega)
    · rw [if_neg hk, if_neg hk]; exact h.onK.mono (by omega)
  · by_cases hk : kDec M tr dn = 0
    · rw [if_pos hk]; exact hI.deci h hk
    · rw [if_neg hk]; exact hI
  · unfold decRR
    by_cases hk : kDecR R tr dn = 0
    · rw [if_pos hk, hk, wr_othr (by decide)]; exact thr19
    · rw [if_neg hk]; exact thr19
theorem st_settle (h : Re M R n) (hI : Inv M) (ca : Int32) : ST n (kSet M ca) (kSetR R ca) (nI (opQ M (cI ca))) (nI (prQ R (cI ca))) (setM M (cI ca)) M (setRR R ca) := by
  obtain ⟨a, b, c⟩ := op_settle h hI.2.2 ca
  refine ⟨a, b, c.mono (by omega), ?_, ?_⟩
  · by_cases hk : kSet M ca = 0
    · rw [if_pos hk]; exact hI.settle h hk
    · rw [if_neg hk]; exact hI
  · unfold setRR
    by_cases hk : kSetR R ca = 0
    · rw [if_pos hk, hk, mWr_ne (by decide) (by decide) (by decide) (by decide) (by decide) (by decide) (by decide), wr_othr (by decide)]; exact thr19
    · rw [if_neg hk]
      split
      · rename_i h1; rw [h1]; exact thr19
      · rename_i h1
        split
        · rename_i h2
          have : kSetR R ca = 2 := by
            unfold kSetR at h1 ⊢
            split at h1
            · rename_i h3; rw [if_pos h3, if_pos h2]
            · exact absurd rfl h1
          rw [this]; exact thr19
        · exact thr19
theorem st_truceOf (h : Re M R n) (hI : Inv M) (tr ca : Int32) : ST n (kTC M tr ca) (kTCR R tr ca) (M (rSt (cI tr)) (cI ca)) (R 130 (2 * cI tr + cI ca)) M M (thr R (kTCR R tr ca)) :=
  st_ro h hI (op_truceOf h tr ca).1 (op_truceOf h tr ca).2
end St
