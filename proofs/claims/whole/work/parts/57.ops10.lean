/-! entries written by lords, by truces -/
theorem rApp_at {M : wM} {c s : Nat} {le am : Int32} (hc : c < 2) : (∀ k, rApp M c s le am (rLe c) k = if k = s then le else M (rLe c) k) ∧ (∀ k, rApp M c s le am (rAm c) k = if k = s then am else M (rAm c) k) ∧ (∀ k, rApp M c s le am (rHo c) k = if k = s then nI 0 else M (rHo c) k) ∧ (∀ k, rApp M c s le am (rCo c) k = if k = s then nI 0 else M (rCo c) k) ∧
    rApp M c s le am (rRow c) 0 = nI (s + 1) ∧ ∀ j, j ≠ 0 → rApp M c s le am (rRow c) j = M (rRow c) j := by
  unfold rApp
  refine ⟨fun k => ?_, fun k => ?_, fun k => ?_, fun k => ?_, ?_, fun j hj => ?_⟩
  · rw [wr_othr (by simp only [rLe, rCo]; omega), wr_othr (by simp only [rLe, rHo]; omega), wr_othr (by simp only [rLe, rAm]; omega)]
    by_cases e : k = s
    · subst e; rw [wr_same, if_pos rfl]
    · rw [wr_othj e, if_neg e, wr_othr (by simp only [rLe, rRow]; omega)]
  · rw [wr_othr (by simp only [rAm, rCo]; omega), wr_othr (by simp only [rAm, rHo]; omega)]
    by_cases e : k = s
    · subst e; rw [wr_same, if_pos rfl]
    · rw [wr_othj e, if_neg e, wr_othr (by simp only [rAm, rLe]; omega), wr_othr (by simp only [rAm, rRow]; omega)]
  · rw [wr_othr (by simp only [rHo, rCo]; omega)]
    by_cases e : k = s
    · subst e; rw [wr_same, if_pos rfl]
    · rw [wr_othj e, if_neg e, wr_othr (by simp only [rHo, rAm]; omega), wr_othr (by simp only [rHo, rLe]; omega), wr_othr (by simp only [rHo, rRow]; omega)]
  · by_cases e : k = s
    · subst e; rw [wr_same, if_pos rfl]
    · rw [wr_othj e, if_neg e, wr_othr (by simp only [rCo, rHo]; omega), wr_othr (by simp only [rCo, rAm]; omega), wr_othr (by simp only [rCo, rLe]; omega), wr_othr (by simp only [rCo, rRow]; omega)]
  · rw [wr_othr (by simp only [rRow, rCo]; omega), wr_othr (by simp only [rRow, rHo]; omega), wr_othr (by simp only [rRow, rAm]; omega), wr_othr (by simp only [rRow, rLe]; omega), wr_same]
  · rw [wr_othr (by simp only [rRow, rCo]; omega), wr_othr (by simp only [rRow, rHo]; omega), wr_othr (by simp only [rRow, rAm]; omega), wr_othr (by simp only [rRow, rLe]; omega), wr_othj hj]
theorem or00 {x : Int32} : nI 0 ||| x = x := by rw [show nI 0 = (0 : Int32) from rfl]; exact Int32.zero_or
/-- what both kinds of entries have in common; X is rLo or rFh -/
theorem cW_at {M : wM} {c s X : Nat} {le am v tw : Int32} (hc : c < 2) (hX : X = rLo c ∨ X = rFh c) :
    let M' := seM (wr (rApp M c s le am) X s v) c s tw
    (∀ k, M' (rLe c) k = if k = s then le else M (rLe c) k) ∧ (∀ k, M' (rAm c) k = if k = s then am else M (rAm c) k) ∧ (∀ k, M' (rHo c) k = if k = s then tw else M (rHo c) k) ∧ (∀ k, M' (rCo c) k = if k = s then coV (qrm M c tw) (nI 0) else M (rCo c) k) ∧
    M' (rRow c) 0 = nI (s + 1) ∧ (∀ j, j ≠ 0 → M' (rRow c) j = M (rRow c) j) ∧ M' X s = v ∧ (∀ k, k ≠ s → M' (rLo c) k = M (rLo c) k) ∧ (∀ k, k ≠ s → M' (rFh c) k = M (rFh c) k) ∧
    ∀ r, r ≠ rRow c → r ≠ rLe c → r ≠ rAm c → r ≠ rLo c → r ≠ rHo c → r ≠ rFh c → r ≠ rCo c → M' r = M r := by
  intro M'
  obtain ⟨a1, a2, a3, a4, a5, a6⟩ := rApp_at (M := M) (s := s) (le := le) (am := am) hc
  have x1 : X ≠ rRow c ∧ X ≠ rLe c ∧ X ≠ rAm c ∧ X ≠ rHo c ∧ X ≠ rCo c ∧ X ≠ rCas c := by rcases hX with e | e <;> subst e <;> refine ⟨?_, ?_, ?_, ?_, ?_, ?_⟩ <;> simp only [rLo, rFh, rRow, rLe, rAm, rHo, rCo, rCas] <;> omega
  obtain ⟨x2, x3, x4, x5, x6, x7⟩ := x1
  have w1 : ∀ r, r ≠ X → wr (rApp M c s le am) X s v r = rApp M c s le am r := fun r hr => wr_ne hr
  have hap : ∀ r, r ≠ rRow c → r ≠ rLe c → r ≠ rAm c → r ≠ rHo c → r ≠ rCo c → rApp M c s le am r = M r := fun r h1 h2 h3 h4 h5 => rApp_ne h1 h2 h3 h4 h5
  have hq : qrm (wr (rApp M c s le am) X s v) c (wr (rApp M c s le am) X s v (rHo c) s ||| tw) = qrm M c tw := by
    rw [w1 _ (Ne.symm x5), a3, if_pos rfl, or00]
    unfold qrm
    rw [w1 _ (Ne.symm x7), hap _ (by simp only [rCas, rRow]; omega) (by simp only [rCas, rLe]; omega) (by simp only [rCas, rAm]; omega) (by simp only [rCas, rHo]; omega) (by simp only [rCas, rCo]; omega)]
  have hs9 : ∀ r, r ≠ rHo c → r ≠ rCo c → M' r = wr (rApp M c s le am) X s v r := fun r h1 h2 => seM_ne h1 h2
  refine ⟨fun k => ?_, fun k => ?_, fun k => ?_, fun k => ?_, ?_, fun j hj => ?_, ?_, fun k hk => ?_, fun k hk => ?_, fun r h1 h2 h3 h4 h5 h6 h7 => ?_⟩
  · rw [hs9 _ (by simp only [rLe, rHo]; omega) (by simp only [rLe, rCo]; omega), w1 _ (Ne.symm x3)]; exact a1 k
  · rw [hs9 _ (by simp only [rAm, rHo]; omega) (by simp only [rAm, rCo]; omega), w1 _ (Ne.symm x4)]; exact a2 k
  · show seM _ c s tw (rHo c) k = _
    rw [seM_ho, w1 _ (Ne.symm x5)]
    by_cases e : k = s
    · rw [if_pos e, if_pos e, a3, if_pos rfl, or00]
    · rw [if_neg e, if_neg e, a3, if_neg e]
  · show seM _ c s tw (rCo c) k = _
    rw [seM_co, hq, w1 _ (Ne.symm x6)]
    by_cases e : k = s
    · rw [if_pos e, if_pos e, a4, if_pos rfl]
    · rw [if_neg e, if_neg e, a4, if_neg e]
  · rw [hs9 _ (by simp only [rRow, rHo]; omega) (by simp only [rRow, rCo]; omega), w1 _ (Ne.symm x2)]; exact a5
  · rw [hs9 _ (by simp only [rRow, rHo]; omega) (by simp only [rRow, rCo]; omega), w1 _ (Ne.symm x2)]; exact a6 j hj
  · rw [hs9 _ x5 x6, wr_same]
  · rw [hs9 _ (by simp only [rLo, rHo]; omega) (by simp only [rLo, rCo]; omega)]
    by_cases e : rLo c = X
    · rw [← e, wr_othj hk, hap _ (by simp only [rLo, rRow]; omega) (by simp only [rLo, rLe]; omega) (by simp only [rLo, rAm]; omega) (by simp only [rLo, rHo]; omega) (by simp only [rLo, rCo]; omega)]
    · rw [w1 _ e, hap _ (by simp only [rLo, rRow]; omega) (by simp only [rLo, rLe]; omega) (by simp only [rLo, rAm]; omega) (by simp only [rLo, rHo]; omega) (by simp only [rLo, rCo]; omega)]
  · rw [hs9 _ (by simp only [rFh, rHo]; omega) (by simp only [rFh, rCo]; omega)]
    by_cases e : rFh c = X
    · rw [← e, wr_othj hk, hap _ (by simp only [rFh, rRow]; omega) (by simp only [rFh, rLe]; omega) (by simp only [rFh, rAm]; omega) (by simp only [rFh, rHo]; omega) (by simp only [rFh, rCo]; omega)]
    · rw [w1 _ e, hap _ (by simp only [rFh, rRow]; omega) (by simp only [rFh, rLe]; omega) (by simp only [rFh, rAm]; omega) (by simp only [rFh, rHo]; omega) (by simp only [rFh, rCo]; omega)]
  · rw [hs9 _ h5 h7, w1 _ (by rcases hX with e | e <;> rw [e] <;> assumption), hap _ h1 h2 h3 h5 h7]
theorem Re.cWr {M R : wM} {n c s : Nat} {le am lo tr tw : Int32} (h : Re M R n) (hc : c < 2) (hs : szN M c = s) (hs60 : s < 60) (hN : Mk tw) (hl4 : lo.toNatClampNeg < 4 ∧ lo = nI lo.toNatClampNeg) (ht : isTru le = false) (hle : narrow .char (.int le) = .int le) : Re (cWrite M c s le am lo tw) (mWr R c s le am lo tr tw) n := by
  obtain ⟨a1, a2, a3, a4, a5, a6, a7, a8, a9, a10⟩ := cW_at (M := M) (s := s) (le := le) (am := am) (v := lo) (tw := tw) hc (Or.inl rfl)
  exact h.write (M0 := M) hc hs hs60 hN _ a5 a1 a2 a3 a4 a8 a9 (fun _ => ⟨a7, hl4⟩) (fun q => by rw [ht] at q; cases q) hle a6 (fun r _ h1 h2 h3 h4 h5 h6 h7 => a10 r h1 h2 h3 h4 h5 h6 h7)
theorem Re.cWrT {M R : wM} {n c s : Nat} {le am lo tr tw : Int32} {fh : Bool} (h : Re M R n) (hc : c < 2) (hs : szN M c = s) (hs60 : s < 60) (hN : Mk tw) (htr : tr.toNatClampNeg < trN R ∧ tr = nI tr.toNatClampNeg ∧ fh = decide (R 127 tr.toNatClampNeg = nI c)) (ho : isOrd le = false) (hle : narrow .char (.int le) = .int le) : Re (cWriteT M c s le am fh tw) (mWr R c s le am lo tr tw) n := by
  obtain ⟨a1, a2, a3, a4, a5, a6, a7, a8, a9, a10⟩ := cW_at (M := M) (s := s) (le := le) (am := am) (v := b2i fh) (tw := tw) hc (Or.inr rfl)
  exact h.write (M0 := M) hc hs hs60 hN _ a5 a1 a2 a3 a4 a8 a9 (fun q => by rw [ho] at q; cases q) (fun _ => ⟨htr.1, htr.2.1, by rw [← htr.2.2]; exact a7⟩) hle a6 (fun r _ h1 h2 h3 h4 h5 h6 h7 => a10 r h1 h2 h3 h4 h5 h6 h7)
theorem nI_lo {lo : Nat} (h : lo < 4) : (nI lo).toNatClampNeg < 4 ∧ nI lo = nI (nI lo).toNatClampNeg := by
  rw [nI_clamp (by omega)]; exact ⟨h, rfl⟩
/-- the ledger told: as what is worked out behind a held test -/
theorem Re.ledR {M R : wM} {n : Nat} (h : Re M R n) {ca : Int32} (hc : cI ca < 2) : LE (telM M (cI ca) (szN M (cI ca))) (suR R ca) (cI ca) := (h.onK (k := 0)).led hc
theorem op_ord3 {M R : wM} {n : Nat} (h : Re M R n) (lo ca ga : Int32) (isIn : Bool) (am : Int32) (hc : cI ca < 2) (hg : cI ga < 3) (hlo : cI lo < 4) : ord3R R lo ca ga isIn am = ord3 M (cI ca) (cI ga) (cI lo) isIn am := by
  obtain ⟨l1, l2, l3⟩ := h.ledR hc
  have hS : Re M (suR R ca) n := (h.onK (k := 0)).onS
  have hT : Re (telM M (cI ca) (szN M (cI ca))) (suR R ca) n := hS.onT hc
  have e1 := hS.opens hc hg hlo
  have e2 : rcN (suR R ca) (cI ca) (cI lo) (mnN R (cI ca)) = nearI (telM M (cI ca) (szN M (cI ca))) (cI ca) (cI lo) := by
    have := hT.reach hc hlo
    rw [show mnN (suR R ca) (cI ca) = mnN R (cI ca) by unfold mnN; rw [suR_ne (by decide) (by decide)]] at this
    exact this
  unfold ord3R ord3 ordBR ordE
  rw [e1, e2, l3 _ hlo]
  unfold lFree
  rw [l1, l2]
theorem kOrd_ok {M : wM} {lo ca ga am : Int32} {isIn : Bool} (hk : kOrd M lo ca ga isIn am = 0) : cI ca < 2 ∧ cI ga < 3 ∧ cI lo < 4 ∧ vAm am = true ∧ ord3 M (cI ca) (cI ga) (cI lo) isIn am = true ∧ szN M (cI ca) < 60 := by
  obtain ⟨h1, h2⟩ := ifk0 (by decide) hk
  obtain ⟨h3, h4⟩ := ifk0 (by decide) h2
  obtain ⟨h5, h6⟩ := ifk0 (by decide) h4
  simp only [vG3, vC, Bool.and_eq_true] at h1
  refine ⟨vIn_cI h1.1 (by decide), vIn_cI h1.2.1 (by decide), vIn_cI h1.2.2 (by decide), h3, h5, ?_⟩
  by_cases e : szN M (cI ca) < 60
  · exact e
  · rw [if_neg e] at h6; exact absurd h6 (by decide)
theorem op_order {M R : wM} {n : Nat} (h : Re M R n) (lo ca ga : Int32) (isIn : Bool) (am : Int32) : kOrdR R lo ca ga isIn am = kOrd M lo ca ga isIn am ∧ (kOrd M lo ca ga isIn am = 0 → nI (szN M (cI ca)) = nI (wrN R (cI ca))) ∧
    Re (if kOrd M lo ca ga isIn am = 0 then ordM M (cI ca) (cI lo) isIn am else ordX M lo ca ga am) (orderR R lo ca ga isIn am) n := by
  have hK : kOrdR R lo ca ga isIn am = kOrd M lo ca ga isIn am := by
    unfold kOrdR kOrd
    have hV : vR3 ca ga lo = vG3 ca ga lo := rfl
    have hA : vI am (nI 1) (nI 999) = vAm am := rfl
    rw [hV, hA]
    cases e : vG3 ca ga lo with
    | false => simp only [Bool.false_eq_true, if_false]
    | true =>
      simp only [vG3, vC, Bool.and_eq_true] at e
      rw [op_ord3 h lo ca ga isIn am (vIn_cI e.1 (by decide)) (vIn_cI e.2.1 (by decide)) (vIn_cI e.2.2 (by decide)), h.wn (vIn_cI e.1 (by decide))]
  refine ⟨hK, fun hk => by rw [h.wn (kOrd_ok hk).1], ?_⟩
  unfold orderR
  rw [hK]
  by_cases hk : kOrd M lo ca ga isIn am = 0
  · rw [if_pos hk, if_pos hk]
    obtain ⟨hc, hg, hlo, -, -, h60⟩ := kOrd_ok hk
    have hS : Re M (thr (suR R ca) 0) n := ((h.onK (k := 0)).onS).onK
    have hT : Re (telM M (cI ca) (szN M (cI ca))) (thr (suR R ca) 0) n := hS.onT hc
    have e2 : rcN (thr (suR R ca) 0) (cI ca) (cI lo) (mnN R (cI ca)) = nearI (telM M (cI ca) (szN M (cI ca))) (cI ca) (cI lo) := by
      have := hT.reach hc hlo
      rw [show mnN (thr (suR R ca) 0) (cI ca) = mnN R (cI ca) by unfold mnN; exact congrArg Int32.toNatClampNeg (congrFun ((wr_ne (by decide)).trans (suR_ne (by decide) (by decide))) _)] at this
      exact this
    have sz : szN (telM M (cI ca) (szN M (cI ca))) (cI ca) = szN M (cI ca) := by unfold szN; rw [telM_ne (by simp only [rRow, rLed]; omega) (by simp only [rRow, rPu]; omega)]
    rw [e2, h.wn hc]
    unfold ordM
    refine hT.cWr hc sz h60 (hT.near hc hlo).1 (nI_lo hlo) ?_ ?_
    · cases isIn <;> decide
    · cases isIn <;> decide
  · rw [if_neg hk, if_neg hk]
    have hX : ∀ R', Re M R' n → Re (ordX M lo ca ga am) R' n := fun R' h' => by
      unfold ordX
      split
      · rename_i h9
        simp only [vG3, vC, Bool.and_eq_true] at h9
        exact h'.onT (vIn_cI h9.1.1 (by decide))
      · exact h'
    apply hX
    split
    · exact h.onK
    · exact ((h.onK (k := 0)).onS).onK
/-! raid -/
/-- one more raid won -/
theorem Re.win {M R : wM} {n lo : Nat} (h : Re M R n) (hlo : lo < 4) : Re (wr M rWin lo (M rWin lo + nI 1)) (wr R 131 lo (R 131 lo + nI 1)) n := by
  have h0 := h.2.2.2.2.2.2.2.2.2.2.1
  have tn := h.tn
  have sc := h.sc
  obtain ⟨h1, h2, h3, h4, h5, h6, h7, h8, h9, h10, h11, h12⟩ := h
  have hM : ∀ r, r ≠ 63 → wr M rWin lo (M rWin lo + nI 1) r = M r := fun r hr => wr_ne hr
  have hR : ∀ r, r ≠ 131 → wr R 131 lo (R 131 lo + nI 1) r = R r := fun r hr => wr_ne hr
  generalize hM9 : wr M rWin lo (M rWin lo + nI 1) = M' at hM ⊢
  generalize hR9 : wr R 131 lo (R 131 lo + nI 1) = R' at hR ⊢
  have hsc : scN M' = scN M := by unfold scN; rw [hM _ (by decide)]
  have htn : tnN M' = tnN M := by unfold tnN; rw [hM _ (by decide)]
  have hs : siN R' = siN R := by unfold siN; rw [hR _ (by decide)]
  have ht : trN R' = trN R := by unfold trN; rw [hR _ (by decide)]
  have hsc20 := h1.2.1.2
  have htn8 := h1.2.2.1.2
  have eC : ∀ c, c < 2 → ∀ j, j < 23 → M' (30 * c + j) = M (30 * c + j) := fun c hc j hj => hM _ (by omega)
  have eS : ∀ k, k < 20 → M' (rSi k) = M (rSi k) := fun k hk => hM _ (by simp only [rSi]; omega)
  have eT : ∀ k, k < 8 → M' (rTr k) = M (rTr k) ∧ M' (rSt k) = M (rSt k) := fun k hk => ⟨hM _ (by simp only [rTr]; omega), hM _ (by simp only [rSt]; omega)⟩
  have eM : M' rMain = M rMain := hM _ (by decide)
  have fM : R' rMod = R rMod := hR _ (by decide)
  refine ⟨⟨fun c hc => ?_, by rw [hsc, eM]; exact h1.2.1, by rw [htn, eM]; exact h1.2.2.1, fun k hk => ?_, fun k hk => ?_⟩, ⟨fun c hc => ?_, by rw [hs, fM]; exact h2.2.1, by rw [ht, fM]; exact h2.2.2.1, fun k hk => ?_, fun k hk => ?_⟩, fun c hc => ?_, fun c hc => by rw [show M' (rCas c) = M (rCas c) from eC c hc 0 (by decide)]; exact h4 c hc, by rw [hsc, hs]; exact h5, by rw [htn, ht]; exact h6, fun k hk => ?_, fun k hk => ?_, by rw [fM]; exact h9, by show M' rMain 7 = _; rw [eM, fM]; exact h10, fun lo' hlo' => ?_, fun c hc k k' hk hk' => ?_⟩
  · exact (h1.1 c hc).cong (by rw [show M' (rCas c) = M (rCas c) from eC c hc 0 (by decide)]) (eC c hc 16 (by decide)) (eC c hc 17 (by decide)) (eC c hc 19 (by decide)) (eC c hc 22 (by decide))
  · rw [hsc] at hk
    have := h1.2.2.2.1 k hk
    unfold IVS plN loN at this ⊢
    rw [eS k (by omega)]; exact this
  · rw [htn] at hk
    have := h1.2.2.2.2 k hk
    unfold IVT at this ⊢
    rw [(eT k (by omega)).1, (eT k (by omega)).2]; exact this
  · exact (h2.1 c hc).congP (fun r k a b _ => by rw [hR r (by omega)])
  · rw [hs] at hk
    have := h2.2.2.2.1 k hk
    unfold RVS scC scL at this ⊢
    rw [hR 121 (by decide), hR 122 (by decide)]; exact this
  · rw [ht] at hk
    have := h2.2.2.2.2 k hk
    unfold RVT at this ⊢
    rw [hR 129 (by decide), hR 130 (by decide)]; exact this
  · exact (h3 c hc).congP (eC c hc) (fun r k a b _ => by rw [hR r (by omega)]) (by rw [ht]; exact Nat.le_refl _) (fun j _ => by rw [hR 127 (by decide)]) ((h1.1 c hc).2.2.2.1)
  · rw [hsc] at hk
    obtain ⟨s1, s2, s3, s4, s5, s6, s7⟩ := h7 k hk
    have es := eS k (by omega)
    have pl : plN M' k = plN M k := by unfold plN; rw [es]
    have hp := (h1.2.2.2.1 k hk).2.1
    have ec : M' (rCas (plN M k)) = M (rCas (plN M k)) := eC _ hp 0 (by decide)
    exact ⟨by rw [es, hR 122 (by decide)]; exact s1, by rw [es, hR 121 (by decide)]; exact s2, by rw [es, hR 123 (by decide)]; exact s3, by rw [es, hR 124 (by decide)]; exact s4, by rw [es, hR 125 (by decide)]; exact s5, by rw [pl, es, ec, hR 126 (by decide)]; exact s6, by rw [pl, es, ec]; exact s7⟩
  · rw [htn] at hk
    obtain ⟨p1, p2, p3, p4, p5, p6⟩ := h8 k hk
    obtain ⟨et, es⟩ := eT k (by omega)
    exact ⟨by rw [et, hR 127 (by decide)]; exact p1, by rw [et, hR 128 (by decide)]; exact p2, by rw [et, hR 129 (by decide)]; exact p3, fun c hc => by rw [es, hR 130 (by decide)]; exact p4 c hc, by rw [hR 127 (by decide)]; exact p5, by rw [hR 128 (by decide)]; exact p6⟩
  · rw [← hM9, ← hR9]
    by_cases e : lo' = lo
    · subst e; rw [wr_same, wr_same, h0 lo' hlo]
    · rw [wr_othj e, wr_othj e]; exact h0 lo' hlo'
  · rw [htn] at hk hk'
    rw [(eT k (by omega)).2, (eT k' (by omega)).2]
    exact h12 c hc k k' hk hk'
theorem Re.sit {M R : wM} {n : Nat} (h : Re M R n) {k : Nat} (hk : k < scN M) : scC R k = plN M k ∧ scL R k = loN M k ∧ plN M k < 2 ∧ loN M k < 4 := by
  obtain ⟨s1, s2, -⟩ := h.si hk
  obtain ⟨-, p2, -, p4⟩ := h.1.2.2.2.1 k hk
  exact ⟨by unfold scC plN; rw [s1], by unfold scL loN; rw [s2], p2, p4⟩
theorem kRai_ok {M R : wM} {n : Nat} (h : Re M R n) {si ga : Int32} (hk : kRaid M si ga = 0) : cI si < scN M ∧ cI ga < 3 ∧ szN M (plN M (cI si)) < 60 := by
  obtain ⟨h1, h2⟩ := ifk0 (by decide) hk
  simp only [Bool.and_eq_true] at h1
  refine ⟨vIn_cI h1.1 (Nat.lt_of_le_of_lt h.sc20 (by decide)), vIn_cI h1.2 (by decide), ?_⟩
  by_cases e : szN M (plN M (cI si)) < 60
  · exact e
  · rw [if_neg e] at h2; exact absurd h2 (by decide)
theorem wn_T0 {R : wM} {c : Nat} : wrN (T0 R) c = wrN R c := rfl
theorem op_raid {M R : wM} {n : Nat} (h : Re M R n) (si ga : Int32) : kRaiR R si ga = kRaid M si ga ∧ (kRaid M si ga = 0 → raiR M (cI si) (cI ga) = raiVR R (cI si) (cI ga)) ∧
    Re (if kRaid M si ga = 0 then raiM M (cI si) (cI ga) else M) (raidRR R si ga) n := by
  have hK : kRaiR R si ga = kRaid M si ga := by
    unfold kRaiR kRaid
    rw [← h.sc]
    cases e : (vIn si (scN M) && vIn ga 3) with
    | false => simp only [Bool.false_eq_true, if_false]
    | true =>
      simp only [Bool.and_eq_true] at e
      obtain ⟨q1, q2, q3, q4⟩ := h.sit (vIn_cI e.1 (Nat.lt_of_le_of_lt h.sc20 (by decide)))
      rw [q1, h.wn q3]
  have h0 : Re M (T0 R) n := h.onK
  have main : kRaid M si ga = 0 → raiR M (cI si) (cI ga) = raiVR R (cI si) (cI ga) ∧ Re (raiM M (cI si) (cI ga)) (raiMR R (cI si) (cI ga)) n := by
    intro hk
    obtain ⟨hk9, hg, h60⟩ := kRai_ok h hk
    obtain ⟨q1, q2, q3, q4⟩ := h.sit hk9
    obtain ⟨-, -, -, s4, s5, -⟩ := h.si hk9
    have hc := q3
    have e1 := h0.opens hc hg q4
    have e2 : raiNr R (cI si) = nearI M (plN M (cI si)) (loN M (cI si)) := by unfold raiNr; rw [q1, q2]; exact h0.reach hc q4
    have e3 := h0.q hc (h0.near hc q4).1
    have e4 : hgR (T0 R) (plN M (cI si)) (wrN R (plN M (cI si))) = rHang M (plN M (cI si)) (szN M (plN M (cI si))) := h0.hang hc
    have e5 : suC (T0 R) (plN M (cI si)) (wrN R (plN M (cI si))) = rCnt M (plN M (cI si)) (szN M (plN M (cI si))) := h0.cnt hc
    have e6 := h.old hk9
    have hS : Re M (suT R (plN M (cI si))) n := h0.onS
    have e7 : rcN (suT R (plN M (cI si))) (plN M (cI si)) (loN M (cI si)) (mnN R (plN M (cI si))) = nearI M (plN M (cI si)) (loN M (cI si)) := by
      have := hS.reach hc q4
      rw [show mnN (suT R (plN M (cI si))) (plN M (cI si)) = mnN R (plN M (cI si)) by unfold mnN; rw [suT_ne (by decide) (by decide)]] at this
      exact this
    have hW : Re (wr (raiW M (cI si)) rWin (loN M (cI si)) (M rWin (loN M (cI si)) + nI 1)) (wr (mWr (suT R (plN M (cI si))) (plN M (cI si)) (wrN R (plN M (cI si))) (nI 114) (R 125 (cI si) / nI 2) (nI (loN M (cI si))) (nI 0) (rcN (suT R (plN M (cI si))) (plN M (cI si)) (loN M (cI si)) (mnN R (plN M (cI si))))) 131 (loN M (cI si)) (R 131 (loN M (cI si)) + nI 1)) n := by
      rw [e7, h.wn hc, ← s5]
      have h9 : Re (raiW M (cI si)) (mWr (suT R (plN M (cI si))) (plN M (cI si)) (szN M (plN M (cI si))) (nI 114) (M (rSi (cI si)) 5 / nI 2) (nI (loN M (cI si))) (nI 0) (nearI M (plN M (cI si)) (loN M (cI si)))) n :=
        hS.cWr hc rfl h60 (h.near hc q4).1 (nI_lo q4) (by decide) (by decide)
      have hw : M rWin (loN M (cI si)) = raiW M (cI si) rWin (loN M (cI si)) := by
        unfold raiW; rw [cWrite_ne (by simp only [rWin, rRow]; omega) (by simp only [rWin, rLe]; omega) (by simp only [rWin, rAm]; omega) (by simp only [rWin, rHo]; omega) (by simp only [rWin, rCo]; omega) (by simp only [rWin, rLo]; omega)]
      have hr : R 131 (loN M (cI si)) = mWr (suT R (plN M (cI si))) (plN M (cI si)) (szN M (plN M (cI si))) (nI 114) (M (rSi (cI si)) 5 / nI 2) (nI (loN M (cI si))) (nI 0) (nearI M (plN M (cI si)) (loN M (cI si))) 131 (loN M (cI si)) := by
        rw [mWr_ne (by decide) (by decide) (by decide) (by decide) (by decide) (by decide) (by decide), suT_ne (by decide) (by decide)]
      rw [hw, hr]
      exact h9.win q4
    unfold raiMR raiVR raiM raiR orO
    rw [e6, q1, q2, e1, e2, e3, e4, e5, ← s4]
    have n1 : ¬ nI 111 = nI 119 := by decide
    have n2 : ¬ nI 103 = nI 119 := by decide
    have n3 : ¬ nI 113 = nI 119 := by decide
    have n4 : ¬ nI 115 = nI 119 := by decide
    cases a1 : sOld M (cI si) (plN M (cI si)) (nowM M) with
    | true => simp only [↓reduceIte, true_and]; rw [if_neg n1]; exact h0
    | false =>
      cases a2 : gOpen M (plN M (cI si)) (cI ga) (loN M (cI si)) (nowM M) with
      | false => simp only [↓reduceIte, true_and, Bool.false_eq_true]; rw [if_neg n2]; exact h0
      | true =>
        cases a3 : qrm M (plN M (cI si)) (nearI M (plN M (cI si)) (loN M (cI si))) with
        | false => simp only [↓reduceIte, true_and, Bool.false_eq_true, Bool.true_eq_false]; rw [if_neg n3]; exact h0
        | true =>
          cases a4 : rHang M (plN M (cI si)) (szN M (plN M (cI si))) with
          | true =>
            have : (if nI (rCnt M (plN M (cI si)) (szN M (plN M (cI si)))) = M (rSi (cI si)) 4 then nI 115 else nI 115) = nI 115 := by split <;> rfl
            simp only [↓reduceIte, true_and, Bool.false_eq_true, Bool.true_eq_false]
            rw [this, if_neg n4]; exact ⟨rfl, hS⟩
          | false =>
            by_cases a5 : nI (rCnt M (plN M (cI si)) (szN M (plN M (cI si)))) = M (rSi (cI si)) 4
            · simp only [a5, ↓reduceIte, true_and, Bool.false_eq_true, Bool.true_eq_false]
              exact hW
            · simp only [a5, ↓reduceIte, true_and, Bool.false_eq_true, Bool.true_eq_false]
              rw [if_neg n4]; exact hS
  refine ⟨hK, fun hk => (main hk).1, ?_⟩
  unfold raidRR
  rw [hK]
  by_cases hk : kRaid M si ga = 0
  · rw [if_pos hk, if_pos hk]; exact (main hk).2
  · rw [if_neg hk, if_neg hk]; exact h.onK
