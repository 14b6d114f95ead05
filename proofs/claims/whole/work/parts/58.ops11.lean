/-! scout -/
theorem Re.sig {M M' R R' : wM} {n sn : Nat} (h : Re M R n) (e : ∀ c, c < 2 → ∀ j, j < 23 → M' (30 * c + j) = M (30 * c + j)) (eS : ∀ k, k < scN M → M' (rSi k) = M (rSi k)) (eT : ∀ r, 84 ≤ r → r < 100 → M' r = M r) (eW : M' rWin = M rWin)
    (m6 : M' rMain 6 = M rMain 6) (m7 : M' rMain 7 = M rMain 7) (m5 : M' rMain 5 = nI sn) (h20 : sn ≤ 20) (hle : scN M ≤ sn) (f : ∀ r, 101 ≤ r → r ≤ 120 → R' r = R r) (f2 : ∀ r, 127 ≤ r → r ≤ 131 → R' r = R r) (f9 : ∀ r k, 121 ≤ r → r ≤ 126 → k < scN M → R' r k = R r k)
    (g16 : R' rMod 16 = nI sn) (g17 : R' rMod 17 = R rMod 17) (g18 : R' rMod 18 = R rMod 18) (nS : ∀ k, scN M ≤ k → k < sn → IVS M' k ∧ RVS R' k ∧ ReS M' R' (n + 1) k) : Re M' R' n := by
  have hsc : scN M' = sn := by unfold scN; rw [m5]; exact nI_clamp (by omega)
  have htn : tnN M' = tnN M := by unfold tnN; rw [m6]
  have hs : siN R' = sn := by unfold siN; rw [g16]; exact nI_clamp (by omega)
  have ht : trN R' = trN R := by unfold trN; rw [g17]
  have hsc0 := h.sc
  obtain ⟨h1, h2, h3, h4, h5, h6, h7, h8, h9, h10, h11, h12⟩ := h
  have htn8 := h1.2.2.1.2
  have eT9 : ∀ k, k < 8 → M' (rTr k) = M (rTr k) ∧ M' (rSt k) = M (rSt k) := fun k hk => ⟨eT _ (by simp only [rTr]; omega) (by simp only [rTr]; omega), eT _ (by simp only [rSt]; omega) (by simp only [rSt]; omega)⟩
  refine ⟨⟨fun c hc => ?_, ⟨by rw [m5, hsc], by omega⟩, by rw [htn, m6]; exact h1.2.2.1, fun k hk => ?_, fun k hk => ?_⟩, ⟨fun c hc => ?_, ⟨by rw [g16, hs], by omega⟩, by rw [ht, g17]; exact h2.2.2.1, fun k hk => ?_, fun k hk => ?_⟩, fun c hc => ?_, fun c hc => by rw [show M' (rCas c) = M (rCas c) from e c hc 0 (by decide)]; exact h4 c hc, by rw [hsc, hs], by rw [htn, ht]; exact h6, fun k hk => ?_, fun k hk => ?_, by rw [g18]; exact h9, by show M' rMain 7 = _; rw [m7, g18]; exact h10, fun lo' hlo' => by rw [eW, f2 131 (by decide) (by decide)]; exact h11 lo' hlo', fun c hc k k' hk hk' => ?_⟩
  · exact (h1.1 c hc).cong (by rw [show M' (rCas c) = M (rCas c) from e c hc 0 (by decide)]) (e c hc 16 (by decide)) (e c hc 17 (by decide)) (e c hc 19 (by decide)) (e c hc 22 (by decide))
  · rw [hsc] at hk
    by_cases e9 : k < scN M
    · have := h1.2.2.2.1 k e9
      unfold IVS plN loN at this ⊢
      rw [eS k e9]; exact this
    · exact (nS k (by omega) hk).1
  · rw [htn] at hk
    have := h1.2.2.2.2 k hk
    unfold IVT at this ⊢
    rw [(eT9 k (by omega)).1, (eT9 k (by omega)).2]; exact this
  · exact (h2.1 c hc).congP (fun r k a b _ => by rw [f r (by omega) (by omega)])
  · rw [hs] at hk
    by_cases e9 : k < scN M
    · have := h2.2.2.2.1 k (by omega)
      unfold RVS scC scL at this ⊢
      rw [f9 121 k (by decide) (by decide) e9, f9 122 k (by decide) (by decide) e9]; exact this
    · exact (nS k (by omega) hk).2.1
  · rw [ht] at hk
    have := h2.2.2.2.2 k hk
    unfold RVT at this ⊢
    rw [f2 129 (by decide) (by decide), f2 130 (by decide) (by decide)]; exact this
  · exact (h3 c hc).congP (e c hc) (fun r k a b _ => by rw [f r (by omega) (by omega)]) (by rw [ht]; exact Nat.le_refl _) (fun j _ => by rw [f2 127 (by decide) (by decide)]) ((h1.1 c hc).2.2.2.1)
  · rw [hsc] at hk
    by_cases e9 : k < scN M
    · obtain ⟨s1, s2, s3, s4, s5, s6, s7⟩ := h7 k e9
      have es := eS k e9
      have pl : plN M' k = plN M k := by unfold plN; rw [es]
      have hp := (h1.2.2.2.1 k e9).2.1
      have ec : M' (rCas (plN M k)) = M (rCas (plN M k)) := e _ hp 0 (by decide)
      exact ⟨by rw [es, f9 122 k (by decide) (by decide) e9]; exact s1, by rw [es, f9 121 k (by decide) (by decide) e9]; exact s2, by rw [es, f9 123 k (by decide) (by decide) e9]; exact s3, by rw [es, f9 124 k (by decide) (by decide) e9]; exact s4, by rw [es, f9 125 k (by decide) (by decide) e9]; exact s5, by rw [pl, es, ec, f9 126 k (by decide) (by decide) e9]; exact s6, by rw [pl, es, ec]; exact s7⟩
    · exact (nS k (by omega) hk).2.2
  · rw [htn] at hk
    obtain ⟨p1, p2, p3, p4, p5, p6⟩ := h8 k hk
    obtain ⟨et, es⟩ := eT9 k (by omega)
    exact ⟨by rw [et, f2 127 (by decide) (by decide)]; exact p1, by rw [et, f2 128 (by decide) (by decide)]; exact p2, by rw [et, f2 129 (by decide) (by decide)]; exact p3, fun c hc => by rw [es, f2 130 (by decide) (by decide)]; exact p4 c hc, by rw [f2 127 (by decide) (by decide)]; exact p5, by rw [f2 128 (by decide) (by decide)]; exact p6⟩
  · rw [htn] at hk hk'
    rw [(eT9 k (by omega)).2, (eT9 k' (by omega)).2]
    exact h12 c hc k k' hk hk'
theorem kSco_ok {M R : wM} {n : Nat} (h : Re M R n) {lo ca : Int32} (hk : kScout M lo ca = 0) : cI ca < 2 ∧ cI lo < 4 ∧ scN M < 20 := by
  obtain ⟨h1, h2⟩ := ifk0 (by decide) hk
  obtain ⟨h3, h4⟩ := ifk0 (by decide) h2
  simp only [vC, Bool.and_eq_true] at h1
  refine ⟨vIn_cI h1.1 (by decide), vIn_cI h1.2 (by decide), ?_⟩
  by_cases e : scN M < 20
  · exact e
  · rw [if_neg e] at h4; exact absurd h4 (by decide)
theorem op_scout {M R : wM} {n : Nat} (h : Re M R n) (lo ca : Int32) : kScoR R lo ca = kScout M lo ca ∧ (kScout M lo ca = 0 → nI (scN M) = nI (siN R)) ∧
    Re (if kScout M lo ca = 0 then scoM M (cI ca) (cI lo) else M) (scoRR R lo ca) n := by
  have h0 : Re M (T0 R) n := h.onK
  have hK : kScoR R lo ca = kScout M lo ca := by
    unfold kScoR kScout vC
    cases e : (vIn ca 2 && vIn lo 4) with
    | false => simp only [Bool.false_eq_true, if_false]
    | true =>
      simp only [Bool.and_eq_true] at e
      have hc := vIn_cI e.1 (by decide)
      have hlo := vIn_cI e.2 (by decide)
      have hr : rcN (T0 R) (cI ca) (cI lo) (mnN R (cI ca)) = nearI M (cI ca) (cI lo) := h0.reach hc hlo
      have hq := h0.q hc (h0.near hc hlo).1
      rw [hr, hq, ← h.sc]
  refine ⟨hK, fun _ => by rw [h.sc], ?_⟩
  unfold scoRR
  rw [hK]
  by_cases hk : kScout M lo ca = 0
  · rw [if_pos hk, if_pos hk]
    obtain ⟨hc, hlo, h20⟩ := kSco_ok h hk
    rw [← h.sc]
    generalize hc9 : cI ca = c at hc ⊢
    generalize hl9 : cI lo = lo' at hlo ⊢
    generalize hk9 : scN M = k at h20 ⊢
    have hS : Re M (suT R c) n := h0.onS
    have hl5 : ∀ r, r ≠ rSi k → lk5 M k c lo' (szN M c) (nowM M) r = M r := fun r hr => lk5_ne hr
    have h5 : Re (lk5 M k c lo' (szN M c) (nowM M)) (T0 R) n := by
      refine h0.sig (sn := k) (fun c' hc' j hj => hl5 _ (by simp only [rSi]; omega)) (fun k' hk' => hl5 _ (by simp only [rSi]; omega)) (fun r h1 h2 => hl5 _ (by simp only [rSi]; omega)) (hl5 _ (by simp only [rWin, rSi]; omega)) (by rw [hl5 _ (by simp only [rMain, rSi]; omega)]) (by rw [hl5 _ (by simp only [rMain, rSi]; omega)]) ?_ (by omega) (by omega) (fun r _ _ => rfl) (fun r _ _ => rfl) (fun r k _ _ _ => rfl) ?_ rfl rfl (fun k' h1 h2 => by omega)
      · rw [hl5 _ (by simp only [rMain, rSi]; omega), ← hk9]; exact h.1.2.1.1
      · rw [h0.2.1.2.1.1, ← h0.sc, hk9]
    have sz5 : szN (lk5 M k c lo' (szN M c) (nowM M)) c = szN M c := congrArg (fun f : Nat → Int32 => (f 0).toNatClampNeg) (hl5 (rRow c) (by simp only [rRow, rSi]; omega))
    obtain ⟨d1, d2, -⟩ := h5.led hc
    rw [sz5, wn_T0] at d1 d2
    have cn4 : rCnt (lk4 M k c lo' (nowM M)) c (szN M c) = rCnt M c (szN M c) := rCnt_eq (lk4_ne (by simp only [rCo, rSi]; omega)) (lk4_ne (by simp only [rLe, rSi]; omega))
    have cn : suC (T0 R) c (wrN R c) = rCnt M c (szN M c) := h0.cnt hc
    have mm : ∀ r, r ≠ rSi k → r ≠ rMain → r ≠ rLed c → r ≠ rPu c → scoM M c lo' r = M r := fun r h1 h2 h3 h4 => by
      unfold scoM; rw [wr_ne h2, hk9, sLook_ne h1 h3 h4]
    have mS : ∀ j, scoM M c lo' (rSi k) j = if j = 5 then lFree (telM (lk5 M k c lo' (szN M c) (nowM M)) c (szN M c)) c else if j = 4 then nI (rCnt M c (szN M c)) else if j = 3 then M (rCas c) 2 else if j = 2 then nowM M else if j = 1 then nI lo' else if j = 0 then nI c else M (rSi k) j := fun j => by
      unfold scoM
      rw [hk9, wr_ne (by simp only [rSi, rMain]; omega)]
      unfold sLook
      by_cases e5 : j = 5
      · subst e5; rw [wr_same, if_pos rfl]
      · rw [wr_othj e5, if_neg e5, telM_ne (by simp only [rSi, rLed]; omega) (by simp only [rSi, rPu]; omega)]
        unfold lk5
        rw [cn4]
        by_cases e4 : j = 4
        · subst e4; rw [wr_same, if_pos rfl]
        · rw [wr_othj e4, if_neg e4]
          unfold lk4
          by_cases e3 : j = 3
          · subst e3; rw [wr_same, if_pos rfl]
          · rw [wr_othj e3, if_neg e3]
            by_cases e2 : j = 2
            · subst e2; rw [wr_same, if_pos rfl]
            · rw [wr_othj e2, if_neg e2]
              by_cases e1 : j = 1
              · subst e1; rw [wr_same, if_pos rfl]
              · rw [wr_othj e1, if_neg e1]
                by_cases e0 : j = 0
                · subst e0; rw [wr_same, if_pos rfl]
                · rw [wr_othj e0, if_neg e0]
    have m0 : ∀ j, j ≠ 5 → scoM M c lo' rMain j = M rMain j := fun j hj => by
      unfold scoM
      rw [hk9, wr_othj hj, sLook_ne (by simp only [rSi, rMain]; omega) (by simp only [rLed, rMain]; omega) (by simp only [rPu, rMain]; omega)]
    have m5 : scoM M c lo' rMain 5 = nI (k + 1) := by unfold scoM; rw [hk9, wr_same]
    generalize hR9 : wr (wr (wr (wr (wr (wr (wr (suT R c) 121 k (nI lo')) 122 k (nI c)) 123 k (R rMod 18)) 124 k (nI (suC (T0 R) c (wrN R c)))) 125 k (suT R c rMod 31 - suT R c rMod 32)) 126 k (nI 0)) rMod 16 (nI (k + 1)) = R'
    have rn : ∀ r, r ≠ 121 → r ≠ 122 → r ≠ 123 → r ≠ 124 → r ≠ 125 → r ≠ 126 → r ≠ 100 → r ≠ 135 → R' r = R r := fun r h1 h2 h3 h4 h5 h6 h7 h8 => by
      rw [← hR9, wr_ne h7, wr_ne h6, wr_ne h5, wr_ne h4, wr_ne h3, wr_ne h2, wr_ne h1, suT_ne h7 h8]
    have r121 : ∀ j, R' 121 j = if j = k then nI lo' else R 121 j := fun j => by
      rw [← hR9, wr_othr (by decide), wr_othr (by decide), wr_othr (by decide), wr_othr (by decide), wr_othr (by decide), wr_othr (by decide)]
      by_cases e : j = k
      · subst e; rw [wr_same, if_pos rfl]
      · rw [wr_othj e, if_neg e, suT_ne (by decide) (by decide)]
    have r122 : ∀ j, R' 122 j = if j = k then nI c else R 122 j := fun j => by
      rw [← hR9, wr_othr (by decide), wr_othr (by decide), wr_othr (by decide), wr_othr (by decide), wr_othr (by decide)]
      by_cases e : j = k
      · subst e; rw [wr_same, if_pos rfl]
      · rw [wr_othj e, if_neg e, wr_othr (by decide), suT_ne (by decide) (by decide)]
    have r123 : ∀ j, R' 123 j = if j = k then R rMod 18 else R 123 j := fun j => by
      rw [← hR9, wr_othr (by decide), wr_othr (by decide), wr_othr (by decide), wr_othr (by decide)]
      by_cases e : j = k
      · subst e; rw [wr_same, if_pos rfl]
      · rw [wr_othj e, if_neg e, wr_othr (by decide), wr_othr (by decide), suT_ne (by decide) (by decide)]
    have r124 : ∀ j, R' 124 j = if j = k then nI (suC (T0 R) c (wrN R c)) else R 124 j := fun j => by
      rw [← hR9, wr_othr (by decide), wr_othr (by decide), wr_othr (by decide)]
      by_cases e : j = k
      · subst e; rw [wr_same, if_pos rfl]
      · rw [wr_othj e, if_neg e, wr_othr (by decide), wr_othr (by decide), wr_othr (by decide), suT_ne (by decide) (by decide)]
    have r125 : ∀ j, R' 125 j = if j = k then suT R c rMod 31 - suT R c rMod 32 else R 125 j := fun j => by
      rw [← hR9, wr_othr (by decide), wr_othr (by decide)]
      by_cases e : j = k
      · subst e; rw [wr_same, if_pos rfl]
      · rw [wr_othj e, if_neg e, wr_othr (by decide), wr_othr (by decide), wr_othr (by decide), wr_othr (by decide), suT_ne (by decide) (by decide)]
    have r126 : ∀ j, R' 126 j = if j = k then nI 0 else R 126 j := fun j => by
      rw [← hR9, wr_othr (by decide)]
      by_cases e : j = k
      · subst e; rw [wr_same, if_pos rfl]
      · rw [wr_othj e, if_neg e, wr_othr (by decide), wr_othr (by decide), wr_othr (by decide), wr_othr (by decide), wr_othr (by decide), suT_ne (by decide) (by decide)]
    have rM : ∀ j, j ≠ 16 → j ≠ 19 → j ≠ 31 → j ≠ 32 → j ≠ 33 → R' rMod j = R rMod j := fun j h1 h2 h3 h4 h5 => by
      rw [← hR9, wr_othj h1, wr_othr (by decide), wr_othr (by decide), wr_othr (by decide), wr_othr (by decide), wr_othr (by decide), wr_othr (by decide)]
      exact (suM_oth h3 h4 h5).trans (wr_othj h2)
    have r16 : R' rMod 16 = nI (k + 1) := by rw [← hR9, wr_same]
    have pl : plN (scoM M c lo') k = c := by unfold plN; rw [mS]; exact nI_clamp (by omega)
    have lop : loN (scoM M c lo') k = lo' := by unfold loN; rw [mS]; exact nI_clamp (by omega)
    refine h.sig (sn := k + 1) (fun c' hc' j hj => mm _ (by simp only [rSi]; omega) (by simp only [rMain]; omega) (by simp only [rLed]; omega) (by simp only [rPu]; omega)) (fun k' hk' => mm _ (by simp only [rSi]; omega) (by simp only [rSi, rMain]; omega) (by simp only [rSi, rLed]; omega) (by simp only [rSi, rPu]; omega)) (fun r h1 h2 => mm _ (by simp only [rSi]; omega) (by simp only [rMain]; omega) (by simp only [rLed]; omega) (by simp only [rPu]; omega)) (mm _ (by simp only [rWin, rSi]; omega) (by decide) (by simp only [rWin, rLed]; omega) (by simp only [rWin, rPu]; omega)) (m0 6 (by decide)) (m0 7 (by decide)) m5 (by omega) (by omega) (fun r h1 h2 => rn r (by omega) (by omega) (by omega) (by omega) (by omega) (by omega) (by omega) (by omega)) (fun r h1 h2 => rn r (by omega) (by omega) (by omega) (by omega) (by omega) (by omega) (by omega) (by omega)) (fun r j h1 h2 hj => ?_) r16 (rM 17 (by decide) (by decide) (by decide) (by decide) (by decide)) (rM 18 (by decide) (by decide) (by decide) (by decide) (by decide)) (fun j h1 h2 => ?_)
    · have hjk : ¬ j = k := by omega
      rcases (show r = 121 ∨ r = 122 ∨ r = 123 ∨ r = 124 ∨ r = 125 ∨ r = 126 by omega) with rfl | rfl | rfl | rfl | rfl | rfl
      · rw [r121, if_neg hjk]
      · rw [r122, if_neg hjk]
      · rw [r123, if_neg hjk]
      · rw [r124, if_neg hjk]
      · rw [r125, if_neg hjk]
      · rw [r126, if_neg hjk]
    · have hj : j = k := by omega
      subst hj
      have cc : scC R' j = c := by unfold scC; rw [r122, if_pos rfl]; exact nI_clamp (by omega)
      have cl : scL R' j = lo' := by unfold scL; rw [r121, if_pos rfl]; exact nI_clamp (by omega)
      obtain ⟨b, b1, b2, b3⟩ := h.2.2.2.1 c hc
      have mcas : scoM M c lo' (rCas c) = M (rCas c) := mm _ (by simp only [rCas, rSi]; omega) (by simp only [rCas, rMain]; omega) (by simp only [rCas, rLed]; omega) (by simp only [rCas, rPu]; omega)
      refine ⟨⟨by rw [pl, mS]; rfl, by rw [pl]; exact hc, by rw [lop, mS]; rfl, by rw [lop]; exact hlo⟩, ⟨by rw [cc, r122, if_pos rfl], by rw [cc]; exact hc, by rw [cl, r121, if_pos rfl], by rw [cl]; exact hlo⟩, ?_, ?_, ?_, ?_, ?_, ?_, ?_⟩
      · rw [r122, if_pos rfl]; simp [mS]
      · rw [r121, if_pos rfl]; simp [mS]
      · rw [r123, if_pos rfl]; simp [mS]; exact h.now
      · rw [r124, if_pos rfl, cn]; simp [mS]
      · rw [r125, if_pos rfl, mS, if_pos rfl]
        unfold lFree
        rw [d1, d2]
      · have m3 : scoM M c lo' (rSi j) 3 = M (rCas c) 2 := by simp [mS]
        rw [pl, mcas, m3, r126, if_pos rfl]; simp; decide
      · have m3 : scoM M c lo' (rSi j) 3 = M (rCas c) 2 := by simp [mS]
        rw [pl, mcas, m3]
        exact ⟨b, b, Nat.le_refl _, by omega, b3, b3⟩
  · rw [if_neg hk, if_neg hk]; exact h.onK
