/-! what is kept beside the relation, call by call -/
theorem cas_ne {c c' g : Nat} (hc : c < 2) (hc' : c' < 2) (hg : g < 3) : rCas c' ≠ rVL c g ∧ rCas c' ≠ rVT c g ∧ rCas c' ≠ rLT c g := by
  rcases (show c = 0 ∨ c = 1 by omega) with rfl | rfl <;> rcases (show c' = 0 ∨ c' = 1 by omega) with rfl | rfl <;> simp only [rCas, rVL, rVT, rLT] <;> omega
theorem slo_ne {c c' g j : Nat} (hc : c < 2) (hc' : c' < 2) (hg : g < 3) (h1 : 16 ≤ j) (h2 : j < 23) : 30 * c' + j ≠ rVL c g ∧ 30 * c' + j ≠ rVT c g ∧ 30 * c' + j ≠ rLT c g := by
  rcases (show c = 0 ∨ c = 1 by omega) with rfl | rfl <;> rcases (show c' = 0 ∨ c' = 1 by omega) with rfl | rfl <;> simp only [rVL, rVT, rLT] <;> omega
def Inv (M : wM) : Prop := GI M ∧ LI M ∧ SnTs M
theorem GI.led {M M' : wM} (h : GI M) (e : ∀ c, c < 2 → ∀ j, j < 23 → j ≠ 2 → j < 16 → M' (30 * c + j) = M (30 * c + j)) (e7 : M' rMain 7 = M rMain 7) : GI M' :=
  h.cong (fun c hc => by rw [show M' (rCas c) = M (rCas c) from e c hc 0 (by decide) (by decide) (by decide)]; exact ⟨rfl, rfl⟩) (fun c hc j hj => e c hc j (by omega) (by omega) (by omega)) e7
/-- what changes neither castles, sights nor truces -/
theorem Inv.led {M M' R : wM} {n : Nat} (hr : Re M R n) (h : Inv M) (e : ∀ c, c < 2 → ∀ j, j < 23 → M' (30 * c + j) = M (30 * c + j)) (e2 : ∀ r, 60 ≤ r → r < 100 → r ≠ 63 → M' r = M r) : Inv M' := by
  have hm : M' rMain = M rMain := e2 60 (by decide) (by decide) (by decide)
  have hs20 := hr.sc20
  have ht8 := hr.tn8
  have hsc : scN M' = scN M := by unfold scN; rw [hm]
  have htn : tnN M' = tnN M := by unfold tnN; rw [hm]
  refine ⟨h.1.led (fun c hc j hj _ _ => e c hc j hj) (by rw [hm]), h.2.1.same hr (fun c hc j _ h2 _ => e c hc j h2) (fun c hc => by rw [show M' (rCas c) = M (rCas c) from e c hc 0 (by decide)]) hsc (fun k hk => by rw [e2 (rSi k) (by simp only [rSi]; omega) (by simp only [rSi]; omega) (by simp only [rSi]; omega)]) htn (fun k hk => ?_), h.2.2.same htn (fun k hk => ?_)⟩
  · rw [e2 (rTr k) (by simp only [rTr]; omega) (by simp only [rTr]; omega) (by simp only [rTr]; omega), e2 (rSt k) (by simp only [rSt]; omega) (by simp only [rSt]; omega) (by simp only [rSt]; omega)]; exact ⟨rfl, rfl, fun _ _ => rfl⟩
  · rw [e2 (rTr k) (by simp only [rTr]; omega) (by simp only [rTr]; omega) (by simp only [rTr]; omega), e2 (rSt k) (by simp only [rSt]; omega) (by simp only [rSt]; omega) (by simp only [rSt]; omega)]; exact ⟨rfl, fun _ _ => rfl⟩
theorem Inv.tel {M R : wM} {n c s : Nat} (hr : Re M R n) (h : Inv M) (hc : c < 2) : Inv (telM M c s) :=
  h.led hr (fun c' hc' j hj => telM_ne (by simp only [rLed]; omega) (by simp only [rPu]; omega)) (fun r h1 h2 _ => telM_ne (by simp only [rLed]; omega) (by simp only [rPu]; omega))
/-- only towers, votes and leases change -/
theorem Inv.tow {M M' R : wM} {n : Nat} (hr : Re M R n) (h : Inv M) (g : GI M') (e : ∀ c, c < 2 → ∀ j, 16 ≤ j → j < 23 → j ≠ 20 → M' (30 * c + j) = M (30 * c + j)) (e0 : ∀ c, c < 2 → M' (rCas c) 1 = M (rCas c) 1) (e2 : ∀ r, 61 ≤ r → r < 100 → M' r = M r) (m5 : M' rMain 5 = M rMain 5) (m6 : M' rMain 6 = M rMain 6) : Inv M' := by
  have hs20 := hr.sc20
  have ht8 := hr.tn8
  have hsc : scN M' = scN M := by unfold scN; rw [m5]
  have htn : tnN M' = tnN M := by unfold tnN; rw [m6]
  refine ⟨g, h.2.1.same hr e e0 hsc (fun k hk => by rw [e2 (rSi k) (by simp only [rSi]; omega) (by simp only [rSi]; omega)]) htn (fun k hk => ?_), h.2.2.same htn (fun k hk => ?_)⟩
  · rw [e2 (rTr k) (by simp only [rTr]; omega) (by simp only [rTr]; omega), e2 (rSt k) (by simp only [rSt]; omega) (by simp only [rSt]; omega)]; exact ⟨rfl, rfl, fun _ _ => rfl⟩
  · rw [e2 (rTr k) (by simp only [rTr]; omega) (by simp only [rTr]; omega), e2 (rSt k) (by simp only [rSt]; omega) (by simp only [rSt]; omega)]; exact ⟨rfl, fun _ _ => rfl⟩
theorem Inv.wait {M R : wM} {n : Nat} {ti : Int32} (hr : Re M R n) (hn : n ≤ 512) (h : Inv M) (hk : kWait ti = 0) : Inv (wr M rMain 7 (nowM M + ti)) := by
  obtain ⟨h1, -⟩ := ifk0 (by decide) hk
  simp only [vW, Bool.and_eq_true, decide_eq_true_eq] at h1
  obtain ⟨t, ht, rfl⟩ := vIn_ok (x := ti) (n := 101) (Int32.le_trans (by decide) h1.1) (Int32.lt_of_le_of_lt h1.2 (by decide)) (by decide)
  obtain ⟨x, hx, hnx⟩ := hr.nowN hn
  exact h.tow hr (h.1.wait hnx (by omega)) (fun c hc j _ h2 _ => wr_ne (by show 30 * c + j ≠ 60; omega)) (fun c hc => by rw [wr_ne (by simp only [rCas, rMain]; omega)]) (fun r h1 h2 => wr_ne (by show r ≠ 60; omega)) (wr_othj (by decide)) (wr_othj (by decide))
theorem Inv.down {M R : wM} {n c t : Nat} (hr : Re M R n) (h : Inv M) (hc : c < 2) (ht : t < 7) : Inv (dnN M c t 3) := by
  have e1 : ∀ r, r ≠ rCas c → (∀ g, g < 3 → r ≠ rVT c g) → dnN M c t 3 r = M r := fun r a b => dnN_ne a b
  refine h.tow hr (h.1.down hr hc ht) (fun c' hc' j h1 h2 _ => e1 _ (by simp only [rCas]; omega) (fun g hg => (slo_ne hc hc' hg h1 h2).2.1)) (fun c' hc' => ?_) (fun r h1 h2 => e1 _ (by simp only [rCas]; omega) (fun g hg => by simp only [rVT]; omega)) (by rw [e1 _ (by simp only [rMain, rCas]; omega) (fun g hg => by simp only [rMain, rVT]; omega)]) (by rw [e1 _ (by simp only [rMain, rCas]; omega) (fun g hg => by simp only [rMain, rVT]; omega)])
  by_cases e : c' = c
  · subst e; rw [dnN_cas (by decide), upd_oth (by decide)]
  · rw [e1 _ (by simp only [rCas]; omega) (fun g hg => (cas_ne hc hc' hg).2.1)]
theorem Inv.drop {M R : wM} {n c t w : Nat} (hr : Re M R n) (h : Inv M) (hc : c < 2) : Inv (drN M c t w) := by
  have e1 : ∀ r, r ≠ rHo c → drN M c t w r = M r := fun r a => drN_ne a
  exact h.tow hr (h.1.led (fun c' hc' j h1 h2 h3 => e1 _ (by simp only [rHo]; omega)) (by rw [e1 _ (by simp only [rMain, rHo]; omega)])) (fun c' hc' j h1 h2 h3 => e1 _ (by simp only [rHo]; omega)) (fun c' hc' => by rw [e1 _ (by simp only [rCas, rHo]; omega)]) (fun r h1 h2 => e1 _ (by simp only [rHo]; omega)) (by rw [e1 _ (by simp only [rMain, rHo]; omega)]) (by rw [e1 _ (by simp only [rMain, rHo]; omega)])
theorem Inv.rise {M R : wM} {n c t : Nat} (hr : Re M R n) (h : Inv M) (hc : c < 2) (ht : t < 7) : Inv (cUp M c t (nowM M + nI 20)) := by
  have e1 : ∀ r, r ≠ rCas c → r ≠ rWt c → cUp M c t (nowM M + nI 20) r = M r := fun r a b => cUp_ne a b
  refine h.tow hr (h.1.rise hr hc ht) (fun c' hc' j h1 h2 h3 => e1 _ (by simp only [rCas]; omega) (by simp only [rWt]; omega)) (fun c' hc' => ?_) (fun r h1 h2 => e1 _ (by simp only [rCas]; omega) (by simp only [rWt]; omega)) (by rw [e1 _ (by simp only [rMain, rCas]; omega) (by simp only [rMain, rWt]; omega)]) (by rw [e1 _ (by simp only [rMain, rCas]; omega) (by simp only [rMain, rWt]; omega)])
  by_cases e : c' = c
  · subst e; unfold cUp; rw [wr_othr (by simp only [rCas, rWt]; omega), wr_othj (by decide)]
  · rw [e1 _ (by simp only [rCas]; omega) (by simp only [rCas, rWt]; omega)]
theorem Inv.cut {M R : wM} {n c t lo : Nat} {is : Bool} (hr : Re M R n) (h : Inv M) (hc : c < 2) : Inv (cCut M c t lo is) := by
  have e1 : ∀ r, r ≠ rCt c → cCut M c t lo is r = M r := fun r a => cCut_ne a
  exact h.tow hr (h.1.led (fun c' hc' j h1 h2 h3 => e1 _ (by simp only [rCt]; omega)) (by rw [e1 _ (by simp only [rMain, rCt]; omega)])) (fun c' hc' j h1 h2 h3 => e1 _ (by simp only [rCt]; omega)) (fun c' hc' => by rw [e1 _ (by simp only [rCas, rCt]; omega)]) (fun r h1 h2 => e1 _ (by simp only [rCt]; omega)) (by rw [e1 _ (by simp only [rMain, rCt]; omega)]) (by rw [e1 _ (by simp only [rMain, rCt]; omega)])
theorem Inv.lease {M R : wM} {n : Nat} {lo ca ga ti : Int32} (hr : Re M R n) (hn : n ≤ 512) (h : Inv M) (hk : kLease M lo ca ga ti = 0) : Inv (gGrant M (cI ca) (cI ga) (cI lo) (voN M (cI ca) (cI ga) (cI lo) (nowM M) (tcN M (cI ca))) (nowM M + ti)) := by
  obtain ⟨h1, h2⟩ := ifk0 (by decide) hk
  obtain ⟨h3, h4⟩ := ifk0 (by decide) h2
  obtain ⟨h5, -⟩ := ifk0 (by decide) h4
  obtain ⟨hc, hg, hlo⟩ := vG3_ok h1
  have e1 : ∀ r, r ≠ rVL (cI ca) (cI ga) → r ≠ rVT (cI ca) (cI ga) → r ≠ rLT (cI ca) (cI ga) → gGrant M (cI ca) (cI ga) (cI lo) (voN M (cI ca) (cI ga) (cI lo) (nowM M) (tcN M (cI ca))) (nowM M + ti) r = M r := fun r a b d => by unfold gGrant; rw [wr_ne d, grN_ne a b]
  exact h.tow hr (h.1.lease hr hn hc hg hlo h3 h5) (fun c' hc' j h1 h2 h3 => e1 _ (slo_ne hc hc' hg h1 h2).1 (slo_ne hc hc' hg h1 h2).2.1 (slo_ne hc hc' hg h1 h2).2.2) (fun c' hc' => by rw [e1 _ (cas_ne hc hc' hg).1 (cas_ne hc hc' hg).2.1 (cas_ne hc hc' hg).2.2]) (fun r h1 h2 => e1 _ (by simp only [rVL]; omega) (by simp only [rVT]; omega) (by simp only [rLT]; omega)) (by rw [e1 _ (by simp only [rMain, rVL]; omega) (by simp only [rMain, rVT]; omega) (by simp only [rMain, rLT]; omega)]) (by rw [e1 _ (by simp only [rMain, rVL]; omega) (by simp only [rMain, rVT]; omega) (by simp only [rMain, rLT]; omega)])
theorem Inv.give {M R : wM} {n : Nat} {lo ca ga : Int32} (hr : Re M R n) (hn : n ≤ 512) (h : Inv M) (hk : kGive M lo ca ga = 0) : Inv (gEnd M (cI ca) (cI ga) (cI lo) (nearI M (cI ca) (cI lo)) (nowM M)) := by
  obtain ⟨h1, h2⟩ := ifk0 (by decide) hk
  obtain ⟨h3, -⟩ := ifk0 (by decide) h2
  obtain ⟨hc, hg, hlo⟩ := vG3_ok h1
  have e1 : ∀ r, r ≠ rVT (cI ca) (cI ga) → r ≠ rLT (cI ca) (cI ga) → gEnd M (cI ca) (cI ga) (cI lo) (nearI M (cI ca) (cI lo)) (nowM M) r = M r := fun r b d => by unfold gEnd; rw [wr_ne d, enN_ne b]
  exact h.tow hr (h.1.give hr hn hc hg hlo h3) (fun c' hc' j h1 h2 h3 => e1 _ (slo_ne hc hc' hg h1 h2).2.1 (slo_ne hc hc' hg h1 h2).2.2) (fun c' hc' => by rw [e1 _ (cas_ne hc hc' hg).2.1 (cas_ne hc hc' hg).2.2]) (fun r h1 h2 => e1 _ (by simp only [rVT]; omega) (by simp only [rLT]; omega)) (by rw [e1 _ (by simp only [rMain, rVT]; omega) (by simp only [rMain, rLT]; omega)]) (by rw [e1 _ (by simp only [rMain, rVT]; omega) (by simp only [rMain, rLT]; omega)])
theorem Inv.raise {M R : wM} {n : Nat} {ca tw gd : Int32} (hr : Re M R n) (hn : n ≤ 512) (h : Inv M) (hk : kBuild M ca tw gd = 0) : Inv (cRaise M (cI ca) tw gd) := by
  obtain ⟨h1, h2⟩ := ifk0 (by decide) hk
  obtain ⟨h3, h4⟩ := ifk0 (by decide) h2
  have hc : cI ca < 2 := vIn_cI h1 (by decide)
  have hop : opT M (cI ca) < 0 := by
    by_cases e : opT M (cI ca) < 0
    · exact e
    · rw [if_neg e] at h4; exact absurd h4 (by decide)
  obtain ⟨-, g, hg, rfl⟩ := vB_ok h3
  generalize cI ca = c at hc hop ⊢
  have hG := h.1.raise (tw := tw) (gd := nI g) hr hn hc
  obtain ⟨c0, c1, c2, c3, c4, c5, c6, c7⟩ := cR_at (M := M) (c := c) (tw := tw) (gd := nI g)
  have mr : ∀ r, r ≠ rCas c → r ≠ rWt c → r ≠ rCt c → (∀ g, g < 3 → r ≠ rVT c g ∧ r ≠ rLT c g) → r ≠ rRow c → cRaise M c tw (nI g) r = M r := fun r a b d e f => cR_ne a b d e f
  generalize cRaise M c tw (nI g) = M' at hG c0 c1 c2 c3 c4 c5 c6 c7 mr ⊢
  have mo : ∀ r, 60 ≤ r → M' r = M r := fun r hr => mr r (by simp only [rCas]; omega) (by simp only [rWt]; omega) (by simp only [rCt]; omega) (fun g hg => ⟨by simp only [rVT]; omega, by simp only [rLT]; omega⟩) (by simp only [rRow]; omega)
  have mc : ∀ c', c' < 2 → c' ≠ c → ∀ j, j < 23 → M' (30 * c' + j) = M (30 * c' + j) := fun c' hc' hne j hj => mr _ (by simp only [rCas]; omega) (by simp only [rWt]; omega) (by simp only [rCt]; omega) (fun g hg => ⟨by simp only [rVT]; omega, by simp only [rLT]; omega⟩) (by simp only [rRow]; omega)
  have hsc : scN M' = scN M := by unfold scN; rw [mo 60 (by decide)]
  have htn : tnN M' = tnN M := by unfold tnN; rw [mo 60 (by decide)]
  have hT : ∀ k, M' (rTr k) = M (rTr k) ∧ M' (rSt k) = M (rSt k) := fun k => ⟨mo _ (by simp only [rTr]; omega), mo _ (by simp only [rSt]; omega)⟩
  refine ⟨hG, ⟨fun c' hc' => ?_, fun k hk => ?_⟩, h.2.2.same htn (fun k hk => by rw [(hT k).1, (hT k).2]; exact ⟨rfl, fun _ _ => rfl⟩)⟩
  · by_cases e : c' = c
    · subst e
      have sz : szN M' c' = 0 := by unfold szN; rw [c7]; rfl
      refine ⟨fun k hk => by rw [sz] at hk; omega, 0, ?_, ?_⟩
      · rw [sz]; exact LB.zero hg c1
      · have hno := (opT_neg hr).mp hop
        refine ⟨fun k hk z => ?_, fun _ => rfl⟩
        rw [htn] at hk
        rw [(hT k).2] at z
        exact absurd z (hno k hk)
    · exact (h.2.1.1 c' hc').other hr hc' (mc c' hc' e) (fun h' hh => hh.same htn (fun k hk => by rw [(hT k).1, (hT k).2]; exact ⟨rfl, rfl, rfl⟩))
  · rw [hsc] at hk
    rw [mo (rSi k) (by simp only [rSi]; omega)]; exact h.2.1.2 k hk
theorem Inv.spread {M R : wM} {n c : Nat} (hr : Re M R n) (h : Inv M) (hc : c < 2) : Inv (spN M c (szN M c)) := by
  have e1 : ∀ r, r ≠ rHo c → r ≠ rCo c → spN M c (szN M c) r = M r := fun r a b => spN_ne a b
  have hat := spN_at (hr.hco hc) (Nat.le_refl (szN M c))
  generalize spN M c (szN M c) = M' at e1 hat ⊢
  have mo : ∀ r, 60 ≤ r → M' r = M r := fun r hr => e1 r (by simp only [rHo]; omega) (by simp only [rCo]; omega)
  have hsc : scN M' = scN M := by unfold scN; rw [mo 60 (by decide)]
  have htn : tnN M' = tnN M := by unfold tnN; rw [mo 60 (by decide)]
  have hT : ∀ k, M' (rTr k) = M (rTr k) ∧ M' (rSt k) = M (rSt k) := fun k => ⟨mo _ (by simp only [rTr]; omega), mo _ (by simp only [rSt]; omega)⟩
  have hh9 : ∀ c' h', HO M c' h' → HO M' c' h' := fun c' h' hh => hh.same htn (fun k hk => by rw [(hT k).1, (hT k).2]; exact ⟨rfl, rfl, rfl⟩)
  refine ⟨h.1.led (fun c' hc' j h1 h2 h3 => e1 _ (by simp only [rHo]; omega) (by simp only [rCo]; omega)) (by rw [mo 60 (by decide)]), ⟨fun c' hc' => ?_, fun k hk => ?_⟩, h.2.2.same htn (fun k hk => by rw [(hT k).1, (hT k).2]; exact ⟨rfl, fun _ _ => rfl⟩)⟩
  · by_cases e : c' = c
    · subst e
      refine (h.2.1.1 c' hc').same hr hc' (by rw [e1 _ (by simp only [rRow, rHo]; omega) (by simp only [rRow, rCo]; omega)]) (fun k _ => by rw [e1 _ (by simp only [rLe, rHo]; omega) (by simp only [rLe, rCo]; omega)]) (fun k _ => by rw [e1 _ (by simp only [rAm, rHo]; omega) (by simp only [rAm, rCo]; omega)]) (fun k _ => by rw [e1 _ (by simp only [rLo, rHo]; omega) (by simp only [rLo, rCo]; omega)]) (fun k _ => by rw [e1 _ (by simp only [rFh, rHo]; omega) (by simp only [rFh, rCo]; omega)]) (fun k hk z => ?_) (by rw [e1 _ (by simp only [rCas, rHo]; omega) (by simp only [rCas, rCo]; omega)]) (hh9 c')
      rw [(hat k hk).2, if_pos hk]
      unfold coV
      split
      · decide
      · exact z
    · exact (h.2.1.1 c' hc').other hr hc' (fun j hj => e1 _ (by simp only [rHo]; omega) (by simp only [rCo]; omega)) (hh9 c')
  · rw [hsc] at hk
    rw [mo (rSi k) (by simp only [rSi]; omega)]; exact h.2.1.2 k hk
theorem Inv.strike {M R : wM} {n c : Nat} (hr : Re M R n) (h : Inv M) (hc : c < 2) : Inv (rStrike M c (szN M c)) := by
  unfold rStrike
  have e1 : ∀ r, r ≠ rLe c → stN M c (rCnt M c (szN M c)) (szN M c - rCnt M c (szN M c)) r = M r := fun r a => stN_ne a
  have hat : ∀ k, stN M c (rCnt M c (szN M c)) (szN M c - rCnt M c (szN M c)) (rLe c) k = _ := fun k => stN_at (k := k)
  have c0 : rCnt M c (szN M c) ≤ szN M c := lead_le _ _
  generalize stN M c (rCnt M c (szN M c)) (szN M c - rCnt M c (szN M c)) = M' at e1 hat ⊢
  have mo : ∀ r, 60 ≤ r → M' r = M r := fun r hr => e1 r (by simp only [rLe]; omega)
  have hsc : scN M' = scN M := by unfold scN; rw [mo 60 (by decide)]
  have htn : tnN M' = tnN M := by unfold tnN; rw [mo 60 (by decide)]
  have hT : ∀ k, M' (rTr k) = M (rTr k) ∧ M' (rSt k) = M (rSt k) := fun k => ⟨mo _ (by simp only [rTr]; omega), mo _ (by simp only [rSt]; omega)⟩
  have hh9 : ∀ c' h', HO M c' h' → HO M' c' h' := fun c' h' hh => hh.same htn (fun k hk => by rw [(hT k).1, (hT k).2]; exact ⟨rfl, rfl, rfl⟩)
  refine ⟨h.1.led (fun c' hc' j h1 h2 h3 => e1 _ (by simp only [rLe]; omega)) (by rw [mo 60 (by decide)]), ⟨fun c' hc' => ?_, fun k hk => ?_⟩, h.2.2.same htn (fun k hk => by rw [(hT k).1, (hT k).2]; exact ⟨rfl, fun _ _ => rfl⟩)⟩
  · by_cases e : c' = c
    · subst e
      have sz : szN M' c' = szN M c' := by unfold szN; rw [e1 _ (by simp only [rRow, rLe]; omega)]
      have m18 : M' (rAm c') = M (rAm c') := e1 _ (by simp only [rAm, rLe]; omega)
      have m19 : M' (rLo c') = M (rLo c') := e1 _ (by simp only [rLo, rLe]; omega)
      have m21 : M' (rFh c') = M (rFh c') := e1 _ (by simp only [rFh, rLe]; omega)
      have m22 : M' (rCo c') = M (rCo c') := e1 _ (by simp only [rCo, rLe]; omega)
      have hL := h.2.1.1 c' hc'
      refine hL.grow (by rw [sz]; exact hr.sz60 hc') (by rw [sz]; exact Nat.le_refl _) (by rw [e1 _ (by simp only [rCas, rLe]; omega)]) (fun k hk => ?_) (fun k a b => ?_) (hh9 c')
      · have el : M' (rLe c') k = M (rLe c') k := by rw [hat k]; exact if_neg (by omega)
        have h9 := lead_all' (p := cnts M c') (n := szN M c') (j := k) hk
        refine ⟨⟨el, by rw [m18], fun ho => ⟨by rw [m19], ((hr.1.1 c' hc').2.2.2.2.1 k (by omega) ho).1⟩, fun _ _ => by rw [m21]⟩, ?_⟩
        unfold cnts at h9 ⊢
        rw [el, m22]; exact h9
      · rw [sz] at b
        obtain ⟨l1, l2⟩ := hL.1 k b
        rw [m18, m19, hat k]
        split
        · exact ⟨by decide, fun z => absurd z (by decide), l1⟩
        · refine ⟨?_, fun ho => ((hr.1.1 c' hc').2.2.2.2.1 k b ho).1, l1⟩
          cases ht : isTru (M (rLe c') k) with
          | false => rfl
          | true => have := l2 ht; omega
    · exact (h.2.1.1 c' hc').other hr hc' (fun j hj => e1 _ (by simp only [rLe]; omega)) (hh9 c')
  · rw [hsc] at hk
    rw [mo (rSi k) (by simp only [rSi]; omega)]; exact h.2.1.2 k hk
/-- an order or a raid is written -/
theorem Inv.ordw {M R : wM} {n c s m lo : Nat} {le tw : Int32} (hr : Re M R n) (h : Inv M) (hc : c < 2) (hs : szN M c = s) (h60 : s < 60) (hm : m ≤ 69939) (ht : isTru le = false) (hlo : lo < 4) : Inv (cWrite M c s le (nI m) (nI lo) tw) := by
  have hL := (h.2.1.1 c hc).ordw (tw := tw) hr hc hs h60 hm ht hlo
  have e1 : ∀ r, r ≠ rRow c → r ≠ rLe c → r ≠ rAm c → r ≠ rHo c → r ≠ rCo c → r ≠ rLo c → cWrite M c s le (nI m) (nI lo) tw r = M r := fun r h1 h2 h3 h4 h5 h6 => cWrite_ne h1 h2 h3 h4 h5 h6
  generalize cWrite M c s le (nI m) (nI lo) tw = M' at hL e1 ⊢
  have mo : ∀ r, 60 ≤ r → M' r = M r := fun r hr => e1 r (by simp only [rRow]; omega) (by simp only [rLe]; omega) (by simp only [rAm]; omega) (by simp only [rHo]; omega) (by simp only [rCo]; omega) (by simp only [rLo]; omega)
  have hsc : scN M' = scN M := by unfold scN; rw [mo 60 (by decide)]
  have htn : tnN M' = tnN M := by unfold tnN; rw [mo 60 (by decide)]
  have hT : ∀ k, M' (rTr k) = M (rTr k) ∧ M' (rSt k) = M (rSt k) := fun k => ⟨mo _ (by simp only [rTr]; omega), mo _ (by simp only [rSt]; omega)⟩
  refine ⟨h.1.led (fun c' hc' j h1 h2 h3 => e1 _ (by simp only [rRow]; omega) (by simp only [rLe]; omega) (by simp only [rAm]; omega) (by simp only [rHo]; omega) (by simp only [rCo]; omega) (by simp only [rLo]; omega)) (by rw [mo 60 (by decide)]), ⟨fun c' hc' => ?_, fun k hk => ?_⟩, h.2.2.same htn (fun k hk => by rw [(hT k).1, (hT k).2]; exact ⟨rfl, fun _ _ => rfl⟩)⟩
  · by_cases e : c' = c
    · subst e; exact hL
    · exact (h.2.1.1 c' hc').other hr hc' (fun j hj => e1 _ (by simp only [rRow]; omega) (by simp only [rLe]; omega) (by simp only [rAm]; omega) (by simp only [rHo]; omega) (by simp only [rCo]; omega) (by simp only [rLo]; omega)) (fun h' hh => hh.same htn (fun k hk => by rw [(hT k).1, (hT k).2]; exact ⟨rfl, rfl, rfl⟩))
  · rw [hsc] at hk
    rw [mo (rSi k) (by simp only [rSi]; omega)]; exact h.2.1.2 k hk
theorem Inv.order {M R : wM} {n : Nat} {lo ca ga am : Int32} {isIn : Bool} (hr : Re M R n) (h : Inv M) (hk : kOrd M lo ca ga isIn am = 0) : Inv (ordM M (cI ca) (cI lo) isIn am) := by
  obtain ⟨hc, hg, hlo, ha, -, h60⟩ := kOrd_ok hk
  simp only [vAm, Bool.and_eq_true, decide_eq_true_eq] at ha
  obtain ⟨m, hm, rfl⟩ := vIn_ok (x := am) (n := 1000) (Int32.le_trans (by decide) ha.1) (Int32.lt_of_le_of_lt ha.2 (by decide)) (by decide)
  have sz : szN (telM M (cI ca) (szN M (cI ca))) (cI ca) = szN M (cI ca) := by unfold szN; rw [telM_ne (by simp only [rRow, rLed]; omega) (by simp only [rRow, rPu]; omega)]
  exact (h.tel hr hc).ordw (hr.onT hc) hc sz h60 (by omega) (by cases isIn <;> decide) hlo
theorem Inv.orX {M R : wM} {n : Nat} {lo ca ga am : Int32} (hr : Re M R n) (h : Inv M) : Inv (ordX M lo ca ga am) := by
  unfold ordX
  split
  · rename_i h9
    simp only [vG3, vC, Bool.and_eq_true] at h9
    exact h.tel hr (vIn_cI h9.1.1 (by decide))
  · exact h
theorem Inv.raid {M R : wM} {n : Nat} {si ga : Int32} (hr : Re M R n) (h : Inv M) (hk : kRaid M si ga = 0) : Inv (raiM M (cI si) (cI ga)) := by
  obtain ⟨hk9, hg, h60⟩ := kRai_ok hr hk
  obtain ⟨q1, q2, q3, q4⟩ := hr.sit hk9
  obtain ⟨s, hs, es⟩ := h.2.1.2 _ hk9
  unfold raiM
  split
  · have h9 : Inv (raiW M (cI si)) := by
      unfold raiW
      rw [es, nI_half hs]
      exact h.ordw hr q3 rfl h60 (by omega) (by decide) q4
    have hr9 : Re (raiW M (cI si)) (mWr R (plN M (cI si)) (szN M (plN M (cI si))) (nI 114) (M (rSi (cI si)) 5 / nI 2) (nI (loN M (cI si))) (nI 0) (nearI M (plN M (cI si)) (loN M (cI si)))) n :=
      hr.cWr q3 rfl h60 (hr.near q3 q4).1 (nI_lo q4) (by decide) (by decide)
    exact h9.led hr9 (fun c hc j hj => wr_ne (by simp only [rWin]; omega)) (fun r h1 h2 h3 => wr_ne h3)
  · exact h
