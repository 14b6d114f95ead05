/-! truce -/
theorem op_truce {M R : wM} {n : Nat} (h : Re M R n) (fr wo : Int32) : kTruR R fr wo = kTruce M fr wo ∧ (kTruce M fr wo = 0 → nI (tnN M) = nI (trN R) ∧ Re (truM M fr wo) (truRR R fr wo) n) := by
  have hK : kTruR R fr wo = kTruce M fr wo := by
    unfold kTruR kTruce; rw [← h.tn]; rfl
  refine ⟨hK, fun hk => ⟨by rw [h.tn], ?_⟩⟩
  have hR : truRR R fr wo = wr (wr (wr (wr (wr (wr (T0 R) 127 (trN R) (nI (cI fr))) 128 (trN R) wo) 129 (trN R) (nI 45)) 130 (2 * trN R) (nI 45)) 130 (2 * trN R + 1) (nI 45)) rMod 17 (nI (trN R + 1)) := by
    unfold truRR; rw [if_pos (hK.trans hk)]
  obtain ⟨v1, hk2⟩ := ifk0 (by decide) hk
  obtain ⟨v2, hk3⟩ := ifk0 (by decide) hk2
  have h8 : tnN M < 8 := by
    by_cases e : tnN M < 8
    · exact e
    · rw [if_neg e] at hk3; exact absurd hk3 (by decide)
  obtain ⟨c, hc, rfl⟩ := vIn_ok' v1 (by decide)
  have hcc : cI (nI c) = c := nI_clamp (by omega)
  simp only [vAm, Bool.and_eq_true, decide_eq_true_eq] at v2
  obtain ⟨a, ha, rfl⟩ : ∃ a, a ≤ 999 ∧ wo = nI a := by
    obtain ⟨t, ht, e⟩ := vIn_ok (x := wo) (n := 1000) (Int32.le_trans (by decide) v2.1) (Int32.lt_of_le_of_lt v2.2 (by decide)) (by decide)
    exact ⟨t, by omega, e⟩
  have ha1 : 1 ≤ a := by
    rcases Nat.eq_zero_or_pos a with e | e
    · subst e; exact absurd v2.1 (by decide)
    · exact e
  rw [hR, hcc, ← h.tn]
  have htn8 := h.tn8
  generalize hk0 : tnN M = k at h8 htn8 ⊢
  have mt : ∀ r, r ≠ rTr k → r ≠ rSt k → r ≠ rMain → truM M (nI c) (nI a) r = M r := fun r h1 h2 h3 => by
    unfold truM; rw [hk0, wr_ne h3]; exact bgN_ne h1 h2
  have mT : ∀ j, truM M (nI c) (nI a) (rTr k) j = if j = 2 then nI 45 else if j = 1 then nI a else if j = 0 then nI c else M (rTr k) j := fun j => by
    unfold truM
    rw [hk0, wr_ne (by simp only [rTr, rMain]; omega)]
    simp only [bgN, bg3]
    rw [wr_ne (by simp only [rTr, rSt]; omega), wr_ne (by simp only [rTr, rSt]; omega)]
    by_cases e2 : j = 2
    · subst e2; rw [wr_same, if_pos rfl]
    · rw [wr_othj e2, if_neg e2]
      by_cases e1 : j = 1
      · subst e1; rw [wr_same, if_pos rfl]
      · rw [wr_othj e1, if_neg e1]
        by_cases e0 : j = 0
        · subst e0; rw [wr_same, if_pos rfl]
        · rw [wr_othj e0, if_neg e0]
  have mS : ∀ c', c' < 2 → truM M (nI c) (nI a) (rSt k) c' = nI 45 := fun c' hc' => by
    unfold truM
    rw [hk0, wr_ne (by simp only [rSt, rMain]; omega)]
    simp only [bgN]
    rcases (show c' = 1 ∨ c' = 0 by omega) with rfl | rfl
    · rw [wr_same]
    · rw [wr_othj (by decide), wr_same]
  have m0 : ∀ j, j ≠ 6 → truM M (nI c) (nI a) rMain j = M rMain j := fun j hj => by
    unfold truM; rw [hk0, wr_othj hj, bgN_ne (by simp only [rTr, rMain]; omega) (by simp only [rSt, rMain]; omega)]
  have m6 : truM M (nI c) (nI a) rMain 6 = nI (k + 1) := by unfold truM; rw [hk0, wr_same]
  generalize hR9 : wr (wr (wr (wr (wr (wr (T0 R) 127 k (nI c)) 128 k (nI a)) 129 k (nI 45)) 130 (2 * k) (nI 45)) 130 (2 * k + 1) (nI 45)) rMod 17 (nI (k + 1)) = R'
  have rn : ∀ r, r ≠ 127 → r ≠ 128 → r ≠ 129 → r ≠ 130 → r ≠ 100 → R' r = R r := fun r h1 h2 h3 h4 h5 => by
    rw [← hR9, wr_ne h5, wr_ne h4, wr_ne h4, wr_ne h3, wr_ne h2, wr_ne h1]; exact wr_ne h5
  have r127 : ∀ j, R' 127 j = if j = k then nI c else R 127 j := fun j => by
    rw [← hR9, wr_othr (by decide), wr_othr (by decide), wr_othr (by decide), wr_othr (by decide), wr_othr (by decide)]
    by_cases e : j = k
    · subst e; rw [wr_same, if_pos rfl]
    · rw [wr_othj e, if_neg e]; exact wr_othr (by decide)
  have r128 : ∀ j, R' 128 j = if j = k then nI a else R 128 j := fun j => by
    rw [← hR9, wr_othr (by decide), wr_othr (by decide), wr_othr (by decide), wr_othr (by decide)]
    by_cases e : j = k
    · subst e; rw [wr_same, if_pos rfl]
    · rw [wr_othj e, if_neg e, wr_othr (by decide)]; exact wr_othr (by decide)
  have r129 : ∀ j, R' 129 j = if j = k then nI 45 else R 129 j := fun j => by
    rw [← hR9, wr_othr (by decide), wr_othr (by decide), wr_othr (by decide)]
    by_cases e : j = k
    · subst e; rw [wr_same, if_pos rfl]
    · rw [wr_othj e, if_neg e, wr_othr (by decide), wr_othr (by decide)]; exact wr_othr (by decide)
  have r130 : ∀ j c', c' < 2 → R' 130 (2 * j + c') = if j = k then nI 45 else R 130 (2 * j + c') := fun j c' hc' => by
    rw [← hR9, wr_othr (by decide)]
    by_cases e : j = k
    · subst e
      rw [if_pos rfl]
      rcases (show c' = 1 ∨ c' = 0 by omega) with rfl | rfl
      · rw [wr_same]
      · rw [wr_othj (by omega)]; exact wr_same _ _ _ _
    · rw [wr_othj (by omega), wr_othj (by omega), if_neg e, wr_othr (by decide), wr_othr (by decide), wr_othr (by decide)]; exact wr_othr (by decide)
  have rM : ∀ j, j ≠ 17 → j ≠ 19 → R' rMod j = R rMod j := fun j h1 h2 => by
    rw [← hR9, wr_othj h1, wr_othr (by decide), wr_othr (by decide), wr_othr (by decide), wr_othr (by decide), wr_othr (by decide)]; exact wr_othj h2
  have r17 : R' rMod 17 = nI (k + 1) := by rw [← hR9, wr_same]
  have old : ∀ j, j < k + 1 → j ≠ k → j < tnN M := fun j h1 h2 => by omega
  have mo : ∀ j, j ≠ k → truM M (nI c) (nI a) (rTr j) = M (rTr j) ∧ truM M (nI c) (nI a) (rSt j) = M (rSt j) := fun j hj => by
    by_cases e : rTr j = 60 ∨ rSt j = 60
    · simp only [rTr, rSt] at e; omega
    · exact ⟨mt _ (by simp only [rTr]; omega) (by simp only [rTr, rSt]; omega) (fun z => e (Or.inl z)), mt _ (by simp only [rTr, rSt]; omega) (by simp only [rSt]; omega) (fun z => e (Or.inr z))⟩
  refine h.tru (tn := k + 1) (fun c' hc' j hj => mt _ (by simp only [rTr]; omega) (by simp only [rSt]; omega) (by simp only [rMain]; omega)) (fun j hj => mt _ (by simp only [rSi, rTr]; omega) (by simp only [rSi, rSt]; omega) (by simp only [rSi, rMain]; omega)) (mt _ (by simp only [rWin, rTr]; omega) (by simp only [rWin, rSt]; omega) (by decide)) (m0 5 (by decide)) (m0 7 (by decide)) m6 r17 (by omega) (by omega) (fun r h1 h2 => rn r (by omega) (by omega) (by omega) (by omega) (by omega)) (rn 131 (by decide) (by decide) (by decide) (by decide) (by decide)) (fun j hj => by rw [r127, if_neg (by have := h.tn; omega)]) (rM 16 (by decide) (by decide)) (rM 18 (by decide) (by decide)) (fun j hj => ?_) (fun j hj => ?_) (fun j hj => ?_) (fun c' hc' j j' h1 h2 e1 e2 => ?_)
  · unfold IVT
    by_cases e : j = k
    · subst e
      refine ⟨by rw [mT, if_pos rfl]; decide, fun c' hc' => by rw [mS c' hc']; decide⟩
    · rw [(mo j e).1, (mo j e).2]; exact h.1.2.2.2.2 j (old j hj e)
  · unfold RVT
    by_cases e : j = k
    · subst e
      refine ⟨by rw [r129, if_pos rfl]; decide, fun c' hc' => by rw [r130 _ _ hc', if_pos rfl]; decide⟩
    · have hv := h.2.1.2.2.2.2 j (by have := h.tn; have := old j hj e; omega)
      refine ⟨by rw [r129, if_neg e]; exact hv.1, fun c' hc' => by rw [r130 _ _ hc', if_neg e]; exact hv.2 c' hc'⟩
  · unfold ReP
    by_cases e : j = k
    · subst e
      exact ⟨by rw [mT, r127]; simp, by rw [mT, r128]; simp, by rw [mT, r129]; simp, fun c' hc' => by rw [mS c' hc', r130 _ _ hc', if_pos rfl], ⟨c, hc, by rw [r127, if_pos rfl]⟩, ⟨a, ha1, ha, by rw [r128, if_pos rfl]⟩⟩
    · obtain ⟨o1, o2, o3, o4, o5, o6⟩ := h.tr (old j hj e)
      rw [(mo j e).1, (mo j e).2, r127, r128, r129, if_neg e, if_neg e, if_neg e]
      exact ⟨o1, o2, o3, fun c' hc' => by rw [r130 _ _ hc', if_neg e]; exact o4 c' hc', o5, o6⟩
  · by_cases e : j = k
    · subst e; rw [mS c' hc'] at e1; exact absurd e1 (by decide)
    · by_cases e' : j' = k
      · subst e'; rw [mS c' hc'] at e2; exact absurd e2 (by decide)
      · rw [(mo j e).2] at e1
        rw [(mo j' e').2] at e2
        exact h.2.2.2.2.2.2.2.2.2.2.2 c' hc' j j' (old j h1 e) (old j' h2 e') e1 e2
