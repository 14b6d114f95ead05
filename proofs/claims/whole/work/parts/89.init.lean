/-! WHAT HOLDS TO BEGIN WITH -/
theorem iv_init : IV mI := by
  unfold IV IVC IVS IVT okL okE
  decide +kernel
theorem si_init : siN R7 = 0 := by decide +kernel
theorem tr_init : trN R7 = 0 := by decide +kernel
theorem wr_init : ∀ c, c < 2 → wrN R7 c = 0 := by decide +kernel
theorem sz_init : ∀ c, c < 2 → szN mI c = 0 := by decide +kernel
theorem rv_init : RV R7 := by
  have a1 : ∀ c, c < 2 → R7 101 c = nI (mnN R7 c) ∧ mnN R7 c ≤ 7 ∧ R7 103 c = nI (wrN R7 c) := by decide +kernel
  have a2 : ∀ c, c < 2 → ∀ t, t < 7 → (R7 104 (c * 7 + t) = 0 ∨ R7 104 (c * 7 + t) = 1) := by decide +kernel
  have a3 : ∀ c, c < 2 → ∀ t, t < 7 → ∀ lo, lo < 4 → R7 107 ((c * 7 + t) * 4 + lo) = 0 := by decide +kernel
  refine ⟨fun c hc => ⟨(a1 c hc).1, (a1 c hc).2.1, (a1 c hc).2.2, by rw [wr_init c hc]; decide, by rw [wr_init c hc]; exact fun j hj => absurd hj (Nat.not_lt_zero _), by rw [wr_init c hc]; exact fun j hj => absurd hj (Nat.not_lt_zero _), fun t ht => ⟨?_, fun lo hlo => ?_⟩⟩, by decide +kernel, by decide +kernel, by rw [si_init]; exact fun j hj => absurd hj (Nat.not_lt_zero _), by rw [tr_init]; exact fun j hj => absurd hj (Nat.not_lt_zero _)⟩
  · rcases a2 c hc t ht with e | e <;> rw [e] <;> rfl
  · rw [a3 c hc t ht lo hlo]; rfl
theorem rec_init : ∀ c, c < 2 → ReC mI R7 c := by
  intro c hc
  unfold ReC
  refine ⟨?_, ?_, ⟨100, by decide, ?_⟩, ?_, ?_, ?_, ?_, ?_, ?_, ?_⟩
  · revert c; decide +kernel
  · revert c; decide +kernel
  · revert c; decide +kernel
  · revert c; decide +kernel
  · revert c; decide +kernel
  · have : mI (rCas c) 3 = nI 7 := by revert c; decide +kernel
    rw [this]
    exact ⟨7, by decide, rfl⟩
  · intro lo hlo
    have : ∀ c, c < 2 → ∀ lo, lo < 4 → mI (rCt c) lo = nI 0 := by decide +kernel
    rw [this c hc lo hlo]
    exact Mk.zero.1
  · intro t ht
    have b1 : ∀ c, c < 2 → ∀ t, t < 7 → t < tcN mI c → hasB (mI (rCas c) 3) t = decide (¬ R7 104 (c * 7 + t) = 0) := by decide +kernel
    have b2 : ∀ c, c < 2 → ∀ t, t < 7 → tcN mI c ≤ t → hasB (mI (rCas c) 3) t = false := by decide +kernel
    have b3 : ∀ c, c < 2 → ∀ t, t < 7 → ∀ lo, lo < 4 → hasB (mI (rCt c) lo) t = decide (¬ R7 107 ((c * 7 + t) * 4 + lo) = 0) := by decide +kernel
    have b4 : ∀ c, c < 2 → ∀ t, t < 7 → ∀ g, g < 3 → mI (rVL c g) t = R7 108 ((c * 7 + t) * 3 + g) ∧ mI (rVT c g) t = R7 109 ((c * 7 + t) * 3 + g) := by decide +kernel
    have b5 : ∀ c, c < 2 → ∀ t, t < 7 → R7 105 (c * 7 + t) = 0 ∧ mI (rWt c) t = 0 := by decide +kernel
    exact ⟨b1 c hc t ht, b2 c hc t ht, b3 c hc t ht, b4 c hc t ht, fun _ _ => Or.inl (b5 c hc t ht)⟩
  · revert c; decide +kernel
  · intro k hk
    rw [sz_init c hc] at hk
    exact absurd hk (Nat.not_lt_zero _)
theorem sc_init : scN mI = 0 := by decide +kernel
theorem tn_init : tnN mI = 0 := by decide +kernel
theorem re_init : Re mI R7 0 := by
  have hb : ∀ c, c < 2 → mI (rCas c) 2 = nI 1 := by decide +kernel
  have hw : ∀ lo, lo < 4 → mI rWin lo = R7 131 lo := by decide +kernel
  refine ⟨iv_init, rv_init, rec_init, fun c hc => ⟨1, by decide, by decide, hb c hc⟩, by rw [sc_init, si_init], by rw [tn_init, tr_init], by rw [sc_init]; exact fun k hk => absurd hk (Nat.not_lt_zero _), by rw [tn_init]; exact fun k hk => absurd hk (Nat.not_lt_zero _), ⟨0, by decide, by decide +kernel⟩, by decide +kernel, hw, ?_⟩
  rw [tn_init]
  exact fun c hc k k' hk => absurd hk (Nat.not_lt_zero _)
theorem inv_init : Inv mI := by
  have g1 : ∀ c, c < 2 → ∀ g, g < 3 → ∀ A, A < 4 → gOpen mI c g A (nowM mI) = false := by decide +kernel
  have g2 : ∀ c, c < 2 → ∀ g, g < 3 → ∀ A, A < 4 → mI (rLT c g) A ≤ nowM mI + nI 20 := by decide +kernel
  refine ⟨⟨fun c hc g hg j j' hj hj' z => ?_, fun c g A hc hg hA => ⟨g2 c hc g hg A hA, fun z => ?_⟩⟩, ⟨fun c hc => ⟨?_, 0, ?_, ?_⟩, ?_⟩, ?_⟩
  · rw [g1 c hc g hg j hj] at z; cases z
  · rw [g1 c hc g hg A hA] at z; cases z
  · rw [sz_init c hc]; exact fun k hk => absurd hk (Nat.not_lt_zero _)
  · have e : ∀ c, c < 2 → mI (rCas c) 1 = nI 100 := by decide +kernel
    have hr : rCnt mI c (szN mI c) = 0 := by revert c; decide +kernel
    rw [hr]
    exact LB.zero (g := 100) (by decide) (e c hc)
  · refine ⟨?_, fun _ => rfl⟩
    rw [tn_init]; exact fun k hk => absurd hk (Nat.not_lt_zero _)
  · rw [sc_init]; exact fun k hk => absurd hk (Nat.not_lt_zero _)
  · unfold SnTs; rw [tn_init]; exact fun k hk => absurd hk (Nat.not_lt_zero _)
