/-! gates: giveUp, build -/
theorem GI.give {M R : wM} {n c g B : Nat} {nr : Int32} (hr : Re M R n) (hn : n ≤ 512) (h : GI M) (hc : c < 2) (hg : g < 3) (hB : B < 4) (hop : gOpen M c g B (nowM M) = true) : GI (gEnd M c g B nr (nowM M)) := by
  obtain ⟨x, hx, hnx⟩ := hr.nowN hn
  have e7 : nowM (gEnd M c g B nr (nowM M)) = nowM M := by
    show gEnd M c g B nr _ rMain 7 = _
    unfold gEnd; rw [wr_ne (by simp only [rMain, rLT]; omega), enN_ne (by simp only [rMain, rVT]; omega)]
  have e1 : ∀ r, r ≠ rVT c g → r ≠ rLT c g → gEnd M c g B nr (nowM M) r = M r := fun r b d => by unfold gEnd; rw [wr_ne d, enN_ne b]
  have eL : ∀ A, gEnd M c g B nr (nowM M) (rLT c g) A = if A = B then nI 0 else M (rLT c g) A := fun A => by
    unfold gEnd
    by_cases e : A = B
    · subst e; rw [wr_same, if_pos rfl]
    · rw [wr_othj e, if_neg e, enN_ne (by simp only [rLT, rVT]; omega)]
  generalize gEnd M c g B nr (nowM M) = M' at e7 e1 eL ⊢
  have hoo : ∀ c' g', c' < 2 → g' < 3 → ¬ (c' = c ∧ g' = g) → M' (rLT c' g') = M (rLT c' g') ∧ M' (rVL c' g') = M (rVL c' g') ∧ M' (rVT c' g') = M (rVT c' g') := fun c' g' hc' hg' hne =>
    ⟨e1 _ (by simp only [rLT, rVT]; omega) (by simp only [rLT]; omega), e1 _ (by simp only [rVL, rVT]; omega) (by simp only [rVL, rLT]; omega), e1 _ (by simp only [rVT]; omega) (by simp only [rVT, rLT]; omega)⟩
  have hcas : ∀ c', c' < 2 → M' (rCas c') = M (rCas c') ∧ M' (rWt c') = M (rWt c') := fun c' hc' =>
    ⟨e1 _ (by simp only [rCas, rVT]; omega) (by simp only [rCas, rLT]; omega), e1 _ (by simp only [rWt, rVT]; omega) (by simp only [rWt, rLT]; omega)⟩
  have hO : ∀ c' g' A, c' < 2 → g' < 3 → A < 4 → gOpen M' c' g' A (nowM M') = true → gOpen M c' g' A (nowM M) = true ∧ ¬ (c' = c ∧ g' = g) := fun c' g' A hc' hg' hA z => by
    by_cases e : c' = c ∧ g' = g
    · exfalso
      obtain ⟨rfl, rfl⟩ := e
      unfold gOpen at z
      rw [eL, e7] at z
      by_cases e9 : A = B
      · rw [if_pos e9, hnx, decide_eq_true_eq] at z
        exact absurd z (Int32.not_lt.mpr (nI_le (by omega) (by omega)))
      · rw [if_neg e9] at z
        exact e9 (h.1 c' hc' g' hg' A B hA hB z hop)
    · refine ⟨?_, e⟩
      unfold gOpen at z ⊢
      rw [(hoo c' g' hc' hg' e).1, e7] at z; exact z
  refine ⟨h.1.sub (fun c' g' A hc' hg' hA z => (hO c' g' A hc' hg' hA z).1), fun c' g' A hc' hg' hA => ?_⟩
  obtain ⟨h1, h2⟩ := h.2 c' g' A hc' hg' hA
  refine ⟨?_, fun z => ?_⟩
  · rw [e7]
    by_cases e : c' = c ∧ g' = g
    · obtain ⟨rfl, rfl⟩ := e
      rw [eL]
      split
      · rw [hnx, nI_addn]; exact nI_le (by omega) (by omega)
      · exact h1
    · rw [(hoo c' g' hc' hg' e).1]; exact h1
  · obtain ⟨z1, e⟩ := hO c' g' A hc' hg' hA z
    obtain ⟨l1, l2, l3⟩ := hoo c' g' hc' hg' e
    obtain ⟨Q, q1, q2, q3⟩ := h2 z1
    have tc : tcN M' c' = tcN M c' := by unfold tcN; rw [(hcas c' hc').1]
    refine ⟨Q, by rw [tc]; exact q1, by rw [tc]; exact q2, fun u hu hQ => ?_⟩
    rw [(hcas c' hc').1, (hcas c' hc').2, l1, l2, l3]; exact q3 u hu hQ
theorem GI.raise {M R : wM} {n c : Nat} {tw gd : Int32} (hr : Re M R n) (hn : n ≤ 512) (h : GI M) (hc : c < 2) : GI (cRaise M c tw gd) := by
  obtain ⟨x, hx, hnx⟩ := hr.nowN hn
  obtain ⟨-, -, -, -, -, -, c6, -⟩ := cR_at (M := M) (c := c) (tw := tw) (gd := gd)
  have mr : ∀ r, r ≠ rCas c → r ≠ rWt c → r ≠ rCt c → (∀ g, g < 3 → r ≠ rVT c g ∧ r ≠ rLT c g) → r ≠ rRow c → cRaise M c tw gd r = M r := fun r a b d e f => cR_ne a b d e f
  generalize cRaise M c tw gd = M' at c6 mr ⊢
  have mo : ∀ r, 60 ≤ r → M' r = M r := fun r hr => mr r (by simp only [rCas]; omega) (by simp only [rWt]; omega) (by simp only [rCt]; omega) (fun g hg => ⟨by simp only [rVT]; omega, by simp only [rLT]; omega⟩) (by simp only [rRow]; omega)
  have mc : ∀ c', c' < 2 → c' ≠ c → ∀ j, j < 23 → M' (30 * c' + j) = M (30 * c' + j) := fun c' hc' hne j hj => mr _ (by simp only [rCas]; omega) (by simp only [rWt]; omega) (by simp only [rCt]; omega) (fun g hg => ⟨by simp only [rVT]; omega, by simp only [rLT]; omega⟩) (by simp only [rRow]; omega)
  have e7 : nowM M' = nowM M := by show M' rMain 7 = _; rw [mo _ (by decide)]
  have hL : ∀ c' g, c' < 2 → g < 3 → c' ≠ c → M' (rLT c' g) = M (rLT c' g) := fun c' g hc' hg hne => mc c' hc' hne (7 + 4 * g) (by omega)
  have hO : ∀ c' g' A, c' < 2 → g' < 3 → A < 4 → gOpen M' c' g' A (nowM M') = true → gOpen M c' g' A (nowM M) = true ∧ c' ≠ c := fun c' g' A hc' hg' hA z => by
    by_cases e : c' = c
    · exfalso
      subst e
      unfold gOpen at z
      rw [(c6 g' hg').2 A hA, e7, hnx, decide_eq_true_eq] at z
      exact absurd z (Int32.not_lt.mpr (nI_le (by omega) (by omega)))
    · refine ⟨?_, e⟩
      unfold gOpen at z ⊢
      rw [hL c' g' hc' hg' e, e7] at z; exact z
  refine ⟨h.1.sub (fun c' g' A hc' hg' hA z => (hO c' g' A hc' hg' hA z).1), fun c' g' A hc' hg' hA => ?_⟩
  obtain ⟨h1, h2⟩ := h.2 c' g' A hc' hg' hA
  refine ⟨?_, fun z => ?_⟩
  · rw [e7]
    by_cases e : c' = c
    · subst e
      rw [(c6 g' hg').2 A hA, hnx, nI_addn]; exact nI_le (by omega) (by omega)
    · rw [hL c' g' hc' hg' e]; exact h1
  · obtain ⟨z1, e⟩ := hO c' g' A hc' hg' hA z
    obtain ⟨Q, q1, q2, q3⟩ := h2 z1
    have e0 : M' (rCas c') = M (rCas c') := mc c' hc' e 0 (by decide)
    have tc : tcN M' c' = tcN M c' := by unfold tcN; rw [e0]
    refine ⟨Q, by rw [tc]; exact q1, by rw [tc]; exact q2, fun u hu hQ => ?_⟩
    rw [e0, hL c' g' hc' hg' e, show M' (rWt c') = M (rWt c') from mc c' hc' e 1 (by decide), show M' (rVL c' g') = M (rVL c' g') from mc c' hc' e (5 + 4 * g') (by omega), show M' (rVT c' g') = M (rVT c' g') from mc c' hc' e (6 + 4 * g') (by omega)]
    exact q3 u hu hQ
theorem cnt4 {p : Nat → Bool} (k : ∀ j j', j < 4 → j' < 4 → p j = true → p j' = true → j = j') : cntB p 4 ≤ 1 := by
  have k01 := k 0 1 (by decide) (by decide)
  have k02 := k 0 2 (by decide) (by decide)
  have k03 := k 0 3 (by decide) (by decide)
  have k12 := k 1 2 (by decide) (by decide)
  have k13 := k 1 3 (by decide) (by decide)
  have k23 := k 2 3 (by decide) (by decide)
  have e : ∀ b : Bool, (if b = true then 1 else 0) = b.toNat := by decide
  simp only [cntB, e]
  cases h0 : p 0 <;> cases h1 : p 1 <;> cases h2 : p 2 <;> cases h3 : p 3 <;> simp_all
theorem GI.sgo {M : wM} (h : GI M) {c : Nat} (hc : c < 2) : sndG M c (nowM M) = true := by
  unfold sndG
  have : lead (fun j => decide (cntB (fun lo => gOpen M c j lo (nowM M)) 4 ≤ 1)) 3 = 3 := by
    refine lead_all (fun g hg => ?_)
    rw [decide_eq_true_eq]
    exact cnt4 (fun j j' hj hj' a b => h.1 c hc g hg j j' hj hj' a b)
  rw [this]; rfl
