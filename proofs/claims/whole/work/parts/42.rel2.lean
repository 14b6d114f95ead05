/-! what doesn't touch the relation: the ledgers, the reference's sums, its place for what is thrown -/
theorem ReC.cong {M M' R R' : wM} {c : Nat} (h : ReC M R c) (e : ∀ j, j < 23 → M' (30 * c + j) = M (30 * c + j)) (f : ∀ r, 101 ≤ r → r ≤ 131 → R' r = R r) (ft : trN R' = trN R) : ReC M' R' c := by
  have e0 : M' (rCas c) = M (rCas c) := e 0 (by decide)
  have e1 : M' (rWt c) = M (rWt c) := e 1 (by decide)
  have e2 : M' (rCt c) = M (rCt c) := e 2 (by decide)
  have e16 : M' (rRow c) = M (rRow c) := e 16 (by decide)
  have e17 : M' (rLe c) = M (rLe c) := e 17 (by decide)
  have e18 : M' (rAm c) = M (rAm c) := e 18 (by decide)
  have e19 : M' (rLo c) = M (rLo c) := e 19 (by decide)
  have e20 : M' (rHo c) = M (rHo c) := e 20 (by decide)
  have e21 : M' (rFh c) = M (rFh c) := e 21 (by decide)
  have e22 : M' (rCo c) = M (rCo c) := e 22 (by decide)
  have tc : tcN M' c = tcN M c := by unfold tcN; rw [e0]
  have sz : szN M' c = szN M c := by unfold szN; rw [e16]
  have eq9 : ∀ x, qrm M' c x = qrm M c x := fun x => by unfold qrm; rw [e0]
  obtain ⟨h1, h2, h3, h4, h5, h6, h7, h8, h9, h10⟩ := h
  refine ⟨by rw [tc, f 101 (by decide) (by decide)]; exact h1, by rw [tc]; exact h2, by rw [e0]; exact h3, by rw [e0, f 102 (by decide) (by decide)]; exact h4, by rw [sz, f 103 (by decide) (by decide)]; exact h5, by rw [e0]; exact h6, fun lo hlo => by rw [e2]; exact h7 lo hlo, fun t ht => ?_, fun g hg lo hlo => ?_, fun k hk => ?_⟩
  · obtain ⟨a1, a2, a3, a4, a5⟩ := h8 t ht
    refine ⟨?_, ?_, ?_, ?_, ?_⟩
    · rw [tc, e0, f 104 (by decide) (by decide)]; exact a1
    · rw [tc, e0]; exact a2
    · intro lo hlo; rw [e2, f 107 (by decide) (by decide)]; exact a3 lo hlo
    · intro g hg
      rw [show M' (rVL c g) = M (rVL c g) from e (5 + 4 * g) (by omega), show M' (rVT c g) = M (rVT c g) from e (6 + 4 * g) (by omega), f 108 (by decide) (by decide), f 109 (by decide) (by decide)]
      exact a4 g hg
    · rw [tc, e1, f 104 (by decide) (by decide), f 105 (by decide) (by decide), f 106 (by decide) (by decide)]; exact a5
  · rw [show M' (rLT c g) = M (rLT c g) from e (7 + 4 * g) (by omega), f 110 (by decide) (by decide)]; exact h9 g hg lo hlo
  · rw [sz] at hk
    obtain ⟨b1, b2, b3, b4, b5, b6, b7, b8⟩ := h10 k hk
    refine ⟨?_, ?_, ?_, ?_, ?_, ?_, ?_, ?_⟩
    · rw [e17, f 111 (by decide) (by decide)]; exact b1
    · rw [e18, f 112 (by decide) (by decide)]; exact b2
    · rw [e20, f 115 (by decide) (by decide)]; exact b3
    · rw [e22, f 116 (by decide) (by decide)]; exact b4
    · rw [e20]; exact b5
    · rw [e17, e19, f 113 (by decide) (by decide)]; exact b6
    · unfold wFr
      rw [e17, e21, ft, f 114 (by decide) (by decide), f 127 (by decide) (by decide)]
      exact b7
    · rw [eq9, e20, e22]; exact b8
theorem ReS.cong {M M' R R' : wM} {n k : Nat} (h : ReS M R n k) (hp : plN M k < 2) (e : M' (rSi k) = M (rSi k)) (e0 : ∀ c, c < 2 → M' (rCas c) = M (rCas c)) (f : ∀ r, 101 ≤ r → r ≤ 131 → R' r = R r) : ReS M' R' n k := by
  have pl : plN M' k = plN M k := by unfold plN; rw [e]
  obtain ⟨h1, h2, h3, h4, h5, h6, h7⟩ := h
  refine ⟨by rw [e, f 122 (by decide) (by decide)]; exact h1, by rw [e, f 121 (by decide) (by decide)]; exact h2, by rw [e, f 123 (by decide) (by decide)]; exact h3, by rw [e, f 124 (by decide) (by decide)]; exact h4, by rw [e, f 125 (by decide) (by decide)]; exact h5, ?_, ?_⟩
  · rw [pl, e, e0 _ hp, f 126 (by decide) (by decide)]; exact h6
  · rw [pl, e, e0 _ hp]; exact h7
theorem ReP.cong {M M' R R' : wM} {k : Nat} (h : ReP M R k) (e : M' (rTr k) = M (rTr k)) (e1 : M' (rSt k) = M (rSt k)) (f : ∀ r, 101 ≤ r → r ≤ 131 → R' r = R r) : ReP M' R' k := by
  obtain ⟨h1, h2, h3, h4, h5, h6⟩ := h
  refine ⟨by rw [e, f 127 (by decide) (by decide)]; exact h1, by rw [e, f 128 (by decide) (by decide)]; exact h2, by rw [e, f 129 (by decide) (by decide)]; exact h3, fun c hc => by rw [e1, f 130 (by decide) (by decide)]; exact h4 c hc, by rw [f 127 (by decide) (by decide)]; exact h5, by rw [f 128 (by decide) (by decide)]; exact h6⟩
theorem IV.cong {M M' : wM} (h : IV M) (e : ∀ c, c < 2 → ∀ j, j < 23 → M' (30 * c + j) = M (30 * c + j)) (e2 : ∀ r, 60 ≤ r → r < 100 → M' r = M r) : IV M' := by
  obtain ⟨h1, h2, h3, h4, h5⟩ := h
  have hm : M' rMain = M rMain := e2 60 (by decide) (by decide)
  have hsc : scN M' = scN M := by unfold scN; rw [hm]
  have htn : tnN M' = tnN M := by unfold tnN; rw [hm]
  refine ⟨fun c hc => ?_, by rw [hsc, hm]; exact h2, by rw [htn, hm]; exact h3, fun k hk => ?_, fun k hk => ?_⟩
  · have e0 : M' (rCas c) = M (rCas c) := e c hc 0 (by decide)
    have e16 : M' (rRow c) = M (rRow c) := e c hc 16 (by decide)
    have e17 : M' (rLe c) = M (rLe c) := e c hc 17 (by decide)
    have e19 : M' (rLo c) = M (rLo c) := e c hc 19 (by decide)
    have e22 : M' (rCo c) = M (rCo c) := e c hc 22 (by decide)
    have tc : tcN M' c = tcN M c := by unfold tcN; rw [e0]
    have sz : szN M' c = szN M c := by unfold szN; rw [e16]
    obtain ⟨a1, a2, a3, a4, a5, a6⟩ := h1 c hc
    refine ⟨by rw [e0, tc]; exact a1, by rw [tc]; exact a2, by rw [e16, sz]; exact a3, by rw [sz]; exact a4, by rw [sz]; exact okL_eq e17 e19 a5, ?_⟩
    unfold okE at a6 ⊢
    rw [sz, e17, e22]; exact a6
  · rw [hsc] at hk
    have hk20 : k < 20 := Nat.lt_of_lt_of_le hk h2.2
    have es : M' (rSi k) = M (rSi k) := e2 _ (by simp only [rSi]; omega) (by simp only [rSi]; omega)
    have := h4 k hk
    unfold IVS plN loN at this ⊢
    rw [es]; exact this
  · rw [htn] at hk
    have hk8 : k < 8 := Nat.lt_of_lt_of_le hk h3.2
    have es : M' (rTr k) = M (rTr k) := e2 _ (by simp only [rTr]; omega) (by simp only [rTr]; omega)
    have et : M' (rSt k) = M (rSt k) := e2 _ (by simp only [rSt]; omega) (by simp only [rSt]; omega)
    have := h5 k hk
    unfold IVT at this ⊢
    rw [es, et]; exact this
theorem RV.cong {R R' : wM} (h : RV R) (f : ∀ r, 101 ≤ r → r ≤ 131 → R' r = R r) (g16 : R' rMod 16 = R rMod 16) (g17 : R' rMod 17 = R rMod 17) : RV R' := by
  obtain ⟨h1, h2, h3, h4, h5⟩ := h
  have hs : siN R' = siN R := by unfold siN; rw [g16]
  have ht : trN R' = trN R := by unfold trN; rw [g17]
  have F : ∀ r, 101 ≤ r → r ≤ 131 → R' r = R r := f
  refine ⟨fun c hc => ?_, by rw [hs, g16]; exact h2, by rw [ht, g17]; exact h3, fun k hk => ?_, fun k hk => ?_⟩
  · have := h1 c hc
    unfold RVC okB okEr okU mnN wrN at this ⊢
    rw [f 101 (by decide) (by decide), f 103 (by decide) (by decide), f 111 (by decide) (by decide), f 113 (by decide) (by decide), f 114 (by decide) (by decide), f 104 (by decide) (by decide), f 107 (by decide) (by decide)]
    exact this
  · rw [hs] at hk
    have := h4 k hk
    unfold RVS scC scL at this ⊢
    rw [f 121 (by decide) (by decide), f 122 (by decide) (by decide)]
    exact this
  · rw [ht] at hk
    have := h5 k hk
    unfold RVT at this ⊢
    rw [f 129 (by decide) (by decide), f 130 (by decide) (by decide)]
    exact this
/-- neither the ledgers nor the reference's sums matter -/
theorem Re.cong {M M' R R' : wM} {n : Nat} (h : Re M R n) (e : ∀ c, c < 2 → ∀ j, j < 23 → M' (30 * c + j) = M (30 * c + j)) (e2 : ∀ r, 60 ≤ r → r < 100 → M' r = M r)
    (f : ∀ r, 101 ≤ r → r ≤ 131 → R' r = R r) (g16 : R' rMod 16 = R rMod 16) (g17 : R' rMod 17 = R rMod 17) (g18 : R' rMod 18 = R rMod 18) : Re M' R' n := by
  have hm : M' rMain = M rMain := e2 60 (by decide) (by decide)
  have hsc : scN M' = scN M := by unfold scN; rw [hm]
  have htn : tnN M' = tnN M := by unfold tnN; rw [hm]
  have hs : siN R' = siN R := by unfold siN; rw [g16]
  have ht : trN R' = trN R := by unfold trN; rw [g17]
  obtain ⟨h1, h2, h3, h4, h5, h6, h7, h8, h9, h10, h11, h12⟩ := h
  have hsc20 := h1.2.1.2
  have htn8 := h1.2.2.1.2
  have hS : ∀ k, k < 8 → M' (rSt k) = M (rSt k) := fun k hk => e2 _ (by simp only [rSt]; omega) (by simp only [rSt]; omega)
  refine ⟨h1.cong e e2, h2.cong f g16 g17, fun c hc => (h3 c hc).cong (e c hc) f ht, fun c hc => by rw [show M' (rCas c) = M (rCas c) from e c hc 0 (by decide)]; exact h4 c hc, by rw [hsc, hs]; exact h5, by rw [htn, ht]; exact h6, fun k hk => ?_, fun k hk => ?_, by rw [g18]; exact h9, by show M' rMain 7 = _; rw [hm, g18]; exact h10, fun lo hlo => by rw [show M' rWin = M rWin from e2 63 (by decide) (by decide), f 131 (by decide) (by decide)]; exact h11 lo hlo, fun c hc k k' hk hk' => ?_⟩
  · rw [hsc] at hk
    exact (h7 k hk).cong (h1.2.2.2.1 k hk).2.1 (e2 _ (by simp only [rSi]; omega) (by simp only [rSi]; omega)) (fun c hc => e c hc 0 (by decide)) f
  · rw [htn] at hk
    exact (h8 k hk).cong (e2 _ (by simp only [rTr]; omega) (by simp only [rTr]; omega)) (hS k (by omega)) f
  · rw [htn] at hk hk'
    rw [hS k (by omega), hS k' (by omega)]
    exact h12 c hc k k' hk hk'
theorem Re.onK {M R : wM} {n k : Nat} (h : Re M R n) : Re M (thr R k) n :=
  h.cong (fun _ _ _ _ => rfl) (fun _ _ _ => rfl) (fun r h1 _ => wr_ne (by show r ≠ 100; omega)) rfl rfl rfl
theorem Re.onS {M R : wM} {n c w : Nat} (h : Re M R n) : Re M (suM R c w) n :=
  h.cong (fun _ _ _ _ => rfl) (fun _ _ _ => rfl) (fun r h1 h2 => suM_ne (by show r ≠ 100; omega) (by omega)) (suM_oth (by decide) (by decide) (by decide)) (suM_oth (by decide) (by decide) (by decide)) (suM_oth (by decide) (by decide) (by decide))
theorem Re.onT {M R : wM} {n c w : Nat} (hc : c < 2) (h : Re M R n) : Re (telM M c w) R n :=
  h.cong (fun c' hc' j hj => telM_ne (by simp only [rLed]; omega) (by simp only [rPu]; omega)) (fun r h1 h2 => telM_ne (by simp only [rLed]; omega) (by simp only [rPu]; omega)) (fun _ _ _ => rfl) rfl rfl rfl
