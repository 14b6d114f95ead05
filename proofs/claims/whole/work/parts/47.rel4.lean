/-! the relation of the game when one castle changes, but not how often it was built -/
theorem ReS.cong2 {M M' R R' : wM} {n k : Nat} (h : ReS M R n k) (hp : plN M k < 2) (e : M' (rSi k) = M (rSi k)) (e0 : ∀ c, c < 2 → M' (rCas c) 2 = M (rCas c) 2) (f : ∀ r, 117 ≤ r → r ≤ 131 → R' r = R r) : ReS M' R' n k := by
  have pl : plN M' k = plN M k := by unfold plN; rw [e]
  obtain ⟨h1, h2, h3, h4, h5, h6, h7⟩ := h
  refine ⟨by rw [e, f 122 (by decide) (by decide)]; exact h1, by rw [e, f 121 (by decide) (by decide)]; exact h2, by rw [e, f 123 (by decide) (by decide)]; exact h3, by rw [e, f 124 (by decide) (by decide)]; exact h4, by rw [e, f 125 (by decide) (by decide)]; exact h5, ?_, ?_⟩
  · rw [pl, e, e0 _ hp, f 126 (by decide) (by decide)]; exact h6
  · rw [pl, e, e0 _ hp]; exact h7
theorem RVC.congP {R R' : wM} {c : Nat} (h : RVC R c) (f : ∀ r k, 101 ≤ r → r ≤ 116 → k < rsz r → R' r (c * rsz r + k) = R r (c * rsz r + k)) : RVC R' c := by
  have f1 : R' 101 c = R 101 c := by have := f 101 0 (by decide) (by decide) (by decide); rw [show c * rsz 101 + 0 = c by show c * 1 + 0 = c; omega] at this; exact this
  have f3 : R' 103 c = R 103 c := by have := f 103 0 (by decide) (by decide) (by decide); rw [show c * rsz 103 + 0 = c by show c * 1 + 0 = c; omega] at this; exact this
  have mn : mnN R' c = mnN R c := by unfold mnN; rw [f1]
  have wn : wrN R' c = wrN R c := by unfold wrN; rw [f3]
  have f60 : ∀ r k, 111 ≤ r → r ≤ 116 → k < 60 → R' r (c * 60 + k) = R r (c * 60 + k) := fun r k h1 h2 hk => by
    have hr : rsz r = 60 := by unfold rsz; rw [if_neg (by omega), if_neg (by omega), if_neg (by omega), if_neg (by omega), if_neg (by omega)]
    have := f r k (by omega) h2 (by rw [hr]; exact hk)
    rw [hr] at this; exact this
  obtain ⟨h1, h2, h3, h4, h5, h6, h7⟩ := h
  refine ⟨by rw [f1, mn]; exact h1, by rw [mn]; exact h2, by rw [f3, wn]; exact h3, by rw [wn]; exact h4, ?_, ?_, ?_⟩
  · intro j hj
    rw [wn] at hj
    rw [f60 111 j (by decide) (by decide) (by omega), f60 113 j (by decide) (by decide) (by omega), f60 114 j (by decide) (by decide) (by omega)]
    exact h5 j hj
  · intro j hj
    rw [wn] at hj
    rw [f60 111 j (by decide) (by decide) (by omega)]
    exact h6 j hj
  · intro t ht
    have a1 := f 104 t (by decide) (by decide) (by show t < 7; exact ht)
    rw [show c * rsz 104 + t = c * 7 + t from rfl] at a1
    rw [a1]
    refine ⟨(h7 t ht).1, fun lo hlo => ?_⟩
    have a2 := f 107 (t * 4 + lo) (by decide) (by decide) (by show t * 4 + lo < 28; omega)
    rw [show c * rsz 107 + (t * 4 + lo) = (c * 7 + t) * 4 + lo by show c * 28 + (t * 4 + lo) = _; omega] at a2
    rw [a2]
    exact (h7 t ht).2 lo hlo
theorem Re.cas {M M' R R' : wM} {n c : Nat} (h : Re M R n) (hc : c < 2) (hC : ReC M' R' c) (hI : IVC M' c) (hV : RVC R' c) (hb : M' (rCas c) 2 = M (rCas c) 2)
    (e : ∀ c', c' < 2 → c' ≠ c → ∀ j, j < 23 → M' (30 * c' + j) = M (30 * c' + j)) (e2 : ∀ r, 60 ≤ r → r < 100 → M' r = M r)
    (f : ∀ c', c' < 2 → c' ≠ c → ∀ r k, 101 ≤ r → r ≤ 116 → k < rsz r → R' r (c' * rsz r + k) = R r (c' * rsz r + k)) (f2 : ∀ r, 117 ≤ r → r ≤ 131 → R' r = R r)
    (g16 : R' rMod 16 = R rMod 16) (g17 : R' rMod 17 = R rMod 17) (g18 : R' rMod 18 = R rMod 18) : Re M' R' n := by
  have hm : M' rMain = M rMain := e2 60 (by decide) (by decide)
  have hsc : scN M' = scN M := by unfold scN; rw [hm]
  have htn : tnN M' = tnN M := by unfold tnN; rw [hm]
  have hs : siN R' = siN R := by unfold siN; rw [g16]
  have ht : trN R' = trN R := by unfold trN; rw [g17]
  have hB : ∀ c', c' < 2 → M' (rCas c') 2 = M (rCas c') 2 := fun c' hc' => by
    by_cases e9 : c' = c
    · subst e9; exact hb
    · exact congrFun (e c' hc' e9 0 (by decide)) 2
  have sz60 : ∀ c', c' < 2 → szN M c' ≤ 60 := fun c' hc' => h.sz60 hc'
  obtain ⟨h1, h2, h3, h4, h5, h6, h7, h8, h9, h10, h11, h12⟩ := h
  have hsc20 := h1.2.1.2
  have htn8 := h1.2.2.1.2
  have hS : ∀ k, k < 8 → M' (rSt k) = M (rSt k) := fun k hk => e2 _ (by simp only [rSt]; omega) (by simp only [rSt]; omega)
  have hT : ∀ k, k < 8 → M' (rTr k) = M (rTr k) := fun k hk => e2 _ (by simp only [rTr]; omega) (by simp only [rTr]; omega)
  have hSi : ∀ k, k < 20 → M' (rSi k) = M (rSi k) := fun k hk => e2 _ (by simp only [rSi]; omega) (by simp only [rSi]; omega)
  refine ⟨⟨fun c' hc' => ?_, by rw [hsc, hm]; exact h1.2.1, by rw [htn, hm]; exact h1.2.2.1, fun k hk => ?_, fun k hk => ?_⟩, ⟨fun c' hc' => ?_, by rw [hs, g16]; exact h2.2.1, by rw [ht, g17]; exact h2.2.2.1, fun k hk => ?_, fun k hk => ?_⟩, fun c' hc' => ?_, fun c' hc' => by rw [hB c' hc']; exact h4 c' hc', by rw [hsc, hs]; exact h5, by rw [htn, ht]; exact h6, fun k hk => ?_, fun k hk => ?_, by rw [g18]; exact h9, by show M' rMain 7 = _; rw [hm]; show nowM M = R' rMod 18; rw [g18]; exact h10, fun lo hlo => by rw [show M' rWin = M rWin from e2 63 (by decide) (by decide), f2 131 (by decide) (by decide)]; exact h11 lo hlo, fun c' hc' k k' hk hk' => ?_⟩
  · by_cases e9 : c' = c
    · subst e9; exact hI
    · have := h1.1 c' hc'
      have e' := e c' hc' e9
      unfold IVC okL okE tcN szN at this ⊢
      rw [show M' (rCas c') = M (rCas c') from e' 0 (by decide), show M' (rRow c') = M (rRow c') from e' 16 (by decide), show M' (rLe c') = M (rLe c') from e' 17 (by decide), show M' (rLo c') = M (rLo c') from e' 19 (by decide), show M' (rCo c') = M (rCo c') from e' 22 (by decide)]
      exact this
  · rw [hsc] at hk
    have := h1.2.2.2.1 k hk
    unfold IVS plN loN at this ⊢
    rw [hSi k (by omega)]; exact this
  · rw [htn] at hk
    have := h1.2.2.2.2 k hk
    unfold IVT at this ⊢
    rw [hT k (by omega), hS k (by omega)]; exact this
  · by_cases e9 : c' = c
    · subst e9; exact hV
    · exact (h2.1 c' hc').congP (f c' hc' e9)
  · rw [hs] at hk
    have := h2.2.2.2.1 k hk
    unfold RVS scC scL at this ⊢
    rw [f2 121 (by decide) (by decide), f2 122 (by decide) (by decide)]; exact this
  · rw [ht] at hk
    have := h2.2.2.2.2 k hk
    unfold RVT at this ⊢
    rw [f2 129 (by decide) (by decide), f2 130 (by decide) (by decide)]; exact this
  · by_cases e9 : c' = c
    · subst e9; exact hC
    · exact (h3 c' hc').congP (e c' hc' e9) (f c' hc' e9) (Nat.le_of_eq ht.symm) (fun j _ => by rw [f2 127 (by decide) (by decide)]) (sz60 c' hc')
  · rw [hsc] at hk
    exact (h7 k hk).cong2 (h1.2.2.2.1 k hk).2.1 (hSi k (by omega)) hB f2
  · rw [htn] at hk
    obtain ⟨p1, p2, p3, p4, p5, p6⟩ := h8 k hk
    refine ⟨by rw [hT k (by omega), f2 127 (by decide) (by decide)]; exact p1, by rw [hT k (by omega), f2 128 (by decide) (by decide)]; exact p2, by rw [hT k (by omega), f2 129 (by decide) (by decide)]; exact p3, fun c hc => by rw [hS k (by omega), f2 130 (by decide) (by decide)]; exact p4 c hc, by rw [f2 127 (by decide) (by decide)]; exact p5, by rw [f2 128 (by decide) (by decide)]; exact p6⟩
  · rw [htn] at hk hk'
    rw [hS k (by omega), hS k' (by omega)]
    exact h12 c' hc' k k' hk hk'
