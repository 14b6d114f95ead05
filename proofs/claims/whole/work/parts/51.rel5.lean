/-! the relation when only truces change -/
theorem Re.tru {M M' R R' : wM} {n tn : Nat} (h : Re M R n) (e : ∀ c, c < 2 → ∀ j, j < 23 → M' (30 * c + j) = M (30 * c + j)) (eS : ∀ k, k < 20 → M' (rSi k) = M (rSi k)) (eW : M' rWin = M rWin) (m5 : M' rMain 5 = M rMain 5) (m7 : M' rMain 7 = M rMain 7) (m6 : M' rMain 6 = nI tn) (g17 : R' rMod 17 = nI tn) (h8 : tn ≤ 8) (hle : tnN M ≤ tn)
    (f : ∀ r, 101 ≤ r → r ≤ 126 → R' r = R r) (f131 : R' 131 = R 131) (f7 : ∀ j, j < trN R → R' 127 j = R 127 j) (g16 : R' rMod 16 = R rMod 16) (g18 : R' rMod 18 = R rMod 18)
    (nI' : ∀ k, k < tn → IVT M' k) (nR : ∀ k, k < tn → RVT R' k) (nP : ∀ k, k < tn → ReP M' R' k) (n1 : ∀ c, c < 2 → ∀ k k', k < tn → k' < tn → M' (rSt k) c = nI 112 → M' (rSt k') c = nI 112 → k = k') : Re M' R' n := by
  have hsc : scN M' = scN M := by unfold scN; rw [m5]
  have htn : tnN M' = tn := by unfold tnN; rw [m6]; exact nI_clamp (by omega)
  have hs : siN R' = siN R := by unfold siN; rw [g16]
  have ht : trN R' = tn := by unfold trN; rw [g17]; exact nI_clamp (by omega)
  have htn0 := h.tn
  have sz60 : ∀ c', c' < 2 → szN M c' ≤ 60 := fun c' hc' => h.sz60 hc'
  obtain ⟨h1, h2, h3, h4, h5, h6, h7, h8', h9, h10, h11, h12⟩ := h
  have hsc20 := h1.2.1.2
  refine ⟨⟨fun c hc => ?_, by rw [hsc, m5]; exact h1.2.1, ⟨by rw [m6, htn], by omega⟩, fun k hk => ?_, fun k hk => ?_⟩, ⟨fun c hc => ?_, by rw [hs, g16]; exact h2.2.1, ⟨by rw [g17, ht], by omega⟩, fun k hk => ?_, fun k hk => ?_⟩, fun c hc => ?_, fun c hc => by rw [show M' (rCas c) = M (rCas c) from e c hc 0 (by decide)]; exact h4 c hc, by rw [hsc, hs]; exact h5, by rw [htn, ht], fun k hk => ?_, fun k hk => ?_, by rw [g18]; exact h9, by show M' rMain 7 = _; rw [m7]; show nowM M = R' rMod 18; rw [g18]; exact h10, fun lo hlo => by rw [eW, f131]; exact h11 lo hlo, fun c hc k k' hk hk' => ?_⟩
  · have := h1.1 c hc
    exact this.cong (by rw [show M' (rCas c) = M (rCas c) from e c hc 0 (by decide)]) (e c hc 16 (by decide)) (e c hc 17 (by decide)) (e c hc 19 (by decide)) (e c hc 22 (by decide))
  · rw [hsc] at hk
    have := h1.2.2.2.1 k hk
    unfold IVS plN loN at this ⊢
    rw [eS k (by omega)]; exact this
  · rw [htn] at hk; exact nI' k hk
  · exact (h2.1 c hc).congP (fun r k a b _ => by rw [f r (by omega) (by omega)])
  · rw [hs] at hk
    have := h2.2.2.2.1 k hk
    unfold RVS scC scL at this ⊢
    rw [f 121 (by decide) (by decide), f 122 (by decide) (by decide)]; exact this
  · rw [ht] at hk; exact nR k hk
  · exact (h3 c hc).congP (e c hc) (fun r k a b _ => by rw [f r (by omega) (by omega)]) (by rw [ht]; omega) f7 (sz60 c hc)
  · rw [hsc] at hk
    obtain ⟨s1, s2, s3, s4, s5, s6, s7⟩ := h7 k hk
    have es := eS k (by omega)
    have pl : plN M' k = plN M k := by unfold plN; rw [es]
    have hp := (h1.2.2.2.1 k hk).2.1
    have ec : M' (rCas (plN M k)) = M (rCas (plN M k)) := e _ hp 0 (by decide)
    exact ⟨by rw [es, f 122 (by decide) (by decide)]; exact s1, by rw [es, f 121 (by decide) (by decide)]; exact s2, by rw [es, f 123 (by decide) (by decide)]; exact s3, by rw [es, f 124 (by decide) (by decide)]; exact s4, by rw [es, f 125 (by decide) (by decide)]; exact s5, by rw [pl, es, ec, f 126 (by decide) (by decide)]; exact s6, by rw [pl, es, ec]; exact s7⟩
  · rw [htn] at hk; exact nP k hk
  · rw [htn] at hk hk'; exact n1 c hc k k' hk hk'
