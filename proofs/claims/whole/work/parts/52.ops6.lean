/-! decide -/
theorem tPre_eq {M R : wM} {n k : Nat} (h : Re M R n) (hk : k < tnN M) : tPre M k = pzI R (2 * k) + pzI R (2 * k + 1) := by
  obtain ⟨-, -, -, p4, -⟩ := h.tr hk
  have q0 := p4 0 (by decide)
  have q1 := p4 1 (by decide)
  rw [Nat.add_zero] at q0
  unfold tPre pzI
  simp only [cntB]
  simp only [q0, q1, decide_eq_true_eq, Nat.zero_add]
theorem op_decide {M R : wM} {n : Nat} (h : Re M R n) (tr : Int32) (dn : Bool) : kDecR R tr dn = kDec M tr dn ∧ (kDec M tr dn = 0 → tPre M (cI tr) = pzI R (2 * cI tr) + pzI R (2 * cI tr + 1) ∧ Re (decM M (cI tr) dn) (wr (thr R 0) 129 (cI tr) (if dn = true then nI 100 else nI 97)) n) := by
  unfold kDecR kDec
  rw [← h.tn]
  cases e : vIn tr (tnN M) with
  | false => exact ⟨by simp, fun hk => by simp at hk⟩
  | true =>
    have hk := vIn_cI e (Nat.lt_of_le_of_lt h.tn8 (by decide))
    have hp := tPre_eq h hk
    obtain ⟨p1, p2, p3, p4, p5, p6⟩ := h.tr hk
    refine ⟨?_, fun _ => ⟨hp, ?_⟩⟩
    · rw [hp]
      unfold decBR tDec pzI
      rw [p3]
      by_cases a : R 129 (cI tr) = nI 45 <;> by_cases b : R 130 (2 * cI tr) = nI 112 <;> by_cases c : R 130 (2 * cI tr + 1) = nI 112 <;> cases dn <;> simp [a, b, c]
    · have htn8 := h.tn8
      have htn := h.tn
      have mt : ∀ r, r ≠ rTr (cI tr) → decM M (cI tr) dn r = M r := fun r hr => wr_ne hr
      have mk9 : ∀ j, j ≠ 2 → decM M (cI tr) dn (rTr (cI tr)) j = M (rTr (cI tr)) j := fun j hj => wr_othj hj
      have mk2 : decM M (cI tr) dn (rTr (cI tr)) 2 = (if dn = true then nI 100 else nI 97) := wr_same _ _ _ _
      have rn : ∀ r, r ≠ 129 → r ≠ 100 → wr (thr R 0) 129 (cI tr) (if dn = true then nI 100 else nI 97) r = R r := fun r h1 h2 => (wr_ne h1).trans (wr_ne h2)
      have hsame : ∀ k, k ≠ cI tr → decM M (cI tr) dn (rTr k) = M (rTr k) := fun k hk => mt _ (by simp only [rTr]; omega)
      have hst : ∀ k, decM M (cI tr) dn (rSt k) = M (rSt k) := fun k => mt _ (by simp only [rSt, rTr]; omega)
      have hrk : ∀ k, k ≠ cI tr → wr (thr R 0) 129 (cI tr) (if dn = true then nI 100 else nI 97) 129 k = R 129 k := fun k hk => (wr_othj hk).trans (wr_othr (by decide))
      have hrs : wr (thr R 0) 129 (cI tr) (if dn = true then nI 100 else nI 97) 129 (cI tr) = (if dn = true then nI 100 else nI 97) := wr_same _ _ _ _
      refine h.tru (tn := tnN M) (fun c hc j hj => mt _ (by simp only [rTr]; omega)) (fun k hk => mt _ (by simp only [rSi, rTr]; omega)) (mt _ (by simp only [rWin, rTr]; omega)) (by rw [mt _ (by simp only [rMain, rTr]; omega)]) (by rw [mt _ (by simp only [rMain, rTr]; omega)]) (by rw [mt _ (by simp only [rMain, rTr]; omega)]; exact h.1.2.2.1.1) ?_ htn8 (Nat.le_refl _) (fun r h1 h2 => rn r (by omega) (by omega)) (rn 131 (by decide) (by decide)) (fun j _ => by rw [rn 127 (by decide) (by decide)]) ((wr_othr (by decide)).trans (wr_othj (by decide))) ((wr_othr (by decide)).trans (wr_othj (by decide))) (fun k hk9 => ?_) (fun k hk9 => ?_) (fun k hk9 => ?_) (fun c hc k k' h1 h2 => by rw [hst k, hst k']; exact h.2.2.2.2.2.2.2.2.2.2.2 c hc k k' h1 h2)
      · refine ((wr_othr (by decide)).trans (wr_othj (by decide))).trans ?_
        rw [htn]; exact h.2.1.2.2.1.1
      · unfold IVT
        rw [hst k]
        refine ⟨?_, (h.1.2.2.2.2 k hk9).2⟩
        by_cases e9 : k = cI tr
        · rw [e9, mk2]; cases dn <;> decide
        · rw [hsame k e9]; exact (h.1.2.2.2.2 k hk9).1
      · unfold RVT
        rw [rn 130 (by decide) (by decide)]
        have hv := h.2.1.2.2.2.2 k (by omega)
        refine ⟨?_, hv.2⟩
        by_cases e9 : k = cI tr
        · rw [e9, hrs]; cases dn <;> decide
        · rw [hrk k e9]; exact hv.1
      · obtain ⟨o1, o2, o3, o4, o5, o6⟩ := h.tr hk9
        unfold ReP
        rw [rn 127 (by decide) (by decide), rn 128 (by decide) (by decide), rn 130 (by decide) (by decide), hst k]
        refine ⟨?_, ?_, ?_, o4, o5, o6⟩
        · by_cases e9 : k = cI tr
          · subst e9; rw [mk9 0 (by decide)]; exact o1
          · rw [hsame k e9]; exact o1
        · by_cases e9 : k = cI tr
          · subst e9; rw [mk9 1 (by decide)]; exact o2
          · rw [hsame k e9]; exact o2
        · by_cases e9 : k = cI tr
          · subst e9; rw [mk2, hrs]
          · rw [hsame k e9, hrk k e9]; exact o3
