/-! the figures: they are numbers -/
theorem n32_tb : ∀ p : Fin 8, ∀ t : Fin 8, 1 ≤ t.val → (FP.fdiv (FP.i2f (nI p.val)) (FP.i2f (nI t.val))) &&& 2147483647 ≤ 2139095040 ∧ (FP.f2d (FP.fdiv (FP.i2f (nI p.val)) (FP.i2f (nI t.val)))) &&& 9223372036854775807 ≤ 9218868437227405312 := by decide +kernel
theorem n64_tb : ∀ p : Fin 421, ∀ t : Fin 8, 1 ≤ t.val → (FP.ddiv (FP.i2d (nI p.val)) (FP.i2d (nI t.val))) &&& 9223372036854775807 ≤ 9218868437227405312 := by decide +kernel
theorem Re.hc9 {M R : wM} {n c : Nat} (h : Re M R n) (hc : c < 2) : ∀ k, k ≤ szN M c → ∃ s, s ≤ 7 * k ∧ hcN M c k = nI s ∧ meR (T0 R) c k = nI s
  | 0, _ => ⟨0, by omega, rfl, rfl⟩
  | k + 1, hk => by
    obtain ⟨s, s1, s2, s3⟩ := h.hc9 hc k (by omega)
    obtain ⟨-, -, b3, -, b5, -⟩ := h.e hc (k := k) (by omega)
    have h7 := pcB_le (hasB (M (rHo c) k)) 7
    refine ⟨s + pcB (hasB (M (rHo c) k)) 7, by omega, ?_, ?_⟩
    · simp only [hcN]; rw [s2, b5.bc]; exact nI_addn _ _
    · simp only [meR]
      rw [s3, show T0 R 115 (c * 60 + k) = M (rHo c) k from b3.symm ▸ (wr_othr (by decide)), b5.on]
      exact nI_addn _ _
theorem Re.n32 {M R : wM} {n c : Nat} (h : Re M R n) (hc : c < 2) : vf_n32 (FP.fdiv (FP.i2f (bcI (M (rCas c) 3))) (FP.i2f (nI (tcN M c)))) ∧ vf_n64 (FP.f2d (FP.fdiv (FP.i2f (bcI (M (rCas c) 3))) (FP.i2f (nI (tcN M c))))) := by
  have h7 := pcB_le (hasB (M (rCas c) 3)) 7
  have t1 := (h.c hc).2.1
  have t7 := h.tc7 hc
  rw [(h.up hc).bc]
  exact n32_tb ⟨pcB (hasB (M (rCas c) 3)) 7, by omega⟩ ⟨tcN M c, by omega⟩ t1
theorem Re.n64 {M R : wM} {n c : Nat} (h : Re M R n) (hc : c < 2) : vf_n64 (FP.ddiv (FP.i2d (hcN M c (szN M c))) (FP.i2d (nI (tcN M c)))) := by
  have t1 := (h.c hc).2.1
  have t7 := h.tc7 hc
  have s60 := h.sz60 hc
  obtain ⟨s, s1, s2, -⟩ := h.hc9 hc (szN M c) (Nat.le_refl _)
  rw [s2]
  exact n64_tb ⟨s, by omega⟩ ⟨tcN M c, by omega⟩ t1
theorem Re.upE {M R : wM} {n c : Nat} (h : Re M R n) (hc : c < 2) : onI (rcU (T0 R) c (mnN R c)) = bcI (M (rCas c) 3) ∧ mnN R c = tcN M c := by
  have h0 : Re M (T0 R) n := h.onK
  refine ⟨?_, h.mn hc⟩
  rw [show rcU (T0 R) c (mnN R c) = M (rCas c) 3 from h0.reachU hc]
  exact (h.up hc).bco
theorem Re.meE {M R : wM} {n c : Nat} (h : Re M R n) (hc : c < 2) : meR (T0 R) c (wrN R c) = hcN M c (szN M c) := by
  obtain ⟨s, -, s2, s3⟩ := h.hc9 hc (szN M c) (Nat.le_refl _)
  rw [h.wn hc, s2, s3]
theorem op_upShare {M R : wM} {n : Nat} (h : Re M R n) (ca : Int32) : kCR ca = kC ca ∧ (kC ca = 0 → FP.fdiv (FP.i2f (bcI (M (rCas (cI ca)) 3))) (FP.i2f (nI (tcN M (cI ca)))) = FP.fdiv (FP.i2f (onI (rcU (T0 R) (cI ca) (mnN R (cI ca))))) (FP.i2f (nI (mnN R (cI ca))))) := by
  refine ⟨rfl, fun hk => ?_⟩
  obtain ⟨h1, -⟩ := ifk0 (by decide) hk
  obtain ⟨e1, e2⟩ := h.upE (vIn_cI h1 (by decide))
  rw [e1, e2]
theorem op_mean {M R : wM} {n : Nat} (h : Re M R n) (ca : Int32) : kCR ca = kC ca ∧ (kC ca = 0 → FP.ddiv (FP.i2d (hcN M (cI ca) (szN M (cI ca)))) (FP.i2d (nI (tcN M (cI ca)))) = FP.ddiv (FP.i2d (meR (T0 R) (cI ca) (wrN R (cI ca)))) (FP.i2d (nI (mnN R (cI ca))))) := by
  refine ⟨rfl, fun hk => ?_⟩
  obtain ⟨h1, -⟩ := ifk0 (by decide) hk
  have hc := vIn_cI h1 (by decide)
  rw [h.meE hc, h.mn hc]
/-- openFor: where at most one lord has the gate open -/
theorem ofN_val {R : wM} {c g : Nat} : ∀ {n : Nat}, (∀ j, j < n → mOpen R c g j = false) → ofN R c g n = (-1)
  | 0, _ => rfl
  | n + 1, h => by unfold ofN; rw [if_neg (by rw [h n (by omega)]; decide)]; exact ofN_val (fun j hj => h j (by omega))
theorem ofN_hit {R : wM} {c g j : Nat} : ∀ {n : Nat}, j < n → mOpen R c g j = true → (∀ j', j' < n → mOpen R c g j' = true → j' = j) → ofN R c g n = nI j
  | 0, h, _, _ => by omega
  | n + 1, h, h1, h2 => by
    unfold ofN
    by_cases e : j = n
    · subst e; rw [if_pos h1]
    · rw [if_neg]
      · exact ofN_hit (by omega) h1 (fun j' hj' => h2 j' (by omega))
      · intro z; exact e (h2 n (by omega) z).symm
def One (M : wM) : Prop := ∀ c, c < 2 → ∀ g, g < 3 → ∀ j j', j < 4 → j' < 4 → gOpen M c g j (nowM M) = true → gOpen M c g j' (nowM M) = true → j = j'
theorem op_openFor {M R : wM} {n : Nat} (h : Re M R n) (one : One M) (ca ga : Int32) : kOpenR R ca ga = kOpen M ca ga ∧ (kOpen M ca ga = 0 → nI (ofQ M (cI ca) (cI ga) (nowM M)) = ofN (thr R 0) (cI ca) (cI ga) 4) := by
  have h0 : Re M (thr R 0) n := h.onK
  have main : cI ca < 2 → cI ga < 3 → (ofQ M (cI ca) (cI ga) (nowM M) < 4 → nI (ofQ M (cI ca) (cI ga) (nowM M)) = ofN (thr R 0) (cI ca) (cI ga) 4) ∧ (¬ ofQ M (cI ca) (cI ga) (nowM M) < 4 → ofN (thr R 0) (cI ca) (cI ga) 4 = (-1)) := fun hc hg => by
    generalize cI ca = c at hc ⊢
    generalize cI ga = g at hg ⊢
    refine ⟨fun hq => ?_, fun hq => ?_⟩
    · have hs := lead_stop (p := fun j => !gOpen M c g j (nowM M)) (n := 4) hq
      have hop : gOpen M c g (ofQ M c g (nowM M)) (nowM M) = true := by
        have : (!gOpen M c g (ofQ M c g (nowM M)) (nowM M)) = false := hs
        cases e : gOpen M c g (ofQ M c g (nowM M)) (nowM M) with
        | true => rfl
        | false => rw [e] at this; cases this
      refine (ofN_hit hq (by rw [h0.opens hc hg hq]; exact hop) (fun j' hj' hj => ?_)).symm
      rw [h0.opens hc hg hj'] at hj
      exact one c hc g hg j' _ hj' hq hj hop
    · refine ofN_val (fun j hj => ?_)
      rw [h0.opens hc hg hj]
      have : (!gOpen M c g j (nowM M)) = true := by
        have h9 := lead_le (fun j => !gOpen M c g j (nowM M)) 4
        exact lead_all' (p := fun j => !gOpen M c g j (nowM M)) (n := 4) (j := j) (Nat.lt_of_lt_of_le hj (Nat.not_lt.mp hq))
      cases e : gOpen M c g j (nowM M) with
      | false => rfl
      | true => rw [e] at this; cases this
  refine ⟨?_, fun hk => ?_⟩
  · unfold kOpenR kOpen vC
    cases e : (vIn ca 2 && vIn ga 3) with
    | false => simp only [Bool.false_eq_true, if_false]
    | true =>
      simp only [Bool.and_eq_true] at e
      have hc := vIn_cI e.1 (by decide)
      have hg := vIn_cI e.2 (by decide)
      obtain ⟨m1, m2⟩ := main hc hg
      by_cases hq : ofQ M (cI ca) (cI ga) (nowM M) < 4
      · rw [if_pos hq, ← m1 hq, if_pos (nI_pos' (by omega))]
      · rw [if_neg hq, m2 hq, if_pos rfl, if_pos rfl, if_neg (by decide : ¬ (0 : Int32) ≤ (-1))]
  · obtain ⟨h1, h2⟩ := ifk0 (by decide) hk
    simp only [vC, Bool.and_eq_true] at h1
    obtain ⟨m1, -⟩ := main (vIn_cI h1.1 (by decide)) (vIn_cI h1.2 (by decide))
    refine m1 ?_
    by_cases hq : ofQ M (cI ca) (cI ga) (nowM M) < 4
    · exact hq
    · rw [if_neg hq] at h2; exact absurd h2 (by decide)
