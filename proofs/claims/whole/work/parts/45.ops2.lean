/-! the calls that change the time, the truces -/
theorem IV.cong9 {M M' : wM} (h : IV M) (e : ∀ c, c < 2 → ∀ j, j < 23 → M' (30 * c + j) = M (30 * c + j)) (e2 : ∀ r, 61 ≤ r → r < 100 → M' r = M r) (m5 : M' rMain 5 = M rMain 5) (m6 : M' rMain 6 = M rMain 6) : IV M' := by
  have h0 : IV (fun r => if r = 60 then M rMain else M' r) := by
    refine h.cong (fun c hc j hj => ?_) (fun r h1 h2 => ?_)
    · rw [if_neg (by omega)]; exact e c hc j hj
    · by_cases h9 : r = 60
      · subst h9; rfl
      · rw [if_neg h9]; exact e2 r (by omega) h2
  obtain ⟨h1, h2, h3, h4, h5⟩ := h0
  have hr : ∀ r, r ≠ 60 → (fun r => if r = 60 then M rMain else M' r) r = M' r := fun r hr => if_neg hr
  have hs : scN (fun r => if r = 60 then M rMain else M' r) = scN M' := by
    unfold scN
    show (M rMain 5).toNatClampNeg = _
    rw [← m5]
  have ht : tnN (fun r => if r = 60 then M rMain else M' r) = tnN M' := by
    unfold tnN
    show (M rMain 6).toNatClampNeg = _
    rw [← m6]
  rw [hs] at h2 h4
  rw [ht] at h3 h5
  refine ⟨fun c hc => ?_, ⟨m5.trans h2.1, h2.2⟩, ⟨m6.trans h3.1, h3.2⟩, fun k hk => ?_, fun k hk => ?_⟩
  · have := h1 c hc
    unfold IVC okL okE tcN szN at this ⊢
    rw [hr (rCas c) (by simp only [rCas]; omega), hr (rRow c) (by simp only [rRow]; omega), hr (rLe c) (by simp only [rLe]; omega), hr (rLo c) (by simp only [rLo]; omega), hr (rCo c) (by simp only [rCo]; omega)] at this
    exact this
  · have hk20 : k < 20 := by omega
    have := h4 k hk
    unfold IVS plN loN at this ⊢
    rw [hr (rSi k) (by simp only [rSi]; omega)] at this
    exact this
  · have := h5 k hk
    unfold IVT at this ⊢
    rw [hr (rTr k) (by simp only [rTr]; omega), hr (rSt k) (by simp only [rSt]; omega)] at this
    exact this
theorem ReS.mono {M R : wM} {n n' k : Nat} (h : ReS M R n k) (hn : n ≤ n') : ReS M R n' k := by
  obtain ⟨h1, h2, h3, h4, h5, h6, b, b', h7, h8, h9⟩ := h
  exact ⟨h1, h2, h3, h4, h5, h6, b, b', h7, by omega, h9⟩
/-- the time may go on -/
theorem Re.cong9 {M M' R R' : wM} {n n' : Nat} (h : Re M R n) (hn : n ≤ n') (e : ∀ c, c < 2 → ∀ j, j < 23 → M' (30 * c + j) = M (30 * c + j)) (e2 : ∀ r, 61 ≤ r → r < 100 → M' r = M r) (m5 : M' rMain 5 = M rMain 5) (m6 : M' rMain 6 = M rMain 6)
    (f : ∀ r, 101 ≤ r → r ≤ 131 → R' r = R r) (g16 : R' rMod 16 = R rMod 16) (g17 : R' rMod 17 = R rMod 17) (hx : ∃ x, x ≤ 100 * n' ∧ R' rMod 18 = nI x) (hnow : nowM M' = R' rMod 18) : Re M' R' n' := by
  have hsc : scN M' = scN M := by unfold scN; rw [m5]
  have htn : tnN M' = tnN M := by unfold tnN; rw [m6]
  have hs : siN R' = siN R := by unfold siN; rw [g16]
  have ht : trN R' = trN R := by unfold trN; rw [g17]
  obtain ⟨h1, h2, h3, h4, h5, h6, h7, h8, h9, h10, h11, h12⟩ := h
  have hsc20 := h1.2.1.2
  have htn8 := h1.2.2.1.2
  have hS : ∀ k, k < 8 → M' (rSt k) = M (rSt k) := fun k hk => e2 _ (by simp only [rSt]; omega) (by simp only [rSt]; omega)
  refine ⟨h1.cong9 e e2 m5 m6, h2.cong f g16 g17, fun c hc => (h3 c hc).cong (e c hc) f ht, fun c hc => ?_, by rw [hsc, hs]; exact h5, by rw [htn, ht]; exact h6, fun k hk => ?_, fun k hk => ?_, hx, hnow, fun lo hlo => by rw [show M' rWin = M rWin from e2 63 (by decide) (by decide), f 131 (by decide) (by decide)]; exact h11 lo hlo, fun c hc k k' hk hk' => ?_⟩
  · obtain ⟨b, h13, h14, h15⟩ := h4 c hc
    exact ⟨b, h13, by omega, by rw [show M' (rCas c) = M (rCas c) from e c hc 0 (by decide)]; exact h15⟩
  · rw [hsc] at hk
    exact ((h7 k hk).cong (h1.2.2.2.1 k hk).2.1 (e2 _ (by simp only [rSi]; omega) (by simp only [rSi]; omega)) (fun c hc => e c hc 0 (by decide)) f).mono (by omega)
  · rw [htn] at hk
    exact (h8 k hk).cong (e2 _ (by simp only [rTr]; omega) (by simp only [rTr]; omega)) (hS k (by omega)) f
  · rw [htn] at hk hk'
    rw [hS k (by omega), hS k' (by omega)]
    exact h12 c hc k k' hk hk'
theorem Re.mono {M R : wM} {n n' : Nat} (h : Re M R n) (hn : n ≤ n') : Re M R n' := by
  refine h.cong9 hn (fun _ _ _ _ => rfl) (fun _ _ _ => rfl) rfl rfl (fun _ _ _ => rfl) rfl rfl ?_ h.now
  obtain ⟨x, hx, e⟩ := h.2.2.2.2.2.2.2.2.1
  exact ⟨x, by omega, e⟩
theorem nI_addn (a b : Nat) : nI a + nI b = nI (a + b) := by
  unfold nI; rw [Int32.ofNat_add]
theorem op_wait {M R : wM} {n : Nat} (h : Re M R n) (ti : Int32) : kWaitR ti = kWait ti ∧ (kWait ti = 0 → nowM M + ti = nowR R + ti ∧ Re (wr M rMain 7 (nowM M + ti)) (wr (thr R 0) rMod 18 (nowR R + ti)) (n + 1)) := by
  refine ⟨rfl, fun hk => ⟨by rw [h.now], ?_⟩⟩
  obtain ⟨h1, -⟩ := ifk0 (by decide) hk
  simp only [vW, Bool.and_eq_true, decide_eq_true_eq] at h1
  have ht : ∃ t, t ≤ 100 ∧ ti = nI t := by
    obtain ⟨t, ht, e⟩ := vIn_ok (x := ti) (n := 101) (Int32.le_trans (by decide) h1.1) (Int32.lt_of_le_of_lt h1.2 (by decide)) (by decide)
    exact ⟨t, by omega, e⟩
  obtain ⟨t, ht1, rfl⟩ := ht
  refine h.cong9 (by omega) (fun c hc j hj => wr_ne (by show 30 * c + j ≠ 60; omega)) (fun r h1 h2 => wr_ne (by show r ≠ 60; omega)) (wr_othj (by decide)) (wr_othj (by decide)) (fun r h1 h2 => ?_) ?_ ?_ ?_ ?_
  · exact (wr_ne (by show r ≠ 100; omega)).trans (wr_ne (by show r ≠ 100; omega))
  · exact (wr_othj (by decide)).trans (wr_othj (by decide))
  · exact (wr_othj (by decide)).trans (wr_othj (by decide))
  · obtain ⟨x, hx, e⟩ := h.2.2.2.2.2.2.2.2.1
    refine ⟨x + t, by omega, ?_⟩
    rw [wr_same]
    show R rMod 18 + nI t = _
    rw [e, nI_addn]
  · show wr M rMain 7 (nowM M + nI t) rMain 7 = _
    rw [wr_same, wr_same, h.now]
