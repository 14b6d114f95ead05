/-! build: the relation behind it -/
theorem Re.raise {M R : wM} {n c t0 g0 : Nat} (h : Re M R n) (hn : n ≤ 512) (hc : c < 2) (ht1 : 1 ≤ t0) (ht7 : t0 ≤ 7) (hg9 : g0 ≤ 9999) : Re (cRaise M c (nI t0) (nI g0)) (raS R c (nI t0) (nI g0) (siN R)) (n + 1) := by
  generalize htw : nI t0 = tw
  generalize hgd : nI g0 = gd
  generalize hM9 : cRaise M c tw gd = M'
  generalize hR9 : raS R c tw gd (siN R) = R'
  obtain ⟨c0, c1, c2, c3, c4, c5, c6, c7⟩ := cR_at (M := M) (c := c) (tw := tw) (gd := gd)
  rw [hM9] at c0 c1 c2 c3 c4 c5 c6 c7
  have mr : ∀ r, r ≠ rCas c → r ≠ rWt c → r ≠ rCt c → (∀ g, g < 3 → r ≠ rVT c g ∧ r ≠ rLT c g) → r ≠ rRow c → M' r = M r := fun r a b d e f => by rw [← hM9]; exact cR_ne a b d e f
  have rn : ∀ r, r ≠ 101 → r ≠ 102 → r ≠ 103 → r ≠ 104 → r ≠ 105 → r ≠ 107 → r ≠ 109 → r ≠ 110 → r ≠ 126 → R' r = R r := fun r a1 a2 a3 a4 a5 a7 a9 a10 a26 => by rw [← hR9]; exact raS_ne a1 a2 a3 a4 a5 a7 a9 a10 a26
  have rT : ∀ r, r ≠ 126 → r ≠ 110 → R' r = raT R c tw gd 7 r := fun r a b => by rw [← hR9, raS_ne7 a, raL_ne7 b]
  have r110 : ∀ k, R' 110 k = if c * 12 ≤ k ∧ k < c * 12 + 12 then nI 0 else R 110 k := fun k => by rw [← hR9, raS_ne7 (by decide), raL_at]
  have r126 : ∀ k, R' 126 k = if k < siN R then (if R 126 k = 0 then (if R 122 k = nI c then nI 1 else nI 0) else nI 1) else R 126 k := fun k => by rw [← hR9, raS_at]
  have r104 : ∀ k, R' 104 k = if c * 7 ≤ k ∧ k < c * 7 + 7 then nI 1 else R 104 k := fun k => by rw [rT 104 (by decide) (by decide)]; exact (raT_at (k := k)).1
  have r105 : ∀ k, R' 105 k = if c * 7 ≤ k ∧ k < c * 7 + 7 then nI 0 else R 105 k := fun k => by rw [rT 105 (by decide) (by decide)]; exact (raT_at (k := k)).2.1
  have r107 : ∀ k, R' 107 k = if c * 28 ≤ k ∧ k < c * 28 + 28 then nI 0 else R 107 k := fun k => by rw [rT 107 (by decide) (by decide)]; exact (raT_at (k := k)).2.2.1
  have r109 : ∀ k, R' 109 k = if c * 21 ≤ k ∧ k < c * 21 + 21 then nI 0 else R 109 k := fun k => by rw [rT 109 (by decide) (by decide)]; exact (raT_at (k := k)).2.2.2.1
  have r101 : ∀ k, R' 101 k = if k = c then tw else R 101 k := fun k => by rw [rT 101 (by decide) (by decide)]; exact (raT_at (k := k)).2.2.2.2.1
  have r102 : ∀ k, R' 102 k = if k = c then gd else R 102 k := fun k => by rw [rT 102 (by decide) (by decide)]; exact (raT_at (k := k)).2.2.2.2.2.1
  have r103 : ∀ k, R' 103 k = if k = c then nI 0 else R 103 k := fun k => by rw [rT 103 (by decide) (by decide)]; exact (raT_at (k := k)).2.2.2.2.2.2
  have fM : R' rMod = R rMod := rn rMod (by decide) (by decide) (by decide) (by decide) (by decide) (by decide) (by decide) (by decide) (by decide)
  have mo : ∀ r, 60 ≤ r → M' r = M r := fun r hr => mr r (by simp only [rCas]; omega) (by simp only [rWt]; omega) (by simp only [rCt]; omega) (fun g hg => ⟨by simp only [rVT]; omega, by simp only [rLT]; omega⟩) (by simp only [rRow]; omega)
  have mc : ∀ c', c' < 2 → c' ≠ c → ∀ j, j < 23 → M' (30 * c' + j) = M (30 * c' + j) := fun c' hc' hne j hj => mr _ (by simp only [rCas]; omega) (by simp only [rWt]; omega) (by simp only [rCt]; omega) (fun g hg => ⟨by simp only [rVT]; omega, by simp only [rLT]; omega⟩) (by simp only [rRow]; omega)
  have eM : M' rMain = M rMain := mo 60 (by decide)
  have hsc : scN M' = scN M := by unfold scN; rw [eM]
  have htn : tnN M' = tnN M := by unfold tnN; rw [eM]
  have hs : siN R' = siN R := by unfold siN; rw [fM]
  have ht : trN R' = trN R := by unfold trN; rw [fM]
  have tc : tcN M' c = t0 := by unfold tcN; rw [c0, ← htw]; exact nI_clamp (by omega)
  have sz : szN M' c = 0 := by unfold szN; rw [c7]; rfl
  have mn : mnN R' c = t0 := by unfold mnN; rw [r101, if_pos rfl, ← htw]; exact nI_clamp (by omega)
  have wn : wrN R' c = 0 := by unfold wrN; rw [r103, if_pos rfl]; rfl
  have fl : ((nI 1 : Int32) <<< (tw &&& 31)) - nI 1 = ((nI 1 : Int32) <<< (nI t0 &&& 31)) - nI 1 := by rw [htw]
  obtain ⟨f1, f2⟩ := Mk.full (m := t0) ht7
  rw [← fl, ← c3] at f1 f2
  have hsc0 := h.sc
  have hsc20 := h.sc20
  have htn8 := h.tn8
  obtain ⟨h1, h2, h3, h4, h5, h6, h7, h8, h9, h10, h11, h12⟩ := h
  obtain ⟨b, hb1, hb2, hb3⟩ := h4 c hc
  have hbu : M' (rCas c) 2 = nI (b + 1) := by rw [c2, hb3]; exact nI_addn b 1
  have hC' : ∀ c', c' < 2 → c' ≠ c → M' (rCas c') = M (rCas c') := fun c' hc' hne => mc c' hc' hne 0 (by decide)
  refine ⟨⟨fun c' hc' => ?_, by rw [hsc, eM]; exact h1.2.1, by rw [htn, eM]; exact h1.2.2.1, fun k hk => ?_, fun k hk => ?_⟩, ⟨fun c' hc' => ?_, by rw [hs, fM]; exact h2.2.1, by rw [ht, fM]; exact h2.2.2.1, fun k hk => ?_, fun k hk => ?_⟩, fun c' hc' => ?_, fun c' hc' => ?_, by rw [hsc, hs]; exact h5, by rw [htn, ht]; exact h6, fun k hk => ?_, fun k hk => ?_, ?_, by show M' rMain 7 = _; rw [eM, fM]; exact h10, fun lo hlo => by rw [mo rWin (by decide), rn 131 (by decide) (by decide) (by decide) (by decide) (by decide) (by decide) (by decide) (by decide) (by decide)]; exact h11 lo hlo, fun c' hc' k k' hk hk' => ?_⟩
  · by_cases e : c' = c
    · subst e
      refine ⟨by rw [c0, tc, htw], by rw [tc]; exact ht7, by rw [c7, sz], by rw [sz]; omega, fun j hj => ?_, fun j hj => ?_⟩
      · rw [sz] at hj; omega
      · rw [sz] at hj; omega
    · exact (h1.1 c' hc').cong (by rw [hC' c' hc' e]) (mc c' hc' e 16 (by decide)) (mc c' hc' e 17 (by decide)) (mc c' hc' e 19 (by decide)) (mc c' hc' e 22 (by decide))
  · rw [hsc] at hk
    have := h1.2.2.2.1 k hk
    unfold IVS plN loN at this ⊢
    rw [mo (rSi k) (by simp only [rSi]; omega)]; exact this
  · rw [htn] at hk
    have := h1.2.2.2.2 k hk
    unfold IVT at this ⊢
    rw [mo (rTr k) (by simp only [rTr]; omega), mo (rSt k) (by simp only [rSt]; omega)]; exact this
  · by_cases e : c' = c
    · subst e
      refine ⟨by rw [r101, if_pos rfl, mn, htw], by rw [mn]; exact ht7, by rw [r103, if_pos rfl, wn], by rw [wn]; omega, fun j hj => ?_, fun j hj => ?_, fun t ht9 => ⟨?_, fun lo hlo => ?_⟩⟩
      · rw [wn] at hj; omega
      · rw [wn] at hj; omega
      · rw [r104, if_pos (by omega)]; decide
      · rw [r107, if_pos (by omega)]; decide
    · refine (h2.1 c' hc').congP (fun r k a b' hk => ?_)
      by_cases x1 : r = 101
      · subst x1; rw [r101, if_neg]; have : rsz 101 = 1 := rfl; rw [this] at hk ⊢; omega
      · by_cases x2 : r = 102
        · subst x2; rw [r102, if_neg]; have : rsz 102 = 1 := rfl; rw [this] at hk ⊢; omega
        · by_cases x3 : r = 103
          · subst x3; rw [r103, if_neg]; have : rsz 103 = 1 := rfl; rw [this] at hk ⊢; omega
          · by_cases x4 : r = 104
            · subst x4; rw [r104, if_neg]; have : rsz 104 = 7 := rfl; rw [this] at hk ⊢; omega
            · by_cases x5 : r = 105
              · subst x5; rw [r105, if_neg]; have : rsz 105 = 7 := rfl; rw [this] at hk ⊢; omega
              · by_cases x7 : r = 107
                · subst x7; rw [r107, if_neg]; have : rsz 107 = 28 := rfl; rw [this] at hk ⊢; omega
                · by_cases x9 : r = 109
                  · subst x9; rw [r109, if_neg]; have : rsz 109 = 21 := rfl; rw [this] at hk ⊢; omega
                  · by_cases x10 : r = 110
                    · subst x10; rw [r110, if_neg]; have : rsz 110 = 12 := rfl; rw [this] at hk ⊢; omega
                    · rw [rn r x1 x2 x3 x4 x5 x7 x9 x10 (by omega)]
  · rw [hs] at hk
    have := h2.2.2.2.1 k hk
    unfold RVS scC scL at this ⊢
    rw [rn 121 (by decide) (by decide) (by decide) (by decide) (by decide) (by decide) (by decide) (by decide) (by decide), rn 122 (by decide) (by decide) (by decide) (by decide) (by decide) (by decide) (by decide) (by decide) (by decide)]; exact this
  · rw [ht] at hk
    have := h2.2.2.2.2 k hk
    unfold RVT at this ⊢
    rw [rn 129 (by decide) (by decide) (by decide) (by decide) (by decide) (by decide) (by decide) (by decide) (by decide), rn 130 (by decide) (by decide) (by decide) (by decide) (by decide) (by decide) (by decide) (by decide) (by decide)]; exact this
  · by_cases e : c' = c
    · subst e
      refine ⟨by rw [r101, if_pos rfl, tc, htw], by rw [tc]; exact ht1, ⟨g0, hg9, by rw [c1, hgd]⟩, by rw [r102, if_pos rfl, c1], by rw [r103, if_pos rfl, sz], f1, fun lo hlo => by rw [c5 lo hlo]; exact Mk.zero.1, fun t ht9 => ⟨fun h9 => ?_, fun h9 => ?_, fun lo hlo => ?_, fun g hg => ⟨?_, ?_⟩, fun h9 _ => ?_⟩, fun g hg lo hlo => ?_, fun k hk => ?_⟩
      · rw [tc] at h9
        rw [f2 t ht9, r104, if_pos (by omega), decide_eq_true h9]; decide
      · rw [tc] at h9
        rw [f2 t ht9]; exact decide_eq_false (by omega)
      · rw [c5 lo hlo, r107, if_pos (by omega), Mk.zero.2 t ht9]; decide
      · rw [mr (rVL c' g) (by simp only [rCas, rVL]; omega) (by simp only [rWt, rVL]; omega) (by simp only [rCt, rVL]; omega) (fun g' hg' => ⟨by simp only [rVT, rVL]; omega, by simp only [rLT, rVL]; omega⟩) (by simp only [rRow, rVL]; omega), rn 108 (by decide) (by decide) (by decide) (by decide) (by decide) (by decide) (by decide) (by decide) (by decide)]
        exact (((h3 c' hc').2.2.2.2.2.2.2.1 t ht9).2.2.2.1 g hg).1
      · rw [(c6 g hg).1 t ht9, r109, if_pos (by omega)]
      · left
        rw [r105, if_pos (by omega), c4 t ht9]; exact ⟨rfl, rfl⟩
      · rw [(c6 g hg).2 lo hlo, r110, if_pos (by omega)]
      · rw [sz] at hk; omega
    · refine (h3 c' hc').congP (mc c' hc' e) (fun r k a b' hk => ?_) (by rw [ht]; exact Nat.le_refl _) (fun j _ => by rw [rn 127 (by decide) (by decide) (by decide) (by decide) (by decide) (by decide) (by decide) (by decide) (by decide)]) (h1.1 c' hc').2.2.2.1
      by_cases x1 : r = 101
      · subst x1; rw [r101, if_neg]; have : rsz 101 = 1 := rfl; rw [this] at hk ⊢; omega
      · by_cases x2 : r = 102
        · subst x2; rw [r102, if_neg]; have : rsz 102 = 1 := rfl; rw [this] at hk ⊢; omega
        · by_cases x3 : r = 103
          · subst x3; rw [r103, if_neg]; have : rsz 103 = 1 := rfl; rw [this] at hk ⊢; omega
          · by_cases x4 : r = 104
            · subst x4; rw [r104, if_neg]; have : rsz 104 = 7 := rfl; rw [this] at hk ⊢; omega
            · by_cases x5 : r = 105
              · subst x5; rw [r105, if_neg]; have : rsz 105 = 7 := rfl; rw [this] at hk ⊢; omega
              · by_cases x7 : r = 107
                · subst x7; rw [r107, if_neg]; have : rsz 107 = 28 := rfl; rw [this] at hk ⊢; omega
                · by_cases x9 : r = 109
                  · subst x9; rw [r109, if_neg]; have : rsz 109 = 21 := rfl; rw [this] at hk ⊢; omega
                  · by_cases x10 : r = 110
                    · subst x10; rw [r110, if_neg]; have : rsz 110 = 12 := rfl; rw [this] at hk ⊢; omega
                    · rw [rn r x1 x2 x3 x4 x5 x7 x9 x10 (by omega)]
  · by_cases e : c' = c
    · subst e; exact ⟨b + 1, by omega, by omega, hbu⟩
    · obtain ⟨b', hb1', hb2', hb3'⟩ := h4 c' hc'
      exact ⟨b', hb1', by omega, by rw [hC' c' hc' e]; exact hb3'⟩
  · rw [hsc] at hk
    obtain ⟨s1, s2, s3, s4, s5, s6, s7⟩ := h7 k hk
    have es : M' (rSi k) = M (rSi k) := mo (rSi k) (by simp only [rSi]; omega)
    have pl : plN M' k = plN M k := by unfold plN; rw [es]
    obtain ⟨pp, hp, -, -⟩ := h1.2.2.2.1 k hk
    have r0 : ∀ r, r ≠ 101 → r ≠ 102 → r ≠ 103 → r ≠ 104 → r ≠ 105 → r ≠ 107 → r ≠ 109 → r ≠ 110 → r ≠ 126 → R' r k = R r k := fun r a1 a2 a3 a4 a5 a7 a9 a10 a26 => by rw [rn r a1 a2 a3 a4 a5 a7 a9 a10 a26]
    have ks : k < siN R := by omega
    have r26 : R' 126 k = (if R 126 k = 0 then (if R 122 k = nI c then nI 1 else nI 0) else nI 1) := by rw [r126, if_pos ks]
    obtain ⟨q, q', q1, q2, q3, q4⟩ := s7
    refine ⟨by rw [es, r0 122 (by decide) (by decide) (by decide) (by decide) (by decide) (by decide) (by decide) (by decide) (by decide)]; exact s1, by rw [es, r0 121 (by decide) (by decide) (by decide) (by decide) (by decide) (by decide) (by decide) (by decide) (by decide)]; exact s2, by rw [es, r0 123 (by decide) (by decide) (by decide) (by decide) (by decide) (by decide) (by decide) (by decide) (by decide)]; exact s3, by rw [es, r0 124 (by decide) (by decide) (by decide) (by decide) (by decide) (by decide) (by decide) (by decide) (by decide)]; exact s4, by rw [es, r0 125 (by decide) (by decide) (by decide) (by decide) (by decide) (by decide) (by decide) (by decide) (by decide)]; exact s5, ?_, ?_⟩
    · rw [pl, es, r26]
      by_cases e : plN M k = c
      · rw [e, hbu, q3]
        have hne : ¬ nI (b + 1) = nI q := by
          intro z
          rw [e, hb3] at q4
          have e1 := nI_inj2 (a := b) (b := q') (n := 2000) (by omega) (by omega) (by decide) q4
          have e2 := nI_inj2 (a := b + 1) (b := q) (n := 2000) (by omega) (by omega) (by decide) z
          omega
        rw [← s1, pp, e]
        rw [decide_eq_true hne, if_pos (rfl : nI c = nI c)]
        split <;> decide
      · rw [hC' _ hp e, s6]
        have hne : ¬ R 122 k = nI c := by
          rw [← s1, pp]
          intro z
          exact e (nI_inj2 (n := 2) hp hc (by decide) z)
        rw [if_neg hne]
        by_cases e2 : R 126 k = 0
        · rw [if_pos e2]; simp [e2]; decide
        · rw [if_neg e2]; simp [e2]; decide
    · rw [pl, es]
      by_cases e : plN M k = c
      · rw [e, hb3] at q4
        have e1 := nI_inj2 (a := b) (b := q') (n := 2000) (by omega) (by omega) (by decide) q4
        rw [e]
        exact ⟨q, b + 1, by omega, by omega, q3, hbu⟩
      · rw [hC' _ hp e]
        exact ⟨q, q', q1, by omega, q3, q4⟩
  · rw [htn] at hk
    obtain ⟨p1, p2, p3, p4, p5, p6⟩ := h8 k hk
    have et : M' (rTr k) = M (rTr k) := mo (rTr k) (by simp only [rTr]; omega)
    have es : M' (rSt k) = M (rSt k) := mo (rSt k) (by simp only [rSt]; omega)
    have f7 : R' 127 = R 127 := rn 127 (by decide) (by decide) (by decide) (by decide) (by decide) (by decide) (by decide) (by decide) (by decide)
    have f8 : R' 128 = R 128 := rn 128 (by decide) (by decide) (by decide) (by decide) (by decide) (by decide) (by decide) (by decide) (by decide)
    have f9 : R' 129 = R 129 := rn 129 (by decide) (by decide) (by decide) (by decide) (by decide) (by decide) (by decide) (by decide) (by decide)
    have f0 : R' 130 = R 130 := rn 130 (by decide) (by decide) (by decide) (by decide) (by decide) (by decide) (by decide) (by decide) (by decide)
    exact ⟨by rw [et, f7]; exact p1, by rw [et, f8]; exact p2, by rw [et, f9]; exact p3, fun c hc => by rw [es, f0]; exact p4 c hc, by rw [f7]; exact p5, by rw [f8]; exact p6⟩
  · rw [fM]
    obtain ⟨x, hx, ex⟩ := h9
    exact ⟨x, by omega, ex⟩
  · rw [htn] at hk hk'
    rw [mo (rSt k) (by simp only [rSt]; omega), mo (rSt k') (by simp only [rSt]; omega)]
    exact h12 c' hc' k k' hk hk'
theorem op_build {M R : wM} {n : Nat} (h : Re M R n) (hn : n ≤ 512) (ca tw gd : Int32) : kBuildR R ca tw gd = kBuild M ca tw gd ∧ (kBuild M ca tw gd = 0 → nI (szN M (cI ca)) = nI (wrN R (cI ca))) ∧
    Re (if kBuild M ca tw gd = 0 then cRaise M (cI ca) tw gd else M) (buildR R ca tw gd) (n + 1) := by
  have h0 : Re M (thr R 0) n := h.onK
  have hK : kBuildR R ca tw gd = kBuild M ca tw gd := by
    unfold kBuildR kBuild vC
    rw [vBR_eq]
    cases e : vIn ca 2 with
    | false => simp only [Bool.false_eq_true, if_false]
    | true =>
      have hc := vIn_cI e (by decide)
      have ho : (prN (thr R 0) (cI ca) (trN R) < 0) ↔ (opT M (cI ca) < 0) := h0.opn hc
      simp only [ho]
  refine ⟨hK, fun hk => ?_, ?_⟩
  · obtain ⟨h1, -⟩ := ifk0 (by decide) hk
    rw [h.wn (vIn_cI h1 (by decide))]
  · unfold buildR
    rw [hK]
    by_cases hk : kBuild M ca tw gd = 0
    · rw [if_pos hk, if_pos hk]
      obtain ⟨h1, h2⟩ := ifk0 (by decide) hk
      obtain ⟨h3, -⟩ := ifk0 (by decide) h2
      obtain ⟨⟨t, t1, t7, rfl⟩, g, g9, rfl⟩ := vB_ok h3
      exact h0.raise hn (vIn_cI h1 (by decide)) t1 t7 g9
    · rw [if_neg hk, if_neg hk]; exact (h.onK).mono (by omega)
