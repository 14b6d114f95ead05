/-! rise, fall: the calls -/
theorem cUp_ne {M : wM} {c t r : Nat} {wt : Int32} (h : r ≠ rCas c) (h2 : r ≠ rWt c) : cUp M c t wt r = M r := by
  unfold cUp; rw [wr_ne h2, wr_ne h]
theorem riM_at {R : wM} {c t k : Nat} {now : Int32} : riM R c t now 104 k = (if k = c * 7 + t then nI 1 else R 104 k) ∧ riM R c t now 105 k = (if k = c * 7 + t then nI 1 else R 105 k) ∧ riM R c t now 106 k = (if k = c * 7 + t then now else R 106 k) := by
  unfold riM
  refine ⟨?_, ?_, ?_⟩
  · rw [wr_othr (by decide), wr_othr (by decide)]
    by_cases e : k = c * 7 + t
    · rw [e, wr_same, if_pos rfl]
    · rw [wr_othj e, if_neg e]
  · rw [wr_othr (by decide)]
    by_cases e : k = c * 7 + t
    · rw [e, wr_same, if_pos rfl]
    · rw [wr_othj e, if_neg e, wr_othr (by decide)]
  · by_cases e : k = c * 7 + t
    · rw [e, wr_same, if_pos rfl]
    · rw [wr_othj e, if_neg e, wr_othr (by decide), wr_othr (by decide)]
theorem riM_ne {R : wM} {c t r : Nat} {now : Int32} (h1 : r ≠ 104) (h2 : r ≠ 105) (h3 : r ≠ 106) : riM R c t now r = R r := by
  unfold riM; rw [wr_ne h3, wr_ne h2, wr_ne h1]
theorem Re.rise {M R : wM} {n c t : Nat} {now : Int32} (h : Re M R n) (hc : c < 2) (ht : t < tcN M c) : Re (cUp M c t (now + nI 20)) (riM R c t now) n := by
  have ht7 : t < 7 := Nat.lt_of_lt_of_le ht (h.tc7 hc)
  have hC := h.c hc
  have rn : ∀ r, r ≠ 104 → r ≠ 105 → r ≠ 106 → riM R c t now r = R r := fun r h1 h2 h3 => riM_ne h1 h2 h3
  have mr : ∀ j, j < 23 → j ≠ 0 → j ≠ 1 → cUp M c t (now + nI 20) (30 * c + j) = M (30 * c + j) := fun j _ hj hg => cUp_ne (by simp only [rCas]; omega) (by simp only [rWt]; omega)
  have e0 : ∀ j, j ≠ 3 → cUp M c t (now + nI 20) (rCas c) j = M (rCas c) j := fun j hj => by unfold cUp; rw [wr_othr (by simp only [rCas, rWt]; omega), wr_othj hj]
  have e3 : cUp M c t (now + nI 20) (rCas c) 3 = M (rCas c) 3 ||| (nI 1 <<< (nI t &&& 31)) := by unfold cUp; rw [wr_othr (by simp only [rCas, rWt]; omega), wr_same]
  have trn : trN (riM R c t now) = trN R := by unfold trN; rw [rn rMod (by decide) (by decide) (by decide)]
  obtain ⟨k1, k2⟩ := Mk.se (h.up hc) ht7
  refine h.cas hc (hC.tow (e0 0 (by decide)) (e0 1 (by decide)) (fun j h1 h2 => mr j h2 (by omega) (by omega)) (fun g hg => mr (7 + 4 * g) (by omega) (by omega) (by omega)) (fun r h1 h2 => by rw [rn r (by omega) (by omega) (by omega)]) (fun g lo' _ _ => by rw [rn 110 (by decide) (by decide) (by decide)]) (fun r k h1 h2 _ => by rw [rn r (by omega) (by omega) (by omega)]) (Nat.le_of_eq trn.symm) (fun j _ => by rw [rn 127 (by decide) (by decide) (by decide)]) (h.sz60 hc) (by rw [e3]; exact k1) (fun x hx => by rw [show cUp M c t (now + nI 20) (rCt c) = M (rCt c) from mr 2 (by decide) (by decide) (by decide)]; exact h.ct hc hx) (fun u hu => ?_))
    ((h.1.1 c hc).cong (e0 0 (by decide)) (mr 16 (by decide) (by decide) (by decide)) (mr 17 (by decide) (by decide) (by decide)) (mr 19 (by decide) (by decide) (by decide)) (mr 22 (by decide) (by decide) (by decide))) ?_ (e0 2 (by decide)) (fun c' hc' hne j hj => cUp_ne (by simp only [rCas]; omega) (by simp only [rWt]; omega)) (fun r h1 h2 => cUp_ne (by simp only [rCas]; omega) (by simp only [rWt]; omega)) (fun c' hc' hne r k h1 h2 hk => ?_) (fun r h1 h2 => rn r (by omega) (by omega) (by omega)) (by rw [rn rMod (by decide) (by decide) (by decide)]) (by rw [rn rMod (by decide) (by decide) (by decide)]) (by rw [rn rMod (by decide) (by decide) (by decide)])
  · have tc : tcN (cUp M c t (now + nI 20)) c = tcN M c := by unfold tcN; rw [e0 0 (by decide)]
    obtain ⟨a1, a2, a3, a4, a5⟩ := h.t hc hu
    obtain ⟨q1, q2, q3⟩ := riM_at (R := R) (c := c) (t := t) (k := c * 7 + u) (now := now)
    refine ⟨fun h9 => ?_, fun h9 => ?_, fun x hx => ?_, fun g hg => ⟨?_, ?_⟩, fun h9 hup => ?_⟩
    · rw [tc] at h9
      rw [e3, k2 u hu, a1 h9, q1]
      by_cases e : u = t
      · subst e; rw [if_pos rfl]; simp [show ¬ (nI 1 : Int32) = 0 by decide]
      · rw [if_neg (by omega)]; simp [e]
    · rw [tc] at h9
      rw [e3, k2 u hu, a2 h9]
      simp; omega
    · rw [show cUp M c t (now + nI 20) (rCt c) = M (rCt c) from mr 2 (by decide) (by decide) (by decide), rn 107 (by decide) (by decide) (by decide)]; exact a3 x hx
    · rw [show cUp M c t (now + nI 20) (rVL c g) = M (rVL c g) from mr (5 + 4 * g) (by omega) (by omega) (by omega), rn 108 (by decide) (by decide) (by decide)]; exact (a4 g hg).1
    · rw [show cUp M c t (now + nI 20) (rVT c g) = M (rVT c g) from mr (6 + 4 * g) (by omega) (by omega) (by omega), rn 109 (by decide) (by decide) (by decide)]; exact (a4 g hg).2
    · rw [tc] at h9
      rw [q2, q3]
      by_cases e : u = t
      · subst e
        rw [if_pos rfl, if_pos rfl]
        refine Or.inr ⟨by decide, ?_⟩
        unfold cUp; rw [wr_same]
      · rw [q1, if_neg (by omega)] at hup
        rw [if_neg (by omega), if_neg (by omega), show cUp M c t (now + nI 20) (rWt c) u = M (rWt c) u by unfold cUp; rw [wr_othj e, wr_othr (by simp only [rCas, rWt]; omega)]]
        exact a5 h9 hup
  · obtain ⟨v1, v2, v3, v4, v5, v6, v7⟩ := h.2.1.1 c hc
    have m1 : mnN (riM R c t now) c = mnN R c := by unfold mnN; rw [rn 101 (by decide) (by decide) (by decide)]
    have m2 : wrN (riM R c t now) c = wrN R c := by unfold wrN; rw [rn 103 (by decide) (by decide) (by decide)]
    refine ⟨by rw [m1, rn 101 (by decide) (by decide) (by decide)]; exact v1, by rw [m1]; exact v2, by rw [m2, rn 103 (by decide) (by decide) (by decide)]; exact v3, by rw [m2]; exact v4, ?_, ?_, fun u hu => ⟨?_, fun x hx => ?_⟩⟩
    · unfold okB; rw [m2, rn 111 (by decide) (by decide) (by decide), rn 113 (by decide) (by decide) (by decide), rn 114 (by decide) (by decide) (by decide)]; exact v5
    · unfold okEr; rw [m2, rn 111 (by decide) (by decide) (by decide)]; exact v6
    · rw [(riM_at (k := c * 7 + u)).1]
      split
      · decide
      · exact (v7 u hu).1
    · rw [rn 107 (by decide) (by decide) (by decide)]; exact (v7 u hu).2 x hx
  · obtain ⟨q1, q2, q3⟩ := riM_at (R := R) (c := c) (t := t) (k := c' * rsz r + k) (now := now)
    by_cases e4 : r = 104
    · subst e4; rw [q1, if_neg]; have : rsz 104 = 7 := rfl; rw [this] at hk ⊢; omega
    · by_cases e5 : r = 105
      · subst e5; rw [q2, if_neg]; have : rsz 105 = 7 := rfl; rw [this] at hk ⊢; omega
      · by_cases e9 : r = 106
        · subst e9; rw [q3, if_neg]; have : rsz 106 = 7 := rfl; rw [this] at hk ⊢; omega
        · rw [rn r e4 e5 e9]
theorem kTow_ok {M R : wM} {n : Nat} (h : Re M R n) {ca to : Int32} (hk : kTow M ca to = 0) : cI ca < 2 ∧ cI to < tcN M (cI ca) ∧ cI to < 7 := by
  obtain ⟨h1, -⟩ := ifk0 (by decide) hk
  simp only [vC, Bool.and_eq_true] at h1
  have hc := vIn_cI h1.1 (by decide)
  have ht := vIn_cI h1.2 (Nat.lt_of_le_of_lt (h.tc7 hc) (by decide))
  exact ⟨hc, ht, Nat.lt_of_lt_of_le ht (h.tc7 hc)⟩
theorem kTow_eq {M R : wM} {n : Nat} (h : Re M R n) (ca to : Int32) : kTowR R ca to = kTow M ca to := by
  unfold kTowR kTow; rw [h.tT]
theorem op_fall {M R : wM} {n : Nat} (h : Re M R n) (ca to : Int32) (hk : kTow M ca to = 0) : hasB (M (rCas (cI ca)) 3) (cI to) = decide (¬ R 104 (cI ca * 7 + cI to) = 0) ∧ Re (dnN M (cI ca) (cI to) 3) (dwN (thr R 0) (cI ca) (cI to) 3) n := by
  obtain ⟨hc, ht, ht7⟩ := kTow_ok h hk
  exact ⟨(h.t hc ht7).1 ht, (h.onK (k := 0)).down hc ht7⟩
theorem op_rise {M R : wM} {n : Nat} (h : Re M R n) (ca to : Int32) (hk : kTow M ca to = 0) : (!hasB (M (rCas (cI ca)) 3) (cI to)) = decide (R 104 (cI ca * 7 + cI to) = 0) ∧
    Re (if hasB (M (rCas (cI ca)) 3) (cI to) = true then M else cUp M (cI ca) (cI to) (nowM M + nI 20)) (if R 104 (cI ca * 7 + cI to) = 0 then riM (thr R 0) (cI ca) (cI to) (nowR R) else thr R 0) n := by
  obtain ⟨hc, ht, ht7⟩ := kTow_ok h hk
  have e := (h.t hc ht7).1 ht
  refine ⟨by rw [e]; simp, ?_⟩
  rw [e]
  by_cases h9 : R 104 (cI ca * 7 + cI to) = 0
  · rw [if_neg (by simp [h9]), if_pos h9, h.now]
    exact (h.onK (k := 0)).rise hc ht
  · rw [if_pos (by simp [h9]), if_neg h9]
    exact h.onK
