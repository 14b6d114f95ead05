/-! cut -/
theorem IVC.cong {M M' : wM} {c : Nat} (h : IVC M c) (e0 : M' (rCas c) 0 = M (rCas c) 0) (e16 : M' (rRow c) = M (rRow c)) (e17 : M' (rLe c) = M (rLe c)) (e19 : M' (rLo c) = M (rLo c)) (e22 : M' (rCo c) = M (rCo c)) : IVC M' c := by
  unfold IVC okL okE tcN szN at h ⊢
  rw [e0, e16, e17, e19, e22]; exact h
theorem cCut_ne {M : wM} {c t lo r : Nat} {is : Bool} (h : r ≠ rCt c) : cCut M c t lo is r = M r := by
  unfold cCut; split
  · rfl
  · rw [wr_ne h]
theorem cCut_at {M : wM} {c t lo : Nat} {is : Bool} (ht : t < 7) (hm : ∀ lo, lo < 4 → Mk (M (rCt c) lo)) (hlo : lo < 4) {x : Nat} (hx : x < 4) : Mk (cCut M c t lo is (rCt c) x) ∧ ∀ u, u < 7 → hasB (cCut M c t lo is (rCt c) x) u = if x = lo ∧ u = t then is else hasB (M (rCt c) x) u := by
  unfold cCut
  split
  · rename_i h9
    refine ⟨hm x hx, fun u _ => ?_⟩
    split
    · rename_i h8; rw [h8.1, h8.2]; exact h9
    · rfl
  · rename_i h9
    by_cases e : x = lo
    · subst e
      rw [wr_same]
      obtain ⟨a, b⟩ := Mk.xo (hm x hx) ht
      refine ⟨a, fun u hu => ?_⟩
      rw [b u hu]
      by_cases e2 : u = t
      · subst e2
        rw [if_pos ⟨rfl, rfl⟩]
        revert h9
        cases hasB (M (rCt c) x) u <;> cases is <;> simp
      · rw [if_neg (fun z => e2 z.2)]; simp [e2]
    · rw [wr_othj e]
      refine ⟨hm x hx, fun u _ => ?_⟩
      rw [if_neg (fun z => e z.1)]
theorem b2i_nz {b : Bool} : decide (¬ b2i b = 0) = b := by cases b <;> decide
theorem Re.cut {M R : wM} {n c t lo : Nat} (h : Re M R n) (hc : c < 2) (ht : t < 7) (hlo : lo < 4) (is : Bool) : Re (cCut M c t lo is) (wr R 107 ((c * 7 + t) * 4 + lo) (b2i is)) n := by
  have hC := h.c hc
  have rn : ∀ r, r ≠ 107 → wr R 107 ((c * 7 + t) * 4 + lo) (b2i is) r = R r := fun r hr => wr_ne hr
  have mr : ∀ j, j < 23 → j ≠ 2 → cCut M c t lo is (30 * c + j) = M (30 * c + j) := fun j _ hj => cCut_ne (by simp only [rCt]; omega)
  have e0 : cCut M c t lo is (rCas c) = M (rCas c) := mr 0 (by decide) (by decide)
  have trn : trN (wr R 107 ((c * 7 + t) * 4 + lo) (b2i is)) = trN R := rfl
  have hm := hC.2.2.2.2.2.2.1
  refine h.cas hc (hC.tow (by rw [e0]) (by rw [e0]) (fun j h1 h2 => mr j h2 (by omega)) (fun g hg => mr (7 + 4 * g) (by omega) (by omega)) (fun r h1 h2 => by rw [rn r (by omega)]) (fun g lo' _ _ => by rw [rn 110 (by decide)]) (fun r k h1 h2 _ => by rw [rn r (by omega)]) (Nat.le_of_eq trn.symm) (fun j _ => by rw [rn 127 (by decide)]) (h.sz60 hc) (by rw [e0]; exact h.up hc) (fun x hx => (cCut_at ht hm hlo hx).1) (fun u hu => ?_))
    ((h.1.1 c hc).cong (by rw [e0]) (mr 16 (by decide) (by decide)) (mr 17 (by decide) (by decide)) (mr 19 (by decide) (by decide)) (mr 22 (by decide) (by decide))) ?_ (by rw [e0]) (fun c' hc' hne j hj => cCut_ne (by simp only [rCt]; omega)) (fun r h1 h2 => cCut_ne (by simp only [rCt]; omega)) (fun c' hc' hne r k h1 h2 hk => ?_) (fun r h1 h2 => rn r (by omega)) rfl rfl rfl
  · have tc : tcN (cCut M c t lo is) c = tcN M c := by unfold tcN; rw [e0]
    obtain ⟨a1, a2, a3, a4, a5⟩ := h.t hc hu
    refine ⟨by rw [tc, e0, rn 104 (by decide)]; exact a1, by rw [tc, e0]; exact a2, fun x hx => ?_, fun g hg => ?_, ?_⟩
    · rw [(cCut_at ht hm hlo hx).2 u hu]
      by_cases e9 : x = lo ∧ u = t
      · obtain ⟨rfl, rfl⟩ := e9
        rw [if_pos ⟨rfl, rfl⟩, wr_same, b2i_nz]
      · rw [if_neg e9, wr_othj (by omega)]; exact a3 x hx
    · rw [show cCut M c t lo is (rVL c g) = M (rVL c g) from mr (5 + 4 * g) (by omega) (by omega), show cCut M c t lo is (rVT c g) = M (rVT c g) from mr (6 + 4 * g) (by omega) (by omega), rn 108 (by decide), rn 109 (by decide)]; exact a4 g hg
    · rw [tc, show cCut M c t lo is (rWt c) = M (rWt c) from mr 1 (by decide) (by decide), rn 104 (by decide), rn 105 (by decide), rn 106 (by decide)]; exact a5
  · obtain ⟨v1, v2, v3, v4, v5, v6, v7⟩ := h.2.1.1 c hc
    refine ⟨v1, v2, v3, v4, v5, v6, fun u hu => ⟨?_, fun x hx => ?_⟩⟩
    · rw [rn 104 (by decide)]; exact (v7 u hu).1
    · by_cases e9 : (c * 7 + u) * 4 + x = (c * 7 + t) * 4 + lo
      · rw [e9, wr_same]; exact b2i_nar _
      · rw [wr_othj e9]; exact (v7 u hu).2 x hx
  · by_cases e9 : r = 107
    · subst e9
      refine wr_othj ?_
      have : rsz 107 = 28 := rfl
      rw [this] at hk ⊢
      omega
    · rw [rn r e9]
theorem op_cut {M R : wM} {n : Nat} (h : Re M R n) (ca to lo : Int32) (is : Bool) : kCutR R ca to lo = kCut M ca to lo ∧ (kCut M ca to lo = 0 → hasB (M (rCt (cI ca)) (cI lo)) (cI to) = decide (¬ R 107 ((cI ca * 7 + cI to) * 4 + cI lo) = 0) ∧ Re (cCut M (cI ca) (cI to) (cI lo) is) (wr (thr R 0) 107 ((cI ca * 7 + cI to) * 4 + cI lo) (b2i is)) n) := by
  unfold kCutR kCut
  rw [h.tT, Bool.and_assoc]
  refine ⟨rfl, fun hk => ?_⟩
  obtain ⟨h1, -⟩ := ifk0 (by decide) hk
  simp only [vC, Bool.and_eq_true] at h1
  have hc := vIn_cI h1.1 (by decide)
  have ht7 : cI to < 7 := Nat.lt_of_lt_of_le (vIn_cI h1.2.1 (Nat.lt_of_le_of_lt (h.tc7 hc) (by decide))) (h.tc7 hc)
  have hlo := vIn_cI h1.2.2 (by decide)
  exact ⟨(h.t hc ht7).2.2.1 _ hlo, (h.onK (k := 0)).cut hc ht7 hlo is⟩
