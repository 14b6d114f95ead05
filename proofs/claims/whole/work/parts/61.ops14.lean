/-! build -/
theorem clrN_at {M : wM} {r : Nat} : ∀ {n k : Nat}, clrN M r n r k = if k < n then nI 0 else M r k
  | 0, k => by simp only [clrN]; rw [if_neg (by omega)]
  | n + 1, k => by
    simp only [clrN]
    by_cases e : k = n
    · subst e; rw [wr_same, if_pos (by omega)]
    · rw [wr_othj e, clrN_at]
      by_cases e2 : k < n
      · rw [if_pos e2, if_pos (by omega)]
      · rw [if_neg e2, if_neg (by omega)]
theorem gcN_ne {M : wM} {c n r : Nat} (h : ∀ g, g < n → r ≠ rVT c g ∧ r ≠ rLT c g) : gcN M c n r = M r := by
  induction n with
  | zero => rfl
  | succ n ih =>
    simp only [gcN, gClear]
    rw [clrN_ne (h n (by omega)).2, clrN_ne (h n (by omega)).1, ih (fun g hg => h g (by omega))]
theorem gcN_at {M : wM} {c g : Nat} : ∀ {n : Nat}, g < n → n ≤ 3 → (∀ t, t < 7 → gcN M c n (rVT c g) t = nI 0) ∧ ∀ lo, lo < 4 → gcN M c n (rLT c g) lo = nI 0
  | 0, h, _ => by omega
  | n + 1, h, hn => by
    simp only [gcN, gClear]
    by_cases e : g = n
    · subst e
      refine ⟨fun t ht => ?_, fun lo hlo => ?_⟩
      · rw [clrN_ne (by simp only [rVT, rLT]; omega), clrN_at, if_pos ht]
      · rw [clrN_at, if_pos hlo]
    · obtain ⟨a, b⟩ := gcN_at (M := M) (c := c) (g := g) (n := n) (by omega) (by omega)
      refine ⟨fun t ht => ?_, fun lo hlo => ?_⟩
      · rw [clrN_ne (by simp only [rVT, rLT]; omega), clrN_ne (by simp only [rVT]; omega)]; exact a t ht
      · rw [clrN_ne (by simp only [rLT]; omega), clrN_ne (by simp only [rVT, rLT]; omega)]; exact b lo hlo
theorem cR_ne {M : wM} {c r : Nat} {tw gd : Int32} (h0 : r ≠ rCas c) (h1 : r ≠ rWt c) (h2 : r ≠ rCt c) (h3 : ∀ g, g < 3 → r ≠ rVT c g ∧ r ≠ rLT c g) (h4 : r ≠ rRow c) : cRaise M c tw gd r = M r := by
  unfold cRaise; rw [wr_ne h4, gcN_ne h3, clrN_ne h2, clrN_ne h1]; unfold rwB; rw [wr_ne h0, wr_ne h0, wr_ne h0, wr_ne h0]
theorem cR_at {M : wM} {c : Nat} {tw gd : Int32} : cRaise M c tw gd (rCas c) 0 = tw ∧ cRaise M c tw gd (rCas c) 1 = gd ∧ cRaise M c tw gd (rCas c) 2 = M (rCas c) 2 + nI 1 ∧ cRaise M c tw gd (rCas c) 3 = (nI 1 <<< (tw &&& 31)) - nI 1 ∧
    (∀ t, t < 7 → cRaise M c tw gd (rWt c) t = nI 0) ∧ (∀ lo, lo < 4 → cRaise M c tw gd (rCt c) lo = nI 0) ∧ (∀ g, g < 3 → (∀ t, t < 7 → cRaise M c tw gd (rVT c g) t = nI 0) ∧ ∀ lo, lo < 4 → cRaise M c tw gd (rLT c g) lo = nI 0) ∧ cRaise M c tw gd (rRow c) 0 = nI 0 := by
  have hc : cRaise M c tw gd (rCas c) = rwB M c tw gd (rCas c) := by
    unfold cRaise
    rw [wr_ne (by simp only [rCas, rRow]; omega), gcN_ne (fun g hg => ⟨by simp only [rCas, rVT]; omega, by simp only [rCas, rLT]; omega⟩), clrN_ne (by simp only [rCas, rCt]; omega), clrN_ne (by simp only [rCas, rWt]; omega)]
  rw [hc]
  unfold rwB
  refine ⟨?_, ?_, ?_, ?_, fun t ht => ?_, fun lo hlo => ?_, fun g hg => ?_, ?_⟩
  · rw [wr_othj (by decide), wr_othj (by decide), wr_othj (by decide), wr_same]
  · rw [wr_othj (by decide), wr_othj (by decide), wr_same]
  · rw [wr_othj (by decide), wr_same]
  · rw [wr_same]
  · unfold cRaise
    rw [wr_ne (by simp only [rWt, rRow]; omega), gcN_ne (fun g hg => ⟨by simp only [rWt, rVT]; omega, by simp only [rWt, rLT]; omega⟩), clrN_ne (by simp only [rWt, rCt]; omega), clrN_at, if_pos ht]
  · unfold cRaise
    rw [wr_ne (by simp only [rCt, rRow]; omega), gcN_ne (fun g hg => ⟨by simp only [rCt, rVT]; omega, by simp only [rCt, rLT]; omega⟩), clrN_at, if_pos hlo]
  · unfold cRaise
    rw [wr_ne (by simp only [rVT, rRow]; omega), wr_ne (by simp only [rLT, rRow]; omega)]
    exact gcN_at hg (by decide)
  · unfold cRaise; rw [wr_same]
theorem zgN_at {R : wM} {c t : Nat} : ∀ {n k : Nat}, zgN R c t n 104 k = (if k = c * 7 + t then nI 1 else R 104 k) ∧ zgN R c t n 105 k = (if k = c * 7 + t then nI 0 else R 105 k) ∧ zgN R c t n 107 k = (if (c * 7 + t) * 4 ≤ k ∧ k < (c * 7 + t) * 4 + n then nI 0 else R 107 k)
  | 0, k => by
    simp only [zgN]
    refine ⟨?_, ?_, ?_⟩
    · rw [wr_othr (by decide)]
      by_cases e : k = c * 7 + t
      · rw [e, wr_same, if_pos rfl]
      · rw [wr_othj e, if_neg e]
    · by_cases e : k = c * 7 + t
      · rw [e, wr_same, if_pos rfl]
      · rw [wr_othj e, if_neg e, wr_othr (by decide)]
    · rw [wr_othr (by decide), wr_othr (by decide), if_neg (by omega)]
  | n + 1, k => by
    obtain ⟨a, b, d⟩ := zgN_at (R := R) (c := c) (t := t) (n := n) (k := k)
    simp only [zgN]
    refine ⟨by rw [wr_othr (by decide)]; exact a, by rw [wr_othr (by decide)]; exact b, ?_⟩
    by_cases e : k = (c * 7 + t) * 4 + n
    · rw [e, wr_same, if_pos (by omega)]
    · rw [wr_othj e, d]
      by_cases e2 : (c * 7 + t) * 4 ≤ k ∧ k < (c * 7 + t) * 4 + n
      · rw [if_pos e2, if_pos (by omega)]
      · rw [if_neg e2, if_neg (by omega)]
theorem ztN_at {R : wM} {c t : Nat} : ∀ {n k : Nat}, ztN R c t n 104 k = (if k = c * 7 + t then nI 1 else R 104 k) ∧ ztN R c t n 105 k = (if k = c * 7 + t then nI 0 else R 105 k) ∧ ztN R c t n 107 k = (if (c * 7 + t) * 4 ≤ k ∧ k < (c * 7 + t) * 4 + 4 then nI 0 else R 107 k) ∧ ztN R c t n 109 k = (if (c * 7 + t) * 3 ≤ k ∧ k < (c * 7 + t) * 3 + n then nI 0 else R 109 k)
  | 0, k => by
    obtain ⟨a, b, d⟩ := zgN_at (R := R) (c := c) (t := t) (n := 4) (k := k)
    simp only [ztN]
    exact ⟨a, b, d, by rw [zgN_ne (by decide) (by decide) (by decide), if_neg (by omega)]⟩
  | n + 1, k => by
    obtain ⟨a, b, d, f⟩ := ztN_at (R := R) (c := c) (t := t) (n := n) (k := k)
    simp only [ztN]
    refine ⟨by rw [wr_othr (by decide)]; exact a, by rw [wr_othr (by decide)]; exact b, by rw [wr_othr (by decide)]; exact d, ?_⟩
    by_cases e : k = (c * 7 + t) * 3 + n
    · rw [e, wr_same, if_pos (by omega)]
    · rw [wr_othj e, f]
      by_cases e2 : (c * 7 + t) * 3 ≤ k ∧ k < (c * 7 + t) * 3 + n
      · rw [if_pos e2, if_pos (by omega)]
      · rw [if_neg e2, if_neg (by omega)]
theorem raT_at {R : wM} {c : Nat} {hi wi : Int32} : ∀ {n k : Nat}, raT R c hi wi n 104 k = (if c * 7 ≤ k ∧ k < c * 7 + n then nI 1 else R 104 k) ∧ raT R c hi wi n 105 k = (if c * 7 ≤ k ∧ k < c * 7 + n then nI 0 else R 105 k) ∧ raT R c hi wi n 107 k = (if c * 28 ≤ k ∧ k < c * 28 + 4 * n then nI 0 else R 107 k) ∧ raT R c hi wi n 109 k = (if c * 21 ≤ k ∧ k < c * 21 + 3 * n then nI 0 else R 109 k) ∧
    raT R c hi wi n 101 k = (if k = c then hi else R 101 k) ∧ raT R c hi wi n 102 k = (if k = c then wi else R 102 k) ∧ raT R c hi wi n 103 k = (if k = c then nI 0 else R 103 k)
  | 0, k => by
    simp only [raT, raA]
    refine ⟨?_, ?_, ?_, ?_, ?_, ?_, ?_⟩
    · rw [wr_othr (by decide), wr_othr (by decide), wr_othr (by decide), if_neg (by omega)]
    · rw [wr_othr (by decide), wr_othr (by decide), wr_othr (by decide), if_neg (by omega)]
    · rw [wr_othr (by decide), wr_othr (by decide), wr_othr (by decide), if_neg (by omega)]
    · rw [wr_othr (by decide), wr_othr (by decide), wr_othr (by decide), if_neg (by omega)]
    · rw [wr_othr (by decide), wr_othr (by decide)]
      by_cases e : k = c
      · rw [e, wr_same, if_pos rfl]
      · rw [wr_othj e, if_neg e]
    · rw [wr_othr (by decide)]
      by_cases e : k = c
      · rw [e, wr_same, if_pos rfl]
      · rw [wr_othj e, if_neg e, wr_othr (by decide)]
    · by_cases e : k = c
      · rw [e, wr_same, if_pos rfl]
      · rw [wr_othj e, if_neg e, wr_othr (by decide), wr_othr (by decide)]
  | n + 1, k => by
    obtain ⟨a1, a2, a3, a4, a5, a6, a7⟩ := raT_at (R := R) (c := c) (hi := hi) (wi := wi) (n := n) (k := k)
    obtain ⟨b1, b2, b3, b4⟩ := ztN_at (R := raT R c hi wi n) (c := c) (t := n) (n := 3) (k := k)
    simp only [raT]
    refine ⟨?_, ?_, ?_, ?_, ?_, ?_, ?_⟩
    · rw [b1]
      by_cases e : k = c * 7 + n
      · rw [if_pos e, if_pos (by omega)]
      · rw [if_neg e, a1]
        by_cases e2 : c * 7 ≤ k ∧ k < c * 7 + n
        · rw [if_pos e2, if_pos (by omega)]
        · rw [if_neg e2, if_neg (by omega)]
    · rw [b2]
      by_cases e : k = c * 7 + n
      · rw [if_pos e, if_pos (by omega)]
      · rw [if_neg e, a2]
        by_cases e2 : c * 7 ≤ k ∧ k < c * 7 + n
        · rw [if_pos e2, if_pos (by omega)]
        · rw [if_neg e2, if_neg (by omega)]
    · rw [b3]
      by_cases e : (c * 7 + n) * 4 ≤ k ∧ k < (c * 7 + n) * 4 + 4
      · rw [if_pos e, if_pos (by omega)]
      · rw [if_neg e, a3]
        by_cases e2 : c * 28 ≤ k ∧ k < c * 28 + 4 * n
        · rw [if_pos e2, if_pos (by omega)]
        · rw [if_neg e2, if_neg (by omega)]
    · rw [b4]
      by_cases e : (c * 7 + n) * 3 ≤ k ∧ k < (c * 7 + n) * 3 + 3
      · rw [if_pos e, if_pos (by omega)]
      · rw [if_neg e, a4]
        by_cases e2 : c * 21 ≤ k ∧ k < c * 21 + 3 * n
        · rw [if_pos e2, if_pos (by omega)]
        · rw [if_neg e2, if_neg (by omega)]
    · rw [ztN_ne (by decide) (by decide) (by decide) (by decide)]; exact a5
    · rw [ztN_ne (by decide) (by decide) (by decide) (by decide)]; exact a6
    · rw [ztN_ne (by decide) (by decide) (by decide) (by decide)]; exact a7
theorem raL_at {R : wM} {c : Nat} {hi wi : Int32} : ∀ {n k : Nat}, raL R c hi wi n 110 k = (if c * 12 ≤ k ∧ k < c * 12 + n then nI 0 else R 110 k)
  | 0, k => by simp only [raL]; rw [raT_ne (by decide) (by decide) (by decide) (by decide) (by decide) (by decide) (by decide), if_neg (by omega)]
  | n + 1, k => by
    simp only [raL]
    by_cases e : k = c * 4 * 3 + n
    · rw [e, wr_same, if_pos (by omega)]
    · rw [wr_othj e, raL_at]
      by_cases e2 : c * 12 ≤ k ∧ k < c * 12 + n
      · rw [if_pos e2, if_pos (by omega)]
      · rw [if_neg e2, if_neg (by omega)]
theorem raL_ne7 {R : wM} {c n r : Nat} {hi wi : Int32} (h : r ≠ 110) : raL R c hi wi n r = raT R c hi wi 7 r := by
  induction n with
  | zero => rfl
  | succ n ih => simp only [raL]; rw [wr_ne h, ih]
theorem raS_ne7 {R : wM} {c n r : Nat} {hi wi : Int32} (h : r ≠ 126) : raS R c hi wi n r = raL R c hi wi 12 r := by
  induction n with
  | zero => rfl
  | succ n ih =>
    simp only [raS]
    split
    · split <;> rw [wr_ne h, ih]
    · rw [wr_ne h, ih]
theorem raS_at {R : wM} {c : Nat} {hi wi : Int32} : ∀ {n k : Nat}, raS R c hi wi n 126 k = (if k < n then (if R 126 k = 0 then (if R 122 k = nI c then nI 1 else nI 0) else nI 1) else R 126 k)
  | 0, k => by simp only [raS]; rw [raL_ne (by decide) (by decide) (by decide) (by decide) (by decide) (by decide) (by decide) (by decide), if_neg (by omega)]
  | n + 1, k => by
    have hn : raS R c hi wi n 126 n = R 126 n := by rw [raS_at, if_neg (by omega)]
    simp only [raS]
    rw [hn]
    by_cases e : k = n
    · subst e
      rw [if_pos (c := k < k + 1) (by omega)]
      split
      · split <;> rw [wr_same]
      · rw [wr_same]
    · have hh : (k < n + 1) ↔ (k < n) := by omega
      simp only [hh]
      rw [← raS_at (n := n) (k := k)]
      split
      · split <;> rw [wr_othj e]
      · rw [wr_othj e]
theorem vB_ok {tw gd : Int32} (h : vB tw gd = true) : (∃ t, 1 ≤ t ∧ t ≤ 7 ∧ tw = nI t) ∧ ∃ g, g ≤ 9999 ∧ gd = nI g := by
  simp only [vB, Bool.and_eq_true, decide_eq_true_eq] at h
  obtain ⟨t, ht, rfl⟩ := vIn_ok (x := tw) (n := 8) (Int32.le_trans (by decide) h.1) (Int32.lt_of_le_of_lt h.2.1 (by decide)) (by decide)
  obtain ⟨g, hg, rfl⟩ := vIn_ok (x := gd) (n := 10000) h.2.2.1 (Int32.lt_of_le_of_lt h.2.2.2 (by decide)) (by decide)
  refine ⟨⟨t, ?_, by omega, rfl⟩, g, by omega, rfl⟩
  rcases Nat.eq_zero_or_pos t with e | e
  · subst e; exact absurd h.1 (by decide)
  · exact e
theorem vBR_eq {tw gd : Int32} : vBR tw gd = vB tw gd := by
  unfold vBR vB vI
  rw [Bool.and_assoc]; rfl
