/-! a tower falls, a tower rises -/
theorem dnN_ne {M : wM} {c t n r : Nat} (h : r ≠ rCas c) (h2 : ∀ g, g < n → r ≠ rVT c g) : dnN M c t n r = M r := by
  induction n with
  | zero => simp only [dnN]; rw [wr_ne h]
  | succ n ih => simp only [dnN]; rw [wr_ne (h2 n (by omega)), ih (fun g hg => h2 g (by omega))]
theorem dnN_cas {M : wM} {c t n : Nat} (hn : n ≤ 3) : dnN M c t n (rCas c) = upd (M (rCas c)) 3 (clB (M (rCas c) 3) t) := by
  induction n with
  | zero => simp only [dnN]; rw [wr_self]
  | succ n ih => simp only [dnN]; rw [wr_ne (by simp only [rCas, rVT]; omega), ih (by omega)]
theorem dnN_vt {M : wM} {c t g u : Nat} : ∀ {n : Nat}, n ≤ 3 → dnN M c t n (rVT c g) u = if g < n ∧ u = t then nI 0 else M (rVT c g) u
  | 0, _ => by simp only [dnN]; rw [wr_othr (by simp only [rCas, rVT]; omega), if_neg (by omega)]
  | n + 1, hn => by
    simp only [dnN]
    by_cases e : g = n
    · subst e
      by_cases e2 : u = t
      · subst e2; rw [wr_same, if_pos ⟨by omega, rfl⟩]
      · rw [wr_othj e2, dnN_vt (by omega), if_neg (by omega), if_neg (fun z => e2 z.2)]
    · rw [wr_othr (by simp only [rVT]; omega), dnN_vt (by omega)]
      by_cases e3 : g < n ∧ u = t
      · rw [if_pos e3, if_pos ⟨by omega, e3.2⟩]
      · rw [if_neg e3, if_neg (fun z => e3 ⟨by omega, z.2⟩)]
theorem dwN_up {R : wM} {c t k n : Nat} : dwN R c t n 104 k = if k = c * 7 + t then nI 0 else R 104 k := by
  induction n with
  | zero =>
    simp only [dwN]
    rw [wr_othr (by decide)]
    by_cases e : k = c * 7 + t
    · rw [e, wr_same, if_pos rfl]
    · rw [wr_othj e, if_neg e]
  | succ n ih => simp only [dwN]; rw [wr_othr (by decide), ih]
theorem dwN_wa {R : wM} {c t k n : Nat} : dwN R c t n 105 k = if k = c * 7 + t then nI 0 else R 105 k := by
  induction n with
  | zero =>
    simp only [dwN]
    by_cases e : k = c * 7 + t
    · rw [e, wr_same, if_pos rfl]
    · rw [wr_othj e, if_neg e, wr_othr (by decide)]
  | succ n ih => simp only [dwN]; rw [wr_othr (by decide), ih]
theorem dwN_ti {R : wM} {c t k : Nat} : ∀ {n : Nat}, dwN R c t n 109 k = if (c * 7 + t) * 3 ≤ k ∧ k < (c * 7 + t) * 3 + n then nI 0 else R 109 k
  | 0 => by simp only [dwN]; rw [wr_othr (by decide), wr_othr (by decide), if_neg (by omega)]
  | n + 1 => by
    simp only [dwN]
    by_cases e : k = (c * 7 + t) * 3 + n
    · rw [e, wr_same, if_pos ⟨by omega, by omega⟩]
    · rw [wr_othj e, dwN_ti]
      by_cases e3 : (c * 7 + t) * 3 ≤ k ∧ k < (c * 7 + t) * 3 + n
      · rw [if_pos e3, if_pos ⟨e3.1, by omega⟩]
      · rw [if_neg e3, if_neg (by omega)]
theorem upd_same {f : Nat → Int32} {k : Nat} {x : Int32} : upd f k x k = x := by simp [upd]
theorem upd_oth {f : Nat → Int32} {k j : Nat} {x : Int32} (h : j ≠ k) : upd f k x j = f j := by simp [upd, h]
theorem Re.down {M R : wM} {n c t : Nat} (h : Re M R n) (hc : c < 2) (ht : t < 7) : Re (dnN M c t 3) (dwN R c t 3) n := by
  have hC := h.c hc
  have rn : ∀ r, r ≠ 104 → r ≠ 105 → r ≠ 109 → dwN R c t 3 r = R r := fun r h1 h2 h3 => dwN_ne h1 h2 h3
  have mr : ∀ j, j < 23 → j ≠ 0 → (∀ g, g < 3 → j ≠ 6 + 4 * g) → dnN M c t 3 (30 * c + j) = M (30 * c + j) := fun j _ hj hg => dnN_ne (by simp only [rCas]; omega) (fun g h3 => by have := hg g h3; simp only [rVT]; omega)
  have ec : dnN M c t 3 (rCas c) = upd (M (rCas c)) 3 (clB (M (rCas c) 3) t) := dnN_cas (by decide)
  have e0 : ∀ j, j ≠ 3 → dnN M c t 3 (rCas c) j = M (rCas c) j := fun j hj => by rw [ec, upd_oth hj]
  have e3 : dnN M c t 3 (rCas c) 3 = clB (M (rCas c) 3) t := by rw [ec, upd_same]
  have trn : trN (dwN R c t 3) = trN R := by unfold trN; rw [rn rMod (by decide) (by decide) (by decide)]
  obtain ⟨k1, k2⟩ := Mk.cl (h.up hc) ht
  refine h.cas hc (hC.tow (e0 0 (by decide)) (e0 1 (by decide)) (fun j h1 h2 => mr j h2 (by omega) (fun g hg => by omega)) (fun g hg => mr (7 + 4 * g) (by omega) (by omega) (fun g' hg' => by omega)) (fun r h1 h2 => by rw [rn r (by omega) (by omega) (by omega)]) (fun g lo' _ _ => by rw [rn 110 (by decide) (by decide) (by decide)]) (fun r k h1 h2 _ => by rw [rn r (by omega) (by omega) (by omega)]) (Nat.le_of_eq trn.symm) (fun j _ => by rw [rn 127 (by decide) (by decide) (by decide)]) (h.sz60 hc) (by rw [e3]; exact k1) (fun x hx => by rw [show dnN M c t 3 (rCt c) = M (rCt c) from mr 2 (by decide) (by decide) (fun g hg => by omega)]; exact h.ct hc hx) (fun u hu => ?_))
    ((h.1.1 c hc).cong (e0 0 (by decide)) (mr 16 (by decide) (by decide) (fun g hg => by omega)) (mr 17 (by decide) (by decide) (fun g hg => by omega)) (mr 19 (by decide) (by decide) (fun g hg => by omega)) (mr 22 (by decide) (by decide) (fun g hg => by omega))) ?_ (e0 2 (by decide)) (fun c' hc' hne j hj => dnN_ne (by simp only [rCas]; omega) (fun g hg => by simp only [rVT]; omega)) (fun r h1 h2 => dnN_ne (by simp only [rCas]; omega) (fun g hg => by simp only [rVT]; omega)) (fun c' hc' hne r k h1 h2 hk => ?_) (fun r h1 h2 => rn r (by omega) (by omega) (by omega)) (by rw [rn rMod (by decide) (by decide) (by decide)]) (by rw [rn rMod (by decide) (by decide) (by decide)]) (by rw [rn rMod (by decide) (by decide) (by decide)])
  · have tc : tcN (dnN M c t 3) c = tcN M c := by unfold tcN; rw [e0 0 (by decide)]
    obtain ⟨a1, a2, a3, a4, a5⟩ := h.t hc hu
    refine ⟨fun h9 => ?_, fun h9 => ?_, fun x hx => ?_, fun g hg => ⟨?_, ?_⟩, fun h9 hup => ?_⟩
    · rw [tc] at h9
      rw [e3, k2 u hu, a1 h9, dwN_up]
      by_cases e : u = t
      · subst e; rw [if_pos rfl]; simp [show (nI 0 : Int32) = 0 from rfl]
      · rw [if_neg (by omega)]; simp [e]
    · rw [tc] at h9
      rw [e3, k2 u hu, a2 h9]; rfl
    · rw [show dnN M c t 3 (rCt c) = M (rCt c) from mr 2 (by decide) (by decide) (fun g hg => by omega), rn 107 (by decide) (by decide) (by decide)]; exact a3 x hx
    · rw [show dnN M c t 3 (rVL c g) = M (rVL c g) from mr (5 + 4 * g) (by omega) (by omega) (fun g' hg' => by omega), rn 108 (by decide) (by decide) (by decide)]; exact (a4 g hg).1
    · rw [dnN_vt (by decide), dwN_ti, (a4 g hg).2]
      by_cases e : u = t
      · subst e; rw [if_pos ⟨hg, rfl⟩, if_pos ⟨by omega, by omega⟩]
      · rw [if_neg (fun z => e z.2), if_neg (by omega)]
    · rw [tc] at h9
      rw [dwN_up] at hup
      have e : ¬ u = t := by intro e; subst e; rw [if_pos rfl] at hup; exact hup rfl
      rw [if_neg (by omega)] at hup
      rw [dwN_wa, if_neg (by omega), show dnN M c t 3 (rWt c) = M (rWt c) from mr 1 (by decide) (by decide) (fun g hg => by omega), rn 106 (by decide) (by decide) (by decide)]
      exact a5 h9 hup
  · obtain ⟨v1, v2, v3, v4, v5, v6, v7⟩ := h.2.1.1 c hc
    have m1 : mnN (dwN R c t 3) c = mnN R c := by unfold mnN; rw [rn 101 (by decide) (by decide) (by decide)]
    have m2 : wrN (dwN R c t 3) c = wrN R c := by unfold wrN; rw [rn 103 (by decide) (by decide) (by decide)]
    refine ⟨by rw [m1, rn 101 (by decide) (by decide) (by decide)]; exact v1, by rw [m1]; exact v2, by rw [m2, rn 103 (by decide) (by decide) (by decide)]; exact v3, by rw [m2]; exact v4, ?_, ?_, fun u hu => ⟨?_, fun x hx => ?_⟩⟩
    · unfold okB; rw [m2, rn 111 (by decide) (by decide) (by decide), rn 113 (by decide) (by decide) (by decide), rn 114 (by decide) (by decide) (by decide)]; exact v5
    · unfold okEr; rw [m2, rn 111 (by decide) (by decide) (by decide)]; exact v6
    · rw [dwN_up]
      split
      · decide
      · exact (v7 u hu).1
    · rw [rn 107 (by decide) (by decide) (by decide)]; exact (v7 u hu).2 x hx
  · by_cases e4 : r = 104
    · subst e4; rw [dwN_up, if_neg]; have : rsz 104 = 7 := rfl; rw [this] at hk ⊢; omega
    · by_cases e5 : r = 105
      · subst e5; rw [dwN_wa, if_neg]; have : rsz 105 = 7 := rfl; rw [this] at hk ⊢; omega
      · by_cases e9 : r = 109
        · subst e9; rw [dwN_ti, if_neg]; have : rsz 109 = 21 := rfl; rw [this] at hk ⊢; omega
        · rw [rn r e4 e5 e9]
