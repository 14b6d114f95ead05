/-! the relation of one castle, when rows of the reference change elsewhere; when only towers change -/
def rsz (r : Nat) : Nat := if r ≤ 103 then 1 else if r ≤ 106 then 7 else if r = 107 then 28 else if r ≤ 109 then 21 else if r = 110 then 12 else 60
/-- entries of a castle as they were -/
theorem ReE.cong {M M' R R' : wM} {c k : Nat} (h : ReE M R c k) (e17 : M' (rLe c) k = M (rLe c) k) (e18 : M' (rAm c) k = M (rAm c) k) (e19 : M' (rLo c) k = M (rLo c) k) (e20 : M' (rHo c) k = M (rHo c) k) (e21 : M' (rFh c) k = M (rFh c) k) (e22 : M' (rCo c) k = M (rCo c) k) (e0 : M' (rCas c) 0 = M (rCas c) 0)
    (f : ∀ r, 111 ≤ r → r ≤ 116 → R' r (c * 60 + k) = R r (c * 60 + k)) (ft : trN R ≤ trN R') (f7 : ∀ j, j < trN R → R' 127 j = R 127 j) : ReE M' R' c k := by
  obtain ⟨b1, b2, b3, b4, b5, b6, b7, b8⟩ := h
  have eq9 : ∀ x, qrm M' c x = qrm M c x := fun x => by unfold qrm; rw [e0]
  refine ⟨?_, ?_, ?_, ?_, ?_, ?_, ?_, ?_⟩
  · rw [e17, f 111 (by decide) (by decide)]; exact b1
  · rw [e18, f 112 (by decide) (by decide)]; exact b2
  · rw [e20, f 115 (by decide) (by decide)]; exact b3
  · rw [e22, f 116 (by decide) (by decide)]; exact b4
  · rw [e20]; exact b5
  · rw [e17, e19, f 113 (by decide) (by decide)]; exact b6
  · intro ht
    rw [e17] at ht
    obtain ⟨b9, b10⟩ := b7 ht
    unfold wFr at b10 ⊢
    rw [e21, f 114 (by decide) (by decide), f7 _ b9]
    exact ⟨Nat.lt_of_lt_of_le b9 ft, b10⟩
  · rw [eq9, e20, e22]; exact b8
/-- only the towers change: masks, votes, waits -/
theorem ReC.tow {M M' R R' : wM} {c : Nat} (h : ReC M R c) (e0 : M' (rCas c) 0 = M (rCas c) 0) (e1 : M' (rCas c) 1 = M (rCas c) 1) (e : ∀ j, 16 ≤ j → j < 23 → M' (30 * c + j) = M (30 * c + j)) (eL : ∀ g, g < 3 → M' (rLT c g) = M (rLT c g))
    (f1 : ∀ r, 101 ≤ r → r ≤ 103 → R' r c = R r c) (f2 : ∀ g lo, g < 3 → lo < 4 → R' 110 ((c * 4 + lo) * 3 + g) = R 110 ((c * 4 + lo) * 3 + g)) (f3 : ∀ r k, 111 ≤ r → r ≤ 116 → k < 60 → R' r (c * 60 + k) = R r (c * 60 + k)) (ft : trN R ≤ trN R') (f7 : ∀ j, j < trN R → R' 127 j = R 127 j) (hs : szN M c ≤ 60)
    (n6 : Mk (M' (rCas c) 3)) (n7 : ∀ lo, lo < 4 → Mk (M' (rCt c) lo)) (n8 : ∀ t, t < 7 → ReT M' R' c t) : ReC M' R' c := by
  have tc : tcN M' c = tcN M c := by unfold tcN; rw [e0]
  have sz : szN M' c = szN M c := by unfold szN; rw [show M' (rRow c) = M (rRow c) from e 16 (by decide) (by decide)]
  obtain ⟨h1, h2, h3, h4, h5, h6, h7, h8, h9, h10⟩ := h
  refine ⟨by rw [tc, f1 101 (by decide) (by decide)]; exact h1, by rw [tc]; exact h2, by rw [e1]; exact h3, by rw [e1, f1 102 (by decide) (by decide)]; exact h4, by rw [sz, f1 103 (by decide) (by decide)]; exact h5, n6, n7, n8, fun g hg lo hlo => by rw [eL g hg, f2 g lo hg hlo]; exact h9 g hg lo hlo, fun k hk => ?_⟩
  rw [sz] at hk
  exact (h10 k hk).cong (congrFun (e 17 (by decide) (by decide)) k) (congrFun (e 18 (by decide) (by decide)) k) (congrFun (e 19 (by decide) (by decide)) k) (congrFun (e 20 (by decide) (by decide)) k) (congrFun (e 21 (by decide) (by decide)) k) (congrFun (e 22 (by decide) (by decide)) k) e0 (fun r h1 h2 => f3 r k h1 h2 (by omega)) ft f7
theorem ReT.cong {M M' R R' : wM} {c t : Nat} (h : ReT M R c t) (e0 : M' (rCas c) 0 = M (rCas c) 0) (e3 : M' (rCas c) 3 = M (rCas c) 3) (eW : M' (rWt c) t = M (rWt c) t) (eC : ∀ lo, lo < 4 → M' (rCt c) lo = M (rCt c) lo) (eV : ∀ g, g < 3 → M' (rVL c g) t = M (rVL c g) t ∧ M' (rVT c g) t = M (rVT c g) t)
    (f1 : ∀ r, 104 ≤ r → r ≤ 106 → R' r (c * 7 + t) = R r (c * 7 + t)) (f2 : ∀ lo, lo < 4 → R' 107 ((c * 7 + t) * 4 + lo) = R 107 ((c * 7 + t) * 4 + lo)) (f3 : ∀ g, g < 3 → R' 108 ((c * 7 + t) * 3 + g) = R 108 ((c * 7 + t) * 3 + g) ∧ R' 109 ((c * 7 + t) * 3 + g) = R 109 ((c * 7 + t) * 3 + g)) : ReT M' R' c t := by
  have tc : tcN M' c = tcN M c := by unfold tcN; rw [e0]
  obtain ⟨a1, a2, a3, a4, a5⟩ := h
  refine ⟨by rw [tc, e3, f1 104 (by decide) (by decide)]; exact a1, by rw [tc, e3]; exact a2, fun lo hlo => by rw [eC lo hlo, f2 lo hlo]; exact a3 lo hlo, fun g hg => ?_, by rw [tc, eW, f1 104 (by decide) (by decide), f1 105 (by decide) (by decide), f1 106 (by decide) (by decide)]; exact a5⟩
  rw [(eV g hg).1, (eV g hg).2, (f3 g hg).1, (f3 g hg).2]; exact a4 g hg
/-- a castle as it was, while the reference's rows change in other castles' places -/
theorem ReC.congP {M M' R R' : wM} {c : Nat} (h : ReC M R c) (e : ∀ j, j < 23 → M' (30 * c + j) = M (30 * c + j)) (f : ∀ r k, 101 ≤ r → r ≤ 116 → k < rsz r → R' r (c * rsz r + k) = R r (c * rsz r + k)) (ft : trN R ≤ trN R') (f7 : ∀ j, j < trN R → R' 127 j = R 127 j) (hs : szN M c ≤ 60) : ReC M' R' c := by
  have e0 : M' (rCas c) = M (rCas c) := e 0 (by decide)
  have e2 : M' (rCt c) = M (rCt c) := e 2 (by decide)
  have hT : ∀ t, t < 7 → ReT M' R' c t := fun t ht => by
    refine (h.2.2.2.2.2.2.2.1 t ht).cong (by rw [e0]) (by rw [e0]) (congrFun (e 1 (by decide)) t) (fun lo _ => by rw [e2]) (fun g hg => ⟨congrFun (e (5 + 4 * g) (by omega)) t, congrFun (e (6 + 4 * g) (by omega)) t⟩) (fun r h1 h2 => ?_) (fun lo hlo => ?_) (fun g hg => ⟨?_, ?_⟩)
    · have hr : rsz r = 7 := by unfold rsz; rw [if_neg (by omega), if_pos (by omega)]
      have := f r t (by omega) (by omega) (by rw [hr]; exact ht)
      rw [hr] at this; exact this
    · have := f 107 (t * 4 + lo) (by decide) (by decide) (by show t * 4 + lo < 28; omega)
      rw [show c * rsz 107 + (t * 4 + lo) = (c * 7 + t) * 4 + lo by show c * 28 + (t * 4 + lo) = _; omega] at this; exact this
    · have := f 108 (t * 3 + g) (by decide) (by decide) (by show t * 3 + g < 21; omega)
      rw [show c * rsz 108 + (t * 3 + g) = (c * 7 + t) * 3 + g by show c * 21 + (t * 3 + g) = _; omega] at this; exact this
    · have := f 109 (t * 3 + g) (by decide) (by decide) (by show t * 3 + g < 21; omega)
      rw [show c * rsz 109 + (t * 3 + g) = (c * 7 + t) * 3 + g by show c * 21 + (t * 3 + g) = _; omega] at this; exact this
  refine h.tow (by rw [e0]) (by rw [e0]) (fun j _ h2 => e j h2) (fun g hg => e (7 + 4 * g) (by omega)) (fun r h1 h2 => ?_) (fun g lo hg hlo => ?_) (fun r k h1 h2 hk => ?_) ft f7 hs (by rw [e0]; exact h.2.2.2.2.2.1) (fun lo hlo => by rw [e2]; exact h.2.2.2.2.2.2.1 lo hlo) hT
  · have hr : rsz r = 1 := by unfold rsz; rw [if_pos (by omega)]
    have := f r 0 h1 (by omega) (by rw [hr]; decide)
    rw [hr, Nat.mul_one] at this; exact this
  · have := f 110 (lo * 3 + g) (by decide) (by decide) (by show lo * 3 + g < 12; omega)
    rw [show c * rsz 110 + (lo * 3 + g) = (c * 4 + lo) * 3 + g by show c * 12 + (lo * 3 + g) = _; omega] at this; exact this
  · have hr : rsz r = 60 := by unfold rsz; rw [if_neg (by omega), if_neg (by omega), if_neg (by omega), if_neg (by omega), if_neg (by omega)]
    have := f r k (by omega) h2 (by rw [hr]; exact hk)
    rw [hr] at this; exact this
