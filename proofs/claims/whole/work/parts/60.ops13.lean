/-! lease and giveUp: only a castle's votes and leases change -/
theorem Re.gat {M M' R R' : wM} {n c : Nat} (h : Re M R n) (hc : c < 2) (m : ∀ r, (∀ g, g < 3 → r ≠ rVL c g ∧ r ≠ rVT c g ∧ r ≠ rLT c g) → M' r = M r) (rr : ∀ r, r ≠ 108 → r ≠ 109 → r ≠ 110 → R' r = R r)
    (f : ∀ c', c' < 2 → c' ≠ c → (∀ k, k < 21 → R' 108 (c' * 21 + k) = R 108 (c' * 21 + k) ∧ R' 109 (c' * 21 + k) = R 109 (c' * 21 + k)) ∧ ∀ k, k < 12 → R' 110 (c' * 12 + k) = R 110 (c' * 12 + k))
    (nV : ∀ g, g < 3 → ∀ t, t < 7 → M' (rVL c g) t = R' 108 ((c * 7 + t) * 3 + g) ∧ M' (rVT c g) t = R' 109 ((c * 7 + t) * 3 + g)) (nL : ∀ g, g < 3 → ∀ lo, lo < 4 → M' (rLT c g) lo = R' 110 ((c * 4 + lo) * 3 + g)) : Re M' R' n := by
  have mr : ∀ j, j < 3 ∨ 16 ≤ j → j < 23 → M' (30 * c + j) = M (30 * c + j) := fun j hj h3 => m _ (fun g hg => by simp only [rVL, rVT, rLT]; omega)
  have e0 : M' (rCas c) = M (rCas c) := mr 0 (Or.inl (by decide)) (by decide)
  have tc : tcN M' c = tcN M c := by unfold tcN; rw [e0]
  have sz : szN M' c = szN M c := by unfold szN; rw [show M' (rRow c) = M (rRow c) from mr 16 (Or.inr (by decide)) (by decide)]
  have trn : trN R' = trN R := by unfold trN; rw [rr rMod (by decide) (by decide) (by decide)]
  have s60 := h.sz60 hc
  obtain ⟨h1, h2, h3, h4, h5, h6, h7, h8, h9, h10⟩ := h.c hc
  refine h.cas hc ⟨by rw [tc, rr 101 (by decide) (by decide) (by decide)]; exact h1, by rw [tc]; exact h2, by rw [e0]; exact h3, by rw [e0, rr 102 (by decide) (by decide) (by decide)]; exact h4, by rw [sz, rr 103 (by decide) (by decide) (by decide)]; exact h5, by rw [e0]; exact h6, fun lo hlo => by rw [show M' (rCt c) = M (rCt c) from mr 2 (Or.inl (by decide)) (by decide)]; exact h7 lo hlo, fun t ht => ?_, nL, fun k hk => ?_⟩
    ((h.1.1 c hc).cong (by rw [e0]) (mr 16 (Or.inr (by decide)) (by decide)) (mr 17 (Or.inr (by decide)) (by decide)) (mr 19 (Or.inr (by decide)) (by decide)) (mr 22 (Or.inr (by decide)) (by decide))) ?_ (by rw [e0]) (fun c' hc' hne j hj => m _ (fun g hg => by simp only [rVL, rVT, rLT]; omega)) (fun r a b => m _ (fun g hg => by simp only [rVL, rVT, rLT]; omega)) (fun c' hc' hne r k a b hk => ?_) (fun r a b => rr r (by omega) (by omega) (by omega)) (by rw [rr rMod (by decide) (by decide) (by decide)]) (by rw [rr rMod (by decide) (by decide) (by decide)]) (by rw [rr rMod (by decide) (by decide) (by decide)])
  · obtain ⟨a1, a2, a3, a4, a5⟩ := h8 t ht
    refine ⟨by rw [tc, e0, rr 104 (by decide) (by decide) (by decide)]; exact a1, by rw [tc, e0]; exact a2, fun lo hlo => by rw [show M' (rCt c) = M (rCt c) from mr 2 (Or.inl (by decide)) (by decide), rr 107 (by decide) (by decide) (by decide)]; exact a3 lo hlo, fun g hg => nV g hg t ht, ?_⟩
    rw [tc, show M' (rWt c) = M (rWt c) from mr 1 (Or.inl (by decide)) (by decide), rr 104 (by decide) (by decide) (by decide), rr 105 (by decide) (by decide) (by decide), rr 106 (by decide) (by decide) (by decide)]; exact a5
  · rw [sz] at hk
    exact (h10 k hk).cong (congrFun (mr 17 (Or.inr (by decide)) (by decide)) k) (congrFun (mr 18 (Or.inr (by decide)) (by decide)) k) (congrFun (mr 19 (Or.inr (by decide)) (by decide)) k) (congrFun (mr 20 (Or.inr (by decide)) (by decide)) k) (congrFun (mr 21 (Or.inr (by decide)) (by decide)) k) (congrFun (mr 22 (Or.inr (by decide)) (by decide)) k) (by rw [e0]) (fun r a b => by rw [rr r (by omega) (by omega) (by omega)]) (by rw [trn]; exact Nat.le_refl _) (fun j _ => by rw [rr 127 (by decide) (by decide) (by decide)])
  · have v := h.2.1.1 c hc
    unfold RVC okB okEr okU mnN wrN at v ⊢
    rw [rr 101 (by decide) (by decide) (by decide), rr 103 (by decide) (by decide) (by decide), rr 111 (by decide) (by decide) (by decide), rr 113 (by decide) (by decide) (by decide), rr 114 (by decide) (by decide) (by decide), rr 104 (by decide) (by decide) (by decide), rr 107 (by decide) (by decide) (by decide)]
    exact v
  · by_cases x : r = 108
    · subst x; exact ((f c' hc' hne).1 k hk).1
    · by_cases y : r = 109
      · subst y; exact ((f c' hc' hne).1 k hk).2
      · by_cases z : r = 110
        · subst z; exact (f c' hc' hne).2 k hk
        · rw [rr r x y z]
/-- clearing along a count -/
theorem clN_mk {p : Nat → Bool} {x : Int32} (hx : Mk x) {F : Nat → Int32} (F0 : F 0 = x) (FS : ∀ k, F (k + 1) = if p k = true then clB (F k) k else F k) : ∀ k, k ≤ 7 → Mk (F k) ∧ ∀ u, u < 7 → hasB (F k) u = (hasB x u && !(decide (u < k) && p u))
  | 0, _ => by rw [F0]; exact ⟨hx, fun u hu => by simp⟩
  | k + 1, hk => by
    obtain ⟨a, b⟩ := clN_mk hx F0 FS k (by omega)
    rw [FS]
    split
    · rename_i h9
      obtain ⟨a1, b1⟩ := a.cl (t := k) (by omega)
      refine ⟨a1, fun u hu => ?_⟩
      rw [b1 u hu, b u hu]
      by_cases e : u = k
      · subst e; simp [h9]
      · have : (u < k + 1) ↔ (u < k) := by omega
        simp [this, e]
    · rename_i h9
      refine ⟨a, fun u hu => ?_⟩
      rw [b u hu]
      by_cases e : u = k
      · subst e; simp [h9]
      · have : (u < k + 1) ↔ (u < k) := by omega
        simp [this]
theorem Re.vot {M R : wM} {n c g lo : Nat} (h : Re M R n) (hn : n ≤ 512) (hc : c < 2) (hg : g < 3) (hlo : lo < 4) : leN R c g lo (mnN R c) = voN M c g lo (nowM M) (tcN M c) ∧ Mk (voN M c g lo (nowM M) (tcN M c)) ∧
    ∀ u, u < 7 → hasB (voN M c g lo (nowM M) (tcN M c)) u = (hasB (nearI M c lo) u && !(decide (u < tcN M c) && (cWait M c u (nowM M) || gOther M c g u (nI lo) (nowM M)))) := by
  have h7 := h.tc7 hc
  obtain ⟨a1, b1⟩ := clN_mk (h.near hc hlo).1 (F := voN M c g lo (nowM M)) (p := fun k => cWait M c k (nowM M) || gOther M c g k (nI lo) (nowM M)) rfl (fun k => rfl) (tcN M c) h7
  have hr : leN R c g lo 0 = nearI M c lo := h.reach hc hlo
  obtain ⟨a2, b2⟩ := clN_mk (h.near hc hlo).1 (F := leN R c g lo) (p := fun k => mRest R c k || mOth R c k g lo) hr (fun k => rfl) (tcN M c) h7
  rw [h.mn hc]
  refine ⟨Mk.ext a2 a1 (fun u hu => ?_), a1, b1⟩
  rw [b1 u hu, b2 u hu]
  by_cases e : u < tcN M c
  · by_cases e2 : hasB (nearI M c lo) u = true
    · have hup : ¬ R 104 (c * 7 + u) = 0 := by
        rw [(h.near hc hlo).2 u hu, (h.t hc hu).1 e] at e2
        simp only [Bool.and_eq_true, decide_eq_true_eq] at e2
        exact e2.1
      rw [h.rest hn hc e hup, h.oth hc hg hu]
    · simp only [Bool.not_eq_true] at e2
      rw [e2, Bool.false_and, Bool.false_and]
  · simp [e]
theorem imax_eq {x y : Int32} : imax x y = mxR x y := by
  unfold imax mxR
  by_cases a : x < y
  · rw [if_pos a, if_neg (fun z => Int32.lt_irrefl (Int32.lt_trans a z))]
  · rw [if_neg a]
    by_cases b : y < x
    · rw [if_pos b]
    · rw [if_neg b]; exact Int32.le_antisymm (Int32.not_lt.mp b) (Int32.not_lt.mp a)
theorem grN_at {M : wM} {c g : Nat} {lord voters till : Int32} : ∀ {n u : Nat}, grN M c g lord voters till n (rVL c g) u = (if u < n ∧ hasB voters u = true then lord else M (rVL c g) u) ∧ grN M c g lord voters till n (rVT c g) u = (if u < n ∧ hasB voters u = true then imax (M (rVT c g) u) till else M (rVT c g) u)
  | 0, u => by
    simp only [grN]
    rw [if_neg (c := u < 0 ∧ hasB voters u = true) (by omega), if_neg (c := u < 0 ∧ hasB voters u = true) (by omega)]; exact ⟨rfl, rfl⟩
  | n + 1, u => by
    obtain ⟨i1, i2⟩ := grN_at (M := M) (c := c) (g := g) (lord := lord) (voters := voters) (till := till) (n := n) (u := u)
    obtain ⟨-, j2⟩ := grN_at (M := M) (c := c) (g := g) (lord := lord) (voters := voters) (till := till) (n := n) (u := n)
    rw [if_neg (c := n < n ∧ hasB voters n = true) (by omega)] at j2
    simp only [grN]
    by_cases e : u = n
    · subst e
      by_cases e2 : hasB voters u = true
      · rw [if_pos e2, if_pos (c := u < u + 1 ∧ hasB voters u = true) ⟨by omega, e2⟩, if_pos (c := u < u + 1 ∧ hasB voters u = true) ⟨by omega, e2⟩]
        refine ⟨?_, ?_⟩
        · rw [wr_othr (by simp only [rVL, rVT]; omega), wr_same]
        · rw [wr_same, j2]
      · rw [if_neg e2, if_neg (c := u < u + 1 ∧ hasB voters u = true) (fun z => e2 z.2), if_neg (c := u < u + 1 ∧ hasB voters u = true) (fun z => e2 z.2), i1, i2, if_neg (c := u < u ∧ hasB voters u = true) (fun z => e2 z.2), if_neg (c := u < u ∧ hasB voters u = true) (fun z => e2 z.2)]
        exact ⟨rfl, rfl⟩
    · have hh : (u < n + 1 ∧ hasB voters u = true) ↔ (u < n ∧ hasB voters u = true) := by
        constructor
        · rintro ⟨a, b⟩; exact ⟨by omega, b⟩
        · rintro ⟨a, b⟩; exact ⟨by omega, b⟩
      simp only [hh]
      rw [← i1, ← i2]
      split
      · exact ⟨by rw [wr_othr (by simp only [rVL, rVT]; omega), wr_othj e], by rw [wr_othj e, wr_othr (by simp only [rVL, rVT]; omega)]⟩
      · exact ⟨rfl, rfl⟩
theorem lgN_v {R : wM} {c g lo : Nat} (hg : g < 3) {can to : Int32} : ∀ {n c' t g' : Nat}, t < 7 → n ≤ 7 → g' < 3 → lgN R c g lo can to n 108 ((c' * 7 + t) * 3 + g') = (if c' = c ∧ g' = g ∧ t < n ∧ ¬ bitI can t = 0 then nI lo else R 108 ((c' * 7 + t) * 3 + g')) ∧ lgN R c g lo can to n 109 ((c' * 7 + t) * 3 + g') = (if c' = c ∧ g' = g ∧ t < n ∧ ¬ bitI can t = 0 then mxR (R 109 ((c' * 7 + t) * 3 + g')) to else R 109 ((c' * 7 + t) * 3 + g'))
  | 0, c', t, g', _, _, _ => by
    simp only [lgN]
    rw [if_neg (c := c' = c ∧ g' = g ∧ t < 0 ∧ ¬ bitI can t = 0) (by omega), if_neg (c := c' = c ∧ g' = g ∧ t < 0 ∧ ¬ bitI can t = 0) (by omega)]; exact ⟨rfl, rfl⟩
  | n + 1, c', t, g', ht, hn, hg' => by
    obtain ⟨i1, i2⟩ := lgN_v (R := R) (c := c) (g := g) (lo := lo) hg (can := can) (to := to) (n := n) (c' := c') (t := t) (g' := g') ht (by omega) hg'
    simp only [lgN]
    by_cases e : c' = c ∧ g' = g ∧ t = n
    · obtain ⟨rfl, rfl, rfl⟩ := e
      by_cases e2 : bitI can t = 0
      · rw [if_pos e2, i1, i2, if_neg (c := c' = c' ∧ g' = g' ∧ t < t ∧ ¬ bitI can t = 0) (fun z => z.2.2.2 e2), if_neg (c := c' = c' ∧ g' = g' ∧ t < t ∧ ¬ bitI can t = 0) (fun z => z.2.2.2 e2), if_neg (c := c' = c' ∧ g' = g' ∧ t < t + 1 ∧ ¬ bitI can t = 0) (fun z => z.2.2.2 e2), if_neg (c := c' = c' ∧ g' = g' ∧ t < t + 1 ∧ ¬ bitI can t = 0) (fun z => z.2.2.2 e2)]
        exact ⟨rfl, rfl⟩
      · rw [if_neg e2, if_pos (c := c' = c' ∧ g' = g' ∧ t < t + 1 ∧ ¬ bitI can t = 0) ⟨rfl, rfl, by omega, e2⟩, if_pos (c := c' = c' ∧ g' = g' ∧ t < t + 1 ∧ ¬ bitI can t = 0) ⟨rfl, rfl, by omega, e2⟩]
        refine ⟨by rw [wr_same], ?_⟩
        rw [wr_othr (by decide), wr_same]
    · have hh : (c' = c ∧ g' = g ∧ t < n + 1 ∧ ¬ bitI can t = 0) ↔ (c' = c ∧ g' = g ∧ t < n ∧ ¬ bitI can t = 0) := by
        constructor
        · rintro ⟨a, b, d, e9⟩; exact ⟨a, b, by omega, e9⟩
        · rintro ⟨a, b, d, e9⟩; exact ⟨a, b, by omega, e9⟩
      simp only [hh]
      rw [← i1, ← i2]
      split
      · exact ⟨rfl, rfl⟩
      · refine ⟨by rw [wr_othj (by omega), wr_othr (by decide)], by rw [wr_othr (by decide), wr_othj (by omega)]⟩
theorem bit0 {x : Int32} (hx : Mk x) {t : Nat} (ht : t < 7) : (¬ bitI x t = 0) ↔ hasB x t = true := by
  rw [hx.bit ht]
  cases hasB x t <;> decide
/-- voters are towers of the castle -/
theorem Re.nearlt {M R : wM} {n c lo u : Nat} (h : Re M R n) (hc : c < 2) (hlo : lo < 4) (hu : u < 7) (hb : hasB (nearI M c lo) u = true) : u < tcN M c := by
  by_cases e : u < tcN M c
  · exact e
  · rw [(h.near hc hlo).2 u hu, (h.t hc hu).2.1 (by omega)] at hb; cases hb
theorem Re.lease {M R : wM} {n c g lo : Nat} {vo till : Int32} (h : Re M R n) (hc : c < 2) (hg : g < 3) (hlo : lo < 4) (hv : Mk vo) (hvt : ∀ u, u < 7 → hasB vo u = true → u < tcN M c) :
    Re (gGrant M c g lo vo till) (wr (lgN R c g lo vo till (mnN R c)) 110 ((c * 4 + lo) * 3 + g) (mxR (R 110 ((c * 4 + lo) * 3 + g)) till)) n := by
  rw [h.mn hc]
  have h7 := h.tc7 hc
  have a8 : ∀ k, wr (lgN R c g lo vo till (tcN M c)) 110 ((c * 4 + lo) * 3 + g) (mxR (R 110 ((c * 4 + lo) * 3 + g)) till) 108 k = lgN R c g lo vo till (tcN M c) 108 k := fun k => wr_othr (by decide)
  have a9 : ∀ k, wr (lgN R c g lo vo till (tcN M c)) 110 ((c * 4 + lo) * 3 + g) (mxR (R 110 ((c * 4 + lo) * 3 + g)) till) 109 k = lgN R c g lo vo till (tcN M c) 109 k := fun k => wr_othr (by decide)
  refine h.gat hc (fun r hr => ?_) (fun r h1 h2 h3 => by rw [wr_ne h3, lgN_ne h1 h2]) (fun c' hc' hne => ⟨fun k hk => ?_, fun k hk => ?_⟩) (fun g' hg' t ht => ?_) (fun g' hg' lo' hlo' => ?_)
  · obtain ⟨x1, x2, x3⟩ := hr g hg
    unfold gGrant; rw [wr_ne x3, grN_ne x1 x2]
  · rw [a8, a9]
    have e : c' * 21 + k = (c' * 7 + k / 3) * 3 + k % 3 := by omega
    obtain ⟨i1, i2⟩ := lgN_v (R := R) (c := c) (g := g) (lo := lo) hg (can := vo) (to := till) (n := tcN M c) (c' := c') (t := k / 3) (g' := k % 3) (by omega) h7 (by omega)
    rw [e, i1, i2, if_neg (fun z => hne z.1), if_neg (fun z => hne z.1)]; exact ⟨rfl, rfl⟩
  · rw [wr_othj (by omega), lgN_ne (by decide) (by decide)]
  · rw [a8, a9]
    obtain ⟨i1, i2⟩ := lgN_v (R := R) (c := c) (g := g) (lo := lo) hg (can := vo) (to := till) (n := tcN M c) (c' := c) (t := t) (g' := g') ht h7 hg'
    obtain ⟨v1, v2⟩ := (h.t hc ht).2.2.2.1 g' hg'
    rw [i1, i2]
    unfold gGrant
    rw [wr_othr (by simp only [rVL, rLT]; omega), wr_othr (by simp only [rVT, rLT]; omega)]
    by_cases e : g' = g
    · subst e
      obtain ⟨j1, j2⟩ := grN_at (M := M) (c := c) (g := g') (lord := nI lo) (voters := vo) (till := till) (n := 7) (u := t)
      rw [j1, j2]
      by_cases e2 : hasB vo t = true
      · have P1 : t < 7 ∧ hasB vo t = true := ⟨ht, e2⟩
        have P2 : c = c ∧ g' = g' ∧ t < tcN M c ∧ ¬ bitI vo t = 0 := ⟨rfl, rfl, hvt t ht e2, (bit0 hv ht).mpr e2⟩
        rw [if_pos P1, if_pos P1, if_pos P2, if_pos P2, imax_eq, v2]
        exact ⟨rfl, rfl⟩
      · have P1 : ¬ (t < 7 ∧ hasB vo t = true) := fun z => e2 z.2
        have P2 : ¬ (c = c ∧ g' = g' ∧ t < tcN M c ∧ ¬ bitI vo t = 0) := fun z => e2 ((bit0 hv ht).mp z.2.2.2)
        rw [if_neg P1, if_neg P1, if_neg P2, if_neg P2]
        exact ⟨v1, v2⟩
    · rw [if_neg (fun z => e z.2.1), if_neg (fun z => e z.2.1), grN_ne (by simp only [rVL]; omega) (by simp only [rVL, rVT]; omega), grN_ne (by simp only [rVL, rVT]; omega) (by simp only [rVT]; omega)]
      exact ⟨v1, v2⟩
  · have l0 := h.lt hc hg' hlo'
    unfold gGrant
    by_cases e : g' = g ∧ lo' = lo
    · rw [e.1, e.2, wr_same, wr_same, imax_eq, h.lt hc hg hlo]
    · rw [wr_othj (by omega), lgN_ne (by decide) (by decide)]
      by_cases e2 : g' = g
      · have e3 : lo' ≠ lo := fun z => e ⟨e2, z⟩
        rw [e2, wr_othj e3, grN_ne (by simp only [rLT, rVL]; omega) (by simp only [rLT, rVT]; omega), ← e2]; exact l0
      · rw [wr_ne (by simp only [rLT]; omega), grN_ne (by simp only [rLT, rVL]; omega) (by simp only [rLT, rVT]; omega)]; exact l0
theorem vG3_ok {lo ca ga : Int32} (h : vG3 ca ga lo = true) : cI ca < 2 ∧ cI ga < 3 ∧ cI lo < 4 := by
  simp only [vG3, vC, Bool.and_eq_true] at h
  exact ⟨vIn_cI h.1 (by decide), vIn_cI h.2.1 (by decide), vIn_cI h.2.2 (by decide)⟩
theorem op_lease {M R : wM} {n : Nat} (h : Re M R n) (hn : n ≤ 512) (lo ca ga ti : Int32) : kLeaseR R lo ca ga ti = kLease M lo ca ga ti ∧ (kLease M lo ca ga ti = 0 → imax (M (rLT (cI ca) (cI ga)) (cI lo)) (nowM M + ti) = mxR (R 110 ((cI ca * 4 + cI lo) * 3 + cI ga)) (nowR R + ti)) ∧
    Re (if kLease M lo ca ga ti = 0 then gGrant M (cI ca) (cI ga) (cI lo) (voN M (cI ca) (cI ga) (cI lo) (nowM M) (tcN M (cI ca))) (nowM M + ti) else M) (leaseR R lo ca ga ti) n := by
  have h0 : Re M (thr R 0) n := h.onK
  have hcan : vG3 ca ga lo = true → canR R ca ga lo = voN M (cI ca) (cI ga) (cI lo) (nowM M) (tcN M (cI ca)) := fun hv => by
    obtain ⟨hc, hg, hlo⟩ := vG3_ok hv
    exact (h0.vot hn hc hg hlo).1
  have hK : kLeaseR R lo ca ga ti = kLease M lo ca ga ti := by
    unfold kLeaseR kLease
    have hV : vR3 ca ga lo = vG3 ca ga lo := rfl
    have hA : vI ti (nI 1) (nI 20) = vL ti := rfl
    rw [hV, hA]
    cases e : vG3 ca ga lo with
    | false => simp only [Bool.false_eq_true, if_false]
    | true =>
      obtain ⟨hc, hg, hlo⟩ := vG3_ok e
      rw [hcan e, h0.q hc (h0.vot hn hc hg hlo).2.1]
  have hok : kLease M lo ca ga ti = 0 → vG3 ca ga lo = true := fun hk => (ifk0 (by decide) hk).1
  refine ⟨hK, fun hk => ?_, ?_⟩
  · obtain ⟨hc, hg, hlo⟩ := vG3_ok (hok hk)
    rw [imax_eq, h.lt hc hg hlo, h.now]
  · unfold leaseR
    rw [hK]
    by_cases hk : kLease M lo ca ga ti = 0
    · rw [if_pos hk, if_pos hk, hcan (hok hk), ← h.now]
      obtain ⟨hc, hg, hlo⟩ := vG3_ok (hok hk)
      obtain ⟨-, v2, v3⟩ := h0.vot hn hc hg hlo
      refine h0.lease hc hg hlo v2 (fun u hu hb => ?_)
      rw [v3 u hu, Bool.and_eq_true] at hb
      exact h.nearlt hc hlo hu hb.1
    · rw [if_neg hk, if_neg hk]; exact h.onK
/-! giveUp -/
theorem enN_at {M : wM} {c g : Nat} {lord nr now : Int32} : ∀ {n u : Nat}, enN M c g lord nr now n (rVT c g) u = if u < n ∧ enP M c g lord nr now u = true then nI 0 else M (rVT c g) u
  | 0, u => by simp only [enN]; rw [if_neg (c := u < 0 ∧ enP M c g lord nr now u = true) (by omega)]
  | n + 1, u => by
    have hp : enP (enN M c g lord nr now n) c g lord nr now n = enP M c g lord nr now n := by
      unfold enP gHeld
      rw [enN_at, if_neg (c := n < n ∧ enP M c g lord nr now n = true) (by omega), enN_ne (by simp only [rVL, rVT]; omega)]
    simp only [enN]
    rw [hp]
    by_cases e : u = n
    · subst e
      by_cases e2 : enP M c g lord nr now u = true
      · rw [if_pos e2, if_pos (c := u < u + 1 ∧ enP M c g lord nr now u = true) ⟨by omega, e2⟩, wr_same]
      · rw [if_neg e2, if_neg (c := u < u + 1 ∧ enP M c g lord nr now u = true) (fun z => e2 z.2), enN_at, if_neg (c := u < u ∧ enP M c g lord nr now u = true) (fun z => e2 z.2)]
    · have hh : (u < n + 1 ∧ enP M c g lord nr now u = true) ↔ (u < n ∧ enP M c g lord nr now u = true) := by
        constructor
        · rintro ⟨a, b⟩; exact ⟨by omega, b⟩
        · rintro ⟨a, b⟩; exact ⟨by omega, b⟩
      simp only [hh]
      rw [← enN_at (n := n) (u := u)]
      split
      · rw [wr_othj e]
      · rfl
theorem enC_cnt {M : wM} {c g : Nat} {lord nr now : Int32} : ∀ {n : Nat}, enC M c g lord nr now n = cntB (enP M c g lord nr now) n
  | 0 => rfl
  | n + 1 => by
    have hp : enP (enN M c g lord nr now n) c g lord nr now n = enP M c g lord nr now n := by
      unfold enP gHeld
      rw [enN_at, if_neg (c := n < n ∧ enP M c g lord nr now n = true) (by omega), enN_ne (by simp only [rVL, rVT]; omega)]
    simp only [enC, cntB]
    rw [enC_cnt, hp]
theorem gvN_at {R : wM} {c g lo : Nat} (hg : g < 3) {nr : Int32} : ∀ {n c' t g' : Nat}, t < 7 → n ≤ 7 → g' < 3 → gvN R c g lo nr n 109 ((c' * 7 + t) * 3 + g') = if c' = c ∧ g' = g ∧ t < n ∧ gvP R c g lo nr t = true then nI 0 else R 109 ((c' * 7 + t) * 3 + g')
  | 0, c', t, g', _, _, _ => by simp only [gvN]; rw [if_neg (c := c' = c ∧ g' = g ∧ t < 0 ∧ gvP R c g lo nr t = true) (by omega)]
  | n + 1, c', t, g', ht, hn, hg' => by
    have i1 := gvN_at (R := R) (c := c) (g := g) (lo := lo) hg (nr := nr) (n := n) (c' := c') (t := t) (g' := g') ht (by omega) hg'
    have j1 := gvN_at (R := R) (c := c) (g := g) (lo := lo) hg (nr := nr) (n := n) (c' := c) (t := n) (g' := g) (by omega) (by omega) hg
    rw [if_neg (c := c = c ∧ g = g ∧ n < n ∧ gvP R c g lo nr n = true) (by omega)] at j1
    have hp : gvP (gvN R c g lo nr n) c g lo nr n = gvP R c g lo nr n := by
      unfold gvP mVote
      rw [j1, gvN_ne (by decide)]
      show (decide _ && (decide (gvN R c g lo nr n rMod 18 < _) && _)) = _
      rw [gvN_ne (by decide)]
    simp only [gvN]
    rw [hp]
    by_cases e : c' = c ∧ g' = g ∧ t = n
    · obtain ⟨rfl, rfl, rfl⟩ := e
      by_cases e2 : gvP R c' g' lo nr t = true
      · rw [if_pos e2, if_pos (c := c' = c' ∧ g' = g' ∧ t < t + 1 ∧ gvP R c' g' lo nr t = true) ⟨rfl, rfl, by omega, e2⟩, wr_same]
      · rw [if_neg e2, if_neg (c := c' = c' ∧ g' = g' ∧ t < t + 1 ∧ gvP R c' g' lo nr t = true) (fun z => e2 z.2.2.2), i1, if_neg (c := c' = c' ∧ g' = g' ∧ t < t ∧ gvP R c' g' lo nr t = true) (fun z => e2 z.2.2.2)]
    · have hh : (c' = c ∧ g' = g ∧ t < n + 1 ∧ gvP R c g lo nr t = true) ↔ (c' = c ∧ g' = g ∧ t < n ∧ gvP R c g lo nr t = true) := by
        constructor
        · rintro ⟨a, b, d, e9⟩; exact ⟨a, b, by omega, e9⟩
        · rintro ⟨a, b, d, e9⟩; exact ⟨a, b, by omega, e9⟩
      simp only [hh]
      rw [← i1]
      split
      · rw [wr_othj (by omega)]
      · rfl
theorem gvC_cnt {R : wM} {c g lo : Nat} (hg : g < 3) {nr : Int32} : ∀ {n : Nat}, n ≤ 7 → gvC R c g lo nr n = cntB (gvP R c g lo nr) n
  | 0, _ => rfl
  | n + 1, hn => by
    have j1 := gvN_at (R := R) (c := c) (g := g) (lo := lo) hg (nr := nr) (n := n) (c' := c) (t := n) (g' := g) (by omega) (by omega) hg
    rw [if_neg (c := c = c ∧ g = g ∧ n < n ∧ gvP R c g lo nr n = true) (by omega)] at j1
    have hp : gvP (gvN R c g lo nr n) c g lo nr n = gvP R c g lo nr n := by
      unfold gvP mVote
      rw [j1, gvN_ne (by decide)]
      show (decide _ && (decide (gvN R c g lo nr n rMod 18 < _) && _)) = _
      rw [gvN_ne (by decide)]
    simp only [gvC, cntB]
    rw [gvC_cnt hg (by omega), hp]
theorem cntB_congr {p q : Nat → Bool} : ∀ {n : Nat}, (∀ k, k < n → p k = q k) → cntB p n = cntB q n
  | 0, _ => rfl
  | n + 1, h => by simp only [cntB]; rw [cntB_congr (fun k hk => h k (by omega)), h n (by omega)]
theorem cntB_ext {p : Nat → Bool} {m : Nat} : ∀ {n : Nat}, m ≤ n → (∀ k, m ≤ k → k < n → p k = false) → cntB p n = cntB p m
  | 0, h, _ => by have : m = 0 := by omega
                  subst this; rfl
  | n + 1, h, hp => by
    by_cases e : m = n + 1
    · subst e; rfl
    · simp only [cntB]
      rw [hp n (by omega) (by omega), if_neg (by decide), cntB_ext (by omega) (fun k a b => hp k a (by omega))]
      rfl
theorem Re.gvp {M R : wM} {n c g lo t : Nat} (h : Re M R n) (hc : c < 2) (hg : g < 3) (hlo : lo < 4) (ht : t < 7) : gvP R c g lo (nearI M c lo) t = enP M c g (nI lo) (nearI M c lo) (nowM M) t := by
  obtain ⟨k1, -⟩ := h.near hc hlo
  unfold gvP enP
  rw [h.votes hc hg ht, ((h.t hc ht).2.2.2.1 g hg).1]
  have : decide (¬ bitI (nearI M c lo) t = 0) = hasB (nearI M c lo) t := by
    rw [k1.bit ht]; exact b2i_nz
  rw [this]
theorem op_give {M R : wM} {n : Nat} (h : Re M R n) (lo ca ga : Int32) : kGiveR R lo ca ga = kGive M lo ca ga ∧ (kGive M lo ca ga = 0 → nI (enC M (cI ca) (cI ga) (nI (cI lo)) (nearI M (cI ca) (cI lo)) (nowM M) 7) = nI (gvC (thr R 0) (cI ca) (cI ga) (cI lo) (nrR R ca lo) (mnN R (cI ca)))) ∧
    Re (if kGive M lo ca ga = 0 then gEnd M (cI ca) (cI ga) (cI lo) (nearI M (cI ca) (cI lo)) (nowM M) else M) (giveR R lo ca ga) n := by
  have h0 : Re M (thr R 0) n := h.onK
  have hK : kGiveR R lo ca ga = kGive M lo ca ga := by
    unfold kGiveR kGive
    have hV : vR3 ca ga lo = vG3 ca ga lo := rfl
    rw [hV]
    cases e : vG3 ca ga lo with
    | false => simp only [Bool.false_eq_true, if_false]
    | true =>
      obtain ⟨hc, hg, hlo⟩ := vG3_ok e
      rw [h0.opens hc hg hlo]
  have hok : kGive M lo ca ga = 0 → vG3 ca ga lo = true := fun hk => (ifk0 (by decide) hk).1
  have hnr : vG3 ca ga lo = true → nrR R ca lo = nearI M (cI ca) (cI lo) := fun hv => by
    obtain ⟨hc, hg, hlo⟩ := vG3_ok hv
    exact h0.reach hc hlo
  refine ⟨hK, fun hk => ?_, ?_⟩
  · obtain ⟨hc, hg, hlo⟩ := vG3_ok (hok hk)
    have h7 := h.tc7 hc
    rw [hnr (hok hk), h.mn hc, enC_cnt, gvC_cnt hg h7]
    rw [cntB_ext (m := tcN M (cI ca)) h7 (fun k a b => ?_)]
    · rw [cntB_congr (q := enP M (cI ca) (cI ga) (nI (cI lo)) (nearI M (cI ca) (cI lo)) (nowM M)) (p := gvP (thr R 0) (cI ca) (cI ga) (cI lo) (nearI M (cI ca) (cI lo))) (fun k hk => h0.gvp hc hg hlo (by omega))]
    · unfold enP
      have : hasB (nearI M (cI ca) (cI lo)) k = false := by
        cases e : hasB (nearI M (cI ca) (cI lo)) k with
        | false => rfl
        | true => have := h.nearlt hc hlo (by omega) e; omega
      rw [this, Bool.false_and]
  · unfold giveR
    rw [hK]
    by_cases hk : kGive M lo ca ga = 0
    · rw [if_pos hk, if_pos hk, hnr (hok hk), h.mn (vG3_ok (hok hk)).1]
      obtain ⟨hc, hg, hlo⟩ := vG3_ok (hok hk)
      have h7 := h.tc7 hc
      generalize cI ca = c at hc h7 ⊢
      generalize cI ga = g at hg ⊢
      generalize cI lo = lo' at hlo ⊢
      have a9 : ∀ k, wr (gvN (thr R 0) c g lo' (nearI M c lo') (tcN M c)) 110 ((c * 4 + lo') * 3 + g) (nI 0) 109 k = gvN (thr R 0) c g lo' (nearI M c lo') (tcN M c) 109 k := fun k => wr_othr (by decide)
      refine h0.gat hc (fun r hr => ?_) (fun r h1 h2 h3 => by rw [wr_ne h3, gvN_ne h2]) (fun c' hc' hne => ⟨fun k hk => ⟨?_, ?_⟩, fun k hk => ?_⟩) (fun g' hg' t ht => ⟨?_, ?_⟩) (fun g' hg' lo'' hlo'' => ?_)
      · obtain ⟨x1, x2, x3⟩ := hr g hg
        unfold gEnd; rw [wr_ne x3, enN_ne x2]
      · rw [wr_othr (by decide), gvN_ne (by decide)]
      · have e : c' * 21 + k = (c' * 7 + k / 3) * 3 + k % 3 := by omega
        rw [a9, e, gvN_at hg (by omega) h7 (by omega), if_neg (fun z => hne z.1)]
      · rw [wr_othj (by omega), gvN_ne (by decide)]
      · unfold gEnd
        rw [wr_othr (by simp only [rVL, rLT]; omega), enN_ne (by simp only [rVL, rVT]; omega), wr_othr (by decide), gvN_ne (by decide)]
        exact ((h0.t hc ht).2.2.2.1 g' hg').1
      · rw [a9, gvN_at hg ht h7 hg']
        unfold gEnd
        rw [wr_othr (by simp only [rVT, rLT]; omega)]
        have v2 := ((h0.t hc ht).2.2.2.1 g' hg').2
        by_cases e : g' = g
        · subst e
          rw [enN_at, h0.gvp hc hg hlo ht]
          by_cases e2 : enP M c g' (nI lo') (nearI M c lo') (nowM M) t = true
          · have htc : t < tcN M c := by
              simp only [enP, Bool.and_eq_true] at e2
              exact h.nearlt hc hlo ht e2.1
            rw [if_pos ⟨ht, e2⟩, if_pos ⟨rfl, rfl, htc, e2⟩]
          · rw [if_neg (fun z => e2 z.2), if_neg (fun z => e2 z.2.2.2)]; exact v2
        · rw [enN_ne (by simp only [rVT]; omega), if_neg (fun z => e z.2.1)]; exact v2
      · have l0 := h0.lt hc hg' hlo''
        unfold gEnd
        by_cases e : g' = g ∧ lo'' = lo'
        · rw [e.1, e.2, wr_same, wr_same]
        · rw [wr_othj (by omega), gvN_ne (by decide)]
          by_cases e2 : g' = g
          · have e3 : lo'' ≠ lo' := fun z => e ⟨e2, z⟩
            rw [e2, wr_othj e3, enN_ne (by simp only [rLT, rVT]; omega), ← e2]; exact l0
          · rw [wr_ne (by simp only [rLT]; omega), enN_ne (by simp only [rLT, rVT]; omega)]; exact l0
    · rw [if_neg hk, if_neg hk]; exact h.onK
