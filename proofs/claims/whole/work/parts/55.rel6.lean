/-! the relation of the game when only entries of one castle change -/
/-- what the machines need of an entry -/
def OkE (M R : wM) (c k : Nat) : Prop :=
  (isOrd (M (rLe c) k) = true → (M (rLo c) k).toNatClampNeg < 4 ∧ M (rLo c) k = nI (M (rLo c) k).toNatClampNeg) ∧ narrow .char (.int (M (rLe c) k)) = .int (M (rLe c) k) ∧ narrow .boolean (.int (M (rCo c) k)) = .int (M (rCo c) k) ∧
  (isTru (M (rLe c) k) = true → R 114 (c * 60 + k) = nI (R 114 (c * 60 + k)).toNatClampNeg)
theorem Re.oke {M R : wM} {n c k : Nat} (h : Re M R n) (hc : c < 2) (hk : k < szN M c) : OkE M R c k := by
  obtain ⟨a1, a2, a3, a4, a5, a6⟩ := h.1.1 c hc
  refine ⟨a5 k hk, (a6 k hk).1, (a6 k hk).2, fun ht => ?_⟩
  have hb := (h.2.1.1 c hc).2.2.2.2.1 k (by rw [h.wn hc]; exact hk)
  exact (hb.2 (by rw [← (h.e hc hk).1]; exact ht)).2
theorem ReT.cong' {M M' R R' : wM} {c t : Nat} (h : ReT M R c t) (e : ∀ j, j < 16 → M' (30 * c + j) = M (30 * c + j)) (f : ∀ r, 101 ≤ r → r ≤ 110 → r ≠ 103 → R' r = R r) : ReT M' R' c t := by
  have e0 : M' (rCas c) = M (rCas c) := e 0 (by decide)
  refine h.cong (by rw [e0]) (by rw [e0]) (by rw [show M' (rWt c) = M (rWt c) from e 1 (by decide)]) (fun lo _ => by rw [show M' (rCt c) = M (rCt c) from e 2 (by decide)]) (fun g hg => ?_) (fun r h1 h2 => by rw [f r (by omega) (by omega) (by omega)]) (fun lo _ => by rw [f 107 (by decide) (by decide) (by decide)]) (fun g hg => by rw [f 108 (by decide) (by decide) (by decide), f 109 (by decide) (by decide) (by decide)]; exact ⟨rfl, rfl⟩)
  rw [show M' (rVL c g) = M (rVL c g) from e (5 + 4 * g) (by omega), show M' (rVT c g) = M (rVT c g) from e (6 + 4 * g) (by omega)]
  exact ⟨rfl, rfl⟩
theorem Re.ent {M M' R R' : wM} {n c : Nat} (h : Re M R n) (hc : c < 2) (e : ∀ j, j < 16 → M' (30 * c + j) = M (30 * c + j))
    (e2 : ∀ c', c' < 2 → c' ≠ c → ∀ j, j < 23 → M' (30 * c' + j) = M (30 * c' + j)) (e3 : ∀ r, 60 ≤ r → r < 100 → M' r = M r)
    (f : ∀ r, 101 ≤ r → r ≤ 110 → r ≠ 103 → R' r = R r) (f3 : ∀ c', c' < 2 → c' ≠ c → R' 103 c' = R 103 c') (f4 : ∀ r c' k, 111 ≤ r → r ≤ 116 → c' < 2 → c' ≠ c → k < 60 → R' r (c' * 60 + k) = R r (c' * 60 + k)) (f5 : ∀ r, 117 ≤ r → r ≤ 131 → R' r = R r)
    (g16 : R' rMod 16 = R rMod 16) (g17 : R' rMod 17 = R rMod 17) (g18 : R' rMod 18 = R rMod 18)
    {s : Nat} (s60 : s ≤ 60) (sM : M' (rRow c) 0 = nI s) (sR : R' 103 c = nI s) (hE : ∀ k, k < s → ReE M' R' c k ∧ OkE M' R' c k) : Re M' R' n := by
  have e0 : M' (rCas c) = M (rCas c) := e 0 (by decide)
  have tc : tcN M' c = tcN M c := by unfold tcN; rw [e0]
  have sz : szN M' c = s := by unfold szN; rw [sM]; exact nI_clamp (by omega)
  have wn : wrN R' c = s := by unfold wrN; rw [sR]; exact nI_clamp (by omega)
  have mn : mnN R' c = mnN R c := by unfold mnN; rw [f 101 (by decide) (by decide) (by decide)]
  have trn : trN R' = trN R := by unfold trN; rw [g17]
  have trn8 : trN R ≤ 8 := by rw [← h.tn]; exact h.tn8
  obtain ⟨h1, h2, h3, h4, h5, h6, h7, h8, h9, h10⟩ := h.c hc
  refine h.cas hc ⟨by rw [tc, f 101 (by decide) (by decide) (by decide)]; exact h1, by rw [tc]; exact h2, by rw [e0]; exact h3, by rw [e0, f 102 (by decide) (by decide) (by decide)]; exact h4, by rw [sz, sR], by rw [e0]; exact h6, fun lo hlo => by rw [show M' (rCt c) = M (rCt c) from e 2 (by decide)]; exact h7 lo hlo, fun t ht => (h8 t ht).cong' e f, fun g hg lo hlo => ?_, fun k hk => (hE k (by rw [← sz]; exact hk)).1⟩
    ⟨?_, by rw [tc]; exact h.tc7 hc, by rw [sM, sz], by rw [sz]; exact s60, fun k hk => (hE k (by rw [← sz]; exact hk)).2.1, fun k hk => ⟨(hE k (by rw [← sz]; exact hk)).2.2.1, (hE k (by rw [← sz]; exact hk)).2.2.2.1⟩⟩
    ⟨?_, by rw [mn]; exact (h.2.1.1 c hc).2.1, by rw [sR, wn], by rw [wn]; exact s60, fun k hk => ⟨fun ho => ?_, fun ht => ?_⟩, fun k hk => ?_, ?_⟩
    (by rw [e0]) e2 e3 (fun c' hc' hne r k q1 q2 hk => ?_) f5 g16 g17 g18
  · rw [show M' (rLT c g) = M (rLT c g) from e (7 + 4 * g) (by omega), f 110 (by decide) (by decide) (by decide)]; exact h9 g hg lo hlo
  · rw [e0, tc]; exact (h.1.1 c hc).1
  · rw [f 101 (by decide) (by decide) (by decide), mn]; exact (h.2.1.1 c hc).1
  · obtain ⟨q, q'⟩ := hE k (by rw [← wn]; exact hk)
    have hl := q.2.2.2.2.2.1 (by rw [q.1]; exact ho)
    rw [← hl]; exact q'.1 (by rw [q.1]; exact ho)
  · obtain ⟨q, q'⟩ := hE k (by rw [← wn]; exact hk)
    exact ⟨Nat.lt_of_lt_of_le (q.2.2.2.2.2.2.1 (by rw [q.1]; exact ht)).1 (by rw [trn]; exact trn8), q'.2.2.2 (by rw [q.1]; exact ht)⟩
  · obtain ⟨q, q'⟩ := hE k (by rw [← wn]; exact hk)
    rw [← q.1]; exact q'.2.1
  · unfold okU
    rw [f 104 (by decide) (by decide) (by decide), f 107 (by decide) (by decide) (by decide)]
    exact (h.2.1.1 c hc).2.2.2.2.2.2
  · by_cases e9 : r = 103
    · subst e9
      have hk0 : k = 0 := by have : rsz 103 = 1 := rfl; omega
      subst hk0
      rw [show c' * rsz 103 + 0 = c' by show c' * 1 + 0 = c'; omega]
      exact f3 c' hc' hne
    · by_cases e8 : r ≤ 110
      · rw [f r q1 e8 e9]
      · have hr : rsz r = 60 := by unfold rsz; rw [if_neg (by omega), if_neg (by omega), if_neg (by omega), if_neg (by omega), if_neg (by omega)]
        rw [hr] at hk ⊢
        exact f4 r c' k (by omega) q2 hc' hne hk
/-! quorums -/
theorem pcB_mono {p q : Nat → Bool} : ∀ {n : Nat}, (∀ k, k < n → p k = true → q k = true) → pcB p n ≤ pcB q n
  | 0, _ => Nat.le_refl _
  | n + 1, h => by
    have ih := pcB_mono (p := p) (q := q) (n := n) (fun k hk => h k (by omega))
    have h9 := h n (by omega)
    simp only [pcB]
    by_cases e : p n = true
    · rw [if_pos e, if_pos (h9 e)]; omega
    · rw [if_neg e]; omega
theorem n2p : ∀ p : Fin 8, nI 2 * nI p.val = nI (2 * p.val) := by decide
theorem nI_ltN {a b : Nat} (ha : a < 2 ^ 31) (hb : b < 2 ^ 31) : (nI a < nI b) ↔ a < b := by
  constructor
  · intro h
    by_cases e : a < b
    · exact e
    · exact absurd h (Int32.not_lt.mpr (nI_le (by omega) (by omega)))
  · intro h; exact nI_lt h hb
theorem qrm_iff {M R : wM} {n c : Nat} (h : Re M R n) (hc : c < 2) {x : Int32} (hx : Mk x) : qrm M c x = decide (tcN M c < 2 * pcB (hasB x) 7) := by
  have h7 := pcB_le (hasB x) 7
  have tc7 := h.tc7 hc
  unfold qrm
  rw [(h.1.1 c hc).1, hx.bc, n2p ⟨pcB (hasB x) 7, by omega⟩]
  simp only [nI_ltN (a := tcN M c) (b := 2 * pcB (hasB x) 7) (by omega) (by omega)]
theorem qrm_mono {M R : wM} {n c : Nat} (h : Re M R n) (hc : c < 2) {x y : Int32} (hx : Mk x) (hy : Mk y) (hs : ∀ t, t < 7 → hasB x t = true → hasB y t = true) (q : qrm M c x = true) : qrm M c y = true := by
  rw [qrm_iff h hc hx, decide_eq_true_eq] at q
  rw [qrm_iff h hc hy, decide_eq_true_eq]
  have := pcB_mono hs
  omega
/-! burn -/
theorem Mk.cl_id {x : Int32} (hx : Mk x) {t : Nat} (ht : t < 7) (h : ¬ hasB x t = true) : clB x t = x := by
  obtain ⟨a, b⟩ := hx.cl ht
  refine Mk.ext a hx (fun u hu => ?_)
  rw [b u hu]
  by_cases e : u = t
  · subst e; simp only [Bool.not_eq_true] at h; rw [h]; rfl
  · simp [e]
theorem drN_at {M : wM} {c t : Nat} (ht : t < 7) : ∀ {n k : Nat}, (∀ j, j < n → Mk (M (rHo c) j)) → drN M c t n (rHo c) k = if k < n then clB (M (rHo c) k) t else M (rHo c) k
  | 0, k, _ => by simp only [drN]; rw [if_neg (by omega)]
  | n + 1, k, hm => by
    have ih := fun k => drN_at (M := M) (c := c) ht (n := n) (k := k) (fun j hj => hm j (by omega))
    simp only [drN]
    have hn : drN M c t n (rHo c) n = M (rHo c) n := by rw [ih, if_neg (by omega)]
    rw [hn]
    split
    · by_cases e : k = n
      · subst e; rw [wr_same, if_pos (by omega)]
      · rw [wr_othj e, ih]
        by_cases e2 : k < n
        · rw [if_pos e2, if_pos (by omega)]
        · rw [if_neg e2, if_neg (by omega)]
    · rename_i h9
      rw [ih]
      by_cases e : k = n
      · subst e; rw [if_neg (by omega), if_pos (by omega), (hm k (by omega)).cl_id ht h9]
      · by_cases e2 : k < n
        · rw [if_pos e2, if_pos (by omega)]
        · rw [if_neg e2, if_neg (by omega)]
theorem buN_at {R : wM} {c t : Nat} : ∀ {n k : Nat}, buN R c t n 115 k = if c * 60 ≤ k ∧ k < c * 60 + n then clB (R 115 k) t else R 115 k
  | 0, k => by simp only [buN]; rw [if_neg (by omega)]
  | n + 1, k => by
    simp only [buN]
    by_cases e : k = c * 60 + n
    · subst e; rw [wr_same, buN_at, if_neg (by omega), if_pos (by omega)]
    · rw [wr_othj e, buN_at]
      by_cases e2 : c * 60 ≤ k ∧ k < c * 60 + n
      · rw [if_pos e2, if_pos (by omega)]
      · rw [if_neg e2, if_neg (by omega)]
theorem buC_eq {M R : wM} {c t : Nat} (ht : t < 7) : ∀ {n : Nat}, n ≤ 60 → (∀ k, k < n → M (rHo c) k = R 115 (c * 60 + k) ∧ Mk (M (rHo c) k)) → buC R c t n = nI (drC M c t n)
  | 0, _, _ => rfl
  | n + 1, hn, hm => by
    obtain ⟨q1, q2⟩ := hm n (by omega)
    simp only [buC, drC]
    have e1 : drN M c t n (rHo c) n = M (rHo c) n := by rw [drN_at ht (fun j hj => (hm j (by omega)).2), if_neg (by omega)]
    rw [buC_eq ht (by omega) (fun k hk => hm k (by omega)), buN_at, if_neg (by omega), ← q1, q2.bit ht, e1]
    cases hasB (M (rHo c) n) t with
    | true => rw [if_pos rfl]; exact nI_addn _ 1
    | false => rw [if_neg (by decide)]; exact nI_addn _ 0
theorem Re.drop {M R : wM} {n c t : Nat} (h : Re M R n) (hc : c < 2) (ht : t < 7) : nI (drC M c t (szN M c)) = buC R c t (wrN R c) ∧ Re (drN M c t (szN M c)) (buN R c t (wrN R c)) n := by
  have hm : ∀ k, k < szN M c → M (rHo c) k = R 115 (c * 60 + k) ∧ Mk (M (rHo c) k) := fun k hk => ⟨(h.e hc hk).2.2.1, (h.e hc hk).2.2.2.2.1⟩
  have s60 := h.sz60 hc
  rw [h.wn hc]
  refine ⟨(buC_eq ht s60 hm).symm, ?_⟩
  have mr : ∀ r, r ≠ rHo c → drN M c t (szN M c) r = M r := fun r hr => drN_ne hr
  have rn : ∀ r, r ≠ 115 → buN R c t (szN M c) r = R r := fun r hr => buN_ne hr
  refine h.ent hc (fun j hj => mr _ (by simp only [rHo]; omega)) (fun c' hc' hne j hj => mr _ (by simp only [rHo]; omega)) (fun r h1 h2 => mr _ (by simp only [rHo]; omega)) (fun r h1 h2 _ => rn r (by omega)) (fun c' _ _ => by rw [rn 103 (by decide)]) (fun r c' k h1 h2 hc' hne hk => ?_) (fun r h1 h2 => rn r (by omega)) (by rw [rn rMod (by decide)]) (by rw [rn rMod (by decide)]) (by rw [rn rMod (by decide)]) s60 (by rw [mr _ (by simp only [rRow, rHo]; omega)]; exact (h.1.1 c hc).2.2.1) (by rw [rn 103 (by decide)]; exact (h.c hc).2.2.2.2.1) (fun k hk => ?_)
  · by_cases e : r = 115
    · subst e; rw [buN_at, if_neg (by omega)]
    · rw [rn r e]
  · obtain ⟨b1, b2, b3, b4, b5, b6, b7, b8⟩ := h.e hc hk
    obtain ⟨k1, k2⟩ := b5.cl ht
    have ho : drN M c t (szN M c) (rHo c) k = clB (M (rHo c) k) t := by rw [drN_at ht (fun j hj => (hm j hj).2), if_pos hk]
    have m17 : drN M c t (szN M c) (rLe c) = M (rLe c) := mr _ (by simp only [rLe, rHo]; omega)
    have m18 : drN M c t (szN M c) (rAm c) = M (rAm c) := mr _ (by simp only [rAm, rHo]; omega)
    have m19 : drN M c t (szN M c) (rLo c) = M (rLo c) := mr _ (by simp only [rLo, rHo]; omega)
    have m21 : drN M c t (szN M c) (rFh c) = M (rFh c) := mr _ (by simp only [rFh, rHo]; omega)
    have m22 : drN M c t (szN M c) (rCo c) = M (rCo c) := mr _ (by simp only [rCo, rHo]; omega)
    have mc : drN M c t (szN M c) (rCas c) = M (rCas c) := mr _ (by simp only [rCas, rHo]; omega)
    have trn : trN (buN R c t (szN M c)) = trN R := by unfold trN; rw [rn rMod (by decide)]
    have eq9 : ∀ x, qrm (drN M c t (szN M c)) c x = qrm M c x := fun x => by unfold qrm; rw [mc]
    refine ⟨⟨by rw [m17, rn 111 (by decide)]; exact b1, by rw [m18, rn 112 (by decide)]; exact b2, by rw [ho, buN_at, if_pos (by omega), b3], by rw [m22, rn 116 (by decide)]; exact b4, by rw [ho]; exact k1, by rw [m17, m19, rn 113 (by decide)]; exact b6, ?_, ?_⟩, ?_⟩
    · unfold wFr; rw [m17, m21, trn, rn 114 (by decide), rn 127 (by decide)]; exact b7
    · rw [eq9, ho, m22]
      exact fun q => b8 (qrm_mono h hc k1 b5 (fun u hu hb => by rw [k2 u hu, Bool.and_eq_true] at hb; exact hb.1) q)
    · unfold OkE; rw [m17, m19, m22, rn 114 (by decide)]; exact h.oke hc hk
theorem op_burn {M R : wM} {n : Nat} (h : Re M R n) (ca to : Int32) (hk : kTow M ca to = 0) :
    nI (drC (dnN M (cI ca) (cI to) 3) (cI ca) (cI to) (szN M (cI ca))) = buC (dwN (thr R 0) (cI ca) (cI to) 3) (cI ca) (cI to) (wrN R (cI ca)) ∧
    Re (drN (dnN M (cI ca) (cI to) 3) (cI ca) (cI to) (szN M (cI ca))) (buN (dwN (thr R 0) (cI ca) (cI to) 3) (cI ca) (cI to) (wrN R (cI ca))) n := by
  obtain ⟨hc, ht, ht7⟩ := kTow_ok h hk
  have h9 := ((h.onK (k := 0)).down hc ht7).drop hc ht7
  have sz : szN (dnN M (cI ca) (cI to) 3) (cI ca) = szN M (cI ca) := by unfold szN; rw [dnN_row (by decide)]
  have wn : wrN (dwN (thr R 0) (cI ca) (cI to) 3) (cI ca) = wrN R (cI ca) := by unfold wrN; rw [dwN_ne (by decide) (by decide) (by decide)]; rfl
  rw [sz, wn] at h9
  exact h9
