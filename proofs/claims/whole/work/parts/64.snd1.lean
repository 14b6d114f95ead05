/-! SOUNDNESS OF GATES: at most one lord has a gate open -/
theorem nI_leN {a b : Nat} (ha : a < 2 ^ 31) (hb : b < 2 ^ 31) : (nI a ≤ nI b) ↔ a ≤ b := by
  constructor
  · intro h
    by_cases e : a ≤ b
    · exact e
    · exact absurd h (Int32.not_le.mpr (nI_lt (by omega) ha))
  · intro h; exact nI_le h hb
/-- quorums meet -/
theorem pcB_disj {p q : Nat → Bool} {m : Nat} : ∀ {n : Nat}, (∀ t, t < n → ¬ (p t = true ∧ q t = true)) → (∀ t, t < n → p t = true → t < m) → (∀ t, t < n → q t = true → t < m) → pcB p n + pcB q n ≤ n ∧ pcB p n + pcB q n ≤ m
  | 0, _, _, _ => by simp only [pcB]; omega
  | n + 1, h, hp, hq => by
    obtain ⟨a, b⟩ := pcB_disj (p := p) (q := q) (m := m) (n := n) (fun t ht => h t (by omega)) (fun t ht => hp t (by omega)) (fun t ht => hq t (by omega))
    have h9 := h n (by omega)
    have hp9 := hp n (by omega)
    have hq9 := hq n (by omega)
    simp only [pcB]
    by_cases e : p n = true
    · by_cases e2 : q n = true
      · exact absurd ⟨e, e2⟩ h9
      · rw [if_pos e, if_neg e2]
        have := hp9 e
        omega
    · by_cases e2 : q n = true
      · rw [if_neg e, if_pos e2]
        have := hq9 e2
        omega
      · rw [if_neg e, if_neg e2]; omega
theorem meet {p q : Nat → Bool} {m : Nat} (hp : ∀ t, t < 7 → p t = true → t < m) (hq : ∀ t, t < 7 → q t = true → t < m) (h1 : m < 2 * pcB p 7) (h2 : m < 2 * pcB q 7) : ∃ t, t < 7 ∧ p t = true ∧ q t = true := by
  apply Classical.byContradiction
  intro h
  have := pcB_disj (p := p) (q := q) (m := m) (n := 7) (fun t ht z => h ⟨t, ht, z.1, z.2⟩) hp hq
  omega
/-- the towers that an open lease of lord A rests on -/
def GQ (M : wM) (c g A : Nat) : Prop := ∃ Q : Nat → Bool, (∀ t, t < 7 → Q t = true → t < tcN M c) ∧ tcN M c < 2 * pcB Q 7 ∧
  ∀ t, t < 7 → Q t = true → hasB (M (rCas c) 3) t = false ∨ M (rLT c g) A ≤ M (rWt c) t ∨ (M (rVL c g) t = nI A ∧ M (rLT c g) A ≤ M (rVT c g) t)
def GI (M : wM) : Prop := One M ∧ ∀ c g A, c < 2 → g < 3 → A < 4 → M (rLT c g) A ≤ nowM M + nI 20 ∧ (gOpen M c g A (nowM M) = true → GQ M c g A)
theorem One.sub {M M' : wM} (h : One M) (hs : ∀ c g A, c < 2 → g < 3 → A < 4 → gOpen M' c g A (nowM M') = true → gOpen M c g A (nowM M) = true) : One M' := fun c hc g hg j j' hj hj' a b => h c hc g hg j j' hj hj' (hs c g j hc hg hj a) (hs c g j' hc hg hj' b)
theorem Re.nowN {M R : wM} {n : Nat} (h : Re M R n) (hn : n ≤ 512) : ∃ x, x ≤ 51200 ∧ nowM M = nI x := by
  obtain ⟨x, hx, e⟩ := h.2.2.2.2.2.2.2.2.1
  exact ⟨x, by omega, by rw [h.now]; exact e⟩
/-- what doesn't touch gates and towers -/
theorem GI.cong {M M' : wM} (h : GI M) (e0 : ∀ c, c < 2 → M' (rCas c) 0 = M (rCas c) 0 ∧ M' (rCas c) 3 = M (rCas c) 3) (e1 : ∀ c, c < 2 → ∀ j, j = 1 ∨ (4 ≤ j ∧ j < 16) → M' (30 * c + j) = M (30 * c + j)) (e7 : nowM M' = nowM M) : GI M' := by
  have hL : ∀ c g, c < 2 → g < 3 → M' (rLT c g) = M (rLT c g) := fun c g hc hg => e1 c hc (7 + 4 * g) (by omega)
  have hO : ∀ c g A, c < 2 → g < 3 → gOpen M' c g A (nowM M') = gOpen M c g A (nowM M) := fun c g A hc hg => by unfold gOpen; rw [hL c g hc hg, e7]
  refine ⟨h.1.sub (fun c g A hc hg hA z => by rw [← hO c g A hc hg]; exact z), fun c g A hc hg hA => ?_⟩
  obtain ⟨h1, h2⟩ := h.2 c g A hc hg hA
  refine ⟨by rw [hL c g hc hg, e7]; exact h1, fun z => ?_⟩
  rw [hO c g A hc hg] at z
  obtain ⟨Q, q1, q2, q3⟩ := h2 z
  have tc : tcN M' c = tcN M c := by unfold tcN; rw [(e0 c hc).1]
  refine ⟨Q, by rw [tc]; exact q1, by rw [tc]; exact q2, fun t ht hQ => ?_⟩
  rw [(e0 c hc).2, hL c g hc hg, show M' (rWt c) = M (rWt c) from e1 c hc 1 (by omega), show M' (rVL c g) = M (rVL c g) from e1 c hc (5 + 4 * g) (by omega), show M' (rVT c g) = M (rVT c g) from e1 c hc (6 + 4 * g) (by omega)]
  exact q3 t ht hQ
/-- the time goes on -/
theorem GI.wait {M : wM} {x t : Nat} (h : GI M) (hx : nowM M = nI x) (hb : x + t ≤ 100000) : GI (wr M rMain 7 (nowM M + nI t)) := by
  have e1 : ∀ r, r ≠ 60 → wr M rMain 7 (nowM M + nI t) r = M r := fun r hr => wr_ne hr
  have e7 : nowM (wr M rMain 7 (nowM M + nI t)) = nI (x + t) := by show wr M rMain 7 _ rMain 7 = _; rw [wr_same, hx]; exact nI_addn x t
  generalize wr M rMain 7 (nowM M + nI t) = M' at e1 e7 ⊢
  have hL : ∀ c g, c < 2 → g < 3 → M' (rLT c g) = M (rLT c g) := fun c g hc hg => e1 _ (by simp only [rLT]; omega)
  have hO : ∀ c g A, c < 2 → g < 3 → A < 4 → gOpen M' c g A (nowM M') = true → gOpen M c g A (nowM M) = true := fun c g A hc hg hA z => by
    unfold gOpen at z ⊢
    rw [hL c g hc hg, e7, decide_eq_true_eq] at z
    rw [hx, decide_eq_true_eq]
    exact Int32.lt_of_le_of_lt (nI_le (by omega) (by omega)) z
  refine ⟨h.1.sub hO, fun c g A hc hg hA => ?_⟩
  obtain ⟨h1, h2⟩ := h.2 c g A hc hg hA
  refine ⟨?_, fun z => ?_⟩
  · rw [hL c g hc hg, e7, nI_addn]
    rw [hx, nI_addn] at h1
    exact Int32.le_trans h1 (nI_le (by omega) (by omega))
  · obtain ⟨Q, q1, q2, q3⟩ := h2 (hO c g A hc hg hA z)
    have tc : tcN M' c = tcN M c := by unfold tcN; rw [e1 _ (by simp only [rCas]; omega)]
    refine ⟨Q, by rw [tc]; exact q1, by rw [tc]; exact q2, fun t ht hQ => ?_⟩
    rw [hL c g hc hg, e1 (rCas c) (by simp only [rCas]; omega), e1 (rWt c) (by simp only [rWt]; omega), e1 (rVL c g) (by simp only [rVL]; omega), e1 (rVT c g) (by simp only [rVT]; omega)]
    exact q3 t ht hQ
/-- a tower falls -/
theorem GI.down {M R : wM} {n c t : Nat} (hr : Re M R n) (h : GI M) (hc : c < 2) (ht : t < 7) : GI (dnN M c t 3) := by
  have e1 : ∀ r, r ≠ rCas c → (∀ g, g < 3 → r ≠ rVT c g) → dnN M c t 3 r = M r := fun r a b => dnN_ne a b
  have ec : dnN M c t 3 (rCas c) = upd (M (rCas c)) 3 (clB (M (rCas c) 3) t) := dnN_cas (by decide)
  have ev : ∀ g u, g < 3 → dnN M c t 3 (rVT c g) u = if u = t then nI 0 else M (rVT c g) u := fun g u hg => by
    rw [dnN_vt (by decide)]
    by_cases e : u = t
    · rw [if_pos ⟨hg, e⟩, if_pos e]
    · rw [if_neg (fun z => e z.2), if_neg e]
  have e7 : nowM (dnN M c t 3) = nowM M := by show dnN M c t 3 rMain 7 = _; rw [e1 _ (by simp only [rMain, rCas]; omega) (fun g hg => by simp only [rMain, rVT]; omega)]
  generalize dnN M c t 3 = M' at e1 ec ev e7 ⊢
  have hL : ∀ c' g, c' < 2 → g < 3 → M' (rLT c' g) = M (rLT c' g) := fun c' g hc' hg => e1 _ (by simp only [rLT, rCas]; omega) (fun g' hg' => by simp only [rLT, rVT]; omega)
  have hO : ∀ c' g A, c' < 2 → g < 3 → gOpen M' c' g A (nowM M') = gOpen M c' g A (nowM M) := fun c' g A hc' hg => by unfold gOpen; rw [hL c' g hc' hg, e7]
  refine ⟨h.1.sub (fun c g A hc hg hA z => by rw [← hO c g A hc hg]; exact z), fun c' g A hc' hg hA => ?_⟩
  obtain ⟨h1, h2⟩ := h.2 c' g A hc' hg hA
  refine ⟨by rw [hL c' g hc' hg, e7]; exact h1, fun z => ?_⟩
  rw [hO c' g A hc' hg] at z
  obtain ⟨Q, q1, q2, q3⟩ := h2 z
  have hw : M' (rWt c') = M (rWt c') := e1 _ (by simp only [rWt, rCas]; omega) (fun g' hg' => by simp only [rWt, rVT]; omega)
  have hvl : M' (rVL c' g) = M (rVL c' g) := e1 _ (by simp only [rVL, rCas]; omega) (fun g' hg' => by simp only [rVL, rVT]; omega)
  by_cases e : c' = c
  · subst e
    have tc : tcN M' c' = tcN M c' := by unfold tcN; rw [ec, upd_oth (by decide)]
    refine ⟨Q, by rw [tc]; exact q1, by rw [tc]; exact q2, fun u hu hQ => ?_⟩
    have hb : hasB (M' (rCas c') 3) u = (hasB (M (rCas c') 3) u && !decide (u = t)) := by rw [ec, upd_same]; exact (Mk.cl (hr.up hc') ht).2 u hu
    rw [hb, hL c' g hc' hg, hw, hvl, ev g u hg]
    by_cases e2 : u = t
    · left; simp [e2]
    · rw [if_neg e2]
      rcases q3 u hu hQ with a | a | a
      · left; rw [a]; rfl
      · right; left; exact a
      · right; right; exact a
  · have hcas : M' (rCas c') = M (rCas c') := e1 _ (by simp only [rCas]; omega) (fun g' hg' => by simp only [rCas, rVT]; omega)
    have hvt : M' (rVT c' g) = M (rVT c' g) := e1 _ (by simp only [rVT, rCas]; omega) (fun g' hg' => by simp only [rVT]; omega)
    have tc : tcN M' c' = tcN M c' := by unfold tcN; rw [hcas]
    refine ⟨Q, by rw [tc]; exact q1, by rw [tc]; exact q2, fun u hu hQ => ?_⟩
    rw [hcas, hL c' g hc' hg, hw, hvl, hvt]
    exact q3 u hu hQ
/-- a tower that was down rises: it waits longer than any lease -/
theorem GI.rise {M R : wM} {n c t : Nat} (hr : Re M R n) (h : GI M) (hc : c < 2) (ht : t < 7) : GI (cUp M c t (nowM M + nI 20)) := by
  have e1 : ∀ r, r ≠ rCas c → r ≠ rWt c → cUp M c t (nowM M + nI 20) r = M r := fun r a b => cUp_ne a b
  have e0 : ∀ j, j ≠ 3 → cUp M c t (nowM M + nI 20) (rCas c) j = M (rCas c) j := fun j hj => by unfold cUp; rw [wr_othr (by simp only [rCas, rWt]; omega), wr_othj hj]
  have e3 : cUp M c t (nowM M + nI 20) (rCas c) 3 = M (rCas c) 3 ||| (nI 1 <<< (nI t &&& 31)) := by unfold cUp; rw [wr_othr (by simp only [rCas, rWt]; omega), wr_same]
  have ew : ∀ u, cUp M c t (nowM M + nI 20) (rWt c) u = if u = t then nowM M + nI 20 else M (rWt c) u := fun u => by
    unfold cUp
    by_cases e : u = t
    · subst e; rw [wr_same, if_pos rfl]
    · rw [wr_othj e, if_neg e, wr_othr (by simp only [rCas, rWt]; omega)]
  have e7 : nowM (cUp M c t (nowM M + nI 20)) = nowM M := by show cUp M c t _ rMain 7 = _; rw [e1 _ (by simp only [rMain, rCas]; omega) (by simp only [rMain, rWt]; omega)]
  generalize cUp M c t (nowM M + nI 20) = M' at e1 e0 e3 ew e7 ⊢
  have hL : ∀ c' g, c' < 2 → g < 3 → M' (rLT c' g) = M (rLT c' g) := fun c' g hc' hg => e1 _ (by simp only [rLT, rCas]; omega) (by simp only [rLT, rWt]; omega)
  have hO : ∀ c' g A, c' < 2 → g < 3 → gOpen M' c' g A (nowM M') = gOpen M c' g A (nowM M) := fun c' g A hc' hg => by unfold gOpen; rw [hL c' g hc' hg, e7]
  refine ⟨h.1.sub (fun c g A hc hg hA z => by rw [← hO c g A hc hg]; exact z), fun c' g A hc' hg hA => ?_⟩
  obtain ⟨h1, h2⟩ := h.2 c' g A hc' hg hA
  refine ⟨by rw [hL c' g hc' hg, e7]; exact h1, fun z => ?_⟩
  rw [hO c' g A hc' hg] at z
  obtain ⟨Q, q1, q2, q3⟩ := h2 z
  have hvl : M' (rVL c' g) = M (rVL c' g) := e1 _ (by simp only [rVL, rCas]; omega) (by simp only [rVL, rWt]; omega)
  have hvt : M' (rVT c' g) = M (rVT c' g) := e1 _ (by simp only [rVT, rCas]; omega) (by simp only [rVT, rWt]; omega)
  by_cases e : c' = c
  · subst e
    have tc : tcN M' c' = tcN M c' := by unfold tcN; rw [e0 0 (by decide)]
    refine ⟨Q, by rw [tc]; exact q1, by rw [tc]; exact q2, fun u hu hQ => ?_⟩
    have hb : hasB (M' (rCas c') 3) u = (hasB (M (rCas c') 3) u || decide (u = t)) := by rw [e3]; exact (Mk.se (hr.up hc') ht).2 u hu
    rw [hb, hL c' g hc' hg, hvl, hvt, ew u]
    by_cases e2 : u = t
    · right; left; rw [if_pos e2]; exact h1
    · rw [if_neg e2]
      rcases q3 u hu hQ with a | a | a
      · left; rw [a]; simp [e2]
      · right; left; exact a
      · right; right; exact a
  · have hcas : M' (rCas c') = M (rCas c') := e1 _ (by simp only [rCas]; omega) (by simp only [rCas, rWt]; omega)
    have hw : M' (rWt c') = M (rWt c') := e1 _ (by simp only [rWt, rCas]; omega) (by simp only [rWt]; omega)
    have tc : tcN M' c' = tcN M c' := by unfold tcN; rw [hcas]
    refine ⟨Q, by rw [tc]; exact q1, by rw [tc]; exact q2, fun u hu hQ => ?_⟩
    rw [hcas, hL c' g hc' hg, hw, hvl, hvt]
    exact q3 u hu hQ
/-- leases and votes of one castle change -/
theorem imax_l {x y : Int32} : x ≤ imax x y := by
  unfold imax; split
  · rename_i h; exact Int32.le_of_lt h
  · exact Int32.le_refl _
theorem imax_r {x y : Int32} : y ≤ imax x y := by
  unfold imax; split
  · exact Int32.le_refl _
  · rename_i h; exact Int32.not_lt.mp h
theorem imax_le {x y z : Int32} (h1 : x ≤ z) (h2 : y ≤ z) : imax x y ≤ z := by
  unfold imax; split
  · exact h2
  · exact h1
theorem GI.lease {M R : wM} {n c g B : Nat} {ti : Int32} (hr : Re M R n) (hn : n ≤ 512) (h : GI M) (hc : c < 2) (hg : g < 3) (hB : B < 4) (hti : vL ti = true)
    (hq : qrm M c (voN M c g B (nowM M) (tcN M c)) = true) : GI (gGrant M c g B (voN M c g B (nowM M) (tcN M c)) (nowM M + ti)) := by
  obtain ⟨-, v2, v3⟩ := hr.vot hn hc hg hB
  generalize voN M c g B (nowM M) (tcN M c) = vo at hq v2 v3 ⊢
  obtain ⟨x, hx, hnx⟩ := hr.nowN hn
  obtain ⟨t, ht1, ht20, rfl⟩ : ∃ t, 1 ≤ t ∧ t ≤ 20 ∧ ti = nI t := by
    simp only [vL, Bool.and_eq_true, decide_eq_true_eq] at hti
    obtain ⟨t, ht, rfl⟩ := vIn_ok (x := ti) (n := 21) (Int32.le_trans (by decide) hti.1) (Int32.lt_of_le_of_lt hti.2 (by decide)) (by decide)
    refine ⟨t, ?_, by omega, rfl⟩
    rcases Nat.eq_zero_or_pos t with e | e
    · subst e; exact absurd hti.1 (by decide)
    · exact e
  rw [qrm_iff hr hc v2, decide_eq_true_eq] at hq
  have hvt : ∀ u, u < 7 → hasB vo u = true → u < tcN M c := fun u hu hb => by
    rw [v3 u hu, Bool.and_eq_true] at hb
    exact hr.nearlt hc hB hu hb.1
  have hno : ∀ A, A < 4 → A ≠ B → gOpen M c g A (nowM M) = false := fun A hA hne => by
    cases eo : gOpen M c g A (nowM M) with
    | false => rfl
    | true =>
      exfalso
      obtain ⟨Q, q1, q2, q3⟩ := (h.2 c g A hc hg hA).2 eo
      obtain ⟨u, hu, ua, ub⟩ := meet q1 hvt q2 hq
      have hb := ub
      rw [v3 u hu, Bool.and_eq_true, (hr.near hc hB).2 u hu, Bool.and_eq_true] at hb
      obtain ⟨⟨b1, -⟩, b2⟩ := hb
      have hut : u < tcN M c := hvt u hu ub
      simp only [decide_eq_true hut, Bool.true_and, Bool.not_eq_true', Bool.or_eq_false_iff] at b2
      unfold gOpen at eo
      rw [decide_eq_true_eq] at eo
      rcases q3 u hu ua with a | a | a
      · rw [a] at b1; cases b1
      · have : cWait M c u (nowM M) = true := by unfold cWait; exact decide_eq_true (Int32.lt_of_lt_of_le eo a)
        rw [this] at b2; cases b2.1
      · have : gOther M c g u (nI B) (nowM M) = true := by
          unfold gOther gHeld
          rw [decide_eq_true (Int32.lt_of_lt_of_le eo a.2), a.1]
          have : ¬ nI A = nI B := fun z => hne (nI_inj2 hA hB (by decide) z)
          simp [this]
        rw [this] at b2; cases b2.2
  have e7 : nowM (gGrant M c g B vo (nowM M + nI t)) = nowM M := by
    show gGrant M c g B vo _ rMain 7 = _
    unfold gGrant; rw [wr_ne (by simp only [rMain, rLT]; omega), grN_ne (by simp only [rMain, rVL]; omega) (by simp only [rMain, rVT]; omega)]
  have e1 : ∀ r, r ≠ rVL c g → r ≠ rVT c g → r ≠ rLT c g → gGrant M c g B vo (nowM M + nI t) r = M r := fun r a b d => by unfold gGrant; rw [wr_ne d, grN_ne a b]
  have eL : ∀ A, gGrant M c g B vo (nowM M + nI t) (rLT c g) A = if A = B then imax (M (rLT c g) B) (nowM M + nI t) else M (rLT c g) A := fun A => by
    unfold gGrant
    by_cases e : A = B
    · subst e; rw [wr_same, if_pos rfl]
    · rw [wr_othj e, if_neg e, grN_ne (by simp only [rLT, rVL]; omega) (by simp only [rLT, rVT]; omega)]
  have eV : ∀ u, u < 7 → gGrant M c g B vo (nowM M + nI t) (rVL c g) u = (if hasB vo u = true then nI B else M (rVL c g) u) ∧ gGrant M c g B vo (nowM M + nI t) (rVT c g) u = (if hasB vo u = true then imax (M (rVT c g) u) (nowM M + nI t) else M (rVT c g) u) := fun u hu => by
    unfold gGrant
    rw [wr_othr (by simp only [rVL, rLT]; omega), wr_othr (by simp only [rVT, rLT]; omega)]
    obtain ⟨j1, j2⟩ := grN_at (M := M) (c := c) (g := g) (lord := nI B) (voters := vo) (till := nowM M + nI t) (n := 7) (u := u)
    have hh : (u < 7 ∧ hasB vo u = true) ↔ (hasB vo u = true) := ⟨fun z => z.2, fun z => ⟨hu, z⟩⟩
    simp only [hh] at j1 j2
    exact ⟨j1, j2⟩
  generalize gGrant M c g B vo (nowM M + nI t) = M' at e7 e1 eL eV ⊢
  have hoo : ∀ c' g', c' < 2 → g' < 3 → ¬ (c' = c ∧ g' = g) → M' (rLT c' g') = M (rLT c' g') ∧ M' (rVL c' g') = M (rVL c' g') ∧ M' (rVT c' g') = M (rVT c' g') := fun c' g' hc' hg' hne =>
    ⟨e1 _ (by simp only [rLT, rVL]; omega) (by simp only [rLT, rVT]; omega) (by simp only [rLT]; omega), e1 _ (by simp only [rVL]; omega) (by simp only [rVL, rVT]; omega) (by simp only [rVL, rLT]; omega), e1 _ (by simp only [rVL, rVT]; omega) (by simp only [rVT]; omega) (by simp only [rVT, rLT]; omega)⟩
  have hcas : ∀ c', c' < 2 → M' (rCas c') = M (rCas c') ∧ M' (rWt c') = M (rWt c') := fun c' hc' =>
    ⟨e1 _ (by simp only [rCas, rVL]; omega) (by simp only [rCas, rVT]; omega) (by simp only [rCas, rLT]; omega), e1 _ (by simp only [rWt, rVL]; omega) (by simp only [rWt, rVT]; omega) (by simp only [rWt, rLT]; omega)⟩
  have htill : nowM M + nI t = nI (x + t) := by rw [hnx]; exact nI_addn x t
  have hlt : nowM M < nowM M + nI t := by rw [htill, hnx]; exact nI_lt (by omega) (by omega)
  refine ⟨fun c' hc' g' hg' j j' hj hj' a b => ?_, fun c' g' A hc' hg' hA => ?_⟩
  · by_cases e : c' = c ∧ g' = g
    · obtain ⟨rfl, rfl⟩ := e
      have k1 : ∀ A, A < 4 → gOpen M' c' g' A (nowM M') = true → A = B := fun A hA z => by
        by_cases e9 : A = B
        · exact e9
        · unfold gOpen at z
          rw [eL, if_neg e9, e7] at z
          have := hno A hA e9
          unfold gOpen at this
          rw [this] at z; cases z
      rw [k1 j hj a, k1 j' hj' b]
    · obtain ⟨l1, -, -⟩ := hoo c' g' hc' hg' e
      unfold gOpen at a b
      rw [l1, e7] at a b
      exact h.1 c' hc' g' hg' j j' hj hj' a b
  · obtain ⟨h1, h2⟩ := h.2 c' g' A hc' hg' hA
    have tc : tcN M' c' = tcN M c' := by unfold tcN; rw [(hcas c' hc').1]
    by_cases e : c' = c ∧ g' = g
    · obtain ⟨rfl, rfl⟩ := e
      rw [eL, e7]
      by_cases e9 : A = B
      · subst e9
        rw [if_pos rfl]
        refine ⟨imax_le h1 (by rw [htill, hnx, nI_addn]; exact nI_le (by omega) (by omega)), fun z => ?_⟩
        by_cases e3 : nowM M + nI t ≤ M (rLT c' g') A
        · have hl : imax (M (rLT c' g') A) (nowM M + nI t) = M (rLT c' g') A := by
            unfold imax; rw [if_neg (Int32.not_lt.mpr e3)]
          obtain ⟨Q, q1, q2, q3⟩ := h2 (by unfold gOpen; exact decide_eq_true (Int32.lt_of_lt_of_le hlt e3))
          refine ⟨Q, by rw [tc]; exact q1, by rw [tc]; exact q2, fun u hu hQ => ?_⟩
          rw [(hcas c' hc').1, (hcas c' hc').2, eL, if_pos rfl, hl, (eV u hu).1, (eV u hu).2]
          rcases q3 u hu hQ with a | a | a
          · left; exact a
          · right; left; exact a
          · right; right
            by_cases e4 : hasB vo u = true
            · rw [if_pos e4, if_pos e4]; exact ⟨rfl, Int32.le_trans a.2 imax_l⟩
            · rw [if_neg e4, if_neg e4]; exact a
        · have hl : imax (M (rLT c' g') A) (nowM M + nI t) = nowM M + nI t := by
            unfold imax; rw [if_pos (Int32.not_le.mp e3)]
          refine ⟨hasB vo, fun u hu hb => by rw [tc]; exact hvt u hu hb, by rw [tc]; exact hq, fun u hu hb => ?_⟩
          right; right
          rw [eL, if_pos rfl, hl, (eV u hu).1, (eV u hu).2, if_pos hb, if_pos hb]
          exact ⟨rfl, imax_r⟩
      · rw [if_neg e9]
        refine ⟨h1, fun z => ?_⟩
        unfold gOpen at z
        rw [eL, if_neg e9] at z
        have := hno A hA e9
        unfold gOpen at this
        rw [this] at z; cases z
    · obtain ⟨l1, l2, l3⟩ := hoo c' g' hc' hg' e
      rw [l1, e7]
      refine ⟨h1, fun z => ?_⟩
      obtain ⟨Q, q1, q2, q3⟩ := h2 (by unfold gOpen at z ⊢; rw [l1] at z; exact z)
      refine ⟨Q, by rw [tc]; exact q1, by rw [tc]; exact q2, fun u hu hQ => ?_⟩
      rw [(hcas c' hc').1, (hcas c' hc').2, l1, l2, l3]; exact q3 u hu hQ
