/-! THE RELATION of the class's memory M to the reference's memory R, and what else holds of M -/
/-- a tower -/
def ReT (M R : wM) (c t : Nat) : Prop :=
  (t < tcN M c → hasB (M (rCas c) 3) t = decide (¬ R 104 (c * 7 + t) = 0)) ∧ (tcN M c ≤ t → hasB (M (rCas c) 3) t = false) ∧
  (∀ lo, lo < 4 → hasB (M (rCt c) lo) t = decide (¬ R 107 ((c * 7 + t) * 4 + lo) = 0)) ∧
  (∀ g, g < 3 → M (rVL c g) t = R 108 ((c * 7 + t) * 3 + g) ∧ M (rVT c g) t = R 109 ((c * 7 + t) * 3 + g)) ∧
  (t < tcN M c → ¬ R 104 (c * 7 + t) = 0 → (R 105 (c * 7 + t) = 0 ∧ M (rWt c) t = 0) ∨ (¬ R 105 (c * 7 + t) = 0 ∧ M (rWt c) t = R 106 (c * 7 + t) + nI 20))
/-- an entry -/
def ReE (M R : wM) (c k : Nat) : Prop :=
  M (rLe c) k = R 111 (c * 60 + k) ∧ M (rAm c) k = R 112 (c * 60 + k) ∧ M (rHo c) k = R 115 (c * 60 + k) ∧ M (rCo c) k = R 116 (c * 60 + k) ∧ Mk (M (rHo c) k) ∧
  (isOrd (M (rLe c) k) = true → M (rLo c) k = R 113 (c * 60 + k)) ∧ (isTru (M (rLe c) k) = true → (R 114 (c * 60 + k)).toNatClampNeg < trN R ∧ M (rFh c) k = b2i (wFr R c (c * 60 + k))) ∧
  (qrm M c (M (rHo c) k) = true → ¬ M (rCo c) k = 0)
/-- a castle -/
def ReC (M R : wM) (c : Nat) : Prop :=
  R 101 c = nI (tcN M c) ∧ 1 ≤ tcN M c ∧ (∃ g, g ≤ 9999 ∧ M (rCas c) 1 = nI g) ∧ R 102 c = M (rCas c) 1 ∧ R 103 c = nI (szN M c) ∧
  Mk (M (rCas c) 3) ∧ (∀ lo, lo < 4 → Mk (M (rCt c) lo)) ∧ (∀ t, t < 7 → ReT M R c t) ∧
  (∀ g, g < 3 → ∀ lo, lo < 4 → M (rLT c g) lo = R 110 ((c * 4 + lo) * 3 + g)) ∧ ∀ k, k < szN M c → ReE M R c k
/-- a sight; n is how many castles were built at most -/
def ReS (M R : wM) (n k : Nat) : Prop :=
  M (rSi k) 0 = R 122 k ∧ M (rSi k) 1 = R 121 k ∧ M (rSi k) 2 = R 123 k ∧ M (rSi k) 4 = R 124 k ∧ M (rSi k) 5 = R 125 k ∧
  (decide (¬ M (rCas (plN M k)) 2 = M (rSi k) 3) = decide (¬ R 126 k = 0)) ∧ (∃ b b', b ≤ b' ∧ b' ≤ n ∧ M (rSi k) 3 = nI b ∧ M (rCas (plN M k)) 2 = nI b')
/-- a truce -/
def ReP (M R : wM) (k : Nat) : Prop :=
  M (rTr k) 0 = R 127 k ∧ M (rTr k) 1 = R 128 k ∧ M (rTr k) 2 = R 129 k ∧ (∀ c, c < 2 → M (rSt k) c = R 130 (2 * k + c)) ∧ (∃ f, f < 2 ∧ R 127 k = nI f) ∧ ∃ a, 1 ≤ a ∧ a ≤ 999 ∧ R 128 k = nI a
/-- the relation behind n calls of the script -/
def Re (M R : wM) (n : Nat) : Prop :=
  IV M ∧ RV R ∧ (∀ c, c < 2 → ReC M R c) ∧ (∀ c, c < 2 → ∃ b, 1 ≤ b ∧ b ≤ n + 1 ∧ M (rCas c) 2 = nI b) ∧ scN M = siN R ∧ tnN M = trN R ∧ (∀ k, k < scN M → ReS M R (n + 1) k) ∧ (∀ k, k < tnN M → ReP M R k) ∧
  (∃ x, x ≤ 100 * n ∧ R rMod 18 = nI x) ∧ nowM M = R rMod 18 ∧ (∀ lo, lo < 4 → M rWin lo = R 131 lo) ∧
  (∀ c, c < 2 → ∀ k k', k < tnN M → k' < tnN M → M (rSt k) c = nI 112 → M (rSt k') c = nI 112 → k = k')
section Base
variable {M R : wM} {n : Nat}
theorem Re.c (h : Re M R n) {c : Nat} (hc : c < 2) : ReC M R c := h.2.2.1 c hc
theorem Re.now (h : Re M R n) : nowM M = nowR R := h.2.2.2.2.2.2.2.2.2.1
theorem Re.tc7 (h : Re M R n) {c : Nat} (hc : c < 2) : tcN M c ≤ 7 := (h.1.1 c hc).2.1
theorem Re.sz60 (h : Re M R n) {c : Nat} (hc : c < 2) : szN M c ≤ 60 := (h.1.1 c hc).2.2.2.1
theorem Re.mn (h : Re M R n) {c : Nat} (hc : c < 2) : mnN R c = tcN M c := by
  unfold mnN; rw [(h.c hc).1]; exact nI_clamp (Nat.lt_of_le_of_lt (h.tc7 hc) (by decide))
theorem Re.wn (h : Re M R n) {c : Nat} (hc : c < 2) : wrN R c = szN M c := by
  unfold wrN; rw [(h.c hc).2.2.2.2.1]; exact nI_clamp (Nat.lt_of_le_of_lt (h.sz60 hc) (by decide))
theorem Re.up (h : Re M R n) {c : Nat} (hc : c < 2) : Mk (M (rCas c) 3) := (h.c hc).2.2.2.2.2.1
theorem Re.ct (h : Re M R n) {c : Nat} (hc : c < 2) {lo : Nat} (hlo : lo < 4) : Mk (M (rCt c) lo) := (h.c hc).2.2.2.2.2.2.1 lo hlo
theorem Re.t (h : Re M R n) {c : Nat} (hc : c < 2) {t : Nat} (ht : t < 7) : ReT M R c t := (h.c hc).2.2.2.2.2.2.2.1 t ht
theorem Re.lt (h : Re M R n) {c : Nat} (hc : c < 2) {g : Nat} (hg : g < 3) {lo : Nat} (hlo : lo < 4) : M (rLT c g) lo = R 110 ((c * 4 + lo) * 3 + g) := (h.c hc).2.2.2.2.2.2.2.2.1 g hg lo hlo
theorem Re.e (h : Re M R n) {c : Nat} (hc : c < 2) {k : Nat} (hk : k < szN M c) : ReE M R c k := (h.c hc).2.2.2.2.2.2.2.2.2 k hk
theorem Re.near (h : Re M R n) {c : Nat} (hc : c < 2) {lo : Nat} (hlo : lo < 4) : Mk (nearI M c lo) ∧ ∀ t, t < 7 → hasB (nearI M c lo) t = (hasB (M (rCas c) 3) t && !hasB (M (rCt c) lo) t) := Mk.but (h.up hc) (h.ct hc hlo)
theorem or0 {x : Int32} : x ||| nI 0 = x := by rw [show nI 0 = (0 : Int32) from rfl]; exact Int32.or_zero
theorem rcN_mk {c lo : Nat} : ∀ k, k ≤ 7 → Mk (rcN R c lo k) ∧ ∀ t, t < 7 → hasB (rcN R c lo k) t = (decide (t < k) && (decide (¬ R 104 (c * 7 + t) = 0) && decide (R 107 ((c * 7 + t) * 4 + lo) = 0)))
  | 0, _ => ⟨Mk.zero.1, fun t ht => by rw [show rcN R c lo 0 = nI 0 from rfl, Mk.zero.2 t ht]; simp⟩
  | k + 1, hk => by
    obtain ⟨h1, h2⟩ := rcN_mk (c := c) (lo := lo) k (by omega)
    simp only [rcN]
    split
    · rename_i h9
      rw [or0]
      refine ⟨h1, fun t ht => ?_⟩
      rw [h2 t ht]
      by_cases e : t = k
      · subst e; simp [h9]
      · have : (t < k + 1) ↔ (t < k) := by omega
        simp [this]
    · rename_i h9
      split
      · rename_i h8
        obtain ⟨h3, h4⟩ := Mk.se h1 (t := k) (by omega)
        refine ⟨h3, fun t ht => ?_⟩
        rw [h4 t ht, h2 t ht]
        by_cases e : t = k
        · subst e; simp [h9, h8]
        · have : (t < k + 1) ↔ (t < k) := by omega
          simp [this, e]
      · rename_i h8
        rw [or0]
        refine ⟨h1, fun t ht => ?_⟩
        rw [h2 t ht]
        by_cases e : t = k
        · subst e; simp [h8]
        · have : (t < k + 1) ↔ (t < k) := by omega
          simp [this]
theorem rcU_mk {c : Nat} : ∀ k, k ≤ 7 → Mk (rcU R c k) ∧ ∀ t, t < 7 → hasB (rcU R c k) t = (decide (t < k) && decide (¬ R 104 (c * 7 + t) = 0))
  | 0, _ => ⟨Mk.zero.1, fun t ht => by rw [show rcU R c 0 = nI 0 from rfl, Mk.zero.2 t ht]; simp⟩
  | k + 1, hk => by
    obtain ⟨h1, h2⟩ := rcU_mk (c := c) k (by omega)
    simp only [rcU]
    split
    · rename_i h9
      rw [or0]
      refine ⟨h1, fun t ht => ?_⟩
      rw [h2 t ht]
      by_cases e : t = k
      · subst e; simp [h9]
      · have : (t < k + 1) ↔ (t < k) := by omega
        simp [this]
    · rename_i h9
      obtain ⟨h3, h4⟩ := Mk.se h1 (t := k) (by omega)
      refine ⟨h3, fun t ht => ?_⟩
      rw [h4 t ht, h2 t ht]
      by_cases e : t = k
      · subst e; simp [h9]
      · have : (t < k + 1) ↔ (t < k) := by omega
        simp [this, e]
/-- the towers near a lord -/
theorem Re.reach (h : Re M R n) {c : Nat} (hc : c < 2) {lo : Nat} (hlo : lo < 4) : rcN R c lo (mnN R c) = nearI M c lo := by
  rw [h.mn hc]
  obtain ⟨h1, h2⟩ := rcN_mk (R := R) (c := c) (lo := lo) (tcN M c) (h.tc7 hc)
  obtain ⟨h3, h4⟩ := h.near hc hlo
  refine Mk.ext h1 h3 (fun t ht => ?_)
  obtain ⟨t1, t2, t3, -, -⟩ := h.t hc ht
  rw [h2 t ht, h4 t ht, t3 lo hlo]
  by_cases e : t < tcN M c
  · rw [t1 e]; simp [e]
  · rw [t2 (by omega)]; simp [e]
/-- the towers that are up -/
theorem Re.reachU (h : Re M R n) {c : Nat} (hc : c < 2) : rcU R c (mnN R c) = M (rCas c) 3 := by
  rw [h.mn hc]
  obtain ⟨h1, h2⟩ := rcU_mk (R := R) (c := c) (tcN M c) (h.tc7 hc)
  refine Mk.ext h1 (h.up hc) (fun t ht => ?_)
  obtain ⟨t1, t2, -⟩ := h.t hc ht
  rw [h2 t ht]
  by_cases e : t < tcN M c
  · rw [t1 e]; simp [e]
  · rw [t2 (by omega)]; simp [e]
theorem Re.q (h : Re M R n) {c : Nat} (hc : c < 2) {x : Int32} (hx : Mk x) : mQ R c x = qrm M c x := by
  unfold mQ qrm; rw [hx.bco, (h.c hc).1, (h.1.1 c hc).1]
theorem Re.opens (h : Re M R n) {c : Nat} (hc : c < 2) {g : Nat} (hg : g < 3) {lo : Nat} (hlo : lo < 4) : mOpen R c g lo = gOpen M c g lo (nowM M) := by
  unfold mOpen gOpen; rw [h.now, h.lt hc hg hlo]
theorem Re.votes (h : Re M R n) {c : Nat} (hc : c < 2) {g : Nat} (hg : g < 3) {t : Nat} (ht : t < 7) : mVote R c t g = gHeld M c g t (nowM M) := by
  unfold mVote gHeld; rw [h.now, ((h.t hc ht).2.2.2.1 g hg).2]
theorem Re.oth (h : Re M R n) {c : Nat} (hc : c < 2) {g : Nat} (hg : g < 3) {t : Nat} (ht : t < 7) {lo : Nat} : mOth R c t g lo = gOther M c g t (nI lo) (nowM M) := by
  unfold mOth gOther; rw [h.votes hc hg ht, ((h.t hc ht).2.2.2.1 g hg).1]
theorem Re.now0 (h : Re M R n) (hn : n ≤ 512) : ¬ nowR R < 0 := by
  obtain ⟨x, hx, e⟩ := h.2.2.2.2.2.2.2.2.1
  show ¬ R rMod 18 < 0
  rw [e]
  exact Int32.not_lt.mpr (nI_pos' (by omega))
/-- a tower that is up rests -/
theorem Re.rest (h : Re M R n) (hn : n ≤ 512) {c : Nat} (hc : c < 2) {t : Nat} (ht : t < tcN M c) (hu : ¬ R 104 (c * 7 + t) = 0) : mRest R c t = cWait M c t (nowM M) := by
  have ht7 : t < 7 := Nat.lt_of_lt_of_le ht (h.tc7 hc)
  obtain ⟨-, -, -, -, h5⟩ := h.t hc ht7
  unfold mRest cWait
  rw [h.now]
  rcases h5 ht hu with ⟨a, b⟩ | ⟨a, b⟩
  · rw [a, b]
    have := h.now0 hn
    simp [this]
  · rw [b]; simp [a]
end Base
