/-! prepare and settle -/
/-- what is known of a truce beside the relation -/
def SnT (M : wM) (k : Nat) : Prop := (M (rTr k) 2 = nI 45 ∨ M (rTr k) 2 = nI 100 ∨ M (rTr k) 2 = nI 97) ∧ ∀ c, c < 2 → M (rSt k) c = nI 45 ∨ M (rSt k) c = nI 112 ∨ (M (rSt k) c = M (rTr k) 2 ∧ ¬ M (rTr k) 2 = nI 45)
def SnTs (M : wM) : Prop := ∀ k, k < tnN M → SnT M k
theorem prN_neg {R : wM} {c : Nat} : ∀ {n : Nat}, n ≤ 8 → ((prN R c n < 0) ↔ ∀ k, k < n → ¬ R 130 (2 * k + c) = nI 112)
  | 0, _ => ⟨fun _ k hk => absurd hk (by omega), fun _ => (by decide : (-1 : Int32) < 0)⟩
  | n + 1, hn => by
    unfold prN
    constructor
    · intro h k hk
      split at h
      · exact absurd h (Int32.not_lt.mpr (nI_pos' (by omega)))
      · rename_i h9
        by_cases e : k = n
        · subst e; exact h9
        · exact (prN_neg (by omega)).mp h k (by omega)
    · intro h
      rw [if_neg (h n (by omega))]
      exact (prN_neg (by omega)).mpr (fun k hk => h k (by omega))
theorem prN_hit {R : wM} {c : Nat} : ∀ {n : Nat}, n ≤ 8 → ¬ prN R c n < 0 → ∃ k, k < n ∧ prN R c n = nI k ∧ R 130 (2 * k + c) = nI 112
  | 0, _, h => absurd (by decide : (-1 : Int32) < 0) h
  | n + 1, hn, h => by
    unfold prN at h ⊢
    split
    · rename_i h9; exact ⟨n, by omega, rfl, h9⟩
    · rename_i h9
      rw [if_neg h9] at h
      obtain ⟨k, k1, k2, k3⟩ := prN_hit (by omega) h
      exact ⟨k, by omega, k2, k3⟩
theorem opT_neg {M R : wM} {n c : Nat} (h : Re M R n) : (opT M c < 0) ↔ ∀ k, k < tnN M → ¬ M (rSt k) c = nI 112 := by
  have h8 := h.tn8
  unfold opT opQ
  constructor
  · intro h9 k hk e
    split at h9
    · exact absurd h9 (Int32.not_lt.mpr (nI_pos' (by omega)))
    · rename_i h7
      have h6 : lead (opP M c) (tnN M) = tnN M := by have := lead_le (opP M c) (tnN M); omega
      have h5 := lead_all' (p := opP M c) (n := tnN M) (j := k) (by omega)
      simp only [opP, decide_eq_true_eq] at h5
      exact h5 e
  · intro h9
    rw [if_neg]
    · decide
    · rw [lead_all (fun j hj => by simp only [opP, decide_eq_true_eq]; exact h9 j hj)]
      omega
theorem opQ_hit {M R : wM} {n c : Nat} (h : Re M R n) (h0 : ¬ opT M c < 0) : opQ M c < tnN M ∧ M (rSt (opQ M c)) c = nI 112 ∧ opT M c = nI (opQ M c) := by
  have h1 := opT_ok (M := M) (c := c) (Int32.not_lt.mp h0)
  refine ⟨h1.2, ?_, h1.1⟩
  have := lead_stop (p := opP M c) (n := tnN M) h1.2
  simp only [opP, decide_eq_false_iff_not, Classical.not_not] at this
  exact this
theorem Re.opn {M R : wM} {n c : Nat} (h : Re M R n) (hc : c < 2) : (prN R c (trN R) < 0) ↔ (opT M c < 0) := by
  have h8 := h.tn8
  rw [opT_neg h, prN_neg (by rw [← h.tn]; exact h8), ← h.tn]
  constructor
  · intro h9 k hk; rw [(h.tr hk).2.2.2.1 c hc]; exact h9 k hk
  · intro h9 k hk; rw [← (h.tr hk).2.2.2.1 c hc]; exact h9 k hk
theorem Re.opq {M R : wM} {n c : Nat} (h : Re M R n) (hc : c < 2) (h0 : ¬ opT M c < 0) : prN R c (trN R) = nI (opQ M c) := by
  have h8 := h.tn8
  obtain ⟨k, k1, k2, k3⟩ := prN_hit (by rw [← h.tn]; exact h8) (fun z => h0 ((h.opn hc).mp z))
  obtain ⟨q1, q2, -⟩ := opQ_hit h h0
  rw [← h.tn] at k1
  rw [k2, h.2.2.2.2.2.2.2.2.2.2.2 c hc k (opQ M c) k1 q1 (by rw [(h.tr k1).2.2.2.1 c hc]; exact k3) q2]
/-- a truce's state at a castle changes -/
theorem Re.sta {M R : wM} {n k c : Nat} {x : Int32} (h : Re M R n) (hk : k < tnN M) (hc : c < 2) (hx : narrow .char (.int x) = .int x) (h1 : x = nI 112 → ∀ k', k' < tnN M → k' ≠ k → ¬ M (rSt k') c = nI 112) : Re (wr M (rSt k) c x) (wr R 130 (2 * k + c) x) n := by
  have h8 := h.tn8
  have htn := h.tn
  have mt : ∀ r, r ≠ rSt k → wr M (rSt k) c x r = M r := fun r hr => wr_ne hr
  have rn : ∀ r, r ≠ 130 → wr R 130 (2 * k + c) x r = R r := fun r hr => wr_ne hr
  have mS : ∀ k' c', k' < 8 → c' < 2 → wr M (rSt k) c x (rSt k') c' = if k' = k ∧ c' = c then x else M (rSt k') c' := fun k' c' hk' hc' => by
    by_cases e : k' = k
    · subst e
      by_cases e2 : c' = c
      · subst e2; rw [wr_same, if_pos ⟨rfl, rfl⟩]
      · rw [wr_othj e2, if_neg (fun z => e2 z.2)]
    · rw [mt _ (by simp only [rSt]; omega), if_neg (fun z => e z.1)]
  have rS : ∀ k' c', k' < 8 → c' < 2 → wr R 130 (2 * k + c) x 130 (2 * k' + c') = if k' = k ∧ c' = c then x else R 130 (2 * k' + c') := fun k' c' hk' hc' => by
    by_cases e : k' = k ∧ c' = c
    · rw [e.1, e.2, wr_same, if_pos ⟨rfl, rfl⟩]
    · rw [wr_othj (by omega), if_neg e]
  refine h.tru (tn := tnN M) (fun c' hc' j hj => mt _ (by simp only [rSt]; omega)) (fun k' hk' => mt _ (by simp only [rSi, rSt]; omega)) (mt _ (by simp only [rWin, rSt]; omega)) (by rw [mt _ (by simp only [rMain, rSt]; omega)]) (by rw [mt _ (by simp only [rMain, rSt]; omega)]) (by rw [mt _ (by simp only [rMain, rSt]; omega)]; exact h.1.2.2.1.1) (by rw [rn rMod (by decide), htn]; exact h.2.1.2.2.1.1) h8 (Nat.le_refl _) (fun r a b => rn r (by omega)) (rn 131 (by decide)) (fun j _ => by rw [rn 127 (by decide)]) (by rw [rn rMod (by decide)]) (by rw [rn rMod (by decide)]) (fun k' hk' => ?_) (fun k' hk' => ?_) (fun k' hk' => ?_) (fun c' hc' k1 k2 h2 h3 e1 e2 => ?_)
  · have := h.1.2.2.2.2 k' hk'
    refine ⟨by rw [mt _ (by simp only [rTr, rSt]; omega)]; exact this.1, fun c' hc' => ?_⟩
    rw [mS k' c' (by omega) hc']
    split
    · exact hx
    · exact this.2 c' hc'
  · have := h.2.1.2.2.2.2 k' (by omega)
    refine ⟨by rw [rn 129 (by decide)]; exact this.1, fun c' hc' => ?_⟩
    rw [rS k' c' (by omega) hc']
    split
    · exact hx
    · exact this.2 c' hc'
  · obtain ⟨o1, o2, o3, o4, o5, o6⟩ := h.tr hk'
    have et : wr M (rSt k) c x (rTr k') = M (rTr k') := mt _ (by simp only [rTr, rSt]; omega)
    refine ⟨by rw [et, rn 127 (by decide)]; exact o1, by rw [et, rn 128 (by decide)]; exact o2, by rw [et, rn 129 (by decide)]; exact o3, fun c' hc' => ?_, by rw [rn 127 (by decide)]; exact o5, by rw [rn 128 (by decide)]; exact o6⟩
    rw [mS k' c' (by omega) hc', rS k' c' (by omega) hc', o4 c' hc']
  · rw [mS k1 c' (by omega) hc'] at e1
    rw [mS k2 c' (by omega) hc'] at e2
    by_cases a1 : k1 = k ∧ c' = c
    · by_cases a2 : k2 = k ∧ c' = c
      · rw [a1.1, a2.1]
      · rw [if_pos a1] at e1
        rw [if_neg a2] at e2
        have e2' := e2
        rw [a1.2] at e2'
        exact absurd e2' (h1 e1 k2 h3 (fun z => a2 ⟨z, a1.2⟩))
    · rw [if_neg a1] at e1
      by_cases a2 : k2 = k ∧ c' = c
      · rw [if_pos a2] at e2
        have e1' := e1
        rw [a2.2] at e1'
        exact absurd e1' (h1 e2 k1 h2 (fun z => a1 ⟨z, a2.2⟩))
      · rw [if_neg a2] at e2
        exact h.2.2.2.2.2.2.2.2.2.2.2 c' hc' k1 k2 h2 h3 e1 e2
theorem trN_suT {R : wM} {c : Nat} : trN (suT R c) = trN R := by
  unfold trN; exact congrArg Int32.toNatClampNeg ((suM_oth (by decide) (by decide) (by decide)).trans (wr_othj (by decide)))
theorem op_cpB {M R : wM} {n : Nat} (h : Re M R n) (sn : SnTs M) {k c lo : Nat} (hk : k < tnN M) (hc : c < 2) (hlo : lo < 4) : preBR R k c lo = canP M k c lo := by
  have h0 : Re M (T0 R) n := h.onK
  have hS : Re M (suT R c) n := h0.onS
  have hr : rcN (suT R c) c lo (mnN R c) = nearI M c lo := by
    have := hS.reach hc hlo
    rw [show mnN (suT R c) c = mnN R c by unfold mnN; rw [suT_ne (by decide) (by decide)]] at this
    exact this
  have hq := hS.q hc (hS.near hc hlo).1
  have hh : hgR (T0 R) c (wrN R c) = rHang M c (szN M c) := h0.hang hc
  have ho : (prN (suT R c) c (trN R) < 0) ↔ (opT M c < 0) := by
    have := hS.opn hc
    rw [trN_suT] at this
    exact this
  obtain ⟨l1, l2, -⟩ := h0.led hc
  rw [wn_T0] at l1 l2
  obtain ⟨p1, p2, p3, p4, -⟩ := h.tr hk
  unfold preBR canP cpB tDec lFree
  rw [hr, hq, hh, l1, l2, p1, p2, p3]
  simp only [ho]
  have hst := (sn k hk).2 c hc
  rw [p4 c hc, p3] at hst
  have hop : opT M c < 0 → ¬ R 130 (2 * k + c) = nI 112 := fun z => by rw [← p4 c hc]; exact (opT_neg h).mp z k hk
  by_cases a1 : opT M c < 0
  · by_cases a2 : R 129 k = nI 45
    · have a3 : R 130 (2 * k + c) = nI 45 := by
        rcases hst with e | e | e
        · exact e
        · exact absurd e (hop a1)
        · exact absurd a2 e.2
      simp only [a1, a2, a3]
      cases rHang M c (szN M c) <;> cases qrm M c (nearI M c lo) <;> simp
    · simp [a1, a2]
  · simp [a1]
theorem kPre_ok {M R : wM} {n : Nat} (h : Re M R n) {tr ca lo : Int32} (hv : vP3 M tr ca lo = true) : cI tr < tnN M ∧ cI ca < 2 ∧ cI lo < 4 := by
  simp only [vP3, vC, Bool.and_eq_true] at hv
  exact ⟨vIn_cI hv.1 (Nat.lt_of_le_of_lt h.tn8 (by decide)), vIn_cI hv.2.1 (by decide), vIn_cI hv.2.2 (by decide)⟩
theorem Re.canM' {M R : wM} {n k c lo : Nat} (h : Re M R n) (hc : c < 2) : Re (canM M k c lo) R n := by
  unfold canM; split
  · exact h.onT hc
  · exact h
theorem op_prepare {M R : wM} {n : Nat} (h : Re M R n) (sn : SnTs M) (tr ca lo : Int32) : kPreR R tr ca lo = kPrep M tr ca lo ∧ (kPrep M tr ca lo = 0 → nI (szN M (cI ca)) = nI (wrN R (cI ca))) ∧
    Re (if kPrep M tr ca lo = 0 then preM M (cI tr) (cI ca) (cI lo) else preX M tr ca lo) (preRR R tr ca lo) n := by
  have h0 : Re M (T0 R) n := h.onK
  have hK : kPreR R tr ca lo = kPrep M tr ca lo := by
    unfold kPreR kPrep
    rw [← h.tn, show (vIn tr (tnN M) && (vIn ca 2 && vIn lo 4)) = vP3 M tr ca lo from rfl]
    cases e : vP3 M tr ca lo with
    | false => simp only [Bool.false_eq_true, if_false]
    | true =>
      obtain ⟨hk, hc, hlo⟩ := kPre_ok h e
      rw [op_cpB h sn hk hc hlo, h.wn hc]
  have hok : kPrep M tr ca lo = 0 → vP3 M tr ca lo = true ∧ canP M (cI tr) (cI ca) (cI lo) = true ∧ szN M (cI ca) < 60 := fun hk => by
    obtain ⟨h1, h2⟩ := ifk0 (by decide) hk
    obtain ⟨h3, h4⟩ := ifk0 (by decide) h2
    refine ⟨h1, h3, ?_⟩
    by_cases e : szN M (cI ca) < 60
    · exact e
    · rw [if_neg e] at h4; exact absurd h4 (by decide)
  refine ⟨hK, fun hk => by rw [h.wn (kPre_ok h (hok hk).1).2.1], ?_⟩
  unfold preRR
  rw [hK]
  by_cases hk : kPrep M tr ca lo = 0
  · rw [if_pos hk, if_pos hk]
    obtain ⟨hv, hcan, h60⟩ := hok hk
    obtain ⟨hk9, hc, hlo⟩ := kPre_ok h hv
    generalize cI tr = k at hk9 hcan ⊢
    generalize cI ca = c at hc hcan h60 ⊢
    generalize cI lo = lo' at hlo hcan ⊢
    have hS : Re M (suT R c) n := h0.onS
    have hS2 : Re (canM M k c lo') (thr (suT R c) 0) n := (hS.onK (k := 0)).canM' hc
    obtain ⟨p1, p2, p3, p4, p5, p6⟩ := h.tr hk9
    have cm : ∀ r, r ≠ rLed c → r ≠ rPu c → canM M k c lo' r = M r := fun r h1 h2 => canM_ne h1 h2
    have htn : tnN (canM M k c lo') = tnN M := by unfold tnN; rw [cm _ (by simp only [rMain, rLed]; omega) (by simp only [rMain, rPu]; omega)]
    have hopen : opT M c < 0 := by
      simp only [canP, cpB, Bool.and_eq_true, decide_eq_true_eq] at hcan
      exact hcan.1.2.1
    have hno := (opT_neg h).mp hopen
    have h1 : Re (pre1 M k c lo') (wr (thr (suT R c) 0) 130 (2 * k + c) (nI 112)) n :=
      hS2.sta (by rw [htn]; exact hk9) hc (by decide) (fun _ k' hk' _ => by rw [htn] at hk'; rw [cm _ (by simp only [rSt, rLed]; omega) (by simp only [rSt, rPu]; omega)]; exact hno k' hk')
    have hr : rcN (wr (thr (suT R c) 0) 130 (2 * k + c) (nI 112)) c lo' (mnN R c) = nearI (pre1 M k c lo') c lo' := by
      have := h1.reach hc hlo
      rw [show mnN (wr (thr (suT R c) 0) 130 (2 * k + c) (nI 112)) c = mnN R c from congrArg Int32.toNatClampNeg (congrFun ((wr_ne (by decide)).trans ((wr_ne (by decide)).trans (suT_ne (by decide) (by decide)))) _)] at this
      exact this
    have pm : ∀ r, r ≠ rSt k → r ≠ rLed c → r ≠ rPu c → pre1 M k c lo' r = M r := fun r h1 h2 h3 => by unfold pre1; rw [wr_ne h1, cm r h2 h3]
    have sz : szN (pre1 M k c lo') c = szN M c := by unfold szN; rw [pm _ (by simp only [rRow, rSt]; omega) (by simp only [rRow, rLed]; omega) (by simp only [rRow, rPu]; omega)]
    have ck : (nI k).toNatClampNeg = k := nI_clamp (by have := h.tn8; omega)
    have tr9 : trN (wr (thr (suT R c) 0) 130 (2 * k + c) (nI 112)) = trN R := by rw [← h1.tn, h.tn.symm]; unfold tnN; rw [pm _ (by simp only [rMain, rSt]; omega) (by simp only [rMain, rLed]; omega) (by simp only [rMain, rPu]; omega)]
    rw [hr, h.wn hc, ← p2]
    unfold preM
    refine h1.cWrT hc sz h60 (h1.near hc hlo).1 ?_ (by decide) (by decide)
    rw [ck, tr9]
    refine ⟨by rw [← h.tn]; exact hk9, rfl, ?_⟩
    rw [p1]
    rw [show wr (thr (suT R c) 0) 130 (2 * k + c) (nI 112) 127 k = R 127 k from congrFun ((wr_ne (by decide)).trans ((wr_ne (by decide)).trans (suT_ne (by decide) (by decide)))) _]
  · rw [if_neg hk, if_neg hk]
    have hX : ∀ R', Re M R' n → Re (preX M tr ca lo) R' n := fun R' h' => by
      unfold preX
      split
      · rename_i h9
        exact h'.canM' (kPre_ok h h9).2.1
      · exact h'
    apply hX
    split
    · exact h.onK
    · exact (h0.onS).onK
theorem op_settle {M R : wM} {n : Nat} (h : Re M R n) (sn : SnTs M) (ca : Int32) : kSetR R ca = kSet M ca ∧ (kSet M ca = 0 → nI (opQ M (cI ca)) = nI (prQ R (cI ca))) ∧
    Re (if kSet M ca = 0 then setM M (cI ca) else M) (setRR R ca) n := by
  have h0 : Re M (T0 R) n := h.onK
  have hq9 : cI ca < 2 → ¬ opT M (cI ca) < 0 → prQ R (cI ca) = opQ M (cI ca) := fun hc ho => by
    have h1 := h0.opq hc ho
    unfold prQ
    rw [show trN R = trN (T0 R) from rfl, h1]
    exact nI_clamp (by have := (opQ_hit h ho).1; have := h.tn8; omega)
  have hset : cI ca < 2 → ¬ opT M (cI ca) < 0 → setBR R (cI ca) = stl2 M (cI ca) := fun hc ho => by
    have hS : Re M (suT R (cI ca)) n := h0.onS
    have hr : rcU (suT R (cI ca)) (cI ca) (mnN R (cI ca)) = M (rCas (cI ca)) 3 := by
      have := hS.reachU hc
      rw [show mnN (suT R (cI ca)) (cI ca) = mnN R (cI ca) by unfold mnN; rw [suT_ne (by decide) (by decide)]] at this
      exact this
    have hq := hS.q hc (hS.up hc)
    have hh : hgR (T0 R) (cI ca) (wrN R (cI ca)) = rHang M (cI ca) (szN M (cI ca)) := h0.hang hc
    unfold setBR stl2 tDec
    rw [hr, hq, hh, hq9 hc ho, (h.tr (opQ_hit h ho).1).2.2.1]
    have hd : decide (0 ≤ opT M (cI ca)) = true := decide_eq_true (Int32.not_lt.mp ho)
    rw [hd]
    cases rHang M (cI ca) (szN M (cI ca)) <;> cases qrm M (cI ca) (M (rCas (cI ca)) 3) <;> simp
  have hK : kSetR R ca = kSet M ca := by
    unfold kSetR kSet vC
    cases e : vIn ca 2 with
    | false => simp only [Bool.false_eq_true, if_false]
    | true =>
      have hc := vIn_cI e (by decide)
      have ho : (prN (T0 R) (cI ca) (trN R) < 0) ↔ (opT M (cI ca) < 0) := h0.opn hc
      by_cases a : opT M (cI ca) < 0
      · have : stl2 M (cI ca) = false := by
          unfold stl2
          rw [decide_eq_false (fun z => absurd z (Int32.not_le.mpr a)), Bool.false_and]
        rw [this]
        simp only [ho.mpr a, if_true, Bool.false_eq_true, if_false]
      · rw [hset hc a, h.wn hc]
        simp only [if_true]
        rw [if_neg (fun z => a (ho.mp z))]
  have hok : kSet M ca = 0 → cI ca < 2 ∧ stl2 M (cI ca) = true ∧ szN M (cI ca) < 60 := fun hk => by
    obtain ⟨h1, h2⟩ := ifk0 (by decide) hk
    obtain ⟨h3, h4⟩ := ifk0 (by decide) h2
    refine ⟨vIn_cI h1 (by decide), h3, ?_⟩
    by_cases e : szN M (cI ca) < 60
    · exact e
    · rw [if_neg e] at h4; exact absurd h4 (by decide)
  have hopn : ∀ c, stl2 M c = true → ¬ opT M c < 0 := fun c z => by
    simp only [stl2, Bool.and_eq_true, decide_eq_true_eq] at z
    exact Int32.not_lt.mpr z.1
  refine ⟨hK, fun hk => by rw [hq9 (hok hk).1 (hopn _ (hok hk).2.1)], ?_⟩
  unfold setRR
  rw [hK]
  by_cases hk : kSet M ca = 0
  · rw [if_pos hk, if_pos hk]
    obtain ⟨hc, hst, h60⟩ := hok hk
    have ho := hopn _ hst
    rw [hq9 hc ho]
    obtain ⟨q1, q2, q3⟩ := opQ_hit h ho
    generalize cI ca = c at hc hst h60 ho q1 q2 q3 ⊢
    obtain ⟨p1, p2, p3, p4, p5, p6⟩ := h.tr q1
    unfold setM set1
    generalize hk9 : opQ M c = k at q1 q2 q3 p1 p2 p3 p4 p5 p6 ⊢
    have hdec : ¬ M (rTr k) 2 = nI 45 := by
      simp only [stl2, tDec, Bool.and_eq_true, decide_eq_true_eq] at hst
      rw [hk9] at hst
      exact hst.2.1
    have hlet : M (rTr k) 2 = nI 100 ∨ M (rTr k) 2 = nI 97 := by
      rcases (sn k q1).1 with e | e | e
      · exact absurd e hdec
      · exact Or.inl e
      · exact Or.inr e
    have hnar : narrow .char (.int (M (rTr k) 2)) = .int (M (rTr k) 2) := (h.1.2.2.2.2 k q1).1
    have hS : Re M (thr (suT R c) 0) n := (h0.onS).onK
    have h1 : Re (wr M (rSt k) c (M (rTr k) 2)) (wr (thr (suT R c) 0) 130 (2 * k + c) (M (rTr k) 2)) n :=
      hS.sta q1 hc hnar (fun e => by rcases hlet with e2 | e2 <;> rw [e2] at e <;> exact absurd e (by decide))
    have pm : ∀ r, r ≠ rSt k → wr M (rSt k) c (M (rTr k) 2) r = M r := fun r h1 => wr_ne h1
    have hr : rcU (wr (thr (suT R c) 0) 130 (2 * k + c) (M (rTr k) 2)) c (mnN R c) = M (rCas c) 3 := by
      have := h1.reachU hc
      rw [show mnN (wr (thr (suT R c) 0) 130 (2 * k + c) (M (rTr k) 2)) c = mnN R c from congrArg Int32.toNatClampNeg (congrFun ((wr_ne (by decide)).trans ((wr_ne (by decide)).trans (suT_ne (by decide) (by decide)))) _), pm _ (by simp only [rCas, rSt]; omega)] at this
      exact this
    have sz : szN (wr M (rSt k) c (M (rTr k) 2)) c = szN M c := by unfold szN; rw [pm _ (by simp only [rRow, rSt]; omega)]
    have ck : (nI k).toNatClampNeg = k := nI_clamp (by have := h.tn8; omega)
    have tr9 : trN (wr (thr (suT R c) 0) 130 (2 * k + c) (M (rTr k) 2)) = trN R := by rw [← h1.tn, h.tn.symm]; unfold tnN; rw [pm _ (by simp only [rMain, rSt]; omega)]
    rw [← p3, hr, h.wn hc, ← p2]
    refine h1.cWrT hc sz h60 (h.up hc) ?_ (by rcases hlet with e | e <;> rw [e] <;> decide) hnar
    rw [ck, tr9]
    refine ⟨by rw [← h.tn]; exact q1, rfl, ?_⟩
    rw [p1]
    rw [show wr (thr (suT R c) 0) 130 (2 * k + c) (M (rTr k) 2) 127 k = R 127 k from congrFun ((wr_ne (by decide)).trans ((wr_ne (by decide)).trans (suT_ne (by decide) (by decide)))) _]
  · rw [if_neg hk, if_neg hk]
    split
    · exact h.onK
    · split
      · exact h.onK
      · exact (h0.onS).onK
