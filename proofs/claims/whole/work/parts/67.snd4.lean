/-! what is known of ledgers, sights and truces beside the relation -/
theorem nI_half {s : Nat} (h : s ≤ 69939) : nI s / nI 2 = nI (s / 2) := (Int32.ofNat_div (by omega) (by decide)).symm
/-- what is held at a castle: the amount of the truce that is open there, if it moves gold from here -/
def HO (M : wM) (c h : Nat) : Prop := (∀ k, k < tnN M → M (rSt k) c = nI 112 → h = if M (rTr k) 0 = nI c then (M (rTr k) 1).toNatClampNeg else 0) ∧ ((∀ k, k < tnN M → ¬ M (rSt k) c = nI 112) → h = 0)
def LIc (M : wM) (c : Nat) : Prop := (∀ k, k < szN M c → (∃ m, m ≤ 69939 ∧ M (rAm c) k = nI m) ∧ (isTru (M (rLe c) k) = true → k < rCnt M c (szN M c))) ∧ ∃ h, LB M c (rCnt M c (szN M c)) h ∧ HO M c h
def LI (M : wM) : Prop := (∀ c, c < 2 → LIc M c) ∧ ∀ k, k < scN M → ∃ s, s ≤ 69939 ∧ M (rSi k) 5 = nI s
theorem lead_ge {p : Nat → Bool} {j : Nat} : ∀ {n : Nat}, j ≤ n → (∀ k, k < j → p k = true) → j ≤ lead p n
  | 0, h, _ => by omega
  | n + 1, h, hp => by
    by_cases e : j = n + 1
    · subst e; rw [lead_all hp]; exact Nat.le_refl _
    · have := lead_ge (n := n) (by omega) hp
      simp only [lead]
      split <;> omega
theorem LB.grow {M M' : wM} {c j h : Nat} (hb : LB M c j h) (e0 : M' (rCas c) 1 = M (rCas c) 1) (he : ∀ k, k < j → ES M M' c k) : ∀ {s : Nat}, j ≤ s → s ≤ 60 → (∀ k, j ≤ k → k < s → isTru (M' (rLe c) k) = false ∧ (isOrd (M' (rLe c) k) = true → (M' (rLo c) k).toNatClampNeg < 4) ∧ ∃ m, m ≤ 69939 ∧ M' (rAm c) k = nI m) → LB M' c s h
  | 0, hj, _, _ => by
    have : j = 0 := by omega
    subst this; exact hb.congr e0 he
  | s + 1, hj, h60, hn => by
    by_cases e : j = s + 1
    · subst e; exact hb.congr e0 he
    · have ih := hb.grow e0 he (s := s) (by omega) (by omega) (fun k a b => hn k a (by omega))
      obtain ⟨n1, n2, m, n3, n4⟩ := hn s (by omega) (by omega)
      cases ho : isOrd (M' (rLe c) s) with
      | true => exact ih.ord (by omega) ho (n2 ho) n4 n3
      | false => exact ih.nil ho n1
theorem LIc.grow {M M' : wM} {c : Nat} (hL : LIc M c) (s60 : szN M' c ≤ 60) (hs : szN M c ≤ szN M' c) (e0 : M' (rCas c) 1 = M (rCas c) 1) (he : ∀ k, k < rCnt M c (szN M c) → ES M M' c k ∧ cnts M' c k = true)
    (hn : ∀ k, rCnt M c (szN M c) ≤ k → k < szN M' c → isTru (M' (rLe c) k) = false ∧ (isOrd (M' (rLe c) k) = true → (M' (rLo c) k).toNatClampNeg < 4) ∧ ∃ m, m ≤ 69939 ∧ M' (rAm c) k = nI m) (hho : ∀ h, HO M c h → HO M' c h) : LIc M' c := by
  obtain ⟨l1, h, l2, l3⟩ := hL
  have c0 := lead_le (cnts M c) (szN M c)
  have c1 : rCnt M c (szN M c) ≤ rCnt M' c (szN M' c) := lead_ge (Nat.le_trans c0 hs) (fun k hk => (he k hk).2)
  have c2 := lead_le (cnts M' c) (szN M' c)
  refine ⟨fun k hk => ?_, h, ?_, hho h l3⟩
  · by_cases e : k < rCnt M c (szN M c)
    · refine ⟨?_, fun _ => by omega⟩
      obtain ⟨m, m1, m2⟩ := (l1 k (Nat.lt_of_lt_of_le e c0)).1
      exact ⟨m, m1, by rw [(he k e).1.2.1]; exact m2⟩
    · obtain ⟨n1, -, n3⟩ := hn k (by omega) hk
      exact ⟨n3, fun z => by rw [n1] at z; cases z⟩
  · exact l2.grow e0 (fun k hk => (he k hk).1) c1 (by unfold rCnt; omega) (fun k a b => hn k a (by unfold rCnt at b; omega))
theorem HO.same {M M' : wM} {c h : Nat} (hh : HO M c h) (htn : tnN M' = tnN M) (e : ∀ k, k < tnN M → M' (rTr k) 0 = M (rTr k) 0 ∧ M' (rTr k) 1 = M (rTr k) 1 ∧ M' (rSt k) c = M (rSt k) c) : HO M' c h := by
  obtain ⟨h1, h2⟩ := hh
  refine ⟨fun k hk z => ?_, fun z => h2 (fun k hk z' => ?_)⟩
  · rw [htn] at hk
    obtain ⟨a, b, d⟩ := e k hk
    rw [a, b]; rw [d] at z; exact h1 k hk z
  · obtain ⟨a, b, d⟩ := e k hk
    exact z k (by rw [htn]; exact hk) (by rw [d]; exact z')
/-- rows, gold and truces as they were: only holders, what is committed (more), ledgers change -/
theorem LIc.same {M M' R : wM} {n c : Nat} (hr : Re M R n) (hc : c < 2) (hL : LIc M c) (e16 : M' (rRow c) 0 = M (rRow c) 0) (e17 : ∀ k, k < szN M c → M' (rLe c) k = M (rLe c) k) (e18 : ∀ k, k < szN M c → M' (rAm c) k = M (rAm c) k) (e19 : ∀ k, k < szN M c → M' (rLo c) k = M (rLo c) k) (e21 : ∀ k, k < szN M c → M' (rFh c) k = M (rFh c) k)
    (e22 : ∀ k, k < szN M c → ¬ M (rCo c) k = 0 → ¬ M' (rCo c) k = 0) (e0 : M' (rCas c) 1 = M (rCas c) 1) (hho : ∀ h, HO M c h → HO M' c h) : LIc M' c := by
  have sz : szN M' c = szN M c := by unfold szN; rw [e16]
  have c0 := lead_le (cnts M c) (szN M c)
  refine hL.grow (by rw [sz]; exact hr.sz60 hc) (by rw [sz]; exact Nat.le_refl _) e0 (fun k hk => ⟨⟨?_, ?_, fun ho => ⟨?_, ?_⟩, fun _ _ => ?_⟩, ?_⟩) (fun k a b => ?_) hho
  · exact e17 k (Nat.lt_of_lt_of_le hk c0)
  · exact e18 k (Nat.lt_of_lt_of_le hk c0)
  · exact e19 k (Nat.lt_of_lt_of_le hk c0)
  · exact ((hr.1.1 c hc).2.2.2.2.1 k (Nat.lt_of_lt_of_le hk c0) ho).1
  · exact e21 k (Nat.lt_of_lt_of_le hk c0)
  · have hk9 := Nat.lt_of_lt_of_le hk c0
    have h9 := lead_all' (p := cnts M c) (n := szN M c) (j := k) hk
    unfold cnts at h9 ⊢
    rw [e17 k hk9]
    simp only [Bool.or_eq_true, decide_eq_true_eq] at h9 ⊢
    rcases h9 with a | a
    · exact Or.inl (e22 k hk9 a)
    · exact Or.inr a
  · rw [sz] at b
    rw [e17 k b, e18 k b, e19 k b]
    obtain ⟨l1, l2⟩ := hL.1 k b
    refine ⟨?_, fun ho => ((hr.1.1 c hc).2.2.2.2.1 k b ho).1, l1⟩
    cases ht : isTru (M (rLe c) k) with
    | false => rfl
    | true => have := l2 ht; omega
theorem LI.same {M M' R : wM} {n : Nat} (hr : Re M R n) (hL : LI M) (e : ∀ c, c < 2 → ∀ j, 16 ≤ j → j < 23 → j ≠ 20 → M' (30 * c + j) = M (30 * c + j)) (e0 : ∀ c, c < 2 → M' (rCas c) 1 = M (rCas c) 1) (hs : scN M' = scN M) (eS : ∀ k, k < scN M → M' (rSi k) 5 = M (rSi k) 5)
    (ht : tnN M' = tnN M) (eT : ∀ k, k < tnN M → M' (rTr k) 0 = M (rTr k) 0 ∧ M' (rTr k) 1 = M (rTr k) 1 ∧ ∀ c, c < 2 → M' (rSt k) c = M (rSt k) c) : LI M' := by
  refine ⟨fun c hc => ?_, fun k hk => ?_⟩
  · have f : ∀ j, 16 ≤ j → j < 23 → j ≠ 20 → M' (30 * c + j) = M (30 * c + j) := e c hc
    refine (hL.1 c hc).same hr hc (congrFun (f 16 (by decide) (by decide) (by decide)) 0) (fun k _ => congrFun (f 17 (by decide) (by decide) (by decide)) k) (fun k _ => congrFun (f 18 (by decide) (by decide) (by decide)) k) (fun k _ => congrFun (f 19 (by decide) (by decide) (by decide)) k) (fun k _ => congrFun (f 21 (by decide) (by decide) (by decide)) k) (fun k _ z => by rw [show M' (rCo c) = M (rCo c) from f 22 (by decide) (by decide) (by decide)]; exact z) (e0 c hc) (fun h hh => hh.same ht (fun k hk => ⟨(eT k hk).1, (eT k hk).2.1, (eT k hk).2.2 c hc⟩))
  · rw [hs] at hk
    rw [eS k hk]; exact hL.2 k hk
theorem SnTs.same {M M' : wM} (h : SnTs M) (ht : tnN M' = tnN M) (eT : ∀ k, k < tnN M → M' (rTr k) 2 = M (rTr k) 2 ∧ ∀ c, c < 2 → M' (rSt k) c = M (rSt k) c) : SnTs M' := fun k hk => by
  rw [ht] at hk
  have h9 := h k hk
  unfold SnT at h9 ⊢
  rw [(eT k hk).1]
  exact ⟨h9.1, fun c hc => by rw [(eT k hk).2 c hc]; exact h9.2 c hc⟩
/-- an order is written -/
theorem LIc.ordw {M R : wM} {n c s m lo : Nat} {le tw : Int32} (hr : Re M R n) (hL : LIc M c) (hc : c < 2) (hs : szN M c = s) (h60 : s < 60) (hm : m ≤ 69939) (ht : isTru le = false) (hlo : lo < 4) : LIc (cWrite M c s le (nI m) (nI lo) tw) c := by
  obtain ⟨a1, a2, a3, a4, a5, a6, a7, a8, a9, a10⟩ := cW_at (M := M) (s := s) (le := le) (am := nI m) (v := nI lo) (tw := tw) hc (Or.inl rfl)
  change (∀ k, cWrite M c s le (nI m) (nI lo) tw (rLe c) k = _) at a1
  generalize hM' : seM (wr (rApp M c s le (nI m)) (rLo c) s (nI lo)) c s tw = M' at a1 a2 a3 a4 a5 a6 a7 a8 a9 a10
  have hM2 : cWrite M c s le (nI m) (nI lo) tw = M' := hM'
  rw [hM2] at a1 ⊢
  have sz : szN M' c = s + 1 := by unfold szN; rw [a5]; exact nI_clamp (by omega)
  have c0 := lead_le (cnts M c) (szN M c)
  have mc : M' (rCas c) = M (rCas c) := a10 _ (by simp only [rCas, rRow]; omega) (by simp only [rCas, rLe]; omega) (by simp only [rCas, rAm]; omega) (by simp only [rCas, rLo]; omega) (by simp only [rCas, rHo]; omega) (by simp only [rCas, rFh]; omega) (by simp only [rCas, rCo]; omega)
  have mo : ∀ r, 60 ≤ r → M' r = M r := fun r hr => a10 _ (by simp only [rRow]; omega) (by simp only [rLe]; omega) (by simp only [rAm]; omega) (by simp only [rLo]; omega) (by simp only [rHo]; omega) (by simp only [rFh]; omega) (by simp only [rCo]; omega)
  have htn : tnN M' = tnN M := by unfold tnN; rw [mo 60 (by decide)]
  refine hL.grow (by omega) (by omega) (by rw [mc]) (fun k hk => ?_) (fun k a b => ?_) (fun h hh => hh.same htn (fun k hk => by rw [mo (rTr k) (by simp only [rTr]; omega), mo (rSt k) (by simp only [rSt]; omega)]; exact ⟨rfl, rfl, rfl⟩))
  · have hk9 : k < s := by unfold rCnt at hk; omega
    have e : ¬ k = s := by omega
    have h9 := lead_all' (p := cnts M c) (n := szN M c) (j := k) hk
    refine ⟨⟨by rw [a1, if_neg e], by rw [a2, if_neg e], fun ho => ⟨a8 k e, ((hr.1.1 c hc).2.2.2.2.1 k (by omega) ho).1⟩, fun _ _ => a9 k e⟩, ?_⟩
    unfold cnts at h9 ⊢
    rw [a1, a4, if_neg e, if_neg e]; exact h9
  · rw [sz] at b
    by_cases e : k = s
    · subst e
      rw [a1, a2, if_pos rfl, if_pos rfl, a7]
      exact ⟨ht, fun _ => (nI_lo hlo).1, m, hm, rfl⟩
    · have hk9 : k < szN M c := by omega
      rw [a1, a2, if_neg e, if_neg e, a8 k e]
      obtain ⟨l1, l2⟩ := hL.1 k hk9
      refine ⟨?_, fun ho => ((hr.1.1 c hc).2.2.2.2.1 k hk9 ho).1, l1⟩
      cases ht : isTru (M (rLe c) k) with
      | false => rfl
      | true => have := l2 ht; omega
/-- the castle that is not written to -/
theorem LIc.other {M M' R : wM} {n c' : Nat} (hr : Re M R n) (hL : LIc M c') (hc' : c' < 2) (e : ∀ j, j < 23 → M' (30 * c' + j) = M (30 * c' + j)) (hho : ∀ h, HO M c' h → HO M' c' h) : LIc M' c' :=
  hL.same hr hc' (congrFun (e 16 (by decide)) 0) (fun k _ => congrFun (e 17 (by decide)) k) (fun k _ => congrFun (e 18 (by decide)) k) (fun k _ => congrFun (e 19 (by decide)) k) (fun k _ => congrFun (e 21 (by decide)) k) (fun k _ z => by rw [show M' (rCo c') = M (rCo c') from e 22 (by decide)]; exact z) (congrFun (e 0 (by decide)) 1) hho
/-- a truce's entry is written: all entries count -/
theorem LIc.truw {M M0 R : wM} {n c s m h h' : Nat} {le tw : Int32} {f : Bool} (hr : Re M R n) (hL : LIc M0 c) (e0 : ∀ j, j < 23 → M (30 * c + j) = M0 (30 * c + j)) (hc : c < 2) (hs : szN M c = s) (h60 : s < 60) (hm : m ≤ 999) (ht : isTru le = true) (hall : rCnt M c s = s) (hq : qrm M c tw = true)
    (hb : LB M c s h) (hle : (le = nI 112 ∧ (if f = true then (∀ a, tN M c (M (rCas c) 1) s (rLed c) 0 = nI a → a < 2 ^ 30 → h + m ≤ a) ∧ h' = h + m else h' = h)) ∨ ((le = nI 100 ∨ le = nI 97) ∧ (if f = true then m ≤ h ∧ h' = h - m else h' = h))) (hho : HO M c h') : LIc (cWriteT M c s le (nI m) f tw) c := by
  obtain ⟨a1, a2, a3, a4, a5, a6, a7, a8, a9, a10⟩ := cW_at (M := M) (s := s) (le := le) (am := nI m) (v := b2i f) (tw := tw) hc (Or.inr rfl)
  generalize hM' : seM (wr (rApp M c s le (nI m)) (rFh c) s (b2i f)) c s tw = M' at a1 a2 a3 a4 a5 a6 a7 a8 a9 a10
  have hM2 : cWriteT M c s le (nI m) f tw = M' := hM'
  rw [hM2]
  have sz : szN M' c = s + 1 := by unfold szN; rw [a5]; exact nI_clamp (by omega)
  have mc : M' (rCas c) = M (rCas c) := a10 _ (by simp only [rCas, rRow]; omega) (by simp only [rCas, rLe]; omega) (by simp only [rCas, rAm]; omega) (by simp only [rCas, rLo]; omega) (by simp only [rCas, rHo]; omega) (by simp only [rCas, rFh]; omega) (by simp only [rCas, rCo]; omega)
  have mo : ∀ r, 60 ≤ r → M' r = M r := fun r hr => a10 _ (by simp only [rRow]; omega) (by simp only [rLe]; omega) (by simp only [rAm]; omega) (by simp only [rLo]; omega) (by simp only [rHo]; omega) (by simp only [rFh]; omega) (by simp only [rCo]; omega)
  have htn : tnN M' = tnN M := by unfold tnN; rw [mo 60 (by decide)]
  have hcn : rCnt M' c (s + 1) = s + 1 := by
    unfold rCnt at hall ⊢
    refine lead_all (fun k hk => ?_)
    unfold cnts
    rw [a4, a1]
    by_cases e : k = s
    · rw [if_pos e, if_pos e, hq]; rfl
    · rw [if_neg e, if_neg e]
      exact lead_all' (p := cnts M c) (n := s) (j := k) (by omega)
  have hES : ∀ k, k < s → ES M M' c k := fun k hk => by
    have e : ¬ k = s := by omega
    exact ⟨by rw [a1, if_neg e], by rw [a2, if_neg e], fun ho => ⟨a8 k e, ((hr.1.1 c hc).2.2.2.2.1 k (by omega) ho).1⟩, fun _ _ => a9 k e⟩
  have hb' : LB M' c s h := hb.congr (by rw [mc]) hES
  have hAE := AE.run (gb := M (rCas c) 1) hES
  have hM0 : szN M0 c = s := by rw [← hs]; unfold szN; rw [show M (rRow c) = M0 (rRow c) from e0 16 (by decide)]
  refine ⟨fun k hk => ?_, h', ?_, hho.same htn (fun k hk => by rw [mo (rTr k) (by simp only [rTr]; omega), mo (rSt k) (by simp only [rSt]; omega)]; exact ⟨rfl, rfl, rfl⟩)⟩
  · rw [sz] at hk
    rw [sz, hcn]
    refine ⟨?_, fun _ => hk⟩
    by_cases e : k = s
    · subst e; exact ⟨m, by omega, by rw [a2, if_pos rfl]⟩
    · rw [a2, if_neg e, show M (rAm c) = M0 (rAm c) from e0 18 (by decide)]
      exact (hL.1 k (by omega)).1
  · rw [sz, hcn]
    refine hb'.tru h60 (by rw [a2, if_pos rfl]) hm a7 ?_
    rw [a1, if_pos rfl, mc]
    rcases hle with ⟨x1, x2⟩ | ⟨x1, x2⟩
    · left
      refine ⟨x1, ?_⟩
      cases f with
      | true =>
        rw [if_pos rfl] at x2 ⊢
        exact ⟨fun a ha => x2.1 a (by rw [hAE.1]; exact ha), x2.2⟩
      | false => exact x2
    · exact Or.inr ⟨x1, x2⟩
