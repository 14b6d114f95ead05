/-! invariants: scout, truces; the class is sound -/
theorem LIc.ledv {M R : wM} {n c : Nat} (hr : Re M R n) (hL : LIc M c) (hc : c < 2) : ∃ a h p, LV (telM M c (szN M c)) c a h p ∧ h ≤ a ∧ a + p 0 + p 1 + p 2 + p 3 ≤ 69939 ∧ HO M c h := by
  obtain ⟨-, h, ⟨a, p, l1, l2, l3⟩, ho⟩ := hL
  have c0 := lead_le (cnts M c) (szN M c)
  have s60 := hr.sz60 hc
  refine ⟨a, h, p, l1, l2, ?_, ho⟩
  unfold rCnt at l3
  omega
theorem Inv.scout {M R : wM} {n : Nat} {lo ca : Int32} (hr : Re M R n) (h : Inv M) (hk : kScout M lo ca = 0) : Inv (scoM M (cI ca) (cI lo)) := by
  obtain ⟨hc, hlo, h20⟩ := kSco_ok hr hk
  generalize cI ca = c at hc ⊢
  generalize cI lo = lo' at hlo ⊢
  have ht8 := hr.tn8
  generalize hk9 : scN M = k at h20
  have hl5 : ∀ r, r ≠ rSi k → lk5 M k c lo' (szN M c) (nowM M) r = M r := fun r hr => lk5_ne hr
  obtain ⟨a, h0, p, l1, l2, l3, -⟩ := (h.2.1.1 c hc).ledv hr hc
  have e1 : ∀ r, r ≠ rSi k → r ≠ rMain → r ≠ rLed c → r ≠ rPu c → scoM M c lo' r = M r := fun r h1 h2 h3 h4 => by
    unfold scoM; rw [wr_ne h2, hk9, sLook_ne h1 h3 h4]
  have m0 : ∀ j, j ≠ 5 → scoM M c lo' rMain j = M rMain j := fun j hj => by
    unfold scoM
    rw [hk9, wr_othj hj, sLook_ne (by simp only [rSi, rMain]; omega) (by simp only [rLed, rMain]; omega) (by simp only [rPu, rMain]; omega)]
  have m5 : scoM M c lo' rMain 5 = nI (k + 1) := by unfold scoM; rw [hk9, wr_same]
  have mv : scoM M c lo' (rSi k) 5 = lFree (telM (lk5 M k c lo' (szN M c) (nowM M)) c (szN M c)) c := by
    unfold scoM; rw [hk9, wr_ne (by simp only [rSi, rMain]; omega)]; unfold sLook; rw [wr_same]
  have hES : ∀ k', k' < szN M c → ES M (lk5 M k c lo' (szN M c) (nowM M)) c k' := fun k' hk' => by
    refine ⟨by rw [hl5 _ (by simp only [rLe, rSi]; omega)], by rw [hl5 _ (by simp only [rAm, rSi]; omega)], fun ho => ⟨by rw [hl5 _ (by simp only [rLo, rSi]; omega)], ((hr.1.1 c hc).2.2.2.2.1 k' hk' ho).1⟩, fun _ _ => by rw [hl5 _ (by simp only [rFh, rSi]; omega)]⟩
  have cn : rCnt (lk5 M k c lo' (szN M c) (nowM M)) c (szN M c) = rCnt M c (szN M c) := rCnt_eq (hl5 _ (by simp only [rCo, rSi]; omega)) (hl5 _ (by simp only [rLe, rSi]; omega))
  have gb : lk5 M k c lo' (szN M c) (nowM M) (rCas c) 1 = M (rCas c) 1 := by rw [hl5 _ (by simp only [rCas, rSi]; omega)]
  have hAE := AE.run (gb := M (rCas c) 1) (M := M) (M' := lk5 M k c lo' (szN M c) (nowM M)) (j := rCnt M c (szN M c)) (fun k' hk' => hES k' (Nat.lt_of_lt_of_le hk' (lead_le _ _)))
  have mv2 : scoM M c lo' (rSi k) 5 = nI (a - h0) := by
    rw [mv]
    unfold lFree
    unfold telM
    rw [cn, gb, ← hAE.1, ← hAE.2.1]
    obtain ⟨q1, q2, -⟩ := l1
    unfold telM at q1 q2
    rw [q1, q2, nI_subn l2]
  generalize scoM M c lo' = M' at e1 m0 m5 mv2 ⊢
  have hsc : scN M' = k + 1 := by unfold scN; rw [m5]; exact nI_clamp (by omega)
  have htn : tnN M' = tnN M := by unfold tnN; rw [m0 6 (by decide)]
  have hC : ∀ c', c' < 2 → ∀ j, j < 23 → M' (30 * c' + j) = M (30 * c' + j) := fun c' hc' j hj => e1 _ (by simp only [rSi]; omega) (by simp only [rMain]; omega) (by simp only [rLed]; omega) (by simp only [rPu]; omega)
  have hT : ∀ k', k' < tnN M → M' (rTr k') = M (rTr k') ∧ M' (rSt k') = M (rSt k') := fun k' hk' => ⟨e1 _ (by simp only [rTr, rSi]; omega) (by simp only [rTr, rMain]; omega) (by simp only [rTr, rLed]; omega) (by simp only [rTr, rPu]; omega), e1 _ (by simp only [rSt, rSi]; omega) (by simp only [rSt, rMain]; omega) (by simp only [rSt, rLed]; omega) (by simp only [rSt, rPu]; omega)⟩
  refine ⟨h.1.led (fun c' hc' j hj _ _ => hC c' hc' j hj) (m0 7 (by decide)), ⟨fun c' hc' => ?_, fun k' hk' => ?_⟩, h.2.2.same htn (fun k' hk' => by rw [(hT k' hk').1, (hT k' hk').2]; exact ⟨rfl, fun _ _ => rfl⟩)⟩
  · exact (h.2.1.1 c' hc').other hr hc' (hC c' hc') (fun h' hh => hh.same htn (fun k' hk' => by rw [(hT k' hk').1, (hT k' hk').2]; exact ⟨rfl, rfl, rfl⟩))
  · rw [hsc] at hk'
    by_cases e : k' = k
    · subst e; exact ⟨a - h0, by omega, mv2⟩
    · rw [e1 _ (by simp only [rSi]; omega) (by simp only [rSi, rMain]; omega) (by simp only [rSi, rLed]; omega) (by simp only [rSi, rPu]; omega)]
      exact h.2.1.2 k' (by omega)
/-- castles and sights stay; truces' rows change -/
theorem Inv.tru {M M' R : wM} {n : Nat} (hr : Re M R n) (h : Inv M) (e : ∀ r, r < 84 → r ≠ 60 → M' r = M r) (m5 : M' rMain 5 = M rMain 5) (m7 : M' rMain 7 = M rMain 7) (hs : SnTs M') (hho : ∀ c, c < 2 → ∀ h', HO M c h' → HO M' c h') : Inv M' := by
  have hs20 := hr.sc20
  have hsc : scN M' = scN M := by unfold scN; rw [m5]
  have hC : ∀ c', c' < 2 → ∀ j, j < 23 → M' (30 * c' + j) = M (30 * c' + j) := fun c' hc' j hj => e _ (by omega) (by omega)
  refine ⟨h.1.led (fun c' hc' j hj _ _ => hC c' hc' j hj) m7, ⟨fun c' hc' => (h.2.1.1 c' hc').other hr hc' (hC c' hc') (hho c' hc'), fun k' hk' => ?_⟩, hs⟩
  rw [hsc] at hk'
  rw [e _ (by simp only [rSi]; omega) (by simp only [rSi]; omega)]
  exact h.2.1.2 k' hk'
theorem Inv.truce {M R : wM} {n : Nat} {fr wo : Int32} (hr : Re M R n) (h : Inv M) (hk : kTruce M fr wo = 0) : Inv (truM M fr wo) := by
  have h8 : tnN M < 8 := by
    obtain ⟨-, hk2⟩ := ifk0 (by decide) hk
    obtain ⟨-, hk3⟩ := ifk0 (by decide) hk2
    by_cases e : tnN M < 8
    · exact e
    · rw [if_neg e] at hk3; exact absurd hk3 (by decide)
  generalize hk0 : tnN M = k at h8
  have mt : ∀ r, r ≠ rTr k → r ≠ rSt k → r ≠ rMain → truM M fr wo r = M r := fun r h1 h2 h3 => by
    unfold truM; rw [hk0, wr_ne h3]; exact bgN_ne h1 h2
  have mT : truM M fr wo (rTr k) 2 = nI 45 := by
    unfold truM
    rw [hk0, wr_ne (by simp only [rTr, rMain]; omega)]
    simp only [bgN, bg3]
    rw [wr_ne (by simp only [rTr, rSt]; omega), wr_ne (by simp only [rTr, rSt]; omega), wr_same]
  have mS : ∀ c', c' < 2 → truM M fr wo (rSt k) c' = nI 45 := fun c' hc' => by
    unfold truM
    rw [hk0, wr_ne (by simp only [rSt, rMain]; omega)]
    simp only [bgN]
    rcases (show c' = 1 ∨ c' = 0 by omega) with rfl | rfl
    · rw [wr_same]
    · rw [wr_othj (by decide), wr_same]
  have m0 : ∀ j, j ≠ 6 → truM M fr wo rMain j = M rMain j := fun j hj => by
    unfold truM; rw [hk0, wr_othj hj, bgN_ne (by simp only [rTr, rMain]; omega) (by simp only [rSt, rMain]; omega)]
  have m6 : truM M fr wo rMain 6 = nI (k + 1) := by unfold truM; rw [hk0, wr_same]
  generalize truM M fr wo = M' at mt mT mS m0 m6 ⊢
  have htn : tnN M' = k + 1 := by unfold tnN; rw [m6]; exact nI_clamp (by omega)
  have mo : ∀ j, j < k → M' (rTr j) = M (rTr j) ∧ M' (rSt j) = M (rSt j) := fun j hj => ⟨mt _ (by simp only [rTr]; omega) (by simp only [rTr, rSt]; omega) (by simp only [rTr, rMain]; omega), mt _ (by simp only [rSt, rTr]; omega) (by simp only [rSt]; omega) (by simp only [rSt, rMain]; omega)⟩
  refine h.tru hr (fun r h1 h2 => mt r (by simp only [rTr]; omega) (by simp only [rSt]; omega) h2) (m0 5 (by decide)) (m0 7 (by decide)) (fun j hj => ?_) (fun c hc h' hh => ⟨fun j hj z => ?_, fun z => hh.2 (fun j hj z' => ?_)⟩)
  · rw [htn] at hj
    by_cases e : j = k
    · subst e; exact ⟨Or.inl mT, fun c' hc' => Or.inl (mS c' hc')⟩
    · unfold SnT; rw [(mo j (by omega)).1, (mo j (by omega)).2]; exact h.2.2 j (by omega)
  · rw [htn] at hj
    by_cases e : j = k
    · subst e; rw [mS c hc] at z; exact absurd z (by decide)
    · rw [(mo j (by omega)).2] at z
      rw [(mo j (by omega)).1]; exact hh.1 j (by omega) z
  · rw [hk0] at hj
    exact z j (by omega) (by rw [(mo j hj).2]; exact z')
theorem Inv.deci {M R : wM} {n : Nat} {tr : Int32} {dn : Bool} (hr : Re M R n) (h : Inv M) (hk : kDec M tr dn = 0) : Inv (decM M (cI tr) dn) := by
  obtain ⟨h1, h2⟩ := ifk0 (by decide) hk
  have hk9 := vIn_cI h1 (Nat.lt_of_le_of_lt hr.tn8 (by decide))
  have h8 := hr.tn8
  have hnd : M (rTr (cI tr)) 2 = nI 45 := by
    cases e : tDec M (cI tr) with
    | true => rw [e, if_pos rfl] at h2; exact absurd h2 (by decide)
    | false =>
      unfold tDec at e
      simp only [decide_eq_false_iff_not, Classical.not_not] at e
      exact e
  generalize cI tr = k at hk9 hnd ⊢
  have mt : ∀ r, r ≠ rTr k → decM M k dn r = M r := fun r hr => wr_ne hr
  have mk9 : ∀ j, j ≠ 2 → decM M k dn (rTr k) j = M (rTr k) j := fun j hj => wr_othj hj
  have mk2 : decM M k dn (rTr k) 2 = (if dn = true then nI 100 else nI 97) := wr_same _ _ _ _
  generalize decM M k dn = M' at mt mk9 mk2 ⊢
  have hS : ∀ j, M' (rSt j) = M (rSt j) := fun j => mt _ (by simp only [rSt, rTr]; omega)
  have htn : tnN M' = tnN M := by unfold tnN; rw [mt _ (by simp only [rMain, rTr]; omega)]
  refine h.tru hr (fun r h1 h2 => mt r (by simp only [rTr]; omega)) (by rw [mt _ (by simp only [rMain, rTr]; omega)]) (by rw [mt _ (by simp only [rMain, rTr]; omega)]) (fun j hj => ?_) (fun c hc h' hh => hh.same htn (fun j hj => ?_))
  · rw [htn] at hj
    by_cases e : j = k
    · subst e
      unfold SnT
      rw [mk2, hS]
      refine ⟨by cases dn <;> simp, fun c hc => ?_⟩
      rcases (h.2.2 j hj).2 c hc with a | a | a
      · exact Or.inl a
      · exact Or.inr (Or.inl a)
      · exact absurd hnd a.2
    · unfold SnT; rw [mt _ (by simp only [rTr]; omega), hS]; exact h.2.2 j hj
  · rw [hS]
    by_cases e : j = k
    · subst e; rw [mk9 0 (by decide), mk9 1 (by decide)]; exact ⟨rfl, rfl, rfl⟩
    · rw [mt _ (by simp only [rTr]; omega)]; exact ⟨rfl, rfl, rfl⟩
/-- a truce's entry is written at castle c, the truce's state there changes -/
theorem Inv.pact {M R : wM} {n c k m h h' : Nat} {x tw : Int32} {f : Bool} (hr : Re M R n) (hI : Inv M) (hc : c < 2) (hk : k < tnN M) (h60 : szN M c < 60) (hm : m ≤ 999) (ht : isTru x = true) (hng : rHang M c (szN M c) = false) (hq : qrm M c tw = true)
    (hb : LB M c (szN M c) h) (hle : (x = nI 112 ∧ (if f = true then (∀ a, tN M c (M (rCas c) 1) (szN M c) (rLed c) 0 = nI a → a < 2 ^ 30 → h + m ≤ a) ∧ h' = h + m else h' = h)) ∨ ((x = nI 100 ∨ x = nI 97) ∧ (if f = true then m ≤ h ∧ h' = h - m else h' = h)))
    (hho : HO (wr M (rSt k) c x) c h') (hst : x = nI 112 ∨ (x = M (rTr k) 2 ∧ ¬ M (rTr k) 2 = nI 45)) : Inv (cWriteT (wr M (rSt k) c x) c (szN M c) x (nI m) f tw) := by
  have h8 := hr.tn8
  have n1 : ∀ r, r ≠ rSt k → wr M (rSt k) c x r = M r := fun r hr => wr_ne hr
  have sz1 : szN (wr M (rSt k) c x) c = szN M c := by unfold szN; rw [n1 _ (by simp only [rRow, rSt]; omega)]
  have hall : rCnt (wr M (rSt k) c x) c (szN M c) = szN M c := by
    rw [rCnt_eq (M := M) (n1 _ (by simp only [rCo, rSt]; omega)) (n1 _ (by simp only [rLe, rSt]; omega))]
    unfold rHang at hng
    have := lead_le (cnts M c) (szN M c)
    simp only [decide_eq_false_iff_not] at hng
    unfold rCnt at hng ⊢
    omega
  have hC1 : ∀ j, j < 23 → wr M (rSt k) c x (30 * c + j) = M (30 * c + j) := fun j hj => n1 _ (by simp only [rSt]; omega)
  have hES : ∀ j, j < szN M c → ES M (wr M (rSt k) c x) c j := fun j hj => by
    refine ⟨by rw [n1 _ (by simp only [rLe, rSt]; omega)], by rw [n1 _ (by simp only [rAm, rSt]; omega)], fun ho => ⟨by rw [n1 _ (by simp only [rLo, rSt]; omega)], ((hr.1.1 c hc).2.2.2.2.1 j hj ho).1⟩, fun _ _ => by rw [n1 _ (by simp only [rFh, rSt]; omega)]⟩
  have gb : wr M (rSt k) c x (rCas c) 1 = M (rCas c) 1 := by rw [n1 _ (by simp only [rCas, rSt]; omega)]
  have hAE := AE.run (gb := M (rCas c) 1) hES
  have hb1 : LB (wr M (rSt k) c x) c (szN M c) h := hb.congr gb hES
  have hr1 : IV (wr M (rSt k) c x) → True := fun _ => trivial
  have hq1 : qrm (wr M (rSt k) c x) c tw = true := by unfold qrm; rw [n1 _ (by simp only [rCas, rSt]; omega)]; exact hq
  have hord : ∀ j, j < szN M c → isOrd (M (rLe c) j) = true → (M (rLo c) j).toNatClampNeg < 4 := fun j hj ho => ((hr.1.1 c hc).2.2.2.2.1 j hj ho).1
  obtain ⟨a1, a2, a3, a4, a5, a6, a7, a8, a9, a10⟩ := cW_at (M := wr M (rSt k) c x) (s := szN M c) (le := x) (am := nI m) (v := b2i f) (tw := tw) hc (Or.inr rfl)
  generalize hM' : seM (wr (rApp (wr M (rSt k) c x) c (szN M c) x (nI m)) (rFh c) (szN M c) (b2i f)) c (szN M c) tw = M' at a1 a2 a3 a4 a5 a6 a7 a8 a9 a10
  have hM2 : cWriteT (wr M (rSt k) c x) c (szN M c) x (nI m) f tw = M' := hM'
  rw [hM2]
  have mo : ∀ r, 60 ≤ r → M' r = wr M (rSt k) c x r := fun r hr => a10 _ (by simp only [rRow]; omega) (by simp only [rLe]; omega) (by simp only [rAm]; omega) (by simp only [rLo]; omega) (by simp only [rHo]; omega) (by simp only [rFh]; omega) (by simp only [rCo]; omega)
  have mc : M' (rCas c) = M (rCas c) := (a10 _ (by simp only [rCas, rRow]; omega) (by simp only [rCas, rLe]; omega) (by simp only [rCas, rAm]; omega) (by simp only [rCas, rLo]; omega) (by simp only [rCas, rHo]; omega) (by simp only [rCas, rFh]; omega) (by simp only [rCas, rCo]; omega)).trans (n1 _ (by simp only [rCas, rSt]; omega))
  have hoth : ∀ c', c' < 2 → c' ≠ c → ∀ j, j < 23 → M' (30 * c' + j) = M (30 * c' + j) := fun c' hc' hne j hj => (a10 _ (by simp only [rRow]; omega) (by simp only [rLe]; omega) (by simp only [rAm]; omega) (by simp only [rLo]; omega) (by simp only [rHo]; omega) (by simp only [rFh]; omega) (by simp only [rCo]; omega)).trans (n1 _ (by simp only [rSt]; omega))
  have hlow : ∀ j, j < 16 → M' (30 * c + j) = M (30 * c + j) := fun j hj => (a10 _ (by simp only [rRow]; omega) (by simp only [rLe]; omega) (by simp only [rAm]; omega) (by simp only [rLo]; omega) (by simp only [rHo]; omega) (by simp only [rFh]; omega) (by simp only [rCo]; omega)).trans (n1 _ (by simp only [rSt]; omega))
  have htn : tnN M' = tnN M := by unfold tnN; rw [mo 60 (by decide), n1 _ (by simp only [rSt]; omega)]
  have htn1 : tnN (wr M (rSt k) c x) = tnN M := by unfold tnN; rw [n1 _ (by simp only [rMain, rSt]; omega)]
  have hsc : scN M' = scN M := by unfold scN; rw [mo 60 (by decide), n1 _ (by simp only [rSt]; omega)]
  have hTr : ∀ j, M' (rTr j) = M (rTr j) := fun j => (mo _ (by simp only [rTr]; omega)).trans (n1 _ (by simp only [rTr, rSt]; omega))
  have hSt : ∀ j c', j < 8 → c' < 2 → M' (rSt j) c' = if j = k ∧ c' = c then x else M (rSt j) c' := fun j c' hj hc' => by
    rw [mo _ (by simp only [rSt]; omega)]
    by_cases e : j = k
    · subst e
      by_cases e2 : c' = c
      · subst e2; rw [wr_same, if_pos ⟨rfl, rfl⟩]
      · rw [wr_othj e2, if_neg (fun z => e2 z.2)]
    · rw [n1 _ (by simp only [rSt]; omega), if_neg (fun z => e z.1)]
  have sz : szN M' c = szN M c + 1 := by show (M' (rRow c) 0).toNatClampNeg = _; rw [a5]; exact nI_clamp (by omega)
  have hcn : rCnt M' c (szN M c + 1) = szN M c + 1 := by
    unfold rCnt at hall ⊢
    refine lead_all (fun j hj => ?_)
    unfold cnts
    rw [a4, a1]
    by_cases e : j = szN M c
    · rw [if_pos e, if_pos e, hq1]; rfl
    · rw [if_neg e, if_neg e]
      exact lead_all' (p := cnts (wr M (rSt k) c x) c) (n := szN M c) (j := j) (by omega)
  have hES2 : ∀ j, j < szN M c → ES (wr M (rSt k) c x) M' c j := fun j hj => by
    have e : ¬ j = szN M c := by omega
    exact ⟨by rw [a1, if_neg e], by rw [a2, if_neg e], fun ho => ⟨a8 j e, by rw [n1 _ (by simp only [rLo, rSt]; omega)]; exact hord j hj (by rw [← n1 (rLe c) (by simp only [rLe, rSt]; omega)]; exact ho)⟩, fun _ _ => a9 j e⟩
  have hb2 : LB M' c (szN M c) h := hb1.congr (by rw [mc, gb]) hES2
  have hAE2 := AE.run (gb := M (rCas c) 1) hES2
  refine ⟨hI.1.led (fun c' hc' j hj _ h16 => ?_) (by rw [mo 60 (by decide), n1 _ (by simp only [rSt]; omega)]), ⟨fun c' hc' => ?_, fun j hj => ?_⟩, fun j hj => ?_⟩
  · by_cases e : c' = c
    · subst e; exact hlow j h16
    · exact hoth c' hc' e j hj
  · by_cases e : c' = c
    · subst e
      refine ⟨fun j hj => ?_, h', ?_, ?_⟩
      · rw [sz] at hj
        rw [sz, hcn]
        refine ⟨?_, fun _ => hj⟩
        by_cases e : j = szN M c'
        · subst e; exact ⟨m, by omega, by rw [a2, if_pos rfl]⟩
        · rw [a2, if_neg e, n1 _ (by simp only [rAm, rSt]; omega)]
          exact ((hI.2.1.1 c' hc').1 j (by omega)).1
      · rw [sz, hcn]
        refine hb2.tru h60 (by rw [a2, if_pos rfl]) hm a7 ?_
        rw [a1, if_pos rfl, mc]
        rcases hle with ⟨x1, x2⟩ | ⟨x1, x2⟩
        · left
          refine ⟨x1, ?_⟩
          cases f with
          | true =>
            rw [if_pos rfl] at x2 ⊢
            exact ⟨fun a ha => x2.1 a (by rw [hAE.1, hAE2.1]; exact ha), x2.2⟩
          | false => exact x2
        · exact Or.inr ⟨x1, x2⟩
      · exact hho.same (by rw [htn, htn1]) (fun j hj => by rw [hTr, n1 (rTr j) (by simp only [rTr, rSt]; omega), mo _ (by simp only [rSt]; omega)]; exact ⟨rfl, rfl, rfl⟩)
    · refine (hI.2.1.1 c' hc').other hr hc' (hoth c' hc' e) (fun h'' hh => hh.same htn (fun j hj => ?_))
      rw [hTr, hSt j c' (by omega) hc', if_neg (fun z => e z.2)]; exact ⟨rfl, rfl, rfl⟩
  · rw [hsc] at hj
    have := hr.sc20
    rw [mo (rSi j) (by simp only [rSi]; omega), n1 _ (by simp only [rSi, rSt]; omega)]; exact hI.2.1.2 j hj
  · rw [htn] at hj
    have h9 := hI.2.2 j hj
    unfold SnT at h9 ⊢
    rw [hTr]
    refine ⟨h9.1, fun c' hc' => ?_⟩
    rw [hSt j c' (by omega) hc']
    by_cases e : j = k ∧ c' = c
    · rw [if_pos e, e.1]
      rcases hst with a | a
      · exact Or.inr (Or.inl a)
      · exact Or.inr (Or.inr a)
    · rw [if_neg e]; exact h9.2 c' hc'
theorem Inv.kan {M R : wM} {n k c lo : Nat} (hr : Re M R n) (h : Inv M) (hc : c < 2) : Inv (canM M k c lo) := by
  unfold canM
  split
  · exact h.tel hr hc
  · exact h
theorem Inv.prX {M R : wM} {n : Nat} {tr ca lo : Int32} (hr : Re M R n) (h : Inv M) : Inv (preX M tr ca lo) := by
  unfold preX
  split
  · rename_i h9
    exact h.kan hr (kPre_ok hr h9).2.1
  · exact h
theorem Inv.prepare {M R : wM} {n : Nat} {tr ca lo : Int32} (hr : Re M R n) (h : Inv M) (hk : kPrep M tr ca lo = 0) : Inv (preM M (cI tr) (cI ca) (cI lo)) := by
  obtain ⟨hv, h2⟩ := ifk0 (by decide) hk
  obtain ⟨hcan, h4⟩ := ifk0 (by decide) h2
  have h60 : szN M (cI ca) < 60 := by
    by_cases e : szN M (cI ca) < 60
    · exact e
    · rw [if_neg e] at h4; exact absurd h4 (by decide)
  obtain ⟨hk9, hc, hlo⟩ := kPre_ok hr hv
  generalize cI tr = k at hk9 hcan ⊢
  generalize cI ca = c at hc hcan h60 ⊢
  generalize cI lo = lo' at hlo hcan ⊢
  have hrT : Re (canM M k c lo') R n := hr.canM' hc
  have hT := h.kan (k := k) (lo := lo') hr hc
  have cm : ∀ r, r ≠ rLed c → r ≠ rPu c → canM M k c lo' r = M r := fun r h1 h2 => canM_ne h1 h2
  obtain ⟨p1, p2, p3, p4, p5, m, hm1, hm9, hm⟩ := hr.tr hk9
  have hcan' := hcan
  simp only [canP, cpB, Bool.and_eq_true, decide_eq_true_eq, Bool.not_eq_true', Bool.or_eq_true] at hcan'
  obtain ⟨⟨hnd, hop, hq, hng⟩, hfree⟩ := hcan'
  have hno := (opT_neg hr).mp hop
  obtain ⟨a, h0, p, l1, l2, l3, ho⟩ := (h.2.1.1 c hc).ledv hr hc
  have hh0 : h0 = 0 := ho.2 hno
  subst hh0
  have eqc : ∀ x, qrm (canM M k c lo') c x = qrm M c x := fun x => by unfold qrm; rw [cm _ (by simp only [rCas, rLed]; omega) (by simp only [rCas, rPu]; omega)]
  have enr : nearI (pre1 M k c lo') c lo' = nearI M c lo' := by
    unfold nearI pre1
    rw [wr_ne (by simp only [rCas, rSt]; omega), wr_ne (by simp only [rCt, rSt]; omega), cm _ (by simp only [rCas, rLed]; omega) (by simp only [rCas, rPu]; omega), cm _ (by simp only [rCt, rLed]; omega) (by simp only [rCt, rPu]; omega)]
  have sz : szN (canM M k c lo') c = szN M c := by unfold szN; rw [cm _ (by simp only [rRow, rLed]; omega) (by simp only [rRow, rPu]; omega)]
  have hrh : rHang (canM M k c lo') c (szN (canM M k c lo') c) = rHang M c (szN M c) := by
    rw [sz]; unfold rHang
    rw [rCnt_eq (M := M) (cm _ (by simp only [rCo, rLed]; omega) (by simp only [rCo, rPu]; omega)) (cm _ (by simp only [rLe, rLed]; omega) (by simp only [rLe, rPu]; omega))]
  have htn : tnN (canM M k c lo') = tnN M := by unfold tnN; rw [cm _ (by simp only [rMain, rLed]; omega) (by simp only [rMain, rPu]; omega)]
  have eTr : ∀ j, canM M k c lo' (rTr j) = M (rTr j) := fun j => cm _ (by simp only [rTr, rLed]; omega) (by simp only [rTr, rPu]; omega)
  have eSt : ∀ j, canM M k c lo' (rSt j) = M (rSt j) := fun j => cm _ (by simp only [rSt, rLed]; omega) (by simp only [rSt, rPu]; omega)
  have ham : M (rTr k) 1 = nI m := by rw [p2, hm]
  obtain ⟨hT1, hT2, hT3⟩ := hT
  obtain ⟨-, hb9, hb, hbo⟩ := hT2.1 c hc
  have hcnt : rCnt (canM M k c lo') c (szN (canM M k c lo') c) = szN M c := by
    have h1 : rHang (canM M k c lo') c (szN (canM M k c lo') c) = false := by rw [hrh]; exact hng
    have h2 := lead_le (cnts (canM M k c lo') c) (szN (canM M k c lo') c)
    unfold rHang at h1
    simp only [decide_eq_false_iff_not] at h1
    unfold rCnt at h1 ⊢
    omega
  have hcntM : rCnt M c (szN M c) = szN M c := by
    have h2 := lead_le (cnts M c) (szN M c)
    unfold rHang at hng
    simp only [decide_eq_false_iff_not] at hng
    unfold rCnt at hng ⊢
    omega
  have hb0 : hb9 = 0 := hbo.2 (fun j hj z => hno j (by rw [← htn]; exact hj) (by rw [← eSt]; exact z))
  subst hb0
  rw [hcnt, ← sz] at hb
  unfold preM pre1
  rw [show nearI (wr (canM M k c lo') (rSt k) c (nI 112)) c lo' = nearI M c lo' from enr, ham, ← sz]
  refine Inv.pact (h := 0) (h' := if decide (M (rTr k) 0 = nI c) = true then m else 0) hrT ⟨hT1, hT2, hT3⟩ hc (by rw [htn]; exact hk9) (by rw [sz]; exact h60) hm9 (by decide) (by rw [hrh]; exact hng) (by rw [eqc]; exact hq) hb (Or.inl ⟨rfl, ?_⟩) ?_ (Or.inl rfl)
  · cases ef : decide (M (rTr k) 0 = nI c) with
    | false => rfl
    | true =>
      refine ⟨fun a' ha' hb' => ?_, by simp⟩
      rw [decide_eq_true_eq] at ef
      have hfr : m ≤ a := by
        rcases hfree with z | z
        · exact absurd ef z
        · rw [ham] at z
          obtain ⟨q1, q2, -⟩ := l1
          unfold lFree at z
          rw [q1, q2, nI_subn (by omega)] at z
          have := (nI_leN (a := m) (b := a - 0) (by omega) (by omega)).mp z
          omega
      have hES : ∀ j, j < szN M c → ES M (canM M k c lo') c j := fun j hj => ⟨by rw [cm _ (by simp only [rLe, rLed]; omega) (by simp only [rLe, rPu]; omega)], by rw [cm _ (by simp only [rAm, rLed]; omega) (by simp only [rAm, rPu]; omega)], fun ho => ⟨by rw [cm _ (by simp only [rLo, rLed]; omega) (by simp only [rLo, rPu]; omega)], ((hr.1.1 c hc).2.2.2.2.1 j hj ho).1⟩, fun _ _ => by rw [cm _ (by simp only [rFh, rLed]; omega) (by simp only [rFh, rPu]; omega)]⟩
      have hAE := AE.run (gb := M (rCas c) 1) hES
      have q1 := l1.1
      unfold telM at q1
      rw [hcntM] at q1
      rw [cm (rCas c) (by simp only [rCas, rLed]; omega) (by simp only [rCas, rPu]; omega), sz, ← hAE.1, q1] at ha'
      have := (nI_eq (by omega) (by omega)).mp ha'
      omega
  · have hstv : ∀ j, j < 8 → wr (canM M k c lo') (rSt k) c (nI 112) (rSt j) c = if j = k then nI 112 else M (rSt j) c := fun j hj => by
      by_cases e : j = k
      · subst e; rw [wr_same, if_pos rfl]
      · rw [wr_ne (by simp only [rSt]; omega), if_neg e, eSt]
    have htv : ∀ j, wr (canM M k c lo') (rSt k) c (nI 112) (rTr j) = M (rTr j) := fun j => by rw [wr_ne (by simp only [rTr, rSt]; omega), eTr]
    have h8 := hr.tn8
    have htn2 : tnN (wr (canM M k c lo') (rSt k) c (nI 112)) = tnN M := by unfold tnN; rw [wr_ne (by simp only [rMain, rSt]; omega)]; exact htn
    refine ⟨fun j hj z => ?_, fun z => ?_⟩
    · rw [htn2] at hj
      rw [hstv j (by omega)] at z
      by_cases e : j = k
      · subst e
        rw [htv, ham, nI_clamp (by omega)]
        simp only [decide_eq_true_eq]
      · rw [if_neg e] at z; exact absurd z (hno j hj)
    · exact absurd (by rw [hstv k (by omega), if_pos rfl]) (z k (by rw [htn2]; exact hk9))
theorem Inv.settle {M R : wM} {n : Nat} {ca : Int32} (hr : Re M R n) (h : Inv M) (hk : kSet M ca = 0) : Inv (setM M (cI ca)) := by
  obtain ⟨hv, h2⟩ := ifk0 (by decide) hk
  obtain ⟨hst, h4⟩ := ifk0 (by decide) h2
  have h60 : szN M (cI ca) < 60 := by
    by_cases e : szN M (cI ca) < 60
    · exact e
    · rw [if_neg e] at h4; exact absurd h4 (by decide)
  have hc := vIn_cI hv (by decide)
  generalize cI ca = c at hc hst h60 ⊢
  simp only [stl2, tDec, Bool.and_eq_true, decide_eq_true_eq, Bool.not_eq_true'] at hst
  obtain ⟨hop, hdec, hq, hng⟩ := hst
  obtain ⟨q1, q2, q3⟩ := opQ_hit hr (Int32.not_lt.mpr hop)
  have h8 := hr.tn8
  unfold setM set1
  generalize opQ M c = k at q1 q2 hdec ⊢
  obtain ⟨p1, p2, p3, p4, p5, m, hm1, hm9, hm⟩ := hr.tr q1
  have ham : M (rTr k) 1 = nI m := by rw [p2, hm]
  obtain ⟨-, hh, hb, ho⟩ := h.2.1.1 c hc
  have hcntM : rCnt M c (szN M c) = szN M c := by
    have h2 := lead_le (cnts M c) (szN M c)
    unfold rHang at hng
    simp only [decide_eq_false_iff_not] at hng
    unfold rCnt at hng ⊢
    omega
  rw [hcntM] at hb
  have hhv := ho.1 k q1 q2
  rw [ham, nI_clamp (by omega)] at hhv
  have hlet : M (rTr k) 2 = nI 100 ∨ M (rTr k) 2 = nI 97 := by
    rcases (h.2.2 k q1).1 with e | e | e
    · exact absurd e hdec
    · exact Or.inl e
    · exact Or.inr e
  rw [ham]
  refine Inv.pact (h := hh) (h' := 0) hr h hc q1 h60 hm9 (by rcases hlet with e | e <;> rw [e] <;> decide) hng hq hb (Or.inr ⟨hlet, ?_⟩) ?_ (Or.inr ⟨rfl, hdec⟩)
  · by_cases ef : M (rTr k) 0 = nI c
    · rw [if_pos ef] at hhv
      rw [if_pos (decide_eq_true ef), hhv]; exact ⟨Nat.le_refl _, by omega⟩
    · rw [if_neg ef] at hhv
      rw [if_neg (by simp [ef]), hhv]
  · have htn2 : tnN (wr M (rSt k) c (M (rTr k) 2)) = tnN M := by unfold tnN; rw [wr_ne (by simp only [rMain, rSt]; omega)]
    refine ⟨fun j hj z => ?_, fun _ => rfl⟩
    rw [htn2] at hj
    by_cases e : j = k
    · subst e
      rw [wr_same] at z
      rcases hlet with e2 | e2 <;> rw [e2] at z <;> exact absurd z (by decide)
    · rw [wr_ne (by simp only [rSt]; omega)] at z
      exact absurd (hr.2.2.2.2.2.2.2.2.2.2.2 c hc j k hj q1 z q2) e
theorem mvN_eq {M M' : wM} {c : Nat} (e1 : M' (rLe c) = M (rLe c)) (e2 : M' (rAm c) = M (rAm c)) (e3 : M' (rFh c) = M (rFh c)) : ∀ k, mvN M' c k = mvN M c k
  | 0 => rfl
  | k + 1 => by simp only [mvN]; rw [e1, e2, e3, mvN_eq e1 e2 e3 k]
theorem Inv.cas {M R : wM} {n c : Nat} (hr : Re M R n) (h : Inv M) (hc : c < 2) : cSnd M c (szN M c) (nowM M) = true := by
  obtain ⟨a, h0, p, ⟨l1, l2, l3⟩, l4, l5, -⟩ := (h.2.1.1 c hc).ledv hr hc
  have hs : lsum (telM M c (szN M c)) c 4 = M (rCas c) 1 + mvN M c (rCnt M c (szN M c)) := by
    unfold telM
    exact sum_run (fun k hk ho => ((hr.1.1 c hc).2.2.2.2.1 k (Nat.lt_of_lt_of_le hk (lead_le _ _)) ho).1)
  have ecn : rCnt (telM M c (szN M c)) c (szN M c) = rCnt M c (szN M c) := rCnt_eq (telM_ne (by simp only [rCo, rLed]; omega) (by simp only [rCo, rPu]; omega)) (telM_ne (by simp only [rLe, rLed]; omega) (by simp only [rLe, rPu]; omega))
  unfold cSnd
  rw [h.1.sgo hc, ecn, mvN_eq (M := M) (telM_ne (by simp only [rLe, rLed]; omega) (by simp only [rLe, rPu]; omega)) (telM_ne (by simp only [rAm, rLed]; omega) (by simp only [rAm, rPu]; omega)) (telM_ne (by simp only [rFh, rLed]; omega) (by simp only [rFh, rPu]; omega)), hs]
  have hin : inB (telM M c (szN M c)) c = true := by
    unfold inB
    have : lead (fun k => decide (0 ≤ telM M c (szN M c) (rPu c) k)) 4 = 4 := by
      refine lead_all (fun k hk => ?_)
      have hp4 : p k ≤ p 0 + p 1 + p 2 + p 3 := by rcases (show k = 0 ∨ k = 1 ∨ k = 2 ∨ k = 3 by omega) with rfl | rfl | rfl | rfl <;> omega
      rw [decide_eq_true_eq, l3 k hk]; exact nI_pos' (by omega)
    rw [this, l1, l2, decide_eq_true (nI_pos' (by omega) : (0 : Int32) ≤ nI h0), decide_eq_true (nI_le l4 (by omega) : nI h0 ≤ nI a)]
    rfl
  rw [hin]
  simp
theorem Re.cSnM {M R : wM} {n c s : Nat} {now : Int32} (hr : Re M R n) (hc : c < 2) : Re (cSndM M c s now) R n := by
  unfold cSndM; split
  · exact hr.onT hc
  · exact hr
theorem Inv.cSnM {M R : wM} {n c s : Nat} {now : Int32} (hr : Re M R n) (h : Inv M) (hc : c < 2) : Inv (cSndM M c s now) := by
  unfold cSndM; split
  · exact h.tel hr hc
  · exact h
/-- the class always finds itself sound -/
theorem op_sound {M R : wM} {n : Nat} (hr : Re M R n) (h : Inv M) : snd M = true ∧ Re (sndM M) R n ∧ Inv (sndM M) := by
  have hrA : Re (sndA M) R n := hr.cSnM (by decide)
  have hA : Inv (sndA M) := h.cSnM hr (by decide)
  have e7 : nowM (sndA M) = nowM M := by show sndA M rMain 7 = _; unfold sndA; rw [cSndM_ne (by decide) (by decide)]
  have sz : szN (sndA M) 1 = szN M 1 := by show (sndA M (rRow 1) 0).toNatClampNeg = _; unfold sndA; rw [cSndM_ne (by decide) (by decide)]; rfl
  have c1 := hA.cas hrA (c := 1) (by decide)
  rw [sz, e7] at c1
  refine ⟨?_, ?_, ?_⟩
  · unfold snd; rw [h.cas hr (c := 0) (by decide), c1]; rfl
  · unfold sndM; split
    · exact hrA.cSnM (by decide)
    · exact hrA
  · unfold sndM; split
    · exact hA.cSnM hrA (by decide)
    · exact hA
