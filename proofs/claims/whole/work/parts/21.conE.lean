set_option maxRecDepth 20000 in
theorem in_X6_prepare_X5 : ∀ x ∈ wsX50, x ∈ wsX6_prepare := by decide +kernel
set_option maxRecDepth 20000 in
theorem at_X6_prepare_29 : ∀ w ∈ (vx_atS RX6 62 "java/lang/UnsupportedOperationException" ["java/lang/RuntimeException", "java/lang/Exception"]).filter goodWord, w ∈ wsX6_prepare := by decide +kernel
set_option maxRecDepth 100000 in
set_option maxHeartbeats 4000000 in
/-- X6_prepare -/
theorem c_X6_prepare (l : Launch) {G : va_G} {V : wV} {rs : List Nat} (hl9 : l.stackTraces = false) (ha : bA rs) (M R : wM) (o : wO) (iv : IV M) (tr0 ca lo0 : Int32) : CT l G V rs yX6_prepare wsX6_prepare 9 155 5 30 [.ref (V.1 rMain), .int tr0, .int ca, .int lo0] (M, R, o) (fun v u => kPrep M tr0 ca lo0 = 0 ∧ v = some (.int (nI (szN M (cI ca)))) ∧ u = (preM M (cI tr0) (cI ca) (cI lo0), R, o)) (fun E u => XE [eIOE, eUOE, eISE] (kPrep M tr0 ca lo0) E ∧ u = (preX M tr0 ca lo0, R, o)) := by
  refine ct_of (cc := cX6_prepare) (maxL := 6) (ret := (some .int)) (by decide) rfl (Nat.le_of_ble_eq_true rfl) ?_
  intro p e s m below meth cd ls C h X hT hl
  have hx := C.1
  have hy := C.2.1
  have hl : lv_has ls 6 [(0, .ref (V.1 rMain)), (1, .int tr0), (2, .int ca), (3, .int lo0)] := hl
  have hsc := iv.2.1.2
  have htn := iv.2.2.1.2
  refine lv_aload_n hx hy dX6_prepare_0 rfl (lv_at hl 0 rfl) ?_
  refine lv_iload_n hx hy dX6_prepare_1 rfl (lv_at hl 1 rfl) ?_
  refine n_go C h hT (n_V (As := [.int tr0]) (rest := []) C h X (ha.2 60 (by decide) (by decide)) (lo_Main.trans (celF_Main _)) rfl (c_X6_truceAt l hl9 ha M R o iv tr0) (cwV 1 C.2.2.2.2.1 gX6_prepare_X6_truceAt rfl rfl rfl (by decide +kernel) ⟨Nat.le_of_ble_eq_true rfl, Nat.le_of_ble_eq_true rfl⟩) rfl hl.1 rfl (Nat.le_of_ble_eq_true rfl) dX6_prepare_2 ⟨by decide, by decide⟩) (fun E u hE => ⟨XE_of (k := 1) (by simp [kTow, kEnt, kVote, kBuild, kWait, kCut, vG3, kLease, kGive, kG3, kOpen, kCL, kC, kOrd, kHas, kScout, kRead, kRaid, kTruce, vP3, kPrep, kDec, kSet, kTC, hE.2.1]) (by decide) (by rw [hE.1]; rfl), by rw [hE.2.2]; simp [preX, vP3, hE.2.1]⟩) (by decide) (by decide) (fun v_2 u_2 H locs hpo h => ?_)
  obtain ⟨rfl, k, hk, rfl, rfl⟩ := hpo
  have hk9 : k < 8 := by omega
  have hv_k : vIn (nI k) (tnN M) = true := vIn_nI hk (by omega)
  have hi_k : cI (nI k) = k := nI_clamp (by omega)
  have htr := iv.2.2.2.2 k hk
  refine lv_astore (lv' := [(4, .ref (V.1 (rTr k))), (0, .ref (V.1 rMain)), (1, .int (nI k)), (2, .int ca), (3, .int lo0)]) hx hy dX6_prepare_5 hl (by decide) rfl (fun ls hl => ?_)
  refine lv_aload_n hx hy dX6_prepare_7 rfl (lv_at hl 1 rfl) ?_
  refine lv_iload_n hx hy dX6_prepare_8 rfl (lv_at hl 3 rfl) ?_
  refine n_go C h hT (n_V (As := [.int ca]) (rest := []) C h X (ha.2 60 (by decide) (by decide)) (lo_Main.trans (celF_Main _)) rfl (c_X6_castleAt l hl9 ha M R o ca) (cwV 1 C.2.2.2.2.1 gX6_prepare_X6_castleAt rfl rfl rfl (by decide +kernel) ⟨Nat.le_of_ble_eq_true rfl, Nat.le_of_ble_eq_true rfl⟩) rfl hl.1 rfl (Nat.le_of_ble_eq_true rfl) dX6_prepare_9 ⟨by decide, by decide⟩) (fun E u hE => ⟨XE_of (k := 1) (by simp [kTow, kEnt, kVote, kBuild, kWait, kCut, vG3, kLease, kGive, kG3, kOpen, kCL, kC, kOrd, kHas, kScout, kRead, kRaid, kTruce, vP3, kPrep, kDec, kSet, kTC, hE.2.1, hi_k, hv_k]) (by decide) (by rw [hE.1]; rfl), by rw [hE.2.2]; simp [preX, vP3, hE.2.1, hi_k, hv_k]⟩) (by decide) (by decide) (fun v_9 u_9 H locs hpo h => ?_)
  obtain ⟨rfl, c, hc, rfl, rfl⟩ := hpo
  have hv_c : vIn (nI c) 2 = true := vIn_nI hc (by decide)
  have hi_c : cI (nI c) = c := cI_nI hc (by decide)
  have hc_c : vC (nI c) = true := hv_c
  refine lv_astore (lv' := [(5, .ref (V.1 (rCas c))), (4, .ref (V.1 (rTr k))), (0, .ref (V.1 rMain)), (1, .int (nI k)), (2, .int (nI c)), (3, .int lo0)]) hx hy dX6_prepare_12 hl (by decide) rfl (fun ls hl => ?_)
  refine lv_iload_n hx hy dX6_prepare_14 rfl (lv_at hl 5 rfl) ?_
  refine n_go C h hT (n_S (As := [.int lo0]) (rest := []) C h X (c_X6_requireLord l hl9 M R o lo0) (va_cwS 1 C.2.2.2.2.1 gX6_prepare_X6_requireLord rfl rfl rfl (by decide +kernel) ⟨Nat.le_of_ble_eq_true rfl, Nat.le_of_ble_eq_true rfl⟩) rfl hl.1 rfl (Nat.le_of_ble_eq_true rfl) dX6_prepare_15 ⟨by decide, by decide⟩) (fun E u hE => ⟨XE_of (k := 1) (by simp [kTow, kEnt, kVote, kBuild, kWait, kCut, vG3, kLease, kGive, kG3, kOpen, kCL, kC, kOrd, kHas, kScout, kRead, kRaid, kTruce, vP3, kPrep, kDec, kSet, kTC, hE.2.1, hi_k, hv_k, hi_c, hv_c, hc_c]) (by decide) (by rw [hE.1]; rfl), by rw [hE.2.2]; simp [preX, vP3, hE.2.1, hi_k, hv_k, hi_c, hv_c, hc_c]⟩) (by decide) (by decide) (fun v_15 u_15 H locs hpo h => ?_)
  obtain ⟨rfl, rfl, lo, hlo, rfl⟩ := hpo
  have hv_lo : vIn (nI lo) 4 = true := vIn_nI hlo (by decide)
  have hi_lo : cI (nI lo) = lo := cI_nI hlo (by decide)
  refine lv_aload_n hx hy dX6_prepare_18 rfl (lv_at hl 2 rfl) ?_
  refine lv_aload hx hy dX6_prepare_19 (lv_at hl 1 rfl) ?_
  refine lv_iload_n hx hy dX6_prepare_21 rfl (lv_at hl 4 rfl) ?_
  refine lv_iload_n hx hy dX6_prepare_22 rfl (lv_at hl 5 rfl) ?_
  refine n_go0 C h (n_V (As := [.ref (V.1 (rTr k)), .int (nI c), .int (nI lo)]) (rest := []) C h X (ha.2 60 (by decide) (by decide)) (lo_Main.trans (celF_Main _)) rfl (c_X6_canPrepare l hl9 ha M R o iv k hk9 c hc lo hlo) (cwV 3 C.2.2.2.2.1 gX6_prepare_X6_canPrepare rfl rfl rfl (by decide +kernel) ⟨Nat.le_of_ble_eq_true rfl, Nat.le_of_ble_eq_true rfl⟩) rfl hl.1 rfl (Nat.le_of_ble_eq_true rfl) dX6_prepare_23 ⟨by decide, by decide⟩) (fun _ _ z => z) (fun v_23 u_23 H locs hpo h => ?_)
  obtain ⟨rfl, rfl⟩ := hpo
  refine b_ne hx hy (tgt := 40) dX6_prepare_26 (by decide) (fun c_26 => ?_) (fun c_26 => ?_)
  · skip
    refine lv_aload hx hy dX6_prepare_40 (lv_at hl 0 rfl) ?_
    refine n_go C h hT (n_S (As := [.ref (V.1 (rCas c))]) (rest := []) C h X (c_X6_requireRoom l hl9 c hc (ha.1 c hc) (canM M k c lo) R o (szN M c) (iv.1 c hc).2.2.2.1 ((congrFun (canM_ne (by simp only [rLed, rRow]; omega) (by simp only [rPu, rRow]; omega)) _).trans (iv.1 c hc).2.2.1)) (va_cwS 1 C.2.2.2.2.1 gX6_prepare_X6_requireRoom rfl rfl rfl (by decide +kernel) ⟨Nat.le_of_ble_eq_true rfl, Nat.le_of_ble_eq_true rfl⟩) rfl hl.1 rfl (Nat.le_of_ble_eq_true rfl) dX6_prepare_42 ⟨by decide, by decide⟩) (fun E u hE => ⟨XE_of (k := 3) (by have := Nat.not_lt.mpr hE.2.1; simp [kPrep, vP3, hi_k, hv_k, hi_c, hv_c, hc_c, hi_lo, hv_lo, c_26, this]) (by decide) (by rw [hE.1]; rfl), by rw [hE.2.2]; simp [preX, vP3, hi_k, hv_k, hi_c, hv_c, hc_c, hi_lo, hv_lo, c_26]⟩) (by decide) (by decide) (fun v_42 u_42 H locs hpo h => ?_)
    obtain ⟨rfl, rfl, hroom⟩ := hpo
    refine lv_aload hx hy dX6_prepare_45 (lv_at hl 1 rfl) ?_
    refine g_f C h (ha.2 (84 + 2 * k) (by omega) (by omega)) (lo_Tr hk9) (celF_Tr hk9) rfl in_X6_prepare_X5 3 (by decide) (by decide +kernel) (v := .ref (V.1 (rSt k))) rfl dX6_prepare_47 ?_
    refine lv_iload_n hx hy dX6_prepare_50 rfl (lv_at hl 4 rfl) ?_
    refine lv_bipush (v := (nI 112)) hx hy dX6_prepare_51 (by decide) ?_
    refine s_c C h (ha.2 (85 + 2 * k) (by omega) (by omega)) (lt_St hk9) (n := 2) (k := c) (celF_St hk9) (by omega) (by decide) (x := (nI 112)) (by decide) dX6_prepare_53 (fun H locs h => ?_)
    refine lv_aload hx hy dX6_prepare_54 (lv_at hl 0 rfl) ?_
    refine lv_bipush (v := (nI 112)) hx hy dX6_prepare_56 (by decide) ?_
    refine lv_aload hx hy dX6_prepare_58 (lv_at hl 1 rfl) ?_
    refine g_f C h (ha.2 (84 + 2 * k) (by omega) (by omega)) (lo_Tr hk9) (celF_Tr hk9) rfl in_X6_prepare_X5 1 (by decide) (by decide +kernel) (v := .int (M (rTr k) 1)) (congrArg (fun z => some (Value.int z)) (show (wr (canM M k c lo) (rSt k) c (nI 112)) (rTr k) 1 = (M (rTr k) 1) from ((wr_othr (by simp only [rSt, rTr]; omega)).trans (congrFun (canM_ne (by simp only [rLed, rTr]; omega) (by simp only [rPu, rTr]; omega)) _)))) dX6_prepare_60 ?_
    refine lv_aload hx hy dX6_prepare_63 (lv_at hl 1 rfl) ?_
    refine g_f C h (ha.2 (84 + 2 * k) (by omega) (by omega)) (lo_Tr hk9) (celF_Tr hk9) rfl in_X6_prepare_X5 0 (by decide) (by decide +kernel) (v := .int (M (rTr k) 0)) (congrArg (fun z => some (Value.int z)) (show (wr (canM M k c lo) (rSt k) c (nI 112)) (rTr k) 0 = (M (rTr k) 0) from ((wr_othr (by simp only [rSt, rTr]; omega)).trans (congrFun (canM_ne (by simp only [rLed, rTr]; omega) (by simp only [rPu, rTr]; omega)) _)))) dX6_prepare_65 ?_
    refine lv_iload_n hx hy dX6_prepare_68 rfl (lv_at hl 4 rfl) ?_
    refine i_ne hx hy (tgt := 76) dX6_prepare_69 (by decide) (fun c_69 => ?_) (fun c_69 => ?_)
    · skip
      refine lv_iconst (v := (nI 0)) hx hy dX6_prepare_76 (by decide) ?_
      refine lv_topn (show (nI 0) = b2i (decide (M (rTr k) 0 = nI c)) from by simp [b2i, c_26, eq_false c_69]) ?_
      refine lv_aload hx hy dX6_prepare_77 (lv_at hl 0 rfl) ?_
      refine lv_iload_n hx hy dX6_prepare_79 rfl (lv_at hl 5 rfl) ?_
      refine n_go0 C h (n_V (As := [.int (nI lo)]) (rest := [.int (b2i (decide (M (rTr k) 0 = nI c))), .int (M (rTr k) 1), .int (nI 112), .ref (V.1 (rCas c))]) C h X ((ha.1 c hc) 0 (by decide)) ((lo_Cas hc).trans ((celF_Cas hc) _)) rfl (c_X0_towersNear l c hc (ha.1 c hc) (wr (canM M k c lo) (rSt k) c (nI 112)) R o lo hlo) (cwV 1 C.2.2.2.2.1 gX6_prepare_X0_towersNear rfl rfl rfl (by decide +kernel) ⟨Nat.le_of_ble_eq_true rfl, Nat.le_of_ble_eq_true rfl⟩) rfl hl.1 rfl (Nat.le_of_ble_eq_true rfl) dX6_prepare_80 ⟨by decide, by decide⟩) (fun _ _ z => z) (fun v_80 u_80 H locs hpo h => ?_)
      obtain ⟨rfl, rfl⟩ := hpo
      refine n_go0 C h (n_V (As := [.int (nI 112), .int (M (rTr k) 1), .int (b2i (decide (M (rTr k) 0 = nI c))), .int (nearI (wr (canM M k c lo) (rSt k) c (nI 112)) c lo)]) (rest := []) C h X ((ha.1 c hc) 0 (by decide)) ((lo_Cas hc).trans ((celF_Cas hc) _)) rfl (c_X0_writeTruceEntry l c hc (ha.1 c hc) (wr (canM M k c lo) (rSt k) c (nI 112)) R o (szN M c) hroom ((wr_othr (by simp only [rRow, rSt]; omega)).trans ((congrFun (canM_ne (by simp only [rLed, rRow]; omega) (by simp only [rPu, rRow]; omega)) _).trans (iv.1 c hc).2.2.1)) (nI 112) (M (rTr k) 1) (by decide) (decide (M (rTr k) 0 = nI c)) (nearI (wr (canM M k c lo) (rSt k) c (nI 112)) c lo)) (cwV 4 C.2.2.2.2.1 gX6_prepare_X0_writeTruceEntry rfl rfl rfl (by decide +kernel) ⟨Nat.le_of_ble_eq_true rfl, Nat.le_of_ble_eq_true rfl⟩) rfl hl.1 rfl (Nat.le_of_ble_eq_true rfl) dX6_prepare_83 ⟨by decide, by decide⟩) (fun _ _ z => z) (fun v_83 u_83 H locs hpo h => ?_)
      obtain ⟨rfl, rfl⟩ := hpo
      exact e_int C h rfl dX6_prepare_86 (⟨by simp [kPrep, vP3, hi_k, hv_k, hi_c, hv_c, hc_c, hi_lo, hv_lo, hroom, c_26, eq_false c_69], by simp [hi_k, hv_k, hi_c, hv_c, hc_c, hi_lo, hv_lo, hroom], by simp only [hi_k, hv_k, hi_c, hv_c, hc_c, hi_lo, hv_lo, hroom]; rfl⟩) (by decide) (by decide)
    · skip
      refine lv_iconst (v := (nI 1)) hx hy dX6_prepare_72 (by decide) ?_
      refine lv_goto (tgt := 77) hx hy dX6_prepare_73 (by decide) ?_
      refine lv_topn (show (nI 1) = b2i (decide (M (rTr k) 0 = nI c)) from by simp [b2i, c_26, eq_true c_69]) ?_
      refine lv_aload hx hy dX6_prepare_77 (lv_at hl 0 rfl) ?_
      refine lv_iload_n hx hy dX6_prepare_79 rfl (lv_at hl 5 rfl) ?_
      refine n_go0 C h (n_V (As := [.int (nI lo)]) (rest := [.int (b2i (decide (M (rTr k) 0 = nI c))), .int (M (rTr k) 1), .int (nI 112), .ref (V.1 (rCas c))]) C h X ((ha.1 c hc) 0 (by decide)) ((lo_Cas hc).trans ((celF_Cas hc) _)) rfl (c_X0_towersNear l c hc (ha.1 c hc) (wr (canM M k c lo) (rSt k) c (nI 112)) R o lo hlo) (cwV 1 C.2.2.2.2.1 gX6_prepare_X0_towersNear rfl rfl rfl (by decide +kernel) ⟨Nat.le_of_ble_eq_true rfl, Nat.le_of_ble_eq_true rfl⟩) rfl hl.1 rfl (Nat.le_of_ble_eq_true rfl) dX6_prepare_80 ⟨by decide, by decide⟩) (fun _ _ z => z) (fun v_80 u_80 H locs hpo h => ?_)
      obtain ⟨rfl, rfl⟩ := hpo
      refine n_go0 C h (n_V (As := [.int (nI 112), .int (M (rTr k) 1), .int (b2i (decide (M (rTr k) 0 = nI c))), .int (nearI (wr (canM M k c lo) (rSt k) c (nI 112)) c lo)]) (rest := []) C h X ((ha.1 c hc) 0 (by decide)) ((lo_Cas hc).trans ((celF_Cas hc) _)) rfl (c_X0_writeTruceEntry l c hc (ha.1 c hc) (wr (canM M k c lo) (rSt k) c (nI 112)) R o (szN M c) hroom ((wr_othr (by simp only [rRow, rSt]; omega)).trans ((congrFun (canM_ne (by simp only [rLed, rRow]; omega) (by simp only [rPu, rRow]; omega)) _).trans (iv.1 c hc).2.2.1)) (nI 112) (M (rTr k) 1) (by decide) (decide (M (rTr k) 0 = nI c)) (nearI (wr (canM M k c lo) (rSt k) c (nI 112)) c lo)) (cwV 4 C.2.2.2.2.1 gX6_prepare_X0_writeTruceEntry rfl rfl rfl (by decide +kernel) ⟨Nat.le_of_ble_eq_true rfl, Nat.le_of_ble_eq_true rfl⟩) rfl hl.1 rfl (Nat.le_of_ble_eq_true rfl) dX6_prepare_83 ⟨by decide, by decide⟩) (fun _ _ z => z) (fun v_83 u_83 H locs hpo h => ?_)
      obtain ⟨rfl, rfl⟩ := hpo
      exact e_int C h rfl dX6_prepare_86 (⟨by simp [kPrep, vP3, hi_k, hv_k, hi_c, hv_c, hc_c, hi_lo, hv_lo, hroom, c_26, eq_true c_69], by simp [hi_k, hv_k, hi_c, hv_c, hc_c, hi_lo, hv_lo, hroom], by simp only [hi_k, hv_k, hi_c, hv_c, hc_c, hi_lo, hv_lo, hroom]; rfl⟩) (by decide) (by decide)
  · skip
    exact t_wide (ic := 62) (ik := 58) (is := 285) (cls := "java/lang/UnsupportedOperationException") (text := tx_285) C h X hT hl9 (by decide) (by decide) (by decide) hl.1 (by decide +kernel) (by decide +kernel) at_X6_prepare_29 bad_UOE good_UOE_58 dX6_prepare_29 dX6_prepare_32 dX6_prepare_33 dX6_prepare_36 dX6_prepare_39 (by decide) (by decide) (by decide) (by decide) (by decide) (by decide) (⟨XE_of (k := 2) (by simp [kPrep, vP3, hi_k, hv_k, hi_c, hv_c, hc_c, hi_lo, hv_lo, c_26]) (by decide) rfl, by simp [preX, vP3, hi_k, hv_k, hi_c, hv_c, hc_c, hi_lo, hv_lo, c_26]⟩)

set_option maxRecDepth 20000 in
theorem at_X6_decide_29 : ∀ w ∈ (vx_atS RX6 62 "java/lang/UnsupportedOperationException" ["java/lang/RuntimeException", "java/lang/Exception"]).filter goodWord, w ∈ wsX6_decide := by decide +kernel
set_option maxRecDepth 20000 in
theorem in_X6_decide_X5 : ∀ x ∈ wsX50, x ∈ wsX6_decide := by decide +kernel
set_option maxRecDepth 100000 in
set_option maxHeartbeats 4000000 in
/-- X6_decide -/
theorem c_X6_decide (l : Launch) {G : va_G} {V : wV} {rs : List Nat} (hl9 : l.stackTraces = false) (ha : bA rs) (M R : wM) (o : wO) (iv : IV M) (tr0 : Int32) (dn : Bool) : CT l G V rs yX6_decide wsX6_decide 7 111 2 12 [.ref (V.1 rMain), .int tr0, .int (b2i dn)] (M, R, o) (fun v u => kDec M tr0 dn = 0 ∧ v = some (.int (nI (tPre M (cI tr0)))) ∧ u = (decM M (cI tr0) dn, R, o)) (fun E u => XE [eIOE, eUOE] (kDec M tr0 dn) E ∧ u = (M, R, o)) := by
  refine ct_of (cc := cX6_decide) (maxL := 5) (ret := (some .int)) (by decide) rfl (Nat.le_of_ble_eq_true rfl) ?_
  intro p e s m below meth cd ls C h X hT hl
  have hx := C.1
  have hy := C.2.1
  have hl : lv_has ls 5 [(0, .ref (V.1 rMain)), (1, .int tr0), (2, .int (b2i dn))] := hl
  have hsc := iv.2.1.2
  have htn := iv.2.2.1.2
  have htp := fun k => cntB_le (fun j => decide (M (rSt k) j = nI 112)) 2
  refine lv_aload_n hx hy dX6_decide_0 rfl (lv_at hl 0 rfl) ?_
  refine lv_iload_n hx hy dX6_decide_1 rfl (lv_at hl 1 rfl) ?_
  refine n_go C h hT (n_V (As := [.int tr0]) (rest := []) C h X (ha.2 60 (by decide) (by decide)) (lo_Main.trans (celF_Main _)) rfl (c_X6_truceAt l hl9 ha M R o iv tr0) (cwV 1 C.2.2.2.2.1 gX6_decide_X6_truceAt rfl rfl rfl (by decide +kernel) ⟨Nat.le_of_ble_eq_true rfl, Nat.le_of_ble_eq_true rfl⟩) rfl hl.1 rfl (Nat.le_of_ble_eq_true rfl) dX6_decide_2 ⟨by decide, by decide⟩) (fun E u hE => ⟨XE_of (k := 1) (by simp [kTow, kEnt, kVote, kBuild, kWait, kCut, vG3, kLease, kGive, kG3, kOpen, kCL, kC, kOrd, kHas, kScout, kRead, kRaid, kTruce, vP3, kPrep, kDec, kSet, kTC, hE.2.1]) (by decide) (by rw [hE.1]; rfl), hE.2.2⟩) (by decide) (by decide) (fun v_2 u_2 H locs hpo h => ?_)
  obtain ⟨rfl, k, hk, rfl, rfl⟩ := hpo
  have hk9 : k < 8 := by omega
  have hv_k : vIn (nI k) (tnN M) = true := vIn_nI hk (by omega)
  have hi_k : cI (nI k) = k := nI_clamp (by omega)
  have htr := iv.2.2.2.2 k hk
  refine lv_astore_n (lv' := [(3, .ref (V.1 (rTr k))), (0, .ref (V.1 rMain)), (1, .int (nI k)), (2, .int (b2i dn))]) hx hy dX6_decide_5 rfl hl (by decide) rfl (fun ls hl => ?_)
  refine lv_aload_n hx hy dX6_decide_6 rfl (lv_at hl 0 rfl) ?_
  refine n_go0 C h (n_V (As := []) (rest := []) C h X (ha.2 (84 + 2 * k) (by omega) (by omega)) ((lo_Tr hk9).trans ((celF_Tr hk9) _)) rfl (c_X5_preparedCount l k hk9 ha M R o ) (cwV 0 C.2.2.2.2.1 gX6_decide_X5_preparedCount rfl rfl rfl (by decide +kernel) ⟨Nat.le_of_ble_eq_true rfl, Nat.le_of_ble_eq_true rfl⟩) rfl hl.1 rfl (Nat.le_of_ble_eq_true rfl) dX6_decide_7 ⟨by decide, by decide⟩) (fun _ _ z => z) (fun v_7 u_7 H locs hpo h => ?_)
  obtain ⟨rfl, rfl⟩ := hpo
  refine lv_istore (lv' := [(4, .int (nI (tPre M k))), (3, .ref (V.1 (rTr k))), (0, .ref (V.1 rMain)), (1, .int (nI k)), (2, .int (b2i dn))]) hx hy dX6_decide_10 hl (by decide) rfl (fun ls hl => ?_)
  have htp9 : tPre M k ≤ 2 := htp k
  refine lv_aload_n hx hy dX6_decide_12 rfl (lv_at hl 1 rfl) ?_
  refine n_go0 C h (n_V (As := []) (rest := []) C h X (ha.2 (84 + 2 * k) (by omega) (by omega)) ((lo_Tr hk9).trans ((celF_Tr hk9) _)) rfl (c_X5_isDecided l k hk9 ha M R o ) (cwV 0 C.2.2.2.2.1 gX6_decide_X5_isDecided rfl rfl rfl (by decide +kernel) ⟨Nat.le_of_ble_eq_true rfl, Nat.le_of_ble_eq_true rfl⟩) rfl hl.1 rfl (Nat.le_of_ble_eq_true rfl) dX6_decide_13 ⟨by decide, by decide⟩) (fun _ _ z => z) (fun v_13 u_13 H locs hpo h => ?_)
  obtain ⟨rfl, rfl⟩ := hpo
  refine b_ne hx hy (tgt := 29) dX6_decide_16 (by decide) (fun c_16 => ?_) (fun c_16 => ?_)
  · skip
    exact t_wide (ic := 62) (ik := 58) (is := 307) (cls := "java/lang/UnsupportedOperationException") (text := tx_307) C h X hT hl9 (by decide) (by decide) (by decide) hl.1 (by decide +kernel) (by decide +kernel) at_X6_decide_29 bad_UOE good_UOE_58 dX6_decide_29 dX6_decide_32 dX6_decide_33 dX6_decide_36 dX6_decide_39 (by decide) (by decide) (by decide) (by decide) (by decide) (by decide) (⟨XE_of (k := 2) (by simp [kDec, hi_k, hv_k, c_16]) (by decide) rfl, rfl⟩)
  · skip
    refine lv_iload_n hx hy dX6_decide_19 rfl (lv_at hl 4 rfl) ?_
    refine b_eq hx hy (tgt := 40) dX6_decide_20 (by decide) (fun c_20 => ?_) (fun c_20 => ?_)
    · skip
      refine lv_aload_n hx hy dX6_decide_40 rfl (lv_at hl 1 rfl) ?_
      refine lv_iload_n hx hy dX6_decide_41 rfl (lv_at hl 4 rfl) ?_
      refine b_eq hx hy (tgt := 50) dX6_decide_42 (by decide) (fun c_42 => ?_) (fun c_42 => ?_)
      · skip
        refine lv_bipush (v := (nI 97)) hx hy dX6_decide_50 (by decide) ?_
        refine p_f C h (ha.2 (84 + 2 * k) (by omega) (by omega)) (lt_Tr hk9) (celF_Tr hk9) rfl in_X6_decide_X5 tyX5_ok nmX5 2 (by decide) (by decide +kernel) rfl (v := .int (nI 97)) (x := (nI 97)) (by decide) (by decide) (fun _ => Nat.le_of_ble_eq_true rfl) (fun _ => rfl) dX6_decide_52 (fun H locs h => ?_)
        refine lv_iload hx hy dX6_decide_55 (lv_at hl 0 rfl) ?_
        exact e_int C h rfl dX6_decide_57 (⟨by simp [kDec, hi_k, hv_k, c_16, c_20, c_42], by simp [hi_k, hv_k], by simp [decM, hi_k, hv_k, c_16, c_20, c_42]⟩) (by decide) (by decide)
      · skip
        refine lv_bipush (v := (nI 100)) hx hy dX6_decide_45 (by decide) ?_
        refine lv_goto (tgt := 52) hx hy dX6_decide_47 (by decide) ?_
        refine p_f C h (ha.2 (84 + 2 * k) (by omega) (by omega)) (lt_Tr hk9) (celF_Tr hk9) rfl in_X6_decide_X5 tyX5_ok nmX5 2 (by decide) (by decide +kernel) rfl (v := .int (nI 100)) (x := (nI 100)) (by decide) (by decide) (fun _ => Nat.le_of_ble_eq_true rfl) (fun _ => rfl) dX6_decide_52 (fun H locs h => ?_)
        refine lv_iload hx hy dX6_decide_55 (lv_at hl 0 rfl) ?_
        exact e_int C h rfl dX6_decide_57 (absurd (c_20.symm.trans c_42) (by decide)) (by decide) (by decide)
    · skip
      refine lv_iload hx hy dX6_decide_23 (lv_at hl 0 rfl) ?_
      refine lv_iconst (v := (nI 2)) hx hy dX6_decide_25 (by decide) ?_
      refine n_ge hx hy (by omega) (by decide) (tgt := 40) dX6_decide_26 (by decide) (fun c_26 => ?_) (fun c_26 => ?_)
      · skip
        refine lv_aload_n hx hy dX6_decide_40 rfl (lv_at hl 1 rfl) ?_
        refine lv_iload_n hx hy dX6_decide_41 rfl (lv_at hl 4 rfl) ?_
        refine b_eq hx hy (tgt := 50) dX6_decide_42 (by decide) (fun c_42 => ?_) (fun c_42 => ?_)
        · skip
          refine lv_bipush (v := (nI 97)) hx hy dX6_decide_50 (by decide) ?_
          refine p_f C h (ha.2 (84 + 2 * k) (by omega) (by omega)) (lt_Tr hk9) (celF_Tr hk9) rfl in_X6_decide_X5 tyX5_ok nmX5 2 (by decide) (by decide +kernel) rfl (v := .int (nI 97)) (x := (nI 97)) (by decide) (by decide) (fun _ => Nat.le_of_ble_eq_true rfl) (fun _ => rfl) dX6_decide_52 (fun H locs h => ?_)
          refine lv_iload hx hy dX6_decide_55 (lv_at hl 0 rfl) ?_
          exact e_int C h rfl dX6_decide_57 (absurd (c_20.symm.trans c_42) (by decide)) (by decide) (by decide)
        · skip
          refine lv_bipush (v := (nI 100)) hx hy dX6_decide_45 (by decide) ?_
          refine lv_goto (tgt := 52) hx hy dX6_decide_47 (by decide) ?_
          refine p_f C h (ha.2 (84 + 2 * k) (by omega) (by omega)) (lt_Tr hk9) (celF_Tr hk9) rfl in_X6_decide_X5 tyX5_ok nmX5 2 (by decide) (by decide +kernel) rfl (v := .int (nI 100)) (x := (nI 100)) (by decide) (by decide) (fun _ => Nat.le_of_ble_eq_true rfl) (fun _ => rfl) dX6_decide_52 (fun H locs h => ?_)
          refine lv_iload hx hy dX6_decide_55 (lv_at hl 0 rfl) ?_
          exact e_int C h rfl dX6_decide_57 (⟨by simp [kDec, hi_k, hv_k, c_16, c_20, eq_true c_26, eq_false (Nat.not_lt.mpr c_26), c_42], by simp [hi_k, hv_k], by simp [decM, hi_k, hv_k, c_16, c_20, eq_true c_26, eq_false (Nat.not_lt.mpr c_26), c_42]⟩) (by decide) (by decide)
      · skip
        exact t_wide (ic := 62) (ik := 58) (is := 307) (cls := "java/lang/UnsupportedOperationException") (text := tx_307) C h X hT hl9 (by decide) (by decide) (by decide) hl.1 (by decide +kernel) (by decide +kernel) at_X6_decide_29 bad_UOE good_UOE_58 dX6_decide_29 dX6_decide_32 dX6_decide_33 dX6_decide_36 dX6_decide_39 (by decide) (by decide) (by decide) (by decide) (by decide) (by decide) (⟨XE_of (k := 2) (by simp [kDec, hi_k, hv_k, c_16, c_20, eq_true c_26, eq_false (Nat.not_le.mpr c_26)]) (by decide) rfl, rfl⟩)

set_option maxRecDepth 20000 in
theorem at_X6_settle_28 : ∀ w ∈ (vx_atS RX6 62 "java/lang/UnsupportedOperationException" ["java/lang/RuntimeException", "java/lang/Exception"]).filter goodWord, w ∈ wsX6_settle := by decide +kernel
set_option maxRecDepth 20000 in
theorem in_X6_settle_X6 : ∀ x ∈ wsX60, x ∈ wsX6_settle := by decide +kernel
set_option maxRecDepth 20000 in
theorem in_X6_settle_X0 : ∀ x ∈ wsX00, x ∈ wsX6_settle := by decide +kernel
set_option maxRecDepth 20000 in
theorem at_X6_settle_60 : ∀ w ∈ (vx_atS RX6 62 "java/lang/UnsupportedOperationException" ["java/lang/RuntimeException", "java/lang/Exception"]).filter goodWord, w ∈ wsX6_settle := by decide +kernel
set_option maxRecDepth 20000 in
theorem in_X6_settle_X5 : ∀ x ∈ wsX50, x ∈ wsX6_settle := by decide +kernel
set_option maxRecDepth 100000 in
set_option maxHeartbeats 4000000 in
/-- X6_settle -/
theorem c_X6_settle (l : Launch) {G : va_G} {V : wV} {rs : List Nat} (hl9 : l.stackTraces = false) (ha : bA rs) (M R : wM) (o : wO) (iv : IV M) (ca : Int32) : CT l G V rs yX6_settle wsX6_settle 8 131 2 12 [.ref (V.1 rMain), .int ca] (M, R, o) (fun v u => kSet M ca = 0 ∧ v = some (.int (nI (opQ M (cI ca)))) ∧ u = (setM M (cI ca), R, o)) (fun E u => XE [eIOE, eUOE, eISE] (kSet M ca) E ∧ u = (M, R, o)) := by
  refine ct_of (cc := cX6_settle) (maxL := 5) (ret := (some .int)) (by decide) rfl (Nat.le_of_ble_eq_true rfl) ?_
  intro p e s m below meth cd ls C h X hT hl
  have hx := C.1
  have hy := C.2.1
  have hl : lv_has ls 5 [(0, .ref (V.1 rMain)), (1, .int ca)] := hl
  have hsc := iv.2.1.2
  have htn := iv.2.2.1.2
  refine lv_aload_n hx hy dX6_settle_0 rfl (lv_at hl 0 rfl) ?_
  refine lv_iload_n hx hy dX6_settle_1 rfl (lv_at hl 1 rfl) ?_
  refine n_go C h hT (n_V (As := [.int ca]) (rest := []) C h X (ha.2 60 (by decide) (by decide)) (lo_Main.trans (celF_Main _)) rfl (c_X6_castleAt l hl9 ha M R o ca) (cwV 1 C.2.2.2.2.1 gX6_settle_X6_castleAt rfl rfl rfl (by decide +kernel) ⟨Nat.le_of_ble_eq_true rfl, Nat.le_of_ble_eq_true rfl⟩) rfl hl.1 rfl (Nat.le_of_ble_eq_true rfl) dX6_settle_2 ⟨by decide, by decide⟩) (fun E u hE => ⟨XE_of (k := 1) (by simp [kTow, kEnt, kVote, kBuild, kWait, kCut, vG3, kLease, kGive, kG3, kOpen, kCL, kC, kOrd, kHas, kScout, kRead, kRaid, kTruce, vP3, kPrep, kDec, kSet, kTC, hE.2.1]) (by decide) (by rw [hE.1]; rfl), hE.2.2⟩) (by decide) (by decide) (fun v_2 u_2 H locs hpo h => ?_)
  obtain ⟨rfl, c, hc, rfl, rfl⟩ := hpo
  have hv_c : vIn (nI c) 2 = true := vIn_nI hc (by decide)
  have hi_c : cI (nI c) = c := cI_nI hc (by decide)
  have hc_c : vC (nI c) = true := hv_c
  refine lv_astore_n (lv' := [(2, .ref (V.1 (rCas c))), (0, .ref (V.1 rMain)), (1, .int (nI c))]) hx hy dX6_settle_5 rfl hl (by decide) rfl (fun ls hl => ?_)
  refine lv_aload_n hx hy dX6_settle_6 rfl (lv_at hl 1 rfl) ?_
  refine lv_iload_n hx hy dX6_settle_7 rfl (lv_at hl 2 rfl) ?_
  refine n_go0 C h (n_V (As := [.int (nI c)]) (rest := []) C h X (ha.2 60 (by decide) (by decide)) (lo_Main.trans (celF_Main _)) rfl (c_X6_openTruceAt l hl9 ha M R o iv c hc) (cwV 1 C.2.2.2.2.1 gX6_settle_X6_openTruceAt rfl rfl rfl (by decide +kernel) ⟨Nat.le_of_ble_eq_true rfl, Nat.le_of_ble_eq_true rfl⟩) rfl hl.1 rfl (Nat.le_of_ble_eq_true rfl) dX6_settle_8 ⟨by decide, by decide⟩) (fun _ _ z => z) (fun v_8 u_8 H locs hpo h => ?_)
  obtain ⟨rfl, rfl⟩ := hpo
  refine lv_istore_n (lv' := [(3, .int (opT M c)), (2, .ref (V.1 (rCas c))), (0, .ref (V.1 rMain)), (1, .int (nI c))]) hx hy dX6_settle_11 rfl hl (by decide) rfl (fun ls hl => ?_)
  refine lv_iload_n hx hy dX6_settle_12 rfl (lv_at hl 0 rfl) ?_
  refine z_lt hx hy (tgt := 28) dX6_settle_13 (by decide) (fun c_13 => ?_) (fun c_13 => ?_)
  · skip
    exact t_wide (ic := 62) (ik := 58) (is := 313) (cls := "java/lang/UnsupportedOperationException") (text := tx_313) C h X hT hl9 (by decide) (by decide) (by decide) hl.1 (by decide +kernel) (by decide +kernel) at_X6_settle_28 bad_UOE good_UOE_58 dX6_settle_28 dX6_settle_31 dX6_settle_32 dX6_settle_35 dX6_settle_38 (by decide) (by decide) (by decide) (by decide) (by decide) (by decide) (⟨XE_of (k := 2) (by simp [kSet, stl2, hi_c, hv_c, hc_c, eq_true c_13, eq_false (Int32.not_le.mpr c_13)]) (by decide) rfl, rfl⟩)
  · skip
    have hq9 := opT_ok c_13
    rw [hq9.1] at hl
    have hq8 : opQ M c < 8 := by omega
    refine lv_aload_n hx hy dX6_settle_16 rfl (lv_at hl 2 rfl) ?_
    refine g_f C h (ha.2 60 (by decide) (by decide)) lo_Main celF_Main rfl in_X6_settle_X6 3 (by decide) (by decide +kernel) (v := .ref (V.1 rTrs)) rfl dX6_settle_17 ?_
    refine lv_iload_n hx hy dX6_settle_20 rfl (lv_at hl 0 rfl) ?_
    refine g_a C h (ha.2 62 (by decide) (by decide)) 5 (n := 8) (k := (opQ M c)) lo_Trs (celF_Trs _) rfl (by omega) (by decide) (a := V.1 (rTr (opQ M c))) rfl dX6_settle_21 ?_
    refine n_go0 C h (n_V (As := []) (rest := []) C h X (ha.2 (84 + 2 * (opQ M c)) (by omega) (by omega)) ((lo_Tr hq8).trans ((celF_Tr hq8) _)) rfl (c_X5_isDecided l (opQ M c) hq8 ha M R o ) (cwV 0 C.2.2.2.2.1 gX6_settle_X5_isDecided rfl rfl rfl (by decide +kernel) ⟨Nat.le_of_ble_eq_true rfl, Nat.le_of_ble_eq_true rfl⟩) rfl hl.1 rfl (Nat.le_of_ble_eq_true rfl) dX6_settle_22 ⟨by decide, by decide⟩) (fun _ _ z => z) (fun v_22 u_22 H locs hpo h => ?_)
    obtain ⟨rfl, rfl⟩ := hpo
    refine b_ne hx hy (tgt := 39) dX6_settle_25 (by decide) (fun c_25 => ?_) (fun c_25 => ?_)
    · skip
      refine lv_aload_n hx hy dX6_settle_39 rfl (lv_at hl 1 rfl) ?_
      refine lv_aload_n hx hy dX6_settle_40 rfl (lv_at hl 1 rfl) ?_
      refine g_f C h ((ha.1 c hc) 0 (by decide)) (lo_Cas hc) (celF_Cas hc) rfl in_X6_settle_X0 3 (by decide) (by decide +kernel) (v := .int (M (rCas c) 3)) rfl dX6_settle_41 ?_
      refine n_go0 C h (n_V (As := [.int (M (rCas c) 3)]) (rest := []) C h X ((ha.1 c hc) 0 (by decide)) ((lo_Cas hc).trans ((celF_Cas hc) _)) rfl (c_X0_isQuorum l c hc (ha.1 c hc) M R o (M (rCas c) 3)) (cwV 1 C.2.2.2.2.1 gX6_settle_X0_isQuorum rfl rfl rfl (by decide +kernel) ⟨Nat.le_of_ble_eq_true rfl, Nat.le_of_ble_eq_true rfl⟩) rfl hl.1 rfl (Nat.le_of_ble_eq_true rfl) dX6_settle_44 ⟨by decide, by decide⟩) (fun _ _ z => z) (fun v_44 u_44 H locs hpo h => ?_)
      obtain ⟨rfl, rfl⟩ := hpo
      refine b_eq hx hy (tgt := 60) dX6_settle_47 (by decide) (fun c_47 => ?_) (fun c_47 => ?_)
      · skip
        exact t_wide (ic := 62) (ik := 58) (is := 321) (cls := "java/lang/UnsupportedOperationException") (text := tx_321) C h X hT hl9 (by decide) (by decide) (by decide) hl.1 (by decide +kernel) (by decide +kernel) at_X6_settle_60 bad_UOE good_UOE_58 dX6_settle_60 dX6_settle_63 dX6_settle_64 dX6_settle_67 dX6_settle_70 (by decide) (by decide) (by decide) (by decide) (by decide) (by decide) (⟨XE_of (k := 2) (by simp [kSet, stl2, hi_c, hv_c, hc_c, eq_true c_13, eq_false (Int32.not_lt.mpr c_13), c_25, c_47]) (by decide) rfl, rfl⟩)
      · skip
        refine lv_aload_n hx hy dX6_settle_50 rfl (lv_at hl 1 rfl) ?_
        refine g_f C h ((ha.1 c hc) 0 (by decide)) (lo_Cas hc) (celF_Cas hc) rfl in_X6_settle_X0 7 (by decide) (by decide +kernel) (v := .ref (V.1 (rRow c))) rfl dX6_settle_51 ?_
        refine n_go0 C h (n_V (As := []) (rest := []) C h X ((ha.1 c hc) 16 (by decide)) ((lo_Row hc).trans ((celF_Row hc) _)) rfl (c_X3_isHanging l c hc (ha.1 c hc) M R o (szN M c) (iv.1 c hc).2.2.2.1 (iv.1 c hc).2.2.1 ) (cwV 0 C.2.2.2.2.1 gX6_settle_X3_isHanging rfl rfl rfl (by decide +kernel) ⟨Nat.le_of_ble_eq_true rfl, Nat.le_of_ble_eq_true rfl⟩) rfl hl.1 rfl (Nat.le_of_ble_eq_true rfl) dX6_settle_54 ⟨by decide, by decide⟩) (fun _ _ z => z) (fun v_54 u_54 H locs hpo h => ?_)
        obtain ⟨rfl, rfl⟩ := hpo
        refine b_eq hx hy (tgt := 71) dX6_settle_57 (by decide) (fun c_57 => ?_) (fun c_57 => ?_)
        · skip
          refine lv_aload_n hx hy dX6_settle_71 rfl (lv_at hl 1 rfl) ?_
          refine n_go C h hT (n_S (As := [.ref (V.1 (rCas c))]) (rest := []) C h X (c_X6_requireRoom l hl9 c hc (ha.1 c hc) M R o (szN M c) (iv.1 c hc).2.2.2.1 (iv.1 c hc).2.2.1) (va_cwS 1 C.2.2.2.2.1 gX6_settle_X6_requireRoom rfl rfl rfl (by decide +kernel) ⟨Nat.le_of_ble_eq_true rfl, Nat.le_of_ble_eq_true rfl⟩) rfl hl.1 rfl (Nat.le_of_ble_eq_true rfl) dX6_settle_72 ⟨by decide, by decide⟩) (fun E u hE => ⟨XE_of (k := 3) (by have := Nat.not_lt.mpr hE.2.1; simp [kSet, stl2, hi_c, hv_c, hc_c, eq_true c_13, eq_false (Int32.not_lt.mpr c_13), c_25, c_47, c_57, this]) (by decide) (by rw [hE.1]; rfl), hE.2.2⟩) (by decide) (by decide) (fun v_72 u_72 H locs hpo h => ?_)
          obtain ⟨rfl, rfl, hroom⟩ := hpo
          refine lv_aload_n hx hy dX6_settle_75 rfl (lv_at hl 2 rfl) ?_
          refine g_f C h (ha.2 60 (by decide) (by decide)) lo_Main celF_Main rfl in_X6_settle_X6 3 (by decide) (by decide +kernel) (v := .ref (V.1 rTrs)) rfl dX6_settle_76 ?_
          refine lv_iload_n hx hy dX6_settle_79 rfl (lv_at hl 0 rfl) ?_
          refine g_a C h (ha.2 62 (by decide) (by decide)) 5 (n := 8) (k := (opQ M c)) lo_Trs (celF_Trs _) rfl (by omega) (by decide) (a := V.1 (rTr (opQ M c))) rfl dX6_settle_80 ?_
          refine lv_astore (lv' := [(4, .ref (V.1 (rTr (opQ M c)))), (3, .int (nI (opQ M c))), (2, .ref (V.1 (rCas c))), (0, .ref (V.1 rMain)), (1, .int (nI c))]) hx hy dX6_settle_81 hl (by decide) rfl (fun ls hl => ?_)
          refine lv_aload hx hy dX6_settle_83 (lv_at hl 0 rfl) ?_
          refine g_f C h (ha.2 (84 + 2 * (opQ M c)) (by omega) (by omega)) (lo_Tr hq8) (celF_Tr hq8) rfl in_X6_settle_X5 3 (by decide) (by decide +kernel) (v := .ref (V.1 (rSt (opQ M c)))) rfl dX6_settle_85 ?_
          refine lv_iload_n hx hy dX6_settle_88 rfl (lv_at hl 4 rfl) ?_
          refine lv_aload hx hy dX6_settle_89 (lv_at hl 0 rfl) ?_
          refine g_f C h (ha.2 (84 + 2 * (opQ M c)) (by omega) (by omega)) (lo_Tr hq8) (celF_Tr hq8) rfl in_X6_settle_X5 2 (by decide) (by decide +kernel) (v := .int (M (rTr (opQ M c)) 2)) rfl dX6_settle_91 ?_
          refine s_c C h (ha.2 (85 + 2 * (opQ M c)) (by omega) (by omega)) (lt_St hq8) (n := 2) (k := c) (celF_St hq8) (by omega) (by decide) (x := (M (rTr (opQ M c)) 2)) (vp_of_nar (iv.2.2.2.2 _ hq9.2).1) dX6_settle_94 (fun H locs h => ?_)
          refine lv_aload_n hx hy dX6_settle_95 rfl (lv_at hl 2 rfl) ?_
          refine lv_aload hx hy dX6_settle_96 (lv_at hl 0 rfl) ?_
          refine g_f C h (ha.2 (84 + 2 * (opQ M c)) (by omega) (by omega)) (lo_Tr hq8) (celF_Tr hq8) rfl in_X6_settle_X5 2 (by decide) (by decide +kernel) (v := .int (M (rTr (opQ M c)) 2)) (congrArg (fun z => some (Value.int z)) (show (wr M (rSt (opQ M c)) c (M (rTr (opQ M c)) 2)) (rTr (opQ M c)) 2 = (M (rTr (opQ M c)) 2) from (wr_othr (by simp only [rSt, rTr]; omega)))) dX6_settle_98 ?_
          refine lv_aload hx hy dX6_settle_101 (lv_at hl 0 rfl) ?_
          refine g_f C h (ha.2 (84 + 2 * (opQ M c)) (by omega) (by omega)) (lo_Tr hq8) (celF_Tr hq8) rfl in_X6_settle_X5 1 (by decide) (by decide +kernel) (v := .int (M (rTr (opQ M c)) 1)) (congrArg (fun z => some (Value.int z)) (show (wr M (rSt (opQ M c)) c (M (rTr (opQ M c)) 2)) (rTr (opQ M c)) 1 = (M (rTr (opQ M c)) 1) from (wr_othr (by simp only [rSt, rTr]; omega)))) dX6_settle_103 ?_
          refine lv_aload hx hy dX6_settle_106 (lv_at hl 0 rfl) ?_
          refine g_f C h (ha.2 (84 + 2 * (opQ M c)) (by omega) (by omega)) (lo_Tr hq8) (celF_Tr hq8) rfl in_X6_settle_X5 0 (by decide) (by decide +kernel) (v := .int (M (rTr (opQ M c)) 0)) (congrArg (fun z => some (Value.int z)) (show (wr M (rSt (opQ M c)) c (M (rTr (opQ M c)) 2)) (rTr (opQ M c)) 0 = (M (rTr (opQ M c)) 0) from (wr_othr (by simp only [rSt, rTr]; omega)))) dX6_settle_108 ?_
          refine lv_iload_n hx hy dX6_settle_111 rfl (lv_at hl 4 rfl) ?_
          refine i_ne hx hy (tgt := 119) dX6_settle_112 (by decide) (fun c_112 => ?_) (fun c_112 => ?_)
          · skip
            refine lv_iconst (v := (nI 0)) hx hy dX6_settle_119 (by decide) ?_
            refine lv_topn (show (nI 0) = b2i (decide (M (rTr (opQ M c)) 0 = nI c)) from by simp [b2i, eq_true c_13, eq_false (Int32.not_lt.mpr c_13), c_25, c_47, c_57, eq_false c_112]) ?_
            refine lv_aload_n hx hy dX6_settle_120 rfl (lv_at hl 2 rfl) ?_
            refine g_f C h ((ha.1 c hc) 0 (by decide)) (lo_Cas hc) (celF_Cas hc) rfl in_X6_settle_X0 3 (by decide) (by decide +kernel) (v := .int (M (rCas c) 3)) (congrArg (fun z => some (Value.int z)) (show (wr M (rSt (opQ M c)) c (M (rTr (opQ M c)) 2)) (rCas c) 3 = (M (rCas c) 3) from (wr_othr (by simp only [rCas, rSt]; omega)))) dX6_settle_121 ?_
            refine n_go0 C h (n_V (As := [.int (M (rTr (opQ M c)) 2), .int (M (rTr (opQ M c)) 1), .int (b2i (decide (M (rTr (opQ M c)) 0 = nI c))), .int (M (rCas c) 3)]) (rest := []) C h X ((ha.1 c hc) 0 (by decide)) ((lo_Cas hc).trans ((celF_Cas hc) _)) rfl (c_X0_writeTruceEntry l c hc (ha.1 c hc) (wr M (rSt (opQ M c)) c (M (rTr (opQ M c)) 2)) R o (szN M c) hroom ((wr_othr (by simp only [rRow, rSt]; omega)).trans (iv.1 c hc).2.2.1) (M (rTr (opQ M c)) 2) (M (rTr (opQ M c)) 1) (vp_of_nar (iv.2.2.2.2 _ hq9.2).1) (decide (M (rTr (opQ M c)) 0 = nI c)) (M (rCas c) 3)) (cwV 4 C.2.2.2.2.1 gX6_settle_X0_writeTruceEntry rfl rfl rfl (by decide +kernel) ⟨Nat.le_of_ble_eq_true rfl, Nat.le_of_ble_eq_true rfl⟩) rfl hl.1 rfl (Nat.le_of_ble_eq_true rfl) dX6_settle_124 ⟨by decide, by decide⟩) (fun _ _ z => z) (fun v_124 u_124 H locs hpo h => ?_)
            obtain ⟨rfl, rfl⟩ := hpo
            refine lv_pop hx hy dX6_settle_127 rfl ?_
            refine lv_iload_n hx hy dX6_settle_128 rfl (lv_at hl 1 rfl) ?_
            exact e_int C h rfl dX6_settle_129 (⟨by simp [kSet, stl2, hi_c, hv_c, hc_c, hroom, eq_true c_13, eq_false (Int32.not_lt.mpr c_13), c_25, c_47, c_57, eq_false c_112], by simp [hi_c, hv_c, hc_c, hroom], by simp only [hi_c, hv_c, hc_c, hroom]; rfl⟩) (by decide) (by decide)
          · skip
            refine lv_iconst (v := (nI 1)) hx hy dX6_settle_115 (by decide) ?_
            refine lv_goto (tgt := 120) hx hy dX6_settle_116 (by decide) ?_
            refine lv_topn (show (nI 1) = b2i (decide (M (rTr (opQ M c)) 0 = nI c)) from by simp [b2i, eq_true c_13, eq_false (Int32.not_lt.mpr c_13), c_25, c_47, c_57, eq_true c_112]) ?_
            refine lv_aload_n hx hy dX6_settle_120 rfl (lv_at hl 2 rfl) ?_
            refine g_f C h ((ha.1 c hc) 0 (by decide)) (lo_Cas hc) (celF_Cas hc) rfl in_X6_settle_X0 3 (by decide) (by decide +kernel) (v := .int (M (rCas c) 3)) (congrArg (fun z => some (Value.int z)) (show (wr M (rSt (opQ M c)) c (M (rTr (opQ M c)) 2)) (rCas c) 3 = (M (rCas c) 3) from (wr_othr (by simp only [rCas, rSt]; omega)))) dX6_settle_121 ?_
            refine n_go0 C h (n_V (As := [.int (M (rTr (opQ M c)) 2), .int (M (rTr (opQ M c)) 1), .int (b2i (decide (M (rTr (opQ M c)) 0 = nI c))), .int (M (rCas c) 3)]) (rest := []) C h X ((ha.1 c hc) 0 (by decide)) ((lo_Cas hc).trans ((celF_Cas hc) _)) rfl (c_X0_writeTruceEntry l c hc (ha.1 c hc) (wr M (rSt (opQ M c)) c (M (rTr (opQ M c)) 2)) R o (szN M c) hroom ((wr_othr (by simp only [rRow, rSt]; omega)).trans (iv.1 c hc).2.2.1) (M (rTr (opQ M c)) 2) (M (rTr (opQ M c)) 1) (vp_of_nar (iv.2.2.2.2 _ hq9.2).1) (decide (M (rTr (opQ M c)) 0 = nI c)) (M (rCas c) 3)) (cwV 4 C.2.2.2.2.1 gX6_settle_X0_writeTruceEntry rfl rfl rfl (by decide +kernel) ⟨Nat.le_of_ble_eq_true rfl, Nat.le_of_ble_eq_true rfl⟩) rfl hl.1 rfl (Nat.le_of_ble_eq_true rfl) dX6_settle_124 ⟨by decide, by decide⟩) (fun _ _ z => z) (fun v_124 u_124 H locs hpo h => ?_)
            obtain ⟨rfl, rfl⟩ := hpo
            refine lv_pop hx hy dX6_settle_127 rfl ?_
            refine lv_iload_n hx hy dX6_settle_128 rfl (lv_at hl 1 rfl) ?_
            exact e_int C h rfl dX6_settle_129 (⟨by simp [kSet, stl2, hi_c, hv_c, hc_c, hroom, eq_true c_13, eq_false (Int32.not_lt.mpr c_13), c_25, c_47, c_57, eq_true c_112], by simp [hi_c, hv_c, hc_c, hroom], by simp only [hi_c, hv_c, hc_c, hroom]; rfl⟩) (by decide) (by decide)
        · skip
          exact t_wide (ic := 62) (ik := 58) (is := 321) (cls := "java/lang/UnsupportedOperationException") (text := tx_321) C h X hT hl9 (by decide) (by decide) (by decide) hl.1 (by decide +kernel) (by decide +kernel) at_X6_settle_60 bad_UOE good_UOE_58 dX6_settle_60 dX6_settle_63 dX6_settle_64 dX6_settle_67 dX6_settle_70 (by decide) (by decide) (by decide) (by decide) (by decide) (by decide) (⟨XE_of (k := 2) (by simp [kSet, stl2, hi_c, hv_c, hc_c, eq_true c_13, eq_false (Int32.not_lt.mpr c_13), c_25, c_47, c_57]) (by decide) rfl, rfl⟩)
    · skip
      exact t_wide (ic := 62) (ik := 58) (is := 313) (cls := "java/lang/UnsupportedOperationException") (text := tx_313) C h X hT hl9 (by decide) (by decide) (by decide) hl.1 (by decide +kernel) (by decide +kernel) at_X6_settle_28 bad_UOE good_UOE_58 dX6_settle_28 dX6_settle_31 dX6_settle_32 dX6_settle_35 dX6_settle_38 (by decide) (by decide) (by decide) (by decide) (by decide) (by decide) (⟨XE_of (k := 2) (by simp [kSet, stl2, hi_c, hv_c, hc_c, eq_true c_13, eq_false (Int32.not_lt.mpr c_13), c_25]) (by decide) rfl, rfl⟩)

set_option maxRecDepth 20000 in
theorem in_X6_truceOf_X5 : ∀ x ∈ wsX50, x ∈ wsX6_truceOf := by decide +kernel
set_option maxRecDepth 100000 in
set_option maxHeartbeats 4000000 in
/-- X6_truceOf -/
theorem c_X6_truceOf (l : Launch) {G : va_G} {V : wV} {rs : List Nat} (hl9 : l.stackTraces = false) (ha : bA rs) (M R : wM) (o : wO) (iv : IV M) (tr0 ca : Int32) : CT l G V rs yX6_truceOf wsX6_truceOf 7 111 2 12 [.ref (V.1 rMain), .int tr0, .int ca] (M, R, o) (fun v u => kTC M tr0 ca = 0 ∧ v = some (.int (M (rSt (cI tr0)) (cI ca))) ∧ u = (M, R, o)) (fun E u => XE [eIOE] (kTC M tr0 ca) E ∧ u = (M, R, o)) := by
  refine ct_of (cc := cX6_truceOf) (maxL := 4) (ret := (some .char)) (by decide) rfl (Nat.le_of_ble_eq_true rfl) ?_
  intro p e s m below meth cd ls C h X hT hl
  have hx := C.1
  have hy := C.2.1
  have hl : lv_has ls 4 [(0, .ref (V.1 rMain)), (1, .int tr0), (2, .int ca)] := hl
  have hsc := iv.2.1.2
  have htn := iv.2.2.1.2
  refine lv_aload_n hx hy dX6_truceOf_0 rfl (lv_at hl 0 rfl) ?_
  refine lv_iload_n hx hy dX6_truceOf_1 rfl (lv_at hl 1 rfl) ?_
  refine n_go C h hT (n_V (As := [.int tr0]) (rest := []) C h X (ha.2 60 (by decide) (by decide)) (lo_Main.trans (celF_Main _)) rfl (c_X6_truceAt l hl9 ha M R o iv tr0) (cwV 1 C.2.2.2.2.1 gX6_truceOf_X6_truceAt rfl rfl rfl (by decide +kernel) ⟨Nat.le_of_ble_eq_true rfl, Nat.le_of_ble_eq_true rfl⟩) rfl hl.1 rfl (Nat.le_of_ble_eq_true rfl) dX6_truceOf_2 ⟨by decide, by decide⟩) (fun E u hE => ⟨XE_of (k := 1) (by simp [kTow, kEnt, kVote, kBuild, kWait, kCut, vG3, kLease, kGive, kG3, kOpen, kCL, kC, kOrd, kHas, kScout, kRead, kRaid, kTruce, vP3, kPrep, kDec, kSet, kTC, hE.2.1]) (by decide) (by rw [hE.1]; rfl), hE.2.2⟩) (by decide) (by decide) (fun v_2 u_2 H locs hpo h => ?_)
  obtain ⟨rfl, k, hk, rfl, rfl⟩ := hpo
  have hk9 : k < 8 := by omega
  have hv_k : vIn (nI k) (tnN M) = true := vIn_nI hk (by omega)
  have hi_k : cI (nI k) = k := nI_clamp (by omega)
  have htr := iv.2.2.2.2 k hk
  refine lv_astore_n (lv' := [(3, .ref (V.1 (rTr k))), (0, .ref (V.1 rMain)), (1, .int (nI k)), (2, .int ca)]) hx hy dX6_truceOf_5 rfl hl (by decide) rfl (fun ls hl => ?_)
  refine lv_iload_n hx hy dX6_truceOf_6 rfl (lv_at hl 3 rfl) ?_
  refine n_go C h hT (n_S (As := [.int ca]) (rest := []) C h X (c_X6_requireCastle l hl9 M R o ca) (va_cwS 1 C.2.2.2.2.1 gX6_truceOf_X6_requireCastle rfl rfl rfl (by decide +kernel) ⟨Nat.le_of_ble_eq_true rfl, Nat.le_of_ble_eq_true rfl⟩) rfl hl.1 rfl (Nat.le_of_ble_eq_true rfl) dX6_truceOf_7 ⟨by decide, by decide⟩) (fun E u hE => ⟨XE_of (k := 1) (by have : vC ca = false := hE.2.1; simp [kTC, this, hi_k, hv_k]) (by decide) (by rw [hE.1]; rfl), hE.2.2⟩) (by decide) (by decide) (fun v_7 u_7 H locs hpo h => ?_)
  obtain ⟨rfl, rfl, c, hc, rfl⟩ := hpo
  have hv_c : vIn (nI c) 2 = true := vIn_nI hc (by decide)
  have hi_c : cI (nI c) = c := cI_nI hc (by decide)
  have hc_c : vC (nI c) = true := hv_c
  refine lv_aload_n hx hy dX6_truceOf_10 rfl (lv_at hl 0 rfl) ?_
  refine g_f C h (ha.2 (84 + 2 * k) (by omega) (by omega)) (lo_Tr hk9) (celF_Tr hk9) rfl in_X6_truceOf_X5 3 (by decide) (by decide +kernel) (v := .ref (V.1 (rSt k))) rfl dX6_truceOf_11 ?_
  refine lv_iload_n hx hy dX6_truceOf_14 rfl (lv_at hl 3 rfl) ?_
  refine g_c C h (ha.2 (85 + 2 * k) (by omega) (by omega)) (n := 2) (k := c) (lo_St hk9) (celF_St hk9) (by omega) (by decide) (v := (M (rSt k) c)) rfl dX6_truceOf_15 ?_
  exact e_int C h (htr.2 c hc) dX6_truceOf_16 (⟨by simp [kTC, hi_k, hv_k, hi_c, hv_c, hc_c], by first | rfl | (simp only [hi_k, hv_k, hi_c, hv_c, hc_c]; done) | (simp only [hi_k, hv_k, hi_c, hv_c, hc_c]; rfl), by first | rfl | (simp only [hi_k, hv_k, hi_c, hv_c, hc_c]; done) | (simp only [hi_k, hv_k, hi_c, hv_c, hc_c]; rfl)⟩) (by decide) (by decide)

set_option maxRecDepth 20000 in
theorem in_X6_time_X6 : ∀ x ∈ wsX60, x ∈ wsX6_time := by decide +kernel
set_option maxRecDepth 100000 in
set_option maxHeartbeats 4000000 in
/-- X6_time -/
theorem c_X6_time (l : Launch) {G : va_G} {V : wV} {rs : List Nat} (ha : bA rs) (M R : wM) (o : wO) (iv : IV M) : CT l G V rs yX6_time wsX6_time 0 0 0 0 [.ref (V.1 rMain)] (M, R, o) (fun v u => v = some (.int (nowM M)) ∧ u = (M, R, o)) (fun _ _ => False) := by
  refine ct_of (cc := cX6_time) (maxL := 1) (ret := (some .int)) (by decide) rfl (Nat.le_of_ble_eq_true rfl) ?_
  intro p e s m below meth cd ls C h X hT hl
  have hx := C.1
  have hy := C.2.1
  have hl : lv_has ls 1 [(0, .ref (V.1 rMain))] := hl
  have hsc := iv.2.1.2
  have htn := iv.2.2.1.2
  refine lv_aload_n hx hy dX6_time_0 rfl (lv_at hl 0 rfl) ?_
  refine g_f C h (ha.2 60 (by decide) (by decide)) lo_Main celF_Main rfl in_X6_time_X6 7 (by decide) (by decide +kernel) (v := .int (M rMain 7)) rfl dX6_time_1 ?_
  exact e_int C h rfl dX6_time_4 (⟨rfl, rfl⟩) (by decide) (by decide)

set_option maxRecDepth 20000 in
theorem in_X6_checksum_X6 : ∀ x ∈ wsX60, x ∈ wsX6_checksum := by decide +kernel
set_option maxRecDepth 100000 in
set_option maxHeartbeats 4000000 in
/-- X6_checksum -/
theorem c_X6_checksum (l : Launch) {G : va_G} {V : wV} {rs : List Nat} (ha : bA rs) (M R : wM) (o : wO) (iv : IV M) : CT l G V rs yX6_checksum wsX6_checksum 5 113 0 0 [.ref (V.1 rMain)] (M, R, o) (fun v u => v = some (.long (chk M)) ∧ u = (chkM M, R, o)) (fun _ _ => False) := by
  refine ct_of (cc := cX6_checksum) (maxL := 1) (ret := (some .long)) (by decide) rfl (Nat.le_of_ble_eq_true rfl) ?_
  intro p e s m below meth cd ls C h X hT hl
  have hx := C.1
  have hy := C.2.1
  have hl : lv_has ls 1 [(0, .ref (V.1 rMain))] := hl
  have hsc := iv.2.1.2
  have htn := iv.2.2.1.2
  refine lv_aload_n hx hy dX6_checksum_0 rfl (lv_at hl 0 rfl) ?_
  refine g_f C h (ha.2 60 (by decide) (by decide)) lo_Main celF_Main rfl in_X6_checksum_X6 1 (by decide) (by decide +kernel) (v := .ref (V.1 (rCas 1))) rfl dX6_checksum_1 ?_
  refine lv_aload_n hx hy dX6_checksum_4 rfl (lv_at hl 0 rfl) ?_
  refine g_f C h (ha.2 60 (by decide) (by decide)) lo_Main celF_Main rfl in_X6_checksum_X6 0 (by decide) (by decide +kernel) (v := .ref (V.1 (rCas 0))) rfl dX6_checksum_5 ?_
  refine lv_ldc2 (v := 7) hx hy C.2.2.2.1 (C.2.2.2.2.1 (.constantLong RX6 323 7) (by decide +kernel)) dX6_checksum_8 ?_
  refine n_go0 C h (n_V (As := [.long 7]) (rest := [.ref (V.1 (rCas 1))]) C h X ((ha.1 0 (by decide)) 0 (by decide)) ((lo_Cas (by decide)).trans ((celF_Cas (by decide)) _)) rfl (c_X0_addTo l 0 (by decide) (ha.1 0 (by decide)) M R o (szN M 0) (iv.1 0 (by decide)).2.2.2.1 (iv.1 0 (by decide)).2.2.1 (iv.1 0 (by decide)).2.2.2.2.1 7) (cwV 1 C.2.2.2.2.1 gX6_checksum_X0_addTo rfl rfl rfl (by decide +kernel) ⟨Nat.le_of_ble_eq_true rfl, Nat.le_of_ble_eq_true rfl⟩) rfl hl.1 rfl (Nat.le_of_ble_eq_true rfl) dX6_checksum_11 ⟨by decide, by decide⟩) (fun _ _ z => z) (fun v_11 u_11 H locs hpo h => ?_)
  obtain ⟨rfl, rfl⟩ := hpo
  refine n_go0 C h (n_V (As := [.long (adN (telM M 0 (szN M 0)) 0 7 4)]) (rest := []) C h X ((ha.1 1 (by decide)) 0 (by decide)) ((lo_Cas (by decide)).trans ((celF_Cas (by decide)) _)) rfl (c_X0_addTo l 1 (by decide) (ha.1 1 (by decide)) (telM M 0 (szN M 0)) R o (szN M 1) (iv.1 1 (by decide)).2.2.2.1 ((congrFun (telM_ne (by simp only [rLed, rRow]; omega) (by simp only [rPu, rRow]; omega)) _).trans (iv.1 1 (by decide)).2.2.1) (okL_eq (telM_ne (by simp only [rLe, rLed]; omega) (by simp only [rLe, rPu]; omega)) (telM_ne (by simp only [rLed, rLo]; omega) (by simp only [rLo, rPu]; omega)) (iv.1 1 (by decide)).2.2.2.2.1) (adN (telM M 0 (szN M 0)) 0 7 4)) (cwV 1 C.2.2.2.2.1 gX6_checksum_X0_addTo rfl rfl rfl (by decide +kernel) ⟨Nat.le_of_ble_eq_true rfl, Nat.le_of_ble_eq_true rfl⟩) rfl hl.1 rfl (Nat.le_of_ble_eq_true rfl) dX6_checksum_14 ⟨by decide, by decide⟩) (fun _ _ z => z) (fun v_14 u_14 H locs hpo h => ?_)
  obtain ⟨rfl, rfl⟩ := hpo
  exact e_long C h dX6_checksum_17 (⟨rfl, rfl⟩) (by decide) (by decide)

set_option maxRecDepth 20000 in
theorem in_X6_isSound_X6 : ∀ x ∈ wsX60, x ∈ wsX6_isSound := by decide +kernel
set_option maxRecDepth 100000 in
set_option maxHeartbeats 4000000 in
/-- X6_isSound -/
theorem c_X6_isSound (l : Launch) {G : va_G} {V : wV} {rs : List Nat} (ha : bA rs) (M R : wM) (o : wO) (iv : IV M) : CT l G V rs yX6_isSound wsX6_isSound 5 110 0 0 [.ref (V.1 rMain)] (M, R, o) (fun v u => v = some (.int (b2i (snd M))) ∧ u = (sndM M, R, o)) (fun _ _ => False) := by
  refine ct_of (cc := cX6_isSound) (maxL := 1) (ret := (some .boolean)) (by decide) rfl (Nat.le_of_ble_eq_true rfl) ?_
  intro p e s m below meth cd ls C h X hT hl
  have hx := C.1
  have hy := C.2.1
  have hl : lv_has ls 1 [(0, .ref (V.1 rMain))] := hl
  have hsc := iv.2.1.2
  have htn := iv.2.2.1.2
  refine lv_aload_n hx hy dX6_isSound_0 rfl (lv_at hl 0 rfl) ?_
  refine g_f C h (ha.2 60 (by decide) (by decide)) lo_Main celF_Main rfl in_X6_isSound_X6 0 (by decide) (by decide +kernel) (v := .ref (V.1 (rCas 0))) rfl dX6_isSound_1 ?_
  refine lv_aload_n hx hy dX6_isSound_4 rfl (lv_at hl 0 rfl) ?_
  refine g_f C h (ha.2 60 (by decide) (by decide)) lo_Main celF_Main rfl in_X6_isSound_X6 7 (by decide) (by decide +kernel) (v := .int (M rMain 7)) rfl dX6_isSound_5 ?_
  refine n_go0 C h (n_V (As := [.int (M rMain 7)]) (rest := []) C h X ((ha.1 0 (by decide)) 0 (by decide)) ((lo_Cas (by decide)).trans ((celF_Cas (by decide)) _)) rfl (c_X0_isSoundAt l 0 (by decide) (ha.1 0 (by decide)) M R o (szN M 0) (iv.1 0 (by decide)).2.2.2.1 (iv.1 0 (by decide)).2.2.1 (iv.1 0 (by decide)).2.2.2.2.1 (M rMain 7)) (cwV 1 C.2.2.2.2.1 gX6_isSound_X0_isSoundAt rfl rfl rfl (by decide +kernel) ⟨Nat.le_of_ble_eq_true rfl, Nat.le_of_ble_eq_true rfl⟩) rfl hl.1 rfl (Nat.le_of_ble_eq_true rfl) dX6_isSound_8 ⟨by decide, by decide⟩) (fun _ _ z => z) (fun v_8 u_8 H locs hpo h => ?_)
  obtain ⟨rfl, rfl⟩ := hpo
  refine b_eq hx hy (tgt := 32) dX6_isSound_11 (by decide) (fun c_11 => ?_) (fun c_11 => ?_)
  · skip
    refine lv_iconst (v := (nI 0)) hx hy dX6_isSound_32 (by decide) ?_
    exact e_int C h (by decide) dX6_isSound_33 (⟨by simp [snd, b2i, sndA, c_11], by simp [sndM, sndA, c_11]⟩) (by decide) (by decide)
  · skip
    refine lv_aload_n hx hy dX6_isSound_14 rfl (lv_at hl 0 rfl) ?_
    refine g_f C h (ha.2 60 (by decide) (by decide)) lo_Main celF_Main rfl in_X6_isSound_X6 1 (by decide) (by decide +kernel) (v := .ref (V.1 (rCas 1))) rfl dX6_isSound_15 ?_
    refine lv_aload_n hx hy dX6_isSound_18 rfl (lv_at hl 0 rfl) ?_
    refine g_f C h (ha.2 60 (by decide) (by decide)) lo_Main celF_Main rfl in_X6_isSound_X6 7 (by decide) (by decide +kernel) (v := .int (M rMain 7)) (congrArg (fun z => some (Value.int z)) (show (cSndM M 0 (szN M 0) (M rMain 7)) rMain 7 = (M rMain 7) from (congrFun (cSndM_ne (by simp only [rLed, rMain]; omega) (by simp only [rMain, rPu]; omega)) _))) dX6_isSound_19 ?_
    refine n_go0 C h (n_V (As := [.int (M rMain 7)]) (rest := []) C h X ((ha.1 1 (by decide)) 0 (by decide)) ((lo_Cas (by decide)).trans ((celF_Cas (by decide)) _)) rfl (c_X0_isSoundAt l 1 (by decide) (ha.1 1 (by decide)) (cSndM M 0 (szN M 0) (M rMain 7)) R o (szN M 1) (iv.1 1 (by decide)).2.2.2.1 ((congrFun (cSndM_ne (by simp only [rLed, rRow]; omega) (by simp only [rPu, rRow]; omega)) _).trans (iv.1 1 (by decide)).2.2.1) (okL_eq (cSndM_ne (by simp only [rLe, rLed]; omega) (by simp only [rLe, rPu]; omega)) (cSndM_ne (by simp only [rLed, rLo]; omega) (by simp only [rLo, rPu]; omega)) (iv.1 1 (by decide)).2.2.2.2.1) (M rMain 7)) (cwV 1 C.2.2.2.2.1 gX6_isSound_X0_isSoundAt rfl rfl rfl (by decide +kernel) ⟨Nat.le_of_ble_eq_true rfl, Nat.le_of_ble_eq_true rfl⟩) rfl hl.1 rfl (Nat.le_of_ble_eq_true rfl) dX6_isSound_22 ⟨by decide, by decide⟩) (fun _ _ z => z) (fun v_22 u_22 H locs hpo h => ?_)
    obtain ⟨rfl, rfl⟩ := hpo
    refine b_eq hx hy (tgt := 32) dX6_isSound_25 (by decide) (fun c_25 => ?_) (fun c_25 => ?_)
    · skip
      refine lv_iconst (v := (nI 0)) hx hy dX6_isSound_32 (by decide) ?_
      exact e_int C h (by decide) dX6_isSound_33 (⟨by simp [snd, b2i, sndA, c_11, c_25], by simp [sndM, sndA, c_11, c_25]⟩) (by decide) (by decide)
    · skip
      refine lv_iconst (v := (nI 1)) hx hy dX6_isSound_28 (by decide) ?_
      refine lv_goto (tgt := 33) hx hy dX6_isSound_29 (by decide) ?_
      exact e_int C h (by decide) dX6_isSound_33 (⟨by simp [snd, b2i, sndA, c_11, c_25], by simp [sndM, sndA, c_11, c_25]⟩) (by decide) (by decide)

set_option maxRecDepth 20000 in
theorem in_X6_upShare_X0 : ∀ x ∈ wsX00, x ∈ wsX6_upShare := by decide +kernel
set_option maxRecDepth 100000 in
set_option maxHeartbeats 4000000 in
/-- X6_upShare -/
theorem c_X6_upShare (l : Launch) {G : va_G} {V : wV} {rs : List Nat} (hl9 : l.stackTraces = false) (ha : bA rs) (M R : wM) (o : wO) (iv : IV M) (ca : Int32) (hnn : ∀ c, c < 2 → vf_n32 (FP.fdiv (FP.i2f (bcI (M (rCas c) 3))) (FP.i2f (nI (tcN M c))))) : CT l G V rs yX6_upShare wsX6_upShare 8 131 1 6 [.ref (V.1 rMain), .int ca] (M, R, o) (fun v u => kC ca = 0 ∧ v = some (.float (FP.fdiv (FP.i2f (bcI (M (rCas (cI ca)) 3))) (FP.i2f (nI (tcN M (cI ca)))))) ∧ u = (M, R, o)) (fun E u => XE [eIOE] (kC ca) E ∧ u = (M, R, o)) := by
  refine ct_of (cc := cX6_upShare) (maxL := 3) (ret := (some .float)) (by decide) rfl (Nat.le_of_ble_eq_true rfl) ?_
  intro p e s m below meth cd ls C h X hT hl
  have hx := C.1
  have hy := C.2.1
  have hl : lv_has ls 3 [(0, .ref (V.1 rMain)), (1, .int ca)] := hl
  have hsc := iv.2.1.2
  have htn := iv.2.2.1.2
  refine lv_aload_n hx hy dX6_upShare_0 rfl (lv_at hl 0 rfl) ?_
  refine lv_iload_n hx hy dX6_upShare_1 rfl (lv_at hl 1 rfl) ?_
  refine n_go C h hT (n_V (As := [.int ca]) (rest := []) C h X (ha.2 60 (by decide) (by decide)) (lo_Main.trans (celF_Main _)) rfl (c_X6_castleAt l hl9 ha M R o ca) (cwV 1 C.2.2.2.2.1 gX6_upShare_X6_castleAt rfl rfl rfl (by decide +kernel) ⟨Nat.le_of_ble_eq_true rfl, Nat.le_of_ble_eq_true rfl⟩) rfl hl.1 rfl (Nat.le_of_ble_eq_true rfl) dX6_upShare_2 ⟨by decide, by decide⟩) (fun E u hE => ⟨XE_of (k := 1) (by simp [kTow, kEnt, kVote, kBuild, kWait, kCut, vG3, kLease, kGive, kG3, kOpen, kCL, kC, kOrd, kHas, kScout, kRead, kRaid, kTruce, vP3, kPrep, kDec, kSet, kTC, hE.2.1]) (by decide) (by rw [hE.1]; rfl), hE.2.2⟩) (by decide) (by decide) (fun v_2 u_2 H locs hpo h => ?_)
  obtain ⟨rfl, c, hc, rfl, rfl⟩ := hpo
  have hv_c : vIn (nI c) 2 = true := vIn_nI hc (by decide)
  have hi_c : cI (nI c) = c := cI_nI hc (by decide)
  have hc_c : vC (nI c) = true := hv_c
  refine lv_astore_n (lv' := [(2, .ref (V.1 (rCas c))), (0, .ref (V.1 rMain)), (1, .int (nI c))]) hx hy dX6_upShare_5 rfl hl (by decide) rfl (fun ls hl => ?_)
  refine lv_aload_n hx hy dX6_upShare_6 rfl (lv_at hl 0 rfl) ?_
  refine g_f C h ((ha.1 c hc) 0 (by decide)) (lo_Cas hc) (celF_Cas hc) rfl in_X6_upShare_X0 3 (by decide) (by decide +kernel) (v := .int (M (rCas c) 3)) rfl dX6_upShare_7 ?_
  refine n_go0 C h (n_S (As := [.int (M (rCas c) 3)]) (rest := []) C h X (c_J6_bitCount_0f7a4 l M R o (M (rCas c) 3)) (va_cwS 1 C.2.2.2.2.1 gX6_upShare_J6_bitCount_0f7a4 rfl rfl rfl (by decide +kernel) ⟨Nat.le_of_ble_eq_true rfl, Nat.le_of_ble_eq_true rfl⟩) rfl hl.1 rfl (Nat.le_of_ble_eq_true rfl) dX6_upShare_10 ⟨by decide, by decide⟩) (fun _ _ z => z) (fun v_10 u_10 H locs hpo h => ?_)
  obtain ⟨rfl, rfl⟩ := hpo
  refine lv_i2f hx hy dX6_upShare_13 ?_
  refine lv_aload_n hx hy dX6_upShare_14 rfl (lv_at hl 0 rfl) ?_
  refine g_f C h ((ha.1 c hc) 0 (by decide)) (lo_Cas hc) (celF_Cas hc) rfl in_X6_upShare_X0 0 (by decide) (by decide +kernel) (v := .int (nI (tcN M c))) (congrArg (fun z => some (Value.int z)) (show M (rCas c) 0 = (nI (tcN M c)) from (iv.1 c hc).1)) dX6_upShare_15 ?_
  refine lv_i2f hx hy dX6_upShare_18 ?_
  refine lv_fdiv hx hy dX6_upShare_19 (hnn c hc) ?_
  exact e_float C h dX6_upShare_20 (⟨by simp [kC, hi_c, hv_c, hc_c], by first | rfl | (simp only [hi_c, hv_c, hc_c]; done) | (simp only [hi_c, hv_c, hc_c]; rfl), by first | rfl | (simp only [hi_c, hv_c, hc_c]; done) | (simp only [hi_c, hv_c, hc_c]; rfl)⟩) (by decide) (by decide)

set_option maxRecDepth 20000 in
theorem in_X6_meanEntries_X0 : ∀ x ∈ wsX00, x ∈ wsX6_meanEntries := by decide +kernel
set_option maxRecDepth 100000 in
set_option maxHeartbeats 4000000 in
/-- X6_meanEntries -/
theorem c_X6_meanEntries (l : Launch) {G : va_G} {V : wV} {rs : List Nat} (hl9 : l.stackTraces = false) (ha : bA rs) (M R : wM) (o : wO) (iv : IV M) (ca : Int32) (hnn : ∀ c, c < 2 → vf_n64 (FP.ddiv (FP.i2d (hcN M c (szN M c))) (FP.i2d (nI (tcN M c))))) : CT l G V rs yX6_meanEntries wsX6_meanEntries 8 131 1 6 [.ref (V.1 rMain), .int ca] (M, R, o) (fun v u => kC ca = 0 ∧ v = some (.double (FP.ddiv (FP.i2d (hcN M (cI ca) (szN M (cI ca)))) (FP.i2d (nI (tcN M (cI ca)))))) ∧ u = (M, R, o)) (fun E u => XE [eIOE] (kC ca) E ∧ u = (M, R, o)) := by
  refine ct_of (cc := cX6_meanEntries) (maxL := 3) (ret := (some .double)) (by decide) rfl (Nat.le_of_ble_eq_true rfl) ?_
  intro p e s m below meth cd ls C h X hT hl
  have hx := C.1
  have hy := C.2.1
  have hl : lv_has ls 3 [(0, .ref (V.1 rMain)), (1, .int ca)] := hl
  have hsc := iv.2.1.2
  have htn := iv.2.2.1.2
  refine lv_aload_n hx hy dX6_meanEntries_0 rfl (lv_at hl 0 rfl) ?_
  refine lv_iload_n hx hy dX6_meanEntries_1 rfl (lv_at hl 1 rfl) ?_
  refine n_go C h hT (n_V (As := [.int ca]) (rest := []) C h X (ha.2 60 (by decide) (by decide)) (lo_Main.trans (celF_Main _)) rfl (c_X6_castleAt l hl9 ha M R o ca) (cwV 1 C.2.2.2.2.1 gX6_meanEntries_X6_castleAt rfl rfl rfl (by decide +kernel) ⟨Nat.le_of_ble_eq_true rfl, Nat.le_of_ble_eq_true rfl⟩) rfl hl.1 rfl (Nat.le_of_ble_eq_true rfl) dX6_meanEntries_2 ⟨by decide, by decide⟩) (fun E u hE => ⟨XE_of (k := 1) (by simp [kTow, kEnt, kVote, kBuild, kWait, kCut, vG3, kLease, kGive, kG3, kOpen, kCL, kC, kOrd, kHas, kScout, kRead, kRaid, kTruce, vP3, kPrep, kDec, kSet, kTC, hE.2.1]) (by decide) (by rw [hE.1]; rfl), hE.2.2⟩) (by decide) (by decide) (fun v_2 u_2 H locs hpo h => ?_)
  obtain ⟨rfl, c, hc, rfl, rfl⟩ := hpo
  have hv_c : vIn (nI c) 2 = true := vIn_nI hc (by decide)
  have hi_c : cI (nI c) = c := cI_nI hc (by decide)
  have hc_c : vC (nI c) = true := hv_c
  refine lv_astore_n (lv' := [(2, .ref (V.1 (rCas c))), (0, .ref (V.1 rMain)), (1, .int (nI c))]) hx hy dX6_meanEntries_5 rfl hl (by decide) rfl (fun ls hl => ?_)
  refine lv_aload_n hx hy dX6_meanEntries_6 rfl (lv_at hl 0 rfl) ?_
  refine g_f C h ((ha.1 c hc) 0 (by decide)) (lo_Cas hc) (celF_Cas hc) rfl in_X6_meanEntries_X0 7 (by decide) (by decide +kernel) (v := .ref (V.1 (rRow c))) rfl dX6_meanEntries_7 ?_
  refine n_go0 C h (n_V (As := []) (rest := []) C h X ((ha.1 c hc) 16 (by decide)) ((lo_Row hc).trans ((celF_Row hc) _)) rfl (c_X3_heldCount l c hc (ha.1 c hc) M R o (szN M c) (iv.1 c hc).2.2.2.1 (iv.1 c hc).2.2.1 ) (cwV 0 C.2.2.2.2.1 gX6_meanEntries_X3_heldCount rfl rfl rfl (by decide +kernel) ⟨Nat.le_of_ble_eq_true rfl, Nat.le_of_ble_eq_true rfl⟩) rfl hl.1 rfl (Nat.le_of_ble_eq_true rfl) dX6_meanEntries_10 ⟨by decide, by decide⟩) (fun _ _ z => z) (fun v_10 u_10 H locs hpo h => ?_)
  obtain ⟨rfl, rfl⟩ := hpo
  refine lv_i2d hx hy dX6_meanEntries_13 ?_
  refine lv_aload_n hx hy dX6_meanEntries_14 rfl (lv_at hl 0 rfl) ?_
  refine g_f C h ((ha.1 c hc) 0 (by decide)) (lo_Cas hc) (celF_Cas hc) rfl in_X6_meanEntries_X0 0 (by decide) (by decide +kernel) (v := .int (nI (tcN M c))) (congrArg (fun z => some (Value.int z)) (show M (rCas c) 0 = (nI (tcN M c)) from (iv.1 c hc).1)) dX6_meanEntries_15 ?_
  refine lv_i2d hx hy dX6_meanEntries_18 ?_
  refine lv_ddiv hx hy dX6_meanEntries_19 (hnn c hc) ?_
  exact e_double C h dX6_meanEntries_20 (⟨by simp [kC, hi_c, hv_c, hc_c], by first | rfl | (simp only [hi_c, hv_c, hc_c]; done) | (simp only [hi_c, hv_c, hc_c]; rfl), by first | rfl | (simp only [hi_c, hv_c, hc_c]; done) | (simp only [hi_c, hv_c, hc_c]; rfl)⟩) (by decide) (by decide)

