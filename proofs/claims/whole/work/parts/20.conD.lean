set_option maxRecDepth 20000 in
theorem at_X6_build_29 : ∀ w ∈ (vx_atS RX6 51 "java/lang/IllegalArgumentException" ["java/lang/RuntimeException", "java/lang/Exception"]).filter goodWord, w ∈ wsX6_build := by decide +kernel
set_option maxRecDepth 20000 in
theorem in_X6_build_X0 : ∀ x ∈ wsX00, x ∈ wsX6_build := by decide +kernel
set_option maxRecDepth 20000 in
theorem in_X6_build_X3 : ∀ x ∈ wsX30, x ∈ wsX6_build := by decide +kernel
set_option maxRecDepth 20000 in
theorem at_X6_build_47 : ∀ w ∈ (vx_atS RX6 62 "java/lang/UnsupportedOperationException" ["java/lang/RuntimeException", "java/lang/Exception"]).filter goodWord, w ∈ wsX6_build := by decide +kernel
set_option maxRecDepth 100000 in
set_option maxHeartbeats 4000000 in
/-- X6_build -/
theorem c_X6_build (l : Launch) {G : va_G} {V : wV} {rs : List Nat} (hl9 : l.stackTraces = false) (ha : bA rs) (M R : wM) (o : wO) (iv : IV M) (ca tw gd : Int32) : CT l G V rs yX6_build wsX6_build 8 131 2 12 [.ref (V.1 rMain), .int ca, .int tw, .int gd] (M, R, o) (fun v u => kBuild M ca tw gd = 0 ∧ v = some (.int (nI (szN M (cI ca)))) ∧ u = (cRaise M (cI ca) tw gd, R, o)) (fun E u => XE [eIOE, eIAE, eUOE] (kBuild M ca tw gd) E ∧ u = (M, R, o)) := by
  refine ct_of (cc := cX6_build) (maxL := 6) (ret := (some .int)) (by decide) rfl (Nat.le_of_ble_eq_true rfl) ?_
  intro p e s m below meth cd ls C h X hT hl
  have hx := C.1
  have hy := C.2.1
  have hl : lv_has ls 6 [(0, .ref (V.1 rMain)), (1, .int ca), (2, .int tw), (3, .int gd)] := hl
  have hsc := iv.2.1.2
  have htn := iv.2.2.1.2
  refine lv_aload_n hx hy dX6_build_0 rfl (lv_at hl 0 rfl) ?_
  refine lv_iload_n hx hy dX6_build_1 rfl (lv_at hl 1 rfl) ?_
  refine n_go C h hT (n_V (As := [.int ca]) (rest := []) C h X (ha.2 60 (by decide) (by decide)) (lo_Main.trans (celF_Main _)) rfl (c_X6_castleAt l hl9 ha M R o ca) (cwV 1 C.2.2.2.2.1 gX6_build_X6_castleAt rfl rfl rfl (by decide +kernel) ⟨Nat.le_of_ble_eq_true rfl, Nat.le_of_ble_eq_true rfl⟩) rfl hl.1 rfl (Nat.le_of_ble_eq_true rfl) dX6_build_2 ⟨by decide, by decide⟩) (fun E u hE => ⟨XE_of (k := 1) (by simp [kTow, kEnt, kVote, kBuild, kWait, kCut, vG3, kLease, kGive, kG3, kOpen, kCL, kC, kOrd, kHas, kScout, kRead, kRaid, kTruce, vP3, kPrep, kDec, kSet, kTC, hE.2.1]) (by decide) (by rw [hE.1]; rfl), hE.2.2⟩) (by decide) (by decide) (fun v_2 u_2 H locs hpo h => ?_)
  obtain ⟨rfl, c, hc, rfl, rfl⟩ := hpo
  have hv_c : vIn (nI c) 2 = true := vIn_nI hc (by decide)
  have hi_c : cI (nI c) = c := cI_nI hc (by decide)
  have hc_c : vC (nI c) = true := hv_c
  refine lv_astore (lv' := [(4, .ref (V.1 (rCas c))), (0, .ref (V.1 rMain)), (1, .int (nI c)), (2, .int tw), (3, .int gd)]) hx hy dX6_build_5 hl (by decide) rfl (fun ls hl => ?_)
  refine lv_iload_n hx hy dX6_build_7 rfl (lv_at hl 3 rfl) ?_
  refine lv_iconst (v := (nI 1)) hx hy dX6_build_8 (by decide) ?_
  refine i_lt hx hy (tgt := 29) dX6_build_9 (by decide) (fun c_9 => ?_) (fun c_9 => ?_)
  · skip
    exact t_narrow (ic := 51) (ik := 47) (is := 49) (cls := "java/lang/IllegalArgumentException") (text := tx_49) C h X hT hl9 (by decide) (by decide) (by decide) hl.1 (by decide +kernel) (by decide +kernel) at_X6_build_29 bad_IAE good_IAE_47 dX6_build_29 dX6_build_32 dX6_build_33 dX6_build_35 dX6_build_38 (by decide) (by decide) (by decide) (by decide) (by decide) (by decide) (⟨XE_of (k := 2) (by simp [kBuild, vB, hi_c, hv_c, hc_c, eq_true c_9, eq_false (Int32.not_le.mpr c_9)]) (by decide) rfl, rfl⟩)
  · skip
    refine lv_iload_n hx hy dX6_build_12 rfl (lv_at hl 3 rfl) ?_
    refine lv_bipush (v := (nI 7)) hx hy dX6_build_13 (by decide) ?_
    refine i_gt hx hy (tgt := 29) dX6_build_15 (by decide) (fun c_15 => ?_) (fun c_15 => ?_)
    · skip
      exact t_narrow (ic := 51) (ik := 47) (is := 49) (cls := "java/lang/IllegalArgumentException") (text := tx_49) C h X hT hl9 (by decide) (by decide) (by decide) hl.1 (by decide +kernel) (by decide +kernel) at_X6_build_29 bad_IAE good_IAE_47 dX6_build_29 dX6_build_32 dX6_build_33 dX6_build_35 dX6_build_38 (by decide) (by decide) (by decide) (by decide) (by decide) (by decide) (⟨XE_of (k := 2) (by simp [kBuild, vB, hi_c, hv_c, hc_c, eq_true c_9, eq_false (Int32.not_lt.mpr c_9), eq_true c_15, eq_false (Int32.not_le.mpr c_15)]) (by decide) rfl, rfl⟩)
    · skip
      refine lv_iload_n hx hy dX6_build_18 rfl (lv_at hl 4 rfl) ?_
      refine z_lt hx hy (tgt := 29) dX6_build_19 (by decide) (fun c_19 => ?_) (fun c_19 => ?_)
      · skip
        exact t_narrow (ic := 51) (ik := 47) (is := 49) (cls := "java/lang/IllegalArgumentException") (text := tx_49) C h X hT hl9 (by decide) (by decide) (by decide) hl.1 (by decide +kernel) (by decide +kernel) at_X6_build_29 bad_IAE good_IAE_47 dX6_build_29 dX6_build_32 dX6_build_33 dX6_build_35 dX6_build_38 (by decide) (by decide) (by decide) (by decide) (by decide) (by decide) (⟨XE_of (k := 2) (by simp [kBuild, vB, hi_c, hv_c, hc_c, eq_true c_9, eq_false (Int32.not_lt.mpr c_9), eq_true c_15, eq_false (Int32.not_lt.mpr c_15), eq_true c_19, eq_false (Int32.not_le.mpr c_19)]) (by decide) rfl, rfl⟩)
      · skip
        refine lv_iload_n hx hy dX6_build_22 rfl (lv_at hl 4 rfl) ?_
        refine lv_sipush (v := (nI 9999)) hx hy dX6_build_23 (by decide) ?_
        refine i_le hx hy (tgt := 39) dX6_build_26 (by decide) (fun c_26 => ?_) (fun c_26 => ?_)
        · skip
          refine lv_aload_n hx hy dX6_build_39 rfl (lv_at hl 1 rfl) ?_
          refine lv_iload_n hx hy dX6_build_40 rfl (lv_at hl 2 rfl) ?_
          refine n_go0 C h (n_V (As := [.int (nI c)]) (rest := []) C h X (ha.2 60 (by decide) (by decide)) (lo_Main.trans (celF_Main _)) rfl (c_X6_openTruceAt l hl9 ha M R o iv c hc) (cwV 1 C.2.2.2.2.1 gX6_build_X6_openTruceAt rfl rfl rfl (by decide +kernel) ⟨Nat.le_of_ble_eq_true rfl, Nat.le_of_ble_eq_true rfl⟩) rfl hl.1 rfl (Nat.le_of_ble_eq_true rfl) dX6_build_41 ⟨by decide, by decide⟩) (fun _ _ z => z) (fun v_41 u_41 H locs hpo h => ?_)
          obtain ⟨rfl, rfl⟩ := hpo
          refine z_lt hx hy (tgt := 57) dX6_build_44 (by decide) (fun c_44 => ?_) (fun c_44 => ?_)
          · skip
            refine lv_aload hx hy dX6_build_57 (lv_at hl 0 rfl) ?_
            refine g_f C h ((ha.1 c hc) 0 (by decide)) (lo_Cas hc) (celF_Cas hc) rfl in_X6_build_X0 7 (by decide) (by decide +kernel) (v := .ref (V.1 (rRow c))) rfl dX6_build_59 ?_
            refine g_f C h ((ha.1 c hc) 16 (by decide)) (lo_Row hc) (celF_Row hc) rfl in_X6_build_X3 0 (by decide) (by decide +kernel) (v := .int (nI (szN M c))) (congrArg (fun z => some (Value.int z)) (show M (rRow c) 0 = (nI (szN M c)) from (iv.1 c hc).2.2.1)) dX6_build_62 ?_
            refine lv_istore (lv' := [(5, .int (nI (szN M c))), (4, .ref (V.1 (rCas c))), (0, .ref (V.1 rMain)), (1, .int (nI c)), (2, .int tw), (3, .int gd)]) hx hy dX6_build_65 hl (by decide) rfl (fun ls hl => ?_)
            refine lv_aload hx hy dX6_build_67 (lv_at hl 1 rfl) ?_
            refine lv_iload_n hx hy dX6_build_69 rfl (lv_at hl 4 rfl) ?_
            refine lv_iload_n hx hy dX6_build_70 rfl (lv_at hl 5 rfl) ?_
            refine n_go0 C h (n_V (As := [.int tw, .int gd]) (rest := []) C h X ((ha.1 c hc) 0 (by decide)) ((lo_Cas hc).trans ((celF_Cas hc) _)) rfl (c_X0_raiseWalls l c hc (ha.1 c hc) M R o tw gd) (cwV 2 C.2.2.2.2.1 gX6_build_X0_raiseWalls rfl rfl rfl (by decide +kernel) ⟨Nat.le_of_ble_eq_true rfl, Nat.le_of_ble_eq_true rfl⟩) rfl hl.1 rfl (Nat.le_of_ble_eq_true rfl) dX6_build_71 ⟨by decide, by decide⟩) (fun _ _ z => z) (fun v_71 u_71 H locs hpo h => ?_)
            obtain ⟨rfl, rfl⟩ := hpo
            refine lv_iload hx hy dX6_build_74 (lv_at hl 0 rfl) ?_
            exact e_int C h rfl dX6_build_76 (⟨by simp [kBuild, vB, hi_c, hv_c, hc_c, eq_true c_9, eq_false (Int32.not_lt.mpr c_9), eq_true c_15, eq_false (Int32.not_lt.mpr c_15), eq_true c_19, eq_false (Int32.not_lt.mpr c_19), eq_true c_26, eq_false (Int32.not_lt.mpr c_26), eq_true c_44, eq_false (Int32.not_le.mpr c_44)], by first | rfl | (simp only [hi_c, hv_c, hc_c]; done) | (simp only [hi_c, hv_c, hc_c]; rfl), by first | rfl | (simp only [hi_c, hv_c, hc_c]; done) | (simp only [hi_c, hv_c, hc_c]; rfl)⟩) (by decide) (by decide)
          · skip
            exact t_narrow (ic := 62) (ik := 58) (is := 60) (cls := "java/lang/UnsupportedOperationException") (text := tx_60) C h X hT hl9 (by decide) (by decide) (by decide) hl.1 (by decide +kernel) (by decide +kernel) at_X6_build_47 bad_UOE good_UOE_58 dX6_build_47 dX6_build_50 dX6_build_51 dX6_build_53 dX6_build_56 (by decide) (by decide) (by decide) (by decide) (by decide) (by decide) (⟨XE_of (k := 3) (by simp [kBuild, vB, hi_c, hv_c, hc_c, eq_true c_9, eq_false (Int32.not_lt.mpr c_9), eq_true c_15, eq_false (Int32.not_lt.mpr c_15), eq_true c_19, eq_false (Int32.not_lt.mpr c_19), eq_true c_26, eq_false (Int32.not_lt.mpr c_26), eq_true c_44, eq_false (Int32.not_lt.mpr c_44)]) (by decide) rfl, rfl⟩)
        · skip
          exact t_narrow (ic := 51) (ik := 47) (is := 49) (cls := "java/lang/IllegalArgumentException") (text := tx_49) C h X hT hl9 (by decide) (by decide) (by decide) hl.1 (by decide +kernel) (by decide +kernel) at_X6_build_29 bad_IAE good_IAE_47 dX6_build_29 dX6_build_32 dX6_build_33 dX6_build_35 dX6_build_38 (by decide) (by decide) (by decide) (by decide) (by decide) (by decide) (⟨XE_of (k := 2) (by simp [kBuild, vB, hi_c, hv_c, hc_c, eq_true c_9, eq_false (Int32.not_lt.mpr c_9), eq_true c_15, eq_false (Int32.not_lt.mpr c_15), eq_true c_19, eq_false (Int32.not_lt.mpr c_19), eq_true c_26, eq_false (Int32.not_le.mpr c_26)]) (by decide) rfl, rfl⟩)

set_option maxRecDepth 20000 in
theorem at_X6_wait_11 : ∀ w ∈ (vx_atS RX6 51 "java/lang/IllegalArgumentException" ["java/lang/RuntimeException", "java/lang/Exception"]).filter goodWord, w ∈ wsX6_wait := by decide +kernel
set_option maxRecDepth 20000 in
theorem in_X6_wait_X6 : ∀ x ∈ wsX60, x ∈ wsX6_wait := by decide +kernel
set_option maxRecDepth 100000 in
set_option maxHeartbeats 4000000 in
/-- X6_wait -/
theorem c_X6_wait (l : Launch) {G : va_G} {V : wV} {rs : List Nat} (hl9 : l.stackTraces = false) (ha : bA rs) (M R : wM) (o : wO) (iv : IV M) (ti : Int32) : CT l G V rs yX6_wait wsX6_wait 6 90 1 6 [.ref (V.1 rMain), .int ti] (M, R, o) (fun v u => kWait ti = 0 ∧ v = some (.int (nowM M + ti)) ∧ u = (wr M rMain 7 (nowM M + ti), R, o)) (fun E u => XE [eIAE] (kWait ti) E ∧ u = (M, R, o)) := by
  refine ct_of (cc := cX6_wait) (maxL := 2) (ret := (some .int)) (by decide) rfl (Nat.le_of_ble_eq_true rfl) ?_
  intro p e s m below meth cd ls C h X hT hl
  have hx := C.1
  have hy := C.2.1
  have hl : lv_has ls 2 [(0, .ref (V.1 rMain)), (1, .int ti)] := hl
  have hsc := iv.2.1.2
  have htn := iv.2.2.1.2
  refine lv_iload_n hx hy dX6_wait_0 rfl (lv_at hl 1 rfl) ?_
  refine lv_iconst (v := (nI 1)) hx hy dX6_wait_1 (by decide) ?_
  refine i_lt hx hy (tgt := 11) dX6_wait_2 (by decide) (fun c_2 => ?_) (fun c_2 => ?_)
  · skip
    exact t_narrow (ic := 51) (ik := 47) (is := 73) (cls := "java/lang/IllegalArgumentException") (text := tx_73) C h X hT hl9 (by decide) (by decide) (by decide) hl.1 (by decide +kernel) (by decide +kernel) at_X6_wait_11 bad_IAE good_IAE_47 dX6_wait_11 dX6_wait_14 dX6_wait_15 dX6_wait_17 dX6_wait_20 (by decide) (by decide) (by decide) (by decide) (by decide) (by decide) (⟨XE_of (k := 1) (by simp [kWait, vW, eq_true c_2, eq_false (Int32.not_le.mpr c_2)]) (by decide) rfl, rfl⟩)
  · skip
    refine lv_iload_n hx hy dX6_wait_5 rfl (lv_at hl 1 rfl) ?_
    refine lv_bipush (v := (nI 100)) hx hy dX6_wait_6 (by decide) ?_
    refine i_le hx hy (tgt := 21) dX6_wait_8 (by decide) (fun c_8 => ?_) (fun c_8 => ?_)
    · skip
      refine lv_aload_n hx hy dX6_wait_21 rfl (lv_at hl 0 rfl) ?_
      refine lv_dup hx hy dX6_wait_22 rfl ?_
      refine g_f C h (ha.2 60 (by decide) (by decide)) lo_Main celF_Main rfl in_X6_wait_X6 7 (by decide) (by decide +kernel) (v := .int (M rMain 7)) rfl dX6_wait_23 ?_
      refine lv_iload_n hx hy dX6_wait_26 rfl (lv_at hl 1 rfl) ?_
      refine lv_iadd hx hy dX6_wait_27 ?_
      refine p_f C h (ha.2 60 (by decide) (by decide)) lt_Main celF_Main rfl in_X6_wait_X6 tyX6_ok nmX6 7 (by decide) (by decide +kernel) rfl (v := .int ((M rMain 7) + ti)) (x := ((M rMain 7) + ti)) rfl rfl (fun _ => Nat.le_of_ble_eq_true rfl) (fun _ => rfl) dX6_wait_28 (fun H locs h => ?_)
      refine lv_aload_n hx hy dX6_wait_31 rfl (lv_at hl 0 rfl) ?_
      refine g_f C h (ha.2 60 (by decide) (by decide)) lo_Main celF_Main rfl in_X6_wait_X6 7 (by decide) (by decide +kernel) (v := .int ((M rMain 7) + ti)) (congrArg (fun z => some (Value.int z)) (show (wr M rMain 7 ((M rMain 7) + ti)) rMain 7 = ((M rMain 7) + ti) from (wr_same _ _ _ _))) dX6_wait_32 ?_
      exact e_int C h rfl dX6_wait_35 (⟨by simp [kWait, vW, eq_true c_2, eq_false (Int32.not_lt.mpr c_2), eq_true c_8, eq_false (Int32.not_lt.mpr c_8)], by first | rfl | (simp only []; done) | (simp only []; rfl), by first | rfl | (simp only []; done) | (simp only []; rfl)⟩) (by decide) (by decide)
    · skip
      exact t_narrow (ic := 51) (ik := 47) (is := 73) (cls := "java/lang/IllegalArgumentException") (text := tx_73) C h X hT hl9 (by decide) (by decide) (by decide) hl.1 (by decide +kernel) (by decide +kernel) at_X6_wait_11 bad_IAE good_IAE_47 dX6_wait_11 dX6_wait_14 dX6_wait_15 dX6_wait_17 dX6_wait_20 (by decide) (by decide) (by decide) (by decide) (by decide) (by decide) (⟨XE_of (k := 1) (by simp [kWait, vW, eq_true c_2, eq_false (Int32.not_lt.mpr c_2), eq_true c_8, eq_false (Int32.not_le.mpr c_8)]) (by decide) rfl, rfl⟩)

set_option maxRecDepth 100000 in
set_option maxHeartbeats 4000000 in
/-- X6_fall -/
theorem c_X6_fall (l : Launch) {G : va_G} {V : wV} {rs : List Nat} (hl9 : l.stackTraces = false) (ha : bA rs) (M R : wM) (o : wO) (iv : IV M) (ca to : Int32) : CT l G V rs yX6_fall wsX6_fall 8 131 2 12 [.ref (V.1 rMain), .int ca, .int to] (M, R, o) (fun v u => kTow M ca to = 0 ∧ v = some (.int (b2i (hasB (M (rCas (cI ca)) 3) (cI to)))) ∧ u = (dnN M (cI ca) (cI to) 3, R, o)) (fun E u => XE [eIOE] (kTow M ca to) E ∧ u = (M, R, o)) := by
  refine ct_of (cc := cX6_fall) (maxL := 5) (ret := (some .boolean)) (by decide) rfl (Nat.le_of_ble_eq_true rfl) ?_
  intro p e s m below meth cd ls C h X hT hl
  have hx := C.1
  have hy := C.2.1
  have hl : lv_has ls 5 [(0, .ref (V.1 rMain)), (1, .int ca), (2, .int to)] := hl
  have hsc := iv.2.1.2
  have htn := iv.2.2.1.2
  refine lv_aload_n hx hy dX6_fall_0 rfl (lv_at hl 0 rfl) ?_
  refine lv_iload_n hx hy dX6_fall_1 rfl (lv_at hl 1 rfl) ?_
  refine n_go C h hT (n_V (As := [.int ca]) (rest := []) C h X (ha.2 60 (by decide) (by decide)) (lo_Main.trans (celF_Main _)) rfl (c_X6_castleAt l hl9 ha M R o ca) (cwV 1 C.2.2.2.2.1 gX6_fall_X6_castleAt rfl rfl rfl (by decide +kernel) ⟨Nat.le_of_ble_eq_true rfl, Nat.le_of_ble_eq_true rfl⟩) rfl hl.1 rfl (Nat.le_of_ble_eq_true rfl) dX6_fall_2 ⟨by decide, by decide⟩) (fun E u hE => ⟨XE_of (k := 1) (by simp [kTow, kEnt, kVote, kBuild, kWait, kCut, vG3, kLease, kGive, kG3, kOpen, kCL, kC, kOrd, kHas, kScout, kRead, kRaid, kTruce, vP3, kPrep, kDec, kSet, kTC, hE.2.1]) (by decide) (by rw [hE.1]; rfl), hE.2.2⟩) (by decide) (by decide) (fun v_2 u_2 H locs hpo h => ?_)
  obtain ⟨rfl, c, hc, rfl, rfl⟩ := hpo
  have hv_c : vIn (nI c) 2 = true := vIn_nI hc (by decide)
  have hi_c : cI (nI c) = c := cI_nI hc (by decide)
  have hc_c : vC (nI c) = true := hv_c
  refine lv_astore_n (lv' := [(3, .ref (V.1 (rCas c))), (0, .ref (V.1 rMain)), (1, .int (nI c)), (2, .int to)]) hx hy dX6_fall_5 rfl hl (by decide) rfl (fun ls hl => ?_)
  refine lv_aload_n hx hy dX6_fall_6 rfl (lv_at hl 0 rfl) ?_
  refine lv_iload_n hx hy dX6_fall_7 rfl (lv_at hl 3 rfl) ?_
  refine n_go C h hT (n_S (As := [.ref (V.1 (rCas c)), .int to]) (rest := []) C h X (c_X6_requireTower l hl9 c hc (ha.1 c hc) M R o (tcN M c) (iv.1 c hc).2.1 (iv.1 c hc).1 to) (va_cwS 2 C.2.2.2.2.1 gX6_fall_X6_requireTower rfl rfl rfl (by decide +kernel) ⟨Nat.le_of_ble_eq_true rfl, Nat.le_of_ble_eq_true rfl⟩) rfl hl.1 rfl (Nat.le_of_ble_eq_true rfl) dX6_fall_8 ⟨by decide, by decide⟩) (fun E u hE => ⟨XE_of (k := 1) (by simp [kTow, kEnt, kVote, kBuild, kWait, kCut, vG3, kLease, kGive, kG3, kOpen, kCL, kC, kOrd, kHas, kScout, kRead, kRaid, kTruce, vP3, kPrep, kDec, kSet, kTC, hE.2.1, hi_c, hv_c, hc_c]) (by decide) (by rw [hE.1]; rfl), hE.2.2⟩) (by decide) (by decide) (fun v_8 u_8 H locs hpo h => ?_)
  have htc7 := (iv.1 c hc).2.1
  obtain ⟨rfl, rfl, t, ht, rfl⟩ := hpo
  have hv_t : vIn (nI t) (tcN M c) = true := vIn_nI ht (by omega)
  have hi_t : cI (nI t) = t := cI_nI ht (by omega)
  have ht7 : t < 7 := by omega
  refine lv_aload_n hx hy dX6_fall_11 rfl (lv_at hl 0 rfl) ?_
  refine lv_iload_n hx hy dX6_fall_12 rfl (lv_at hl 3 rfl) ?_
  refine n_go0 C h (n_V (As := [.int (nI t)]) (rest := []) C h X ((ha.1 c hc) 0 (by decide)) ((lo_Cas hc).trans ((celF_Cas hc) _)) rfl (c_X0_isUp l c hc (ha.1 c hc) M R o t ht7) (cwV 1 C.2.2.2.2.1 gX6_fall_X0_isUp rfl rfl rfl (by decide +kernel) ⟨Nat.le_of_ble_eq_true rfl, Nat.le_of_ble_eq_true rfl⟩) rfl hl.1 rfl (Nat.le_of_ble_eq_true rfl) dX6_fall_13 ⟨by decide, by decide⟩) (fun _ _ z => z) (fun v_13 u_13 H locs hpo h => ?_)
  obtain ⟨rfl, rfl⟩ := hpo
  refine lv_istore (lv' := [(4, .int (b2i (hasB (M (rCas c) 3) t))), (3, .ref (V.1 (rCas c))), (0, .ref (V.1 rMain)), (1, .int (nI c)), (2, .int (nI t))]) hx hy dX6_fall_16 hl (by decide) rfl (fun ls hl => ?_)
  refine lv_aload_n hx hy dX6_fall_18 rfl (lv_at hl 1 rfl) ?_
  refine lv_iload_n hx hy dX6_fall_19 rfl (lv_at hl 4 rfl) ?_
  refine n_go0 C h (n_V (As := [.int (nI t)]) (rest := []) C h X ((ha.1 c hc) 0 (by decide)) ((lo_Cas hc).trans ((celF_Cas hc) _)) rfl (c_X0_bringDown l c hc (ha.1 c hc) M R o t ht7) (cwV 1 C.2.2.2.2.1 gX6_fall_X0_bringDown rfl rfl rfl (by decide +kernel) ⟨Nat.le_of_ble_eq_true rfl, Nat.le_of_ble_eq_true rfl⟩) rfl hl.1 rfl (Nat.le_of_ble_eq_true rfl) dX6_fall_20 ⟨by decide, by decide⟩) (fun _ _ z => z) (fun v_20 u_20 H locs hpo h => ?_)
  obtain ⟨rfl, rfl⟩ := hpo
  refine lv_iload hx hy dX6_fall_23 (lv_at hl 0 rfl) ?_
  exact e_int C h (b2i_nar _) dX6_fall_25 (⟨by simp [kTow, hi_c, hv_c, hc_c, hi_t, hv_t], by first | rfl | (simp only [hi_c, hv_c, hc_c, hi_t, hv_t]; done) | (simp only [hi_c, hv_c, hc_c, hi_t, hv_t]; rfl), by first | rfl | (simp only [hi_c, hv_c, hc_c, hi_t, hv_t]; done) | (simp only [hi_c, hv_c, hc_c, hi_t, hv_t]; rfl)⟩) (by decide) (by decide)

set_option maxRecDepth 20000 in
theorem in_X6_burn_X0 : ∀ x ∈ wsX00, x ∈ wsX6_burn := by decide +kernel
set_option maxRecDepth 100000 in
set_option maxHeartbeats 4000000 in
/-- X6_burn -/
theorem c_X6_burn (l : Launch) {G : va_G} {V : wV} {rs : List Nat} (hl9 : l.stackTraces = false) (ha : bA rs) (M R : wM) (o : wO) (iv : IV M) (ca to : Int32) : CT l G V rs yX6_burn wsX6_burn 8 131 2 12 [.ref (V.1 rMain), .int ca, .int to] (M, R, o) (fun v u => kTow M ca to = 0 ∧ v = some (.int (nI (drC (dnN M (cI ca) (cI to) 3) (cI ca) (cI to) (szN M (cI ca))))) ∧ u = (drN (dnN M (cI ca) (cI to) 3) (cI ca) (cI to) (szN M (cI ca)), R, o)) (fun E u => XE [eIOE] (kTow M ca to) E ∧ u = (M, R, o)) := by
  refine ct_of (cc := cX6_burn) (maxL := 4) (ret := (some .int)) (by decide) rfl (Nat.le_of_ble_eq_true rfl) ?_
  intro p e s m below meth cd ls C h X hT hl
  have hx := C.1
  have hy := C.2.1
  have hl : lv_has ls 4 [(0, .ref (V.1 rMain)), (1, .int ca), (2, .int to)] := hl
  have hsc := iv.2.1.2
  have htn := iv.2.2.1.2
  refine lv_aload_n hx hy dX6_burn_0 rfl (lv_at hl 0 rfl) ?_
  refine lv_iload_n hx hy dX6_burn_1 rfl (lv_at hl 1 rfl) ?_
  refine n_go C h hT (n_V (As := [.int ca]) (rest := []) C h X (ha.2 60 (by decide) (by decide)) (lo_Main.trans (celF_Main _)) rfl (c_X6_castleAt l hl9 ha M R o ca) (cwV 1 C.2.2.2.2.1 gX6_burn_X6_castleAt rfl rfl rfl (by decide +kernel) ⟨Nat.le_of_ble_eq_true rfl, Nat.le_of_ble_eq_true rfl⟩) rfl hl.1 rfl (Nat.le_of_ble_eq_true rfl) dX6_burn_2 ⟨by decide, by decide⟩) (fun E u hE => ⟨XE_of (k := 1) (by simp [kTow, kEnt, kVote, kBuild, kWait, kCut, vG3, kLease, kGive, kG3, kOpen, kCL, kC, kOrd, kHas, kScout, kRead, kRaid, kTruce, vP3, kPrep, kDec, kSet, kTC, hE.2.1]) (by decide) (by rw [hE.1]; rfl), hE.2.2⟩) (by decide) (by decide) (fun v_2 u_2 H locs hpo h => ?_)
  obtain ⟨rfl, c, hc, rfl, rfl⟩ := hpo
  have hv_c : vIn (nI c) 2 = true := vIn_nI hc (by decide)
  have hi_c : cI (nI c) = c := cI_nI hc (by decide)
  have hc_c : vC (nI c) = true := hv_c
  refine lv_astore_n (lv' := [(3, .ref (V.1 (rCas c))), (0, .ref (V.1 rMain)), (1, .int (nI c)), (2, .int to)]) hx hy dX6_burn_5 rfl hl (by decide) rfl (fun ls hl => ?_)
  refine lv_aload_n hx hy dX6_burn_6 rfl (lv_at hl 0 rfl) ?_
  refine lv_iload_n hx hy dX6_burn_7 rfl (lv_at hl 3 rfl) ?_
  refine n_go C h hT (n_S (As := [.ref (V.1 (rCas c)), .int to]) (rest := []) C h X (c_X6_requireTower l hl9 c hc (ha.1 c hc) M R o (tcN M c) (iv.1 c hc).2.1 (iv.1 c hc).1 to) (va_cwS 2 C.2.2.2.2.1 gX6_burn_X6_requireTower rfl rfl rfl (by decide +kernel) ⟨Nat.le_of_ble_eq_true rfl, Nat.le_of_ble_eq_true rfl⟩) rfl hl.1 rfl (Nat.le_of_ble_eq_true rfl) dX6_burn_8 ⟨by decide, by decide⟩) (fun E u hE => ⟨XE_of (k := 1) (by simp [kTow, kEnt, kVote, kBuild, kWait, kCut, vG3, kLease, kGive, kG3, kOpen, kCL, kC, kOrd, kHas, kScout, kRead, kRaid, kTruce, vP3, kPrep, kDec, kSet, kTC, hE.2.1, hi_c, hv_c, hc_c]) (by decide) (by rw [hE.1]; rfl), hE.2.2⟩) (by decide) (by decide) (fun v_8 u_8 H locs hpo h => ?_)
  have htc7 := (iv.1 c hc).2.1
  obtain ⟨rfl, rfl, t, ht, rfl⟩ := hpo
  have hv_t : vIn (nI t) (tcN M c) = true := vIn_nI ht (by omega)
  have hi_t : cI (nI t) = t := cI_nI ht (by omega)
  have ht7 : t < 7 := by omega
  refine lv_aload_n hx hy dX6_burn_11 rfl (lv_at hl 0 rfl) ?_
  refine lv_iload_n hx hy dX6_burn_12 rfl (lv_at hl 3 rfl) ?_
  refine n_go0 C h (n_V (As := [.int (nI t)]) (rest := []) C h X ((ha.1 c hc) 0 (by decide)) ((lo_Cas hc).trans ((celF_Cas hc) _)) rfl (c_X0_bringDown l c hc (ha.1 c hc) M R o t ht7) (cwV 1 C.2.2.2.2.1 gX6_burn_X0_bringDown rfl rfl rfl (by decide +kernel) ⟨Nat.le_of_ble_eq_true rfl, Nat.le_of_ble_eq_true rfl⟩) rfl hl.1 rfl (Nat.le_of_ble_eq_true rfl) dX6_burn_13 ⟨by decide, by decide⟩) (fun _ _ z => z) (fun v_13 u_13 H locs hpo h => ?_)
  obtain ⟨rfl, rfl⟩ := hpo
  refine lv_aload_n hx hy dX6_burn_16 rfl (lv_at hl 0 rfl) ?_
  refine g_f C h ((ha.1 c hc) 0 (by decide)) (lo_Cas hc) (celF_Cas hc) rfl in_X6_burn_X0 7 (by decide) (by decide +kernel) (v := .ref (V.1 (rRow c))) rfl dX6_burn_17 ?_
  refine lv_iload_n hx hy dX6_burn_20 rfl (lv_at hl 3 rfl) ?_
  refine n_go0 C h (n_V (As := [.int (nI t)]) (rest := []) C h X ((ha.1 c hc) 16 (by decide)) ((lo_Row hc).trans ((celF_Row hc) _)) rfl (c_X3_dropAllOf l c hc (ha.1 c hc) (dnN M c t 3) R o (szN M c) (iv.1 c hc).2.2.2.1 ((congrFun (dnN_row (Nat.le_refl 3)) 0).trans (iv.1 c hc).2.2.1) t ht7) (cwV 1 C.2.2.2.2.1 gX6_burn_X3_dropAllOf rfl rfl rfl (by decide +kernel) ⟨Nat.le_of_ble_eq_true rfl, Nat.le_of_ble_eq_true rfl⟩) rfl hl.1 rfl (Nat.le_of_ble_eq_true rfl) dX6_burn_21 ⟨by decide, by decide⟩) (fun _ _ z => z) (fun v_21 u_21 H locs hpo h => ?_)
  obtain ⟨rfl, rfl⟩ := hpo
  exact e_int C h rfl dX6_burn_24 (⟨by simp [kTow, hi_c, hv_c, hc_c, hi_t, hv_t], by first | rfl | (simp only [hi_c, hv_c, hc_c, hi_t, hv_t]; done) | (simp only [hi_c, hv_c, hc_c, hi_t, hv_t]; rfl), by first | rfl | (simp only [hi_c, hv_c, hc_c, hi_t, hv_t]; done) | (simp only [hi_c, hv_c, hc_c, hi_t, hv_t]; rfl)⟩) (by decide) (by decide)

set_option maxRecDepth 20000 in
theorem in_X6_rise_X6 : ∀ x ∈ wsX60, x ∈ wsX6_rise := by decide +kernel
set_option maxRecDepth 100000 in
set_option maxHeartbeats 4000000 in
/-- X6_rise -/
theorem c_X6_rise (l : Launch) {G : va_G} {V : wV} {rs : List Nat} (hl9 : l.stackTraces = false) (ha : bA rs) (M R : wM) (o : wO) (iv : IV M) (ca to : Int32) : CT l G V rs yX6_rise wsX6_rise 8 131 2 12 [.ref (V.1 rMain), .int ca, .int to] (M, R, o) (fun v u => kTow M ca to = 0 ∧ v = some (.int (b2i (!hasB (M (rCas (cI ca)) 3) (cI to)))) ∧ u = ((if hasB (M (rCas (cI ca)) 3) (cI to) = true then M else cUp M (cI ca) (cI to) (nowM M + nI 20)), R, o)) (fun E u => XE [eIOE] (kTow M ca to) E ∧ u = (M, R, o)) := by
  refine ct_of (cc := cX6_rise) (maxL := 4) (ret := (some .boolean)) (by decide) rfl (Nat.le_of_ble_eq_true rfl) ?_
  intro p e s m below meth cd ls C h X hT hl
  have hx := C.1
  have hy := C.2.1
  have hl : lv_has ls 4 [(0, .ref (V.1 rMain)), (1, .int ca), (2, .int to)] := hl
  have hsc := iv.2.1.2
  have htn := iv.2.2.1.2
  refine lv_aload_n hx hy dX6_rise_0 rfl (lv_at hl 0 rfl) ?_
  refine lv_iload_n hx hy dX6_rise_1 rfl (lv_at hl 1 rfl) ?_
  refine n_go C h hT (n_V (As := [.int ca]) (rest := []) C h X (ha.2 60 (by decide) (by decide)) (lo_Main.trans (celF_Main _)) rfl (c_X6_castleAt l hl9 ha M R o ca) (cwV 1 C.2.2.2.2.1 gX6_rise_X6_castleAt rfl rfl rfl (by decide +kernel) ⟨Nat.le_of_ble_eq_true rfl, Nat.le_of_ble_eq_true rfl⟩) rfl hl.1 rfl (Nat.le_of_ble_eq_true rfl) dX6_rise_2 ⟨by decide, by decide⟩) (fun E u hE => ⟨XE_of (k := 1) (by simp [kTow, kEnt, kVote, kBuild, kWait, kCut, vG3, kLease, kGive, kG3, kOpen, kCL, kC, kOrd, kHas, kScout, kRead, kRaid, kTruce, vP3, kPrep, kDec, kSet, kTC, hE.2.1]) (by decide) (by rw [hE.1]; rfl), hE.2.2⟩) (by decide) (by decide) (fun v_2 u_2 H locs hpo h => ?_)
  obtain ⟨rfl, c, hc, rfl, rfl⟩ := hpo
  have hv_c : vIn (nI c) 2 = true := vIn_nI hc (by decide)
  have hi_c : cI (nI c) = c := cI_nI hc (by decide)
  have hc_c : vC (nI c) = true := hv_c
  refine lv_astore_n (lv' := [(3, .ref (V.1 (rCas c))), (0, .ref (V.1 rMain)), (1, .int (nI c)), (2, .int to)]) hx hy dX6_rise_5 rfl hl (by decide) rfl (fun ls hl => ?_)
  refine lv_aload_n hx hy dX6_rise_6 rfl (lv_at hl 0 rfl) ?_
  refine lv_iload_n hx hy dX6_rise_7 rfl (lv_at hl 3 rfl) ?_
  refine n_go C h hT (n_S (As := [.ref (V.1 (rCas c)), .int to]) (rest := []) C h X (c_X6_requireTower l hl9 c hc (ha.1 c hc) M R o (tcN M c) (iv.1 c hc).2.1 (iv.1 c hc).1 to) (va_cwS 2 C.2.2.2.2.1 gX6_rise_X6_requireTower rfl rfl rfl (by decide +kernel) ⟨Nat.le_of_ble_eq_true rfl, Nat.le_of_ble_eq_true rfl⟩) rfl hl.1 rfl (Nat.le_of_ble_eq_true rfl) dX6_rise_8 ⟨by decide, by decide⟩) (fun E u hE => ⟨XE_of (k := 1) (by simp [kTow, kEnt, kVote, kBuild, kWait, kCut, vG3, kLease, kGive, kG3, kOpen, kCL, kC, kOrd, kHas, kScout, kRead, kRaid, kTruce, vP3, kPrep, kDec, kSet, kTC, hE.2.1, hi_c, hv_c, hc_c]) (by decide) (by rw [hE.1]; rfl), hE.2.2⟩) (by decide) (by decide) (fun v_8 u_8 H locs hpo h => ?_)
  have htc7 := (iv.1 c hc).2.1
  obtain ⟨rfl, rfl, t, ht, rfl⟩ := hpo
  have hv_t : vIn (nI t) (tcN M c) = true := vIn_nI ht (by omega)
  have hi_t : cI (nI t) = t := cI_nI ht (by omega)
  have ht7 : t < 7 := by omega
  refine lv_aload_n hx hy dX6_rise_11 rfl (lv_at hl 0 rfl) ?_
  refine lv_iload_n hx hy dX6_rise_12 rfl (lv_at hl 3 rfl) ?_
  refine n_go0 C h (n_V (As := [.int (nI t)]) (rest := []) C h X ((ha.1 c hc) 0 (by decide)) ((lo_Cas hc).trans ((celF_Cas hc) _)) rfl (c_X0_isUp l c hc (ha.1 c hc) M R o t ht7) (cwV 1 C.2.2.2.2.1 gX6_rise_X0_isUp rfl rfl rfl (by decide +kernel) ⟨Nat.le_of_ble_eq_true rfl, Nat.le_of_ble_eq_true rfl⟩) rfl hl.1 rfl (Nat.le_of_ble_eq_true rfl) dX6_rise_13 ⟨by decide, by decide⟩) (fun _ _ z => z) (fun v_13 u_13 H locs hpo h => ?_)
  obtain ⟨rfl, rfl⟩ := hpo
  refine b_eq hx hy (tgt := 21) dX6_rise_16 (by decide) (fun c_16 => ?_) (fun c_16 => ?_)
  · skip
    refine lv_aload_n hx hy dX6_rise_21 rfl (lv_at hl 0 rfl) ?_
    refine lv_iload_n hx hy dX6_rise_22 rfl (lv_at hl 3 rfl) ?_
    refine lv_aload_n hx hy dX6_rise_23 rfl (lv_at hl 1 rfl) ?_
    refine g_f C h (ha.2 60 (by decide) (by decide)) lo_Main celF_Main rfl in_X6_rise_X6 7 (by decide) (by decide +kernel) (v := .int (M rMain 7)) rfl dX6_rise_24 ?_
    refine lv_bipush (v := (nI 20)) hx hy dX6_rise_27 (by decide) ?_
    refine lv_iadd hx hy dX6_rise_29 ?_
    refine n_go0 C h (n_V (As := [.int (nI t), .int ((M rMain 7) + (nI 20))]) (rest := []) C h X ((ha.1 c hc) 0 (by decide)) ((lo_Cas hc).trans ((celF_Cas hc) _)) rfl (c_X0_bringUp l c hc (ha.1 c hc) M R o t ht7 ((M rMain 7) + (nI 20))) (cwV 2 C.2.2.2.2.1 gX6_rise_X0_bringUp rfl rfl rfl (by decide +kernel) ⟨Nat.le_of_ble_eq_true rfl, Nat.le_of_ble_eq_true rfl⟩) rfl hl.1 rfl (Nat.le_of_ble_eq_true rfl) dX6_rise_30 ⟨by decide, by decide⟩) (fun _ _ z => z) (fun v_30 u_30 H locs hpo h => ?_)
    obtain ⟨rfl, rfl⟩ := hpo
    refine lv_iconst (v := (nI 1)) hx hy dX6_rise_33 (by decide) ?_
    exact e_int C h (by decide) dX6_rise_34 (⟨by simp [kTow, hi_c, hv_c, hc_c, hi_t, hv_t, c_16], by simp [b2i, hi_c, hv_c, hc_c, hi_t, hv_t, c_16], by simp [hi_c, hv_c, hc_c, hi_t, hv_t, c_16]⟩) (by decide) (by decide)
  · skip
    refine lv_iconst (v := (nI 0)) hx hy dX6_rise_19 (by decide) ?_
    exact e_int C h (by decide) dX6_rise_20 (⟨by simp [kTow, hi_c, hv_c, hc_c, hi_t, hv_t, c_16], by simp [b2i, hi_c, hv_c, hc_c, hi_t, hv_t, c_16], by simp [hi_c, hv_c, hc_c, hi_t, hv_t, c_16]⟩) (by decide) (by decide)

set_option maxRecDepth 100000 in
set_option maxHeartbeats 4000000 in
/-- X6_cut -/
theorem c_X6_cut (l : Launch) {G : va_G} {V : wV} {rs : List Nat} (hl9 : l.stackTraces = false) (ha : bA rs) (M R : wM) (o : wO) (iv : IV M) (ca to lo0 : Int32) (is : Bool) : CT l G V rs yX6_cut wsX6_cut 8 131 3 18 [.ref (V.1 rMain), .int ca, .int to, .int lo0, .int (b2i is)] (M, R, o) (fun v u => kCut M ca to lo0 = 0 ∧ v = some (.int (b2i (hasB (M (rCt (cI ca)) (cI lo0)) (cI to)))) ∧ u = (cCut M (cI ca) (cI to) (cI lo0) is, R, o)) (fun E u => XE [eIOE] (kCut M ca to lo0) E ∧ u = (M, R, o)) := by
  refine ct_of (cc := cX6_cut) (maxL := 6) (ret := (some .boolean)) (by decide) rfl (Nat.le_of_ble_eq_true rfl) ?_
  intro p e s m below meth cd ls C h X hT hl
  have hx := C.1
  have hy := C.2.1
  have hl : lv_has ls 6 [(0, .ref (V.1 rMain)), (1, .int ca), (2, .int to), (3, .int lo0), (4, .int (b2i is))] := hl
  have hsc := iv.2.1.2
  have htn := iv.2.2.1.2
  refine lv_aload_n hx hy dX6_cut_0 rfl (lv_at hl 0 rfl) ?_
  refine lv_iload_n hx hy dX6_cut_1 rfl (lv_at hl 1 rfl) ?_
  refine n_go C h hT (n_V (As := [.int ca]) (rest := []) C h X (ha.2 60 (by decide) (by decide)) (lo_Main.trans (celF_Main _)) rfl (c_X6_castleAt l hl9 ha M R o ca) (cwV 1 C.2.2.2.2.1 gX6_cut_X6_castleAt rfl rfl rfl (by decide +kernel) ⟨Nat.le_of_ble_eq_true rfl, Nat.le_of_ble_eq_true rfl⟩) rfl hl.1 rfl (Nat.le_of_ble_eq_true rfl) dX6_cut_2 ⟨by decide, by decide⟩) (fun E u hE => ⟨XE_of (k := 1) (by simp [kTow, kEnt, kVote, kBuild, kWait, kCut, vG3, kLease, kGive, kG3, kOpen, kCL, kC, kOrd, kHas, kScout, kRead, kRaid, kTruce, vP3, kPrep, kDec, kSet, kTC, hE.2.1]) (by decide) (by rw [hE.1]; rfl), hE.2.2⟩) (by decide) (by decide) (fun v_2 u_2 H locs hpo h => ?_)
  obtain ⟨rfl, c, hc, rfl, rfl⟩ := hpo
  have hv_c : vIn (nI c) 2 = true := vIn_nI hc (by decide)
  have hi_c : cI (nI c) = c := cI_nI hc (by decide)
  have hc_c : vC (nI c) = true := hv_c
  refine lv_astore (lv' := [(5, .ref (V.1 (rCas c))), (0, .ref (V.1 rMain)), (1, .int (nI c)), (2, .int to), (3, .int lo0), (4, .int (b2i is))]) hx hy dX6_cut_5 hl (by decide) rfl (fun ls hl => ?_)
  refine lv_aload hx hy dX6_cut_7 (lv_at hl 0 rfl) ?_
  refine lv_iload_n hx hy dX6_cut_9 rfl (lv_at hl 3 rfl) ?_
  refine n_go C h hT (n_S (As := [.ref (V.1 (rCas c)), .int to]) (rest := []) C h X (c_X6_requireTower l hl9 c hc (ha.1 c hc) M R o (tcN M c) (iv.1 c hc).2.1 (iv.1 c hc).1 to) (va_cwS 2 C.2.2.2.2.1 gX6_cut_X6_requireTower rfl rfl rfl (by decide +kernel) ⟨Nat.le_of_ble_eq_true rfl, Nat.le_of_ble_eq_true rfl⟩) rfl hl.1 rfl (Nat.le_of_ble_eq_true rfl) dX6_cut_10 ⟨by decide, by decide⟩) (fun E u hE => ⟨XE_of (k := 1) (by simp [kTow, kEnt, kVote, kBuild, kWait, kCut, vG3, kLease, kGive, kG3, kOpen, kCL, kC, kOrd, kHas, kScout, kRead, kRaid, kTruce, vP3, kPrep, kDec, kSet, kTC, hE.2.1, hi_c, hv_c, hc_c]) (by decide) (by rw [hE.1]; rfl), hE.2.2⟩) (by decide) (by decide) (fun v_10 u_10 H locs hpo h => ?_)
  have htc7 := (iv.1 c hc).2.1
  obtain ⟨rfl, rfl, t, ht, rfl⟩ := hpo
  have hv_t : vIn (nI t) (tcN M c) = true := vIn_nI ht (by omega)
  have hi_t : cI (nI t) = t := cI_nI ht (by omega)
  have ht7 : t < 7 := by omega
  refine lv_iload_n hx hy dX6_cut_13 rfl (lv_at hl 4 rfl) ?_
  refine n_go C h hT (n_S (As := [.int lo0]) (rest := []) C h X (c_X6_requireLord l hl9 M R o lo0) (va_cwS 1 C.2.2.2.2.1 gX6_cut_X6_requireLord rfl rfl rfl (by decide +kernel) ⟨Nat.le_of_ble_eq_true rfl, Nat.le_of_ble_eq_true rfl⟩) rfl hl.1 rfl (Nat.le_of_ble_eq_true rfl) dX6_cut_14 ⟨by decide, by decide⟩) (fun E u hE => ⟨XE_of (k := 1) (by simp [kTow, kEnt, kVote, kBuild, kWait, kCut, vG3, kLease, kGive, kG3, kOpen, kCL, kC, kOrd, kHas, kScout, kRead, kRaid, kTruce, vP3, kPrep, kDec, kSet, kTC, hE.2.1, hi_c, hv_c, hc_c, hi_t, hv_t]) (by decide) (by rw [hE.1]; rfl), hE.2.2⟩) (by decide) (by decide) (fun v_14 u_14 H locs hpo h => ?_)
  obtain ⟨rfl, rfl, lo, hlo, rfl⟩ := hpo
  have hv_lo : vIn (nI lo) 4 = true := vIn_nI hlo (by decide)
  have hi_lo : cI (nI lo) = lo := cI_nI hlo (by decide)
  refine lv_aload hx hy dX6_cut_17 (lv_at hl 0 rfl) ?_
  refine lv_iload_n hx hy dX6_cut_19 rfl (lv_at hl 3 rfl) ?_
  refine lv_iload_n hx hy dX6_cut_20 rfl (lv_at hl 4 rfl) ?_
  refine lv_iload hx hy dX6_cut_21 (lv_at hl 5 rfl) ?_
  refine n_go0 C h (n_V (As := [.int (nI t), .int (nI lo), .int (b2i is)]) (rest := []) C h X ((ha.1 c hc) 0 (by decide)) ((lo_Cas hc).trans ((celF_Cas hc) _)) rfl (c_X0_setCut l c hc (ha.1 c hc) M R o t ht7 lo hlo is) (cwV 3 C.2.2.2.2.1 gX6_cut_X0_setCut rfl rfl rfl (by decide +kernel) ⟨Nat.le_of_ble_eq_true rfl, Nat.le_of_ble_eq_true rfl⟩) rfl hl.1 rfl (Nat.le_of_ble_eq_true rfl) dX6_cut_23 ⟨by decide, by decide⟩) (fun _ _ z => z) (fun v_23 u_23 H locs hpo h => ?_)
  obtain ⟨rfl, rfl⟩ := hpo
  exact e_int C h (b2i_nar _) dX6_cut_26 (⟨by simp [kCut, hi_c, hv_c, hc_c, hi_t, hv_t, hi_lo, hv_lo], by first | rfl | (simp only [hi_c, hv_c, hc_c, hi_t, hv_t, hi_lo, hv_lo]; done) | (simp only [hi_c, hv_c, hc_c, hi_t, hv_t, hi_lo, hv_lo]; rfl), by first | rfl | (simp only [hi_c, hv_c, hc_c, hi_t, hv_t, hi_lo, hv_lo]; done) | (simp only [hi_c, hv_c, hc_c, hi_t, hv_t, hi_lo, hv_lo]; rfl)⟩) (by decide) (by decide)

set_option maxRecDepth 20000 in
theorem at_X6_lease_28 : ∀ w ∈ (vx_atS RX6 51 "java/lang/IllegalArgumentException" ["java/lang/RuntimeException", "java/lang/Exception"]).filter goodWord, w ∈ wsX6_lease := by decide +kernel
set_option maxRecDepth 20000 in
theorem in_X6_lease_X6 : ∀ x ∈ wsX60, x ∈ wsX6_lease := by decide +kernel
set_option maxRecDepth 20000 in
theorem in_X6_lease_X0 : ∀ x ∈ wsX00, x ∈ wsX6_lease := by decide +kernel
set_option maxRecDepth 20000 in
theorem at_X6_lease_61 : ∀ w ∈ (vx_atS RX6 62 "java/lang/UnsupportedOperationException" ["java/lang/RuntimeException", "java/lang/Exception"]).filter goodWord, w ∈ wsX6_lease := by decide +kernel
set_option maxRecDepth 100000 in
set_option maxHeartbeats 4000000 in
/-- X6_lease -/
theorem c_X6_lease (l : Launch) {G : va_G} {V : wV} {rs : List Nat} (hl9 : l.stackTraces = false) (ha : bA rs) (M R : wM) (o : wO) (iv : IV M) (lo0 ca ga ti : Int32) : CT l G V rs yX6_lease wsX6_lease 8 131 4 24 [.ref (V.1 rMain), .int lo0, .int ca, .int ga, .int ti] (M, R, o) (fun v u => kLease M lo0 ca ga ti = 0 ∧ v = some (.int (imax (M (rLT (cI ca) (cI ga)) (cI lo0)) (nowM M + ti))) ∧ u = (gGrant M (cI ca) (cI ga) (cI lo0) (voN M (cI ca) (cI ga) (cI lo0) (nowM M) (tcN M (cI ca))) (nowM M + ti), R, o)) (fun E u => XE [eIOE, eIAE, eUOE] (kLease M lo0 ca ga ti) E ∧ u = (M, R, o)) := by
  refine ct_of (cc := cX6_lease) (maxL := 7) (ret := (some .int)) (by decide) rfl (Nat.le_of_ble_eq_true rfl) ?_
  intro p e s m below meth cd ls C h X hT hl
  have hx := C.1
  have hy := C.2.1
  have hl : lv_has ls 7 [(0, .ref (V.1 rMain)), (1, .int lo0), (2, .int ca), (3, .int ga), (4, .int ti)] := hl
  have hsc := iv.2.1.2
  have htn := iv.2.2.1.2
  refine lv_aload_n hx hy dX6_lease_0 rfl (lv_at hl 0 rfl) ?_
  refine lv_iload_n hx hy dX6_lease_1 rfl (lv_at hl 2 rfl) ?_
  refine n_go C h hT (n_V (As := [.int ca]) (rest := []) C h X (ha.2 60 (by decide) (by decide)) (lo_Main.trans (celF_Main _)) rfl (c_X6_castleAt l hl9 ha M R o ca) (cwV 1 C.2.2.2.2.1 gX6_lease_X6_castleAt rfl rfl rfl (by decide +kernel) ⟨Nat.le_of_ble_eq_true rfl, Nat.le_of_ble_eq_true rfl⟩) rfl hl.1 rfl (Nat.le_of_ble_eq_true rfl) dX6_lease_2 ⟨by decide, by decide⟩) (fun E u hE => ⟨XE_of (k := 1) (by simp [kTow, kEnt, kVote, kBuild, kWait, kCut, vG3, kLease, kGive, kG3, kOpen, kCL, kC, kOrd, kHas, kScout, kRead, kRaid, kTruce, vP3, kPrep, kDec, kSet, kTC, hE.2.1]) (by decide) (by rw [hE.1]; rfl), hE.2.2⟩) (by decide) (by decide) (fun v_2 u_2 H locs hpo h => ?_)
  obtain ⟨rfl, c, hc, rfl, rfl⟩ := hpo
  have hv_c : vIn (nI c) 2 = true := vIn_nI hc (by decide)
  have hi_c : cI (nI c) = c := cI_nI hc (by decide)
  have hc_c : vC (nI c) = true := hv_c
  refine lv_astore (lv' := [(5, .ref (V.1 (rCas c))), (0, .ref (V.1 rMain)), (1, .int lo0), (2, .int (nI c)), (3, .int ga), (4, .int ti)]) hx hy dX6_lease_5 hl (by decide) rfl (fun ls hl => ?_)
  refine lv_iload_n hx hy dX6_lease_7 rfl (lv_at hl 4 rfl) ?_
  refine n_go C h hT (n_S (As := [.int ga]) (rest := []) C h X (c_X6_requireGate l hl9 M R o ga) (va_cwS 1 C.2.2.2.2.1 gX6_lease_X6_requireGate rfl rfl rfl (by decide +kernel) ⟨Nat.le_of_ble_eq_true rfl, Nat.le_of_ble_eq_true rfl⟩) rfl hl.1 rfl (Nat.le_of_ble_eq_true rfl) dX6_lease_8 ⟨by decide, by decide⟩) (fun E u hE => ⟨XE_of (k := 1) (by simp [kTow, kEnt, kVote, kBuild, kWait, kCut, vG3, kLease, kGive, kG3, kOpen, kCL, kC, kOrd, kHas, kScout, kRead, kRaid, kTruce, vP3, kPrep, kDec, kSet, kTC, hE.2.1, hi_c, hv_c, hc_c]) (by decide) (by rw [hE.1]; rfl), hE.2.2⟩) (by decide) (by decide) (fun v_8 u_8 H locs hpo h => ?_)
  obtain ⟨rfl, rfl, g, hg, rfl⟩ := hpo
  have hv_g : vIn (nI g) 3 = true := vIn_nI hg (by decide)
  have hi_g : cI (nI g) = g := cI_nI hg (by decide)
  refine lv_iload_n hx hy dX6_lease_11 rfl (lv_at hl 2 rfl) ?_
  refine n_go C h hT (n_S (As := [.int lo0]) (rest := []) C h X (c_X6_requireLord l hl9 M R o lo0) (va_cwS 1 C.2.2.2.2.1 gX6_lease_X6_requireLord rfl rfl rfl (by decide +kernel) ⟨Nat.le_of_ble_eq_true rfl, Nat.le_of_ble_eq_true rfl⟩) rfl hl.1 rfl (Nat.le_of_ble_eq_true rfl) dX6_lease_12 ⟨by decide, by decide⟩) (fun E u hE => ⟨XE_of (k := 1) (by simp [kTow, kEnt, kVote, kBuild, kWait, kCut, vG3, kLease, kGive, kG3, kOpen, kCL, kC, kOrd, kHas, kScout, kRead, kRaid, kTruce, vP3, kPrep, kDec, kSet, kTC, hE.2.1, hi_c, hv_c, hc_c, hi_g, hv_g]) (by decide) (by rw [hE.1]; rfl), hE.2.2⟩) (by decide) (by decide) (fun v_12 u_12 H locs hpo h => ?_)
  obtain ⟨rfl, rfl, lo, hlo, rfl⟩ := hpo
  have hv_lo : vIn (nI lo) 4 = true := vIn_nI hlo (by decide)
  have hi_lo : cI (nI lo) = lo := cI_nI hlo (by decide)
  refine lv_iload hx hy dX6_lease_15 (lv_at hl 5 rfl) ?_
  refine lv_iconst (v := (nI 1)) hx hy dX6_lease_17 (by decide) ?_
  refine i_lt hx hy (tgt := 28) dX6_lease_18 (by decide) (fun c_18 => ?_) (fun c_18 => ?_)
  · skip
    exact t_narrow (ic := 51) (ik := 47) (is := 106) (cls := "java/lang/IllegalArgumentException") (text := tx_106) C h X hT hl9 (by decide) (by decide) (by decide) hl.1 (by decide +kernel) (by decide +kernel) at_X6_lease_28 bad_IAE good_IAE_47 dX6_lease_28 dX6_lease_31 dX6_lease_32 dX6_lease_34 dX6_lease_37 (by decide) (by decide) (by decide) (by decide) (by decide) (by decide) (⟨XE_of (k := 2) (by simp [kLease, vG3, vL, hi_c, hv_c, hc_c, hi_g, hv_g, hi_lo, hv_lo, eq_true c_18, eq_false (Int32.not_le.mpr c_18)]) (by decide) rfl, rfl⟩)
  · skip
    refine lv_iload hx hy dX6_lease_21 (lv_at hl 5 rfl) ?_
    refine lv_bipush (v := (nI 20)) hx hy dX6_lease_23 (by decide) ?_
    refine i_le hx hy (tgt := 38) dX6_lease_25 (by decide) (fun c_25 => ?_) (fun c_25 => ?_)
    · skip
      refine lv_aload hx hy dX6_lease_38 (lv_at hl 0 rfl) ?_
      refine lv_iload_n hx hy dX6_lease_40 rfl (lv_at hl 2 rfl) ?_
      refine lv_iload_n hx hy dX6_lease_41 rfl (lv_at hl 4 rfl) ?_
      refine lv_aload_n hx hy dX6_lease_42 rfl (lv_at hl 1 rfl) ?_
      refine g_f C h (ha.2 60 (by decide) (by decide)) lo_Main celF_Main rfl in_X6_lease_X6 7 (by decide) (by decide +kernel) (v := .int (M rMain 7)) rfl dX6_lease_43 ?_
      refine n_go0 C h (n_V (As := [.int (nI lo), .int (nI g), .int (M rMain 7)]) (rest := []) C h X ((ha.1 c hc) 0 (by decide)) ((lo_Cas hc).trans ((celF_Cas hc) _)) rfl (c_X0_votersFor l c hc (ha.1 c hc) M R o (tcN M c) (iv.1 c hc).2.1 (iv.1 c hc).1 lo hlo g hg (M rMain 7)) (cwV 3 C.2.2.2.2.1 gX6_lease_X0_votersFor rfl rfl rfl (by decide +kernel) ⟨Nat.le_of_ble_eq_true rfl, Nat.le_of_ble_eq_true rfl⟩) rfl hl.1 rfl (Nat.le_of_ble_eq_true rfl) dX6_lease_46 ⟨by decide, by decide⟩) (fun _ _ z => z) (fun v_46 u_46 H locs hpo h => ?_)
      obtain ⟨rfl, rfl⟩ := hpo
      refine lv_istore (lv' := [(6, .int (voN M c g lo (M rMain 7) (tcN M c))), (5, .ref (V.1 (rCas c))), (0, .ref (V.1 rMain)), (1, .int (nI lo)), (2, .int (nI c)), (3, .int (nI g)), (4, .int ti)]) hx hy dX6_lease_49 hl (by decide) rfl (fun ls hl => ?_)
      refine lv_aload hx hy dX6_lease_51 (lv_at hl 1 rfl) ?_
      refine lv_iload hx hy dX6_lease_53 (lv_at hl 0 rfl) ?_
      refine n_go0 C h (n_V (As := [.int (voN M c g lo (M rMain 7) (tcN M c))]) (rest := []) C h X ((ha.1 c hc) 0 (by decide)) ((lo_Cas hc).trans ((celF_Cas hc) _)) rfl (c_X0_isQuorum l c hc (ha.1 c hc) M R o (voN M c g lo (M rMain 7) (tcN M c))) (cwV 1 C.2.2.2.2.1 gX6_lease_X0_isQuorum rfl rfl rfl (by decide +kernel) ⟨Nat.le_of_ble_eq_true rfl, Nat.le_of_ble_eq_true rfl⟩) rfl hl.1 rfl (Nat.le_of_ble_eq_true rfl) dX6_lease_55 ⟨by decide, by decide⟩) (fun _ _ z => z) (fun v_55 u_55 H locs hpo h => ?_)
      obtain ⟨rfl, rfl⟩ := hpo
      refine b_ne hx hy (tgt := 71) dX6_lease_58 (by decide) (fun c_58 => ?_) (fun c_58 => ?_)
      · skip
        refine lv_aload hx hy dX6_lease_71 (lv_at hl 1 rfl) ?_
        refine g_f C h ((ha.1 c hc) 0 (by decide)) (lo_Cas hc) (celF_Cas hc) rfl in_X6_lease_X0 6 (by decide) (by decide +kernel) (v := .ref (V.1 (rGs c))) rfl dX6_lease_73 ?_
        refine lv_iload_n hx hy dX6_lease_76 rfl (lv_at hl 5 rfl) ?_
        refine g_a C h ((ha.1 c hc) 3 (by decide)) 3 (n := 3) (k := g) (lo_Gs hc) ((celF_Gs hc) _) rfl (by omega) (by decide) (a := V.1 (rGate c g)) rfl dX6_lease_77 ?_
        refine lv_iload_n hx hy dX6_lease_78 rfl (lv_at hl 3 rfl) ?_
        refine lv_iload hx hy dX6_lease_79 (lv_at hl 0 rfl) ?_
        refine lv_aload_n hx hy dX6_lease_81 rfl (lv_at hl 2 rfl) ?_
        refine g_f C h (ha.2 60 (by decide) (by decide)) lo_Main celF_Main rfl in_X6_lease_X6 7 (by decide) (by decide +kernel) (v := .int (M rMain 7)) rfl dX6_lease_82 ?_
        refine lv_iload hx hy dX6_lease_85 (lv_at hl 6 rfl) ?_
        refine lv_iadd hx hy dX6_lease_87 ?_
        refine n_go0 C h (n_V (As := [.int (nI lo), .int (voN M c g lo (M rMain 7) (tcN M c)), .int ((M rMain 7) + ti)]) (rest := []) C h X ((ha.1 c hc) (4 + 4 * g) (by omega)) ((lo_Gate hc hg).trans ((celF_Gate hc hg) _)) rfl (c_X1_grant l c g hc hg (ha.1 c hc) M R o lo hlo (voN M c g lo (M rMain 7) (tcN M c)) ((M rMain 7) + ti)) (cwV 3 C.2.2.2.2.1 gX6_lease_X1_grant rfl rfl rfl (by decide +kernel) ⟨Nat.le_of_ble_eq_true rfl, Nat.le_of_ble_eq_true rfl⟩) rfl hl.1 rfl (Nat.le_of_ble_eq_true rfl) dX6_lease_88 ⟨by decide, by decide⟩) (fun _ _ z => z) (fun v_88 u_88 H locs hpo h => ?_)
        obtain ⟨rfl, rfl⟩ := hpo
        exact e_int C h rfl dX6_lease_91 (⟨by simp [kLease, vG3, vL, hi_c, hv_c, hc_c, hi_g, hv_g, hi_lo, hv_lo, eq_true c_18, eq_false (Int32.not_lt.mpr c_18), eq_true c_25, eq_false (Int32.not_lt.mpr c_25), c_58], by first | rfl | (simp only [hi_c, hv_c, hc_c, hi_g, hv_g, hi_lo, hv_lo]; done) | (simp only [hi_c, hv_c, hc_c, hi_g, hv_g, hi_lo, hv_lo]; rfl), by first | rfl | (simp only [hi_c, hv_c, hc_c, hi_g, hv_g, hi_lo, hv_lo]; done) | (simp only [hi_c, hv_c, hc_c, hi_g, hv_g, hi_lo, hv_lo]; rfl)⟩) (by decide) (by decide)
      · skip
        exact t_narrow (ic := 62) (ik := 58) (is := 115) (cls := "java/lang/UnsupportedOperationException") (text := tx_115) C h X hT hl9 (by decide) (by decide) (by decide) hl.1 (by decide +kernel) (by decide +kernel) at_X6_lease_61 bad_UOE good_UOE_58 dX6_lease_61 dX6_lease_64 dX6_lease_65 dX6_lease_67 dX6_lease_70 (by decide) (by decide) (by decide) (by decide) (by decide) (by decide) (⟨XE_of (k := 3) (by simp [kLease, vG3, vL, hi_c, hv_c, hc_c, hi_g, hv_g, hi_lo, hv_lo, eq_true c_18, eq_false (Int32.not_lt.mpr c_18), eq_true c_25, eq_false (Int32.not_lt.mpr c_25), c_58]) (by decide) rfl, rfl⟩)
    · skip
      exact t_narrow (ic := 51) (ik := 47) (is := 106) (cls := "java/lang/IllegalArgumentException") (text := tx_106) C h X hT hl9 (by decide) (by decide) (by decide) hl.1 (by decide +kernel) (by decide +kernel) at_X6_lease_28 bad_IAE good_IAE_47 dX6_lease_28 dX6_lease_31 dX6_lease_32 dX6_lease_34 dX6_lease_37 (by decide) (by decide) (by decide) (by decide) (by decide) (by decide) (⟨XE_of (k := 2) (by simp [kLease, vG3, vL, hi_c, hv_c, hc_c, hi_g, hv_g, hi_lo, hv_lo, eq_true c_18, eq_false (Int32.not_lt.mpr c_18), eq_true c_25, eq_false (Int32.not_le.mpr c_25)]) (by decide) rfl, rfl⟩)

set_option maxRecDepth 20000 in
theorem in_X6_giveUp_X0 : ∀ x ∈ wsX00, x ∈ wsX6_giveUp := by decide +kernel
set_option maxRecDepth 20000 in
theorem in_X6_giveUp_X6 : ∀ x ∈ wsX60, x ∈ wsX6_giveUp := by decide +kernel
set_option maxRecDepth 20000 in
theorem at_X6_giveUp_33 : ∀ w ∈ (vx_atS RX6 62 "java/lang/UnsupportedOperationException" ["java/lang/RuntimeException", "java/lang/Exception"]).filter goodWord, w ∈ wsX6_giveUp := by decide +kernel
set_option maxRecDepth 100000 in
set_option maxHeartbeats 4000000 in
/-- X6_giveUp -/
theorem c_X6_giveUp (l : Launch) {G : va_G} {V : wV} {rs : List Nat} (hl9 : l.stackTraces = false) (ha : bA rs) (M R : wM) (o : wO) (iv : IV M) (lo0 ca ga : Int32) : CT l G V rs yX6_giveUp wsX6_giveUp 8 131 4 24 [.ref (V.1 rMain), .int lo0, .int ca, .int ga] (M, R, o) (fun v u => kGive M lo0 ca ga = 0 ∧ v = some (.int (nI (enC M (cI ca) (cI ga) (nI (cI lo0)) (nearI M (cI ca) (cI lo0)) (nowM M) 7))) ∧ u = (gEnd M (cI ca) (cI ga) (cI lo0) (nearI M (cI ca) (cI lo0)) (nowM M), R, o)) (fun E u => XE [eIOE, eUOE] (kGive M lo0 ca ga) E ∧ u = (M, R, o)) := by
  refine ct_of (cc := cX6_giveUp) (maxL := 5) (ret := (some .int)) (by decide) rfl (Nat.le_of_ble_eq_true rfl) ?_
  intro p e s m below meth cd ls C h X hT hl
  have hx := C.1
  have hy := C.2.1
  have hl : lv_has ls 5 [(0, .ref (V.1 rMain)), (1, .int lo0), (2, .int ca), (3, .int ga)] := hl
  have hsc := iv.2.1.2
  have htn := iv.2.2.1.2
  refine lv_aload_n hx hy dX6_giveUp_0 rfl (lv_at hl 0 rfl) ?_
  refine lv_iload_n hx hy dX6_giveUp_1 rfl (lv_at hl 2 rfl) ?_
  refine n_go C h hT (n_V (As := [.int ca]) (rest := []) C h X (ha.2 60 (by decide) (by decide)) (lo_Main.trans (celF_Main _)) rfl (c_X6_castleAt l hl9 ha M R o ca) (cwV 1 C.2.2.2.2.1 gX6_giveUp_X6_castleAt rfl rfl rfl (by decide +kernel) ⟨Nat.le_of_ble_eq_true rfl, Nat.le_of_ble_eq_true rfl⟩) rfl hl.1 rfl (Nat.le_of_ble_eq_true rfl) dX6_giveUp_2 ⟨by decide, by decide⟩) (fun E u hE => ⟨XE_of (k := 1) (by simp [kTow, kEnt, kVote, kBuild, kWait, kCut, vG3, kLease, kGive, kG3, kOpen, kCL, kC, kOrd, kHas, kScout, kRead, kRaid, kTruce, vP3, kPrep, kDec, kSet, kTC, hE.2.1]) (by decide) (by rw [hE.1]; rfl), hE.2.2⟩) (by decide) (by decide) (fun v_2 u_2 H locs hpo h => ?_)
  obtain ⟨rfl, c, hc, rfl, rfl⟩ := hpo
  have hv_c : vIn (nI c) 2 = true := vIn_nI hc (by decide)
  have hi_c : cI (nI c) = c := cI_nI hc (by decide)
  have hc_c : vC (nI c) = true := hv_c
  refine lv_astore (lv' := [(4, .ref (V.1 (rCas c))), (0, .ref (V.1 rMain)), (1, .int lo0), (2, .int (nI c)), (3, .int ga)]) hx hy dX6_giveUp_5 hl (by decide) rfl (fun ls hl => ?_)
  refine lv_iload_n hx hy dX6_giveUp_7 rfl (lv_at hl 4 rfl) ?_
  refine n_go C h hT (n_S (As := [.int ga]) (rest := []) C h X (c_X6_requireGate l hl9 M R o ga) (va_cwS 1 C.2.2.2.2.1 gX6_giveUp_X6_requireGate rfl rfl rfl (by decide +kernel) ⟨Nat.le_of_ble_eq_true rfl, Nat.le_of_ble_eq_true rfl⟩) rfl hl.1 rfl (Nat.le_of_ble_eq_true rfl) dX6_giveUp_8 ⟨by decide, by decide⟩) (fun E u hE => ⟨XE_of (k := 1) (by simp [kTow, kEnt, kVote, kBuild, kWait, kCut, vG3, kLease, kGive, kG3, kOpen, kCL, kC, kOrd, kHas, kScout, kRead, kRaid, kTruce, vP3, kPrep, kDec, kSet, kTC, hE.2.1, hi_c, hv_c, hc_c]) (by decide) (by rw [hE.1]; rfl), hE.2.2⟩) (by decide) (by decide) (fun v_8 u_8 H locs hpo h => ?_)
  obtain ⟨rfl, rfl, g, hg, rfl⟩ := hpo
  have hv_g : vIn (nI g) 3 = true := vIn_nI hg (by decide)
  have hi_g : cI (nI g) = g := cI_nI hg (by decide)
  refine lv_iload_n hx hy dX6_giveUp_11 rfl (lv_at hl 2 rfl) ?_
  refine n_go C h hT (n_S (As := [.int lo0]) (rest := []) C h X (c_X6_requireLord l hl9 M R o lo0) (va_cwS 1 C.2.2.2.2.1 gX6_giveUp_X6_requireLord rfl rfl rfl (by decide +kernel) ⟨Nat.le_of_ble_eq_true rfl, Nat.le_of_ble_eq_true rfl⟩) rfl hl.1 rfl (Nat.le_of_ble_eq_true rfl) dX6_giveUp_12 ⟨by decide, by decide⟩) (fun E u hE => ⟨XE_of (k := 1) (by simp [kTow, kEnt, kVote, kBuild, kWait, kCut, vG3, kLease, kGive, kG3, kOpen, kCL, kC, kOrd, kHas, kScout, kRead, kRaid, kTruce, vP3, kPrep, kDec, kSet, kTC, hE.2.1, hi_c, hv_c, hc_c, hi_g, hv_g]) (by decide) (by rw [hE.1]; rfl), hE.2.2⟩) (by decide) (by decide) (fun v_12 u_12 H locs hpo h => ?_)
  obtain ⟨rfl, rfl, lo, hlo, rfl⟩ := hpo
  have hv_lo : vIn (nI lo) 4 = true := vIn_nI hlo (by decide)
  have hi_lo : cI (nI lo) = lo := cI_nI hlo (by decide)
  refine lv_aload hx hy dX6_giveUp_15 (lv_at hl 0 rfl) ?_
  refine g_f C h ((ha.1 c hc) 0 (by decide)) (lo_Cas hc) (celF_Cas hc) rfl in_X6_giveUp_X0 6 (by decide) (by decide +kernel) (v := .ref (V.1 (rGs c))) rfl dX6_giveUp_17 ?_
  refine lv_iload_n hx hy dX6_giveUp_20 rfl (lv_at hl 4 rfl) ?_
  refine g_a C h ((ha.1 c hc) 3 (by decide)) 3 (n := 3) (k := g) (lo_Gs hc) ((celF_Gs hc) _) rfl (by omega) (by decide) (a := V.1 (rGate c g)) rfl dX6_giveUp_21 ?_
  refine lv_iload_n hx hy dX6_giveUp_22 rfl (lv_at hl 2 rfl) ?_
  refine lv_aload_n hx hy dX6_giveUp_23 rfl (lv_at hl 1 rfl) ?_
  refine g_f C h (ha.2 60 (by decide) (by decide)) lo_Main celF_Main rfl in_X6_giveUp_X6 7 (by decide) (by decide +kernel) (v := .int (M rMain 7)) rfl dX6_giveUp_24 ?_
  refine n_go0 C h (n_V (As := [.int (nI lo), .int (M rMain 7)]) (rest := []) C h X ((ha.1 c hc) (4 + 4 * g) (by omega)) ((lo_Gate hc hg).trans ((celF_Gate hc hg) _)) rfl (c_X1_isOpenFor l c g hc hg (ha.1 c hc) M R o lo hlo (M rMain 7)) (cwV 2 C.2.2.2.2.1 gX6_giveUp_X1_isOpenFor rfl rfl rfl (by decide +kernel) ⟨Nat.le_of_ble_eq_true rfl, Nat.le_of_ble_eq_true rfl⟩) rfl hl.1 rfl (Nat.le_of_ble_eq_true rfl) dX6_giveUp_27 ⟨by decide, by decide⟩) (fun _ _ z => z) (fun v_27 u_27 H locs hpo h => ?_)
  obtain ⟨rfl, rfl⟩ := hpo
  refine b_ne hx hy (tgt := 43) dX6_giveUp_30 (by decide) (fun c_30 => ?_) (fun c_30 => ?_)
  · skip
    refine lv_aload hx hy dX6_giveUp_43 (lv_at hl 0 rfl) ?_
    refine g_f C h ((ha.1 c hc) 0 (by decide)) (lo_Cas hc) (celF_Cas hc) rfl in_X6_giveUp_X0 6 (by decide) (by decide +kernel) (v := .ref (V.1 (rGs c))) rfl dX6_giveUp_45 ?_
    refine lv_iload_n hx hy dX6_giveUp_48 rfl (lv_at hl 4 rfl) ?_
    refine g_a C h ((ha.1 c hc) 3 (by decide)) 3 (n := 3) (k := g) (lo_Gs hc) ((celF_Gs hc) _) rfl (by omega) (by decide) (a := V.1 (rGate c g)) rfl dX6_giveUp_49 ?_
    refine lv_iload_n hx hy dX6_giveUp_50 rfl (lv_at hl 2 rfl) ?_
    refine lv_aload hx hy dX6_giveUp_51 (lv_at hl 0 rfl) ?_
    refine lv_iload_n hx hy dX6_giveUp_53 rfl (lv_at hl 2 rfl) ?_
    refine n_go0 C h (n_V (As := [.int (nI lo)]) (rest := [.int (nI lo), .ref (V.1 (rGate c g))]) C h X ((ha.1 c hc) 0 (by decide)) ((lo_Cas hc).trans ((celF_Cas hc) _)) rfl (c_X0_towersNear l c hc (ha.1 c hc) M R o lo hlo) (cwV 1 C.2.2.2.2.1 gX6_giveUp_X0_towersNear rfl rfl rfl (by decide +kernel) ⟨Nat.le_of_ble_eq_true rfl, Nat.le_of_ble_eq_true rfl⟩) rfl hl.1 rfl (Nat.le_of_ble_eq_true rfl) dX6_giveUp_54 ⟨by decide, by decide⟩) (fun _ _ z => z) (fun v_54 u_54 H locs hpo h => ?_)
    obtain ⟨rfl, rfl⟩ := hpo
    refine lv_aload_n hx hy dX6_giveUp_57 rfl (lv_at hl 1 rfl) ?_
    refine g_f C h (ha.2 60 (by decide) (by decide)) lo_Main celF_Main rfl in_X6_giveUp_X6 7 (by decide) (by decide +kernel) (v := .int (M rMain 7)) rfl dX6_giveUp_58 ?_
    refine n_go0 C h (n_V (As := [.int (nI lo), .int (nearI M c lo), .int (M rMain 7)]) (rest := []) C h X ((ha.1 c hc) (4 + 4 * g) (by omega)) ((lo_Gate hc hg).trans ((celF_Gate hc hg) _)) rfl (c_X1_endLease l c g hc hg (ha.1 c hc) M R o lo hlo (nearI M c lo) (M rMain 7)) (cwV 3 C.2.2.2.2.1 gX6_giveUp_X1_endLease rfl rfl rfl (by decide +kernel) ⟨Nat.le_of_ble_eq_true rfl, Nat.le_of_ble_eq_true rfl⟩) rfl hl.1 rfl (Nat.le_of_ble_eq_true rfl) dX6_giveUp_61 ⟨by decide, by decide⟩) (fun _ _ z => z) (fun v_61 u_61 H locs hpo h => ?_)
    obtain ⟨rfl, rfl⟩ := hpo
    exact e_int C h rfl dX6_giveUp_64 (⟨by simp [kGive, vG3, hi_c, hv_c, hc_c, hi_g, hv_g, hi_lo, hv_lo, c_30], by first | rfl | (simp only [hi_c, hv_c, hc_c, hi_g, hv_g, hi_lo, hv_lo]; done) | (simp only [hi_c, hv_c, hc_c, hi_g, hv_g, hi_lo, hv_lo]; rfl), by first | rfl | (simp only [hi_c, hv_c, hc_c, hi_g, hv_g, hi_lo, hv_lo]; done) | (simp only [hi_c, hv_c, hc_c, hi_g, hv_g, hi_lo, hv_lo]; rfl)⟩) (by decide) (by decide)
  · skip
    exact t_narrow (ic := 62) (ik := 58) (is := 130) (cls := "java/lang/UnsupportedOperationException") (text := tx_130) C h X hT hl9 (by decide) (by decide) (by decide) hl.1 (by decide +kernel) (by decide +kernel) at_X6_giveUp_33 bad_UOE good_UOE_58 dX6_giveUp_33 dX6_giveUp_36 dX6_giveUp_37 dX6_giveUp_39 dX6_giveUp_42 (by decide) (by decide) (by decide) (by decide) (by decide) (by decide) (⟨XE_of (k := 2) (by simp [kGive, vG3, hi_c, hv_c, hc_c, hi_g, hv_g, hi_lo, hv_lo, c_30]) (by decide) rfl, rfl⟩)

set_option maxRecDepth 20000 in
theorem in_X6_leaseOf_X0 : ∀ x ∈ wsX00, x ∈ wsX6_leaseOf := by decide +kernel
set_option maxRecDepth 20000 in
theorem in_X6_leaseOf_X1 : ∀ x ∈ wsX10, x ∈ wsX6_leaseOf := by decide +kernel
set_option maxRecDepth 100000 in
set_option maxHeartbeats 4000000 in
/-- X6_leaseOf -/
theorem c_X6_leaseOf (l : Launch) {G : va_G} {V : wV} {rs : List Nat} (hl9 : l.stackTraces = false) (ha : bA rs) (M R : wM) (o : wO) (iv : IV M) (lo0 ca ga : Int32) : CT l G V rs yX6_leaseOf wsX6_leaseOf 8 131 3 18 [.ref (V.1 rMain), .int lo0, .int ca, .int ga] (M, R, o) (fun v u => kG3 lo0 ca ga = 0 ∧ v = some (.int (M (rLT (cI ca) (cI ga)) (cI lo0))) ∧ u = (M, R, o)) (fun E u => XE [eIOE] (kG3 lo0 ca ga) E ∧ u = (M, R, o)) := by
  refine ct_of (cc := cX6_leaseOf) (maxL := 5) (ret := (some .int)) (by decide) rfl (Nat.le_of_ble_eq_true rfl) ?_
  intro p e s m below meth cd ls C h X hT hl
  have hx := C.1
  have hy := C.2.1
  have hl : lv_has ls 5 [(0, .ref (V.1 rMain)), (1, .int lo0), (2, .int ca), (3, .int ga)] := hl
  have hsc := iv.2.1.2
  have htn := iv.2.2.1.2
  refine lv_aload_n hx hy dX6_leaseOf_0 rfl (lv_at hl 0 rfl) ?_
  refine lv_iload_n hx hy dX6_leaseOf_1 rfl (lv_at hl 2 rfl) ?_
  refine n_go C h hT (n_V (As := [.int ca]) (rest := []) C h X (ha.2 60 (by decide) (by decide)) (lo_Main.trans (celF_Main _)) rfl (c_X6_castleAt l hl9 ha M R o ca) (cwV 1 C.2.2.2.2.1 gX6_leaseOf_X6_castleAt rfl rfl rfl (by decide +kernel) ⟨Nat.le_of_ble_eq_true rfl, Nat.le_of_ble_eq_true rfl⟩) rfl hl.1 rfl (Nat.le_of_ble_eq_true rfl) dX6_leaseOf_2 ⟨by decide, by decide⟩) (fun E u hE => ⟨XE_of (k := 1) (by simp [kTow, kEnt, kVote, kBuild, kWait, kCut, vG3, kLease, kGive, kG3, kOpen, kCL, kC, kOrd, kHas, kScout, kRead, kRaid, kTruce, vP3, kPrep, kDec, kSet, kTC, hE.2.1]) (by decide) (by rw [hE.1]; rfl), hE.2.2⟩) (by decide) (by decide) (fun v_2 u_2 H locs hpo h => ?_)
  obtain ⟨rfl, c, hc, rfl, rfl⟩ := hpo
  have hv_c : vIn (nI c) 2 = true := vIn_nI hc (by decide)
  have hi_c : cI (nI c) = c := cI_nI hc (by decide)
  have hc_c : vC (nI c) = true := hv_c
  refine lv_astore (lv' := [(4, .ref (V.1 (rCas c))), (0, .ref (V.1 rMain)), (1, .int lo0), (2, .int (nI c)), (3, .int ga)]) hx hy dX6_leaseOf_5 hl (by decide) rfl (fun ls hl => ?_)
  refine lv_iload_n hx hy dX6_leaseOf_7 rfl (lv_at hl 4 rfl) ?_
  refine n_go C h hT (n_S (As := [.int ga]) (rest := []) C h X (c_X6_requireGate l hl9 M R o ga) (va_cwS 1 C.2.2.2.2.1 gX6_leaseOf_X6_requireGate rfl rfl rfl (by decide +kernel) ⟨Nat.le_of_ble_eq_true rfl, Nat.le_of_ble_eq_true rfl⟩) rfl hl.1 rfl (Nat.le_of_ble_eq_true rfl) dX6_leaseOf_8 ⟨by decide, by decide⟩) (fun E u hE => ⟨XE_of (k := 1) (by simp [kTow, kEnt, kVote, kBuild, kWait, kCut, vG3, kLease, kGive, kG3, kOpen, kCL, kC, kOrd, kHas, kScout, kRead, kRaid, kTruce, vP3, kPrep, kDec, kSet, kTC, hE.2.1, hi_c, hv_c, hc_c]) (by decide) (by rw [hE.1]; rfl), hE.2.2⟩) (by decide) (by decide) (fun v_8 u_8 H locs hpo h => ?_)
  obtain ⟨rfl, rfl, g, hg, rfl⟩ := hpo
  have hv_g : vIn (nI g) 3 = true := vIn_nI hg (by decide)
  have hi_g : cI (nI g) = g := cI_nI hg (by decide)
  refine lv_iload_n hx hy dX6_leaseOf_11 rfl (lv_at hl 2 rfl) ?_
  refine n_go C h hT (n_S (As := [.int lo0]) (rest := []) C h X (c_X6_requireLord l hl9 M R o lo0) (va_cwS 1 C.2.2.2.2.1 gX6_leaseOf_X6_requireLord rfl rfl rfl (by decide +kernel) ⟨Nat.le_of_ble_eq_true rfl, Nat.le_of_ble_eq_true rfl⟩) rfl hl.1 rfl (Nat.le_of_ble_eq_true rfl) dX6_leaseOf_12 ⟨by decide, by decide⟩) (fun E u hE => ⟨XE_of (k := 1) (by simp [kTow, kEnt, kVote, kBuild, kWait, kCut, vG3, kLease, kGive, kG3, kOpen, kCL, kC, kOrd, kHas, kScout, kRead, kRaid, kTruce, vP3, kPrep, kDec, kSet, kTC, hE.2.1, hi_c, hv_c, hc_c, hi_g, hv_g]) (by decide) (by rw [hE.1]; rfl), hE.2.2⟩) (by decide) (by decide) (fun v_12 u_12 H locs hpo h => ?_)
  obtain ⟨rfl, rfl, lo, hlo, rfl⟩ := hpo
  have hv_lo : vIn (nI lo) 4 = true := vIn_nI hlo (by decide)
  have hi_lo : cI (nI lo) = lo := cI_nI hlo (by decide)
  refine lv_aload hx hy dX6_leaseOf_15 (lv_at hl 0 rfl) ?_
  refine g_f C h ((ha.1 c hc) 0 (by decide)) (lo_Cas hc) (celF_Cas hc) rfl in_X6_leaseOf_X0 6 (by decide) (by decide +kernel) (v := .ref (V.1 (rGs c))) rfl dX6_leaseOf_17 ?_
  refine lv_iload_n hx hy dX6_leaseOf_20 rfl (lv_at hl 4 rfl) ?_
  refine g_a C h ((ha.1 c hc) 3 (by decide)) 3 (n := 3) (k := g) (lo_Gs hc) ((celF_Gs hc) _) rfl (by omega) (by decide) (a := V.1 (rGate c g)) rfl dX6_leaseOf_21 ?_
  refine g_f C h ((ha.1 c hc) (4 + 4 * g) (by omega)) (lo_Gate hc hg) (celF_Gate hc hg) rfl in_X6_leaseOf_X1 2 (by decide) (by decide +kernel) (v := .ref (V.1 (rLT c g))) rfl dX6_leaseOf_22 ?_
  refine lv_iload_n hx hy dX6_leaseOf_25 rfl (lv_at hl 2 rfl) ?_
  refine g_i C h ((ha.1 c hc) (7 + 4 * g) (by omega)) (n := 4) (k := lo) (lo_LT hc hg) (celF_LT hc hg) (by omega) (by decide) (v := (M (rLT c g) lo)) rfl dX6_leaseOf_26 ?_
  exact e_int C h rfl dX6_leaseOf_27 (⟨by simp [kG3, vG3, hi_c, hv_c, hc_c, hi_g, hv_g, hi_lo, hv_lo], by first | rfl | (simp only [hi_c, hv_c, hc_c, hi_g, hv_g, hi_lo, hv_lo]; done) | (simp only [hi_c, hv_c, hc_c, hi_g, hv_g, hi_lo, hv_lo]; rfl), by first | rfl | (simp only [hi_c, hv_c, hc_c, hi_g, hv_g, hi_lo, hv_lo]; done) | (simp only [hi_c, hv_c, hc_c, hi_g, hv_g, hi_lo, hv_lo]; rfl)⟩) (by decide) (by decide)

set_option maxRecDepth 20000 in
theorem at_X6_openFor_46 : ∀ w ∈ (nx_atS RX6 145 "java/util/NoSuchElementException" ["java/lang/RuntimeException", "java/lang/Exception"]).filter goodWord, w ∈ wsX6_openFor := by decide +kernel
set_option maxRecDepth 20000 in
theorem in_X6_openFor_X0 : ∀ x ∈ wsX00, x ∈ wsX6_openFor := by decide +kernel
set_option maxRecDepth 20000 in
theorem in_X6_openFor_X6 : ∀ x ∈ wsX60, x ∈ wsX6_openFor := by decide +kernel
set_option maxRecDepth 100000 in
set_option maxHeartbeats 4000000 in
/-- X6_openFor -/
theorem c_X6_openFor (l : Launch) {G : va_G} {V : wV} {rs : List Nat} (hl9 : l.stackTraces = false) (ha : bA rs) (M R : wM) (o : wO) (iv : IV M) (ca ga : Int32) : CT l G V rs yX6_openFor wsX6_openFor 8 131 3 18 [.ref (V.1 rMain), .int ca, .int ga] (M, R, o) (fun v u => kOpen M ca ga = 0 ∧ v = some (.int (nI (ofQ M (cI ca) (cI ga) (nowM M)))) ∧ u = (M, R, o)) (fun E u => XE [eIOE, eNSE] (kOpen M ca ga) E ∧ u = (M, R, o)) := by
  refine ct_of (cc := cX6_openFor) (maxL := 5) (ret := (some .int)) (by decide) rfl (Nat.le_of_ble_eq_true rfl) ?_
  intro p e s m below meth cd ls C h X hT hl
  have hx := C.1
  have hy := C.2.1
  have hl : lv_has ls 5 [(0, .ref (V.1 rMain)), (1, .int ca), (2, .int ga)] := hl
  have hsc := iv.2.1.2
  have htn := iv.2.2.1.2
  refine lv_aload_n hx hy dX6_openFor_0 rfl (lv_at hl 0 rfl) ?_
  refine lv_iload_n hx hy dX6_openFor_1 rfl (lv_at hl 1 rfl) ?_
  refine n_go C h hT (n_V (As := [.int ca]) (rest := []) C h X (ha.2 60 (by decide) (by decide)) (lo_Main.trans (celF_Main _)) rfl (c_X6_castleAt l hl9 ha M R o ca) (cwV 1 C.2.2.2.2.1 gX6_openFor_X6_castleAt rfl rfl rfl (by decide +kernel) ⟨Nat.le_of_ble_eq_true rfl, Nat.le_of_ble_eq_true rfl⟩) rfl hl.1 rfl (Nat.le_of_ble_eq_true rfl) dX6_openFor_2 ⟨by decide, by decide⟩) (fun E u hE => ⟨XE_of (k := 1) (by simp [kTow, kEnt, kVote, kBuild, kWait, kCut, vG3, kLease, kGive, kG3, kOpen, kCL, kC, kOrd, kHas, kScout, kRead, kRaid, kTruce, vP3, kPrep, kDec, kSet, kTC, hE.2.1]) (by decide) (by rw [hE.1]; rfl), hE.2.2⟩) (by decide) (by decide) (fun v_2 u_2 H locs hpo h => ?_)
  obtain ⟨rfl, c, hc, rfl, rfl⟩ := hpo
  have hv_c : vIn (nI c) 2 = true := vIn_nI hc (by decide)
  have hi_c : cI (nI c) = c := cI_nI hc (by decide)
  have hc_c : vC (nI c) = true := hv_c
  refine lv_astore_n (lv' := [(3, .ref (V.1 (rCas c))), (0, .ref (V.1 rMain)), (1, .int (nI c)), (2, .int ga)]) hx hy dX6_openFor_5 rfl hl (by decide) rfl (fun ls hl => ?_)
  refine lv_iload_n hx hy dX6_openFor_6 rfl (lv_at hl 3 rfl) ?_
  refine n_go C h hT (n_S (As := [.int ga]) (rest := []) C h X (c_X6_requireGate l hl9 M R o ga) (va_cwS 1 C.2.2.2.2.1 gX6_openFor_X6_requireGate rfl rfl rfl (by decide +kernel) ⟨Nat.le_of_ble_eq_true rfl, Nat.le_of_ble_eq_true rfl⟩) rfl hl.1 rfl (Nat.le_of_ble_eq_true rfl) dX6_openFor_7 ⟨by decide, by decide⟩) (fun E u hE => ⟨XE_of (k := 1) (by simp [kTow, kEnt, kVote, kBuild, kWait, kCut, vG3, kLease, kGive, kG3, kOpen, kCL, kC, kOrd, kHas, kScout, kRead, kRaid, kTruce, vP3, kPrep, kDec, kSet, kTC, hE.2.1, hi_c, hv_c, hc_c]) (by decide) (by rw [hE.1]; rfl), hE.2.2⟩) (by decide) (by decide) (fun v_7 u_7 H locs hpo h => ?_)
  obtain ⟨rfl, rfl, g, hg, rfl⟩ := hpo
  have hv_g : vIn (nI g) 3 = true := vIn_nI hg (by decide)
  have hi_g : cI (nI g) = g := cI_nI hg (by decide)
  refine lv_iconst (v := (nI 0)) hx hy dX6_openFor_10 (by decide) ?_
  refine lv_istore (lv' := [(4, .int (nI 0)), (3, .ref (V.1 (rCas c))), (0, .ref (V.1 rMain)), (1, .int (nI c)), (2, .int (nI g))]) hx hy dX6_openFor_11 hl (by decide) rfl (fun ls hl => ?_)
  have L_13 : ∀ (n_13 k : Nat), n_13 + k = 4 → (∀ j, j < k → (fun j => !gOpen M c g j (nowM M)) j = true) → ∀ (H : Heap) (locs : List Loc), HH G V rs (M, R, o) s H locs → ∀ ls : Array Slot, lv_has ls 5 [(4, .int (nI k)), (3, .ref (V.1 (rCas c))), (0, .ref (V.1 rMain)), (1, .int (nI c)), (2, .int (nI g))] → W p l e { frames := 8, cells := 3, slots := 18, locals := 131 } s m [.ref (V.1 rMain), .int (nI c), .int (nI g)].toArray below meth cd H locs 2 12 (QM G V rs below [.ref (V.1 rMain), .int (nI c), .int (nI g)].toArray s 3 18 (fun v u => kOpen M (nI c) (nI g) = 0 ∧ v = some (.int (nI (ofQ M (cI (nI c)) (cI (nI g)) (nowM M)))) ∧ u = (M, R, o)) (fun E u => XE [eIOE, eNSE] (kOpen M (nI c) (nI g)) E ∧ u = (M, R, o))) (F0 m 13 ls []) := by
    intro n_13
    induction n_13 with
    | zero =>
      intro k hk_13 hx13_0 H locs h ls hl
      have hz_13 : k = 4 := by omega
      try rw [hz_13] at h
      try rw [hz_13] at hl
      try rw [hz_13] at hx13_0
      refine lv_iload hx hy dX6_openFor_13 (lv_at hl 0 rfl) ?_
      refine lv_iconst (v := (nI 4)) hx hy dX6_openFor_15 (by decide) ?_
      refine n_ge hx hy (by decide) (by decide) (tgt := 46) dX6_openFor_16 (by decide) (fun c_16 => ?_) (fun c_16 => ?_)
      · skip
        exact t_narrowN (ic := 145) (ik := 141) (is := 143) (cls := "java/util/NoSuchElementException") (text := tx_143) C h X hT hl9 (by decide) (by decide) (by decide) hl.1 (by decide +kernel) (by decide +kernel) at_X6_openFor_46 bad_NSE good_NSE_141 dX6_openFor_46 dX6_openFor_49 dX6_openFor_50 dX6_openFor_52 dX6_openFor_55 (by decide) (by decide) (by decide) (by decide) (by decide) (by decide) (by have h9 : ofQ M c g (nowM M) = 4 := lead_all hx13_0; exact ⟨XE_of (k := 2) (by simp [kOpen, hi_c, hv_c, hc_c, hi_g, hv_g, h9]) (by decide) rfl, rfl⟩)
      · skip
        exact absurd c_16 (by omega)
    | succ n_13 ih_13 =>
      intro k hk_13 hx13_0 H locs h ls hl
      have hz_13 : k < 4 := by omega
      refine lv_iload hx hy dX6_openFor_13 (lv_at hl 0 rfl) ?_
      refine lv_iconst (v := (nI 4)) hx hy dX6_openFor_15 (by decide) ?_
      refine n_ge hx hy (by omega) (by decide) (tgt := 46) dX6_openFor_16 (by decide) (fun c_16 => ?_) (fun c_16 => ?_)
      · skip
        exact absurd c_16 (by omega)
      · skip
        refine lv_aload_n hx hy dX6_openFor_19 rfl (lv_at hl 1 rfl) ?_
        refine g_f C h ((ha.1 c hc) 0 (by decide)) (lo_Cas hc) (celF_Cas hc) rfl in_X6_openFor_X0 6 (by decide) (by decide +kernel) (v := .ref (V.1 (rGs c))) rfl dX6_openFor_20 ?_
        refine lv_iload_n hx hy dX6_openFor_23 rfl (lv_at hl 4 rfl) ?_
        refine g_a C h ((ha.1 c hc) 3 (by decide)) 3 (n := 3) (k := g) (lo_Gs hc) ((celF_Gs hc) _) rfl (by omega) (by decide) (a := V.1 (rGate c g)) rfl dX6_openFor_24 ?_
        refine lv_iload hx hy dX6_openFor_25 (lv_at hl 0 rfl) ?_
        refine lv_aload_n hx hy dX6_openFor_27 rfl (lv_at hl 2 rfl) ?_
        refine g_f C h (ha.2 60 (by decide) (by decide)) lo_Main celF_Main rfl in_X6_openFor_X6 7 (by decide) (by decide +kernel) (v := .int (M rMain 7)) rfl dX6_openFor_28 ?_
        refine n_go0 C h (n_V (As := [.int (nI k), .int (M rMain 7)]) (rest := []) C h X ((ha.1 c hc) (4 + 4 * g) (by omega)) ((lo_Gate hc hg).trans ((celF_Gate hc hg) _)) rfl (c_X1_isOpenFor l c g hc hg (ha.1 c hc) M R o k (by omega) (M rMain 7)) (cwV 2 C.2.2.2.2.1 gX6_openFor_X1_isOpenFor rfl rfl rfl (by decide +kernel) ⟨Nat.le_of_ble_eq_true rfl, Nat.le_of_ble_eq_true rfl⟩) rfl hl.1 rfl (Nat.le_of_ble_eq_true rfl) dX6_openFor_31 ⟨by decide, by decide⟩) (fun _ _ z => z) (fun v_31 u_31 H locs hpo h => ?_)
        obtain ⟨rfl, rfl⟩ := hpo
        refine b_eq hx hy (tgt := 40) dX6_openFor_34 (by decide) (fun c_34 => ?_) (fun c_34 => ?_)
        · skip
          refine lv_iinc (v := (nI (k + 1))) (lv' := [(4, .int (nI (k + 1))), (3, .ref (V.1 (rCas c))), (0, .ref (V.1 rMain)), (1, .int (nI c)), (2, .int (nI g))]) hx hy dX6_openFor_40 hl (k := 0) rfl (nI_1 _) (by decide) rfl (fun ls hl => ?_)
          refine lv_goto (tgt := 13) hx hy dX6_openFor_43 (by decide) ?_
          exact ih_13 (k + 1) (by omega) (ext_lt hx13_0 (by simp [eq_true c_16, eq_false (Nat.not_le.mpr c_16), c_34])) _ _ h _ (by have hl := lv_sub hl [0, 1, 2, 3, 4] (l' := [(4, .int (nI (k + 1))), (3, .ref (V.1 (rCas c))), (0, .ref (V.1 rMain)), (1, .int (nI c)), (2, .int (nI g))]) rfl; rw [show (.int (nI (k + 1)) : Value) = .int (nI (k + 1)) from rfl] at hl; exact hl)
        · skip
          refine lv_iload hx hy dX6_openFor_37 (lv_at hl 0 rfl) ?_
          exact e_int C h rfl dX6_openFor_39 (by have h9 : ofQ M c g (nowM M) = k := lead_at (p := (fun j => !gOpen M c g j (nowM M))) (Nat.le_of_lt hz_13) hx13_0 (by simp [eq_true c_16, eq_false (Nat.not_le.mpr c_16), c_34]); exact ⟨by simp [kOpen, hi_c, hv_c, hc_c, hi_g, hv_g, h9, hz_13], by simp [hi_c, hv_c, hc_c, hi_g, hv_g, h9], rfl⟩) (by decide) (by decide)
  exact L_13 (4) 0 (by omega) (fun j hj => absurd hj (Nat.not_lt_zero j)) _ _ h _ (lv_sub hl [0, 1, 2, 3, 4] rfl)

set_option maxRecDepth 20000 in
theorem in_X6_voteOf_X1 : ∀ x ∈ wsX10, x ∈ wsX6_voteOf := by decide +kernel
set_option maxRecDepth 100000 in
set_option maxHeartbeats 4000000 in
/-- X6_voteOf -/
theorem c_X6_voteOf (l : Launch) {G : va_G} {V : wV} {rs : List Nat} (hl9 : l.stackTraces = false) (ha : bA rs) (M R : wM) (o : wO) (iv : IV M) (ca to ga : Int32) : CT l G V rs yX6_voteOf wsX6_voteOf 9 156 4 24 [.ref (V.1 rMain), .int ca, .int to, .int ga] (M, R, o) (fun v u => kVote M ca to ga = 0 ∧ v = some (.int (M (rVL (cI ca) (cI ga)) (cI to))) ∧ u = (M, R, o)) (fun E u => XE [eIOE, eNSE] (kVote M ca to ga) E ∧ u = (M, R, o)) := by
  refine ct_of (cc := cX6_voteOf) (maxL := 4) (ret := (some .int)) (by decide) rfl (Nat.le_of_ble_eq_true rfl) ?_
  intro p e s m below meth cd ls C h X hT hl
  have hx := C.1
  have hy := C.2.1
  have hl : lv_has ls 4 [(0, .ref (V.1 rMain)), (1, .int ca), (2, .int to), (3, .int ga)] := hl
  have hsc := iv.2.1.2
  have htn := iv.2.2.1.2
  refine lv_aload_n hx hy dX6_voteOf_0 rfl (lv_at hl 0 rfl) ?_
  refine lv_iload_n hx hy dX6_voteOf_1 rfl (lv_at hl 1 rfl) ?_
  refine lv_iload_n hx hy dX6_voteOf_2 rfl (lv_at hl 2 rfl) ?_
  refine lv_iload_n hx hy dX6_voteOf_3 rfl (lv_at hl 3 rfl) ?_
  refine n_go C h hT (n_V (As := [.int ca, .int to, .int ga]) (rest := []) C h X (ha.2 60 (by decide) (by decide)) (lo_Main.trans (celF_Main _)) rfl (c_X6_gateWithVote l hl9 ha M R o iv ca to ga) (cwV 3 C.2.2.2.2.1 gX6_voteOf_X6_gateWithVote rfl rfl rfl (by decide +kernel) ⟨Nat.le_of_ble_eq_true rfl, Nat.le_of_ble_eq_true rfl⟩) rfl hl.1 rfl (Nat.le_of_ble_eq_true rfl) dX6_voteOf_4 ⟨by decide, by decide⟩) (fun E u hE => hE) (by decide) (by decide) (fun v_4 u_4 H locs hpo h => ?_)
  obtain ⟨rfl, c, t, g, hc, ht, hg, rfl, rfl, rfl, hheld, rfl⟩ := hpo
  have htc9 := (iv.1 c hc).2.1
  have ht7 : t < 7 := by omega
  have hv_c : vIn (nI c) 2 = true := vIn_nI hc (by decide)
  have hi_c : cI (nI c) = c := nI_clamp (by omega)
  have hv_t : vIn (nI t) (tcN M c) = true := vIn_nI ht (by omega)
  have hi_t : cI (nI t) = t := nI_clamp (by omega)
  have hv_g : vIn (nI g) 3 = true := vIn_nI hg (by decide)
  have hi_g : cI (nI g) = g := nI_clamp (by omega)
  have hc_c : vC (nI c) = true := hv_c
  refine g_f C h ((ha.1 c hc) (4 + 4 * g) (by omega)) (lo_Gate hc hg) (celF_Gate hc hg) rfl in_X6_voteOf_X1 0 (by decide) (by decide +kernel) (v := .ref (V.1 (rVL c g))) rfl dX6_voteOf_7 ?_
  refine lv_iload_n hx hy dX6_voteOf_10 rfl (lv_at hl 2 rfl) ?_
  refine g_i C h ((ha.1 c hc) (5 + 4 * g) (by omega)) (n := 7) (k := t) (lo_VL hc hg) (celF_VL hc hg) (by omega) (by decide) (v := (M (rVL c g) t)) rfl dX6_voteOf_11 ?_
  exact e_int C h rfl dX6_voteOf_12 (⟨by simp [kVote, hi_c, hv_c, hi_t, hv_t, hi_g, hv_g, hc_c, hheld], by first | rfl | (simp only [hi_c, hv_c, hi_t, hv_t, hi_g, hv_g, hc_c, hheld]; done) | (simp only [hi_c, hv_c, hi_t, hv_t, hi_g, hv_g, hc_c, hheld]; rfl), by first | rfl | (simp only [hi_c, hv_c, hi_t, hv_t, hi_g, hv_g, hc_c, hheld]; done) | (simp only [hi_c, hv_c, hi_t, hv_t, hi_g, hv_g, hc_c, hheld]; rfl)⟩) (by decide) (by decide)

set_option maxRecDepth 20000 in
theorem in_X6_voteTill_X1 : ∀ x ∈ wsX10, x ∈ wsX6_voteTill := by decide +kernel
set_option maxRecDepth 100000 in
set_option maxHeartbeats 4000000 in
/-- X6_voteTill -/
theorem c_X6_voteTill (l : Launch) {G : va_G} {V : wV} {rs : List Nat} (hl9 : l.stackTraces = false) (ha : bA rs) (M R : wM) (o : wO) (iv : IV M) (ca to ga : Int32) : CT l G V rs yX6_voteTill wsX6_voteTill 9 156 4 24 [.ref (V.1 rMain), .int ca, .int to, .int ga] (M, R, o) (fun v u => kVote M ca to ga = 0 ∧ v = some (.int (M (rVT (cI ca) (cI ga)) (cI to))) ∧ u = (M, R, o)) (fun E u => XE [eIOE, eNSE] (kVote M ca to ga) E ∧ u = (M, R, o)) := by
  refine ct_of (cc := cX6_voteTill) (maxL := 4) (ret := (some .int)) (by decide) rfl (Nat.le_of_ble_eq_true rfl) ?_
  intro p e s m below meth cd ls C h X hT hl
  have hx := C.1
  have hy := C.2.1
  have hl : lv_has ls 4 [(0, .ref (V.1 rMain)), (1, .int ca), (2, .int to), (3, .int ga)] := hl
  have hsc := iv.2.1.2
  have htn := iv.2.2.1.2
  refine lv_aload_n hx hy dX6_voteTill_0 rfl (lv_at hl 0 rfl) ?_
  refine lv_iload_n hx hy dX6_voteTill_1 rfl (lv_at hl 1 rfl) ?_
  refine lv_iload_n hx hy dX6_voteTill_2 rfl (lv_at hl 2 rfl) ?_
  refine lv_iload_n hx hy dX6_voteTill_3 rfl (lv_at hl 3 rfl) ?_
  refine n_go C h hT (n_V (As := [.int ca, .int to, .int ga]) (rest := []) C h X (ha.2 60 (by decide) (by decide)) (lo_Main.trans (celF_Main _)) rfl (c_X6_gateWithVote l hl9 ha M R o iv ca to ga) (cwV 3 C.2.2.2.2.1 gX6_voteTill_X6_gateWithVote rfl rfl rfl (by decide +kernel) ⟨Nat.le_of_ble_eq_true rfl, Nat.le_of_ble_eq_true rfl⟩) rfl hl.1 rfl (Nat.le_of_ble_eq_true rfl) dX6_voteTill_4 ⟨by decide, by decide⟩) (fun E u hE => hE) (by decide) (by decide) (fun v_4 u_4 H locs hpo h => ?_)
  obtain ⟨rfl, c, t, g, hc, ht, hg, rfl, rfl, rfl, hheld, rfl⟩ := hpo
  have htc9 := (iv.1 c hc).2.1
  have ht7 : t < 7 := by omega
  have hv_c : vIn (nI c) 2 = true := vIn_nI hc (by decide)
  have hi_c : cI (nI c) = c := nI_clamp (by omega)
  have hv_t : vIn (nI t) (tcN M c) = true := vIn_nI ht (by omega)
  have hi_t : cI (nI t) = t := nI_clamp (by omega)
  have hv_g : vIn (nI g) 3 = true := vIn_nI hg (by decide)
  have hi_g : cI (nI g) = g := nI_clamp (by omega)
  have hc_c : vC (nI c) = true := hv_c
  refine g_f C h ((ha.1 c hc) (4 + 4 * g) (by omega)) (lo_Gate hc hg) (celF_Gate hc hg) rfl in_X6_voteTill_X1 1 (by decide) (by decide +kernel) (v := .ref (V.1 (rVT c g))) rfl dX6_voteTill_7 ?_
  refine lv_iload_n hx hy dX6_voteTill_10 rfl (lv_at hl 2 rfl) ?_
  refine g_i C h ((ha.1 c hc) (6 + 4 * g) (by omega)) (n := 7) (k := t) (lo_VT hc hg) (celF_VT hc hg) (by omega) (by decide) (v := (M (rVT c g) t)) rfl dX6_voteTill_11 ?_
  exact e_int C h rfl dX6_voteTill_12 (⟨by simp [kVote, hi_c, hv_c, hi_t, hv_t, hi_g, hv_g, hc_c, hheld], by first | rfl | (simp only [hi_c, hv_c, hi_t, hv_t, hi_g, hv_g, hc_c, hheld]; done) | (simp only [hi_c, hv_c, hi_t, hv_t, hi_g, hv_g, hc_c, hheld]; rfl), by first | rfl | (simp only [hi_c, hv_c, hi_t, hv_t, hi_g, hv_g, hc_c, hheld]; done) | (simp only [hi_c, hv_c, hi_t, hv_t, hi_g, hv_g, hc_c, hheld]; rfl)⟩) (by decide) (by decide)

set_option maxRecDepth 100000 in
set_option maxHeartbeats 4000000 in
/-- X6_near -/
theorem c_X6_near (l : Launch) {G : va_G} {V : wV} {rs : List Nat} (hl9 : l.stackTraces = false) (ha : bA rs) (M R : wM) (o : wO) (iv : IV M) (lo0 ca : Int32) : CT l G V rs yX6_near wsX6_near 8 131 2 12 [.ref (V.1 rMain), .int lo0, .int ca] (M, R, o) (fun v u => kCL ca lo0 = 0 ∧ v = some (.int (bcI (nearI M (cI ca) (cI lo0)))) ∧ u = (M, R, o)) (fun E u => XE [eIOE] (kCL ca lo0) E ∧ u = (M, R, o)) := by
  refine ct_of (cc := cX6_near) (maxL := 4) (ret := (some .int)) (by decide) rfl (Nat.le_of_ble_eq_true rfl) ?_
  intro p e s m below meth cd ls C h X hT hl
  have hx := C.1
  have hy := C.2.1
  have hl : lv_has ls 4 [(0, .ref (V.1 rMain)), (1, .int lo0), (2, .int ca)] := hl
  have hsc := iv.2.1.2
  have htn := iv.2.2.1.2
  refine lv_aload_n hx hy dX6_near_0 rfl (lv_at hl 0 rfl) ?_
  refine lv_iload_n hx hy dX6_near_1 rfl (lv_at hl 2 rfl) ?_
  refine n_go C h hT (n_V (As := [.int ca]) (rest := []) C h X (ha.2 60 (by decide) (by decide)) (lo_Main.trans (celF_Main _)) rfl (c_X6_castleAt l hl9 ha M R o ca) (cwV 1 C.2.2.2.2.1 gX6_near_X6_castleAt rfl rfl rfl (by decide +kernel) ⟨Nat.le_of_ble_eq_true rfl, Nat.le_of_ble_eq_true rfl⟩) rfl hl.1 rfl (Nat.le_of_ble_eq_true rfl) dX6_near_2 ⟨by decide, by decide⟩) (fun E u hE => ⟨XE_of (k := 1) (by simp [kTow, kEnt, kVote, kBuild, kWait, kCut, vG3, kLease, kGive, kG3, kOpen, kCL, kC, kOrd, kHas, kScout, kRead, kRaid, kTruce, vP3, kPrep, kDec, kSet, kTC, hE.2.1]) (by decide) (by rw [hE.1]; rfl), hE.2.2⟩) (by decide) (by decide) (fun v_2 u_2 H locs hpo h => ?_)
  obtain ⟨rfl, c, hc, rfl, rfl⟩ := hpo
  have hv_c : vIn (nI c) 2 = true := vIn_nI hc (by decide)
  have hi_c : cI (nI c) = c := cI_nI hc (by decide)
  have hc_c : vC (nI c) = true := hv_c
  refine lv_astore_n (lv' := [(3, .ref (V.1 (rCas c))), (0, .ref (V.1 rMain)), (1, .int lo0), (2, .int (nI c))]) hx hy dX6_near_5 rfl hl (by decide) rfl (fun ls hl => ?_)
  refine lv_iload_n hx hy dX6_near_6 rfl (lv_at hl 2 rfl) ?_
  refine n_go C h hT (n_S (As := [.int lo0]) (rest := []) C h X (c_X6_requireLord l hl9 M R o lo0) (va_cwS 1 C.2.2.2.2.1 gX6_near_X6_requireLord rfl rfl rfl (by decide +kernel) ⟨Nat.le_of_ble_eq_true rfl, Nat.le_of_ble_eq_true rfl⟩) rfl hl.1 rfl (Nat.le_of_ble_eq_true rfl) dX6_near_7 ⟨by decide, by decide⟩) (fun E u hE => ⟨XE_of (k := 1) (by simp [kTow, kEnt, kVote, kBuild, kWait, kCut, vG3, kLease, kGive, kG3, kOpen, kCL, kC, kOrd, kHas, kScout, kRead, kRaid, kTruce, vP3, kPrep, kDec, kSet, kTC, hE.2.1, hi_c, hv_c, hc_c]) (by decide) (by rw [hE.1]; rfl), hE.2.2⟩) (by decide) (by decide) (fun v_7 u_7 H locs hpo h => ?_)
  obtain ⟨rfl, rfl, lo, hlo, rfl⟩ := hpo
  have hv_lo : vIn (nI lo) 4 = true := vIn_nI hlo (by decide)
  have hi_lo : cI (nI lo) = lo := cI_nI hlo (by decide)
  refine lv_aload_n hx hy dX6_near_10 rfl (lv_at hl 0 rfl) ?_
  refine lv_iload_n hx hy dX6_near_11 rfl (lv_at hl 2 rfl) ?_
  refine n_go0 C h (n_V (As := [.int (nI lo)]) (rest := []) C h X ((ha.1 c hc) 0 (by decide)) ((lo_Cas hc).trans ((celF_Cas hc) _)) rfl (c_X0_towersNear l c hc (ha.1 c hc) M R o lo hlo) (cwV 1 C.2.2.2.2.1 gX6_near_X0_towersNear rfl rfl rfl (by decide +kernel) ⟨Nat.le_of_ble_eq_true rfl, Nat.le_of_ble_eq_true rfl⟩) rfl hl.1 rfl (Nat.le_of_ble_eq_true rfl) dX6_near_12 ⟨by decide, by decide⟩) (fun _ _ z => z) (fun v_12 u_12 H locs hpo h => ?_)
  obtain ⟨rfl, rfl⟩ := hpo
  refine n_go0 C h (n_S (As := [.int (nearI M c lo)]) (rest := []) C h X (c_J6_bitCount_0f7a4 l M R o (nearI M c lo)) (va_cwS 1 C.2.2.2.2.1 gX6_near_J6_bitCount_0f7a4 rfl rfl rfl (by decide +kernel) ⟨Nat.le_of_ble_eq_true rfl, Nat.le_of_ble_eq_true rfl⟩) rfl hl.1 rfl (Nat.le_of_ble_eq_true rfl) dX6_near_15 ⟨by decide, by decide⟩) (fun _ _ z => z) (fun v_15 u_15 H locs hpo h => ?_)
  obtain ⟨rfl, rfl⟩ := hpo
  exact e_int C h rfl dX6_near_18 (⟨by simp [kCL, hi_c, hv_c, hc_c, hi_lo, hv_lo], by first | rfl | (simp only [hi_c, hv_c, hc_c, hi_lo, hv_lo]; done) | (simp only [hi_c, hv_c, hc_c, hi_lo, hv_lo]; rfl), by first | rfl | (simp only [hi_c, hv_c, hc_c, hi_lo, hv_lo]; done) | (simp only [hi_c, hv_c, hc_c, hi_lo, hv_lo]; rfl)⟩) (by decide) (by decide)

set_option maxRecDepth 20000 in
theorem in_X6_tower_X6 : ∀ x ∈ wsX60, x ∈ wsX6_tower := by decide +kernel
set_option maxRecDepth 100000 in
set_option maxHeartbeats 4000000 in
/-- X6_tower -/
theorem c_X6_tower (l : Launch) {G : va_G} {V : wV} {rs : List Nat} (hl9 : l.stackTraces = false) (ha : bA rs) (M R : wM) (o : wO) (iv : IV M) (ca to : Int32) : CT l G V rs yX6_tower wsX6_tower 8 131 2 12 [.ref (V.1 rMain), .int ca, .int to] (M, R, o) (fun v u => kTow M ca to = 0 ∧ v = some (.int (towR M (cI ca) (cI to) (nowM M))) ∧ u = (M, R, o)) (fun E u => XE [eIOE] (kTow M ca to) E ∧ u = (M, R, o)) := by
  refine ct_of (cc := cX6_tower) (maxL := 4) (ret := (some .char)) (by decide) rfl (Nat.le_of_ble_eq_true rfl) ?_
  intro p e s m below meth cd ls C h X hT hl
  have hx := C.1
  have hy := C.2.1
  have hl : lv_has ls 4 [(0, .ref (V.1 rMain)), (1, .int ca), (2, .int to)] := hl
  have hsc := iv.2.1.2
  have htn := iv.2.2.1.2
  refine lv_aload_n hx hy dX6_tower_0 rfl (lv_at hl 0 rfl) ?_
  refine lv_iload_n hx hy dX6_tower_1 rfl (lv_at hl 1 rfl) ?_
  refine n_go C h hT (n_V (As := [.int ca]) (rest := []) C h X (ha.2 60 (by decide) (by decide)) (lo_Main.trans (celF_Main _)) rfl (c_X6_castleAt l hl9 ha M R o ca) (cwV 1 C.2.2.2.2.1 gX6_tower_X6_castleAt rfl rfl rfl (by decide +kernel) ⟨Nat.le_of_ble_eq_true rfl, Nat.le_of_ble_eq_true rfl⟩) rfl hl.1 rfl (Nat.le_of_ble_eq_true rfl) dX6_tower_2 ⟨by decide, by decide⟩) (fun E u hE => ⟨XE_of (k := 1) (by simp [kTow, kEnt, kVote, kBuild, kWait, kCut, vG3, kLease, kGive, kG3, kOpen, kCL, kC, kOrd, kHas, kScout, kRead, kRaid, kTruce, vP3, kPrep, kDec, kSet, kTC, hE.2.1]) (by decide) (by rw [hE.1]; rfl), hE.2.2⟩) (by decide) (by decide) (fun v_2 u_2 H locs hpo h => ?_)
  obtain ⟨rfl, c, hc, rfl, rfl⟩ := hpo
  have hv_c : vIn (nI c) 2 = true := vIn_nI hc (by decide)
  have hi_c : cI (nI c) = c := cI_nI hc (by decide)
  have hc_c : vC (nI c) = true := hv_c
  refine lv_astore_n (lv' := [(3, .ref (V.1 (rCas c))), (0, .ref (V.1 rMain)), (1, .int (nI c)), (2, .int to)]) hx hy dX6_tower_5 rfl hl (by decide) rfl (fun ls hl => ?_)
  refine lv_aload_n hx hy dX6_tower_6 rfl (lv_at hl 0 rfl) ?_
  refine lv_iload_n hx hy dX6_tower_7 rfl (lv_at hl 3 rfl) ?_
  refine n_go C h hT (n_S (As := [.ref (V.1 (rCas c)), .int to]) (rest := []) C h X (c_X6_requireTower l hl9 c hc (ha.1 c hc) M R o (tcN M c) (iv.1 c hc).2.1 (iv.1 c hc).1 to) (va_cwS 2 C.2.2.2.2.1 gX6_tower_X6_requireTower rfl rfl rfl (by decide +kernel) ⟨Nat.le_of_ble_eq_true rfl, Nat.le_of_ble_eq_true rfl⟩) rfl hl.1 rfl (Nat.le_of_ble_eq_true rfl) dX6_tower_8 ⟨by decide, by decide⟩) (fun E u hE => ⟨XE_of (k := 1) (by simp [kTow, kEnt, kVote, kBuild, kWait, kCut, vG3, kLease, kGive, kG3, kOpen, kCL, kC, kOrd, kHas, kScout, kRead, kRaid, kTruce, vP3, kPrep, kDec, kSet, kTC, hE.2.1, hi_c, hv_c, hc_c]) (by decide) (by rw [hE.1]; rfl), hE.2.2⟩) (by decide) (by decide) (fun v_8 u_8 H locs hpo h => ?_)
  have htc7 := (iv.1 c hc).2.1
  obtain ⟨rfl, rfl, t, ht, rfl⟩ := hpo
  have hv_t : vIn (nI t) (tcN M c) = true := vIn_nI ht (by omega)
  have hi_t : cI (nI t) = t := cI_nI ht (by omega)
  have ht7 : t < 7 := by omega
  refine lv_aload_n hx hy dX6_tower_11 rfl (lv_at hl 0 rfl) ?_
  refine lv_iload_n hx hy dX6_tower_12 rfl (lv_at hl 3 rfl) ?_
  refine n_go0 C h (n_V (As := [.int (nI t)]) (rest := []) C h X ((ha.1 c hc) 0 (by decide)) ((lo_Cas hc).trans ((celF_Cas hc) _)) rfl (c_X0_isUp l c hc (ha.1 c hc) M R o t ht7) (cwV 1 C.2.2.2.2.1 gX6_tower_X0_isUp rfl rfl rfl (by decide +kernel) ⟨Nat.le_of_ble_eq_true rfl, Nat.le_of_ble_eq_true rfl⟩) rfl hl.1 rfl (Nat.le_of_ble_eq_true rfl) dX6_tower_13 ⟨by decide, by decide⟩) (fun _ _ z => z) (fun v_13 u_13 H locs hpo h => ?_)
  obtain ⟨rfl, rfl⟩ := hpo
  refine b_ne hx hy (tgt := 22) dX6_tower_16 (by decide) (fun c_16 => ?_) (fun c_16 => ?_)
  · skip
    refine lv_aload_n hx hy dX6_tower_22 rfl (lv_at hl 0 rfl) ?_
    refine lv_iload_n hx hy dX6_tower_23 rfl (lv_at hl 3 rfl) ?_
    refine lv_aload_n hx hy dX6_tower_24 rfl (lv_at hl 1 rfl) ?_
    refine g_f C h (ha.2 60 (by decide) (by decide)) lo_Main celF_Main rfl in_X6_tower_X6 7 (by decide) (by decide +kernel) (v := .int (M rMain 7)) rfl dX6_tower_25 ?_
    refine n_go0 C h (n_V (As := [.int (nI t), .int (M rMain 7)]) (rest := []) C h X ((ha.1 c hc) 0 (by decide)) ((lo_Cas hc).trans ((celF_Cas hc) _)) rfl (c_X0_isWaiting l c hc (ha.1 c hc) M R o t ht7 (M rMain 7)) (cwV 2 C.2.2.2.2.1 gX6_tower_X0_isWaiting rfl rfl rfl (by decide +kernel) ⟨Nat.le_of_ble_eq_true rfl, Nat.le_of_ble_eq_true rfl⟩) rfl hl.1 rfl (Nat.le_of_ble_eq_true rfl) dX6_tower_28 ⟨by decide, by decide⟩) (fun _ _ z => z) (fun v_28 u_28 H locs hpo h => ?_)
    obtain ⟨rfl, rfl⟩ := hpo
    refine b_eq hx hy (tgt := 39) dX6_tower_31 (by decide) (fun c_31 => ?_) (fun c_31 => ?_)
    · skip
      refine lv_bipush (v := (nI 117)) hx hy dX6_tower_39 (by decide) ?_
      exact e_int C h (by decide) dX6_tower_41 (⟨by simp [kTow, hi_c, hv_c, hc_c, hi_t, hv_t, c_16, c_31], by simp [towR, hi_c, hv_c, hc_c, hi_t, hv_t, c_16, c_31], rfl⟩) (by decide) (by decide)
    · skip
      refine lv_bipush (v := (nI 119)) hx hy dX6_tower_34 (by decide) ?_
      refine lv_goto (tgt := 41) hx hy dX6_tower_36 (by decide) ?_
      exact e_int C h (by decide) dX6_tower_41 (⟨by simp [kTow, hi_c, hv_c, hc_c, hi_t, hv_t, c_16, c_31], by simp [towR, hi_c, hv_c, hc_c, hi_t, hv_t, c_16, c_31], rfl⟩) (by decide) (by decide)
  · skip
    refine lv_bipush (v := (nI 100)) hx hy dX6_tower_19 (by decide) ?_
    exact e_int C h (by decide) dX6_tower_21 (⟨by simp [kTow, hi_c, hv_c, hc_c, hi_t, hv_t, c_16], by simp [towR, hi_c, hv_c, hc_c, hi_t, hv_t, c_16], rfl⟩) (by decide) (by decide)

set_option maxRecDepth 20000 in
theorem in_X6_order_X0 : ∀ x ∈ wsX00, x ∈ wsX6_order := by decide +kernel
set_option maxRecDepth 20000 in
theorem in_X6_order_X6 : ∀ x ∈ wsX60, x ∈ wsX6_order := by decide +kernel
set_option maxRecDepth 20000 in
theorem at_X6_order_107 : ∀ w ∈ (vx_atS RX6 62 "java/lang/UnsupportedOperationException" ["java/lang/RuntimeException", "java/lang/Exception"]).filter goodWord, w ∈ wsX6_order := by decide +kernel
set_option maxRecDepth 20000 in
theorem at_X6_order_84 : ∀ w ∈ (vx_atS RX6 62 "java/lang/UnsupportedOperationException" ["java/lang/RuntimeException", "java/lang/Exception"]).filter goodWord, w ∈ wsX6_order := by decide +kernel
set_option maxRecDepth 20000 in
theorem in_X6_order_X2 : ∀ x ∈ wsX20, x ∈ wsX6_order := by decide +kernel
set_option maxRecDepth 20000 in
theorem at_X6_order_38 : ∀ w ∈ (vx_atS RX6 62 "java/lang/UnsupportedOperationException" ["java/lang/RuntimeException", "java/lang/Exception"]).filter goodWord, w ∈ wsX6_order := by decide +kernel
set_option maxRecDepth 100000 in
set_option maxHeartbeats 4000000 in
/-- X6_order -/
theorem c_X6_order (l : Launch) {G : va_G} {V : wV} {rs : List Nat} (hl9 : l.stackTraces = false) (ha : bA rs) (M R : wM) (o : wO) (iv : IV M) (lo0 ca ga : Int32) (isIn : Bool) (am : Int32) : CT l G V rs yX6_order wsX6_order 8 131 5 30 [.ref (V.1 rMain), .int lo0, .int ca, .int ga, .int (b2i isIn), .int am] (M, R, o) (fun v u => kOrd M lo0 ca ga isIn am = 0 ∧ v = some (.int (nI (szN M (cI ca)))) ∧ u = (ordM M (cI ca) (cI lo0) isIn am, R, o)) (fun E u => XE [eIOE, eIAE, eUOE, eISE] (kOrd M lo0 ca ga isIn am) E ∧ u = (ordX M lo0 ca ga am, R, o)) := by
  refine ct_of (cc := cX6_order) (maxL := 10) (ret := (some .int)) (by decide) rfl (Nat.le_of_ble_eq_true rfl) ?_
  intro p e s m below meth cd ls C h X hT hl
  have hx := C.1
  have hy := C.2.1
  have hl : lv_has ls 10 [(0, .ref (V.1 rMain)), (1, .int lo0), (2, .int ca), (3, .int ga), (4, .int (b2i isIn)), (5, .int am)] := hl
  have hsc := iv.2.1.2
  have htn := iv.2.2.1.2
  refine lv_aload_n hx hy dX6_order_0 rfl (lv_at hl 0 rfl) ?_
  refine lv_iload_n hx hy dX6_order_1 rfl (lv_at hl 2 rfl) ?_
  refine n_go C h hT (n_V (As := [.int ca]) (rest := []) C h X (ha.2 60 (by decide) (by decide)) (lo_Main.trans (celF_Main _)) rfl (c_X6_castleAt l hl9 ha M R o ca) (cwV 1 C.2.2.2.2.1 gX6_order_X6_castleAt rfl rfl rfl (by decide +kernel) ⟨Nat.le_of_ble_eq_true rfl, Nat.le_of_ble_eq_true rfl⟩) rfl hl.1 rfl (Nat.le_of_ble_eq_true rfl) dX6_order_2 ⟨by decide, by decide⟩) (fun E u hE => ⟨XE_of (k := 1) (by simp [kTow, kEnt, kVote, kBuild, kWait, kCut, vG3, kLease, kGive, kG3, kOpen, kCL, kC, kOrd, kHas, kScout, kRead, kRaid, kTruce, vP3, kPrep, kDec, kSet, kTC, hE.2.1]) (by decide) (by rw [hE.1]; rfl), by rw [hE.2.2]; simp [ordX, vG3, hE.2.1]⟩) (by decide) (by decide) (fun v_2 u_2 H locs hpo h => ?_)
  obtain ⟨rfl, c, hc, rfl, rfl⟩ := hpo
  have hv_c : vIn (nI c) 2 = true := vIn_nI hc (by decide)
  have hi_c : cI (nI c) = c := cI_nI hc (by decide)
  have hc_c : vC (nI c) = true := hv_c
  refine lv_astore (lv' := [(6, .ref (V.1 (rCas c))), (0, .ref (V.1 rMain)), (1, .int lo0), (2, .int (nI c)), (3, .int ga), (4, .int (b2i isIn)), (5, .int am)]) hx hy dX6_order_5 hl (by decide) rfl (fun ls hl => ?_)
  refine lv_iload_n hx hy dX6_order_7 rfl (lv_at hl 4 rfl) ?_
  refine n_go C h hT (n_S (As := [.int ga]) (rest := []) C h X (c_X6_requireGate l hl9 M R o ga) (va_cwS 1 C.2.2.2.2.1 gX6_order_X6_requireGate rfl rfl rfl (by decide +kernel) ⟨Nat.le_of_ble_eq_true rfl, Nat.le_of_ble_eq_true rfl⟩) rfl hl.1 rfl (Nat.le_of_ble_eq_true rfl) dX6_order_8 ⟨by decide, by decide⟩) (fun E u hE => ⟨XE_of (k := 1) (by simp [kTow, kEnt, kVote, kBuild, kWait, kCut, vG3, kLease, kGive, kG3, kOpen, kCL, kC, kOrd, kHas, kScout, kRead, kRaid, kTruce, vP3, kPrep, kDec, kSet, kTC, hE.2.1, hi_c, hv_c, hc_c]) (by decide) (by rw [hE.1]; rfl), by rw [hE.2.2]; simp [ordX, vG3, hE.2.1, hi_c, hv_c, hc_c]⟩) (by decide) (by decide) (fun v_8 u_8 H locs hpo h => ?_)
  obtain ⟨rfl, rfl, g, hg, rfl⟩ := hpo
  have hv_g : vIn (nI g) 3 = true := vIn_nI hg (by decide)
  have hi_g : cI (nI g) = g := cI_nI hg (by decide)
  refine lv_iload_n hx hy dX6_order_11 rfl (lv_at hl 2 rfl) ?_
  refine n_go C h hT (n_S (As := [.int lo0]) (rest := []) C h X (c_X6_requireLord l hl9 M R o lo0) (va_cwS 1 C.2.2.2.2.1 gX6_order_X6_requireLord rfl rfl rfl (by decide +kernel) ⟨Nat.le_of_ble_eq_true rfl, Nat.le_of_ble_eq_true rfl⟩) rfl hl.1 rfl (Nat.le_of_ble_eq_true rfl) dX6_order_12 ⟨by decide, by decide⟩) (fun E u hE => ⟨XE_of (k := 1) (by simp [kTow, kEnt, kVote, kBuild, kWait, kCut, vG3, kLease, kGive, kG3, kOpen, kCL, kC, kOrd, kHas, kScout, kRead, kRaid, kTruce, vP3, kPrep, kDec, kSet, kTC, hE.2.1, hi_c, hv_c, hc_c, hi_g, hv_g]) (by decide) (by rw [hE.1]; rfl), by rw [hE.2.2]; simp [ordX, vG3, hE.2.1, hi_c, hv_c, hc_c, hi_g, hv_g]⟩) (by decide) (by decide) (fun v_12 u_12 H locs hpo h => ?_)
  obtain ⟨rfl, rfl, lo, hlo, rfl⟩ := hpo
  have hv_lo : vIn (nI lo) 4 = true := vIn_nI hlo (by decide)
  have hi_lo : cI (nI lo) = lo := cI_nI hlo (by decide)
  refine lv_iload hx hy dX6_order_15 (lv_at hl 6 rfl) ?_
  refine n_go C h hT (n_S (As := [.int am]) (rest := []) C h X (c_X6_requireAmount l hl9 M R o am) (va_cwS 1 C.2.2.2.2.1 gX6_order_X6_requireAmount rfl rfl rfl (by decide +kernel) ⟨Nat.le_of_ble_eq_true rfl, Nat.le_of_ble_eq_true rfl⟩) rfl hl.1 rfl (Nat.le_of_ble_eq_true rfl) dX6_order_17 ⟨by decide, by decide⟩) (fun E u hE => ⟨XE_of (k := 2) (by simp [kTow, kEnt, kVote, kBuild, kWait, kCut, vG3, kLease, kGive, kG3, kOpen, kCL, kC, kOrd, kHas, kScout, kRead, kRaid, kTruce, vP3, kPrep, kDec, kSet, kTC, hE.2.1, hi_c, hv_c, hc_c, hi_g, hv_g, hi_lo, hv_lo]) (by decide) (by rw [hE.1]; rfl), by rw [hE.2.2]; simp [ordX, vG3, hE.2.1, hi_c, hv_c, hc_c, hi_g, hv_g, hi_lo, hv_lo]⟩) (by decide) (by decide) (fun v_17 u_17 H locs hpo h => ?_)
  obtain ⟨rfl, rfl, ham⟩ := hpo
  refine lv_aload hx hy dX6_order_20 (lv_at hl 0 rfl) ?_
  refine g_f C h ((ha.1 c hc) 0 (by decide)) (lo_Cas hc) (celF_Cas hc) rfl in_X6_order_X0 6 (by decide) (by decide +kernel) (v := .ref (V.1 (rGs c))) rfl dX6_order_22 ?_
  refine lv_iload_n hx hy dX6_order_25 rfl (lv_at hl 4 rfl) ?_
  refine g_a C h ((ha.1 c hc) 3 (by decide)) 3 (n := 3) (k := g) (lo_Gs hc) ((celF_Gs hc) _) rfl (by omega) (by decide) (a := V.1 (rGate c g)) rfl dX6_order_26 ?_
  refine lv_iload_n hx hy dX6_order_27 rfl (lv_at hl 2 rfl) ?_
  refine lv_aload_n hx hy dX6_order_28 rfl (lv_at hl 1 rfl) ?_
  refine g_f C h (ha.2 60 (by decide) (by decide)) lo_Main celF_Main rfl in_X6_order_X6 7 (by decide) (by decide +kernel) (v := .int (M rMain 7)) rfl dX6_order_29 ?_
  refine n_go0 C h (n_V (As := [.int (nI lo), .int (M rMain 7)]) (rest := []) C h X ((ha.1 c hc) (4 + 4 * g) (by omega)) ((lo_Gate hc hg).trans ((celF_Gate hc hg) _)) rfl (c_X1_isOpenFor l c g hc hg (ha.1 c hc) M R o lo hlo (M rMain 7)) (cwV 2 C.2.2.2.2.1 gX6_order_X1_isOpenFor rfl rfl rfl (by decide +kernel) ⟨Nat.le_of_ble_eq_true rfl, Nat.le_of_ble_eq_true rfl⟩) rfl hl.1 rfl (Nat.le_of_ble_eq_true rfl) dX6_order_32 ⟨by decide, by decide⟩) (fun _ _ z => z) (fun v_32 u_32 H locs hpo h => ?_)
  obtain ⟨rfl, rfl⟩ := hpo
  refine b_ne hx hy (tgt := 48) dX6_order_35 (by decide) (fun c_35 => ?_) (fun c_35 => ?_)
  · skip
    refine lv_aload hx hy dX6_order_48 (lv_at hl 0 rfl) ?_
    refine n_go0 C h (n_V (As := []) (rest := []) C h X ((ha.1 c hc) 0 (by decide)) ((lo_Cas hc).trans ((celF_Cas hc) _)) rfl (c_X0_tellLedger l c hc (ha.1 c hc) M R o (szN M c) (iv.1 c hc).2.2.2.1 (iv.1 c hc).2.2.1 (iv.1 c hc).2.2.2.2.1 ) (cwV 0 C.2.2.2.2.1 gX6_order_X0_tellLedger rfl rfl rfl (by decide +kernel) ⟨Nat.le_of_ble_eq_true rfl, Nat.le_of_ble_eq_true rfl⟩) rfl hl.1 rfl (Nat.le_of_ble_eq_true rfl) dX6_order_50 ⟨by decide, by decide⟩) (fun _ _ z => z) (fun v_50 u_50 H locs hpo h => ?_)
    obtain ⟨rfl, rfl⟩ := hpo
    refine lv_astore (lv' := [(7, .ref (V.1 (rLed c))), (6, .ref (V.1 (rCas c))), (0, .ref (V.1 rMain)), (1, .int (nI lo)), (2, .int (nI c)), (3, .int (nI g)), (4, .int (b2i isIn)), (5, .int am)]) hx hy dX6_order_53 hl (by decide) rfl (fun ls hl => ?_)
    refine lv_iload hx hy dX6_order_55 (lv_at hl 6 rfl) ?_
    refine b_eq hx hy (tgt := 70) dX6_order_57 (by decide) (fun c_57 => ?_) (fun c_57 => ?_)
    · skip
      refine lv_aload hx hy dX6_order_70 (lv_at hl 0 rfl) ?_
      refine n_go0 C h (n_V (As := []) (rest := []) C h X ((ha.1 c hc) 23 (by decide)) ((lo_Led hc).trans ((celF_Led hc) _)) rfl (c_X2_freeGold l c hc (ha.1 c hc) (telM M c (szN M c)) R o ) (cwV 0 C.2.2.2.2.1 gX6_order_X2_freeGold rfl rfl rfl (by decide +kernel) ⟨Nat.le_of_ble_eq_true rfl, Nat.le_of_ble_eq_true rfl⟩) rfl hl.1 rfl (Nat.le_of_ble_eq_true rfl) dX6_order_72 ⟨by decide, by decide⟩) (fun _ _ z => z) (fun v_72 u_72 H locs hpo h => ?_)
      obtain ⟨rfl, rfl⟩ := hpo
      refine lv_istore (lv' := [(8, .int (lFree (telM M c (szN M c)) c)), (7, .ref (V.1 (rLed c))), (6, .ref (V.1 (rCas c))), (0, .ref (V.1 rMain)), (1, .int (nI lo)), (2, .int (nI c)), (3, .int (nI g)), (4, .int (b2i isIn)), (5, .int am)]) hx hy dX6_order_75 hl (by decide) rfl (fun ls hl => ?_)
      refine lv_iload hx hy dX6_order_77 (lv_at hl 0 rfl) ?_
      refine lv_iload hx hy dX6_order_79 (lv_at hl 8 rfl) ?_
      refine i_ge hx hy (tgt := 94) dX6_order_81 (by decide) (fun c_81 => ?_) (fun c_81 => ?_)
      · skip
        refine lv_aload hx hy dX6_order_94 (lv_at hl 2 rfl) ?_
        refine lv_iload_n hx hy dX6_order_96 rfl (lv_at hl 4 rfl) ?_
        refine n_go0 C h (n_V (As := [.int (nI lo)]) (rest := []) C h X ((ha.1 c hc) 0 (by decide)) ((lo_Cas hc).trans ((celF_Cas hc) _)) rfl (c_X0_towersNear l c hc (ha.1 c hc) (telM M c (szN M c)) R o lo hlo) (cwV 1 C.2.2.2.2.1 gX6_order_X0_towersNear rfl rfl rfl (by decide +kernel) ⟨Nat.le_of_ble_eq_true rfl, Nat.le_of_ble_eq_true rfl⟩) rfl hl.1 rfl (Nat.le_of_ble_eq_true rfl) dX6_order_97 ⟨by decide, by decide⟩) (fun _ _ z => z) (fun v_97 u_97 H locs hpo h => ?_)
        obtain ⟨rfl, rfl⟩ := hpo
        refine lv_istore (lv' := [(9, .int (nearI (telM M c (szN M c)) c lo)), (8, .int (lFree (telM M c (szN M c)) c)), (7, .ref (V.1 (rLed c))), (6, .ref (V.1 (rCas c))), (0, .ref (V.1 rMain)), (1, .int (nI lo)), (2, .int (nI c)), (3, .int (nI g)), (4, .int (b2i isIn)), (5, .int am)]) hx hy dX6_order_100 hl (by decide) rfl (fun ls hl => ?_)
        refine lv_iload hx hy dX6_order_102 (lv_at hl 0 rfl) ?_
        refine z_ne hx hy (tgt := 117) dX6_order_104 (by decide) (fun c_104 => ?_) (fun c_104 => ?_)
        · skip
          refine lv_aload hx hy dX6_order_117 (lv_at hl 3 rfl) ?_
          refine n_go C h hT (n_S (As := [.ref (V.1 (rCas c))]) (rest := []) C h X (c_X6_requireRoom l hl9 c hc (ha.1 c hc) (telM M c (szN M c)) R o (szN M c) (iv.1 c hc).2.2.2.1 ((congrFun (telM_ne (by simp only [rLed, rRow]; omega) (by simp only [rPu, rRow]; omega)) _).trans (iv.1 c hc).2.2.1)) (va_cwS 1 C.2.2.2.2.1 gX6_order_X6_requireRoom rfl rfl rfl (by decide +kernel) ⟨Nat.le_of_ble_eq_true rfl, Nat.le_of_ble_eq_true rfl⟩) rfl hl.1 rfl (Nat.le_of_ble_eq_true rfl) dX6_order_119 ⟨by decide, by decide⟩) (fun E u hE => ⟨XE_of (k := 4) (by have := Nat.not_lt.mpr hE.2.1; simp [kOrd, vG3, ord3, ordE, hi_c, hv_c, hc_c, hi_g, hv_g, hi_lo, hv_lo, ham, c_35, c_57, eq_true c_81, eq_false (Int32.not_lt.mpr c_81), eq_false c_104, this]) (by decide) (by rw [hE.1]; rfl), by rw [hE.2.2]; simp [ordX, vG3, hi_c, hv_c, hc_c, hi_g, hv_g, hi_lo, hv_lo, ham, c_35, c_57, eq_true c_81, eq_false (Int32.not_lt.mpr c_81), eq_false c_104]⟩) (by decide) (by decide) (fun v_119 u_119 H locs hpo h => ?_)
          obtain ⟨rfl, rfl, hroom⟩ := hpo
          refine lv_aload hx hy dX6_order_122 (lv_at hl 3 rfl) ?_
          refine lv_iload hx hy dX6_order_124 (lv_at hl 8 rfl) ?_
          refine b_eq hx hy (tgt := 134) dX6_order_126 (by decide) (fun c_126 => ?_) (fun c_126 => ?_)
          · skip
            refine lv_bipush (v := (nI 111)) hx hy dX6_order_134 (by decide) ?_
            refine lv_iload hx hy dX6_order_136 (lv_at hl 9 rfl) ?_
            refine lv_iload_n hx hy dX6_order_138 rfl (lv_at hl 5 rfl) ?_
            refine lv_iload hx hy dX6_order_139 (lv_at hl 0 rfl) ?_
            refine n_go0 C h (n_V (As := [.int (nI 111), .int am, .int (nI lo), .int (nearI (telM M c (szN M c)) c lo)]) (rest := []) C h X ((ha.1 c hc) 0 (by decide)) ((lo_Cas hc).trans ((celF_Cas hc) _)) rfl (c_X0_writeEntry l c hc (ha.1 c hc) (telM M c (szN M c)) R o (szN M c) hroom ((congrFun (telM_ne (by simp only [rLed, rRow]; omega) (by simp only [rPu, rRow]; omega)) _).trans (iv.1 c hc).2.2.1) (nI 111) am (by decide) (nI lo) (nearI (telM M c (szN M c)) c lo)) (cwV 4 C.2.2.2.2.1 gX6_order_X0_writeEntry rfl rfl rfl (by decide +kernel) ⟨Nat.le_of_ble_eq_true rfl, Nat.le_of_ble_eq_true rfl⟩) rfl hl.1 rfl (Nat.le_of_ble_eq_true rfl) dX6_order_141 ⟨by decide, by decide⟩) (fun _ _ z => z) (fun v_141 u_141 H locs hpo h => ?_)
            obtain ⟨rfl, rfl⟩ := hpo
            exact e_int C h rfl dX6_order_144 (⟨by simp [kOrd, vG3, ord3, ordE, hi_c, hv_c, hc_c, hi_g, hv_g, hi_lo, hv_lo, ham, hroom, c_35, c_57, eq_true c_81, eq_false (Int32.not_lt.mpr c_81), eq_false c_104, c_126], by simp [hi_c, hv_c, hc_c, hi_g, hv_g, hi_lo, hv_lo, ham, hroom], by simp [ordM, hi_c, hv_c, hc_c, hi_g, hv_g, hi_lo, hv_lo, ham, hroom, c_35, c_57, eq_true c_81, eq_false (Int32.not_lt.mpr c_81), eq_false c_104, c_126]⟩) (by decide) (by decide)
          · skip
            refine lv_bipush (v := (nI 105)) hx hy dX6_order_129 (by decide) ?_
            refine lv_goto (tgt := 136) hx hy dX6_order_131 (by decide) ?_
            refine lv_iload hx hy dX6_order_136 (lv_at hl 9 rfl) ?_
            refine lv_iload_n hx hy dX6_order_138 rfl (lv_at hl 5 rfl) ?_
            refine lv_iload hx hy dX6_order_139 (lv_at hl 0 rfl) ?_
            refine n_go0 C h (n_V (As := [.int (nI 105), .int am, .int (nI lo), .int (nearI (telM M c (szN M c)) c lo)]) (rest := []) C h X ((ha.1 c hc) 0 (by decide)) ((lo_Cas hc).trans ((celF_Cas hc) _)) rfl (c_X0_writeEntry l c hc (ha.1 c hc) (telM M c (szN M c)) R o (szN M c) hroom ((congrFun (telM_ne (by simp only [rLed, rRow]; omega) (by simp only [rPu, rRow]; omega)) _).trans (iv.1 c hc).2.2.1) (nI 105) am (by decide) (nI lo) (nearI (telM M c (szN M c)) c lo)) (cwV 4 C.2.2.2.2.1 gX6_order_X0_writeEntry rfl rfl rfl (by decide +kernel) ⟨Nat.le_of_ble_eq_true rfl, Nat.le_of_ble_eq_true rfl⟩) rfl hl.1 rfl (Nat.le_of_ble_eq_true rfl) dX6_order_141 ⟨by decide, by decide⟩) (fun _ _ z => z) (fun v_141 u_141 H locs hpo h => ?_)
            obtain ⟨rfl, rfl⟩ := hpo
            exact e_int C h rfl dX6_order_144 (absurd (c_57.symm.trans c_126) (by decide)) (by decide) (by decide)
        · skip
          exact t_narrow (ic := 62) (ik := 58) (is := 182) (cls := "java/lang/UnsupportedOperationException") (text := tx_182) C h X hT hl9 (by decide) (by decide) (by decide) hl.1 (by decide +kernel) (by decide +kernel) at_X6_order_107 bad_UOE good_UOE_58 dX6_order_107 dX6_order_110 dX6_order_111 dX6_order_113 dX6_order_116 (by decide) (by decide) (by decide) (by decide) (by decide) (by decide) (⟨XE_of (k := 3) (by simp [kOrd, vG3, ord3, ordE, hi_c, hv_c, hc_c, hi_g, hv_g, hi_lo, hv_lo, ham, c_35, c_57, eq_true c_81, eq_false (Int32.not_lt.mpr c_81), eq_true c_104]) (by decide) rfl, by simp [ordX, vG3, hi_c, hv_c, hc_c, hi_g, hv_g, hi_lo, hv_lo, ham, c_35, c_57, eq_true c_81, eq_false (Int32.not_lt.mpr c_81), eq_true c_104]⟩)
      · skip
        exact t_narrow (ic := 62) (ik := 58) (is := 180) (cls := "java/lang/UnsupportedOperationException") (text := tx_180) C h X hT hl9 (by decide) (by decide) (by decide) hl.1 (by decide +kernel) (by decide +kernel) at_X6_order_84 bad_UOE good_UOE_58 dX6_order_84 dX6_order_87 dX6_order_88 dX6_order_90 dX6_order_93 (by decide) (by decide) (by decide) (by decide) (by decide) (by decide) (⟨XE_of (k := 3) (by simp [kOrd, vG3, ord3, ordE, hi_c, hv_c, hc_c, hi_g, hv_g, hi_lo, hv_lo, ham, c_35, c_57, eq_true c_81, eq_false (Int32.not_le.mpr c_81)]) (by decide) rfl, by simp [ordX, vG3, hi_c, hv_c, hc_c, hi_g, hv_g, hi_lo, hv_lo, ham, c_35, c_57, eq_true c_81, eq_false (Int32.not_le.mpr c_81)]⟩)
    · skip
      refine lv_aload hx hy dX6_order_60 (lv_at hl 0 rfl) ?_
      refine g_f C h ((ha.1 c hc) 23 (by decide)) (lo_Led hc) (celF_Led hc) rfl in_X6_order_X2 2 (by decide) (by decide +kernel) (v := .ref (V.1 (rPu c))) rfl dX6_order_62 ?_
      refine lv_iload_n hx hy dX6_order_65 rfl (lv_at hl 3 rfl) ?_
      refine g_i C h ((ha.1 c hc) 24 (by decide)) (n := 4) (k := lo) (lo_Pu hc) (celF_Pu hc) (by omega) (by decide) (v := ((telM M c (szN M c)) (rPu c) lo)) rfl dX6_order_66 ?_
      refine lv_goto (tgt := 75) hx hy dX6_order_67 (by decide) ?_
      refine lv_istore (lv' := [(8, .int ((telM M c (szN M c)) (rPu c) lo)), (7, .ref (V.1 (rLed c))), (6, .ref (V.1 (rCas c))), (0, .ref (V.1 rMain)), (1, .int (nI lo)), (2, .int (nI c)), (3, .int (nI g)), (4, .int (b2i isIn)), (5, .int am)]) hx hy dX6_order_75 hl (by decide) rfl (fun ls hl => ?_)
      refine lv_iload hx hy dX6_order_77 (lv_at hl 0 rfl) ?_
      refine lv_iload hx hy dX6_order_79 (lv_at hl 8 rfl) ?_
      refine i_ge hx hy (tgt := 94) dX6_order_81 (by decide) (fun c_81 => ?_) (fun c_81 => ?_)
      · skip
        refine lv_aload hx hy dX6_order_94 (lv_at hl 2 rfl) ?_
        refine lv_iload_n hx hy dX6_order_96 rfl (lv_at hl 4 rfl) ?_
        refine n_go0 C h (n_V (As := [.int (nI lo)]) (rest := []) C h X ((ha.1 c hc) 0 (by decide)) ((lo_Cas hc).trans ((celF_Cas hc) _)) rfl (c_X0_towersNear l c hc (ha.1 c hc) (telM M c (szN M c)) R o lo hlo) (cwV 1 C.2.2.2.2.1 gX6_order_X0_towersNear rfl rfl rfl (by decide +kernel) ⟨Nat.le_of_ble_eq_true rfl, Nat.le_of_ble_eq_true rfl⟩) rfl hl.1 rfl (Nat.le_of_ble_eq_true rfl) dX6_order_97 ⟨by decide, by decide⟩) (fun _ _ z => z) (fun v_97 u_97 H locs hpo h => ?_)
        obtain ⟨rfl, rfl⟩ := hpo
        refine lv_istore (lv' := [(9, .int (nearI (telM M c (szN M c)) c lo)), (8, .int ((telM M c (szN M c)) (rPu c) lo)), (7, .ref (V.1 (rLed c))), (6, .ref (V.1 (rCas c))), (0, .ref (V.1 rMain)), (1, .int (nI lo)), (2, .int (nI c)), (3, .int (nI g)), (4, .int (b2i isIn)), (5, .int am)]) hx hy dX6_order_100 hl (by decide) rfl (fun ls hl => ?_)
        refine lv_iload hx hy dX6_order_102 (lv_at hl 0 rfl) ?_
        refine z_ne hx hy (tgt := 117) dX6_order_104 (by decide) (fun c_104 => ?_) (fun c_104 => ?_)
        · skip
          refine lv_aload hx hy dX6_order_117 (lv_at hl 3 rfl) ?_
          refine n_go C h hT (n_S (As := [.ref (V.1 (rCas c))]) (rest := []) C h X (c_X6_requireRoom l hl9 c hc (ha.1 c hc) (telM M c (szN M c)) R o (szN M c) (iv.1 c hc).2.2.2.1 ((congrFun (telM_ne (by simp only [rLed, rRow]; omega) (by simp only [rPu, rRow]; omega)) _).trans (iv.1 c hc).2.2.1)) (va_cwS 1 C.2.2.2.2.1 gX6_order_X6_requireRoom rfl rfl rfl (by decide +kernel) ⟨Nat.le_of_ble_eq_true rfl, Nat.le_of_ble_eq_true rfl⟩) rfl hl.1 rfl (Nat.le_of_ble_eq_true rfl) dX6_order_119 ⟨by decide, by decide⟩) (fun E u hE => ⟨XE_of (k := 4) (by have := Nat.not_lt.mpr hE.2.1; simp [kOrd, vG3, ord3, ordE, hi_c, hv_c, hc_c, hi_g, hv_g, hi_lo, hv_lo, ham, c_35, c_57, eq_true c_81, eq_false (Int32.not_lt.mpr c_81), eq_false c_104, this]) (by decide) (by rw [hE.1]; rfl), by rw [hE.2.2]; simp [ordX, vG3, hi_c, hv_c, hc_c, hi_g, hv_g, hi_lo, hv_lo, ham, c_35, c_57, eq_true c_81, eq_false (Int32.not_lt.mpr c_81), eq_false c_104]⟩) (by decide) (by decide) (fun v_119 u_119 H locs hpo h => ?_)
          obtain ⟨rfl, rfl, hroom⟩ := hpo
          refine lv_aload hx hy dX6_order_122 (lv_at hl 3 rfl) ?_
          refine lv_iload hx hy dX6_order_124 (lv_at hl 8 rfl) ?_
          refine b_eq hx hy (tgt := 134) dX6_order_126 (by decide) (fun c_126 => ?_) (fun c_126 => ?_)
          · skip
            refine lv_bipush (v := (nI 111)) hx hy dX6_order_134 (by decide) ?_
            refine lv_iload hx hy dX6_order_136 (lv_at hl 9 rfl) ?_
            refine lv_iload_n hx hy dX6_order_138 rfl (lv_at hl 5 rfl) ?_
            refine lv_iload hx hy dX6_order_139 (lv_at hl 0 rfl) ?_
            refine n_go0 C h (n_V (As := [.int (nI 111), .int am, .int (nI lo), .int (nearI (telM M c (szN M c)) c lo)]) (rest := []) C h X ((ha.1 c hc) 0 (by decide)) ((lo_Cas hc).trans ((celF_Cas hc) _)) rfl (c_X0_writeEntry l c hc (ha.1 c hc) (telM M c (szN M c)) R o (szN M c) hroom ((congrFun (telM_ne (by simp only [rLed, rRow]; omega) (by simp only [rPu, rRow]; omega)) _).trans (iv.1 c hc).2.2.1) (nI 111) am (by decide) (nI lo) (nearI (telM M c (szN M c)) c lo)) (cwV 4 C.2.2.2.2.1 gX6_order_X0_writeEntry rfl rfl rfl (by decide +kernel) ⟨Nat.le_of_ble_eq_true rfl, Nat.le_of_ble_eq_true rfl⟩) rfl hl.1 rfl (Nat.le_of_ble_eq_true rfl) dX6_order_141 ⟨by decide, by decide⟩) (fun _ _ z => z) (fun v_141 u_141 H locs hpo h => ?_)
            obtain ⟨rfl, rfl⟩ := hpo
            exact e_int C h rfl dX6_order_144 (absurd (c_57.symm.trans c_126) (by decide)) (by decide) (by decide)
          · skip
            refine lv_bipush (v := (nI 105)) hx hy dX6_order_129 (by decide) ?_
            refine lv_goto (tgt := 136) hx hy dX6_order_131 (by decide) ?_
            refine lv_iload hx hy dX6_order_136 (lv_at hl 9 rfl) ?_
            refine lv_iload_n hx hy dX6_order_138 rfl (lv_at hl 5 rfl) ?_
            refine lv_iload hx hy dX6_order_139 (lv_at hl 0 rfl) ?_
            refine n_go0 C h (n_V (As := [.int (nI 105), .int am, .int (nI lo), .int (nearI (telM M c (szN M c)) c lo)]) (rest := []) C h X ((ha.1 c hc) 0 (by decide)) ((lo_Cas hc).trans ((celF_Cas hc) _)) rfl (c_X0_writeEntry l c hc (ha.1 c hc) (telM M c (szN M c)) R o (szN M c) hroom ((congrFun (telM_ne (by simp only [rLed, rRow]; omega) (by simp only [rPu, rRow]; omega)) _).trans (iv.1 c hc).2.2.1) (nI 105) am (by decide) (nI lo) (nearI (telM M c (szN M c)) c lo)) (cwV 4 C.2.2.2.2.1 gX6_order_X0_writeEntry rfl rfl rfl (by decide +kernel) ⟨Nat.le_of_ble_eq_true rfl, Nat.le_of_ble_eq_true rfl⟩) rfl hl.1 rfl (Nat.le_of_ble_eq_true rfl) dX6_order_141 ⟨by decide, by decide⟩) (fun _ _ z => z) (fun v_141 u_141 H locs hpo h => ?_)
            obtain ⟨rfl, rfl⟩ := hpo
            exact e_int C h rfl dX6_order_144 (⟨by simp [kOrd, vG3, ord3, ordE, hi_c, hv_c, hc_c, hi_g, hv_g, hi_lo, hv_lo, ham, hroom, c_35, c_57, eq_true c_81, eq_false (Int32.not_lt.mpr c_81), eq_false c_104, c_126], by simp [hi_c, hv_c, hc_c, hi_g, hv_g, hi_lo, hv_lo, ham, hroom], by simp [ordM, hi_c, hv_c, hc_c, hi_g, hv_g, hi_lo, hv_lo, ham, hroom, c_35, c_57, eq_true c_81, eq_false (Int32.not_lt.mpr c_81), eq_false c_104, c_126]⟩) (by decide) (by decide)
        · skip
          exact t_narrow (ic := 62) (ik := 58) (is := 182) (cls := "java/lang/UnsupportedOperationException") (text := tx_182) C h X hT hl9 (by decide) (by decide) (by decide) hl.1 (by decide +kernel) (by decide +kernel) at_X6_order_107 bad_UOE good_UOE_58 dX6_order_107 dX6_order_110 dX6_order_111 dX6_order_113 dX6_order_116 (by decide) (by decide) (by decide) (by decide) (by decide) (by decide) (⟨XE_of (k := 3) (by simp [kOrd, vG3, ord3, ordE, hi_c, hv_c, hc_c, hi_g, hv_g, hi_lo, hv_lo, ham, c_35, c_57, eq_true c_81, eq_false (Int32.not_lt.mpr c_81), eq_true c_104]) (by decide) rfl, by simp [ordX, vG3, hi_c, hv_c, hc_c, hi_g, hv_g, hi_lo, hv_lo, ham, c_35, c_57, eq_true c_81, eq_false (Int32.not_lt.mpr c_81), eq_true c_104]⟩)
      · skip
        exact t_narrow (ic := 62) (ik := 58) (is := 180) (cls := "java/lang/UnsupportedOperationException") (text := tx_180) C h X hT hl9 (by decide) (by decide) (by decide) hl.1 (by decide +kernel) (by decide +kernel) at_X6_order_84 bad_UOE good_UOE_58 dX6_order_84 dX6_order_87 dX6_order_88 dX6_order_90 dX6_order_93 (by decide) (by decide) (by decide) (by decide) (by decide) (by decide) (⟨XE_of (k := 3) (by simp [kOrd, vG3, ord3, ordE, hi_c, hv_c, hc_c, hi_g, hv_g, hi_lo, hv_lo, ham, c_35, c_57, eq_true c_81, eq_false (Int32.not_le.mpr c_81)]) (by decide) rfl, by simp [ordX, vG3, hi_c, hv_c, hc_c, hi_g, hv_g, hi_lo, hv_lo, ham, c_35, c_57, eq_true c_81, eq_false (Int32.not_le.mpr c_81)]⟩)
  · skip
    exact t_narrow (ic := 62) (ik := 58) (is := 130) (cls := "java/lang/UnsupportedOperationException") (text := tx_130) C h X hT hl9 (by decide) (by decide) (by decide) hl.1 (by decide +kernel) (by decide +kernel) at_X6_order_38 bad_UOE good_UOE_58 dX6_order_38 dX6_order_41 dX6_order_42 dX6_order_44 dX6_order_47 (by decide) (by decide) (by decide) (by decide) (by decide) (by decide) (⟨XE_of (k := 3) (by simp [kOrd, vG3, ord3, ordE, hi_c, hv_c, hc_c, hi_g, hv_g, hi_lo, hv_lo, ham, c_35]) (by decide) rfl, by simp [ordX, vG3, hi_c, hv_c, hc_c, hi_g, hv_g, hi_lo, hv_lo, ham, c_35]⟩)

set_option maxRecDepth 100000 in
set_option maxHeartbeats 4000000 in
/-- X6_spread -/
theorem c_X6_spread (l : Launch) {G : va_G} {V : wV} {rs : List Nat} (hl9 : l.stackTraces = false) (ha : bA rs) (M R : wM) (o : wO) (iv : IV M) (ca : Int32) : CT l G V rs yX6_spread wsX6_spread 8 131 1 6 [.ref (V.1 rMain), .int ca] (M, R, o) (fun v u => kC ca = 0 ∧ v = some (.int (spG M (cI ca) (szN M (cI ca)))) ∧ u = (spN M (cI ca) (szN M (cI ca)), R, o)) (fun E u => XE [eIOE] (kC ca) E ∧ u = (M, R, o)) := by
  refine ct_of (cc := cX6_spread) (maxL := 2) (ret := (some .int)) (by decide) rfl (Nat.le_of_ble_eq_true rfl) ?_
  intro p e s m below meth cd ls C h X hT hl
  have hx := C.1
  have hy := C.2.1
  have hl : lv_has ls 2 [(0, .ref (V.1 rMain)), (1, .int ca)] := hl
  have hsc := iv.2.1.2
  have htn := iv.2.2.1.2
  refine lv_aload_n hx hy dX6_spread_0 rfl (lv_at hl 0 rfl) ?_
  refine lv_iload_n hx hy dX6_spread_1 rfl (lv_at hl 1 rfl) ?_
  refine n_go C h hT (n_V (As := [.int ca]) (rest := []) C h X (ha.2 60 (by decide) (by decide)) (lo_Main.trans (celF_Main _)) rfl (c_X6_castleAt l hl9 ha M R o ca) (cwV 1 C.2.2.2.2.1 gX6_spread_X6_castleAt rfl rfl rfl (by decide +kernel) ⟨Nat.le_of_ble_eq_true rfl, Nat.le_of_ble_eq_true rfl⟩) rfl hl.1 rfl (Nat.le_of_ble_eq_true rfl) dX6_spread_2 ⟨by decide, by decide⟩) (fun E u hE => ⟨XE_of (k := 1) (by simp [kTow, kEnt, kVote, kBuild, kWait, kCut, vG3, kLease, kGive, kG3, kOpen, kCL, kC, kOrd, kHas, kScout, kRead, kRaid, kTruce, vP3, kPrep, kDec, kSet, kTC, hE.2.1]) (by decide) (by rw [hE.1]; rfl), hE.2.2⟩) (by decide) (by decide) (fun v_2 u_2 H locs hpo h => ?_)
  obtain ⟨rfl, c, hc, rfl, rfl⟩ := hpo
  have hv_c : vIn (nI c) 2 = true := vIn_nI hc (by decide)
  have hi_c : cI (nI c) = c := cI_nI hc (by decide)
  have hc_c : vC (nI c) = true := hv_c
  refine n_go0 C h (n_V (As := []) (rest := []) C h X ((ha.1 c hc) 0 (by decide)) ((lo_Cas hc).trans ((celF_Cas hc) _)) rfl (c_X0_spreadEntries l c hc (ha.1 c hc) M R o (szN M c) (iv.1 c hc).2.2.2.1 (iv.1 c hc).2.2.1 ) (cwV 0 C.2.2.2.2.1 gX6_spread_X0_spreadEntries rfl rfl rfl (by decide +kernel) ⟨Nat.le_of_ble_eq_true rfl, Nat.le_of_ble_eq_true rfl⟩) rfl hl.1 rfl (Nat.le_of_ble_eq_true rfl) dX6_spread_5 ⟨by decide, by decide⟩) (fun _ _ z => z) (fun v_5 u_5 H locs hpo h => ?_)
  obtain ⟨rfl, rfl⟩ := hpo
  exact e_int C h rfl dX6_spread_8 (⟨by simp [kC, hi_c, hv_c, hc_c], by first | rfl | (simp only [hi_c, hv_c, hc_c]; done) | (simp only [hi_c, hv_c, hc_c]; rfl), by first | rfl | (simp only [hi_c, hv_c, hc_c]; done) | (simp only [hi_c, hv_c, hc_c]; rfl)⟩) (by decide) (by decide)

set_option maxRecDepth 20000 in
theorem in_X6_strike_X0 : ∀ x ∈ wsX00, x ∈ wsX6_strike := by decide +kernel
set_option maxRecDepth 100000 in
set_option maxHeartbeats 4000000 in
/-- X6_strike -/
theorem c_X6_strike (l : Launch) {G : va_G} {V : wV} {rs : List Nat} (hl9 : l.stackTraces = false) (ha : bA rs) (M R : wM) (o : wO) (iv : IV M) (ca : Int32) : CT l G V rs yX6_strike wsX6_strike 8 131 1 6 [.ref (V.1 rMain), .int ca] (M, R, o) (fun v u => kC ca = 0 ∧ v = some (.int (nI (rStruck M (cI ca) (szN M (cI ca))))) ∧ u = (rStrike M (cI ca) (szN M (cI ca)), R, o)) (fun E u => XE [eIOE] (kC ca) E ∧ u = (M, R, o)) := by
  refine ct_of (cc := cX6_strike) (maxL := 2) (ret := (some .int)) (by decide) rfl (Nat.le_of_ble_eq_true rfl) ?_
  intro p e s m below meth cd ls C h X hT hl
  have hx := C.1
  have hy := C.2.1
  have hl : lv_has ls 2 [(0, .ref (V.1 rMain)), (1, .int ca)] := hl
  have hsc := iv.2.1.2
  have htn := iv.2.2.1.2
  refine lv_aload_n hx hy dX6_strike_0 rfl (lv_at hl 0 rfl) ?_
  refine lv_iload_n hx hy dX6_strike_1 rfl (lv_at hl 1 rfl) ?_
  refine n_go C h hT (n_V (As := [.int ca]) (rest := []) C h X (ha.2 60 (by decide) (by decide)) (lo_Main.trans (celF_Main _)) rfl (c_X6_castleAt l hl9 ha M R o ca) (cwV 1 C.2.2.2.2.1 gX6_strike_X6_castleAt rfl rfl rfl (by decide +kernel) ⟨Nat.le_of_ble_eq_true rfl, Nat.le_of_ble_eq_true rfl⟩) rfl hl.1 rfl (Nat.le_of_ble_eq_true rfl) dX6_strike_2 ⟨by decide, by decide⟩) (fun E u hE => ⟨XE_of (k := 1) (by simp [kTow, kEnt, kVote, kBuild, kWait, kCut, vG3, kLease, kGive, kG3, kOpen, kCL, kC, kOrd, kHas, kScout, kRead, kRaid, kTruce, vP3, kPrep, kDec, kSet, kTC, hE.2.1]) (by decide) (by rw [hE.1]; rfl), hE.2.2⟩) (by decide) (by decide) (fun v_2 u_2 H locs hpo h => ?_)
  obtain ⟨rfl, c, hc, rfl, rfl⟩ := hpo
  have hv_c : vIn (nI c) 2 = true := vIn_nI hc (by decide)
  have hi_c : cI (nI c) = c := cI_nI hc (by decide)
  have hc_c : vC (nI c) = true := hv_c
  refine g_f C h ((ha.1 c hc) 0 (by decide)) (lo_Cas hc) (celF_Cas hc) rfl in_X6_strike_X0 7 (by decide) (by decide +kernel) (v := .ref (V.1 (rRow c))) rfl dX6_strike_5 ?_
  refine n_go0 C h (n_V (As := []) (rest := []) C h X ((ha.1 c hc) 16 (by decide)) ((lo_Row hc).trans ((celF_Row hc) _)) rfl (c_X3_strikeLost l c hc (ha.1 c hc) M R o (szN M c) (iv.1 c hc).2.2.2.1 (iv.1 c hc).2.2.1 ) (cwV 0 C.2.2.2.2.1 gX6_strike_X3_strikeLost rfl rfl rfl (by decide +kernel) ⟨Nat.le_of_ble_eq_true rfl, Nat.le_of_ble_eq_true rfl⟩) rfl hl.1 rfl (Nat.le_of_ble_eq_true rfl) dX6_strike_8 ⟨by decide, by decide⟩) (fun _ _ z => z) (fun v_8 u_8 H locs hpo h => ?_)
  obtain ⟨rfl, rfl⟩ := hpo
  exact e_int C h rfl dX6_strike_11 (⟨by simp [kC, hi_c, hv_c, hc_c], by first | rfl | (simp only [hi_c, hv_c, hc_c]; done) | (simp only [hi_c, hv_c, hc_c]; rfl), by first | rfl | (simp only [hi_c, hv_c, hc_c]; done) | (simp only [hi_c, hv_c, hc_c]; rfl)⟩) (by decide) (by decide)

set_option maxRecDepth 20000 in
theorem in_X6_entries_X0 : ∀ x ∈ wsX00, x ∈ wsX6_entries := by decide +kernel
set_option maxRecDepth 20000 in
theorem in_X6_entries_X3 : ∀ x ∈ wsX30, x ∈ wsX6_entries := by decide +kernel
set_option maxRecDepth 100000 in
set_option maxHeartbeats 4000000 in
/-- X6_entries -/
theorem c_X6_entries (l : Launch) {G : va_G} {V : wV} {rs : List Nat} (hl9 : l.stackTraces = false) (ha : bA rs) (M R : wM) (o : wO) (iv : IV M) (ca : Int32) : CT l G V rs yX6_entries wsX6_entries 8 131 1 6 [.ref (V.1 rMain), .int ca] (M, R, o) (fun v u => kC ca = 0 ∧ v = some (.int (nI (szN M (cI ca)))) ∧ u = (M, R, o)) (fun E u => XE [eIOE] (kC ca) E ∧ u = (M, R, o)) := by
  refine ct_of (cc := cX6_entries) (maxL := 2) (ret := (some .int)) (by decide) rfl (Nat.le_of_ble_eq_true rfl) ?_
  intro p e s m below meth cd ls C h X hT hl
  have hx := C.1
  have hy := C.2.1
  have hl : lv_has ls 2 [(0, .ref (V.1 rMain)), (1, .int ca)] := hl
  have hsc := iv.2.1.2
  have htn := iv.2.2.1.2
  refine lv_aload_n hx hy dX6_entries_0 rfl (lv_at hl 0 rfl) ?_
  refine lv_iload_n hx hy dX6_entries_1 rfl (lv_at hl 1 rfl) ?_
  refine n_go C h hT (n_V (As := [.int ca]) (rest := []) C h X (ha.2 60 (by decide) (by decide)) (lo_Main.trans (celF_Main _)) rfl (c_X6_castleAt l hl9 ha M R o ca) (cwV 1 C.2.2.2.2.1 gX6_entries_X6_castleAt rfl rfl rfl (by decide +kernel) ⟨Nat.le_of_ble_eq_true rfl, Nat.le_of_ble_eq_true rfl⟩) rfl hl.1 rfl (Nat.le_of_ble_eq_true rfl) dX6_entries_2 ⟨by decide, by decide⟩) (fun E u hE => ⟨XE_of (k := 1) (by simp [kTow, kEnt, kVote, kBuild, kWait, kCut, vG3, kLease, kGive, kG3, kOpen, kCL, kC, kOrd, kHas, kScout, kRead, kRaid, kTruce, vP3, kPrep, kDec, kSet, kTC, hE.2.1]) (by decide) (by rw [hE.1]; rfl), hE.2.2⟩) (by decide) (by decide) (fun v_2 u_2 H locs hpo h => ?_)
  obtain ⟨rfl, c, hc, rfl, rfl⟩ := hpo
  have hv_c : vIn (nI c) 2 = true := vIn_nI hc (by decide)
  have hi_c : cI (nI c) = c := cI_nI hc (by decide)
  have hc_c : vC (nI c) = true := hv_c
  refine g_f C h ((ha.1 c hc) 0 (by decide)) (lo_Cas hc) (celF_Cas hc) rfl in_X6_entries_X0 7 (by decide) (by decide +kernel) (v := .ref (V.1 (rRow c))) rfl dX6_entries_5 ?_
  refine g_f C h ((ha.1 c hc) 16 (by decide)) (lo_Row hc) (celF_Row hc) rfl in_X6_entries_X3 0 (by decide) (by decide +kernel) (v := .int (nI (szN M c))) (congrArg (fun z => some (Value.int z)) (show M (rRow c) 0 = (nI (szN M c)) from (iv.1 c hc).2.2.1)) dX6_entries_8 ?_
  exact e_int C h rfl dX6_entries_11 (⟨by simp [kC, hi_c, hv_c, hc_c], by first | rfl | (simp only [hi_c, hv_c, hc_c]; done) | (simp only [hi_c, hv_c, hc_c]; rfl), by first | rfl | (simp only [hi_c, hv_c, hc_c]; done) | (simp only [hi_c, hv_c, hc_c]; rfl)⟩) (by decide) (by decide)

set_option maxRecDepth 20000 in
theorem in_X6_counting_X0 : ∀ x ∈ wsX00, x ∈ wsX6_counting := by decide +kernel
set_option maxRecDepth 100000 in
set_option maxHeartbeats 4000000 in
/-- X6_counting -/
theorem c_X6_counting (l : Launch) {G : va_G} {V : wV} {rs : List Nat} (hl9 : l.stackTraces = false) (ha : bA rs) (M R : wM) (o : wO) (iv : IV M) (ca : Int32) : CT l G V rs yX6_counting wsX6_counting 8 131 1 6 [.ref (V.1 rMain), .int ca] (M, R, o) (fun v u => kC ca = 0 ∧ v = some (.int (nI (rCnt M (cI ca) (szN M (cI ca))))) ∧ u = (M, R, o)) (fun E u => XE [eIOE] (kC ca) E ∧ u = (M, R, o)) := by
  refine ct_of (cc := cX6_counting) (maxL := 2) (ret := (some .int)) (by decide) rfl (Nat.le_of_ble_eq_true rfl) ?_
  intro p e s m below meth cd ls C h X hT hl
  have hx := C.1
  have hy := C.2.1
  have hl : lv_has ls 2 [(0, .ref (V.1 rMain)), (1, .int ca)] := hl
  have hsc := iv.2.1.2
  have htn := iv.2.2.1.2
  refine lv_aload_n hx hy dX6_counting_0 rfl (lv_at hl 0 rfl) ?_
  refine lv_iload_n hx hy dX6_counting_1 rfl (lv_at hl 1 rfl) ?_
  refine n_go C h hT (n_V (As := [.int ca]) (rest := []) C h X (ha.2 60 (by decide) (by decide)) (lo_Main.trans (celF_Main _)) rfl (c_X6_castleAt l hl9 ha M R o ca) (cwV 1 C.2.2.2.2.1 gX6_counting_X6_castleAt rfl rfl rfl (by decide +kernel) ⟨Nat.le_of_ble_eq_true rfl, Nat.le_of_ble_eq_true rfl⟩) rfl hl.1 rfl (Nat.le_of_ble_eq_true rfl) dX6_counting_2 ⟨by decide, by decide⟩) (fun E u hE => ⟨XE_of (k := 1) (by simp [kTow, kEnt, kVote, kBuild, kWait, kCut, vG3, kLease, kGive, kG3, kOpen, kCL, kC, kOrd, kHas, kScout, kRead, kRaid, kTruce, vP3, kPrep, kDec, kSet, kTC, hE.2.1]) (by decide) (by rw [hE.1]; rfl), hE.2.2⟩) (by decide) (by decide) (fun v_2 u_2 H locs hpo h => ?_)
  obtain ⟨rfl, c, hc, rfl, rfl⟩ := hpo
  have hv_c : vIn (nI c) 2 = true := vIn_nI hc (by decide)
  have hi_c : cI (nI c) = c := cI_nI hc (by decide)
  have hc_c : vC (nI c) = true := hv_c
  refine g_f C h ((ha.1 c hc) 0 (by decide)) (lo_Cas hc) (celF_Cas hc) rfl in_X6_counting_X0 7 (by decide) (by decide +kernel) (v := .ref (V.1 (rRow c))) rfl dX6_counting_5 ?_
  refine n_go0 C h (n_V (As := []) (rest := []) C h X ((ha.1 c hc) 16 (by decide)) ((lo_Row hc).trans ((celF_Row hc) _)) rfl (c_X3_countingSize l c hc (ha.1 c hc) M R o (szN M c) (iv.1 c hc).2.2.2.1 (iv.1 c hc).2.2.1 ) (cwV 0 C.2.2.2.2.1 gX6_counting_X3_countingSize rfl rfl rfl (by decide +kernel) ⟨Nat.le_of_ble_eq_true rfl, Nat.le_of_ble_eq_true rfl⟩) rfl hl.1 rfl (Nat.le_of_ble_eq_true rfl) dX6_counting_8 ⟨by decide, by decide⟩) (fun _ _ z => z) (fun v_8 u_8 H locs hpo h => ?_)
  obtain ⟨rfl, rfl⟩ := hpo
  exact e_int C h rfl dX6_counting_11 (⟨by simp [kC, hi_c, hv_c, hc_c], by first | rfl | (simp only [hi_c, hv_c, hc_c]; done) | (simp only [hi_c, hv_c, hc_c]; rfl), by first | rfl | (simp only [hi_c, hv_c, hc_c]; done) | (simp only [hi_c, hv_c, hc_c]; rfl)⟩) (by decide) (by decide)

set_option maxRecDepth 20000 in
theorem in_X6_entryOf_X3 : ∀ x ∈ wsX30, x ∈ wsX6_entryOf := by decide +kernel
set_option maxRecDepth 100000 in
set_option maxHeartbeats 4000000 in
/-- X6_entryOf -/
theorem c_X6_entryOf (l : Launch) {G : va_G} {V : wV} {rs : List Nat} (hl9 : l.stackTraces = false) (ha : bA rs) (M R : wM) (o : wO) (iv : IV M) (ca en0 : Int32) : CT l G V rs yX6_entryOf wsX6_entryOf 9 154 2 12 [.ref (V.1 rMain), .int ca, .int en0] (M, R, o) (fun v u => kEnt M ca en0 = 0 ∧ v = some (.int (M (rLe (cI ca)) (cI en0))) ∧ u = (M, R, o)) (fun E u => XE [eIOE] (kEnt M ca en0) E ∧ u = (M, R, o)) := by
  refine ct_of (cc := cX6_entryOf) (maxL := 3) (ret := (some .char)) (by decide) rfl (Nat.le_of_ble_eq_true rfl) ?_
  intro p e s m below meth cd ls C h X hT hl
  have hx := C.1
  have hy := C.2.1
  have hl : lv_has ls 3 [(0, .ref (V.1 rMain)), (1, .int ca), (2, .int en0)] := hl
  have hsc := iv.2.1.2
  have htn := iv.2.2.1.2
  refine lv_aload_n hx hy dX6_entryOf_0 rfl (lv_at hl 0 rfl) ?_
  refine lv_iload_n hx hy dX6_entryOf_1 rfl (lv_at hl 1 rfl) ?_
  refine lv_iload_n hx hy dX6_entryOf_2 rfl (lv_at hl 2 rfl) ?_
  refine n_go C h hT (n_V (As := [.int ca, .int en0]) (rest := []) C h X (ha.2 60 (by decide) (by decide)) (lo_Main.trans (celF_Main _)) rfl (c_X6_rowWithEntry l hl9 ha M R o iv ca en0) (cwV 2 C.2.2.2.2.1 gX6_entryOf_X6_rowWithEntry rfl rfl rfl (by decide +kernel) ⟨Nat.le_of_ble_eq_true rfl, Nat.le_of_ble_eq_true rfl⟩) rfl hl.1 rfl (Nat.le_of_ble_eq_true rfl) dX6_entryOf_3 ⟨by decide, by decide⟩) (fun E u hE => ⟨XE_of (k := 1) (by simp only [kEnt, hE.2.1]; rfl) (by decide) (by rw [hE.1]; rfl), hE.2.2⟩) (by decide) (by decide) (fun v_3 u_3 H locs hpo h => ?_)
  obtain ⟨rfl, c, en, hc, hen, rfl, rfl, rfl⟩ := hpo
  have hv_c : vIn (nI c) 2 = true := vIn_nI hc (by decide)
  have hi_c : cI (nI c) = c := cI_nI hc (by decide)
  have hc_c : vC (nI c) = true := hv_c
  have hsz9 := (iv.1 c hc).2.2.2.1
  have hen6 : en < 60 := by omega
  have hv_en : vIn (nI en) (szN M c) = true := vIn_nI hen (by omega)
  have hi_en : cI (nI en) = en := nI_clamp (by omega)
  refine g_f C h ((ha.1 c hc) 16 (by decide)) (lo_Row hc) (celF_Row hc) rfl in_X6_entryOf_X3 1 (by decide) (by decide +kernel) (v := .ref (V.1 (rLe c))) rfl dX6_entryOf_6 ?_
  refine lv_iload_n hx hy dX6_entryOf_9 rfl (lv_at hl 2 rfl) ?_
  refine g_c C h ((ha.1 c hc) 17 (by decide)) (n := 60) (k := en) (lo_Le hc) (celF_Le hc) (by omega) (by decide) (v := (M (rLe c) en)) rfl dX6_entryOf_10 ?_
  exact e_int C h ((iv.1 c hc).2.2.2.2.2 en hen).1 dX6_entryOf_11 (⟨by simp [kEnt, hi_c, hv_c, hc_c, hi_en, hv_en], by first | rfl | (simp only [hi_c, hv_c, hc_c, hi_en, hv_en]; done) | (simp only [hi_c, hv_c, hc_c, hi_en, hv_en]; rfl), by first | rfl | (simp only [hi_c, hv_c, hc_c, hi_en, hv_en]; done) | (simp only [hi_c, hv_c, hc_c, hi_en, hv_en]; rfl)⟩) (by decide) (by decide)

set_option maxRecDepth 20000 in
theorem in_X6_amountOf_X3 : ∀ x ∈ wsX30, x ∈ wsX6_amountOf := by decide +kernel
set_option maxRecDepth 100000 in
set_option maxHeartbeats 4000000 in
/-- X6_amountOf -/
theorem c_X6_amountOf (l : Launch) {G : va_G} {V : wV} {rs : List Nat} (hl9 : l.stackTraces = false) (ha : bA rs) (M R : wM) (o : wO) (iv : IV M) (ca en0 : Int32) : CT l G V rs yX6_amountOf wsX6_amountOf 9 154 2 12 [.ref (V.1 rMain), .int ca, .int en0] (M, R, o) (fun v u => kEnt M ca en0 = 0 ∧ v = some (.int (M (rAm (cI ca)) (cI en0))) ∧ u = (M, R, o)) (fun E u => XE [eIOE] (kEnt M ca en0) E ∧ u = (M, R, o)) := by
  refine ct_of (cc := cX6_amountOf) (maxL := 3) (ret := (some .int)) (by decide) rfl (Nat.le_of_ble_eq_true rfl) ?_
  intro p e s m below meth cd ls C h X hT hl
  have hx := C.1
  have hy := C.2.1
  have hl : lv_has ls 3 [(0, .ref (V.1 rMain)), (1, .int ca), (2, .int en0)] := hl
  have hsc := iv.2.1.2
  have htn := iv.2.2.1.2
  refine lv_aload_n hx hy dX6_amountOf_0 rfl (lv_at hl 0 rfl) ?_
  refine lv_iload_n hx hy dX6_amountOf_1 rfl (lv_at hl 1 rfl) ?_
  refine lv_iload_n hx hy dX6_amountOf_2 rfl (lv_at hl 2 rfl) ?_
  refine n_go C h hT (n_V (As := [.int ca, .int en0]) (rest := []) C h X (ha.2 60 (by decide) (by decide)) (lo_Main.trans (celF_Main _)) rfl (c_X6_rowWithEntry l hl9 ha M R o iv ca en0) (cwV 2 C.2.2.2.2.1 gX6_amountOf_X6_rowWithEntry rfl rfl rfl (by decide +kernel) ⟨Nat.le_of_ble_eq_true rfl, Nat.le_of_ble_eq_true rfl⟩) rfl hl.1 rfl (Nat.le_of_ble_eq_true rfl) dX6_amountOf_3 ⟨by decide, by decide⟩) (fun E u hE => ⟨XE_of (k := 1) (by simp only [kEnt, hE.2.1]; rfl) (by decide) (by rw [hE.1]; rfl), hE.2.2⟩) (by decide) (by decide) (fun v_3 u_3 H locs hpo h => ?_)
  obtain ⟨rfl, c, en, hc, hen, rfl, rfl, rfl⟩ := hpo
  have hv_c : vIn (nI c) 2 = true := vIn_nI hc (by decide)
  have hi_c : cI (nI c) = c := cI_nI hc (by decide)
  have hc_c : vC (nI c) = true := hv_c
  have hsz9 := (iv.1 c hc).2.2.2.1
  have hen6 : en < 60 := by omega
  have hv_en : vIn (nI en) (szN M c) = true := vIn_nI hen (by omega)
  have hi_en : cI (nI en) = en := nI_clamp (by omega)
  refine g_f C h ((ha.1 c hc) 16 (by decide)) (lo_Row hc) (celF_Row hc) rfl in_X6_amountOf_X3 2 (by decide) (by decide +kernel) (v := .ref (V.1 (rAm c))) rfl dX6_amountOf_6 ?_
  refine lv_iload_n hx hy dX6_amountOf_9 rfl (lv_at hl 2 rfl) ?_
  refine g_i C h ((ha.1 c hc) 18 (by decide)) (n := 60) (k := en) (lo_Am hc) (celF_Am hc) (by omega) (by decide) (v := (M (rAm c) en)) rfl dX6_amountOf_10 ?_
  exact e_int C h rfl dX6_amountOf_11 (⟨by simp [kEnt, hi_c, hv_c, hc_c, hi_en, hv_en], by first | rfl | (simp only [hi_c, hv_c, hc_c, hi_en, hv_en]; done) | (simp only [hi_c, hv_c, hc_c, hi_en, hv_en]; rfl), by first | rfl | (simp only [hi_c, hv_c, hc_c, hi_en, hv_en]; done) | (simp only [hi_c, hv_c, hc_c, hi_en, hv_en]; rfl)⟩) (by decide) (by decide)

set_option maxRecDepth 20000 in
theorem in_X6_isCommitted_X3 : ∀ x ∈ wsX30, x ∈ wsX6_isCommitted := by decide +kernel
set_option maxRecDepth 100000 in
set_option maxHeartbeats 4000000 in
/-- X6_isCommitted -/
theorem c_X6_isCommitted (l : Launch) {G : va_G} {V : wV} {rs : List Nat} (hl9 : l.stackTraces = false) (ha : bA rs) (M R : wM) (o : wO) (iv : IV M) (ca en0 : Int32) : CT l G V rs yX6_isCommitted wsX6_isCommitted 9 154 2 12 [.ref (V.1 rMain), .int ca, .int en0] (M, R, o) (fun v u => kEnt M ca en0 = 0 ∧ v = some (.int (M (rCo (cI ca)) (cI en0))) ∧ u = (M, R, o)) (fun E u => XE [eIOE] (kEnt M ca en0) E ∧ u = (M, R, o)) := by
  refine ct_of (cc := cX6_isCommitted) (maxL := 3) (ret := (some .boolean)) (by decide) rfl (Nat.le_of_ble_eq_true rfl) ?_
  intro p e s m below meth cd ls C h X hT hl
  have hx := C.1
  have hy := C.2.1
  have hl : lv_has ls 3 [(0, .ref (V.1 rMain)), (1, .int ca), (2, .int en0)] := hl
  have hsc := iv.2.1.2
  have htn := iv.2.2.1.2
  refine lv_aload_n hx hy dX6_isCommitted_0 rfl (lv_at hl 0 rfl) ?_
  refine lv_iload_n hx hy dX6_isCommitted_1 rfl (lv_at hl 1 rfl) ?_
  refine lv_iload_n hx hy dX6_isCommitted_2 rfl (lv_at hl 2 rfl) ?_
  refine n_go C h hT (n_V (As := [.int ca, .int en0]) (rest := []) C h X (ha.2 60 (by decide) (by decide)) (lo_Main.trans (celF_Main _)) rfl (c_X6_rowWithEntry l hl9 ha M R o iv ca en0) (cwV 2 C.2.2.2.2.1 gX6_isCommitted_X6_rowWithEntry rfl rfl rfl (by decide +kernel) ⟨Nat.le_of_ble_eq_true rfl, Nat.le_of_ble_eq_true rfl⟩) rfl hl.1 rfl (Nat.le_of_ble_eq_true rfl) dX6_isCommitted_3 ⟨by decide, by decide⟩) (fun E u hE => ⟨XE_of (k := 1) (by simp only [kEnt, hE.2.1]; rfl) (by decide) (by rw [hE.1]; rfl), hE.2.2⟩) (by decide) (by decide) (fun v_3 u_3 H locs hpo h => ?_)
  obtain ⟨rfl, c, en, hc, hen, rfl, rfl, rfl⟩ := hpo
  have hv_c : vIn (nI c) 2 = true := vIn_nI hc (by decide)
  have hi_c : cI (nI c) = c := cI_nI hc (by decide)
  have hc_c : vC (nI c) = true := hv_c
  have hsz9 := (iv.1 c hc).2.2.2.1
  have hen6 : en < 60 := by omega
  have hv_en : vIn (nI en) (szN M c) = true := vIn_nI hen (by omega)
  have hi_en : cI (nI en) = en := nI_clamp (by omega)
  refine g_f C h ((ha.1 c hc) 16 (by decide)) (lo_Row hc) (celF_Row hc) rfl in_X6_isCommitted_X3 6 (by decide) (by decide +kernel) (v := .ref (V.1 (rCo c))) rfl dX6_isCommitted_6 ?_
  refine lv_iload_n hx hy dX6_isCommitted_9 rfl (lv_at hl 2 rfl) ?_
  refine g_z C h ((ha.1 c hc) 22 (by decide)) (n := 60) (k := en) (lo_Co hc) (celF_Co hc) (by omega) (by decide) (v := (M (rCo c) en)) rfl dX6_isCommitted_10 ?_
  exact e_int C h ((iv.1 c hc).2.2.2.2.2 en hen).2 dX6_isCommitted_11 (⟨by simp [kEnt, hi_c, hv_c, hc_c, hi_en, hv_en], by first | rfl | (simp only [hi_c, hv_c, hc_c, hi_en, hv_en]; done) | (simp only [hi_c, hv_c, hc_c, hi_en, hv_en]; rfl), by first | rfl | (simp only [hi_c, hv_c, hc_c, hi_en, hv_en]; done) | (simp only [hi_c, hv_c, hc_c, hi_en, hv_en]; rfl)⟩) (by decide) (by decide)

set_option maxRecDepth 20000 in
theorem in_X6_has_X3 : ∀ x ∈ wsX30, x ∈ wsX6_has := by decide +kernel
set_option maxRecDepth 100000 in
set_option maxHeartbeats 4000000 in
/-- X6_has -/
theorem c_X6_has (l : Launch) {G : va_G} {V : wV} {rs : List Nat} (hl9 : l.stackTraces = false) (ha : bA rs) (M R : wM) (o : wO) (iv : IV M) (ca to en0 : Int32) : CT l G V rs yX6_has wsX6_has 9 154 4 24 [.ref (V.1 rMain), .int ca, .int to, .int en0] (M, R, o) (fun v u => kHas M ca to en0 = 0 ∧ v = some (.int (b2i (hasB (M (rHo (cI ca)) (cI en0)) (cI to)))) ∧ u = (M, R, o)) (fun E u => XE [eIOE] (kHas M ca to en0) E ∧ u = (M, R, o)) := by
  refine ct_of (cc := cX6_has) (maxL := 4) (ret := (some .boolean)) (by decide) rfl (Nat.le_of_ble_eq_true rfl) ?_
  intro p e s m below meth cd ls C h X hT hl
  have hx := C.1
  have hy := C.2.1
  have hl : lv_has ls 4 [(0, .ref (V.1 rMain)), (1, .int ca), (2, .int to), (3, .int en0)] := hl
  have hsc := iv.2.1.2
  have htn := iv.2.2.1.2
  refine lv_aload_n hx hy dX6_has_0 rfl (lv_at hl 0 rfl) ?_
  refine lv_iload_n hx hy dX6_has_1 rfl (lv_at hl 1 rfl) ?_
  refine n_go C h hT (n_V (As := [.int ca]) (rest := []) C h X (ha.2 60 (by decide) (by decide)) (lo_Main.trans (celF_Main _)) rfl (c_X6_castleAt l hl9 ha M R o ca) (cwV 1 C.2.2.2.2.1 gX6_has_X6_castleAt rfl rfl rfl (by decide +kernel) ⟨Nat.le_of_ble_eq_true rfl, Nat.le_of_ble_eq_true rfl⟩) rfl hl.1 rfl (Nat.le_of_ble_eq_true rfl) dX6_has_2 ⟨by decide, by decide⟩) (fun E u hE => ⟨XE_of (k := 1) (by simp [kTow, kEnt, kVote, kBuild, kWait, kCut, vG3, kLease, kGive, kG3, kOpen, kCL, kC, kOrd, kHas, kScout, kRead, kRaid, kTruce, vP3, kPrep, kDec, kSet, kTC, hE.2.1]) (by decide) (by rw [hE.1]; rfl), hE.2.2⟩) (by decide) (by decide) (fun v_2 u_2 H locs hpo h => ?_)
  obtain ⟨rfl, c, hc, rfl, rfl⟩ := hpo
  have hv_c : vIn (nI c) 2 = true := vIn_nI hc (by decide)
  have hi_c : cI (nI c) = c := cI_nI hc (by decide)
  have hc_c : vC (nI c) = true := hv_c
  refine lv_iload_n hx hy dX6_has_5 rfl (lv_at hl 2 rfl) ?_
  refine n_go C h hT (n_S (As := [.ref (V.1 (rCas c)), .int to]) (rest := []) C h X (c_X6_requireTower l hl9 c hc (ha.1 c hc) M R o (tcN M c) (iv.1 c hc).2.1 (iv.1 c hc).1 to) (va_cwS 2 C.2.2.2.2.1 gX6_has_X6_requireTower rfl rfl rfl (by decide +kernel) ⟨Nat.le_of_ble_eq_true rfl, Nat.le_of_ble_eq_true rfl⟩) rfl hl.1 rfl (Nat.le_of_ble_eq_true rfl) dX6_has_6 ⟨by decide, by decide⟩) (fun E u hE => ⟨XE_of (k := 1) (by simp [kTow, kEnt, kVote, kBuild, kWait, kCut, vG3, kLease, kGive, kG3, kOpen, kCL, kC, kOrd, kHas, kScout, kRead, kRaid, kTruce, vP3, kPrep, kDec, kSet, kTC, hE.2.1, hi_c, hv_c, hc_c]) (by decide) (by rw [hE.1]; rfl), hE.2.2⟩) (by decide) (by decide) (fun v_6 u_6 H locs hpo h => ?_)
  have htc7 := (iv.1 c hc).2.1
  obtain ⟨rfl, rfl, t, ht, rfl⟩ := hpo
  have hv_t : vIn (nI t) (tcN M c) = true := vIn_nI ht (by omega)
  have hi_t : cI (nI t) = t := cI_nI ht (by omega)
  have ht7 : t < 7 := by omega
  refine lv_aload_n hx hy dX6_has_9 rfl (lv_at hl 0 rfl) ?_
  refine lv_iload_n hx hy dX6_has_10 rfl (lv_at hl 1 rfl) ?_
  refine lv_iload_n hx hy dX6_has_11 rfl (lv_at hl 3 rfl) ?_
  refine n_go C h hT (n_V (As := [.int (nI c), .int en0]) (rest := []) C h X (ha.2 60 (by decide) (by decide)) (lo_Main.trans (celF_Main _)) rfl (c_X6_rowWithEntry l hl9 ha M R o iv (nI c) en0) (cwV 2 C.2.2.2.2.1 gX6_has_X6_rowWithEntry rfl rfl rfl (by decide +kernel) ⟨Nat.le_of_ble_eq_true rfl, Nat.le_of_ble_eq_true rfl⟩) rfl hl.1 rfl (Nat.le_of_ble_eq_true rfl) dX6_has_12 ⟨by decide, by decide⟩) (fun E u hE => ⟨XE_of (k := 1) (by have h9 := hE.2.1; simp only [hc_c, hi_c, Bool.true_and] at h9; simp [kTow, kEnt, kVote, kBuild, kWait, kCut, vG3, kLease, kGive, kG3, kOpen, kCL, kC, kOrd, kHas, kScout, kRead, kRaid, kTruce, vP3, kPrep, kDec, kSet, kTC, h9, hi_c, hv_c, hc_c, hi_t, hv_t]) (by decide) (by rw [hE.1]; rfl), hE.2.2⟩) (by decide) (by decide) (fun v_12 u_12 H locs hpo h => ?_)
  obtain ⟨rfl, c9, en, hc9, hen, he9, rfl, rfl⟩ := hpo
  obtain rfl := nI_inj2 hc hc9 (by decide) he9
  have hsz9 := (iv.1 c hc).2.2.2.1
  have hen6 : en < 60 := by omega
  have hv_en : vIn (nI en) (szN M c) = true := vIn_nI hen (by omega)
  have hi_en : cI (nI en) = en := nI_clamp (by omega)
  refine g_f C h ((ha.1 c hc) 16 (by decide)) (lo_Row hc) (celF_Row hc) rfl in_X6_has_X3 4 (by decide) (by decide +kernel) (v := .ref (V.1 (rHo c))) rfl dX6_has_15 ?_
  refine lv_iload_n hx hy dX6_has_18 rfl (lv_at hl 3 rfl) ?_
  refine g_i C h ((ha.1 c hc) 20 (by decide)) (n := 60) (k := en) (lo_Ho hc) (celF_Ho hc) (by omega) (by decide) (v := (M (rHo c) en)) rfl dX6_has_19 ?_
  refine lv_iload_n hx hy dX6_has_20 rfl (lv_at hl 2 rfl) ?_
  refine n_go0 C h (n_S (As := [.int (M (rHo c) en), .int (nI t)]) (rest := []) C h X (c_X6_contains l M R o (M (rHo c) en) t) (va_cwS 2 C.2.2.2.2.1 gX6_has_X6_contains rfl rfl rfl (by decide +kernel) ⟨Nat.le_of_ble_eq_true rfl, Nat.le_of_ble_eq_true rfl⟩) rfl hl.1 rfl (Nat.le_of_ble_eq_true rfl) dX6_has_21 ⟨by decide, by decide⟩) (fun _ _ z => z) (fun v_21 u_21 H locs hpo h => ?_)
  obtain ⟨rfl, rfl⟩ := hpo
  exact e_int C h (b2i_nar _) dX6_has_24 (⟨by simp [kHas, hi_c, hv_c, hc_c, hi_t, hv_t, hi_en, hv_en], by first | rfl | (simp only [hi_c, hv_c, hc_c, hi_t, hv_t, hi_en, hv_en]; done) | (simp only [hi_c, hv_c, hc_c, hi_t, hv_t, hi_en, hv_en]; rfl), by first | rfl | (simp only [hi_c, hv_c, hc_c, hi_t, hv_t, hi_en, hv_en]; done) | (simp only [hi_c, hv_c, hc_c, hi_t, hv_t, hi_en, hv_en]; rfl)⟩) (by decide) (by decide)

set_option maxRecDepth 20000 in
theorem in_X6_gold_X2 : ∀ x ∈ wsX20, x ∈ wsX6_gold := by decide +kernel
set_option maxRecDepth 100000 in
set_option maxHeartbeats 4000000 in
/-- X6_gold -/
theorem c_X6_gold (l : Launch) {G : va_G} {V : wV} {rs : List Nat} (hl9 : l.stackTraces = false) (ha : bA rs) (M R : wM) (o : wO) (iv : IV M) (ca : Int32) (isH : Bool) : CT l G V rs yX6_gold wsX6_gold 8 131 1 6 [.ref (V.1 rMain), .int ca, .int (b2i isH)] (M, R, o) (fun v u => kC ca = 0 ∧ v = some (.int (if isH = true then telM M (cI ca) (szN M (cI ca)) (rLed (cI ca)) 1 else telM M (cI ca) (szN M (cI ca)) (rLed (cI ca)) 0)) ∧ u = (telM M (cI ca) (szN M (cI ca)), R, o)) (fun E u => XE [eIOE] (kC ca) E ∧ u = (M, R, o)) := by
  refine ct_of (cc := cX6_gold) (maxL := 4) (ret := (some .int)) (by decide) rfl (Nat.le_of_ble_eq_true rfl) ?_
  intro p e s m below meth cd ls C h X hT hl
  have hx := C.1
  have hy := C.2.1
  have hl : lv_has ls 4 [(0, .ref (V.1 rMain)), (1, .int ca), (2, .int (b2i isH))] := hl
  have hsc := iv.2.1.2
  have htn := iv.2.2.1.2
  refine lv_aload_n hx hy dX6_gold_0 rfl (lv_at hl 0 rfl) ?_
  refine lv_iload_n hx hy dX6_gold_1 rfl (lv_at hl 1 rfl) ?_
  refine n_go C h hT (n_V (As := [.int ca]) (rest := []) C h X (ha.2 60 (by decide) (by decide)) (lo_Main.trans (celF_Main _)) rfl (c_X6_castleAt l hl9 ha M R o ca) (cwV 1 C.2.2.2.2.1 gX6_gold_X6_castleAt rfl rfl rfl (by decide +kernel) ⟨Nat.le_of_ble_eq_true rfl, Nat.le_of_ble_eq_true rfl⟩) rfl hl.1 rfl (Nat.le_of_ble_eq_true rfl) dX6_gold_2 ⟨by decide, by decide⟩) (fun E u hE => ⟨XE_of (k := 1) (by simp [kTow, kEnt, kVote, kBuild, kWait, kCut, vG3, kLease, kGive, kG3, kOpen, kCL, kC, kOrd, kHas, kScout, kRead, kRaid, kTruce, vP3, kPrep, kDec, kSet, kTC, hE.2.1]) (by decide) (by rw [hE.1]; rfl), hE.2.2⟩) (by decide) (by decide) (fun v_2 u_2 H locs hpo h => ?_)
  obtain ⟨rfl, c, hc, rfl, rfl⟩ := hpo
  have hv_c : vIn (nI c) 2 = true := vIn_nI hc (by decide)
  have hi_c : cI (nI c) = c := cI_nI hc (by decide)
  have hc_c : vC (nI c) = true := hv_c
  refine n_go0 C h (n_V (As := []) (rest := []) C h X ((ha.1 c hc) 0 (by decide)) ((lo_Cas hc).trans ((celF_Cas hc) _)) rfl (c_X0_tellLedger l c hc (ha.1 c hc) M R o (szN M c) (iv.1 c hc).2.2.2.1 (iv.1 c hc).2.2.1 (iv.1 c hc).2.2.2.2.1 ) (cwV 0 C.2.2.2.2.1 gX6_gold_X0_tellLedger rfl rfl rfl (by decide +kernel) ⟨Nat.le_of_ble_eq_true rfl, Nat.le_of_ble_eq_true rfl⟩) rfl hl.1 rfl (Nat.le_of_ble_eq_true rfl) dX6_gold_5 ⟨by decide, by decide⟩) (fun _ _ z => z) (fun v_5 u_5 H locs hpo h => ?_)
  obtain ⟨rfl, rfl⟩ := hpo
  refine lv_astore_n (lv' := [(3, .ref (V.1 (rLed c))), (0, .ref (V.1 rMain)), (1, .int (nI c)), (2, .int (b2i isH))]) hx hy dX6_gold_8 rfl hl (by decide) rfl (fun ls hl => ?_)
  refine lv_iload_n hx hy dX6_gold_9 rfl (lv_at hl 3 rfl) ?_
  refine b_eq hx hy (tgt := 20) dX6_gold_10 (by decide) (fun c_10 => ?_) (fun c_10 => ?_)
  · skip
    refine lv_aload_n hx hy dX6_gold_20 rfl (lv_at hl 0 rfl) ?_
    refine g_f C h ((ha.1 c hc) 23 (by decide)) (lo_Led hc) (celF_Led hc) rfl in_X6_gold_X2 0 (by decide) (by decide +kernel) (v := .int ((telM M c (szN M c)) (rLed c) 0)) rfl dX6_gold_21 ?_
    exact e_int C h rfl dX6_gold_24 (⟨by simp [kC, hi_c, hv_c, hc_c, c_10], by simp [hi_c, hv_c, hc_c, c_10], by simp [hi_c, hv_c, hc_c, c_10]⟩) (by decide) (by decide)
  · skip
    refine lv_aload_n hx hy dX6_gold_13 rfl (lv_at hl 0 rfl) ?_
    refine g_f C h ((ha.1 c hc) 23 (by decide)) (lo_Led hc) (celF_Led hc) rfl in_X6_gold_X2 1 (by decide) (by decide +kernel) (v := .int ((telM M c (szN M c)) (rLed c) 1)) rfl dX6_gold_14 ?_
    refine lv_goto (tgt := 24) hx hy dX6_gold_17 (by decide) ?_
    exact e_int C h rfl dX6_gold_24 (⟨by simp [kC, hi_c, hv_c, hc_c, c_10], by simp [hi_c, hv_c, hc_c, c_10], by simp [hi_c, hv_c, hc_c, c_10]⟩) (by decide) (by decide)

set_option maxRecDepth 20000 in
theorem in_X6_purse_X2 : ∀ x ∈ wsX20, x ∈ wsX6_purse := by decide +kernel
set_option maxRecDepth 100000 in
set_option maxHeartbeats 4000000 in
/-- X6_purse -/
theorem c_X6_purse (l : Launch) {G : va_G} {V : wV} {rs : List Nat} (hl9 : l.stackTraces = false) (ha : bA rs) (M R : wM) (o : wO) (iv : IV M) (lo0 ca : Int32) : CT l G V rs yX6_purse wsX6_purse 8 131 2 12 [.ref (V.1 rMain), .int lo0, .int ca] (M, R, o) (fun v u => kCL ca lo0 = 0 ∧ v = some (.int (telM M (cI ca) (szN M (cI ca)) (rPu (cI ca)) (cI lo0))) ∧ u = (telM M (cI ca) (szN M (cI ca)), R, o)) (fun E u => XE [eIOE] (kCL ca lo0) E ∧ u = (M, R, o)) := by
  refine ct_of (cc := cX6_purse) (maxL := 4) (ret := (some .int)) (by decide) rfl (Nat.le_of_ble_eq_true rfl) ?_
  intro p e s m below meth cd ls C h X hT hl
  have hx := C.1
  have hy := C.2.1
  have hl : lv_has ls 4 [(0, .ref (V.1 rMain)), (1, .int lo0), (2, .int ca)] := hl
  have hsc := iv.2.1.2
  have htn := iv.2.2.1.2
  refine lv_aload_n hx hy dX6_purse_0 rfl (lv_at hl 0 rfl) ?_
  refine lv_iload_n hx hy dX6_purse_1 rfl (lv_at hl 2 rfl) ?_
  refine n_go C h hT (n_V (As := [.int ca]) (rest := []) C h X (ha.2 60 (by decide) (by decide)) (lo_Main.trans (celF_Main _)) rfl (c_X6_castleAt l hl9 ha M R o ca) (cwV 1 C.2.2.2.2.1 gX6_purse_X6_castleAt rfl rfl rfl (by decide +kernel) ⟨Nat.le_of_ble_eq_true rfl, Nat.le_of_ble_eq_true rfl⟩) rfl hl.1 rfl (Nat.le_of_ble_eq_true rfl) dX6_purse_2 ⟨by decide, by decide⟩) (fun E u hE => ⟨XE_of (k := 1) (by simp [kTow, kEnt, kVote, kBuild, kWait, kCut, vG3, kLease, kGive, kG3, kOpen, kCL, kC, kOrd, kHas, kScout, kRead, kRaid, kTruce, vP3, kPrep, kDec, kSet, kTC, hE.2.1]) (by decide) (by rw [hE.1]; rfl), hE.2.2⟩) (by decide) (by decide) (fun v_2 u_2 H locs hpo h => ?_)
  obtain ⟨rfl, c, hc, rfl, rfl⟩ := hpo
  have hv_c : vIn (nI c) 2 = true := vIn_nI hc (by decide)
  have hi_c : cI (nI c) = c := cI_nI hc (by decide)
  have hc_c : vC (nI c) = true := hv_c
  refine lv_astore_n (lv' := [(3, .ref (V.1 (rCas c))), (0, .ref (V.1 rMain)), (1, .int lo0), (2, .int (nI c))]) hx hy dX6_purse_5 rfl hl (by decide) rfl (fun ls hl => ?_)
  refine lv_iload_n hx hy dX6_purse_6 rfl (lv_at hl 2 rfl) ?_
  refine n_go C h hT (n_S (As := [.int lo0]) (rest := []) C h X (c_X6_requireLord l hl9 M R o lo0) (va_cwS 1 C.2.2.2.2.1 gX6_purse_X6_requireLord rfl rfl rfl (by decide +kernel) ⟨Nat.le_of_ble_eq_true rfl, Nat.le_of_ble_eq_true rfl⟩) rfl hl.1 rfl (Nat.le_of_ble_eq_true rfl) dX6_purse_7 ⟨by decide, by decide⟩) (fun E u hE => ⟨XE_of (k := 1) (by simp [kTow, kEnt, kVote, kBuild, kWait, kCut, vG3, kLease, kGive, kG3, kOpen, kCL, kC, kOrd, kHas, kScout, kRead, kRaid, kTruce, vP3, kPrep, kDec, kSet, kTC, hE.2.1, hi_c, hv_c, hc_c]) (by decide) (by rw [hE.1]; rfl), hE.2.2⟩) (by decide) (by decide) (fun v_7 u_7 H locs hpo h => ?_)
  obtain ⟨rfl, rfl, lo, hlo, rfl⟩ := hpo
  have hv_lo : vIn (nI lo) 4 = true := vIn_nI hlo (by decide)
  have hi_lo : cI (nI lo) = lo := cI_nI hlo (by decide)
  refine lv_aload_n hx hy dX6_purse_10 rfl (lv_at hl 0 rfl) ?_
  refine n_go0 C h (n_V (As := []) (rest := []) C h X ((ha.1 c hc) 0 (by decide)) ((lo_Cas hc).trans ((celF_Cas hc) _)) rfl (c_X0_tellLedger l c hc (ha.1 c hc) M R o (szN M c) (iv.1 c hc).2.2.2.1 (iv.1 c hc).2.2.1 (iv.1 c hc).2.2.2.2.1 ) (cwV 0 C.2.2.2.2.1 gX6_purse_X0_tellLedger rfl rfl rfl (by decide +kernel) ⟨Nat.le_of_ble_eq_true rfl, Nat.le_of_ble_eq_true rfl⟩) rfl hl.1 rfl (Nat.le_of_ble_eq_true rfl) dX6_purse_11 ⟨by decide, by decide⟩) (fun _ _ z => z) (fun v_11 u_11 H locs hpo h => ?_)
  obtain ⟨rfl, rfl⟩ := hpo
  refine g_f C h ((ha.1 c hc) 23 (by decide)) (lo_Led hc) (celF_Led hc) rfl in_X6_purse_X2 2 (by decide) (by decide +kernel) (v := .ref (V.1 (rPu c))) rfl dX6_purse_14 ?_
  refine lv_iload_n hx hy dX6_purse_17 rfl (lv_at hl 2 rfl) ?_
  refine g_i C h ((ha.1 c hc) 24 (by decide)) (n := 4) (k := lo) (lo_Pu hc) (celF_Pu hc) (by omega) (by decide) (v := ((telM M c (szN M c)) (rPu c) lo)) rfl dX6_purse_18 ?_
  exact e_int C h rfl dX6_purse_19 (⟨by simp [kCL, hi_c, hv_c, hc_c, hi_lo, hv_lo], by first | rfl | (simp only [hi_c, hv_c, hc_c, hi_lo, hv_lo]; done) | (simp only [hi_c, hv_c, hc_c, hi_lo, hv_lo]; rfl), by first | rfl | (simp only [hi_c, hv_c, hc_c, hi_lo, hv_lo]; done) | (simp only [hi_c, hv_c, hc_c, hi_lo, hv_lo]; rfl)⟩) (by decide) (by decide)

set_option maxRecDepth 20000 in
theorem in_X6_scout_X6 : ∀ x ∈ wsX60, x ∈ wsX6_scout := by decide +kernel
set_option maxRecDepth 20000 in
theorem at_X6_scout_41 : ∀ w ∈ (vx_atS RX6 236 "java/lang/IllegalStateException" ["java/lang/RuntimeException", "java/lang/Exception"]).filter goodWord, w ∈ wsX6_scout := by decide +kernel
set_option maxRecDepth 20000 in
theorem at_X6_scout_22 : ∀ w ∈ (vx_atS RX6 62 "java/lang/UnsupportedOperationException" ["java/lang/RuntimeException", "java/lang/Exception"]).filter goodWord, w ∈ wsX6_scout := by decide +kernel
set_option maxRecDepth 100000 in
set_option maxHeartbeats 4000000 in
/-- X6_scout -/
theorem c_X6_scout (l : Launch) {G : va_G} {V : wV} {rs : List Nat} (hl9 : l.stackTraces = false) (ha : bA rs) (M R : wM) (o : wO) (iv : IV M) (lo0 ca : Int32) : CT l G V rs yX6_scout wsX6_scout 8 131 3 18 [.ref (V.1 rMain), .int lo0, .int ca] (M, R, o) (fun v u => kScout M lo0 ca = 0 ∧ v = some (.int (nI (scN M))) ∧ u = (scoM M (cI ca) (cI lo0), R, o)) (fun E u => XE [eIOE, eUOE, eISE] (kScout M lo0 ca) E ∧ u = (M, R, o)) := by
  refine ct_of (cc := cX6_scout) (maxL := 4) (ret := (some .int)) (by decide) rfl (Nat.le_of_ble_eq_true rfl) ?_
  intro p e s m below meth cd ls C h X hT hl
  have hx := C.1
  have hy := C.2.1
  have hl : lv_has ls 4 [(0, .ref (V.1 rMain)), (1, .int lo0), (2, .int ca)] := hl
  have hsc := iv.2.1.2
  have htn := iv.2.2.1.2
  refine lv_aload_n hx hy dX6_scout_0 rfl (lv_at hl 0 rfl) ?_
  refine lv_iload_n hx hy dX6_scout_1 rfl (lv_at hl 2 rfl) ?_
  refine n_go C h hT (n_V (As := [.int ca]) (rest := []) C h X (ha.2 60 (by decide) (by decide)) (lo_Main.trans (celF_Main _)) rfl (c_X6_castleAt l hl9 ha M R o ca) (cwV 1 C.2.2.2.2.1 gX6_scout_X6_castleAt rfl rfl rfl (by decide +kernel) ⟨Nat.le_of_ble_eq_true rfl, Nat.le_of_ble_eq_true rfl⟩) rfl hl.1 rfl (Nat.le_of_ble_eq_true rfl) dX6_scout_2 ⟨by decide, by decide⟩) (fun E u hE => ⟨XE_of (k := 1) (by simp [kTow, kEnt, kVote, kBuild, kWait, kCut, vG3, kLease, kGive, kG3, kOpen, kCL, kC, kOrd, kHas, kScout, kRead, kRaid, kTruce, vP3, kPrep, kDec, kSet, kTC, hE.2.1]) (by decide) (by rw [hE.1]; rfl), hE.2.2⟩) (by decide) (by decide) (fun v_2 u_2 H locs hpo h => ?_)
  obtain ⟨rfl, c, hc, rfl, rfl⟩ := hpo
  have hv_c : vIn (nI c) 2 = true := vIn_nI hc (by decide)
  have hi_c : cI (nI c) = c := cI_nI hc (by decide)
  have hc_c : vC (nI c) = true := hv_c
  refine lv_astore_n (lv' := [(3, .ref (V.1 (rCas c))), (0, .ref (V.1 rMain)), (1, .int lo0), (2, .int (nI c))]) hx hy dX6_scout_5 rfl hl (by decide) rfl (fun ls hl => ?_)
  refine lv_iload_n hx hy dX6_scout_6 rfl (lv_at hl 2 rfl) ?_
  refine n_go C h hT (n_S (As := [.int lo0]) (rest := []) C h X (c_X6_requireLord l hl9 M R o lo0) (va_cwS 1 C.2.2.2.2.1 gX6_scout_X6_requireLord rfl rfl rfl (by decide +kernel) ⟨Nat.le_of_ble_eq_true rfl, Nat.le_of_ble_eq_true rfl⟩) rfl hl.1 rfl (Nat.le_of_ble_eq_true rfl) dX6_scout_7 ⟨by decide, by decide⟩) (fun E u hE => ⟨XE_of (k := 1) (by simp [kTow, kEnt, kVote, kBuild, kWait, kCut, vG3, kLease, kGive, kG3, kOpen, kCL, kC, kOrd, kHas, kScout, kRead, kRaid, kTruce, vP3, kPrep, kDec, kSet, kTC, hE.2.1, hi_c, hv_c, hc_c]) (by decide) (by rw [hE.1]; rfl), hE.2.2⟩) (by decide) (by decide) (fun v_7 u_7 H locs hpo h => ?_)
  obtain ⟨rfl, rfl, lo, hlo, rfl⟩ := hpo
  have hv_lo : vIn (nI lo) 4 = true := vIn_nI hlo (by decide)
  have hi_lo : cI (nI lo) = lo := cI_nI hlo (by decide)
  refine lv_aload_n hx hy dX6_scout_10 rfl (lv_at hl 0 rfl) ?_
  refine lv_aload_n hx hy dX6_scout_11 rfl (lv_at hl 0 rfl) ?_
  refine lv_iload_n hx hy dX6_scout_12 rfl (lv_at hl 2 rfl) ?_
  refine n_go0 C h (n_V (As := [.int (nI lo)]) (rest := [.ref (V.1 (rCas c))]) C h X ((ha.1 c hc) 0 (by decide)) ((lo_Cas hc).trans ((celF_Cas hc) _)) rfl (c_X0_towersNear l c hc (ha.1 c hc) M R o lo hlo) (cwV 1 C.2.2.2.2.1 gX6_scout_X0_towersNear rfl rfl rfl (by decide +kernel) ⟨Nat.le_of_ble_eq_true rfl, Nat.le_of_ble_eq_true rfl⟩) rfl hl.1 rfl (Nat.le_of_ble_eq_true rfl) dX6_scout_13 ⟨by decide, by decide⟩) (fun _ _ z => z) (fun v_13 u_13 H locs hpo h => ?_)
  obtain ⟨rfl, rfl⟩ := hpo
  refine n_go0 C h (n_V (As := [.int (nearI M c lo)]) (rest := []) C h X ((ha.1 c hc) 0 (by decide)) ((lo_Cas hc).trans ((celF_Cas hc) _)) rfl (c_X0_isQuorum l c hc (ha.1 c hc) M R o (nearI M c lo)) (cwV 1 C.2.2.2.2.1 gX6_scout_X0_isQuorum rfl rfl rfl (by decide +kernel) ⟨Nat.le_of_ble_eq_true rfl, Nat.le_of_ble_eq_true rfl⟩) rfl hl.1 rfl (Nat.le_of_ble_eq_true rfl) dX6_scout_16 ⟨by decide, by decide⟩) (fun _ _ z => z) (fun v_16 u_16 H locs hpo h => ?_)
  obtain ⟨rfl, rfl⟩ := hpo
  refine b_ne hx hy (tgt := 32) dX6_scout_19 (by decide) (fun c_19 => ?_) (fun c_19 => ?_)
  · skip
    refine lv_aload_n hx hy dX6_scout_32 rfl (lv_at hl 1 rfl) ?_
    refine g_f C h (ha.2 60 (by decide) (by decide)) lo_Main celF_Main rfl in_X6_scout_X6 5 (by decide) (by decide +kernel) (v := .int (nI (scN M))) (congrArg (fun z => some (Value.int z)) (show M rMain 5 = (nI (scN M)) from iv.2.1.1)) dX6_scout_33 ?_
    refine lv_bipush (v := (nI 20)) hx hy dX6_scout_36 (by decide) ?_
    refine n_lt hx hy (by omega) (by decide) (tgt := 51) dX6_scout_38 (by decide) (fun c_38 => ?_) (fun c_38 => ?_)
    · skip
      refine lv_aload_n hx hy dX6_scout_51 rfl (lv_at hl 1 rfl) ?_
      refine g_f C h (ha.2 60 (by decide) (by decide)) lo_Main celF_Main rfl in_X6_scout_X6 2 (by decide) (by decide +kernel) (v := .ref (V.1 rSis)) rfl dX6_scout_52 ?_
      refine lv_aload_n hx hy dX6_scout_55 rfl (lv_at hl 1 rfl) ?_
      refine g_f C h (ha.2 60 (by decide) (by decide)) lo_Main celF_Main rfl in_X6_scout_X6 5 (by decide) (by decide +kernel) (v := .int (nI (scN M))) (congrArg (fun z => some (Value.int z)) (show M rMain 5 = (nI (scN M)) from iv.2.1.1)) dX6_scout_56 ?_
      refine g_a C h (ha.2 61 (by decide) (by decide)) 4 (n := 20) (k := (scN M)) lo_Sis (celF_Sis _) rfl (by omega) (by decide) (a := V.1 (rSi (scN M))) rfl dX6_scout_59 ?_
      refine lv_aload_n hx hy dX6_scout_60 rfl (lv_at hl 0 rfl) ?_
      refine lv_iload_n hx hy dX6_scout_61 rfl (lv_at hl 2 rfl) ?_
      refine lv_aload_n hx hy dX6_scout_62 rfl (lv_at hl 1 rfl) ?_
      refine g_f C h (ha.2 60 (by decide) (by decide)) lo_Main celF_Main rfl in_X6_scout_X6 7 (by decide) (by decide +kernel) (v := .int (M rMain 7)) rfl dX6_scout_63 ?_
      refine n_go0 C h (n_V (As := [.ref (V.1 (rCas c)), .int (nI lo), .int (M rMain 7)]) (rest := []) C h X (ha.2 (64 + (scN M)) (by omega) (by omega)) ((lo_Si (by omega)).trans ((celF_Si (by omega)) _)) rfl (c_X4_look l (scN M) (by omega) ha M R o c hc (szN M c) (iv.1 c hc).2.2.2.1 (iv.1 c hc).2.2.1 (iv.1 c hc).2.2.2.2.1 lo hlo (M rMain 7)) (cwV 3 C.2.2.2.2.1 gX6_scout_X4_look rfl rfl rfl (by decide +kernel) ⟨Nat.le_of_ble_eq_true rfl, Nat.le_of_ble_eq_true rfl⟩) rfl hl.1 rfl (Nat.le_of_ble_eq_true rfl) dX6_scout_66 ⟨by decide, by decide⟩) (fun _ _ z => z) (fun v_66 u_66 H locs hpo h => ?_)
      obtain ⟨rfl, rfl⟩ := hpo
      refine lv_aload_n hx hy dX6_scout_69 rfl (lv_at hl 1 rfl) ?_
      refine lv_dup hx hy dX6_scout_70 rfl ?_
      refine g_f C h (ha.2 60 (by decide) (by decide)) lo_Main celF_Main rfl in_X6_scout_X6 5 (by decide) (by decide +kernel) (v := .int (nI (scN M))) (congrArg (fun z => some (Value.int z)) (show (sLook M (scN M) c lo (szN M c) (M rMain 7)) rMain 5 = (nI (scN M)) from ((congrFun (sLook_ne (by simp only [rMain, rSi]; omega) (by simp only [rLed, rMain]; omega) (by simp only [rMain, rPu]; omega)) _).trans iv.2.1.1))) dX6_scout_71 ?_
      refine lv_dup_x1 hx hy dX6_scout_74 rfl rfl ?_
      refine lv_iconst (v := (nI 1)) hx hy dX6_scout_75 (by decide) ?_
      refine lv_iadd hx hy dX6_scout_76 ?_
      refine lv_topn (nI_add _ _) ?_
      refine p_f C h (ha.2 60 (by decide) (by decide)) lt_Main celF_Main rfl in_X6_scout_X6 tyX6_ok nmX6 5 (by decide) (by decide +kernel) rfl (v := .int (nI ((scN M) + 1))) (x := (nI ((scN M) + 1))) rfl rfl (fun _ => Nat.le_of_ble_eq_true rfl) (fun _ => rfl) dX6_scout_77 (fun H locs h => ?_)
      exact e_int C h rfl dX6_scout_80 (⟨by simp [kScout, hi_c, hv_c, hc_c, hi_lo, hv_lo, c_19, eq_true c_38, eq_false (Nat.not_le.mpr c_38)], rfl, by simp [scoM, hi_c, hv_c, hc_c, hi_lo, hv_lo, c_19, eq_true c_38, eq_false (Nat.not_le.mpr c_38)]⟩) (by decide) (by decide)
    · skip
      exact t_narrow (ic := 236) (ik := 232) (is := 234) (cls := "java/lang/IllegalStateException") (text := tx_234) C h X hT hl9 (by decide) (by decide) (by decide) hl.1 (by decide +kernel) (by decide +kernel) at_X6_scout_41 bad_ISE good_ISE_232 dX6_scout_41 dX6_scout_44 dX6_scout_45 dX6_scout_47 dX6_scout_50 (by decide) (by decide) (by decide) (by decide) (by decide) (by decide) (⟨XE_of (k := 3) (by simp [kScout, hi_c, hv_c, hc_c, hi_lo, hv_lo, c_19, eq_true c_38, eq_false (Nat.not_lt.mpr c_38)]) (by decide) rfl, rfl⟩)
  · skip
    exact t_narrow (ic := 62) (ik := 58) (is := 227) (cls := "java/lang/UnsupportedOperationException") (text := tx_227) C h X hT hl9 (by decide) (by decide) (by decide) hl.1 (by decide +kernel) (by decide +kernel) at_X6_scout_22 bad_UOE good_UOE_58 dX6_scout_22 dX6_scout_25 dX6_scout_26 dX6_scout_28 dX6_scout_31 (by decide) (by decide) (by decide) (by decide) (by decide) (by decide) (⟨XE_of (k := 2) (by simp [kScout, hi_c, hv_c, hc_c, hi_lo, hv_lo, c_19]) (by decide) rfl, rfl⟩)

set_option maxRecDepth 20000 in
theorem in_X6_read_X6 : ∀ x ∈ wsX60, x ∈ wsX6_read := by decide +kernel
set_option maxRecDepth 20000 in
theorem in_X6_read_X4 : ∀ x ∈ wsX40, x ∈ wsX6_read := by decide +kernel
set_option maxRecDepth 20000 in
theorem at_X6_read_17 : ∀ w ∈ (vx_atS RX6 62 "java/lang/UnsupportedOperationException" ["java/lang/RuntimeException", "java/lang/Exception"]).filter goodWord, w ∈ wsX6_read := by decide +kernel
set_option maxRecDepth 100000 in
set_option maxHeartbeats 4000000 in
/-- X6_read -/
theorem c_X6_read (l : Launch) {G : va_G} {V : wV} {rs : List Nat} (hl9 : l.stackTraces = false) (ha : bA rs) (M R : wM) (o : wO) (iv : IV M) (si0 : Int32) (isC : Bool) : CT l G V rs yX6_read wsX6_read 7 111 2 12 [.ref (V.1 rMain), .int si0, .int (b2i isC)] (M, R, o) (fun v u => kRead M si0 = 0 ∧ v = some (.int (if isC = true then M (rSi (cI si0)) 4 else M (rSi (cI si0)) 5)) ∧ u = (M, R, o)) (fun E u => XE [eIOE, eUOE] (kRead M si0) E ∧ u = (M, R, o)) := by
  refine ct_of (cc := cX6_read) (maxL := 4) (ret := (some .int)) (by decide) rfl (Nat.le_of_ble_eq_true rfl) ?_
  intro p e s m below meth cd ls C h X hT hl
  have hx := C.1
  have hy := C.2.1
  have hl : lv_has ls 4 [(0, .ref (V.1 rMain)), (1, .int si0), (2, .int (b2i isC))] := hl
  have hsc := iv.2.1.2
  have htn := iv.2.2.1.2
  refine lv_aload_n hx hy dX6_read_0 rfl (lv_at hl 0 rfl) ?_
  refine lv_iload_n hx hy dX6_read_1 rfl (lv_at hl 1 rfl) ?_
  refine n_go C h hT (n_V (As := [.int si0]) (rest := []) C h X (ha.2 60 (by decide) (by decide)) (lo_Main.trans (celF_Main _)) rfl (c_X6_sightAt l hl9 ha M R o iv si0) (cwV 1 C.2.2.2.2.1 gX6_read_X6_sightAt rfl rfl rfl (by decide +kernel) ⟨Nat.le_of_ble_eq_true rfl, Nat.le_of_ble_eq_true rfl⟩) rfl hl.1 rfl (Nat.le_of_ble_eq_true rfl) dX6_read_2 ⟨by decide, by decide⟩) (fun E u hE => ⟨XE_of (k := 1) (by simp [kTow, kEnt, kVote, kBuild, kWait, kCut, vG3, kLease, kGive, kG3, kOpen, kCL, kC, kOrd, kHas, kScout, kRead, kRaid, kTruce, vP3, kPrep, kDec, kSet, kTC, hE.2.1]) (by decide) (by rw [hE.1]; rfl), hE.2.2⟩) (by decide) (by decide) (fun v_2 u_2 H locs hpo h => ?_)
  obtain ⟨rfl, k, hk, rfl, rfl⟩ := hpo
  have hk9 : k < 20 := by omega
  have hv_k : vIn (nI k) (scN M) = true := vIn_nI hk (by omega)
  have hi_k : cI (nI k) = k := nI_clamp (by omega)
  have hsi := iv.2.2.2.1 k hk
  have hpl9 : plN M k < 2 := hsi.2.1
  have hlo9 : loN M k < 4 := hsi.2.2.2
  refine lv_astore_n (lv' := [(3, .ref (V.1 (rSi k))), (0, .ref (V.1 rMain)), (1, .int (nI k)), (2, .int (b2i isC))]) hx hy dX6_read_5 rfl hl (by decide) rfl (fun ls hl => ?_)
  refine lv_aload_n hx hy dX6_read_6 rfl (lv_at hl 0 rfl) ?_
  refine lv_aload_n hx hy dX6_read_7 rfl (lv_at hl 1 rfl) ?_
  refine g_f C h (ha.2 60 (by decide) (by decide)) lo_Main celF_Main rfl in_X6_read_X6 7 (by decide) (by decide +kernel) (v := .int (M rMain 7)) rfl dX6_read_8 ?_
  refine n_go0 C h (n_V (As := [.int (M rMain 7)]) (rest := []) C h X (ha.2 (64 + k) (by omega) (by omega)) ((lo_Si hk9).trans ((celF_Si hk9) _)) rfl (c_X4_isTooOld l k hk9 ha M R o (plN M k) hsi.2.1 hsi.1 (M rMain 7)) (cwV 1 C.2.2.2.2.1 gX6_read_X4_isTooOld rfl rfl rfl (by decide +kernel) ⟨Nat.le_of_ble_eq_true rfl, Nat.le_of_ble_eq_true rfl⟩) rfl hl.1 rfl (Nat.le_of_ble_eq_true rfl) dX6_read_11 ⟨by decide, by decide⟩) (fun _ _ z => z) (fun v_11 u_11 H locs hpo h => ?_)
  obtain ⟨rfl, rfl⟩ := hpo
  refine b_eq hx hy (tgt := 27) dX6_read_14 (by decide) (fun c_14 => ?_) (fun c_14 => ?_)
  · skip
    refine lv_iload_n hx hy dX6_read_27 rfl (lv_at hl 3 rfl) ?_
    refine b_eq hx hy (tgt := 38) dX6_read_28 (by decide) (fun c_28 => ?_) (fun c_28 => ?_)
    · skip
      refine lv_aload_n hx hy dX6_read_38 rfl (lv_at hl 0 rfl) ?_
      refine g_f C h (ha.2 (64 + k) (by omega) (by omega)) (lo_Si hk9) (celF_Si hk9) rfl in_X6_read_X4 5 (by decide) (by decide +kernel) (v := .int (M (rSi k) 5)) rfl dX6_read_39 ?_
      exact e_int C h rfl dX6_read_42 (⟨by simp [kRead, hi_k, hv_k, c_14, c_28], by simp [hi_k, hv_k, c_14, c_28], rfl⟩) (by decide) (by decide)
    · skip
      refine lv_aload_n hx hy dX6_read_31 rfl (lv_at hl 0 rfl) ?_
      refine g_f C h (ha.2 (64 + k) (by omega) (by omega)) (lo_Si hk9) (celF_Si hk9) rfl in_X6_read_X4 4 (by decide) (by decide +kernel) (v := .int (M (rSi k) 4)) rfl dX6_read_32 ?_
      refine lv_goto (tgt := 42) hx hy dX6_read_35 (by decide) ?_
      exact e_int C h rfl dX6_read_42 (⟨by simp [kRead, hi_k, hv_k, c_14, c_28], by simp [hi_k, hv_k, c_14, c_28], rfl⟩) (by decide) (by decide)
  · skip
    exact t_narrow (ic := 62) (ik := 58) (is := 248) (cls := "java/lang/UnsupportedOperationException") (text := tx_248) C h X hT hl9 (by decide) (by decide) (by decide) hl.1 (by decide +kernel) (by decide +kernel) at_X6_read_17 bad_UOE good_UOE_58 dX6_read_17 dX6_read_20 dX6_read_21 dX6_read_23 dX6_read_26 (by decide) (by decide) (by decide) (by decide) (by decide) (by decide) (⟨XE_of (k := 2) (by simp [kRead, hi_k, hv_k, c_14]) (by decide) rfl, rfl⟩)

set_option maxRecDepth 20000 in
theorem in_X6_raid_X4 : ∀ x ∈ wsX40, x ∈ wsX6_raid := by decide +kernel
set_option maxRecDepth 20000 in
theorem in_X6_raid_X6 : ∀ x ∈ wsX60, x ∈ wsX6_raid := by decide +kernel
set_option maxRecDepth 100000 in
set_option maxHeartbeats 4000000 in
/-- X6_raid -/
theorem c_X6_raid (l : Launch) {G : va_G} {V : wV} {rs : List Nat} (hl9 : l.stackTraces = false) (ha : bA rs) (M R : wM) (o : wO) (iv : IV M) (si0 ga : Int32) : CT l G V rs yX6_raid wsX6_raid 7 111 3 18 [.ref (V.1 rMain), .int si0, .int ga] (M, R, o) (fun v u => kRaid M si0 ga = 0 ∧ v = some (.int (raiR M (cI si0) (cI ga))) ∧ u = (raiM M (cI si0) (cI ga), R, o)) (fun E u => XE [eIOE, eISE] (kRaid M si0 ga) E ∧ u = (M, R, o)) := by
  refine ct_of (cc := cX6_raid) (maxL := 5) (ret := (some .char)) (by decide) rfl (Nat.le_of_ble_eq_true rfl) ?_
  intro p e s m below meth cd ls C h X hT hl
  have hx := C.1
  have hy := C.2.1
  have hl : lv_has ls 5 [(0, .ref (V.1 rMain)), (1, .int si0), (2, .int ga)] := hl
  have hsc := iv.2.1.2
  have htn := iv.2.2.1.2
  refine lv_aload_n hx hy dX6_raid_0 rfl (lv_at hl 0 rfl) ?_
  refine lv_iload_n hx hy dX6_raid_1 rfl (lv_at hl 1 rfl) ?_
  refine n_go C h hT (n_V (As := [.int si0]) (rest := []) C h X (ha.2 60 (by decide) (by decide)) (lo_Main.trans (celF_Main _)) rfl (c_X6_sightAt l hl9 ha M R o iv si0) (cwV 1 C.2.2.2.2.1 gX6_raid_X6_sightAt rfl rfl rfl (by decide +kernel) ⟨Nat.le_of_ble_eq_true rfl, Nat.le_of_ble_eq_true rfl⟩) rfl hl.1 rfl (Nat.le_of_ble_eq_true rfl) dX6_raid_2 ⟨by decide, by decide⟩) (fun E u hE => ⟨XE_of (k := 1) (by simp [kTow, kEnt, kVote, kBuild, kWait, kCut, vG3, kLease, kGive, kG3, kOpen, kCL, kC, kOrd, kHas, kScout, kRead, kRaid, kTruce, vP3, kPrep, kDec, kSet, kTC, hE.2.1]) (by decide) (by rw [hE.1]; rfl), hE.2.2⟩) (by decide) (by decide) (fun v_2 u_2 H locs hpo h => ?_)
  obtain ⟨rfl, k, hk, rfl, rfl⟩ := hpo
  have hk9 : k < 20 := by omega
  have hv_k : vIn (nI k) (scN M) = true := vIn_nI hk (by omega)
  have hi_k : cI (nI k) = k := nI_clamp (by omega)
  have hsi := iv.2.2.2.1 k hk
  have hpl9 : plN M k < 2 := hsi.2.1
  have hlo9 : loN M k < 4 := hsi.2.2.2
  refine lv_astore_n (lv' := [(3, .ref (V.1 (rSi k))), (0, .ref (V.1 rMain)), (1, .int (nI k)), (2, .int ga)]) hx hy dX6_raid_5 rfl hl (by decide) rfl (fun ls hl => ?_)
  refine lv_iload_n hx hy dX6_raid_6 rfl (lv_at hl 3 rfl) ?_
  refine n_go C h hT (n_S (As := [.int ga]) (rest := []) C h X (c_X6_requireGate l hl9 M R o ga) (va_cwS 1 C.2.2.2.2.1 gX6_raid_X6_requireGate rfl rfl rfl (by decide +kernel) ⟨Nat.le_of_ble_eq_true rfl, Nat.le_of_ble_eq_true rfl⟩) rfl hl.1 rfl (Nat.le_of_ble_eq_true rfl) dX6_raid_7 ⟨by decide, by decide⟩) (fun E u hE => ⟨XE_of (k := 1) (by simp [kTow, kEnt, kVote, kBuild, kWait, kCut, vG3, kLease, kGive, kG3, kOpen, kCL, kC, kOrd, kHas, kScout, kRead, kRaid, kTruce, vP3, kPrep, kDec, kSet, kTC, hE.2.1, hi_k, hv_k]) (by decide) (by rw [hE.1]; rfl), hE.2.2⟩) (by decide) (by decide) (fun v_7 u_7 H locs hpo h => ?_)
  obtain ⟨rfl, rfl, g, hg, rfl⟩ := hpo
  have hv_g : vIn (nI g) 3 = true := vIn_nI hg (by decide)
  have hi_g : cI (nI g) = g := cI_nI hg (by decide)
  refine lv_aload_n hx hy dX6_raid_10 rfl (lv_at hl 0 rfl) ?_
  refine g_f C h (ha.2 (64 + k) (by omega) (by omega)) (lo_Si hk9) (celF_Si hk9) rfl in_X6_raid_X4 0 (by decide) (by decide +kernel) (v := .ref (V.1 (rCas (plN M k)))) (congrArg some (plv_at hsi.2.1 hsi.1)) dX6_raid_11 ?_
  refine n_go C h hT (n_S (As := [.ref (V.1 (rCas (plN M k)))]) (rest := []) C h X (c_X6_requireRoom l hl9 (plN M k) hsi.2.1 (ha.1 (plN M k) hsi.2.1) M R o (szN M (plN M k)) (iv.1 (plN M k) hsi.2.1).2.2.2.1 (iv.1 (plN M k) hsi.2.1).2.2.1) (va_cwS 1 C.2.2.2.2.1 gX6_raid_X6_requireRoom rfl rfl rfl (by decide +kernel) ⟨Nat.le_of_ble_eq_true rfl, Nat.le_of_ble_eq_true rfl⟩) rfl hl.1 rfl (Nat.le_of_ble_eq_true rfl) dX6_raid_14 ⟨by decide, by decide⟩) (fun E u hE => ⟨XE_of (k := 2) (by have := Nat.not_lt.mpr hE.2.1; simp [kRaid, hi_k, hv_k, hi_g, hv_g, this]) (by decide) (by rw [hE.1]; rfl), hE.2.2⟩) (by decide) (by decide) (fun v_14 u_14 H locs hpo h => ?_)
  obtain ⟨rfl, rfl, hroom⟩ := hpo
  refine lv_aload_n hx hy dX6_raid_17 rfl (lv_at hl 1 rfl) ?_
  refine lv_aload_n hx hy dX6_raid_18 rfl (lv_at hl 0 rfl) ?_
  refine lv_iload_n hx hy dX6_raid_19 rfl (lv_at hl 3 rfl) ?_
  refine n_go0 C h (n_V (As := [.ref (V.1 (rSi k)), .int (nI g)]) (rest := []) C h X (ha.2 60 (by decide) (by decide)) (lo_Main.trans (celF_Main _)) rfl (c_X6_outcomeOfRaid l ha M R o k hk9 (plN M k) hsi.2.1 hsi.1 (loN M k) hsi.2.2.2 hsi.2.2.1 g hg (szN M (plN M k)) (iv.1 (plN M k) hsi.2.1).2.2.2.1 (iv.1 (plN M k) hsi.2.1).2.2.1) (cwV 2 C.2.2.2.2.1 gX6_raid_X6_outcomeOfRaid rfl rfl rfl (by decide +kernel) ⟨Nat.le_of_ble_eq_true rfl, Nat.le_of_ble_eq_true rfl⟩) rfl hl.1 rfl (Nat.le_of_ble_eq_true rfl) dX6_raid_20 ⟨by decide, by decide⟩) (fun _ _ z => z) (fun v_20 u_20 H locs hpo h => ?_)
  obtain ⟨rfl, rfl⟩ := hpo
  refine lv_istore (lv' := [(4, .int (orO M k (plN M k) (loN M k) g (szN M (plN M k)) (nowM M))), (3, .ref (V.1 (rSi k))), (0, .ref (V.1 rMain)), (1, .int (nI k)), (2, .int (nI g))]) hx hy dX6_raid_23 hl (by decide) rfl (fun ls hl => ?_)
  refine lv_iload hx hy dX6_raid_25 (lv_at hl 0 rfl) ?_
  refine lv_bipush (v := (nI 119)) hx hy dX6_raid_27 (by decide) ?_
  refine i_ne hx hy (tgt := 76) dX6_raid_29 (by decide) (fun c_29 => ?_) (fun c_29 => ?_)
  · skip
    refine lv_iload hx hy dX6_raid_76 (lv_at hl 0 rfl) ?_
    exact e_int C h (raiR_nar M k g) dX6_raid_78 (⟨by simp [kRaid, hi_k, hv_k, hi_g, hv_g, hroom, eq_false c_29], by simp [raiR, hi_k, hv_k, hi_g, hv_g, hroom, eq_false c_29], by simp [raiM, raiR, raiW, hi_k, hv_k, hi_g, hv_g, hroom, eq_false c_29]⟩) (by decide) (by decide)
  · skip
    refine lv_aload_n hx hy dX6_raid_32 rfl (lv_at hl 1 rfl) ?_
    refine g_f C h (ha.2 (64 + k) (by omega) (by omega)) (lo_Si hk9) (celF_Si hk9) rfl in_X6_raid_X4 0 (by decide) (by decide +kernel) (v := .ref (V.1 (rCas (plN M k)))) (congrArg some (plv_at hsi.2.1 hsi.1)) dX6_raid_33 ?_
    refine lv_bipush (v := (nI 114)) hx hy dX6_raid_36 (by decide) ?_
    refine lv_aload_n hx hy dX6_raid_38 rfl (lv_at hl 1 rfl) ?_
    refine g_f C h (ha.2 (64 + k) (by omega) (by omega)) (lo_Si hk9) (celF_Si hk9) rfl in_X6_raid_X4 5 (by decide) (by decide +kernel) (v := .int (M (rSi k) 5)) rfl dX6_raid_39 ?_
    refine lv_iconst (v := (nI 2)) hx hy dX6_raid_42 (by decide) ?_
    refine lv_idiv hx hy dX6_raid_43 (by decide) ?_
    refine lv_aload_n hx hy dX6_raid_44 rfl (lv_at hl 1 rfl) ?_
    refine g_f C h (ha.2 (64 + k) (by omega) (by omega)) (lo_Si hk9) (celF_Si hk9) rfl in_X6_raid_X4 1 (by decide) (by decide +kernel) (v := .int (nI (loN M k))) (congrArg (fun z => some (Value.int z)) (show M (rSi k) 1 = (nI (loN M k)) from hsi.2.2.1)) dX6_raid_45 ?_
    refine lv_aload_n hx hy dX6_raid_48 rfl (lv_at hl 1 rfl) ?_
    refine g_f C h (ha.2 (64 + k) (by omega) (by omega)) (lo_Si hk9) (celF_Si hk9) rfl in_X6_raid_X4 0 (by decide) (by decide +kernel) (v := .ref (V.1 (rCas (plN M k)))) (congrArg some (plv_at hsi.2.1 hsi.1)) dX6_raid_49 ?_
    refine lv_aload_n hx hy dX6_raid_52 rfl (lv_at hl 1 rfl) ?_
    refine g_f C h (ha.2 (64 + k) (by omega) (by omega)) (lo_Si hk9) (celF_Si hk9) rfl in_X6_raid_X4 1 (by decide) (by decide +kernel) (v := .int (nI (loN M k))) (congrArg (fun z => some (Value.int z)) (show M (rSi k) 1 = (nI (loN M k)) from hsi.2.2.1)) dX6_raid_53 ?_
    refine n_go0 C h (n_V (As := [.int (nI (loN M k))]) (rest := [.int (nI (loN M k)), .int ((M (rSi k) 5) / (nI 2)), .int (nI 114), .ref (V.1 (rCas (plN M k)))]) C h X ((ha.1 (plN M k) hsi.2.1) 0 (by decide)) ((lo_Cas hsi.2.1).trans ((celF_Cas hsi.2.1) _)) rfl (c_X0_towersNear l (plN M k) hsi.2.1 (ha.1 (plN M k) hsi.2.1) M R o (loN M k) hsi.2.2.2) (cwV 1 C.2.2.2.2.1 gX6_raid_X0_towersNear rfl rfl rfl (by decide +kernel) ⟨Nat.le_of_ble_eq_true rfl, Nat.le_of_ble_eq_true rfl⟩) rfl hl.1 rfl (Nat.le_of_ble_eq_true rfl) dX6_raid_56 ⟨by decide, by decide⟩) (fun _ _ z => z) (fun v_56 u_56 H locs hpo h => ?_)
    obtain ⟨rfl, rfl⟩ := hpo
    refine n_go0 C h (n_V (As := [.int (nI 114), .int ((M (rSi k) 5) / (nI 2)), .int (nI (loN M k)), .int (nearI M (plN M k) (loN M k))]) (rest := []) C h X ((ha.1 (plN M k) hsi.2.1) 0 (by decide)) ((lo_Cas hsi.2.1).trans ((celF_Cas hsi.2.1) _)) rfl (c_X0_writeEntry l (plN M k) hsi.2.1 (ha.1 (plN M k) hsi.2.1) M R o (szN M (plN M k)) hroom (iv.1 (plN M k) hsi.2.1).2.2.1 (nI 114) ((M (rSi k) 5) / (nI 2)) (by decide) (nI (loN M k)) (nearI M (plN M k) (loN M k))) (cwV 4 C.2.2.2.2.1 gX6_raid_X0_writeEntry rfl rfl rfl (by decide +kernel) ⟨Nat.le_of_ble_eq_true rfl, Nat.le_of_ble_eq_true rfl⟩) rfl hl.1 rfl (Nat.le_of_ble_eq_true rfl) dX6_raid_59 ⟨by decide, by decide⟩) (fun _ _ z => z) (fun v_59 u_59 H locs hpo h => ?_)
    obtain ⟨rfl, rfl⟩ := hpo
    refine lv_pop hx hy dX6_raid_62 rfl ?_
    refine lv_aload_n hx hy dX6_raid_63 rfl (lv_at hl 2 rfl) ?_
    refine g_f C h (ha.2 60 (by decide) (by decide)) lo_Main celF_Main rfl in_X6_raid_X6 4 (by decide) (by decide +kernel) (v := .ref (V.1 rWin)) rfl dX6_raid_64 ?_
    refine lv_aload_n hx hy dX6_raid_67 rfl (lv_at hl 1 rfl) ?_
    refine g_f C h (ha.2 (64 + k) (by omega) (by omega)) (lo_Si hk9) (celF_Si hk9) rfl in_X6_raid_X4 1 (by decide) (by decide +kernel) (v := .int (nI (loN M k))) (congrArg (fun z => some (Value.int z)) (show (cWrite M (plN M k) (szN M (plN M k)) (nI 114) ((M (rSi k) 5) / (nI 2)) (nI (loN M k)) (nearI M (plN M k) (loN M k))) (rSi k) 1 = (nI (loN M k)) from ((congrFun (cWrite_ne (by simp only [rRow, rSi]; omega) (by simp only [rLe, rSi]; omega) (by simp only [rAm, rSi]; omega) (by simp only [rHo, rSi]; omega) (by simp only [rCo, rSi]; omega) (by simp only [rLo, rSi]; omega)) _).trans hsi.2.2.1))) dX6_raid_68 ?_
    refine lv_dup2_11 hx hy dX6_raid_71 rfl rfl ?_
    refine g_i C h (ha.2 63 (by decide) (by decide)) (n := 4) (k := (loN M k)) lo_Win celF_Win (by omega) (by decide) (v := (M rWin (loN M k))) (show (cWrite M (plN M k) (szN M (plN M k)) (nI 114) ((M (rSi k) 5) / (nI 2)) (nI (loN M k)) (nearI M (plN M k) (loN M k))) rWin (loN M k) = (M rWin (loN M k)) from (congrFun (cWrite_ne (by simp only [rRow, rWin]; omega) (by simp only [rLe, rWin]; omega) (by simp only [rAm, rWin]; omega) (by simp only [rHo, rWin]; omega) (by simp only [rCo, rWin]; omega) (by simp only [rLo, rWin]; omega)) _)) dX6_raid_72 ?_
    refine lv_iconst (v := (nI 1)) hx hy dX6_raid_73 (by decide) ?_
    refine lv_iadd hx hy dX6_raid_74 ?_
    refine s_i C h (ha.2 63 (by decide) (by decide)) lt_Win (n := 4) (k := (loN M k)) celF_Win (by omega) (by decide) (x := ((M rWin (loN M k)) + (nI 1))) dX6_raid_75 (fun H locs h => ?_)
    refine lv_iload hx hy dX6_raid_76 (lv_at hl 0 rfl) ?_
    exact e_int C h (raiR_nar M k g) dX6_raid_78 (⟨by simp [kRaid, hi_k, hv_k, hi_g, hv_g, hroom, eq_true c_29], by simp [raiR, hi_k, hv_k, hi_g, hv_g, hroom, eq_true c_29], by simp [raiM, raiR, raiW, hi_k, hv_k, hi_g, hv_g, hroom, eq_true c_29]⟩) (by decide) (by decide)

set_option maxRecDepth 20000 in
theorem in_X6_won_X6 : ∀ x ∈ wsX60, x ∈ wsX6_won := by decide +kernel
set_option maxRecDepth 100000 in
set_option maxHeartbeats 4000000 in
/-- X6_won -/
theorem c_X6_won (l : Launch) {G : va_G} {V : wV} {rs : List Nat} (hl9 : l.stackTraces = false) (ha : bA rs) (M R : wM) (o : wO) (iv : IV M) (lo0 : Int32) : CT l G V rs yX6_won wsX6_won 7 110 1 6 [.ref (V.1 rMain), .int lo0] (M, R, o) (fun v u => (if vIn lo0 4 = true then 0 else 1) = 0 ∧ v = some (.int (M rWin (cI lo0))) ∧ u = (M, R, o)) (fun E u => XE [eIOE] ((if vIn lo0 4 = true then 0 else 1)) E ∧ u = (M, R, o)) := by
  refine ct_of (cc := cX6_won) (maxL := 2) (ret := (some .int)) (by decide) rfl (Nat.le_of_ble_eq_true rfl) ?_
  intro p e s m below meth cd ls C h X hT hl
  have hx := C.1
  have hy := C.2.1
  have hl : lv_has ls 2 [(0, .ref (V.1 rMain)), (1, .int lo0)] := hl
  have hsc := iv.2.1.2
  have htn := iv.2.2.1.2
  refine lv_iload_n hx hy dX6_won_0 rfl (lv_at hl 1 rfl) ?_
  refine n_go C h hT (n_S (As := [.int lo0]) (rest := []) C h X (c_X6_requireLord l hl9 M R o lo0) (va_cwS 1 C.2.2.2.2.1 gX6_won_X6_requireLord rfl rfl rfl (by decide +kernel) ⟨Nat.le_of_ble_eq_true rfl, Nat.le_of_ble_eq_true rfl⟩) rfl hl.1 rfl (Nat.le_of_ble_eq_true rfl) dX6_won_1 ⟨by decide, by decide⟩) (fun E u hE => ⟨XE_of (k := 1) (by simp [hE.2.1]) (by decide) (by rw [hE.1]; rfl), hE.2.2⟩) (by decide) (by decide) (fun v_1 u_1 H locs hpo h => ?_)
  obtain ⟨rfl, rfl, lo, hlo, rfl⟩ := hpo
  have hv_lo : vIn (nI lo) 4 = true := vIn_nI hlo (by decide)
  have hi_lo : cI (nI lo) = lo := cI_nI hlo (by decide)
  refine lv_aload_n hx hy dX6_won_4 rfl (lv_at hl 0 rfl) ?_
  refine g_f C h (ha.2 60 (by decide) (by decide)) lo_Main celF_Main rfl in_X6_won_X6 4 (by decide) (by decide +kernel) (v := .ref (V.1 rWin)) rfl dX6_won_5 ?_
  refine lv_iload_n hx hy dX6_won_8 rfl (lv_at hl 1 rfl) ?_
  refine g_i C h (ha.2 63 (by decide) (by decide)) (n := 4) (k := lo) lo_Win celF_Win (by omega) (by decide) (v := (M rWin lo)) rfl dX6_won_9 ?_
  exact e_int C h rfl dX6_won_10 (⟨by simp [hi_lo, hv_lo], by simp [hi_lo, hv_lo], rfl⟩) (by decide) (by decide)

set_option maxRecDepth 20000 in
theorem in_X6_truce_X6 : ∀ x ∈ wsX60, x ∈ wsX6_truce := by decide +kernel
set_option maxRecDepth 20000 in
theorem at_X6_truce_17 : ∀ w ∈ (vx_atS RX6 236 "java/lang/IllegalStateException" ["java/lang/RuntimeException", "java/lang/Exception"]).filter goodWord, w ∈ wsX6_truce := by decide +kernel
set_option maxRecDepth 100000 in
set_option maxHeartbeats 4000000 in
/-- X6_truce -/
theorem c_X6_truce (l : Launch) {G : va_G} {V : wV} {rs : List Nat} (hl9 : l.stackTraces = false) (ha : bA rs) (M R : wM) (o : wO) (iv : IV M) (fr am : Int32) : CT l G V rs yX6_truce wsX6_truce 7 110 3 18 [.ref (V.1 rMain), .int fr, .int am] (M, R, o) (fun v u => kTruce M fr am = 0 ∧ v = some (.int (nI (tnN M))) ∧ u = (truM M fr am, R, o)) (fun E u => XE [eIOE, eIAE, eISE] (kTruce M fr am) E ∧ u = (M, R, o)) := by
  refine ct_of (cc := cX6_truce) (maxL := 3) (ret := (some .int)) (by decide) rfl (Nat.le_of_ble_eq_true rfl) ?_
  intro p e s m below meth cd ls C h X hT hl
  have hx := C.1
  have hy := C.2.1
  have hl : lv_has ls 3 [(0, .ref (V.1 rMain)), (1, .int fr), (2, .int am)] := hl
  have hsc := iv.2.1.2
  have htn := iv.2.2.1.2
  refine lv_iload_n hx hy dX6_truce_0 rfl (lv_at hl 1 rfl) ?_
  refine n_go C h hT (n_S (As := [.int fr]) (rest := []) C h X (c_X6_requireCastle l hl9 M R o fr) (va_cwS 1 C.2.2.2.2.1 gX6_truce_X6_requireCastle rfl rfl rfl (by decide +kernel) ⟨Nat.le_of_ble_eq_true rfl, Nat.le_of_ble_eq_true rfl⟩) rfl hl.1 rfl (Nat.le_of_ble_eq_true rfl) dX6_truce_1 ⟨by decide, by decide⟩) (fun E u hE => ⟨XE_of (k := 1) (by simp [kTow, kEnt, kVote, kBuild, kWait, kCut, vG3, kLease, kGive, kG3, kOpen, kCL, kC, kOrd, kHas, kScout, kRead, kRaid, kTruce, vP3, kPrep, kDec, kSet, kTC, (show vC fr = false from hE.2.1)]) (by decide) (by rw [hE.1]; rfl), hE.2.2⟩) (by decide) (by decide) (fun v_1 u_1 H locs hpo h => ?_)
  obtain ⟨rfl, rfl, c, hc, rfl⟩ := hpo
  have hv_c : vIn (nI c) 2 = true := vIn_nI hc (by decide)
  have hi_c : cI (nI c) = c := cI_nI hc (by decide)
  have hc_c : vC (nI c) = true := hv_c
  refine lv_iload_n hx hy dX6_truce_4 rfl (lv_at hl 2 rfl) ?_
  refine n_go C h hT (n_S (As := [.int am]) (rest := []) C h X (c_X6_requireAmount l hl9 M R o am) (va_cwS 1 C.2.2.2.2.1 gX6_truce_X6_requireAmount rfl rfl rfl (by decide +kernel) ⟨Nat.le_of_ble_eq_true rfl, Nat.le_of_ble_eq_true rfl⟩) rfl hl.1 rfl (Nat.le_of_ble_eq_true rfl) dX6_truce_5 ⟨by decide, by decide⟩) (fun E u hE => ⟨XE_of (k := 2) (by simp [kTow, kEnt, kVote, kBuild, kWait, kCut, vG3, kLease, kGive, kG3, kOpen, kCL, kC, kOrd, kHas, kScout, kRead, kRaid, kTruce, vP3, kPrep, kDec, kSet, kTC, hE.2.1, hi_c, hv_c, hc_c]) (by decide) (by rw [hE.1]; rfl), hE.2.2⟩) (by decide) (by decide) (fun v_5 u_5 H locs hpo h => ?_)
  obtain ⟨rfl, rfl, ham⟩ := hpo
  refine lv_aload_n hx hy dX6_truce_8 rfl (lv_at hl 0 rfl) ?_
  refine g_f C h (ha.2 60 (by decide) (by decide)) lo_Main celF_Main rfl in_X6_truce_X6 6 (by decide) (by decide +kernel) (v := .int (nI (tnN M))) (congrArg (fun z => some (Value.int z)) (show M rMain 6 = (nI (tnN M)) from iv.2.2.1.1)) dX6_truce_9 ?_
  refine lv_bipush (v := (nI 8)) hx hy dX6_truce_12 (by decide) ?_
  refine n_lt hx hy (by omega) (by decide) (tgt := 28) dX6_truce_14 (by decide) (fun c_14 => ?_) (fun c_14 => ?_)
  · skip
    refine lv_aload_n hx hy dX6_truce_28 rfl (lv_at hl 0 rfl) ?_
    refine g_f C h (ha.2 60 (by decide) (by decide)) lo_Main celF_Main rfl in_X6_truce_X6 3 (by decide) (by decide +kernel) (v := .ref (V.1 rTrs)) rfl dX6_truce_29 ?_
    refine lv_aload_n hx hy dX6_truce_32 rfl (lv_at hl 0 rfl) ?_
    refine g_f C h (ha.2 60 (by decide) (by decide)) lo_Main celF_Main rfl in_X6_truce_X6 6 (by decide) (by decide +kernel) (v := .int (nI (tnN M))) (congrArg (fun z => some (Value.int z)) (show M rMain 6 = (nI (tnN M)) from iv.2.2.1.1)) dX6_truce_33 ?_
    refine g_a C h (ha.2 62 (by decide) (by decide)) 5 (n := 8) (k := (tnN M)) lo_Trs (celF_Trs _) rfl (by omega) (by decide) (a := V.1 (rTr (tnN M))) rfl dX6_truce_36 ?_
    refine lv_iload_n hx hy dX6_truce_37 rfl (lv_at hl 1 rfl) ?_
    refine lv_iload_n hx hy dX6_truce_38 rfl (lv_at hl 2 rfl) ?_
    refine n_go0 C h (n_V (As := [.int (nI c), .int am]) (rest := []) C h X (ha.2 (84 + 2 * (tnN M)) (by omega) (by omega)) ((lo_Tr (by omega)).trans ((celF_Tr (by omega)) _)) rfl (c_X5_begin l (tnN M) (by omega) ha M R o (nI c) am) (cwV 2 C.2.2.2.2.1 gX6_truce_X5_begin rfl rfl rfl (by decide +kernel) ⟨Nat.le_of_ble_eq_true rfl, Nat.le_of_ble_eq_true rfl⟩) rfl hl.1 rfl (Nat.le_of_ble_eq_true rfl) dX6_truce_39 ⟨by decide, by decide⟩) (fun _ _ z => z) (fun v_39 u_39 H locs hpo h => ?_)
    obtain ⟨rfl, rfl⟩ := hpo
    refine lv_aload_n hx hy dX6_truce_42 rfl (lv_at hl 0 rfl) ?_
    refine lv_dup hx hy dX6_truce_43 rfl ?_
    refine g_f C h (ha.2 60 (by decide) (by decide)) lo_Main celF_Main rfl in_X6_truce_X6 6 (by decide) (by decide +kernel) (v := .int (nI (tnN M))) (congrArg (fun z => some (Value.int z)) (show (bgN M (tnN M) (nI c) am 2) rMain 6 = (nI (tnN M)) from ((congrFun (bgN_ne (by simp only [rMain, rTr]; omega) (by simp only [rMain, rSt]; omega)) _).trans iv.2.2.1.1))) dX6_truce_44 ?_
    refine lv_dup_x1 hx hy dX6_truce_47 rfl rfl ?_
    refine lv_iconst (v := (nI 1)) hx hy dX6_truce_48 (by decide) ?_
    refine lv_iadd hx hy dX6_truce_49 ?_
    refine lv_topn (nI_add _ _) ?_
    refine p_f C h (ha.2 60 (by decide) (by decide)) lt_Main celF_Main rfl in_X6_truce_X6 tyX6_ok nmX6 6 (by decide) (by decide +kernel) rfl (v := .int (nI ((tnN M) + 1))) (x := (nI ((tnN M) + 1))) rfl rfl (fun _ => Nat.le_of_ble_eq_true rfl) (fun _ => rfl) dX6_truce_50 (fun H locs h => ?_)
    exact e_int C h rfl dX6_truce_53 (⟨by simp [kTruce, hi_c, hv_c, hc_c, ham, eq_true c_14, eq_false (Nat.not_le.mpr c_14)], rfl, by simp [truM, hi_c, hv_c, hc_c, ham, eq_true c_14, eq_false (Nat.not_le.mpr c_14)]⟩) (by decide) (by decide)
  · skip
    exact t_wide (ic := 236) (ik := 232) (is := 272) (cls := "java/lang/IllegalStateException") (text := tx_272) C h X hT hl9 (by decide) (by decide) (by decide) hl.1 (by decide +kernel) (by decide +kernel) at_X6_truce_17 bad_ISE good_ISE_232 dX6_truce_17 dX6_truce_20 dX6_truce_21 dX6_truce_24 dX6_truce_27 (by decide) (by decide) (by decide) (by decide) (by decide) (by decide) (⟨XE_of (k := 3) (by simp [kTruce, hi_c, hv_c, hc_c, ham, eq_true c_14, eq_false (Nat.not_lt.mpr c_14)]) (by decide) rfl, rfl⟩)

