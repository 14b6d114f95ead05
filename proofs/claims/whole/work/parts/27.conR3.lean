set_option maxRecDepth 20000 in
theorem in_X7_build_X7 : ∀ x ∈ wsX70, x ∈ wsX7_build := by decide +kernel
set_option maxRecDepth 100000 in
set_option maxHeartbeats 4000000 in
/-- the reference: build -/
theorem c_X7_build (l : Launch) {G : va_G} {V : wV} {rs : List Nat} (hr : bR rs) (M R : wM) (o : wO) (rv : RV R) (ca tw gd : Int32) : CT l G V rs yX7_build wsX7_build 1 25 0 0 [.ref (V.1 rMod), .int ca, .int tw, .int gd] (M, R, o) (fun v u => ∃ r, v = some (.int r) ∧ (kBuildR R ca tw gd = 0 → r = nI (wrN R (cI ca))) ∧ u = (M, buildR R ca tw gd, o)) (fun _ _ => False) := by
  refine ct_of (cc := cX7_build) (maxL := 5) (ret := (some .int)) (by decide) rfl (Nat.le_of_ble_eq_true rfl) ?_
  intro p e s m below meth cd ls C h X hT hl
  have hx := C.1
  have hy := C.2.1
  have hl : lv_has ls 5 [(0, .ref (V.1 rMod)), (1, .int ca), (2, .int tw), (3, .int gd)] := hl
  have hmn : ∀ c, c < 2 → R 101 c = nI (mnN R c) ∧ mnN R c ≤ 7 := fun c hc => ⟨(rv.1 c hc).1, (rv.1 c hc).2.1⟩
  have hwn : ∀ c, c < 2 → R 103 c = nI (wrN R c) ∧ wrN R c ≤ 60 := fun c hc => ⟨(rv.1 c hc).2.2.1, (rv.1 c hc).2.2.2.1⟩
  have hsi9 := rv.2.1.2
  have htr9 := rv.2.2.1.2
  refine lv_aload_n hx hy dX7_build_0 rfl (lv_at hl 0 rfl) ?_
  refine lv_iload_n hx hy dX7_build_1 rfl (lv_at hl 1 rfl) ?_
  refine n_go0 C h (n_S (As := [.int ca]) (rest := [.ref (V.1 rMod)]) C h X (c_X7_isCastle l M R o ca) (va_cwS 1 C.2.2.2.2.1 gX7_build_X7_isCastle rfl rfl rfl (by decide +kernel) ⟨Nat.le_of_ble_eq_true rfl, Nat.le_of_ble_eq_true rfl⟩) rfl hl.1 rfl (Nat.le_of_ble_eq_true rfl) dX7_build_2 ⟨by decide, by decide⟩) (fun _ _ z => z) (fun v_2 u_2 H locs hpo h => ?_)
  obtain ⟨rfl, rfl⟩ := hpo
  refine lv_iconst (v := (nI 1)) hx hy dX7_build_5 (by decide) ?_
  refine n_go0 C h (n_V (As := [.int (b2i (vIn ca 2)), .int (nI 1)]) (rest := []) C h X (hr 100 (by decide)) ((cel_hi (by decide)).trans (celF_Mod _)) rfl (c_X7_no l hr M R o (vIn ca 2) (nI 1)) (cwV 2 C.2.2.2.2.1 gX7_build_X7_no rfl rfl rfl (by decide +kernel) ⟨Nat.le_of_ble_eq_true rfl, Nat.le_of_ble_eq_true rfl⟩) rfl hl.1 rfl (Nat.le_of_ble_eq_true rfl) dX7_build_6 ⟨by decide, by decide⟩) (fun _ _ z => z) (fun v_6 u_6 H locs hpo h => ?_)
  obtain ⟨rfl, rfl⟩ := hpo
  refine b_ne hx hy (tgt := 67) dX7_build_9 (by decide) (fun c_9 => ?_) (fun c_9 => ?_)
  · skip
    rw [noV_f c_9] at h
    have hno_9 : vIn ca 2 = false := not_tt c_9
    refine lv_iconst (v := (nI 0)) hx hy dX7_build_67 (by decide) ?_
    exact e_int C h rfl dX7_build_68 (⟨_, rfl, by simp [kBuildR, vBR, hno_9, c_9, suR], by simp [kBuildR, vBR, buildR, thr, suR, hno_9, c_9]⟩) (by decide) (by decide)
  · skip
    rw [noV_t c_9] at h
    have hno_9 : vIn ca 2 = true := not_ff c_9
    obtain ⟨c, hc, rfl⟩ := vIn_ok' hno_9 (by decide)
    have hv_c : vIn (nI c) 2 = true := vIn_nI hc (by decide)
    have hi_c : cI (nI c) = c := nI_clamp (by omega)
    have hmn9 := (hmn c hc).2
    have hwn9 := (hwn c hc).2
    have hB := (rv.1 c hc).2.2.2.2.1
    have hEr := (rv.1 c hc).2.2.2.2.2.1
    have hU := (rv.1 c hc).2.2.2.2.2.2
    refine lv_aload_n hx hy dX7_build_12 rfl (lv_at hl 0 rfl) ?_
    refine lv_iload_n hx hy dX7_build_13 rfl (lv_at hl 2 rfl) ?_
    refine lv_iconst (v := (nI 1)) hx hy dX7_build_14 (by decide) ?_
    refine lv_bipush (v := (nI 7)) hx hy dX7_build_15 (by decide) ?_
    refine n_go0 C h (n_S (As := [.int tw, .int (nI 1), .int (nI 7)]) (rest := [.ref (V.1 rMod)]) C h X (c_X7_isIn l M (wr R rMod 19 (nI 0)) o tw (nI 1) (nI 7)) (va_cwS 3 C.2.2.2.2.1 gX7_build_X7_isIn rfl rfl rfl (by decide +kernel) ⟨Nat.le_of_ble_eq_true rfl, Nat.le_of_ble_eq_true rfl⟩) rfl hl.1 rfl (Nat.le_of_ble_eq_true rfl) dX7_build_17 ⟨by decide, by decide⟩) (fun _ _ z => z) (fun v_17 u_17 H locs hpo h => ?_)
    obtain ⟨rfl, rfl⟩ := hpo
    refine b_eq hx hy (tgt := 38) dX7_build_20 (by decide) (fun c_20 => ?_) (fun c_20 => ?_)
    · skip
      refine lv_iconst (v := (nI 0)) hx hy dX7_build_38 (by decide) ?_
      refine lv_iconst (v := (nI 2)) hx hy dX7_build_39 (by decide) ?_
      refine n_go0 C h (n_V (As := [.int (b2i false), .int (nI 2)]) (rest := []) C h X (hr 100 (by decide)) ((cel_hi (by decide)).trans (celF_Mod _)) rfl (c_X7_no l hr M (wr R rMod 19 (nI 0)) o false (nI 2)) (cwV 2 C.2.2.2.2.1 gX7_build_X7_no rfl rfl rfl (by decide +kernel) ⟨Nat.le_of_ble_eq_true rfl, Nat.le_of_ble_eq_true rfl⟩) rfl hl.1 rfl (Nat.le_of_ble_eq_true rfl) dX7_build_40 ⟨by decide, by decide⟩) (fun _ _ z => z) (fun v_40 u_40 H locs hpo h => ?_)
      obtain ⟨rfl, rfl⟩ := hpo
      refine b_ne hx hy (tgt := 67) dX7_build_43 (by decide) (fun c_43 => ?_) (fun c_43 => ?_)
      · skip
        rw [noV_f c_43] at h
        rw [wr_wr] at h
        refine lv_iconst (v := (nI 0)) hx hy dX7_build_67 (by decide) ?_
        exact e_int C h rfl dX7_build_68 (⟨_, rfl, by simp [kBuildR, vBR, hno_9, hi_c, hv_c, c_9, c_20, c_43, suR], by simp [kBuildR, vBR, buildR, thr, suR, hno_9, hi_c, hv_c, c_9, c_20, c_43]⟩) (by decide) (by decide)
      · skip
        exact absurd c_43 (by decide)
    · skip
      refine lv_iload_n hx hy dX7_build_23 rfl (lv_at hl 3 rfl) ?_
      refine lv_iconst (v := (nI 0)) hx hy dX7_build_24 (by decide) ?_
      refine lv_sipush (v := (nI 9999)) hx hy dX7_build_25 (by decide) ?_
      refine n_go0 C h (n_S (As := [.int gd, .int (nI 0), .int (nI 9999)]) (rest := [.ref (V.1 rMod)]) C h X (c_X7_isIn l M (wr R rMod 19 (nI 0)) o gd (nI 0) (nI 9999)) (va_cwS 3 C.2.2.2.2.1 gX7_build_X7_isIn rfl rfl rfl (by decide +kernel) ⟨Nat.le_of_ble_eq_true rfl, Nat.le_of_ble_eq_true rfl⟩) rfl hl.1 rfl (Nat.le_of_ble_eq_true rfl) dX7_build_28 ⟨by decide, by decide⟩) (fun _ _ z => z) (fun v_28 u_28 H locs hpo h => ?_)
      obtain ⟨rfl, rfl⟩ := hpo
      refine b_eq hx hy (tgt := 38) dX7_build_31 (by decide) (fun c_31 => ?_) (fun c_31 => ?_)
      · skip
        refine lv_iconst (v := (nI 0)) hx hy dX7_build_38 (by decide) ?_
        refine lv_iconst (v := (nI 2)) hx hy dX7_build_39 (by decide) ?_
        refine n_go0 C h (n_V (As := [.int (b2i false), .int (nI 2)]) (rest := []) C h X (hr 100 (by decide)) ((cel_hi (by decide)).trans (celF_Mod _)) rfl (c_X7_no l hr M (wr R rMod 19 (nI 0)) o false (nI 2)) (cwV 2 C.2.2.2.2.1 gX7_build_X7_no rfl rfl rfl (by decide +kernel) ⟨Nat.le_of_ble_eq_true rfl, Nat.le_of_ble_eq_true rfl⟩) rfl hl.1 rfl (Nat.le_of_ble_eq_true rfl) dX7_build_40 ⟨by decide, by decide⟩) (fun _ _ z => z) (fun v_40 u_40 H locs hpo h => ?_)
        obtain ⟨rfl, rfl⟩ := hpo
        refine b_ne hx hy (tgt := 67) dX7_build_43 (by decide) (fun c_43 => ?_) (fun c_43 => ?_)
        · skip
          rw [noV_f c_43] at h
          rw [wr_wr] at h
          refine lv_iconst (v := (nI 0)) hx hy dX7_build_67 (by decide) ?_
          exact e_int C h rfl dX7_build_68 (⟨_, rfl, by simp [kBuildR, vBR, hno_9, hi_c, hv_c, c_9, c_20, c_31, c_43, suR], by simp [kBuildR, vBR, buildR, thr, suR, hno_9, hi_c, hv_c, c_9, c_20, c_31, c_43]⟩) (by decide) (by decide)
        · skip
          exact absurd c_43 (by decide)
      · skip
        refine lv_iconst (v := (nI 1)) hx hy dX7_build_34 (by decide) ?_
        refine lv_goto (tgt := 39) hx hy dX7_build_35 (by decide) ?_
        refine lv_iconst (v := (nI 2)) hx hy dX7_build_39 (by decide) ?_
        refine n_go0 C h (n_V (As := [.int (b2i true), .int (nI 2)]) (rest := []) C h X (hr 100 (by decide)) ((cel_hi (by decide)).trans (celF_Mod _)) rfl (c_X7_no l hr M (wr R rMod 19 (nI 0)) o true (nI 2)) (cwV 2 C.2.2.2.2.1 gX7_build_X7_no rfl rfl rfl (by decide +kernel) ⟨Nat.le_of_ble_eq_true rfl, Nat.le_of_ble_eq_true rfl⟩) rfl hl.1 rfl (Nat.le_of_ble_eq_true rfl) dX7_build_40 ⟨by decide, by decide⟩) (fun _ _ z => z) (fun v_40 u_40 H locs hpo h => ?_)
        obtain ⟨rfl, rfl⟩ := hpo
        refine b_ne hx hy (tgt := 67) dX7_build_43 (by decide) (fun c_43 => ?_) (fun c_43 => ?_)
        · skip
          exact absurd c_43 (by decide)
        · skip
          rw [noV_t c_43] at h
          rw [wr_wr] at h
          refine lv_aload_n hx hy dX7_build_46 rfl (lv_at hl 0 rfl) ?_
          refine lv_aload_n hx hy dX7_build_47 rfl (lv_at hl 0 rfl) ?_
          refine lv_iload_n hx hy dX7_build_48 rfl (lv_at hl 1 rfl) ?_
          refine n_go0 C h (n_V (As := [.int (nI c)]) (rest := [.ref (V.1 rMod)]) C h X (hr 100 (by decide)) ((cel_hi (by decide)).trans (celF_Mod _)) rfl (c_X7_prepared l hr M (wr R rMod 19 (nI 0)) o c hc (trN R) htr9 (show (wr R rMod 19 (nI 0)) rMod 17 = nI (trN R) from ((wr_othj (by decide)).trans rv.2.2.1.1))) (cwV 1 C.2.2.2.2.1 gX7_build_X7_prepared rfl rfl rfl (by decide +kernel) ⟨Nat.le_of_ble_eq_true rfl, Nat.le_of_ble_eq_true rfl⟩) rfl hl.1 rfl (Nat.le_of_ble_eq_true rfl) dX7_build_49 ⟨by decide, by decide⟩) (fun _ _ z => z) (fun v_49 u_49 H locs hpo h => ?_)
          obtain ⟨rfl, rfl⟩ := hpo
          refine z_ge hx hy (tgt := 59) dX7_build_52 (by decide) (fun c_52 => ?_) (fun c_52 => ?_)
          · skip
            refine lv_iconst (v := (nI 0)) hx hy dX7_build_59 (by decide) ?_
            refine lv_iconst (v := (nI 3)) hx hy dX7_build_60 (by decide) ?_
            refine n_go0 C h (n_V (As := [.int (b2i false), .int (nI 3)]) (rest := []) C h X (hr 100 (by decide)) ((cel_hi (by decide)).trans (celF_Mod _)) rfl (c_X7_no l hr M (wr R rMod 19 (nI 0)) o false (nI 3)) (cwV 2 C.2.2.2.2.1 gX7_build_X7_no rfl rfl rfl (by decide +kernel) ⟨Nat.le_of_ble_eq_true rfl, Nat.le_of_ble_eq_true rfl⟩) rfl hl.1 rfl (Nat.le_of_ble_eq_true rfl) dX7_build_61 ⟨by decide, by decide⟩) (fun _ _ z => z) (fun v_61 u_61 H locs hpo h => ?_)
            obtain ⟨rfl, rfl⟩ := hpo
            refine b_eq hx hy (tgt := 69) dX7_build_64 (by decide) (fun c_64 => ?_) (fun c_64 => ?_)
            · skip
              exact absurd c_64 (by decide)
            · skip
              rw [noV_f c_64] at h
              rw [wr_wr] at h
              refine lv_iconst (v := (nI 0)) hx hy dX7_build_67 (by decide) ?_
              exact e_int C h rfl dX7_build_68 (⟨_, rfl, by simp [kBuildR, vBR, hno_9, hi_c, hv_c, c_9, c_20, c_31, c_43, eq_true c_52, eq_false (Int32.not_lt.mpr c_52), c_64, suR], by simp [kBuildR, vBR, buildR, thr, suR, hno_9, hi_c, hv_c, c_9, c_20, c_31, c_43, eq_true c_52, eq_false (Int32.not_lt.mpr c_52), c_64]⟩) (by decide) (by decide)
          · skip
            refine lv_iconst (v := (nI 1)) hx hy dX7_build_55 (by decide) ?_
            refine lv_goto (tgt := 60) hx hy dX7_build_56 (by decide) ?_
            refine lv_iconst (v := (nI 3)) hx hy dX7_build_60 (by decide) ?_
            refine n_go0 C h (n_V (As := [.int (b2i true), .int (nI 3)]) (rest := []) C h X (hr 100 (by decide)) ((cel_hi (by decide)).trans (celF_Mod _)) rfl (c_X7_no l hr M (wr R rMod 19 (nI 0)) o true (nI 3)) (cwV 2 C.2.2.2.2.1 gX7_build_X7_no rfl rfl rfl (by decide +kernel) ⟨Nat.le_of_ble_eq_true rfl, Nat.le_of_ble_eq_true rfl⟩) rfl hl.1 rfl (Nat.le_of_ble_eq_true rfl) dX7_build_61 ⟨by decide, by decide⟩) (fun _ _ z => z) (fun v_61 u_61 H locs hpo h => ?_)
            obtain ⟨rfl, rfl⟩ := hpo
            refine b_eq hx hy (tgt := 69) dX7_build_64 (by decide) (fun c_64 => ?_) (fun c_64 => ?_)
            · skip
              rw [noV_t c_64] at h
              rw [wr_wr] at h
              refine lv_aload_n hx hy dX7_build_69 rfl (lv_at hl 0 rfl) ?_
              refine g_f C h (hr 100 (by decide)) (cel_hi (by decide)) celF_Mod rfl in_X7_build_X7 2 (by decide) (by decide +kernel) (v := .ref (V.1 103)) rfl dX7_build_70 ?_
              refine lv_iload_n hx hy dX7_build_73 rfl (lv_at hl 1 rfl) ?_
              refine g_i C h (hr 103 (by decide)) (n := 2) (k := c) (cel_hi (by decide)) (fun _ => rfl) (by omega) (by decide) (v := (nI (wrN R c))) (show (wr R rMod 19 (nI 0)) 103 c = (nI (wrN R c)) from ((wr_othr (by decide)).trans (hwn c hc).1)) dX7_build_74 ?_
              refine lv_istore (lv' := [(4, .int (nI (wrN R c))), (0, .ref (V.1 rMod)), (1, .int (nI c)), (2, .int tw), (3, .int gd)]) hx hy dX7_build_75 hl (by decide) rfl (fun ls hl => ?_)
              refine lv_aload_n hx hy dX7_build_77 rfl (lv_at hl 1 rfl) ?_
              refine lv_iload_n hx hy dX7_build_78 rfl (lv_at hl 2 rfl) ?_
              refine lv_iload_n hx hy dX7_build_79 rfl (lv_at hl 3 rfl) ?_
              refine lv_iload_n hx hy dX7_build_80 rfl (lv_at hl 4 rfl) ?_
              refine n_go0 C h (n_V (As := [.int (nI c), .int tw, .int gd]) (rest := []) C h X (hr 100 (by decide)) ((cel_hi (by decide)).trans (celF_Mod _)) rfl (c_X7_raise l hr M (wr R rMod 19 (nI 0)) o c hc (siN R) hsi9 (show (wr R rMod 19 (nI 0)) rMod 16 = nI (siN R) from ((wr_othj (by decide)).trans rv.2.1.1)) tw gd) (cwV 3 C.2.2.2.2.1 gX7_build_X7_raise rfl rfl rfl (by decide +kernel) ⟨Nat.le_of_ble_eq_true rfl, Nat.le_of_ble_eq_true rfl⟩) rfl hl.1 rfl (Nat.le_of_ble_eq_true rfl) dX7_build_81 ⟨by decide, by decide⟩) (fun _ _ z => z) (fun v_81 u_81 H locs hpo h => ?_)
              obtain ⟨rfl, rfl⟩ := hpo
              refine lv_iload hx hy dX7_build_84 (lv_at hl 0 rfl) ?_
              exact e_int C h rfl dX7_build_86 (⟨_, rfl, by simp [kBuildR, vBR, hno_9, hi_c, hv_c, c_9, c_20, c_31, c_43, eq_true c_52, eq_false (Int32.not_le.mpr c_52), c_64, suR], by simp [kBuildR, vBR, buildR, thr, suR, hno_9, hi_c, hv_c, c_9, c_20, c_31, c_43, eq_true c_52, eq_false (Int32.not_le.mpr c_52), c_64]⟩) (by decide) (by decide)
            · skip
              exact absurd c_64 (by decide)

set_option maxRecDepth 20000 in
theorem in_X7_wait_X7 : ∀ x ∈ wsX70, x ∈ wsX7_wait := by decide +kernel
set_option maxRecDepth 100000 in
set_option maxHeartbeats 4000000 in
/-- the reference: wait -/
theorem c_X7_wait (l : Launch) {G : va_G} {V : wV} {rs : List Nat} (hr : bR rs) (M R : wM) (o : wO) (rv : RV R) (ti : Int32) : CT l G V rs yX7_wait wsX7_wait 1 22 0 0 [.ref (V.1 rMod), .int ti] (M, R, o) (fun v u => ∃ r, v = some (.int r) ∧ (kWaitR ti = 0 → r = nowR R + ti) ∧ u = (M, waitR R ti, o)) (fun _ _ => False) := by
  refine ct_of (cc := cX7_wait) (maxL := 2) (ret := (some .int)) (by decide) rfl (Nat.le_of_ble_eq_true rfl) ?_
  intro p e s m below meth cd ls C h X hT hl
  have hx := C.1
  have hy := C.2.1
  have hl : lv_has ls 2 [(0, .ref (V.1 rMod)), (1, .int ti)] := hl
  have hmn : ∀ c, c < 2 → R 101 c = nI (mnN R c) ∧ mnN R c ≤ 7 := fun c hc => ⟨(rv.1 c hc).1, (rv.1 c hc).2.1⟩
  have hwn : ∀ c, c < 2 → R 103 c = nI (wrN R c) ∧ wrN R c ≤ 60 := fun c hc => ⟨(rv.1 c hc).2.2.1, (rv.1 c hc).2.2.2.1⟩
  have hsi9 := rv.2.1.2
  have htr9 := rv.2.2.1.2
  refine lv_aload_n hx hy dX7_wait_0 rfl (lv_at hl 0 rfl) ?_
  refine lv_iload_n hx hy dX7_wait_1 rfl (lv_at hl 1 rfl) ?_
  refine lv_iconst (v := (nI 1)) hx hy dX7_wait_2 (by decide) ?_
  refine lv_bipush (v := (nI 100)) hx hy dX7_wait_3 (by decide) ?_
  refine n_go0 C h (n_S (As := [.int ti, .int (nI 1), .int (nI 100)]) (rest := [.ref (V.1 rMod)]) C h X (c_X7_isIn l M R o ti (nI 1) (nI 100)) (va_cwS 3 C.2.2.2.2.1 gX7_wait_X7_isIn rfl rfl rfl (by decide +kernel) ⟨Nat.le_of_ble_eq_true rfl, Nat.le_of_ble_eq_true rfl⟩) rfl hl.1 rfl (Nat.le_of_ble_eq_true rfl) dX7_wait_5 ⟨by decide, by decide⟩) (fun _ _ z => z) (fun v_5 u_5 H locs hpo h => ?_)
  obtain ⟨rfl, rfl⟩ := hpo
  refine lv_iconst (v := (nI 1)) hx hy dX7_wait_8 (by decide) ?_
  refine n_go0 C h (n_V (As := [.int (b2i (vI ti (nI 1) (nI 100))), .int (nI 1)]) (rest := []) C h X (hr 100 (by decide)) ((cel_hi (by decide)).trans (celF_Mod _)) rfl (c_X7_no l hr M R o (vI ti (nI 1) (nI 100)) (nI 1)) (cwV 2 C.2.2.2.2.1 gX7_wait_X7_no rfl rfl rfl (by decide +kernel) ⟨Nat.le_of_ble_eq_true rfl, Nat.le_of_ble_eq_true rfl⟩) rfl hl.1 rfl (Nat.le_of_ble_eq_true rfl) dX7_wait_9 ⟨by decide, by decide⟩) (fun _ _ z => z) (fun v_9 u_9 H locs hpo h => ?_)
  obtain ⟨rfl, rfl⟩ := hpo
  refine b_eq hx hy (tgt := 17) dX7_wait_12 (by decide) (fun c_12 => ?_) (fun c_12 => ?_)
  · skip
    rw [noV_t c_12] at h
    have hno_12 : vI ti (nI 1) (nI 100) = true := not_ff c_12
    refine lv_aload_n hx hy dX7_wait_17 rfl (lv_at hl 0 rfl) ?_
    refine lv_dup hx hy dX7_wait_18 rfl ?_
    refine g_f C h (hr 100 (by decide)) (cel_hi (by decide)) celF_Mod rfl in_X7_wait_X7 18 (by decide) (by decide +kernel) (v := .int (R rMod 18)) (congrArg (fun z => some (Value.int z)) (show (wr R rMod 19 (nI 0)) rMod 18 = (R rMod 18) from (wr_othj (by decide)))) dX7_wait_19 ?_
    refine lv_iload_n hx hy dX7_wait_22 rfl (lv_at hl 1 rfl) ?_
    refine lv_iadd hx hy dX7_wait_23 ?_
    refine p_fR C h (hr 100 (by decide)) (by decide) celF_Mod rfl in_X7_wait_X7 tyX7_ok nmX7 18 (by decide) (by decide +kernel) rfl (v := .int ((R rMod 18) + ti)) (x := ((R rMod 18) + ti)) rfl rfl (fun _ => Nat.le_of_ble_eq_true rfl) (fun _ => rfl) dX7_wait_24 (fun H locs h => ?_)
    refine lv_aload_n hx hy dX7_wait_27 rfl (lv_at hl 0 rfl) ?_
    refine g_f C h (hr 100 (by decide)) (cel_hi (by decide)) celF_Mod rfl in_X7_wait_X7 18 (by decide) (by decide +kernel) (v := .int ((R rMod 18) + ti)) (congrArg (fun z => some (Value.int z)) (show (wr (wr R rMod 19 (nI 0)) rMod 18 ((R rMod 18) + ti)) rMod 18 = ((R rMod 18) + ti) from (wr_same _ _ _ _))) dX7_wait_28 ?_
    exact e_int C h rfl dX7_wait_31 (⟨_, rfl, by simp [kWaitR, hno_12, c_12, suR], by simp [kWaitR, waitR, thr, suR, hno_12, c_12]⟩) (by decide) (by decide)
  · skip
    rw [noV_f c_12] at h
    have hno_12 : vI ti (nI 1) (nI 100) = false := not_tt c_12
    refine lv_iconst (v := (nI 0)) hx hy dX7_wait_15 (by decide) ?_
    exact e_int C h rfl dX7_wait_16 (⟨_, rfl, by simp [kWaitR, hno_12, c_12, suR], by simp [kWaitR, waitR, thr, suR, hno_12, c_12]⟩) (by decide) (by decide)

set_option maxRecDepth 100000 in
set_option maxHeartbeats 4000000 in
/-- the reference: fall -/
theorem c_X7_fall (l : Launch) {G : va_G} {V : wV} {rs : List Nat} (hr : bR rs) (M R : wM) (o : wO) (rv : RV R) (ca to : Int32) : CT l G V rs yX7_fall wsX7_fall 2 44 0 0 [.ref (V.1 rMod), .int ca, .int to] (M, R, o) (fun v u => ∃ r, v = some (.int r) ∧ (kTowR R ca to = 0 → r = b2i (decide (¬ R 104 (cI ca * 7 + cI to) = 0))) ∧ u = (M, fallR R ca to, o)) (fun _ _ => False) := by
  refine ct_of (cc := cX7_fall) (maxL := 3) (ret := (some .boolean)) (by decide) rfl (Nat.le_of_ble_eq_true rfl) ?_
  intro p e s m below meth cd ls C h X hT hl
  have hx := C.1
  have hy := C.2.1
  have hl : lv_has ls 3 [(0, .ref (V.1 rMod)), (1, .int ca), (2, .int to)] := hl
  have hmn : ∀ c, c < 2 → R 101 c = nI (mnN R c) ∧ mnN R c ≤ 7 := fun c hc => ⟨(rv.1 c hc).1, (rv.1 c hc).2.1⟩
  have hwn : ∀ c, c < 2 → R 103 c = nI (wrN R c) ∧ wrN R c ≤ 60 := fun c hc => ⟨(rv.1 c hc).2.2.1, (rv.1 c hc).2.2.2.1⟩
  have hsi9 := rv.2.1.2
  have htr9 := rv.2.2.1.2
  refine lv_aload_n hx hy dX7_fall_0 rfl (lv_at hl 0 rfl) ?_
  refine lv_aload_n hx hy dX7_fall_1 rfl (lv_at hl 0 rfl) ?_
  refine lv_iload_n hx hy dX7_fall_2 rfl (lv_at hl 1 rfl) ?_
  refine lv_iload_n hx hy dX7_fall_3 rfl (lv_at hl 2 rfl) ?_
  refine n_go0 C h (n_V (As := [.int ca, .int to]) (rest := [.ref (V.1 rMod)]) C h X (hr 100 (by decide)) ((cel_hi (by decide)).trans (celF_Mod _)) rfl (c_X7_isTower l hr M R o hmn ca to) (cwV 2 C.2.2.2.2.1 gX7_fall_X7_isTower rfl rfl rfl (by decide +kernel) ⟨Nat.le_of_ble_eq_true rfl, Nat.le_of_ble_eq_true rfl⟩) rfl hl.1 rfl (Nat.le_of_ble_eq_true rfl) dX7_fall_4 ⟨by decide, by decide⟩) (fun _ _ z => z) (fun v_4 u_4 H locs hpo h => ?_)
  obtain ⟨rfl, rfl⟩ := hpo
  refine lv_iconst (v := (nI 1)) hx hy dX7_fall_7 (by decide) ?_
  refine n_go0 C h (n_V (As := [.int (b2i (isT R ca to)), .int (nI 1)]) (rest := []) C h X (hr 100 (by decide)) ((cel_hi (by decide)).trans (celF_Mod _)) rfl (c_X7_no l hr M R o (isT R ca to) (nI 1)) (cwV 2 C.2.2.2.2.1 gX7_fall_X7_no rfl rfl rfl (by decide +kernel) ⟨Nat.le_of_ble_eq_true rfl, Nat.le_of_ble_eq_true rfl⟩) rfl hl.1 rfl (Nat.le_of_ble_eq_true rfl) dX7_fall_8 ⟨by decide, by decide⟩) (fun _ _ z => z) (fun v_8 u_8 H locs hpo h => ?_)
  obtain ⟨rfl, rfl⟩ := hpo
  refine b_ne hx hy (tgt := 27) dX7_fall_11 (by decide) (fun c_11 => ?_) (fun c_11 => ?_)
  · skip
    rw [noV_f c_11] at h
    have hno_11 : isT R ca to = false := not_tt c_11
    refine lv_iconst (v := (nI 0)) hx hy dX7_fall_27 (by decide) ?_
    exact e_int C h (by decide) dX7_fall_28 (⟨_, rfl, by simp [kTowR, b2i, hno_11, c_11], by simp [fallR, kTowR, b2i, thr, hno_11, c_11]⟩) (by decide) (by decide)
  · skip
    rw [noV_t c_11] at h
    have hno_11 : isT R ca to = true := not_ff c_11
    obtain ⟨c, t, hc, ht, rfl, rfl⟩ := isT_ok hno_11 (fun c hc => (hmn c hc).2)
    have hmn9 := (hmn c hc).2
    have ht7 : t < 7 := by omega
    have hi_c : cI (nI c) = c := nI_clamp (by omega)
    have hi_t : cI (nI t) = t := nI_clamp (by omega)
    have hmn9 := (hmn c hc).2
    have hwn9 := (hwn c hc).2
    have hB := (rv.1 c hc).2.2.2.2.1
    have hEr := (rv.1 c hc).2.2.2.2.2.1
    have hU := (rv.1 c hc).2.2.2.2.2.2
    refine lv_aload_n hx hy dX7_fall_14 rfl (lv_at hl 0 rfl) ?_
    refine lv_iload_n hx hy dX7_fall_15 rfl (lv_at hl 1 rfl) ?_
    refine lv_iload_n hx hy dX7_fall_16 rfl (lv_at hl 2 rfl) ?_
    refine n_go0 C h (n_V (As := [.int (nI c), .int (nI t)]) (rest := []) C h X (hr 100 (by decide)) ((cel_hi (by decide)).trans (celF_Mod _)) rfl (c_X7_downs l hr M (wr R rMod 19 (nI 0)) o c hc t ht7 (hU t ht7).1) (cwV 2 C.2.2.2.2.1 gX7_fall_X7_downs rfl rfl rfl (by decide +kernel) ⟨Nat.le_of_ble_eq_true rfl, Nat.le_of_ble_eq_true rfl⟩) rfl hl.1 rfl (Nat.le_of_ble_eq_true rfl) dX7_fall_17 ⟨by decide, by decide⟩) (fun _ _ z => z) (fun v_17 u_17 H locs hpo h => ?_)
    obtain ⟨rfl, rfl⟩ := hpo
    refine z_eq hx hy (tgt := 27) dX7_fall_20 (by decide) (fun c_20 => ?_) (fun c_20 => ?_)
    · skip
      refine lv_iconst (v := (nI 0)) hx hy dX7_fall_27 (by decide) ?_
      exact e_int C h (by decide) dX7_fall_28 (⟨_, rfl, by (rw [th_ rfl] at c_20); simp [kTowR, b2i, hno_11, hi_c, hi_t, hno_11, c_11, eq_true c_20], by simp [fallR, kTowR, b2i, thr, hno_11, hi_c, hi_t, hno_11, c_11, eq_true c_20]⟩) (by decide) (by decide)
    · skip
      refine lv_iconst (v := (nI 1)) hx hy dX7_fall_23 (by decide) ?_
      refine lv_goto (tgt := 28) hx hy dX7_fall_24 (by decide) ?_
      exact e_int C h (by decide) dX7_fall_28 (⟨_, rfl, by (rw [th_ rfl] at c_20); simp [kTowR, b2i, hno_11, hi_c, hi_t, hno_11, c_11, eq_false c_20], by simp [fallR, kTowR, b2i, thr, hno_11, hi_c, hi_t, hno_11, c_11, eq_false c_20]⟩) (by decide) (by decide)

set_option maxRecDepth 20000 in
theorem in_X7_burn_X7 : ∀ x ∈ wsX70, x ∈ wsX7_burn := by decide +kernel
set_option maxRecDepth 100000 in
set_option maxHeartbeats 4000000 in
/-- the reference: burn -/
theorem c_X7_burn (l : Launch) {G : va_G} {V : wV} {rs : List Nat} (hr : bR rs) (M R : wM) (o : wO) (rv : RV R) (ca to : Int32) : CT l G V rs yX7_burn wsX7_burn 2 44 0 0 [.ref (V.1 rMod), .int ca, .int to] (M, R, o) (fun v u => ∃ r, v = some (.int r) ∧ (kTowR R ca to = 0 → r = buC (dwN (thr R 0) (cI ca) (cI to) 3) (cI ca) (cI to) (wrN R (cI ca))) ∧ u = (M, burnR R ca to, o)) (fun _ _ => False) := by
  refine ct_of (cc := cX7_burn) (maxL := 6) (ret := (some .int)) (by decide) rfl (Nat.le_of_ble_eq_true rfl) ?_
  intro p e s m below meth cd ls C h X hT hl
  have hx := C.1
  have hy := C.2.1
  have hl : lv_has ls 6 [(0, .ref (V.1 rMod)), (1, .int ca), (2, .int to)] := hl
  have hmn : ∀ c, c < 2 → R 101 c = nI (mnN R c) ∧ mnN R c ≤ 7 := fun c hc => ⟨(rv.1 c hc).1, (rv.1 c hc).2.1⟩
  have hwn : ∀ c, c < 2 → R 103 c = nI (wrN R c) ∧ wrN R c ≤ 60 := fun c hc => ⟨(rv.1 c hc).2.2.1, (rv.1 c hc).2.2.2.1⟩
  have hsi9 := rv.2.1.2
  have htr9 := rv.2.2.1.2
  refine lv_aload_n hx hy dX7_burn_0 rfl (lv_at hl 0 rfl) ?_
  refine lv_aload_n hx hy dX7_burn_1 rfl (lv_at hl 0 rfl) ?_
  refine lv_iload_n hx hy dX7_burn_2 rfl (lv_at hl 1 rfl) ?_
  refine lv_iload_n hx hy dX7_burn_3 rfl (lv_at hl 2 rfl) ?_
  refine n_go0 C h (n_V (As := [.int ca, .int to]) (rest := [.ref (V.1 rMod)]) C h X (hr 100 (by decide)) ((cel_hi (by decide)).trans (celF_Mod _)) rfl (c_X7_isTower l hr M R o hmn ca to) (cwV 2 C.2.2.2.2.1 gX7_burn_X7_isTower rfl rfl rfl (by decide +kernel) ⟨Nat.le_of_ble_eq_true rfl, Nat.le_of_ble_eq_true rfl⟩) rfl hl.1 rfl (Nat.le_of_ble_eq_true rfl) dX7_burn_4 ⟨by decide, by decide⟩) (fun _ _ z => z) (fun v_4 u_4 H locs hpo h => ?_)
  obtain ⟨rfl, rfl⟩ := hpo
  refine lv_iconst (v := (nI 1)) hx hy dX7_burn_7 (by decide) ?_
  refine n_go0 C h (n_V (As := [.int (b2i (isT R ca to)), .int (nI 1)]) (rest := []) C h X (hr 100 (by decide)) ((cel_hi (by decide)).trans (celF_Mod _)) rfl (c_X7_no l hr M R o (isT R ca to) (nI 1)) (cwV 2 C.2.2.2.2.1 gX7_burn_X7_no rfl rfl rfl (by decide +kernel) ⟨Nat.le_of_ble_eq_true rfl, Nat.le_of_ble_eq_true rfl⟩) rfl hl.1 rfl (Nat.le_of_ble_eq_true rfl) dX7_burn_8 ⟨by decide, by decide⟩) (fun _ _ z => z) (fun v_8 u_8 H locs hpo h => ?_)
  obtain ⟨rfl, rfl⟩ := hpo
  refine b_eq hx hy (tgt := 16) dX7_burn_11 (by decide) (fun c_11 => ?_) (fun c_11 => ?_)
  · skip
    rw [noV_t c_11] at h
    have hno_11 : isT R ca to = true := not_ff c_11
    obtain ⟨c, t, hc, ht, rfl, rfl⟩ := isT_ok hno_11 (fun c hc => (hmn c hc).2)
    have hmn9 := (hmn c hc).2
    have ht7 : t < 7 := by omega
    have hi_c : cI (nI c) = c := nI_clamp (by omega)
    have hi_t : cI (nI t) = t := nI_clamp (by omega)
    have hmn9 := (hmn c hc).2
    have hwn9 := (hwn c hc).2
    have hB := (rv.1 c hc).2.2.2.2.1
    have hEr := (rv.1 c hc).2.2.2.2.2.1
    have hU := (rv.1 c hc).2.2.2.2.2.2
    refine lv_aload_n hx hy dX7_burn_16 rfl (lv_at hl 0 rfl) ?_
    refine lv_iload_n hx hy dX7_burn_17 rfl (lv_at hl 1 rfl) ?_
    refine lv_iload_n hx hy dX7_burn_18 rfl (lv_at hl 2 rfl) ?_
    refine n_go0 C h (n_V (As := [.int (nI c), .int (nI t)]) (rest := []) C h X (hr 100 (by decide)) ((cel_hi (by decide)).trans (celF_Mod _)) rfl (c_X7_downs l hr M (wr R rMod 19 (nI 0)) o c hc t ht7 (hU t ht7).1) (cwV 2 C.2.2.2.2.1 gX7_burn_X7_downs rfl rfl rfl (by decide +kernel) ⟨Nat.le_of_ble_eq_true rfl, Nat.le_of_ble_eq_true rfl⟩) rfl hl.1 rfl (Nat.le_of_ble_eq_true rfl) dX7_burn_19 ⟨by decide, by decide⟩) (fun _ _ z => z) (fun v_19 u_19 H locs hpo h => ?_)
    obtain ⟨rfl, rfl⟩ := hpo
    refine lv_istore_n (lv' := [(3, .int ((wr R rMod 19 (nI 0)) 104 (c * 7 + t))), (0, .ref (V.1 rMod)), (1, .int (nI c)), (2, .int (nI t))]) hx hy dX7_burn_22 rfl hl (by decide) rfl (fun ls hl => ?_)
    refine lv_iconst (v := (nI 0)) hx hy dX7_burn_23 (by decide) ?_
    refine lv_istore (lv' := [(4, .int (nI 0)), (3, .int ((wr R rMod 19 (nI 0)) 104 (c * 7 + t))), (0, .ref (V.1 rMod)), (1, .int (nI c)), (2, .int (nI t))]) hx hy dX7_burn_24 hl (by decide) rfl (fun ls hl => ?_)
    refine lv_iconst (v := (nI 0)) hx hy dX7_burn_26 (by decide) ?_
    refine lv_istore (lv' := [(5, .int (nI 0)), (4, .int (nI 0)), (3, .int ((wr R rMod 19 (nI 0)) 104 (c * 7 + t))), (0, .ref (V.1 rMod)), (1, .int (nI c)), (2, .int (nI t))]) hx hy dX7_burn_27 hl (by decide) rfl (fun ls hl => ?_)
    have L_29 : ∀ (n_29 k : Nat), n_29 + k = (wrN R c) → ∀ (H : Heap) (locs : List Loc), HH G V rs (M, buN (dwN (wr R rMod 19 (nI 0)) c t 3) c t k, o) s H locs → ∀ ls : Array Slot, lv_has ls 6 [(5, .int (nI k)), (4, .int (buC (dwN (wr R rMod 19 (nI 0)) c t 3) c t k)), (3, .int ((wr R rMod 19 (nI 0)) 104 (c * 7 + t))), (0, .ref (V.1 rMod)), (1, .int (nI c)), (2, .int (nI t))] → W p l e { frames := 2, cells := 0, slots := 0, locals := 44 } s m [.ref (V.1 rMod), .int (nI c), .int (nI t)].toArray below meth cd H locs 0 0 (QM G V rs below [.ref (V.1 rMod), .int (nI c), .int (nI t)].toArray s 0 0 (fun v u => ∃ r, v = some (.int r) ∧ (kTowR R (nI c) (nI t) = 0 → r = buC (dwN (thr R 0) (cI (nI c)) (cI (nI t)) 3) (cI (nI c)) (cI (nI t)) (wrN R (cI (nI c)))) ∧ u = (M, burnR R (nI c) (nI t), o)) (fun _ _ => False)) (F0 m 29 ls []) := by
      intro n_29
      induction n_29 with
      | zero =>
        intro k hk_29 H locs h ls hl
        have hz_29 : k = (wrN R c) := by omega
        try rw [hz_29] at h
        try rw [hz_29] at hl
        refine lv_iload hx hy dX7_burn_29 (lv_at hl 0 rfl) ?_
        refine lv_aload_n hx hy dX7_burn_31 rfl (lv_at hl 3 rfl) ?_
        refine g_f C h (hr 100 (by decide)) (cel_hi (by decide)) celF_Mod rfl in_X7_burn_X7 2 (by decide) (by decide +kernel) (v := .ref (V.1 103)) rfl dX7_burn_32 ?_
        refine lv_iload_n hx hy dX7_burn_35 rfl (lv_at hl 4 rfl) ?_
        refine g_i C h (hr 103 (by decide)) (n := 2) (k := c) (cel_hi (by decide)) (fun _ => rfl) (by omega) (by decide) (v := (nI (wrN R c))) (show (buN (dwN (wr R rMod 19 (nI 0)) c t 3) c t (wrN R c)) 103 c = (nI (wrN R c)) from ((congrFun (buN_ne (by decide)) _).trans ((congrFun (dwN_ne (by decide) (by decide) (by decide)) _).trans ((wr_othr (by decide)).trans (hwn c hc).1)))) dX7_burn_36 ?_
        refine n_ge hx hy (by omega) (by omega) (tgt := 87) dX7_burn_37 (by decide) (fun c_37 => ?_) (fun c_37 => ?_)
        · skip
          refine lv_iload hx hy dX7_burn_87 (lv_at hl 1 rfl) ?_
          exact e_int C h rfl dX7_burn_89 (⟨_, rfl, by simp [kTowR, hno_11, hi_c, hi_t, hno_11, c_11, eq_true c_37, eq_false (Nat.not_lt.mpr c_37), suR], by simp [kTowR, burnR, thr, suR, hno_11, hi_c, hi_t, hno_11, c_11, eq_true c_37, eq_false (Nat.not_lt.mpr c_37)]⟩) (by decide) (by decide)
        · skip
          exact absurd c_37 (by omega)
      | succ n_29 ih_29 =>
        intro k hk_29 H locs h ls hl
        have hz_29 : k < (wrN R c) := by omega
        refine lv_iload hx hy dX7_burn_29 (lv_at hl 0 rfl) ?_
        refine lv_aload_n hx hy dX7_burn_31 rfl (lv_at hl 3 rfl) ?_
        refine g_f C h (hr 100 (by decide)) (cel_hi (by decide)) celF_Mod rfl in_X7_burn_X7 2 (by decide) (by decide +kernel) (v := .ref (V.1 103)) rfl dX7_burn_32 ?_
        refine lv_iload_n hx hy dX7_burn_35 rfl (lv_at hl 4 rfl) ?_
        refine g_i C h (hr 103 (by decide)) (n := 2) (k := c) (cel_hi (by decide)) (fun _ => rfl) (by omega) (by decide) (v := (nI (wrN R c))) (show (buN (dwN (wr R rMod 19 (nI 0)) c t 3) c t k) 103 c = (nI (wrN R c)) from ((congrFun (buN_ne (by decide)) _).trans ((congrFun (dwN_ne (by decide) (by decide) (by decide)) _).trans ((wr_othr (by decide)).trans (hwn c hc).1)))) dX7_burn_36 ?_
        refine n_ge hx hy (by omega) (by omega) (tgt := 87) dX7_burn_37 (by decide) (fun c_37 => ?_) (fun c_37 => ?_)
        · skip
          exact absurd c_37 (by omega)
        · skip
          refine lv_iload hx hy dX7_burn_40 (lv_at hl 1 rfl) ?_
          refine lv_aload_n hx hy dX7_burn_42 rfl (lv_at hl 3 rfl) ?_
          refine g_f C h (hr 100 (by decide)) (cel_hi (by decide)) celF_Mod rfl in_X7_burn_X7 14 (by decide) (by decide +kernel) (v := .ref (V.1 115)) rfl dX7_burn_43 ?_
          refine lv_iload_n hx hy dX7_burn_46 rfl (lv_at hl 4 rfl) ?_
          refine lv_bipush (v := (nI 60)) hx hy dX7_burn_47 (by decide) ?_
          refine lv_imul hx hy dX7_burn_49 ?_
          refine lv_topn (pk_mul _ _) ?_
          refine lv_iload hx hy dX7_burn_50 (lv_at hl 0 rfl) ?_
          refine lv_iadd hx hy dX7_burn_52 ?_
          refine lv_topn (nI_add _ _) ?_
          refine g_i C h (hr 115 (by decide)) (n := 120) (k := ((c * 60) + k)) (cel_hi (by decide)) (fun _ => rfl) (by omega) (by decide) (v := ((buN (dwN (wr R rMod 19 (nI 0)) c t 3) c t k) 115 ((c * 60) + k))) rfl dX7_burn_53 ?_
          refine lv_iload_n hx hy dX7_burn_54 rfl (lv_at hl 5 rfl) ?_
          refine lv_ishr hx hy dX7_burn_55 ?_
          refine lv_iconst (v := (nI 1)) hx hy dX7_burn_56 (by decide) ?_
          refine lv_iand hx hy dX7_burn_57 ?_
          refine lv_iadd hx hy dX7_burn_58 ?_
          refine lv_istore (lv' := [(4, .int ((buC (dwN (wr R rMod 19 (nI 0)) c t 3) c t k) + ((((buN (dwN (wr R rMod 19 (nI 0)) c t 3) c t k) 115 ((c * 60) + k)) >>> ((nI t) &&& 31)) &&& (nI 1)))), (5, .int (nI k)), (3, .int ((wr R rMod 19 (nI 0)) 104 (c * 7 + t))), (0, .ref (V.1 rMod)), (1, .int (nI c)), (2, .int (nI t))]) hx hy dX7_burn_59 hl (by decide) rfl (fun ls hl => ?_)
          refine lv_aload_n hx hy dX7_burn_61 rfl (lv_at hl 3 rfl) ?_
          refine g_f C h (hr 100 (by decide)) (cel_hi (by decide)) celF_Mod rfl in_X7_burn_X7 14 (by decide) (by decide +kernel) (v := .ref (V.1 115)) rfl dX7_burn_62 ?_
          refine lv_iload_n hx hy dX7_burn_65 rfl (lv_at hl 4 rfl) ?_
          refine lv_bipush (v := (nI 60)) hx hy dX7_burn_66 (by decide) ?_
          refine lv_imul hx hy dX7_burn_68 ?_
          refine lv_topn (pk_mul _ _) ?_
          refine lv_iload hx hy dX7_burn_69 (lv_at hl 1 rfl) ?_
          refine lv_iadd hx hy dX7_burn_71 ?_
          refine lv_topn (nI_add _ _) ?_
          refine lv_dup2_11 hx hy dX7_burn_72 rfl rfl ?_
          refine g_i C h (hr 115 (by decide)) (n := 120) (k := ((c * 60) + k)) (cel_hi (by decide)) (fun _ => rfl) (by omega) (by decide) (v := ((buN (dwN (wr R rMod 19 (nI 0)) c t 3) c t k) 115 ((c * 60) + k))) rfl dX7_burn_73 ?_
          refine lv_iconst (v := (nI 1)) hx hy dX7_burn_74 (by decide) ?_
          refine lv_iload_n hx hy dX7_burn_75 rfl (lv_at hl 5 rfl) ?_
          refine lv_ishl hx hy dX7_burn_76 ?_
          refine lv_iconst (v := (-1)) hx hy dX7_burn_77 (by decide) ?_
          refine lv_ixor hx hy dX7_burn_78 ?_
          refine lv_iand hx hy dX7_burn_79 ?_
          refine s_iR C h (hr 115 (by decide)) (by decide) (n := 120) (k := ((c * 60) + k)) (fun _ => rfl) (by omega) (by decide) (x := (((buN (dwN (wr R rMod 19 (nI 0)) c t 3) c t k) 115 ((c * 60) + k)) &&& (((nI 1) <<< ((nI t) &&& 31)) ^^^ (-1)))) dX7_burn_80 (fun H locs h => ?_)
          refine lv_iinc (v := (nI (k + 1))) (lv' := [(5, .int (nI (k + 1))), (4, .int ((buC (dwN (wr R rMod 19 (nI 0)) c t 3) c t k) + ((((buN (dwN (wr R rMod 19 (nI 0)) c t 3) c t k) 115 ((c * 60) + k)) >>> ((nI t) &&& 31)) &&& (nI 1)))), (3, .int ((wr R rMod 19 (nI 0)) 104 (c * 7 + t))), (0, .ref (V.1 rMod)), (1, .int (nI c)), (2, .int (nI t))]) hx hy dX7_burn_81 hl (k := 1) rfl (nI_1 _) (by decide) rfl (fun ls hl => ?_)
          refine lv_goto (tgt := 29) hx hy dX7_burn_84 (by decide) ?_
          exact ih_29 (k + 1) (by omega) _ _ (by rw [show ((M, buN (dwN (wr R rMod 19 (nI 0)) c t 3) c t (k + 1), o) : wW) = (M, wr (buN (dwN (wr R rMod 19 (nI 0)) c t 3) c t k) 115 ((c * 60) + k) (((buN (dwN (wr R rMod 19 (nI 0)) c t 3) c t k) 115 ((c * 60) + k)) &&& (((nI 1) <<< ((nI t) &&& 31)) ^^^ (-1))), o) from rfl]; exact h) _ (by have hl := lv_sub hl [0, 1, 2, 3, 4, 5] (l' := [(5, .int (nI (k + 1))), (4, .int ((buC (dwN (wr R rMod 19 (nI 0)) c t 3) c t k) + ((((buN (dwN (wr R rMod 19 (nI 0)) c t 3) c t k) 115 ((c * 60) + k)) >>> ((nI t) &&& 31)) &&& (nI 1)))), (3, .int ((wr R rMod 19 (nI 0)) 104 (c * 7 + t))), (0, .ref (V.1 rMod)), (1, .int (nI c)), (2, .int (nI t))]) rfl; rw [show (.int (nI (k + 1)) : Value) = .int (nI (k + 1)) from rfl] at hl; rw [show (.int ((buC (dwN (wr R rMod 19 (nI 0)) c t 3) c t k) + ((((buN (dwN (wr R rMod 19 (nI 0)) c t 3) c t k) 115 ((c * 60) + k)) >>> ((nI t) &&& 31)) &&& (nI 1))) : Value) = .int (buC (dwN (wr R rMod 19 (nI 0)) c t 3) c t (k + 1)) from rfl] at hl; exact hl)
    exact L_29 ((wrN R c)) 0 (by omega) _ _ (by rw [show (M, buN (dwN (wr R rMod 19 (nI 0)) c t 3) c t 0, o) = (M, dwN (wr R rMod 19 (nI 0)) c t 3, o) from rfl]; exact h) _ (by have hl := lv_sub hl [0, 1, 2, 3, 4, 5] (l' := [(5, .int (nI 0)), (4, .int (nI 0)), (3, .int ((wr R rMod 19 (nI 0)) 104 (c * 7 + t))), (0, .ref (V.1 rMod)), (1, .int (nI c)), (2, .int (nI t))]) rfl; rw [show (.int (nI 0) : Value) = .int (buC (dwN (wr R rMod 19 (nI 0)) c t 3) c t 0) from rfl] at hl; exact hl)
  · skip
    rw [noV_f c_11] at h
    have hno_11 : isT R ca to = false := not_tt c_11
    refine lv_iconst (v := (nI 0)) hx hy dX7_burn_14 (by decide) ?_
    exact e_int C h rfl dX7_burn_15 (⟨_, rfl, by simp [kTowR, hno_11, c_11, suR], by simp [kTowR, burnR, thr, suR, hno_11, c_11]⟩) (by decide) (by decide)

set_option maxRecDepth 20000 in
theorem in_X7_rise_X7 : ∀ x ∈ wsX70, x ∈ wsX7_rise := by decide +kernel
set_option maxRecDepth 100000 in
set_option maxHeartbeats 4000000 in
/-- the reference: rise -/
theorem c_X7_rise (l : Launch) {G : va_G} {V : wV} {rs : List Nat} (hr : bR rs) (M R : wM) (o : wO) (rv : RV R) (ca to : Int32) : CT l G V rs yX7_rise wsX7_rise 2 44 0 0 [.ref (V.1 rMod), .int ca, .int to] (M, R, o) (fun v u => ∃ r, v = some (.int r) ∧ (kTowR R ca to = 0 → r = b2i (decide (R 104 (cI ca * 7 + cI to) = 0))) ∧ u = (M, riseR R ca to, o)) (fun _ _ => False) := by
  refine ct_of (cc := cX7_rise) (maxL := 3) (ret := (some .boolean)) (by decide) rfl (Nat.le_of_ble_eq_true rfl) ?_
  intro p e s m below meth cd ls C h X hT hl
  have hx := C.1
  have hy := C.2.1
  have hl : lv_has ls 3 [(0, .ref (V.1 rMod)), (1, .int ca), (2, .int to)] := hl
  have hmn : ∀ c, c < 2 → R 101 c = nI (mnN R c) ∧ mnN R c ≤ 7 := fun c hc => ⟨(rv.1 c hc).1, (rv.1 c hc).2.1⟩
  have hwn : ∀ c, c < 2 → R 103 c = nI (wrN R c) ∧ wrN R c ≤ 60 := fun c hc => ⟨(rv.1 c hc).2.2.1, (rv.1 c hc).2.2.2.1⟩
  have hsi9 := rv.2.1.2
  have htr9 := rv.2.2.1.2
  refine lv_aload_n hx hy dX7_rise_0 rfl (lv_at hl 0 rfl) ?_
  refine lv_aload_n hx hy dX7_rise_1 rfl (lv_at hl 0 rfl) ?_
  refine lv_iload_n hx hy dX7_rise_2 rfl (lv_at hl 1 rfl) ?_
  refine lv_iload_n hx hy dX7_rise_3 rfl (lv_at hl 2 rfl) ?_
  refine n_go0 C h (n_V (As := [.int ca, .int to]) (rest := [.ref (V.1 rMod)]) C h X (hr 100 (by decide)) ((cel_hi (by decide)).trans (celF_Mod _)) rfl (c_X7_isTower l hr M R o hmn ca to) (cwV 2 C.2.2.2.2.1 gX7_rise_X7_isTower rfl rfl rfl (by decide +kernel) ⟨Nat.le_of_ble_eq_true rfl, Nat.le_of_ble_eq_true rfl⟩) rfl hl.1 rfl (Nat.le_of_ble_eq_true rfl) dX7_rise_4 ⟨by decide, by decide⟩) (fun _ _ z => z) (fun v_4 u_4 H locs hpo h => ?_)
  obtain ⟨rfl, rfl⟩ := hpo
  refine lv_iconst (v := (nI 1)) hx hy dX7_rise_7 (by decide) ?_
  refine n_go0 C h (n_V (As := [.int (b2i (isT R ca to)), .int (nI 1)]) (rest := []) C h X (hr 100 (by decide)) ((cel_hi (by decide)).trans (celF_Mod _)) rfl (c_X7_no l hr M R o (isT R ca to) (nI 1)) (cwV 2 C.2.2.2.2.1 gX7_rise_X7_no rfl rfl rfl (by decide +kernel) ⟨Nat.le_of_ble_eq_true rfl, Nat.le_of_ble_eq_true rfl⟩) rfl hl.1 rfl (Nat.le_of_ble_eq_true rfl) dX7_rise_8 ⟨by decide, by decide⟩) (fun _ _ z => z) (fun v_8 u_8 H locs hpo h => ?_)
  obtain ⟨rfl, rfl⟩ := hpo
  refine b_ne hx hy (tgt := 28) dX7_rise_11 (by decide) (fun c_11 => ?_) (fun c_11 => ?_)
  · skip
    rw [noV_f c_11] at h
    have hno_11 : isT R ca to = false := not_tt c_11
    refine lv_iconst (v := (nI 0)) hx hy dX7_rise_28 (by decide) ?_
    exact e_int C h (by decide) dX7_rise_29 (⟨_, rfl, by simp [kTowR, b2i, riM, hno_11, c_11, suR], by simp [kTowR, b2i, riM, riseR, thr, suR, hno_11, c_11]⟩) (by decide) (by decide)
  · skip
    rw [noV_t c_11] at h
    have hno_11 : isT R ca to = true := not_ff c_11
    obtain ⟨c, t, hc, ht, rfl, rfl⟩ := isT_ok hno_11 (fun c hc => (hmn c hc).2)
    have hmn9 := (hmn c hc).2
    have ht7 : t < 7 := by omega
    have hi_c : cI (nI c) = c := nI_clamp (by omega)
    have hi_t : cI (nI t) = t := nI_clamp (by omega)
    have hmn9 := (hmn c hc).2
    have hwn9 := (hwn c hc).2
    have hB := (rv.1 c hc).2.2.2.2.1
    have hEr := (rv.1 c hc).2.2.2.2.2.1
    have hU := (rv.1 c hc).2.2.2.2.2.2
    refine lv_aload_n hx hy dX7_rise_14 rfl (lv_at hl 0 rfl) ?_
    refine g_f C h (hr 100 (by decide)) (cel_hi (by decide)) celF_Mod rfl in_X7_rise_X7 3 (by decide) (by decide +kernel) (v := .ref (V.1 104)) rfl dX7_rise_15 ?_
    refine lv_iload_n hx hy dX7_rise_18 rfl (lv_at hl 1 rfl) ?_
    refine lv_bipush (v := (nI 7)) hx hy dX7_rise_19 (by decide) ?_
    refine lv_imul hx hy dX7_rise_21 ?_
    refine lv_topn (pk_mul _ _) ?_
    refine lv_iload_n hx hy dX7_rise_22 rfl (lv_at hl 2 rfl) ?_
    refine lv_iadd hx hy dX7_rise_23 ?_
    refine lv_topn (nI_add _ _) ?_
    refine g_z C h (hr 104 (by decide)) (n := 14) (k := ((c * 7) + t)) (cel_hi (by decide)) (fun _ => rfl) (by omega) (by decide) (v := (R 104 ((c * 7) + t))) (show (wr R rMod 19 (nI 0)) 104 ((c * 7) + t) = (R 104 ((c * 7) + t)) from (wr_othr (by decide))) dX7_rise_24 ?_
    refine z_eq hx hy (tgt := 30) dX7_rise_25 (by decide) (fun c_25 => ?_) (fun c_25 => ?_)
    · skip
      refine lv_aload_n hx hy dX7_rise_30 rfl (lv_at hl 0 rfl) ?_
      refine g_f C h (hr 100 (by decide)) (cel_hi (by decide)) celF_Mod rfl in_X7_rise_X7 3 (by decide) (by decide +kernel) (v := .ref (V.1 104)) rfl dX7_rise_31 ?_
      refine lv_iload_n hx hy dX7_rise_34 rfl (lv_at hl 1 rfl) ?_
      refine lv_bipush (v := (nI 7)) hx hy dX7_rise_35 (by decide) ?_
      refine lv_imul hx hy dX7_rise_37 ?_
      refine lv_topn (pk_mul _ _) ?_
      refine lv_iload_n hx hy dX7_rise_38 rfl (lv_at hl 2 rfl) ?_
      refine lv_iadd hx hy dX7_rise_39 ?_
      refine lv_topn (nI_add _ _) ?_
      refine lv_iconst (v := (nI 1)) hx hy dX7_rise_40 (by decide) ?_
      refine s_zR C h (hr 104 (by decide)) (by decide) (n := 14) (k := ((c * 7) + t)) (fun _ => rfl) (by omega) (by decide) (x := (nI 1)) (by decide) dX7_rise_41 (fun H locs h => ?_)
      refine lv_aload_n hx hy dX7_rise_42 rfl (lv_at hl 0 rfl) ?_
      refine g_f C h (hr 100 (by decide)) (cel_hi (by decide)) celF_Mod rfl in_X7_rise_X7 4 (by decide) (by decide +kernel) (v := .ref (V.1 105)) rfl dX7_rise_43 ?_
      refine lv_iload_n hx hy dX7_rise_46 rfl (lv_at hl 1 rfl) ?_
      refine lv_bipush (v := (nI 7)) hx hy dX7_rise_47 (by decide) ?_
      refine lv_imul hx hy dX7_rise_49 ?_
      refine lv_topn (pk_mul _ _) ?_
      refine lv_iload_n hx hy dX7_rise_50 rfl (lv_at hl 2 rfl) ?_
      refine lv_iadd hx hy dX7_rise_51 ?_
      refine lv_topn (nI_add _ _) ?_
      refine lv_iconst (v := (nI 1)) hx hy dX7_rise_52 (by decide) ?_
      refine s_zR C h (hr 105 (by decide)) (by decide) (n := 14) (k := ((c * 7) + t)) (fun _ => rfl) (by omega) (by decide) (x := (nI 1)) (by decide) dX7_rise_53 (fun H locs h => ?_)
      refine lv_aload_n hx hy dX7_rise_54 rfl (lv_at hl 0 rfl) ?_
      refine g_f C h (hr 100 (by decide)) (cel_hi (by decide)) celF_Mod rfl in_X7_rise_X7 5 (by decide) (by decide +kernel) (v := .ref (V.1 106)) rfl dX7_rise_55 ?_
      refine lv_iload_n hx hy dX7_rise_58 rfl (lv_at hl 1 rfl) ?_
      refine lv_bipush (v := (nI 7)) hx hy dX7_rise_59 (by decide) ?_
      refine lv_imul hx hy dX7_rise_61 ?_
      refine lv_topn (pk_mul _ _) ?_
      refine lv_iload_n hx hy dX7_rise_62 rfl (lv_at hl 2 rfl) ?_
      refine lv_iadd hx hy dX7_rise_63 ?_
      refine lv_topn (nI_add _ _) ?_
      refine lv_aload_n hx hy dX7_rise_64 rfl (lv_at hl 0 rfl) ?_
      refine g_f C h (hr 100 (by decide)) (cel_hi (by decide)) celF_Mod rfl in_X7_rise_X7 18 (by decide) (by decide +kernel) (v := .int (R rMod 18)) (congrArg (fun z => some (Value.int z)) (show (wr (wr (wr R rMod 19 (nI 0)) 104 ((c * 7) + t) (nI 1)) 105 ((c * 7) + t) (nI 1)) rMod 18 = (R rMod 18) from ((wr_othr (by decide)).trans ((wr_othr (by decide)).trans (wr_othj (by decide)))))) dX7_rise_65 ?_
      refine s_iR C h (hr 106 (by decide)) (by decide) (n := 14) (k := ((c * 7) + t)) (fun _ => rfl) (by omega) (by decide) (x := (R rMod 18)) dX7_rise_68 (fun H locs h => ?_)
      refine lv_iconst (v := (nI 1)) hx hy dX7_rise_69 (by decide) ?_
      exact e_int C h (by decide) dX7_rise_70 (⟨_, rfl, by simp [kTowR, b2i, riM, hno_11, hi_c, hi_t, hno_11, c_11, eq_true c_25, suR], by simp [kTowR, b2i, riM, riseR, thr, suR, hno_11, hi_c, hi_t, hno_11, c_11, eq_true c_25]⟩) (by decide) (by decide)
    · skip
      refine lv_iconst (v := (nI 0)) hx hy dX7_rise_28 (by decide) ?_
      exact e_int C h (by decide) dX7_rise_29 (⟨_, rfl, by simp [kTowR, b2i, riM, hno_11, hi_c, hi_t, hno_11, c_11, eq_false c_25, suR], by simp [kTowR, b2i, riM, riseR, thr, suR, hno_11, hi_c, hi_t, hno_11, c_11, eq_false c_25]⟩) (by decide) (by decide)

set_option maxRecDepth 20000 in
theorem in_X7_cut_X7 : ∀ x ∈ wsX70, x ∈ wsX7_cut := by decide +kernel
set_option maxRecDepth 100000 in
set_option maxHeartbeats 4000000 in
/-- the reference: cut -/
theorem c_X7_cut (l : Launch) {G : va_G} {V : wV} {rs : List Nat} (hr : bR rs) (M R : wM) (o : wO) (rv : RV R) (ca to lo0 : Int32) (is : Bool) : CT l G V rs yX7_cut wsX7_cut 2 44 0 0 [.ref (V.1 rMod), .int ca, .int to, .int lo0, .int (b2i is)] (M, R, o) (fun v u => ∃ r, v = some (.int r) ∧ (kCutR R ca to lo0 = 0 → r = R 107 ((cI ca * 7 + cI to) * 4 + cI lo0)) ∧ u = (M, cutR R ca to lo0 is, o)) (fun _ _ => False) := by
  refine ct_of (cc := cX7_cut) (maxL := 6) (ret := (some .boolean)) (by decide) rfl (Nat.le_of_ble_eq_true rfl) ?_
  intro p e s m below meth cd ls C h X hT hl
  have hx := C.1
  have hy := C.2.1
  have hl : lv_has ls 6 [(0, .ref (V.1 rMod)), (1, .int ca), (2, .int to), (3, .int lo0), (4, .int (b2i is))] := hl
  have hmn : ∀ c, c < 2 → R 101 c = nI (mnN R c) ∧ mnN R c ≤ 7 := fun c hc => ⟨(rv.1 c hc).1, (rv.1 c hc).2.1⟩
  have hwn : ∀ c, c < 2 → R 103 c = nI (wrN R c) ∧ wrN R c ≤ 60 := fun c hc => ⟨(rv.1 c hc).2.2.1, (rv.1 c hc).2.2.2.1⟩
  have hsi9 := rv.2.1.2
  have htr9 := rv.2.2.1.2
  refine lv_aload_n hx hy dX7_cut_0 rfl (lv_at hl 0 rfl) ?_
  refine lv_aload_n hx hy dX7_cut_1 rfl (lv_at hl 0 rfl) ?_
  refine lv_iload_n hx hy dX7_cut_2 rfl (lv_at hl 1 rfl) ?_
  refine lv_iload_n hx hy dX7_cut_3 rfl (lv_at hl 2 rfl) ?_
  refine n_go0 C h (n_V (As := [.int ca, .int to]) (rest := [.ref (V.1 rMod)]) C h X (hr 100 (by decide)) ((cel_hi (by decide)).trans (celF_Mod _)) rfl (c_X7_isTower l hr M R o hmn ca to) (cwV 2 C.2.2.2.2.1 gX7_cut_X7_isTower rfl rfl rfl (by decide +kernel) ⟨Nat.le_of_ble_eq_true rfl, Nat.le_of_ble_eq_true rfl⟩) rfl hl.1 rfl (Nat.le_of_ble_eq_true rfl) dX7_cut_4 ⟨by decide, by decide⟩) (fun _ _ z => z) (fun v_4 u_4 H locs hpo h => ?_)
  obtain ⟨rfl, rfl⟩ := hpo
  refine b_eq hx hy (tgt := 21) dX7_cut_7 (by decide) (fun c_7 => ?_) (fun c_7 => ?_)
  · skip
    refine lv_iconst (v := (nI 0)) hx hy dX7_cut_21 (by decide) ?_
    refine lv_iconst (v := (nI 1)) hx hy dX7_cut_22 (by decide) ?_
    refine n_go0 C h (n_V (As := [.int (b2i false), .int (nI 1)]) (rest := []) C h X (hr 100 (by decide)) ((cel_hi (by decide)).trans (celF_Mod _)) rfl (c_X7_no l hr M R o false (nI 1)) (cwV 2 C.2.2.2.2.1 gX7_cut_X7_no rfl rfl rfl (by decide +kernel) ⟨Nat.le_of_ble_eq_true rfl, Nat.le_of_ble_eq_true rfl⟩) rfl hl.1 rfl (Nat.le_of_ble_eq_true rfl) dX7_cut_23 ⟨by decide, by decide⟩) (fun _ _ z => z) (fun v_23 u_23 H locs hpo h => ?_)
    obtain ⟨rfl, rfl⟩ := hpo
    refine b_eq hx hy (tgt := 31) dX7_cut_26 (by decide) (fun c_26 => ?_) (fun c_26 => ?_)
    · skip
      exact absurd c_26 (by decide)
    · skip
      rw [noV_f c_26] at h
      refine lv_iconst (v := (nI 0)) hx hy dX7_cut_29 (by decide) ?_
      exact e_int C h (by decide) dX7_cut_30 (⟨_, rfl, by simp [kCutR, c_7, c_26, suR], by simp [kCutR, cutR, thr, suR, c_7, c_26]⟩) (by decide) (by decide)
  · skip
    obtain ⟨c, t, hc, ht, rfl, rfl⟩ := isT_ok c_7 (fun c hc => (hmn c hc).2)
    have hmn9 := (hmn c hc).2
    have ht7 : t < 7 := by omega
    have hi_c : cI (nI c) = c := nI_clamp (by omega)
    have hi_t : cI (nI t) = t := nI_clamp (by omega)
    have hmn9 := (hmn c hc).2
    have hwn9 := (hwn c hc).2
    have hB := (rv.1 c hc).2.2.2.2.1
    have hEr := (rv.1 c hc).2.2.2.2.2.1
    have hU := (rv.1 c hc).2.2.2.2.2.2
    refine lv_iload_n hx hy dX7_cut_10 rfl (lv_at hl 3 rfl) ?_
    refine n_go0 C h (n_S (As := [.int lo0]) (rest := [.ref (V.1 rMod)]) C h X (c_X7_isLord l M R o lo0) (va_cwS 1 C.2.2.2.2.1 gX7_cut_X7_isLord rfl rfl rfl (by decide +kernel) ⟨Nat.le_of_ble_eq_true rfl, Nat.le_of_ble_eq_true rfl⟩) rfl hl.1 rfl (Nat.le_of_ble_eq_true rfl) dX7_cut_11 ⟨by decide, by decide⟩) (fun _ _ z => z) (fun v_11 u_11 H locs hpo h => ?_)
    obtain ⟨rfl, rfl⟩ := hpo
    refine b_eq hx hy (tgt := 21) dX7_cut_14 (by decide) (fun c_14 => ?_) (fun c_14 => ?_)
    · skip
      refine lv_iconst (v := (nI 0)) hx hy dX7_cut_21 (by decide) ?_
      refine lv_iconst (v := (nI 1)) hx hy dX7_cut_22 (by decide) ?_
      refine n_go0 C h (n_V (As := [.int (b2i false), .int (nI 1)]) (rest := []) C h X (hr 100 (by decide)) ((cel_hi (by decide)).trans (celF_Mod _)) rfl (c_X7_no l hr M R o false (nI 1)) (cwV 2 C.2.2.2.2.1 gX7_cut_X7_no rfl rfl rfl (by decide +kernel) ⟨Nat.le_of_ble_eq_true rfl, Nat.le_of_ble_eq_true rfl⟩) rfl hl.1 rfl (Nat.le_of_ble_eq_true rfl) dX7_cut_23 ⟨by decide, by decide⟩) (fun _ _ z => z) (fun v_23 u_23 H locs hpo h => ?_)
      obtain ⟨rfl, rfl⟩ := hpo
      refine b_eq hx hy (tgt := 31) dX7_cut_26 (by decide) (fun c_26 => ?_) (fun c_26 => ?_)
      · skip
        exact absurd c_26 (by decide)
      · skip
        rw [noV_f c_26] at h
        refine lv_iconst (v := (nI 0)) hx hy dX7_cut_29 (by decide) ?_
        exact e_int C h (by decide) dX7_cut_30 (⟨_, rfl, by simp [kCutR, hi_c, hi_t, c_7, c_7, c_14, c_26, suR], by simp [kCutR, cutR, thr, suR, hi_c, hi_t, c_7, c_7, c_14, c_26]⟩) (by decide) (by decide)
    · skip
      obtain ⟨lo, hlo, rfl⟩ := vIn_ok' c_14 (by decide)
      have hv_lo : vIn (nI lo) 4 = true := vIn_nI hlo (by decide)
      have hi_lo : cI (nI lo) = lo := nI_clamp (by omega)
      refine lv_iconst (v := (nI 1)) hx hy dX7_cut_17 (by decide) ?_
      refine lv_goto (tgt := 22) hx hy dX7_cut_18 (by decide) ?_
      refine lv_iconst (v := (nI 1)) hx hy dX7_cut_22 (by decide) ?_
      refine n_go0 C h (n_V (As := [.int (b2i true), .int (nI 1)]) (rest := []) C h X (hr 100 (by decide)) ((cel_hi (by decide)).trans (celF_Mod _)) rfl (c_X7_no l hr M R o true (nI 1)) (cwV 2 C.2.2.2.2.1 gX7_cut_X7_no rfl rfl rfl (by decide +kernel) ⟨Nat.le_of_ble_eq_true rfl, Nat.le_of_ble_eq_true rfl⟩) rfl hl.1 rfl (Nat.le_of_ble_eq_true rfl) dX7_cut_23 ⟨by decide, by decide⟩) (fun _ _ z => z) (fun v_23 u_23 H locs hpo h => ?_)
      obtain ⟨rfl, rfl⟩ := hpo
      refine b_eq hx hy (tgt := 31) dX7_cut_26 (by decide) (fun c_26 => ?_) (fun c_26 => ?_)
      · skip
        rw [noV_t c_26] at h
        refine lv_aload_n hx hy dX7_cut_31 rfl (lv_at hl 0 rfl) ?_
        refine g_f C h (hr 100 (by decide)) (cel_hi (by decide)) celF_Mod rfl in_X7_cut_X7 6 (by decide) (by decide +kernel) (v := .ref (V.1 107)) rfl dX7_cut_32 ?_
        refine lv_iload_n hx hy dX7_cut_35 rfl (lv_at hl 1 rfl) ?_
        refine lv_bipush (v := (nI 7)) hx hy dX7_cut_36 (by decide) ?_
        refine lv_imul hx hy dX7_cut_38 ?_
        refine lv_topn (pk_mul _ _) ?_
        refine lv_iload_n hx hy dX7_cut_39 rfl (lv_at hl 2 rfl) ?_
        refine lv_iadd hx hy dX7_cut_40 ?_
        refine lv_topn (nI_add _ _) ?_
        refine lv_iconst (v := (nI 4)) hx hy dX7_cut_41 (by decide) ?_
        refine lv_imul hx hy dX7_cut_42 ?_
        refine lv_topn (pk_mul _ _) ?_
        refine lv_iload_n hx hy dX7_cut_43 rfl (lv_at hl 3 rfl) ?_
        refine lv_iadd hx hy dX7_cut_44 ?_
        refine lv_topn (nI_add _ _) ?_
        refine g_z C h (hr 107 (by decide)) (n := 56) (k := ((((c * 7) + t) * 4) + lo)) (cel_hi (by decide)) (fun _ => rfl) (by omega) (by decide) (v := (R 107 ((((c * 7) + t) * 4) + lo))) (show (wr R rMod 19 (nI 0)) 107 ((((c * 7) + t) * 4) + lo) = (R 107 ((((c * 7) + t) * 4) + lo)) from (wr_othr (by decide))) dX7_cut_45 ?_
        refine lv_istore (lv' := [(5, .int (R 107 ((((c * 7) + t) * 4) + lo))), (0, .ref (V.1 rMod)), (1, .int (nI c)), (2, .int (nI t)), (3, .int (nI lo)), (4, .int (b2i is))]) hx hy dX7_cut_46 hl (by decide) rfl (fun ls hl => ?_)
        refine lv_aload_n hx hy dX7_cut_48 rfl (lv_at hl 1 rfl) ?_
        refine g_f C h (hr 100 (by decide)) (cel_hi (by decide)) celF_Mod rfl in_X7_cut_X7 6 (by decide) (by decide +kernel) (v := .ref (V.1 107)) rfl dX7_cut_49 ?_
        refine lv_iload_n hx hy dX7_cut_52 rfl (lv_at hl 2 rfl) ?_
        refine lv_bipush (v := (nI 7)) hx hy dX7_cut_53 (by decide) ?_
        refine lv_imul hx hy dX7_cut_55 ?_
        refine lv_topn (pk_mul _ _) ?_
        refine lv_iload_n hx hy dX7_cut_56 rfl (lv_at hl 3 rfl) ?_
        refine lv_iadd hx hy dX7_cut_57 ?_
        refine lv_topn (nI_add _ _) ?_
        refine lv_iconst (v := (nI 4)) hx hy dX7_cut_58 (by decide) ?_
        refine lv_imul hx hy dX7_cut_59 ?_
        refine lv_topn (pk_mul _ _) ?_
        refine lv_iload_n hx hy dX7_cut_60 rfl (lv_at hl 4 rfl) ?_
        refine lv_iadd hx hy dX7_cut_61 ?_
        refine lv_topn (nI_add _ _) ?_
        refine lv_iload hx hy dX7_cut_62 (lv_at hl 5 rfl) ?_
        refine s_zR C h (hr 107 (by decide)) (by decide) (n := 56) (k := ((((c * 7) + t) * 4) + lo)) (fun _ => rfl) (by omega) (by decide) (x := (b2i is)) (b2i_vnar _) dX7_cut_64 (fun H locs h => ?_)
        refine lv_iload hx hy dX7_cut_65 (lv_at hl 0 rfl) ?_
        exact e_int C h ((hU t ht7).2 lo hlo) dX7_cut_67 (⟨_, rfl, by simp [kCutR, hi_c, hi_t, c_7, hi_lo, hv_lo, c_7, c_14, c_26, suR], by simp [kCutR, cutR, thr, suR, hi_c, hi_t, c_7, hi_lo, hv_lo, c_7, c_14, c_26]⟩) (by decide) (by decide)
      · skip
        exact absurd c_26 (by decide)

set_option maxRecDepth 20000 in
theorem in_X7_lease_X7 : ∀ x ∈ wsX70, x ∈ wsX7_lease := by decide +kernel
set_option maxRecDepth 100000 in
set_option maxHeartbeats 4000000 in
/-- the reference: lease -/
theorem c_X7_lease (l : Launch) {G : va_G} {V : wV} {rs : List Nat} (hr : bR rs) (M R : wM) (o : wO) (rv : RV R) (lo0 ca ga ti : Int32) : CT l G V rs yX7_lease wsX7_lease 2 44 0 0 [.ref (V.1 rMod), .int lo0, .int ca, .int ga, .int ti] (M, R, o) (fun v u => ∃ r, v = some (.int r) ∧ (kLeaseR R lo0 ca ga ti = 0 → r = mxR (R 110 ((cI ca * 4 + cI lo0) * 3 + cI ga)) (nowR R + ti)) ∧ u = (M, leaseR R lo0 ca ga ti, o)) (fun _ _ => False) := by
  refine ct_of (cc := cX7_lease) (maxL := 9) (ret := (some .int)) (by decide) rfl (Nat.le_of_ble_eq_true rfl) ?_
  intro p e s m below meth cd ls C h X hT hl
  have hx := C.1
  have hy := C.2.1
  have hl : lv_has ls 9 [(0, .ref (V.1 rMod)), (1, .int lo0), (2, .int ca), (3, .int ga), (4, .int ti)] := hl
  have hmn : ∀ c, c < 2 → R 101 c = nI (mnN R c) ∧ mnN R c ≤ 7 := fun c hc => ⟨(rv.1 c hc).1, (rv.1 c hc).2.1⟩
  have hwn : ∀ c, c < 2 → R 103 c = nI (wrN R c) ∧ wrN R c ≤ 60 := fun c hc => ⟨(rv.1 c hc).2.2.1, (rv.1 c hc).2.2.2.1⟩
  have hsi9 := rv.2.1.2
  have htr9 := rv.2.2.1.2
  refine lv_aload_n hx hy dX7_lease_0 rfl (lv_at hl 0 rfl) ?_
  refine lv_iload_n hx hy dX7_lease_1 rfl (lv_at hl 2 rfl) ?_
  refine n_go0 C h (n_S (As := [.int ca]) (rest := [.ref (V.1 rMod)]) C h X (c_X7_isCastle l M R o ca) (va_cwS 1 C.2.2.2.2.1 gX7_lease_X7_isCastle rfl rfl rfl (by decide +kernel) ⟨Nat.le_of_ble_eq_true rfl, Nat.le_of_ble_eq_true rfl⟩) rfl hl.1 rfl (Nat.le_of_ble_eq_true rfl) dX7_lease_2 ⟨by decide, by decide⟩) (fun _ _ z => z) (fun v_2 u_2 H locs hpo h => ?_)
  obtain ⟨rfl, rfl⟩ := hpo
  refine b_eq hx hy (tgt := 26) dX7_lease_5 (by decide) (fun c_5 => ?_) (fun c_5 => ?_)
  · skip
    refine lv_iconst (v := (nI 0)) hx hy dX7_lease_26 (by decide) ?_
    refine lv_iconst (v := (nI 1)) hx hy dX7_lease_27 (by decide) ?_
    refine n_go0 C h (n_V (As := [.int (b2i false), .int (nI 1)]) (rest := []) C h X (hr 100 (by decide)) ((cel_hi (by decide)).trans (celF_Mod _)) rfl (c_X7_no l hr M R o false (nI 1)) (cwV 2 C.2.2.2.2.1 gX7_lease_X7_no rfl rfl rfl (by decide +kernel) ⟨Nat.le_of_ble_eq_true rfl, Nat.le_of_ble_eq_true rfl⟩) rfl hl.1 rfl (Nat.le_of_ble_eq_true rfl) dX7_lease_28 ⟨by decide, by decide⟩) (fun _ _ z => z) (fun v_28 u_28 H locs hpo h => ?_)
    obtain ⟨rfl, rfl⟩ := hpo
    refine b_ne hx hy (tgt := 50) dX7_lease_31 (by decide) (fun c_31 => ?_) (fun c_31 => ?_)
    · skip
      rw [noV_f c_31] at h
      refine lv_iconst (v := (nI 0)) hx hy dX7_lease_50 (by decide) ?_
      exact e_int C h rfl dX7_lease_51 (⟨_, rfl, by simp [kLeaseR, vR3, canR, mxR, c_5, c_31, suR], by simp [kLeaseR, vR3, canR, mxR, leaseR, thr, suR, c_5, c_31]⟩) (by decide) (by decide)
    · skip
      exact absurd c_31 (by decide)
  · skip
    obtain ⟨c, hc, rfl⟩ := vIn_ok' c_5 (by decide)
    have hv_c : vIn (nI c) 2 = true := vIn_nI hc (by decide)
    have hi_c : cI (nI c) = c := nI_clamp (by omega)
    have hmn9 := (hmn c hc).2
    have hwn9 := (hwn c hc).2
    have hB := (rv.1 c hc).2.2.2.2.1
    have hEr := (rv.1 c hc).2.2.2.2.2.1
    have hU := (rv.1 c hc).2.2.2.2.2.2
    refine lv_iload_n hx hy dX7_lease_8 rfl (lv_at hl 3 rfl) ?_
    refine n_go0 C h (n_S (As := [.int ga]) (rest := [.ref (V.1 rMod)]) C h X (c_X7_isGate l M R o ga) (va_cwS 1 C.2.2.2.2.1 gX7_lease_X7_isGate rfl rfl rfl (by decide +kernel) ⟨Nat.le_of_ble_eq_true rfl, Nat.le_of_ble_eq_true rfl⟩) rfl hl.1 rfl (Nat.le_of_ble_eq_true rfl) dX7_lease_9 ⟨by decide, by decide⟩) (fun _ _ z => z) (fun v_9 u_9 H locs hpo h => ?_)
    obtain ⟨rfl, rfl⟩ := hpo
    refine b_eq hx hy (tgt := 26) dX7_lease_12 (by decide) (fun c_12 => ?_) (fun c_12 => ?_)
    · skip
      refine lv_iconst (v := (nI 0)) hx hy dX7_lease_26 (by decide) ?_
      refine lv_iconst (v := (nI 1)) hx hy dX7_lease_27 (by decide) ?_
      refine n_go0 C h (n_V (As := [.int (b2i false), .int (nI 1)]) (rest := []) C h X (hr 100 (by decide)) ((cel_hi (by decide)).trans (celF_Mod _)) rfl (c_X7_no l hr M R o false (nI 1)) (cwV 2 C.2.2.2.2.1 gX7_lease_X7_no rfl rfl rfl (by decide +kernel) ⟨Nat.le_of_ble_eq_true rfl, Nat.le_of_ble_eq_true rfl⟩) rfl hl.1 rfl (Nat.le_of_ble_eq_true rfl) dX7_lease_28 ⟨by decide, by decide⟩) (fun _ _ z => z) (fun v_28 u_28 H locs hpo h => ?_)
      obtain ⟨rfl, rfl⟩ := hpo
      refine b_ne hx hy (tgt := 50) dX7_lease_31 (by decide) (fun c_31 => ?_) (fun c_31 => ?_)
      · skip
        rw [noV_f c_31] at h
        refine lv_iconst (v := (nI 0)) hx hy dX7_lease_50 (by decide) ?_
        exact e_int C h rfl dX7_lease_51 (⟨_, rfl, by simp [kLeaseR, vR3, canR, mxR, hi_c, hv_c, c_5, c_12, c_31, suR], by simp [kLeaseR, vR3, canR, mxR, leaseR, thr, suR, hi_c, hv_c, c_5, c_12, c_31]⟩) (by decide) (by decide)
      · skip
        exact absurd c_31 (by decide)
    · skip
      obtain ⟨g, hg, rfl⟩ := vIn_ok' c_12 (by decide)
      have hv_g : vIn (nI g) 3 = true := vIn_nI hg (by decide)
      have hi_g : cI (nI g) = g := nI_clamp (by omega)
      refine lv_iload_n hx hy dX7_lease_15 rfl (lv_at hl 1 rfl) ?_
      refine n_go0 C h (n_S (As := [.int lo0]) (rest := [.ref (V.1 rMod)]) C h X (c_X7_isLord l M R o lo0) (va_cwS 1 C.2.2.2.2.1 gX7_lease_X7_isLord rfl rfl rfl (by decide +kernel) ⟨Nat.le_of_ble_eq_true rfl, Nat.le_of_ble_eq_true rfl⟩) rfl hl.1 rfl (Nat.le_of_ble_eq_true rfl) dX7_lease_16 ⟨by decide, by decide⟩) (fun _ _ z => z) (fun v_16 u_16 H locs hpo h => ?_)
      obtain ⟨rfl, rfl⟩ := hpo
      refine b_eq hx hy (tgt := 26) dX7_lease_19 (by decide) (fun c_19 => ?_) (fun c_19 => ?_)
      · skip
        refine lv_iconst (v := (nI 0)) hx hy dX7_lease_26 (by decide) ?_
        refine lv_iconst (v := (nI 1)) hx hy dX7_lease_27 (by decide) ?_
        refine n_go0 C h (n_V (As := [.int (b2i false), .int (nI 1)]) (rest := []) C h X (hr 100 (by decide)) ((cel_hi (by decide)).trans (celF_Mod _)) rfl (c_X7_no l hr M R o false (nI 1)) (cwV 2 C.2.2.2.2.1 gX7_lease_X7_no rfl rfl rfl (by decide +kernel) ⟨Nat.le_of_ble_eq_true rfl, Nat.le_of_ble_eq_true rfl⟩) rfl hl.1 rfl (Nat.le_of_ble_eq_true rfl) dX7_lease_28 ⟨by decide, by decide⟩) (fun _ _ z => z) (fun v_28 u_28 H locs hpo h => ?_)
        obtain ⟨rfl, rfl⟩ := hpo
        refine b_ne hx hy (tgt := 50) dX7_lease_31 (by decide) (fun c_31 => ?_) (fun c_31 => ?_)
        · skip
          rw [noV_f c_31] at h
          refine lv_iconst (v := (nI 0)) hx hy dX7_lease_50 (by decide) ?_
          exact e_int C h rfl dX7_lease_51 (⟨_, rfl, by simp [kLeaseR, vR3, canR, mxR, hi_c, hv_c, hi_g, hv_g, c_5, c_12, c_19, c_31, suR], by simp [kLeaseR, vR3, canR, mxR, leaseR, thr, suR, hi_c, hv_c, hi_g, hv_g, c_5, c_12, c_19, c_31]⟩) (by decide) (by decide)
        · skip
          exact absurd c_31 (by decide)
      · skip
        obtain ⟨lo, hlo, rfl⟩ := vIn_ok' c_19 (by decide)
        have hv_lo : vIn (nI lo) 4 = true := vIn_nI hlo (by decide)
        have hi_lo : cI (nI lo) = lo := nI_clamp (by omega)
        refine lv_iconst (v := (nI 1)) hx hy dX7_lease_22 (by decide) ?_
        refine lv_goto (tgt := 27) hx hy dX7_lease_23 (by decide) ?_
        refine lv_iconst (v := (nI 1)) hx hy dX7_lease_27 (by decide) ?_
        refine n_go0 C h (n_V (As := [.int (b2i true), .int (nI 1)]) (rest := []) C h X (hr 100 (by decide)) ((cel_hi (by decide)).trans (celF_Mod _)) rfl (c_X7_no l hr M R o true (nI 1)) (cwV 2 C.2.2.2.2.1 gX7_lease_X7_no rfl rfl rfl (by decide +kernel) ⟨Nat.le_of_ble_eq_true rfl, Nat.le_of_ble_eq_true rfl⟩) rfl hl.1 rfl (Nat.le_of_ble_eq_true rfl) dX7_lease_28 ⟨by decide, by decide⟩) (fun _ _ z => z) (fun v_28 u_28 H locs hpo h => ?_)
        obtain ⟨rfl, rfl⟩ := hpo
        refine b_ne hx hy (tgt := 50) dX7_lease_31 (by decide) (fun c_31 => ?_) (fun c_31 => ?_)
        · skip
          exact absurd c_31 (by decide)
        · skip
          rw [noV_t c_31] at h
          refine lv_aload_n hx hy dX7_lease_34 rfl (lv_at hl 0 rfl) ?_
          refine lv_iload hx hy dX7_lease_35 (lv_at hl 4 rfl) ?_
          refine lv_iconst (v := (nI 1)) hx hy dX7_lease_37 (by decide) ?_
          refine lv_bipush (v := (nI 20)) hx hy dX7_lease_38 (by decide) ?_
          refine n_go0 C h (n_S (As := [.int ti, .int (nI 1), .int (nI 20)]) (rest := [.ref (V.1 rMod)]) C h X (c_X7_isIn l M (wr R rMod 19 (nI 0)) o ti (nI 1) (nI 20)) (va_cwS 3 C.2.2.2.2.1 gX7_lease_X7_isIn rfl rfl rfl (by decide +kernel) ⟨Nat.le_of_ble_eq_true rfl, Nat.le_of_ble_eq_true rfl⟩) rfl hl.1 rfl (Nat.le_of_ble_eq_true rfl) dX7_lease_40 ⟨by decide, by decide⟩) (fun _ _ z => z) (fun v_40 u_40 H locs hpo h => ?_)
          obtain ⟨rfl, rfl⟩ := hpo
          refine lv_iconst (v := (nI 2)) hx hy dX7_lease_43 (by decide) ?_
          refine n_go0 C h (n_V (As := [.int (b2i (vI ti (nI 1) (nI 20))), .int (nI 2)]) (rest := []) C h X (hr 100 (by decide)) ((cel_hi (by decide)).trans (celF_Mod _)) rfl (c_X7_no l hr M (wr R rMod 19 (nI 0)) o (vI ti (nI 1) (nI 20)) (nI 2)) (cwV 2 C.2.2.2.2.1 gX7_lease_X7_no rfl rfl rfl (by decide +kernel) ⟨Nat.le_of_ble_eq_true rfl, Nat.le_of_ble_eq_true rfl⟩) rfl hl.1 rfl (Nat.le_of_ble_eq_true rfl) dX7_lease_44 ⟨by decide, by decide⟩) (fun _ _ z => z) (fun v_44 u_44 H locs hpo h => ?_)
          obtain ⟨rfl, rfl⟩ := hpo
          refine b_eq hx hy (tgt := 52) dX7_lease_47 (by decide) (fun c_47 => ?_) (fun c_47 => ?_)
          · skip
            rw [noV_t c_47] at h
            rw [wr_wr] at h
            have hno_47 : vI ti (nI 1) (nI 20) = true := not_ff c_47
            refine lv_aload_n hx hy dX7_lease_52 rfl (lv_at hl 0 rfl) ?_
            refine lv_iload_n hx hy dX7_lease_53 rfl (lv_at hl 2 rfl) ?_
            refine lv_iload_n hx hy dX7_lease_54 rfl (lv_at hl 1 rfl) ?_
            refine n_go0 C h (n_V (As := [.int (nI c), .int (nI lo)]) (rest := []) C h X (hr 100 (by decide)) ((cel_hi (by decide)).trans (celF_Mod _)) rfl (c_X7_reach l hr M (wr R rMod 19 (nI 0)) o c hc (mnN R c) hmn9 (show (wr R rMod 19 (nI 0)) 101 c = nI (mnN R c) from ((wr_othr (by decide)).trans (hmn c hc).1)) lo hlo) (cwV 2 C.2.2.2.2.1 gX7_lease_X7_reach rfl rfl rfl (by decide +kernel) ⟨Nat.le_of_ble_eq_true rfl, Nat.le_of_ble_eq_true rfl⟩) rfl hl.1 rfl (Nat.le_of_ble_eq_true rfl) dX7_lease_55 ⟨by decide, by decide⟩) (fun _ _ z => z) (fun v_55 u_55 H locs hpo h => ?_)
            obtain ⟨rfl, rfl⟩ := hpo
            refine lv_istore (lv' := [(5, .int (rcN (wr R rMod 19 (nI 0)) c lo (mnN R c))), (0, .ref (V.1 rMod)), (1, .int (nI lo)), (2, .int (nI c)), (3, .int (nI g)), (4, .int ti)]) hx hy dX7_lease_58 hl (by decide) rfl (fun ls hl => ?_)
            refine lv_iconst (v := (nI 0)) hx hy dX7_lease_60 (by decide) ?_
            refine lv_istore (lv' := [(6, .int (nI 0)), (5, .int (rcN (wr R rMod 19 (nI 0)) c lo (mnN R c))), (0, .ref (V.1 rMod)), (1, .int (nI lo)), (2, .int (nI c)), (3, .int (nI g)), (4, .int ti)]) hx hy dX7_lease_61 hl (by decide) rfl (fun ls hl => ?_)
            have L_63 : ∀ (n_63 t : Nat), n_63 + t = (mnN R c) → ∀ (H : Heap) (locs : List Loc), HH G V rs (M, wr R rMod 19 (nI 0), o) s H locs → ∀ ls : Array Slot, lv_has ls 9 [(6, .int (nI t)), (5, .int (leN (wr R rMod 19 (nI 0)) c g lo t)), (0, .ref (V.1 rMod)), (1, .int (nI lo)), (2, .int (nI c)), (3, .int (nI g)), (4, .int ti)] → W p l e { frames := 2, cells := 0, slots := 0, locals := 44 } s m [.ref (V.1 rMod), .int (nI lo), .int (nI c), .int (nI g), .int ti].toArray below meth cd H locs 0 0 (QM G V rs below [.ref (V.1 rMod), .int (nI lo), .int (nI c), .int (nI g), .int ti].toArray s 0 0 (fun v u => ∃ r, v = some (.int r) ∧ (kLeaseR R (nI lo) (nI c) (nI g) ti = 0 → r = mxR (R 110 ((cI (nI c) * 4 + cI (nI lo)) * 3 + cI (nI g))) (nowR R + ti)) ∧ u = (M, leaseR R (nI lo) (nI c) (nI g) ti, o)) (fun _ _ => False)) (F0 m 63 ls []) := by
              intro n_63
              induction n_63 with
              | zero =>
                intro t hk_63 H locs h ls hl
                have hz_63 : t = (mnN R c) := by omega
                try rw [hz_63] at h
                try rw [hz_63] at hl
                refine lv_iload hx hy dX7_lease_63 (lv_at hl 0 rfl) ?_
                refine lv_aload_n hx hy dX7_lease_65 rfl (lv_at hl 2 rfl) ?_
                refine g_f C h (hr 100 (by decide)) (cel_hi (by decide)) celF_Mod rfl in_X7_lease_X7 0 (by decide) (by decide +kernel) (v := .ref (V.1 101)) rfl dX7_lease_66 ?_
                refine lv_iload_n hx hy dX7_lease_69 rfl (lv_at hl 4 rfl) ?_
                refine g_i C h (hr 101 (by decide)) (n := 2) (k := c) (cel_hi (by decide)) (fun _ => rfl) (by omega) (by decide) (v := (nI (mnN R c))) (show (wr R rMod 19 (nI 0)) 101 c = (nI (mnN R c)) from ((wr_othr (by decide)).trans (hmn c hc).1)) dX7_lease_70 ?_
                refine n_ge hx hy (by omega) (by omega) (tgt := 144) dX7_lease_71 (by decide) (fun c_71 => ?_) (fun c_71 => ?_)
                · skip
                  refine lv_aload_n hx hy dX7_lease_144 rfl (lv_at hl 2 rfl) ?_
                  refine lv_aload_n hx hy dX7_lease_145 rfl (lv_at hl 2 rfl) ?_
                  refine lv_iload_n hx hy dX7_lease_146 rfl (lv_at hl 4 rfl) ?_
                  refine lv_iload hx hy dX7_lease_147 (lv_at hl 1 rfl) ?_
                  refine n_go0 C h (n_V (As := [.int (nI c), .int (leN (wr R rMod 19 (nI 0)) c g lo (mnN R c))]) (rest := [.ref (V.1 rMod)]) C h X (hr 100 (by decide)) ((cel_hi (by decide)).trans (celF_Mod _)) rfl (c_X7_quorum l hr M (wr R rMod 19 (nI 0)) o c hc (leN (wr R rMod 19 (nI 0)) c g lo (mnN R c))) (cwV 2 C.2.2.2.2.1 gX7_lease_X7_quorum rfl rfl rfl (by decide +kernel) ⟨Nat.le_of_ble_eq_true rfl, Nat.le_of_ble_eq_true rfl⟩) rfl hl.1 rfl (Nat.le_of_ble_eq_true rfl) dX7_lease_149 ⟨by decide, by decide⟩) (fun _ _ z => z) (fun v_149 u_149 H locs hpo h => ?_)
                  obtain ⟨rfl, rfl⟩ := hpo
                  refine lv_iconst (v := (nI 3)) hx hy dX7_lease_152 (by decide) ?_
                  refine n_go0 C h (n_V (As := [.int (b2i (mQ (wr R rMod 19 (nI 0)) c (leN (wr R rMod 19 (nI 0)) c g lo (mnN R c)))), .int (nI 3)]) (rest := []) C h X (hr 100 (by decide)) ((cel_hi (by decide)).trans (celF_Mod _)) rfl (c_X7_no l hr M (wr R rMod 19 (nI 0)) o (mQ (wr R rMod 19 (nI 0)) c (leN (wr R rMod 19 (nI 0)) c g lo (mnN R c))) (nI 3)) (cwV 2 C.2.2.2.2.1 gX7_lease_X7_no rfl rfl rfl (by decide +kernel) ⟨Nat.le_of_ble_eq_true rfl, Nat.le_of_ble_eq_true rfl⟩) rfl hl.1 rfl (Nat.le_of_ble_eq_true rfl) dX7_lease_153 ⟨by decide, by decide⟩) (fun _ _ z => z) (fun v_153 u_153 H locs hpo h => ?_)
                  obtain ⟨rfl, rfl⟩ := hpo
                  refine b_eq hx hy (tgt := 161) dX7_lease_156 (by decide) (fun c_156 => ?_) (fun c_156 => ?_)
                  · skip
                    rw [noV_t c_156] at h
                    rw [wr_wr] at h
                    have hno_156 : mQ (wr R rMod 19 (nI 0)) c (leN (wr R rMod 19 (nI 0)) c g lo (mnN R c)) = true := not_ff c_156
                    refine lv_aload_n hx hy dX7_lease_161 rfl (lv_at hl 2 rfl) ?_
                    refine g_f C h (hr 100 (by decide)) (cel_hi (by decide)) celF_Mod rfl in_X7_lease_X7 18 (by decide) (by decide +kernel) (v := .int (R rMod 18)) (congrArg (fun z => some (Value.int z)) (show (wr R rMod 19 (nI 0)) rMod 18 = (R rMod 18) from (wr_othj (by decide)))) dX7_lease_162 ?_
                    refine lv_iload hx hy dX7_lease_165 (lv_at hl 6 rfl) ?_
                    refine lv_iadd hx hy dX7_lease_167 ?_
                    refine lv_istore (lv' := [(6, .int ((R rMod 18) + ti)), (5, .int (leN (wr R rMod 19 (nI 0)) c g lo (mnN R c))), (0, .ref (V.1 rMod)), (1, .int (nI lo)), (2, .int (nI c)), (3, .int (nI g)), (4, .int ti)]) hx hy dX7_lease_168 hl (by decide) rfl (fun ls hl => ?_)
                    refine lv_iconst (v := (nI 0)) hx hy dX7_lease_170 (by decide) ?_
                    refine lv_istore (lv' := [(7, .int (nI 0)), (6, .int ((R rMod 18) + ti)), (5, .int (leN (wr R rMod 19 (nI 0)) c g lo (mnN R c))), (0, .ref (V.1 rMod)), (1, .int (nI lo)), (2, .int (nI c)), (3, .int (nI g)), (4, .int ti)]) hx hy dX7_lease_171 hl (by decide) rfl (fun ls hl => ?_)
                    have L_173 : ∀ (n_173 t_2 : Nat), n_173 + t_2 = (mnN R c) → ∀ (H : Heap) (locs : List Loc), HH G V rs (M, lgN (wr R rMod 19 (nI 0)) c g lo (leN (wr R rMod 19 (nI 0)) c g lo (mnN R c)) ((R rMod 18) + ti) t_2, o) s H locs → ∀ ls : Array Slot, lv_has ls 9 [(7, .int (nI t_2)), (6, .int ((R rMod 18) + ti)), (5, .int (leN (wr R rMod 19 (nI 0)) c g lo (mnN R c))), (0, .ref (V.1 rMod)), (1, .int (nI lo)), (2, .int (nI c)), (3, .int (nI g)), (4, .int ti)] → W p l e { frames := 2, cells := 0, slots := 0, locals := 44 } s m [.ref (V.1 rMod), .int (nI lo), .int (nI c), .int (nI g), .int ti].toArray below meth cd H locs 0 0 (QM G V rs below [.ref (V.1 rMod), .int (nI lo), .int (nI c), .int (nI g), .int ti].toArray s 0 0 (fun v u => ∃ r, v = some (.int r) ∧ (kLeaseR R (nI lo) (nI c) (nI g) ti = 0 → r = mxR (R 110 ((cI (nI c) * 4 + cI (nI lo)) * 3 + cI (nI g))) (nowR R + ti)) ∧ u = (M, leaseR R (nI lo) (nI c) (nI g) ti, o)) (fun _ _ => False)) (F0 m 173 ls []) := by
                      intro n_173
                      induction n_173 with
                      | zero =>
                        intro t_2 hk_173 H locs h ls hl
                        have hz_173 : t_2 = (mnN R c) := by omega
                        try rw [hz_173] at h
                        try rw [hz_173] at hl
                        refine lv_iload hx hy dX7_lease_173 (lv_at hl 0 rfl) ?_
                        refine lv_aload_n hx hy dX7_lease_175 rfl (lv_at hl 3 rfl) ?_
                        refine g_f C h (hr 100 (by decide)) (cel_hi (by decide)) celF_Mod rfl in_X7_lease_X7 0 (by decide) (by decide +kernel) (v := .ref (V.1 101)) rfl dX7_lease_176 ?_
                        refine lv_iload_n hx hy dX7_lease_179 rfl (lv_at hl 5 rfl) ?_
                        refine g_i C h (hr 101 (by decide)) (n := 2) (k := c) (cel_hi (by decide)) (fun _ => rfl) (by omega) (by decide) (v := (nI (mnN R c))) (show (lgN (wr R rMod 19 (nI 0)) c g lo (leN (wr R rMod 19 (nI 0)) c g lo (mnN R c)) ((R rMod 18) + ti) (mnN R c)) 101 c = (nI (mnN R c)) from ((congrFun (lgN_ne (by decide) (by decide)) _).trans ((wr_othr (by decide)).trans (hmn c hc).1))) dX7_lease_180 ?_
                        refine n_ge hx hy (by omega) (by omega) (tgt := 255) dX7_lease_181 (by decide) (fun c_181 => ?_) (fun c_181 => ?_)
                        · skip
                          refine lv_iload_n hx hy dX7_lease_255 rfl (lv_at hl 5 rfl) ?_
                          refine lv_iconst (v := (nI 4)) hx hy dX7_lease_256 (by decide) ?_
                          refine lv_imul hx hy dX7_lease_257 ?_
                          refine lv_topn (pk_mul _ _) ?_
                          refine lv_iload_n hx hy dX7_lease_258 rfl (lv_at hl 4 rfl) ?_
                          refine lv_iadd hx hy dX7_lease_259 ?_
                          refine lv_topn (nI_add _ _) ?_
                          refine lv_iconst (v := (nI 3)) hx hy dX7_lease_260 (by decide) ?_
                          refine lv_imul hx hy dX7_lease_261 ?_
                          refine lv_topn (pk_mul _ _) ?_
                          refine lv_iload_n hx hy dX7_lease_262 rfl (lv_at hl 6 rfl) ?_
                          refine lv_iadd hx hy dX7_lease_263 ?_
                          refine lv_topn (nI_add _ _) ?_
                          refine lv_istore (lv' := [(7, .int (nI ((((c * 4) + lo) * 3) + g))), (6, .int ((R rMod 18) + ti)), (5, .int (leN (wr R rMod 19 (nI 0)) c g lo (mnN R c))), (0, .ref (V.1 rMod)), (1, .int (nI lo)), (2, .int (nI c)), (3, .int (nI g)), (4, .int ti)]) hx hy dX7_lease_264 hl (by decide) rfl (fun ls hl => ?_)
                          refine lv_aload_n hx hy dX7_lease_266 rfl (lv_at hl 3 rfl) ?_
                          refine g_f C h (hr 100 (by decide)) (cel_hi (by decide)) celF_Mod rfl in_X7_lease_X7 9 (by decide) (by decide +kernel) (v := .ref (V.1 110)) rfl dX7_lease_267 ?_
                          refine lv_iload hx hy dX7_lease_270 (lv_at hl 0 rfl) ?_
                          refine lv_aload_n hx hy dX7_lease_272 rfl (lv_at hl 3 rfl) ?_
                          refine g_f C h (hr 100 (by decide)) (cel_hi (by decide)) celF_Mod rfl in_X7_lease_X7 9 (by decide) (by decide +kernel) (v := .ref (V.1 110)) rfl dX7_lease_273 ?_
                          refine lv_iload hx hy dX7_lease_276 (lv_at hl 0 rfl) ?_
                          refine g_i C h (hr 110 (by decide)) (n := 24) (k := ((((c * 4) + lo) * 3) + g)) (cel_hi (by decide)) (fun _ => rfl) (by omega) (by decide) (v := (R 110 ((((c * 4) + lo) * 3) + g))) (show (lgN (wr R rMod 19 (nI 0)) c g lo (leN (wr R rMod 19 (nI 0)) c g lo (mnN R c)) ((R rMod 18) + ti) (mnN R c)) 110 ((((c * 4) + lo) * 3) + g) = (R 110 ((((c * 4) + lo) * 3) + g)) from ((congrFun (lgN_ne (by decide) (by decide)) _).trans (wr_othr (by decide)))) dX7_lease_278 ?_
                          refine lv_iload hx hy dX7_lease_279 (lv_at hl 1 rfl) ?_
                          refine i_le hx hy (tgt := 294) dX7_lease_281 (by decide) (fun c_281 => ?_) (fun c_281 => ?_)
                          · skip
                            refine lv_iload hx hy dX7_lease_294 (lv_at hl 1 rfl) ?_
                            refine s_iR C h (hr 110 (by decide)) (by decide) (n := 24) (k := ((((c * 4) + lo) * 3) + g)) (fun _ => rfl) (by omega) (by decide) (x := ((R rMod 18) + ti)) dX7_lease_296 (fun H locs h => ?_)
                            refine lv_aload_n hx hy dX7_lease_297 rfl (lv_at hl 3 rfl) ?_
                            refine g_f C h (hr 100 (by decide)) (cel_hi (by decide)) celF_Mod rfl in_X7_lease_X7 9 (by decide) (by decide +kernel) (v := .ref (V.1 110)) rfl dX7_lease_298 ?_
                            refine lv_iload hx hy dX7_lease_301 (lv_at hl 0 rfl) ?_
                            refine g_i C h (hr 110 (by decide)) (n := 24) (k := ((((c * 4) + lo) * 3) + g)) (cel_hi (by decide)) (fun _ => rfl) (by omega) (by decide) (v := ((R rMod 18) + ti)) (show (wr (lgN (wr R rMod 19 (nI 0)) c g lo (leN (wr R rMod 19 (nI 0)) c g lo (mnN R c)) ((R rMod 18) + ti) (mnN R c)) 110 ((((c * 4) + lo) * 3) + g) ((R rMod 18) + ti)) 110 ((((c * 4) + lo) * 3) + g) = ((R rMod 18) + ti) from (wr_same _ _ _ _)) dX7_lease_303 ?_
                            exact e_int C h rfl dX7_lease_304 (⟨_, rfl, by simp [kLeaseR, vR3, canR, mxR, hi_c, hv_c, hi_g, hv_g, hi_lo, hv_lo, hno_47, hno_156, c_5, c_12, c_19, c_31, c_47, eq_true c_71, eq_false (Nat.not_lt.mpr c_71), c_156, eq_true c_181, eq_false (Nat.not_lt.mpr c_181), eq_true c_281, eq_false (Int32.not_lt.mpr c_281), suR], by simp [kLeaseR, vR3, canR, mxR, leaseR, thr, suR, hi_c, hv_c, hi_g, hv_g, hi_lo, hv_lo, hno_47, hno_156, c_5, c_12, c_19, c_31, c_47, eq_true c_71, eq_false (Nat.not_lt.mpr c_71), c_156, eq_true c_181, eq_false (Nat.not_lt.mpr c_181), eq_true c_281, eq_false (Int32.not_lt.mpr c_281)]⟩) (by decide) (by decide)
                          · skip
                            refine lv_aload_n hx hy dX7_lease_284 rfl (lv_at hl 3 rfl) ?_
                            refine g_f C h (hr 100 (by decide)) (cel_hi (by decide)) celF_Mod rfl in_X7_lease_X7 9 (by decide) (by decide +kernel) (v := .ref (V.1 110)) rfl dX7_lease_285 ?_
                            refine lv_iload hx hy dX7_lease_288 (lv_at hl 0 rfl) ?_
                            refine g_i C h (hr 110 (by decide)) (n := 24) (k := ((((c * 4) + lo) * 3) + g)) (cel_hi (by decide)) (fun _ => rfl) (by omega) (by decide) (v := (R 110 ((((c * 4) + lo) * 3) + g))) (show (lgN (wr R rMod 19 (nI 0)) c g lo (leN (wr R rMod 19 (nI 0)) c g lo (mnN R c)) ((R rMod 18) + ti) (mnN R c)) 110 ((((c * 4) + lo) * 3) + g) = (R 110 ((((c * 4) + lo) * 3) + g)) from ((congrFun (lgN_ne (by decide) (by decide)) _).trans (wr_othr (by decide)))) dX7_lease_290 ?_
                            refine lv_goto (tgt := 296) hx hy dX7_lease_291 (by decide) ?_
                            refine s_iR C h (hr 110 (by decide)) (by decide) (n := 24) (k := ((((c * 4) + lo) * 3) + g)) (fun _ => rfl) (by omega) (by decide) (x := (R 110 ((((c * 4) + lo) * 3) + g))) dX7_lease_296 (fun H locs h => ?_)
                            refine lv_aload_n hx hy dX7_lease_297 rfl (lv_at hl 3 rfl) ?_
                            refine g_f C h (hr 100 (by decide)) (cel_hi (by decide)) celF_Mod rfl in_X7_lease_X7 9 (by decide) (by decide +kernel) (v := .ref (V.1 110)) rfl dX7_lease_298 ?_
                            refine lv_iload hx hy dX7_lease_301 (lv_at hl 0 rfl) ?_
                            refine g_i C h (hr 110 (by decide)) (n := 24) (k := ((((c * 4) + lo) * 3) + g)) (cel_hi (by decide)) (fun _ => rfl) (by omega) (by decide) (v := (R 110 ((((c * 4) + lo) * 3) + g))) (show (wr (lgN (wr R rMod 19 (nI 0)) c g lo (leN (wr R rMod 19 (nI 0)) c g lo (mnN R c)) ((R rMod 18) + ti) (mnN R c)) 110 ((((c * 4) + lo) * 3) + g) (R 110 ((((c * 4) + lo) * 3) + g))) 110 ((((c * 4) + lo) * 3) + g) = (R 110 ((((c * 4) + lo) * 3) + g)) from (wr_same _ _ _ _)) dX7_lease_303 ?_
                            exact e_int C h rfl dX7_lease_304 (⟨_, rfl, by simp [kLeaseR, vR3, canR, mxR, hi_c, hv_c, hi_g, hv_g, hi_lo, hv_lo, hno_47, hno_156, c_5, c_12, c_19, c_31, c_47, eq_true c_71, eq_false (Nat.not_lt.mpr c_71), c_156, eq_true c_181, eq_false (Nat.not_lt.mpr c_181), eq_true c_281, eq_false (Int32.not_le.mpr c_281), suR], by simp [kLeaseR, vR3, canR, mxR, leaseR, thr, suR, hi_c, hv_c, hi_g, hv_g, hi_lo, hv_lo, hno_47, hno_156, c_5, c_12, c_19, c_31, c_47, eq_true c_71, eq_false (Nat.not_lt.mpr c_71), c_156, eq_true c_181, eq_false (Nat.not_lt.mpr c_181), eq_true c_281, eq_false (Int32.not_le.mpr c_281)]⟩) (by decide) (by decide)
                        · skip
                          exact absurd c_181 (by omega)
                      | succ n_173 ih_173 =>
                        intro t_2 hk_173 H locs h ls hl
                        have hz_173 : t_2 < (mnN R c) := by omega
                        refine lv_iload hx hy dX7_lease_173 (lv_at hl 0 rfl) ?_
                        refine lv_aload_n hx hy dX7_lease_175 rfl (lv_at hl 3 rfl) ?_
                        refine g_f C h (hr 100 (by decide)) (cel_hi (by decide)) celF_Mod rfl in_X7_lease_X7 0 (by decide) (by decide +kernel) (v := .ref (V.1 101)) rfl dX7_lease_176 ?_
                        refine lv_iload_n hx hy dX7_lease_179 rfl (lv_at hl 5 rfl) ?_
                        refine g_i C h (hr 101 (by decide)) (n := 2) (k := c) (cel_hi (by decide)) (fun _ => rfl) (by omega) (by decide) (v := (nI (mnN R c))) (show (lgN (wr R rMod 19 (nI 0)) c g lo (leN (wr R rMod 19 (nI 0)) c g lo (mnN R c)) ((R rMod 18) + ti) t_2) 101 c = (nI (mnN R c)) from ((congrFun (lgN_ne (by decide) (by decide)) _).trans ((wr_othr (by decide)).trans (hmn c hc).1))) dX7_lease_180 ?_
                        refine n_ge hx hy (by omega) (by omega) (tgt := 255) dX7_lease_181 (by decide) (fun c_181 => ?_) (fun c_181 => ?_)
                        · skip
                          exact absurd c_181 (by omega)
                        · skip
                          refine lv_iload_n hx hy dX7_lease_184 rfl (lv_at hl 5 rfl) ?_
                          refine lv_bipush (v := (nI 7)) hx hy dX7_lease_185 (by decide) ?_
                          refine lv_imul hx hy dX7_lease_187 ?_
                          refine lv_topn (pk_mul _ _) ?_
                          refine lv_iload hx hy dX7_lease_188 (lv_at hl 0 rfl) ?_
                          refine lv_iadd hx hy dX7_lease_190 ?_
                          refine lv_topn (nI_add _ _) ?_
                          refine lv_iconst (v := (nI 3)) hx hy dX7_lease_191 (by decide) ?_
                          refine lv_imul hx hy dX7_lease_192 ?_
                          refine lv_topn (pk_mul _ _) ?_
                          refine lv_iload_n hx hy dX7_lease_193 rfl (lv_at hl 6 rfl) ?_
                          refine lv_iadd hx hy dX7_lease_194 ?_
                          refine lv_topn (nI_add _ _) ?_
                          refine lv_istore (lv' := [(8, .int (nI ((((c * 7) + t_2) * 3) + g))), (7, .int (nI t_2)), (6, .int ((R rMod 18) + ti)), (5, .int (leN (wr R rMod 19 (nI 0)) c g lo (mnN R c))), (0, .ref (V.1 rMod)), (1, .int (nI lo)), (2, .int (nI c)), (3, .int (nI g)), (4, .int ti)]) hx hy dX7_lease_195 hl (by decide) rfl (fun ls hl => ?_)
                          refine lv_iload hx hy dX7_lease_197 (lv_at hl 3 rfl) ?_
                          refine lv_iload hx hy dX7_lease_199 (lv_at hl 1 rfl) ?_
                          refine lv_ishr hx hy dX7_lease_201 ?_
                          refine lv_iconst (v := (nI 1)) hx hy dX7_lease_202 (by decide) ?_
                          refine lv_iand hx hy dX7_lease_203 ?_
                          refine z_ne hx hy (tgt := 210) dX7_lease_204 (by decide) (fun c_204 => ?_) (fun c_204 => ?_)
                          · skip
                            refine lv_aload_n hx hy dX7_lease_210 rfl (lv_at hl 4 rfl) ?_
                            refine g_f C h (hr 100 (by decide)) (cel_hi (by decide)) celF_Mod rfl in_X7_lease_X7 8 (by decide) (by decide +kernel) (v := .ref (V.1 109)) rfl dX7_lease_211 ?_
                            refine lv_iload hx hy dX7_lease_214 (lv_at hl 0 rfl) ?_
                            refine lv_aload_n hx hy dX7_lease_216 rfl (lv_at hl 4 rfl) ?_
                            refine g_f C h (hr 100 (by decide)) (cel_hi (by decide)) celF_Mod rfl in_X7_lease_X7 8 (by decide) (by decide +kernel) (v := .ref (V.1 109)) rfl dX7_lease_217 ?_
                            refine lv_iload hx hy dX7_lease_220 (lv_at hl 0 rfl) ?_
                            refine g_i C h (hr 109 (by decide)) (n := 42) (k := ((((c * 7) + t_2) * 3) + g)) (cel_hi (by decide)) (fun _ => rfl) (by omega) (by decide) (v := (R 109 ((c * 7 + t_2) * 3 + g))) (show (lgN (wr R rMod 19 (nI 0)) c g lo (leN (wr R rMod 19 (nI 0)) c g lo (mnN R c)) ((R rMod 18) + ti) t_2) 109 ((((c * 7) + t_2) * 3) + g) = (R 109 ((c * 7 + t_2) * 3 + g)) from ((lgN_at (Nat.le_refl _)).trans (wr_othr (by decide)))) dX7_lease_222 ?_
                            refine lv_iload hx hy dX7_lease_223 (lv_at hl 2 rfl) ?_
                            refine i_le hx hy (tgt := 238) dX7_lease_225 (by decide) (fun c_225 => ?_) (fun c_225 => ?_)
                            · skip
                              refine lv_iload hx hy dX7_lease_238 (lv_at hl 2 rfl) ?_
                              refine s_iR C h (hr 109 (by decide)) (by decide) (n := 42) (k := ((((c * 7) + t_2) * 3) + g)) (fun _ => rfl) (by omega) (by decide) (x := ((R rMod 18) + ti)) dX7_lease_240 (fun H locs h => ?_)
                              refine lv_aload_n hx hy dX7_lease_241 rfl (lv_at hl 4 rfl) ?_
                              refine g_f C h (hr 100 (by decide)) (cel_hi (by decide)) celF_Mod rfl in_X7_lease_X7 7 (by decide) (by decide +kernel) (v := .ref (V.1 108)) rfl dX7_lease_242 ?_
                              refine lv_iload hx hy dX7_lease_245 (lv_at hl 0 rfl) ?_
                              refine lv_iload_n hx hy dX7_lease_247 rfl (lv_at hl 5 rfl) ?_
                              refine s_iR C h (hr 108 (by decide)) (by decide) (n := 42) (k := ((((c * 7) + t_2) * 3) + g)) (fun _ => rfl) (by omega) (by decide) (x := (nI lo)) dX7_lease_248 (fun H locs h => ?_)
                              refine lv_iinc (v := (nI (t_2 + 1))) (lv' := [(7, .int (nI (t_2 + 1))), (8, .int (nI ((((c * 7) + t_2) * 3) + g))), (6, .int ((R rMod 18) + ti)), (5, .int (leN (wr R rMod 19 (nI 0)) c g lo (mnN R c))), (0, .ref (V.1 rMod)), (1, .int (nI lo)), (2, .int (nI c)), (3, .int (nI g)), (4, .int ti)]) hx hy dX7_lease_249 hl (k := 1) rfl (nI_1 _) (by decide) rfl (fun ls hl => ?_)
                              refine lv_goto (tgt := 173) hx hy dX7_lease_252 (by decide) ?_
                              exact ih_173 (t_2 + 1) (by omega) _ _ (by rw [show ((M, lgN (wr R rMod 19 (nI 0)) c g lo (leN (wr R rMod 19 (nI 0)) c g lo (mnN R c)) ((R rMod 18) + ti) (t_2 + 1), o) : wW) = (M, wr (wr (lgN (wr R rMod 19 (nI 0)) c g lo (leN (wr R rMod 19 (nI 0)) c g lo (mnN R c)) ((R rMod 18) + ti) t_2) 109 ((((c * 7) + t_2) * 3) + g) ((R rMod 18) + ti)) 108 ((((c * 7) + t_2) * 3) + g) (nI lo), o) from by simp [lgN, bitI, mxR, (show ∀ j, wr R rMod 19 (nI 0) 109 j = R 109 j from fun _ => rfl), c_5, c_12, c_19, c_31, c_47, eq_true c_71, eq_false (Nat.not_lt.mpr c_71), c_156, eq_true c_181, eq_false (Nat.not_le.mpr c_181), eq_false c_204, eq_true c_225, eq_false (Int32.not_lt.mpr c_225)]]; exact h) _ (by have hl := lv_sub hl [0, 2, 3, 4, 5, 6, 7, 8] (l' := [(7, .int (nI (t_2 + 1))), (6, .int ((R rMod 18) + ti)), (5, .int (leN (wr R rMod 19 (nI 0)) c g lo (mnN R c))), (0, .ref (V.1 rMod)), (1, .int (nI lo)), (2, .int (nI c)), (3, .int (nI g)), (4, .int ti)]) rfl; rw [show (.int (nI (t_2 + 1)) : Value) = .int (nI (t_2 + 1)) from rfl] at hl; exact hl)
                            · skip
                              refine lv_aload_n hx hy dX7_lease_228 rfl (lv_at hl 4 rfl) ?_
                              refine g_f C h (hr 100 (by decide)) (cel_hi (by decide)) celF_Mod rfl in_X7_lease_X7 8 (by decide) (by decide +kernel) (v := .ref (V.1 109)) rfl dX7_lease_229 ?_
                              refine lv_iload hx hy dX7_lease_232 (lv_at hl 0 rfl) ?_
                              refine g_i C h (hr 109 (by decide)) (n := 42) (k := ((((c * 7) + t_2) * 3) + g)) (cel_hi (by decide)) (fun _ => rfl) (by omega) (by decide) (v := (R 109 ((c * 7 + t_2) * 3 + g))) (show (lgN (wr R rMod 19 (nI 0)) c g lo (leN (wr R rMod 19 (nI 0)) c g lo (mnN R c)) ((R rMod 18) + ti) t_2) 109 ((((c * 7) + t_2) * 3) + g) = (R 109 ((c * 7 + t_2) * 3 + g)) from ((lgN_at (Nat.le_refl _)).trans (wr_othr (by decide)))) dX7_lease_234 ?_
                              refine lv_goto (tgt := 240) hx hy dX7_lease_235 (by decide) ?_
                              refine s_iR C h (hr 109 (by decide)) (by decide) (n := 42) (k := ((((c * 7) + t_2) * 3) + g)) (fun _ => rfl) (by omega) (by decide) (x := (R 109 ((c * 7 + t_2) * 3 + g))) dX7_lease_240 (fun H locs h => ?_)
                              refine lv_aload_n hx hy dX7_lease_241 rfl (lv_at hl 4 rfl) ?_
                              refine g_f C h (hr 100 (by decide)) (cel_hi (by decide)) celF_Mod rfl in_X7_lease_X7 7 (by decide) (by decide +kernel) (v := .ref (V.1 108)) rfl dX7_lease_242 ?_
                              refine lv_iload hx hy dX7_lease_245 (lv_at hl 0 rfl) ?_
                              refine lv_iload_n hx hy dX7_lease_247 rfl (lv_at hl 5 rfl) ?_
                              refine s_iR C h (hr 108 (by decide)) (by decide) (n := 42) (k := ((((c * 7) + t_2) * 3) + g)) (fun _ => rfl) (by omega) (by decide) (x := (nI lo)) dX7_lease_248 (fun H locs h => ?_)
                              refine lv_iinc (v := (nI (t_2 + 1))) (lv' := [(7, .int (nI (t_2 + 1))), (8, .int (nI ((((c * 7) + t_2) * 3) + g))), (6, .int ((R rMod 18) + ti)), (5, .int (leN (wr R rMod 19 (nI 0)) c g lo (mnN R c))), (0, .ref (V.1 rMod)), (1, .int (nI lo)), (2, .int (nI c)), (3, .int (nI g)), (4, .int ti)]) hx hy dX7_lease_249 hl (k := 1) rfl (nI_1 _) (by decide) rfl (fun ls hl => ?_)
                              refine lv_goto (tgt := 173) hx hy dX7_lease_252 (by decide) ?_
                              exact ih_173 (t_2 + 1) (by omega) _ _ (by rw [show ((M, lgN (wr R rMod 19 (nI 0)) c g lo (leN (wr R rMod 19 (nI 0)) c g lo (mnN R c)) ((R rMod 18) + ti) (t_2 + 1), o) : wW) = (M, wr (wr (lgN (wr R rMod 19 (nI 0)) c g lo (leN (wr R rMod 19 (nI 0)) c g lo (mnN R c)) ((R rMod 18) + ti) t_2) 109 ((((c * 7) + t_2) * 3) + g) (R 109 ((c * 7 + t_2) * 3 + g))) 108 ((((c * 7) + t_2) * 3) + g) (nI lo), o) from by simp [lgN, bitI, mxR, (show ∀ j, wr R rMod 19 (nI 0) 109 j = R 109 j from fun _ => rfl), c_5, c_12, c_19, c_31, c_47, eq_true c_71, eq_false (Nat.not_lt.mpr c_71), c_156, eq_true c_181, eq_false (Nat.not_le.mpr c_181), eq_false c_204, eq_true c_225, eq_false (Int32.not_le.mpr c_225)]]; exact h) _ (by have hl := lv_sub hl [0, 2, 3, 4, 5, 6, 7, 8] (l' := [(7, .int (nI (t_2 + 1))), (6, .int ((R rMod 18) + ti)), (5, .int (leN (wr R rMod 19 (nI 0)) c g lo (mnN R c))), (0, .ref (V.1 rMod)), (1, .int (nI lo)), (2, .int (nI c)), (3, .int (nI g)), (4, .int ti)]) rfl; rw [show (.int (nI (t_2 + 1)) : Value) = .int (nI (t_2 + 1)) from rfl] at hl; exact hl)
                          · skip
                            refine lv_goto (tgt := 249) hx hy dX7_lease_207 (by decide) ?_
                            refine lv_iinc (v := (nI (t_2 + 1))) (lv' := [(7, .int (nI (t_2 + 1))), (8, .int (nI ((((c * 7) + t_2) * 3) + g))), (6, .int ((R rMod 18) + ti)), (5, .int (leN (wr R rMod 19 (nI 0)) c g lo (mnN R c))), (0, .ref (V.1 rMod)), (1, .int (nI lo)), (2, .int (nI c)), (3, .int (nI g)), (4, .int ti)]) hx hy dX7_lease_249 hl (k := 1) rfl (nI_1 _) (by decide) rfl (fun ls hl => ?_)
                            refine lv_goto (tgt := 173) hx hy dX7_lease_252 (by decide) ?_
                            exact ih_173 (t_2 + 1) (by omega) _ _ (by rw [show ((M, lgN (wr R rMod 19 (nI 0)) c g lo (leN (wr R rMod 19 (nI 0)) c g lo (mnN R c)) ((R rMod 18) + ti) (t_2 + 1), o) : wW) = (M, lgN (wr R rMod 19 (nI 0)) c g lo (leN (wr R rMod 19 (nI 0)) c g lo (mnN R c)) ((R rMod 18) + ti) t_2, o) from by simp [lgN, bitI, mxR, (show ∀ j, wr R rMod 19 (nI 0) 109 j = R 109 j from fun _ => rfl), c_5, c_12, c_19, c_31, c_47, eq_true c_71, eq_false (Nat.not_lt.mpr c_71), c_156, eq_true c_181, eq_false (Nat.not_le.mpr c_181), eq_true c_204]]; exact h) _ (by have hl := lv_sub hl [0, 2, 3, 4, 5, 6, 7, 8] (l' := [(7, .int (nI (t_2 + 1))), (6, .int ((R rMod 18) + ti)), (5, .int (leN (wr R rMod 19 (nI 0)) c g lo (mnN R c))), (0, .ref (V.1 rMod)), (1, .int (nI lo)), (2, .int (nI c)), (3, .int (nI g)), (4, .int ti)]) rfl; rw [show (.int (nI (t_2 + 1)) : Value) = .int (nI (t_2 + 1)) from rfl] at hl; exact hl)
                    exact L_173 ((mnN R c)) 0 (by omega) _ _ (by rw [show (M, lgN (wr R rMod 19 (nI 0)) c g lo (leN (wr R rMod 19 (nI 0)) c g lo (mnN R c)) ((R rMod 18) + ti) 0, o) = (M, wr R rMod 19 (nI 0), o) from rfl]; exact h) _ (lv_sub hl [0, 1, 2, 3, 4, 5, 6, 7] rfl)
                  · skip
                    rw [noV_f c_156] at h
                    rw [wr_wr] at h
                    have hno_156 : mQ (wr R rMod 19 (nI 0)) c (leN (wr R rMod 19 (nI 0)) c g lo (mnN R c)) = false := not_tt c_156
                    refine lv_iconst (v := (nI 0)) hx hy dX7_lease_159 (by decide) ?_
                    exact e_int C h rfl dX7_lease_160 (⟨_, rfl, by simp [kLeaseR, vR3, canR, mxR, hi_c, hv_c, hi_g, hv_g, hi_lo, hv_lo, hno_47, hno_156, c_5, c_12, c_19, c_31, c_47, eq_true c_71, eq_false (Nat.not_lt.mpr c_71), c_156, suR], by simp [kLeaseR, vR3, canR, mxR, leaseR, thr, suR, hi_c, hv_c, hi_g, hv_g, hi_lo, hv_lo, hno_47, hno_156, c_5, c_12, c_19, c_31, c_47, eq_true c_71, eq_false (Nat.not_lt.mpr c_71), c_156]⟩) (by decide) (by decide)
                · skip
                  exact absurd c_71 (by omega)
              | succ n_63 ih_63 =>
                intro t hk_63 H locs h ls hl
                have hz_63 : t < (mnN R c) := by omega
                refine lv_iload hx hy dX7_lease_63 (lv_at hl 0 rfl) ?_
                refine lv_aload_n hx hy dX7_lease_65 rfl (lv_at hl 2 rfl) ?_
                refine g_f C h (hr 100 (by decide)) (cel_hi (by decide)) celF_Mod rfl in_X7_lease_X7 0 (by decide) (by decide +kernel) (v := .ref (V.1 101)) rfl dX7_lease_66 ?_
                refine lv_iload_n hx hy dX7_lease_69 rfl (lv_at hl 4 rfl) ?_
                refine g_i C h (hr 101 (by decide)) (n := 2) (k := c) (cel_hi (by decide)) (fun _ => rfl) (by omega) (by decide) (v := (nI (mnN R c))) (show (wr R rMod 19 (nI 0)) 101 c = (nI (mnN R c)) from ((wr_othr (by decide)).trans (hmn c hc).1)) dX7_lease_70 ?_
                refine n_ge hx hy (by omega) (by omega) (tgt := 144) dX7_lease_71 (by decide) (fun c_71 => ?_) (fun c_71 => ?_)
                · skip
                  exact absurd c_71 (by omega)
                · skip
                  refine lv_aload_n hx hy dX7_lease_74 rfl (lv_at hl 2 rfl) ?_
                  refine lv_iload_n hx hy dX7_lease_75 rfl (lv_at hl 4 rfl) ?_
                  refine lv_iload hx hy dX7_lease_76 (lv_at hl 0 rfl) ?_
                  refine lv_iload_n hx hy dX7_lease_78 rfl (lv_at hl 5 rfl) ?_
                  refine n_go0 C h (n_V (As := [.int (nI c), .int (nI t), .int (nI g)]) (rest := []) C h X (hr 100 (by decide)) ((cel_hi (by decide)).trans (celF_Mod _)) rfl (c_X7_votes l hr M (wr R rMod 19 (nI 0)) o c hc t (by omega) g hg) (cwV 3 C.2.2.2.2.1 gX7_lease_X7_votes rfl rfl rfl (by decide +kernel) ⟨Nat.le_of_ble_eq_true rfl, Nat.le_of_ble_eq_true rfl⟩) rfl hl.1 rfl (Nat.le_of_ble_eq_true rfl) dX7_lease_79 ⟨by decide, by decide⟩) (fun _ _ z => z) (fun v_79 u_79 H locs hpo h => ?_)
                  obtain ⟨rfl, rfl⟩ := hpo
                  refine b_eq hx hy (tgt := 109) dX7_lease_82 (by decide) (fun c_82 => ?_) (fun c_82 => ?_)
                  · skip
                    refine lv_iconst (v := (nI 0)) hx hy dX7_lease_109 (by decide) ?_
                    refine lv_istore (lv' := [(7, .int (nI 0)), (6, .int (nI t)), (5, .int (leN (wr R rMod 19 (nI 0)) c g lo t)), (0, .ref (V.1 rMod)), (1, .int (nI lo)), (2, .int (nI c)), (3, .int (nI g)), (4, .int ti)]) hx hy dX7_lease_110 hl (by decide) rfl (fun ls hl => ?_)
                    refine lv_aload_n hx hy dX7_lease_112 rfl (lv_at hl 3 rfl) ?_
                    refine lv_iload_n hx hy dX7_lease_113 rfl (lv_at hl 5 rfl) ?_
                    refine lv_iload hx hy dX7_lease_114 (lv_at hl 1 rfl) ?_
                    refine n_go0 C h (n_V (As := [.int (nI c), .int (nI t)]) (rest := []) C h X (hr 100 (by decide)) ((cel_hi (by decide)).trans (celF_Mod _)) rfl (c_X7_rests l hr M (wr R rMod 19 (nI 0)) o c hc t (by omega)) (cwV 2 C.2.2.2.2.1 gX7_lease_X7_rests rfl rfl rfl (by decide +kernel) ⟨Nat.le_of_ble_eq_true rfl, Nat.le_of_ble_eq_true rfl⟩) rfl hl.1 rfl (Nat.le_of_ble_eq_true rfl) dX7_lease_116 ⟨by decide, by decide⟩) (fun _ _ z => z) (fun v_116 u_116 H locs hpo h => ?_)
                    obtain ⟨rfl, rfl⟩ := hpo
                    refine b_ne hx hy (tgt := 127) dX7_lease_119 (by decide) (fun c_119 => ?_) (fun c_119 => ?_)
                    · skip
                      refine lv_iload hx hy dX7_lease_127 (lv_at hl 2 rfl) ?_
                      refine lv_iconst (v := (nI 1)) hx hy dX7_lease_129 (by decide) ?_
                      refine lv_iload hx hy dX7_lease_130 (lv_at hl 1 rfl) ?_
                      refine lv_ishl hx hy dX7_lease_132 ?_
                      refine lv_iconst (v := (-1)) hx hy dX7_lease_133 (by decide) ?_
                      refine lv_ixor hx hy dX7_lease_134 ?_
                      refine lv_iand hx hy dX7_lease_135 ?_
                      refine lv_istore (lv' := [(5, .int ((leN (wr R rMod 19 (nI 0)) c g lo t) &&& (((nI 1) <<< ((nI t) &&& 31)) ^^^ (-1)))), (7, .int (nI 0)), (6, .int (nI t)), (0, .ref (V.1 rMod)), (1, .int (nI lo)), (2, .int (nI c)), (3, .int (nI g)), (4, .int ti)]) hx hy dX7_lease_136 hl (by decide) rfl (fun ls hl => ?_)
                      refine lv_iinc (v := (nI (t + 1))) (lv' := [(6, .int (nI (t + 1))), (5, .int ((leN (wr R rMod 19 (nI 0)) c g lo t) &&& (((nI 1) <<< ((nI t) &&& 31)) ^^^ (-1)))), (7, .int (nI 0)), (0, .ref (V.1 rMod)), (1, .int (nI lo)), (2, .int (nI c)), (3, .int (nI g)), (4, .int ti)]) hx hy dX7_lease_138 hl (k := 2) rfl (nI_1 _) (by decide) rfl (fun ls hl => ?_)
                      refine lv_goto (tgt := 63) hx hy dX7_lease_141 (by decide) ?_
                      exact ih_63 (t + 1) (by omega) _ _ h _ (by have hl := lv_sub hl [0, 1, 3, 4, 5, 6, 7] (l' := [(6, .int (nI (t + 1))), (5, .int ((leN (wr R rMod 19 (nI 0)) c g lo t) &&& (((nI 1) <<< ((nI t) &&& 31)) ^^^ (-1)))), (0, .ref (V.1 rMod)), (1, .int (nI lo)), (2, .int (nI c)), (3, .int (nI g)), (4, .int ti)]) rfl; rw [show (.int (nI (t + 1)) : Value) = .int (nI (t + 1)) from rfl] at hl; rw [show (.int ((leN (wr R rMod 19 (nI 0)) c g lo t) &&& (((nI 1) <<< ((nI t) &&& 31)) ^^^ (-1))) : Value) = .int (leN (wr R rMod 19 (nI 0)) c g lo (t + 1)) from by simp [leN, mOth, clB, (show ∀ j, wr R rMod 19 (nI 0) 108 j = R 108 j from fun _ => rfl), c_5, c_12, c_19, c_31, c_47, eq_true c_71, eq_false (Nat.not_le.mpr c_71), c_82, c_119]] at hl; exact hl)
                    · skip
                      refine lv_iload hx hy dX7_lease_122 (lv_at hl 0 rfl) ?_
                      refine nz_eq hx hy (by omega) (tgt := 138) dX7_lease_124 (by decide) (fun c_124 => ?_) (fun c_124 => ?_)
                      · skip
                        refine lv_iinc (v := (nI (t + 1))) (lv' := [(6, .int (nI (t + 1))), (7, .int (nI 0)), (5, .int (leN (wr R rMod 19 (nI 0)) c g lo t)), (0, .ref (V.1 rMod)), (1, .int (nI lo)), (2, .int (nI c)), (3, .int (nI g)), (4, .int ti)]) hx hy dX7_lease_138 hl (k := 1) rfl (nI_1 _) (by decide) rfl (fun ls hl => ?_)
                        refine lv_goto (tgt := 63) hx hy dX7_lease_141 (by decide) ?_
                        exact ih_63 (t + 1) (by omega) _ _ h _ (by have hl := lv_sub hl [0, 2, 3, 4, 5, 6, 7] (l' := [(6, .int (nI (t + 1))), (5, .int (leN (wr R rMod 19 (nI 0)) c g lo t)), (0, .ref (V.1 rMod)), (1, .int (nI lo)), (2, .int (nI c)), (3, .int (nI g)), (4, .int ti)]) rfl; rw [show (.int (nI (t + 1)) : Value) = .int (nI (t + 1)) from rfl] at hl; rw [show (.int (leN (wr R rMod 19 (nI 0)) c g lo t) : Value) = .int (leN (wr R rMod 19 (nI 0)) c g lo (t + 1)) from by simp [leN, mOth, clB, (show ∀ j, wr R rMod 19 (nI 0) 108 j = R 108 j from fun _ => rfl), c_5, c_12, c_19, c_31, c_47, eq_true c_71, eq_false (Nat.not_le.mpr c_71), c_82, c_119, eq_true c_124]] at hl; exact hl)
                      · skip
                        exact absurd c_124 (by decide)
                  · skip
                    refine lv_aload_n hx hy dX7_lease_85 rfl (lv_at hl 2 rfl) ?_
                    refine g_f C h (hr 100 (by decide)) (cel_hi (by decide)) celF_Mod rfl in_X7_lease_X7 7 (by decide) (by decide +kernel) (v := .ref (V.1 108)) rfl dX7_lease_86 ?_
                    refine lv_iload_n hx hy dX7_lease_89 rfl (lv_at hl 4 rfl) ?_
                    refine lv_bipush (v := (nI 7)) hx hy dX7_lease_90 (by decide) ?_
                    refine lv_imul hx hy dX7_lease_92 ?_
                    refine lv_topn (pk_mul _ _) ?_
                    refine lv_iload hx hy dX7_lease_93 (lv_at hl 0 rfl) ?_
                    refine lv_iadd hx hy dX7_lease_95 ?_
                    refine lv_topn (nI_add _ _) ?_
                    refine lv_iconst (v := (nI 3)) hx hy dX7_lease_96 (by decide) ?_
                    refine lv_imul hx hy dX7_lease_97 ?_
                    refine lv_topn (pk_mul _ _) ?_
                    refine lv_iload_n hx hy dX7_lease_98 rfl (lv_at hl 5 rfl) ?_
                    refine lv_iadd hx hy dX7_lease_99 ?_
                    refine lv_topn (nI_add _ _) ?_
                    refine g_i C h (hr 108 (by decide)) (n := 42) (k := ((((c * 7) + t) * 3) + g)) (cel_hi (by decide)) (fun _ => rfl) (by omega) (by decide) (v := (R 108 ((((c * 7) + t) * 3) + g))) (show (wr R rMod 19 (nI 0)) 108 ((((c * 7) + t) * 3) + g) = (R 108 ((((c * 7) + t) * 3) + g)) from (wr_othr (by decide))) dX7_lease_100 ?_
                    refine lv_iload_n hx hy dX7_lease_101 rfl (lv_at hl 3 rfl) ?_
                    refine i_eq hx hy (tgt := 109) dX7_lease_102 (by decide) (fun c_102 => ?_) (fun c_102 => ?_)
                    · skip
                      refine lv_iconst (v := (nI 0)) hx hy dX7_lease_109 (by decide) ?_
                      refine lv_istore (lv' := [(7, .int (nI 0)), (6, .int (nI t)), (5, .int (leN (wr R rMod 19 (nI 0)) c g lo t)), (0, .ref (V.1 rMod)), (1, .int (nI lo)), (2, .int (nI c)), (3, .int (nI g)), (4, .int ti)]) hx hy dX7_lease_110 hl (by decide) rfl (fun ls hl => ?_)
                      refine lv_aload_n hx hy dX7_lease_112 rfl (lv_at hl 3 rfl) ?_
                      refine lv_iload_n hx hy dX7_lease_113 rfl (lv_at hl 5 rfl) ?_
                      refine lv_iload hx hy dX7_lease_114 (lv_at hl 1 rfl) ?_
                      refine n_go0 C h (n_V (As := [.int (nI c), .int (nI t)]) (rest := []) C h X (hr 100 (by decide)) ((cel_hi (by decide)).trans (celF_Mod _)) rfl (c_X7_rests l hr M (wr R rMod 19 (nI 0)) o c hc t (by omega)) (cwV 2 C.2.2.2.2.1 gX7_lease_X7_rests rfl rfl rfl (by decide +kernel) ⟨Nat.le_of_ble_eq_true rfl, Nat.le_of_ble_eq_true rfl⟩) rfl hl.1 rfl (Nat.le_of_ble_eq_true rfl) dX7_lease_116 ⟨by decide, by decide⟩) (fun _ _ z => z) (fun v_116 u_116 H locs hpo h => ?_)
                      obtain ⟨rfl, rfl⟩ := hpo
                      refine b_ne hx hy (tgt := 127) dX7_lease_119 (by decide) (fun c_119 => ?_) (fun c_119 => ?_)
                      · skip
                        refine lv_iload hx hy dX7_lease_127 (lv_at hl 2 rfl) ?_
                        refine lv_iconst (v := (nI 1)) hx hy dX7_lease_129 (by decide) ?_
                        refine lv_iload hx hy dX7_lease_130 (lv_at hl 1 rfl) ?_
                        refine lv_ishl hx hy dX7_lease_132 ?_
                        refine lv_iconst (v := (-1)) hx hy dX7_lease_133 (by decide) ?_
                        refine lv_ixor hx hy dX7_lease_134 ?_
                        refine lv_iand hx hy dX7_lease_135 ?_
                        refine lv_istore (lv' := [(5, .int ((leN (wr R rMod 19 (nI 0)) c g lo t) &&& (((nI 1) <<< ((nI t) &&& 31)) ^^^ (-1)))), (7, .int (nI 0)), (6, .int (nI t)), (0, .ref (V.1 rMod)), (1, .int (nI lo)), (2, .int (nI c)), (3, .int (nI g)), (4, .int ti)]) hx hy dX7_lease_136 hl (by decide) rfl (fun ls hl => ?_)
                        refine lv_iinc (v := (nI (t + 1))) (lv' := [(6, .int (nI (t + 1))), (5, .int ((leN (wr R rMod 19 (nI 0)) c g lo t) &&& (((nI 1) <<< ((nI t) &&& 31)) ^^^ (-1)))), (7, .int (nI 0)), (0, .ref (V.1 rMod)), (1, .int (nI lo)), (2, .int (nI c)), (3, .int (nI g)), (4, .int ti)]) hx hy dX7_lease_138 hl (k := 2) rfl (nI_1 _) (by decide) rfl (fun ls hl => ?_)
                        refine lv_goto (tgt := 63) hx hy dX7_lease_141 (by decide) ?_
                        exact ih_63 (t + 1) (by omega) _ _ h _ (by have hl := lv_sub hl [0, 1, 3, 4, 5, 6, 7] (l' := [(6, .int (nI (t + 1))), (5, .int ((leN (wr R rMod 19 (nI 0)) c g lo t) &&& (((nI 1) <<< ((nI t) &&& 31)) ^^^ (-1)))), (0, .ref (V.1 rMod)), (1, .int (nI lo)), (2, .int (nI c)), (3, .int (nI g)), (4, .int ti)]) rfl; rw [show (.int (nI (t + 1)) : Value) = .int (nI (t + 1)) from rfl] at hl; rw [show (.int ((leN (wr R rMod 19 (nI 0)) c g lo t) &&& (((nI 1) <<< ((nI t) &&& 31)) ^^^ (-1))) : Value) = .int (leN (wr R rMod 19 (nI 0)) c g lo (t + 1)) from by simp [leN, mOth, clB, (show ∀ j, wr R rMod 19 (nI 0) 108 j = R 108 j from fun _ => rfl), c_5, c_12, c_19, c_31, c_47, eq_true c_71, eq_false (Nat.not_le.mpr c_71), c_82, eq_true c_102, c_119]] at hl; exact hl)
                      · skip
                        refine lv_iload hx hy dX7_lease_122 (lv_at hl 0 rfl) ?_
                        refine nz_eq hx hy (by omega) (tgt := 138) dX7_lease_124 (by decide) (fun c_124 => ?_) (fun c_124 => ?_)
                        · skip
                          refine lv_iinc (v := (nI (t + 1))) (lv' := [(6, .int (nI (t + 1))), (7, .int (nI 0)), (5, .int (leN (wr R rMod 19 (nI 0)) c g lo t)), (0, .ref (V.1 rMod)), (1, .int (nI lo)), (2, .int (nI c)), (3, .int (nI g)), (4, .int ti)]) hx hy dX7_lease_138 hl (k := 1) rfl (nI_1 _) (by decide) rfl (fun ls hl => ?_)
                          refine lv_goto (tgt := 63) hx hy dX7_lease_141 (by decide) ?_
                          exact ih_63 (t + 1) (by omega) _ _ h _ (by have hl := lv_sub hl [0, 2, 3, 4, 5, 6, 7] (l' := [(6, .int (nI (t + 1))), (5, .int (leN (wr R rMod 19 (nI 0)) c g lo t)), (0, .ref (V.1 rMod)), (1, .int (nI lo)), (2, .int (nI c)), (3, .int (nI g)), (4, .int ti)]) rfl; rw [show (.int (nI (t + 1)) : Value) = .int (nI (t + 1)) from rfl] at hl; rw [show (.int (leN (wr R rMod 19 (nI 0)) c g lo t) : Value) = .int (leN (wr R rMod 19 (nI 0)) c g lo (t + 1)) from by simp [leN, mOth, clB, (show ∀ j, wr R rMod 19 (nI 0) 108 j = R 108 j from fun _ => rfl), c_5, c_12, c_19, c_31, c_47, eq_true c_71, eq_false (Nat.not_le.mpr c_71), c_82, eq_true c_102, c_119, eq_true c_124]] at hl; exact hl)
                        · skip
                          exact absurd c_124 (by decide)
                    · skip
                      refine lv_iconst (v := (nI 1)) hx hy dX7_lease_105 (by decide) ?_
                      refine lv_goto (tgt := 110) hx hy dX7_lease_106 (by decide) ?_
                      refine lv_istore (lv' := [(7, .int (nI 1)), (6, .int (nI t)), (5, .int (leN (wr R rMod 19 (nI 0)) c g lo t)), (0, .ref (V.1 rMod)), (1, .int (nI lo)), (2, .int (nI c)), (3, .int (nI g)), (4, .int ti)]) hx hy dX7_lease_110 hl (by decide) rfl (fun ls hl => ?_)
                      refine lv_aload_n hx hy dX7_lease_112 rfl (lv_at hl 3 rfl) ?_
                      refine lv_iload_n hx hy dX7_lease_113 rfl (lv_at hl 5 rfl) ?_
                      refine lv_iload hx hy dX7_lease_114 (lv_at hl 1 rfl) ?_
                      refine n_go0 C h (n_V (As := [.int (nI c), .int (nI t)]) (rest := []) C h X (hr 100 (by decide)) ((cel_hi (by decide)).trans (celF_Mod _)) rfl (c_X7_rests l hr M (wr R rMod 19 (nI 0)) o c hc t (by omega)) (cwV 2 C.2.2.2.2.1 gX7_lease_X7_rests rfl rfl rfl (by decide +kernel) ⟨Nat.le_of_ble_eq_true rfl, Nat.le_of_ble_eq_true rfl⟩) rfl hl.1 rfl (Nat.le_of_ble_eq_true rfl) dX7_lease_116 ⟨by decide, by decide⟩) (fun _ _ z => z) (fun v_116 u_116 H locs hpo h => ?_)
                      obtain ⟨rfl, rfl⟩ := hpo
                      refine b_ne hx hy (tgt := 127) dX7_lease_119 (by decide) (fun c_119 => ?_) (fun c_119 => ?_)
                      · skip
                        refine lv_iload hx hy dX7_lease_127 (lv_at hl 2 rfl) ?_
                        refine lv_iconst (v := (nI 1)) hx hy dX7_lease_129 (by decide) ?_
                        refine lv_iload hx hy dX7_lease_130 (lv_at hl 1 rfl) ?_
                        refine lv_ishl hx hy dX7_lease_132 ?_
                        refine lv_iconst (v := (-1)) hx hy dX7_lease_133 (by decide) ?_
                        refine lv_ixor hx hy dX7_lease_134 ?_
                        refine lv_iand hx hy dX7_lease_135 ?_
                        refine lv_istore (lv' := [(5, .int ((leN (wr R rMod 19 (nI 0)) c g lo t) &&& (((nI 1) <<< ((nI t) &&& 31)) ^^^ (-1)))), (7, .int (nI 1)), (6, .int (nI t)), (0, .ref (V.1 rMod)), (1, .int (nI lo)), (2, .int (nI c)), (3, .int (nI g)), (4, .int ti)]) hx hy dX7_lease_136 hl (by decide) rfl (fun ls hl => ?_)
                        refine lv_iinc (v := (nI (t + 1))) (lv' := [(6, .int (nI (t + 1))), (5, .int ((leN (wr R rMod 19 (nI 0)) c g lo t) &&& (((nI 1) <<< ((nI t) &&& 31)) ^^^ (-1)))), (7, .int (nI 1)), (0, .ref (V.1 rMod)), (1, .int (nI lo)), (2, .int (nI c)), (3, .int (nI g)), (4, .int ti)]) hx hy dX7_lease_138 hl (k := 2) rfl (nI_1 _) (by decide) rfl (fun ls hl => ?_)
                        refine lv_goto (tgt := 63) hx hy dX7_lease_141 (by decide) ?_
                        exact ih_63 (t + 1) (by omega) _ _ h _ (by have hl := lv_sub hl [0, 1, 3, 4, 5, 6, 7] (l' := [(6, .int (nI (t + 1))), (5, .int ((leN (wr R rMod 19 (nI 0)) c g lo t) &&& (((nI 1) <<< ((nI t) &&& 31)) ^^^ (-1)))), (0, .ref (V.1 rMod)), (1, .int (nI lo)), (2, .int (nI c)), (3, .int (nI g)), (4, .int ti)]) rfl; rw [show (.int (nI (t + 1)) : Value) = .int (nI (t + 1)) from rfl] at hl; rw [show (.int ((leN (wr R rMod 19 (nI 0)) c g lo t) &&& (((nI 1) <<< ((nI t) &&& 31)) ^^^ (-1))) : Value) = .int (leN (wr R rMod 19 (nI 0)) c g lo (t + 1)) from by simp [leN, mOth, clB, (show ∀ j, wr R rMod 19 (nI 0) 108 j = R 108 j from fun _ => rfl), c_5, c_12, c_19, c_31, c_47, eq_true c_71, eq_false (Nat.not_le.mpr c_71), c_82, eq_false c_102, c_119]] at hl; exact hl)
                      · skip
                        refine lv_iload hx hy dX7_lease_122 (lv_at hl 0 rfl) ?_
                        refine nz_eq hx hy (by omega) (tgt := 138) dX7_lease_124 (by decide) (fun c_124 => ?_) (fun c_124 => ?_)
                        · skip
                          exact absurd c_124 (by decide)
                        · skip
                          refine lv_iload hx hy dX7_lease_127 (lv_at hl 2 rfl) ?_
                          refine lv_iconst (v := (nI 1)) hx hy dX7_lease_129 (by decide) ?_
                          refine lv_iload hx hy dX7_lease_130 (lv_at hl 1 rfl) ?_
                          refine lv_ishl hx hy dX7_lease_132 ?_
                          refine lv_iconst (v := (-1)) hx hy dX7_lease_133 (by decide) ?_
                          refine lv_ixor hx hy dX7_lease_134 ?_
                          refine lv_iand hx hy dX7_lease_135 ?_
                          refine lv_istore (lv' := [(5, .int ((leN (wr R rMod 19 (nI 0)) c g lo t) &&& (((nI 1) <<< ((nI t) &&& 31)) ^^^ (-1)))), (7, .int (nI 1)), (6, .int (nI t)), (0, .ref (V.1 rMod)), (1, .int (nI lo)), (2, .int (nI c)), (3, .int (nI g)), (4, .int ti)]) hx hy dX7_lease_136 hl (by decide) rfl (fun ls hl => ?_)
                          refine lv_iinc (v := (nI (t + 1))) (lv' := [(6, .int (nI (t + 1))), (5, .int ((leN (wr R rMod 19 (nI 0)) c g lo t) &&& (((nI 1) <<< ((nI t) &&& 31)) ^^^ (-1)))), (7, .int (nI 1)), (0, .ref (V.1 rMod)), (1, .int (nI lo)), (2, .int (nI c)), (3, .int (nI g)), (4, .int ti)]) hx hy dX7_lease_138 hl (k := 2) rfl (nI_1 _) (by decide) rfl (fun ls hl => ?_)
                          refine lv_goto (tgt := 63) hx hy dX7_lease_141 (by decide) ?_
                          exact ih_63 (t + 1) (by omega) _ _ h _ (by have hl := lv_sub hl [0, 1, 3, 4, 5, 6, 7] (l' := [(6, .int (nI (t + 1))), (5, .int ((leN (wr R rMod 19 (nI 0)) c g lo t) &&& (((nI 1) <<< ((nI t) &&& 31)) ^^^ (-1)))), (0, .ref (V.1 rMod)), (1, .int (nI lo)), (2, .int (nI c)), (3, .int (nI g)), (4, .int ti)]) rfl; rw [show (.int (nI (t + 1)) : Value) = .int (nI (t + 1)) from rfl] at hl; rw [show (.int ((leN (wr R rMod 19 (nI 0)) c g lo t) &&& (((nI 1) <<< ((nI t) &&& 31)) ^^^ (-1))) : Value) = .int (leN (wr R rMod 19 (nI 0)) c g lo (t + 1)) from by simp [leN, mOth, clB, (show ∀ j, wr R rMod 19 (nI 0) 108 j = R 108 j from fun _ => rfl), c_5, c_12, c_19, c_31, c_47, eq_true c_71, eq_false (Nat.not_le.mpr c_71), c_82, eq_false c_102, c_119, eq_false c_124]] at hl; exact hl)
            exact L_63 ((mnN R c)) 0 (by omega) _ _ h _ (by have hl := lv_sub hl [0, 1, 2, 3, 4, 5, 6] (l' := [(6, .int (nI 0)), (5, .int (rcN (wr R rMod 19 (nI 0)) c lo (mnN R c))), (0, .ref (V.1 rMod)), (1, .int (nI lo)), (2, .int (nI c)), (3, .int (nI g)), (4, .int ti)]) rfl; rw [show (.int (rcN (wr R rMod 19 (nI 0)) c lo (mnN R c)) : Value) = .int (leN (wr R rMod 19 (nI 0)) c g lo 0) from rfl] at hl; exact hl)
          · skip
            rw [noV_f c_47] at h
            rw [wr_wr] at h
            have hno_47 : vI ti (nI 1) (nI 20) = false := not_tt c_47
            refine lv_iconst (v := (nI 0)) hx hy dX7_lease_50 (by decide) ?_
            exact e_int C h rfl dX7_lease_51 (⟨_, rfl, by simp [kLeaseR, vR3, canR, mxR, hi_c, hv_c, hi_g, hv_g, hi_lo, hv_lo, hno_47, c_5, c_12, c_19, c_31, c_47, suR], by simp [kLeaseR, vR3, canR, mxR, leaseR, thr, suR, hi_c, hv_c, hi_g, hv_g, hi_lo, hv_lo, hno_47, c_5, c_12, c_19, c_31, c_47]⟩) (by decide) (by decide)

set_option maxRecDepth 20000 in
theorem in_X7_giveUp_X7 : ∀ x ∈ wsX70, x ∈ wsX7_giveUp := by decide +kernel
set_option maxRecDepth 100000 in
set_option maxHeartbeats 4000000 in
/-- the reference: giveUp -/
theorem c_X7_giveUp (l : Launch) {G : va_G} {V : wV} {rs : List Nat} (hr : bR rs) (M R : wM) (o : wO) (rv : RV R) (lo0 ca ga : Int32) : CT l G V rs yX7_giveUp wsX7_giveUp 2 42 0 0 [.ref (V.1 rMod), .int lo0, .int ca, .int ga] (M, R, o) (fun v u => ∃ r, v = some (.int r) ∧ (kGiveR R lo0 ca ga = 0 → r = nI (gvC (thr R 0) (cI ca) (cI ga) (cI lo0) (nrR R ca lo0) (mnN R (cI ca)))) ∧ u = (M, giveR R lo0 ca ga, o)) (fun _ _ => False) := by
  refine ct_of (cc := cX7_giveUp) (maxL := 8) (ret := (some .int)) (by decide) rfl (Nat.le_of_ble_eq_true rfl) ?_
  intro p e s m below meth cd ls C h X hT hl
  have hx := C.1
  have hy := C.2.1
  have hl : lv_has ls 8 [(0, .ref (V.1 rMod)), (1, .int lo0), (2, .int ca), (3, .int ga)] := hl
  have hmn : ∀ c, c < 2 → R 101 c = nI (mnN R c) ∧ mnN R c ≤ 7 := fun c hc => ⟨(rv.1 c hc).1, (rv.1 c hc).2.1⟩
  have hwn : ∀ c, c < 2 → R 103 c = nI (wrN R c) ∧ wrN R c ≤ 60 := fun c hc => ⟨(rv.1 c hc).2.2.1, (rv.1 c hc).2.2.2.1⟩
  have hsi9 := rv.2.1.2
  have htr9 := rv.2.2.1.2
  refine lv_aload_n hx hy dX7_giveUp_0 rfl (lv_at hl 0 rfl) ?_
  refine lv_iload_n hx hy dX7_giveUp_1 rfl (lv_at hl 2 rfl) ?_
  refine n_go0 C h (n_S (As := [.int ca]) (rest := [.ref (V.1 rMod)]) C h X (c_X7_isCastle l M R o ca) (va_cwS 1 C.2.2.2.2.1 gX7_giveUp_X7_isCastle rfl rfl rfl (by decide +kernel) ⟨Nat.le_of_ble_eq_true rfl, Nat.le_of_ble_eq_true rfl⟩) rfl hl.1 rfl (Nat.le_of_ble_eq_true rfl) dX7_giveUp_2 ⟨by decide, by decide⟩) (fun _ _ z => z) (fun v_2 u_2 H locs hpo h => ?_)
  obtain ⟨rfl, rfl⟩ := hpo
  refine b_eq hx hy (tgt := 26) dX7_giveUp_5 (by decide) (fun c_5 => ?_) (fun c_5 => ?_)
  · skip
    refine lv_iconst (v := (nI 0)) hx hy dX7_giveUp_26 (by decide) ?_
    refine lv_iconst (v := (nI 1)) hx hy dX7_giveUp_27 (by decide) ?_
    refine n_go0 C h (n_V (As := [.int (b2i false), .int (nI 1)]) (rest := []) C h X (hr 100 (by decide)) ((cel_hi (by decide)).trans (celF_Mod _)) rfl (c_X7_no l hr M R o false (nI 1)) (cwV 2 C.2.2.2.2.1 gX7_giveUp_X7_no rfl rfl rfl (by decide +kernel) ⟨Nat.le_of_ble_eq_true rfl, Nat.le_of_ble_eq_true rfl⟩) rfl hl.1 rfl (Nat.le_of_ble_eq_true rfl) dX7_giveUp_28 ⟨by decide, by decide⟩) (fun _ _ z => z) (fun v_28 u_28 H locs hpo h => ?_)
    obtain ⟨rfl, rfl⟩ := hpo
    refine b_ne hx hy (tgt := 49) dX7_giveUp_31 (by decide) (fun c_31 => ?_) (fun c_31 => ?_)
    · skip
      rw [noV_f c_31] at h
      refine lv_iconst (v := (nI 0)) hx hy dX7_giveUp_49 (by decide) ?_
      exact e_int C h rfl dX7_giveUp_50 (⟨_, rfl, by simp [kGiveR, vR3, nrR, c_5, c_31, suR], by simp [kGiveR, vR3, nrR, giveR, thr, suR, c_5, c_31]⟩) (by decide) (by decide)
    · skip
      exact absurd c_31 (by decide)
  · skip
    obtain ⟨c, hc, rfl⟩ := vIn_ok' c_5 (by decide)
    have hv_c : vIn (nI c) 2 = true := vIn_nI hc (by decide)
    have hi_c : cI (nI c) = c := nI_clamp (by omega)
    have hmn9 := (hmn c hc).2
    have hwn9 := (hwn c hc).2
    have hB := (rv.1 c hc).2.2.2.2.1
    have hEr := (rv.1 c hc).2.2.2.2.2.1
    have hU := (rv.1 c hc).2.2.2.2.2.2
    refine lv_iload_n hx hy dX7_giveUp_8 rfl (lv_at hl 3 rfl) ?_
    refine n_go0 C h (n_S (As := [.int ga]) (rest := [.ref (V.1 rMod)]) C h X (c_X7_isGate l M R o ga) (va_cwS 1 C.2.2.2.2.1 gX7_giveUp_X7_isGate rfl rfl rfl (by decide +kernel) ⟨Nat.le_of_ble_eq_true rfl, Nat.le_of_ble_eq_true rfl⟩) rfl hl.1 rfl (Nat.le_of_ble_eq_true rfl) dX7_giveUp_9 ⟨by decide, by decide⟩) (fun _ _ z => z) (fun v_9 u_9 H locs hpo h => ?_)
    obtain ⟨rfl, rfl⟩ := hpo
    refine b_eq hx hy (tgt := 26) dX7_giveUp_12 (by decide) (fun c_12 => ?_) (fun c_12 => ?_)
    · skip
      refine lv_iconst (v := (nI 0)) hx hy dX7_giveUp_26 (by decide) ?_
      refine lv_iconst (v := (nI 1)) hx hy dX7_giveUp_27 (by decide) ?_
      refine n_go0 C h (n_V (As := [.int (b2i false), .int (nI 1)]) (rest := []) C h X (hr 100 (by decide)) ((cel_hi (by decide)).trans (celF_Mod _)) rfl (c_X7_no l hr M R o false (nI 1)) (cwV 2 C.2.2.2.2.1 gX7_giveUp_X7_no rfl rfl rfl (by decide +kernel) ⟨Nat.le_of_ble_eq_true rfl, Nat.le_of_ble_eq_true rfl⟩) rfl hl.1 rfl (Nat.le_of_ble_eq_true rfl) dX7_giveUp_28 ⟨by decide, by decide⟩) (fun _ _ z => z) (fun v_28 u_28 H locs hpo h => ?_)
      obtain ⟨rfl, rfl⟩ := hpo
      refine b_ne hx hy (tgt := 49) dX7_giveUp_31 (by decide) (fun c_31 => ?_) (fun c_31 => ?_)
      · skip
        rw [noV_f c_31] at h
        refine lv_iconst (v := (nI 0)) hx hy dX7_giveUp_49 (by decide) ?_
        exact e_int C h rfl dX7_giveUp_50 (⟨_, rfl, by simp [kGiveR, vR3, nrR, hi_c, hv_c, c_5, c_12, c_31, suR], by simp [kGiveR, vR3, nrR, giveR, thr, suR, hi_c, hv_c, c_5, c_12, c_31]⟩) (by decide) (by decide)
      · skip
        exact absurd c_31 (by decide)
    · skip
      obtain ⟨g, hg, rfl⟩ := vIn_ok' c_12 (by decide)
      have hv_g : vIn (nI g) 3 = true := vIn_nI hg (by decide)
      have hi_g : cI (nI g) = g := nI_clamp (by omega)
      refine lv_iload_n hx hy dX7_giveUp_15 rfl (lv_at hl 1 rfl) ?_
      refine n_go0 C h (n_S (As := [.int lo0]) (rest := [.ref (V.1 rMod)]) C h X (c_X7_isLord l M R o lo0) (va_cwS 1 C.2.2.2.2.1 gX7_giveUp_X7_isLord rfl rfl rfl (by decide +kernel) ⟨Nat.le_of_ble_eq_true rfl, Nat.le_of_ble_eq_true rfl⟩) rfl hl.1 rfl (Nat.le_of_ble_eq_true rfl) dX7_giveUp_16 ⟨by decide, by decide⟩) (fun _ _ z => z) (fun v_16 u_16 H locs hpo h => ?_)
      obtain ⟨rfl, rfl⟩ := hpo
      refine b_eq hx hy (tgt := 26) dX7_giveUp_19 (by decide) (fun c_19 => ?_) (fun c_19 => ?_)
      · skip
        refine lv_iconst (v := (nI 0)) hx hy dX7_giveUp_26 (by decide) ?_
        refine lv_iconst (v := (nI 1)) hx hy dX7_giveUp_27 (by decide) ?_
        refine n_go0 C h (n_V (As := [.int (b2i false), .int (nI 1)]) (rest := []) C h X (hr 100 (by decide)) ((cel_hi (by decide)).trans (celF_Mod _)) rfl (c_X7_no l hr M R o false (nI 1)) (cwV 2 C.2.2.2.2.1 gX7_giveUp_X7_no rfl rfl rfl (by decide +kernel) ⟨Nat.le_of_ble_eq_true rfl, Nat.le_of_ble_eq_true rfl⟩) rfl hl.1 rfl (Nat.le_of_ble_eq_true rfl) dX7_giveUp_28 ⟨by decide, by decide⟩) (fun _ _ z => z) (fun v_28 u_28 H locs hpo h => ?_)
        obtain ⟨rfl, rfl⟩ := hpo
        refine b_ne hx hy (tgt := 49) dX7_giveUp_31 (by decide) (fun c_31 => ?_) (fun c_31 => ?_)
        · skip
          rw [noV_f c_31] at h
          refine lv_iconst (v := (nI 0)) hx hy dX7_giveUp_49 (by decide) ?_
          exact e_int C h rfl dX7_giveUp_50 (⟨_, rfl, by simp [kGiveR, vR3, nrR, hi_c, hv_c, hi_g, hv_g, c_5, c_12, c_19, c_31, suR], by simp [kGiveR, vR3, nrR, giveR, thr, suR, hi_c, hv_c, hi_g, hv_g, c_5, c_12, c_19, c_31]⟩) (by decide) (by decide)
        · skip
          exact absurd c_31 (by decide)
      · skip
        obtain ⟨lo, hlo, rfl⟩ := vIn_ok' c_19 (by decide)
        have hv_lo : vIn (nI lo) 4 = true := vIn_nI hlo (by decide)
        have hi_lo : cI (nI lo) = lo := nI_clamp (by omega)
        refine lv_iconst (v := (nI 1)) hx hy dX7_giveUp_22 (by decide) ?_
        refine lv_goto (tgt := 27) hx hy dX7_giveUp_23 (by decide) ?_
        refine lv_iconst (v := (nI 1)) hx hy dX7_giveUp_27 (by decide) ?_
        refine n_go0 C h (n_V (As := [.int (b2i true), .int (nI 1)]) (rest := []) C h X (hr 100 (by decide)) ((cel_hi (by decide)).trans (celF_Mod _)) rfl (c_X7_no l hr M R o true (nI 1)) (cwV 2 C.2.2.2.2.1 gX7_giveUp_X7_no rfl rfl rfl (by decide +kernel) ⟨Nat.le_of_ble_eq_true rfl, Nat.le_of_ble_eq_true rfl⟩) rfl hl.1 rfl (Nat.le_of_ble_eq_true rfl) dX7_giveUp_28 ⟨by decide, by decide⟩) (fun _ _ z => z) (fun v_28 u_28 H locs hpo h => ?_)
        obtain ⟨rfl, rfl⟩ := hpo
        refine b_ne hx hy (tgt := 49) dX7_giveUp_31 (by decide) (fun c_31 => ?_) (fun c_31 => ?_)
        · skip
          exact absurd c_31 (by decide)
        · skip
          rw [noV_t c_31] at h
          refine lv_aload_n hx hy dX7_giveUp_34 rfl (lv_at hl 0 rfl) ?_
          refine lv_aload_n hx hy dX7_giveUp_35 rfl (lv_at hl 0 rfl) ?_
          refine lv_iload_n hx hy dX7_giveUp_36 rfl (lv_at hl 2 rfl) ?_
          refine lv_iload_n hx hy dX7_giveUp_37 rfl (lv_at hl 3 rfl) ?_
          refine lv_iload_n hx hy dX7_giveUp_38 rfl (lv_at hl 1 rfl) ?_
          refine n_go0 C h (n_V (As := [.int (nI c), .int (nI g), .int (nI lo)]) (rest := [.ref (V.1 rMod)]) C h X (hr 100 (by decide)) ((cel_hi (by decide)).trans (celF_Mod _)) rfl (c_X7_opens l hr M (wr R rMod 19 (nI 0)) o c hc g hg lo hlo) (cwV 3 C.2.2.2.2.1 gX7_giveUp_X7_opens rfl rfl rfl (by decide +kernel) ⟨Nat.le_of_ble_eq_true rfl, Nat.le_of_ble_eq_true rfl⟩) rfl hl.1 rfl (Nat.le_of_ble_eq_true rfl) dX7_giveUp_39 ⟨by decide, by decide⟩) (fun _ _ z => z) (fun v_39 u_39 H locs hpo h => ?_)
          obtain ⟨rfl, rfl⟩ := hpo
          refine lv_iconst (v := (nI 2)) hx hy dX7_giveUp_42 (by decide) ?_
          refine n_go0 C h (n_V (As := [.int (b2i (mOpen (wr R rMod 19 (nI 0)) c g lo)), .int (nI 2)]) (rest := []) C h X (hr 100 (by decide)) ((cel_hi (by decide)).trans (celF_Mod _)) rfl (c_X7_no l hr M (wr R rMod 19 (nI 0)) o (mOpen (wr R rMod 19 (nI 0)) c g lo) (nI 2)) (cwV 2 C.2.2.2.2.1 gX7_giveUp_X7_no rfl rfl rfl (by decide +kernel) ⟨Nat.le_of_ble_eq_true rfl, Nat.le_of_ble_eq_true rfl⟩) rfl hl.1 rfl (Nat.le_of_ble_eq_true rfl) dX7_giveUp_43 ⟨by decide, by decide⟩) (fun _ _ z => z) (fun v_43 u_43 H locs hpo h => ?_)
          obtain ⟨rfl, rfl⟩ := hpo
          refine b_eq hx hy (tgt := 51) dX7_giveUp_46 (by decide) (fun c_46 => ?_) (fun c_46 => ?_)
          · skip
            rw [noV_t c_46] at h
            rw [wr_wr] at h
            have hno_46 : mOpen (wr R rMod 19 (nI 0)) c g lo = true := not_ff c_46
            refine lv_aload_n hx hy dX7_giveUp_51 rfl (lv_at hl 0 rfl) ?_
            refine lv_iload_n hx hy dX7_giveUp_52 rfl (lv_at hl 2 rfl) ?_
            refine lv_iload_n hx hy dX7_giveUp_53 rfl (lv_at hl 1 rfl) ?_
            refine n_go0 C h (n_V (As := [.int (nI c), .int (nI lo)]) (rest := []) C h X (hr 100 (by decide)) ((cel_hi (by decide)).trans (celF_Mod _)) rfl (c_X7_reach l hr M (wr R rMod 19 (nI 0)) o c hc (mnN R c) hmn9 (show (wr R rMod 19 (nI 0)) 101 c = nI (mnN R c) from ((wr_othr (by decide)).trans (hmn c hc).1)) lo hlo) (cwV 2 C.2.2.2.2.1 gX7_giveUp_X7_reach rfl rfl rfl (by decide +kernel) ⟨Nat.le_of_ble_eq_true rfl, Nat.le_of_ble_eq_true rfl⟩) rfl hl.1 rfl (Nat.le_of_ble_eq_true rfl) dX7_giveUp_54 ⟨by decide, by decide⟩) (fun _ _ z => z) (fun v_54 u_54 H locs hpo h => ?_)
            obtain ⟨rfl, rfl⟩ := hpo
            refine lv_istore (lv' := [(4, .int (rcN (wr R rMod 19 (nI 0)) c lo (mnN R c))), (0, .ref (V.1 rMod)), (1, .int (nI lo)), (2, .int (nI c)), (3, .int (nI g))]) hx hy dX7_giveUp_57 hl (by decide) rfl (fun ls hl => ?_)
            refine lv_iconst (v := (nI 0)) hx hy dX7_giveUp_59 (by decide) ?_
            refine lv_istore (lv' := [(5, .int (nI 0)), (4, .int (rcN (wr R rMod 19 (nI 0)) c lo (mnN R c))), (0, .ref (V.1 rMod)), (1, .int (nI lo)), (2, .int (nI c)), (3, .int (nI g))]) hx hy dX7_giveUp_60 hl (by decide) rfl (fun ls hl => ?_)
            refine lv_iconst (v := (nI 0)) hx hy dX7_giveUp_62 (by decide) ?_
            refine lv_istore (lv' := [(6, .int (nI 0)), (5, .int (nI 0)), (4, .int (rcN (wr R rMod 19 (nI 0)) c lo (mnN R c))), (0, .ref (V.1 rMod)), (1, .int (nI lo)), (2, .int (nI c)), (3, .int (nI g))]) hx hy dX7_giveUp_63 hl (by decide) rfl (fun ls hl => ?_)
            have L_65 : ∀ (n_65 t : Nat), n_65 + t = (mnN R c) → ∀ (H : Heap) (locs : List Loc), HH G V rs (M, gvN (wr R rMod 19 (nI 0)) c g lo (rcN (wr R rMod 19 (nI 0)) c lo (mnN R c)) t, o) s H locs → ∀ ls : Array Slot, lv_has ls 8 [(6, .int (nI t)), (5, .int (nI (gvC (wr R rMod 19 (nI 0)) c g lo (rcN (wr R rMod 19 (nI 0)) c lo (mnN R c)) t))), (4, .int (rcN (wr R rMod 19 (nI 0)) c lo (mnN R c))), (0, .ref (V.1 rMod)), (1, .int (nI lo)), (2, .int (nI c)), (3, .int (nI g))] → W p l e { frames := 2, cells := 0, slots := 0, locals := 42 } s m [.ref (V.1 rMod), .int (nI lo), .int (nI c), .int (nI g)].toArray below meth cd H locs 0 0 (QM G V rs below [.ref (V.1 rMod), .int (nI lo), .int (nI c), .int (nI g)].toArray s 0 0 (fun v u => ∃ r, v = some (.int r) ∧ (kGiveR R (nI lo) (nI c) (nI g) = 0 → r = nI (gvC (thr R 0) (cI (nI c)) (cI (nI g)) (cI (nI lo)) (nrR R (nI c) (nI lo)) (mnN R (cI (nI c))))) ∧ u = (M, giveR R (nI lo) (nI c) (nI g), o)) (fun _ _ => False)) (F0 m 65 ls []) := by
              intro n_65
              induction n_65 with
              | zero =>
                intro t hk_65 H locs h ls hl
                have hz_65 : t = (mnN R c) := by omega
                try rw [hz_65] at h
                try rw [hz_65] at hl
                refine lv_iload hx hy dX7_giveUp_65 (lv_at hl 0 rfl) ?_
                refine lv_aload_n hx hy dX7_giveUp_67 rfl (lv_at hl 3 rfl) ?_
                refine g_f C h (hr 100 (by decide)) (cel_hi (by decide)) celF_Mod rfl in_X7_giveUp_X7 0 (by decide) (by decide +kernel) (v := .ref (V.1 101)) rfl dX7_giveUp_68 ?_
                refine lv_iload_n hx hy dX7_giveUp_71 rfl (lv_at hl 5 rfl) ?_
                refine g_i C h (hr 101 (by decide)) (n := 2) (k := c) (cel_hi (by decide)) (fun _ => rfl) (by omega) (by decide) (v := (nI (mnN R c))) (show (gvN (wr R rMod 19 (nI 0)) c g lo (rcN (wr R rMod 19 (nI 0)) c lo (mnN R c)) (mnN R c)) 101 c = (nI (mnN R c)) from ((congrFun (gvN_ne (by decide)) _).trans ((wr_othr (by decide)).trans (hmn c hc).1))) dX7_giveUp_72 ?_
                refine n_ge hx hy (by omega) (by omega) (tgt := 141) dX7_giveUp_73 (by decide) (fun c_73 => ?_) (fun c_73 => ?_)
                · skip
                  refine lv_aload_n hx hy dX7_giveUp_141 rfl (lv_at hl 3 rfl) ?_
                  refine g_f C h (hr 100 (by decide)) (cel_hi (by decide)) celF_Mod rfl in_X7_giveUp_X7 9 (by decide) (by decide +kernel) (v := .ref (V.1 110)) rfl dX7_giveUp_142 ?_
                  refine lv_iload_n hx hy dX7_giveUp_145 rfl (lv_at hl 5 rfl) ?_
                  refine lv_iconst (v := (nI 4)) hx hy dX7_giveUp_146 (by decide) ?_
                  refine lv_imul hx hy dX7_giveUp_147 ?_
                  refine lv_topn (pk_mul _ _) ?_
                  refine lv_iload_n hx hy dX7_giveUp_148 rfl (lv_at hl 4 rfl) ?_
                  refine lv_iadd hx hy dX7_giveUp_149 ?_
                  refine lv_topn (nI_add _ _) ?_
                  refine lv_iconst (v := (nI 3)) hx hy dX7_giveUp_150 (by decide) ?_
                  refine lv_imul hx hy dX7_giveUp_151 ?_
                  refine lv_topn (pk_mul _ _) ?_
                  refine lv_iload_n hx hy dX7_giveUp_152 rfl (lv_at hl 6 rfl) ?_
                  refine lv_iadd hx hy dX7_giveUp_153 ?_
                  refine lv_topn (nI_add _ _) ?_
                  refine lv_iconst (v := (nI 0)) hx hy dX7_giveUp_154 (by decide) ?_
                  refine s_iR C h (hr 110 (by decide)) (by decide) (n := 24) (k := ((((c * 4) + lo) * 3) + g)) (fun _ => rfl) (by omega) (by decide) (x := (nI 0)) dX7_giveUp_155 (fun H locs h => ?_)
                  refine lv_iload hx hy dX7_giveUp_156 (lv_at hl 1 rfl) ?_
                  exact e_int C h rfl dX7_giveUp_158 (⟨_, rfl, by simp [kGiveR, vR3, nrR, hi_c, hv_c, hi_g, hv_g, hi_lo, hv_lo, hno_46, c_5, c_12, c_19, c_31, c_46, eq_true c_73, eq_false (Nat.not_lt.mpr c_73), suR], by simp [kGiveR, vR3, nrR, giveR, thr, suR, hi_c, hv_c, hi_g, hv_g, hi_lo, hv_lo, hno_46, c_5, c_12, c_19, c_31, c_46, eq_true c_73, eq_false (Nat.not_lt.mpr c_73)]⟩) (by decide) (by decide)
                · skip
                  exact absurd c_73 (by omega)
              | succ n_65 ih_65 =>
                intro t hk_65 H locs h ls hl
                have hz_65 : t < (mnN R c) := by omega
                refine lv_iload hx hy dX7_giveUp_65 (lv_at hl 0 rfl) ?_
                refine lv_aload_n hx hy dX7_giveUp_67 rfl (lv_at hl 3 rfl) ?_
                refine g_f C h (hr 100 (by decide)) (cel_hi (by decide)) celF_Mod rfl in_X7_giveUp_X7 0 (by decide) (by decide +kernel) (v := .ref (V.1 101)) rfl dX7_giveUp_68 ?_
                refine lv_iload_n hx hy dX7_giveUp_71 rfl (lv_at hl 5 rfl) ?_
                refine g_i C h (hr 101 (by decide)) (n := 2) (k := c) (cel_hi (by decide)) (fun _ => rfl) (by omega) (by decide) (v := (nI (mnN R c))) (show (gvN (wr R rMod 19 (nI 0)) c g lo (rcN (wr R rMod 19 (nI 0)) c lo (mnN R c)) t) 101 c = (nI (mnN R c)) from ((congrFun (gvN_ne (by decide)) _).trans ((wr_othr (by decide)).trans (hmn c hc).1))) dX7_giveUp_72 ?_
                refine n_ge hx hy (by omega) (by omega) (tgt := 141) dX7_giveUp_73 (by decide) (fun c_73 => ?_) (fun c_73 => ?_)
                · skip
                  exact absurd c_73 (by omega)
                · skip
                  refine lv_iload_n hx hy dX7_giveUp_76 rfl (lv_at hl 5 rfl) ?_
                  refine lv_bipush (v := (nI 7)) hx hy dX7_giveUp_77 (by decide) ?_
                  refine lv_imul hx hy dX7_giveUp_79 ?_
                  refine lv_topn (pk_mul _ _) ?_
                  refine lv_iload hx hy dX7_giveUp_80 (lv_at hl 0 rfl) ?_
                  refine lv_iadd hx hy dX7_giveUp_82 ?_
                  refine lv_topn (nI_add _ _) ?_
                  refine lv_iconst (v := (nI 3)) hx hy dX7_giveUp_83 (by decide) ?_
                  refine lv_imul hx hy dX7_giveUp_84 ?_
                  refine lv_topn (pk_mul _ _) ?_
                  refine lv_iload_n hx hy dX7_giveUp_85 rfl (lv_at hl 6 rfl) ?_
                  refine lv_iadd hx hy dX7_giveUp_86 ?_
                  refine lv_topn (nI_add _ _) ?_
                  refine lv_istore (lv' := [(7, .int (nI ((((c * 7) + t) * 3) + g))), (6, .int (nI t)), (5, .int (nI (gvC (wr R rMod 19 (nI 0)) c g lo (rcN (wr R rMod 19 (nI 0)) c lo (mnN R c)) t))), (4, .int (rcN (wr R rMod 19 (nI 0)) c lo (mnN R c))), (0, .ref (V.1 rMod)), (1, .int (nI lo)), (2, .int (nI c)), (3, .int (nI g))]) hx hy dX7_giveUp_87 hl (by decide) rfl (fun ls hl => ?_)
                  refine lv_iload hx hy dX7_giveUp_89 (lv_at hl 3 rfl) ?_
                  refine lv_iload hx hy dX7_giveUp_91 (lv_at hl 1 rfl) ?_
                  refine lv_ishr hx hy dX7_giveUp_93 ?_
                  refine lv_iconst (v := (nI 1)) hx hy dX7_giveUp_94 (by decide) ?_
                  refine lv_iand hx hy dX7_giveUp_95 ?_
                  refine z_eq hx hy (tgt := 135) dX7_giveUp_96 (by decide) (fun c_96 => ?_) (fun c_96 => ?_)
                  · skip
                    refine lv_iinc (v := (nI (t + 1))) (lv' := [(6, .int (nI (t + 1))), (7, .int (nI ((((c * 7) + t) * 3) + g))), (5, .int (nI (gvC (wr R rMod 19 (nI 0)) c g lo (rcN (wr R rMod 19 (nI 0)) c lo (mnN R c)) t))), (4, .int (rcN (wr R rMod 19 (nI 0)) c lo (mnN R c))), (0, .ref (V.1 rMod)), (1, .int (nI lo)), (2, .int (nI c)), (3, .int (nI g))]) hx hy dX7_giveUp_135 hl (k := 1) rfl (nI_1 _) (by decide) rfl (fun ls hl => ?_)
                    refine lv_goto (tgt := 65) hx hy dX7_giveUp_138 (by decide) ?_
                    exact ih_65 (t + 1) (by omega) _ _ (by rw [show ((M, gvN (wr R rMod 19 (nI 0)) c g lo (rcN (wr R rMod 19 (nI 0)) c lo (mnN R c)) (t + 1), o) : wW) = (M, gvN (wr R rMod 19 (nI 0)) c g lo (rcN (wr R rMod 19 (nI 0)) c lo (mnN R c)) t, o) from by simp [gvN, gvP, bitI, c_5, c_12, c_19, c_31, c_46, eq_true c_73, eq_false (Nat.not_le.mpr c_73), eq_true c_96]]; exact h) _ (by have hl := lv_sub hl [0, 2, 3, 4, 5, 6, 7] (l' := [(6, .int (nI (t + 1))), (5, .int (nI (gvC (wr R rMod 19 (nI 0)) c g lo (rcN (wr R rMod 19 (nI 0)) c lo (mnN R c)) t))), (4, .int (rcN (wr R rMod 19 (nI 0)) c lo (mnN R c))), (0, .ref (V.1 rMod)), (1, .int (nI lo)), (2, .int (nI c)), (3, .int (nI g))]) rfl; rw [show (.int (nI (t + 1)) : Value) = .int (nI (t + 1)) from rfl] at hl; rw [show (.int (nI (gvC (wr R rMod 19 (nI 0)) c g lo (rcN (wr R rMod 19 (nI 0)) c lo (mnN R c)) t)) : Value) = .int (nI (gvC (wr R rMod 19 (nI 0)) c g lo (rcN (wr R rMod 19 (nI 0)) c lo (mnN R c)) (t + 1))) from by simp [gvC, gvP, bitI, c_5, c_12, c_19, c_31, c_46, eq_true c_73, eq_false (Nat.not_le.mpr c_73), eq_true c_96]] at hl; exact hl)
                  · skip
                    refine lv_aload_n hx hy dX7_giveUp_99 rfl (lv_at hl 4 rfl) ?_
                    refine lv_iload_n hx hy dX7_giveUp_100 rfl (lv_at hl 6 rfl) ?_
                    refine lv_iload hx hy dX7_giveUp_101 (lv_at hl 1 rfl) ?_
                    refine lv_iload_n hx hy dX7_giveUp_103 rfl (lv_at hl 7 rfl) ?_
                    refine n_go0 C h (n_V (As := [.int (nI c), .int (nI t), .int (nI g)]) (rest := []) C h X (hr 100 (by decide)) ((cel_hi (by decide)).trans (celF_Mod _)) rfl (c_X7_votes l hr M (gvN (wr R rMod 19 (nI 0)) c g lo (rcN (wr R rMod 19 (nI 0)) c lo (mnN R c)) t) o c hc t (by omega) g hg) (cwV 3 C.2.2.2.2.1 gX7_giveUp_X7_votes rfl rfl rfl (by decide +kernel) ⟨Nat.le_of_ble_eq_true rfl, Nat.le_of_ble_eq_true rfl⟩) rfl hl.1 rfl (Nat.le_of_ble_eq_true rfl) dX7_giveUp_104 ⟨by decide, by decide⟩) (fun _ _ z => z) (fun v_104 u_104 H locs hpo h => ?_)
                    obtain ⟨rfl, rfl⟩ := hpo
                    refine b_eq hx hy (tgt := 135) dX7_giveUp_107 (by decide) (fun c_107 => ?_) (fun c_107 => ?_)
                    · skip
                      refine lv_iinc (v := (nI (t + 1))) (lv' := [(6, .int (nI (t + 1))), (7, .int (nI ((((c * 7) + t) * 3) + g))), (5, .int (nI (gvC (wr R rMod 19 (nI 0)) c g lo (rcN (wr R rMod 19 (nI 0)) c lo (mnN R c)) t))), (4, .int (rcN (wr R rMod 19 (nI 0)) c lo (mnN R c))), (0, .ref (V.1 rMod)), (1, .int (nI lo)), (2, .int (nI c)), (3, .int (nI g))]) hx hy dX7_giveUp_135 hl (k := 1) rfl (nI_1 _) (by decide) rfl (fun ls hl => ?_)
                      refine lv_goto (tgt := 65) hx hy dX7_giveUp_138 (by decide) ?_
                      exact ih_65 (t + 1) (by omega) _ _ (by rw [show ((M, gvN (wr R rMod 19 (nI 0)) c g lo (rcN (wr R rMod 19 (nI 0)) c lo (mnN R c)) (t + 1), o) : wW) = (M, gvN (wr R rMod 19 (nI 0)) c g lo (rcN (wr R rMod 19 (nI 0)) c lo (mnN R c)) t, o) from by simp [gvN, gvP, bitI, c_5, c_12, c_19, c_31, c_46, eq_true c_73, eq_false (Nat.not_le.mpr c_73), eq_false c_96, c_107]]; exact h) _ (by have hl := lv_sub hl [0, 2, 3, 4, 5, 6, 7] (l' := [(6, .int (nI (t + 1))), (5, .int (nI (gvC (wr R rMod 19 (nI 0)) c g lo (rcN (wr R rMod 19 (nI 0)) c lo (mnN R c)) t))), (4, .int (rcN (wr R rMod 19 (nI 0)) c lo (mnN R c))), (0, .ref (V.1 rMod)), (1, .int (nI lo)), (2, .int (nI c)), (3, .int (nI g))]) rfl; rw [show (.int (nI (t + 1)) : Value) = .int (nI (t + 1)) from rfl] at hl; rw [show (.int (nI (gvC (wr R rMod 19 (nI 0)) c g lo (rcN (wr R rMod 19 (nI 0)) c lo (mnN R c)) t)) : Value) = .int (nI (gvC (wr R rMod 19 (nI 0)) c g lo (rcN (wr R rMod 19 (nI 0)) c lo (mnN R c)) (t + 1))) from by simp [gvC, gvP, bitI, c_5, c_12, c_19, c_31, c_46, eq_true c_73, eq_false (Nat.not_le.mpr c_73), eq_false c_96, c_107]] at hl; exact hl)
                    · skip
                      refine lv_aload_n hx hy dX7_giveUp_110 rfl (lv_at hl 4 rfl) ?_
                      refine g_f C h (hr 100 (by decide)) (cel_hi (by decide)) celF_Mod rfl in_X7_giveUp_X7 7 (by decide) (by decide +kernel) (v := .ref (V.1 108)) rfl dX7_giveUp_111 ?_
                      refine lv_iload hx hy dX7_giveUp_114 (lv_at hl 0 rfl) ?_
                      refine g_i C h (hr 108 (by decide)) (n := 42) (k := ((((c * 7) + t) * 3) + g)) (cel_hi (by decide)) (fun _ => rfl) (by omega) (by decide) (v := ((gvN (wr R rMod 19 (nI 0)) c g lo (rcN (wr R rMod 19 (nI 0)) c lo (mnN R c)) t) 108 ((((c * 7) + t) * 3) + g))) rfl dX7_giveUp_116 ?_
                      refine lv_iload_n hx hy dX7_giveUp_117 rfl (lv_at hl 5 rfl) ?_
                      refine i_eq hx hy (tgt := 124) dX7_giveUp_118 (by decide) (fun c_118 => ?_) (fun c_118 => ?_)
                      · skip
                        refine lv_aload_n hx hy dX7_giveUp_124 rfl (lv_at hl 4 rfl) ?_
                        refine g_f C h (hr 100 (by decide)) (cel_hi (by decide)) celF_Mod rfl in_X7_giveUp_X7 8 (by decide) (by decide +kernel) (v := .ref (V.1 109)) rfl dX7_giveUp_125 ?_
                        refine lv_iload hx hy dX7_giveUp_128 (lv_at hl 0 rfl) ?_
                        refine lv_iconst (v := (nI 0)) hx hy dX7_giveUp_130 (by decide) ?_
                        refine s_iR C h (hr 109 (by decide)) (by decide) (n := 42) (k := ((((c * 7) + t) * 3) + g)) (fun _ => rfl) (by omega) (by decide) (x := (nI 0)) dX7_giveUp_131 (fun H locs h => ?_)
                        refine lv_iinc (v := (nI ((gvC (wr R rMod 19 (nI 0)) c g lo (rcN (wr R rMod 19 (nI 0)) c lo (mnN R c)) t) + 1))) (lv' := [(5, .int (nI ((gvC (wr R rMod 19 (nI 0)) c g lo (rcN (wr R rMod 19 (nI 0)) c lo (mnN R c)) t) + 1))), (7, .int (nI ((((c * 7) + t) * 3) + g))), (6, .int (nI t)), (4, .int (rcN (wr R rMod 19 (nI 0)) c lo (mnN R c))), (0, .ref (V.1 rMod)), (1, .int (nI lo)), (2, .int (nI c)), (3, .int (nI g))]) hx hy dX7_giveUp_132 hl (k := 2) rfl (nI_1 _) (by decide) rfl (fun ls hl => ?_)
                        refine lv_iinc (v := (nI (t + 1))) (lv' := [(6, .int (nI (t + 1))), (5, .int (nI ((gvC (wr R rMod 19 (nI 0)) c g lo (rcN (wr R rMod 19 (nI 0)) c lo (mnN R c)) t) + 1))), (7, .int (nI ((((c * 7) + t) * 3) + g))), (4, .int (rcN (wr R rMod 19 (nI 0)) c lo (mnN R c))), (0, .ref (V.1 rMod)), (1, .int (nI lo)), (2, .int (nI c)), (3, .int (nI g))]) hx hy dX7_giveUp_135 hl (k := 2) rfl (nI_1 _) (by decide) rfl (fun ls hl => ?_)
                        refine lv_goto (tgt := 65) hx hy dX7_giveUp_138 (by decide) ?_
                        exact ih_65 (t + 1) (by omega) _ _ (by rw [show ((M, gvN (wr R rMod 19 (nI 0)) c g lo (rcN (wr R rMod 19 (nI 0)) c lo (mnN R c)) (t + 1), o) : wW) = (M, wr (gvN (wr R rMod 19 (nI 0)) c g lo (rcN (wr R rMod 19 (nI 0)) c lo (mnN R c)) t) 109 ((((c * 7) + t) * 3) + g) (nI 0), o) from by simp [gvN, gvP, bitI, c_5, c_12, c_19, c_31, c_46, eq_true c_73, eq_false (Nat.not_le.mpr c_73), eq_false c_96, c_107, eq_true c_118]]; exact h) _ (by have hl := lv_sub hl [0, 1, 3, 4, 5, 6, 7] (l' := [(6, .int (nI (t + 1))), (5, .int (nI ((gvC (wr R rMod 19 (nI 0)) c g lo (rcN (wr R rMod 19 (nI 0)) c lo (mnN R c)) t) + 1))), (4, .int (rcN (wr R rMod 19 (nI 0)) c lo (mnN R c))), (0, .ref (V.1 rMod)), (1, .int (nI lo)), (2, .int (nI c)), (3, .int (nI g))]) rfl; rw [show (.int (nI (t + 1)) : Value) = .int (nI (t + 1)) from rfl] at hl; rw [show (.int (nI ((gvC (wr R rMod 19 (nI 0)) c g lo (rcN (wr R rMod 19 (nI 0)) c lo (mnN R c)) t) + 1)) : Value) = .int (nI (gvC (wr R rMod 19 (nI 0)) c g lo (rcN (wr R rMod 19 (nI 0)) c lo (mnN R c)) (t + 1))) from by simp [gvC, gvP, bitI, c_5, c_12, c_19, c_31, c_46, eq_true c_73, eq_false (Nat.not_le.mpr c_73), eq_false c_96, c_107, eq_true c_118]] at hl; exact hl)
                      · skip
                        refine lv_goto (tgt := 135) hx hy dX7_giveUp_121 (by decide) ?_
                        refine lv_iinc (v := (nI (t + 1))) (lv' := [(6, .int (nI (t + 1))), (7, .int (nI ((((c * 7) + t) * 3) + g))), (5, .int (nI (gvC (wr R rMod 19 (nI 0)) c g lo (rcN (wr R rMod 19 (nI 0)) c lo (mnN R c)) t))), (4, .int (rcN (wr R rMod 19 (nI 0)) c lo (mnN R c))), (0, .ref (V.1 rMod)), (1, .int (nI lo)), (2, .int (nI c)), (3, .int (nI g))]) hx hy dX7_giveUp_135 hl (k := 1) rfl (nI_1 _) (by decide) rfl (fun ls hl => ?_)
                        refine lv_goto (tgt := 65) hx hy dX7_giveUp_138 (by decide) ?_
                        exact ih_65 (t + 1) (by omega) _ _ (by rw [show ((M, gvN (wr R rMod 19 (nI 0)) c g lo (rcN (wr R rMod 19 (nI 0)) c lo (mnN R c)) (t + 1), o) : wW) = (M, gvN (wr R rMod 19 (nI 0)) c g lo (rcN (wr R rMod 19 (nI 0)) c lo (mnN R c)) t, o) from by simp [gvN, gvP, bitI, c_5, c_12, c_19, c_31, c_46, eq_true c_73, eq_false (Nat.not_le.mpr c_73), eq_false c_96, c_107, eq_false c_118]]; exact h) _ (by have hl := lv_sub hl [0, 2, 3, 4, 5, 6, 7] (l' := [(6, .int (nI (t + 1))), (5, .int (nI (gvC (wr R rMod 19 (nI 0)) c g lo (rcN (wr R rMod 19 (nI 0)) c lo (mnN R c)) t))), (4, .int (rcN (wr R rMod 19 (nI 0)) c lo (mnN R c))), (0, .ref (V.1 rMod)), (1, .int (nI lo)), (2, .int (nI c)), (3, .int (nI g))]) rfl; rw [show (.int (nI (t + 1)) : Value) = .int (nI (t + 1)) from rfl] at hl; rw [show (.int (nI (gvC (wr R rMod 19 (nI 0)) c g lo (rcN (wr R rMod 19 (nI 0)) c lo (mnN R c)) t)) : Value) = .int (nI (gvC (wr R rMod 19 (nI 0)) c g lo (rcN (wr R rMod 19 (nI 0)) c lo (mnN R c)) (t + 1))) from by simp [gvC, gvP, bitI, c_5, c_12, c_19, c_31, c_46, eq_true c_73, eq_false (Nat.not_le.mpr c_73), eq_false c_96, c_107, eq_false c_118]] at hl; exact hl)
            exact L_65 ((mnN R c)) 0 (by omega) _ _ (by rw [show (M, gvN (wr R rMod 19 (nI 0)) c g lo (rcN (wr R rMod 19 (nI 0)) c lo (mnN R c)) 0, o) = (M, wr R rMod 19 (nI 0), o) from rfl]; exact h) _ (by have hl := lv_sub hl [0, 1, 2, 3, 4, 5, 6] (l' := [(6, .int (nI 0)), (5, .int (nI 0)), (4, .int (rcN (wr R rMod 19 (nI 0)) c lo (mnN R c))), (0, .ref (V.1 rMod)), (1, .int (nI lo)), (2, .int (nI c)), (3, .int (nI g))]) rfl; rw [show (.int (nI 0) : Value) = .int (nI (gvC (wr R rMod 19 (nI 0)) c g lo (rcN (wr R rMod 19 (nI 0)) c lo (mnN R c)) 0)) from rfl] at hl; exact hl)
          · skip
            rw [noV_f c_46] at h
            rw [wr_wr] at h
            have hno_46 : mOpen (wr R rMod 19 (nI 0)) c g lo = false := not_tt c_46
            refine lv_iconst (v := (nI 0)) hx hy dX7_giveUp_49 (by decide) ?_
            exact e_int C h rfl dX7_giveUp_50 (⟨_, rfl, by simp [kGiveR, vR3, nrR, hi_c, hv_c, hi_g, hv_g, hi_lo, hv_lo, hno_46, c_5, c_12, c_19, c_31, c_46, suR], by simp [kGiveR, vR3, nrR, giveR, thr, suR, hi_c, hv_c, hi_g, hv_g, hi_lo, hv_lo, hno_46, c_5, c_12, c_19, c_31, c_46]⟩) (by decide) (by decide)

set_option maxRecDepth 20000 in
theorem in_X7_leaseOf_X7 : ∀ x ∈ wsX70, x ∈ wsX7_leaseOf := by decide +kernel
set_option maxRecDepth 100000 in
set_option maxHeartbeats 4000000 in
/-- the reference: leaseOf -/
theorem c_X7_leaseOf (l : Launch) {G : va_G} {V : wV} {rs : List Nat} (hr : bR rs) (M R : wM) (o : wO) (rv : RV R) (lo0 ca ga : Int32) : CT l G V rs yX7_leaseOf wsX7_leaseOf 2 42 0 0 [.ref (V.1 rMod), .int lo0, .int ca, .int ga] (M, R, o) (fun v u => ∃ r, v = some (.int r) ∧ (kG3R lo0 ca ga = 0 → r = R 110 ((cI ca * 4 + cI lo0) * 3 + cI ga)) ∧ u = (M, thr R (kG3R lo0 ca ga), o)) (fun _ _ => False) := by
  refine ct_of (cc := cX7_leaseOf) (maxL := 4) (ret := (some .int)) (by decide) rfl (Nat.le_of_ble_eq_true rfl) ?_
  intro p e s m below meth cd ls C h X hT hl
  have hx := C.1
  have hy := C.2.1
  have hl : lv_has ls 4 [(0, .ref (V.1 rMod)), (1, .int lo0), (2, .int ca), (3, .int ga)] := hl
  have hmn : ∀ c, c < 2 → R 101 c = nI (mnN R c) ∧ mnN R c ≤ 7 := fun c hc => ⟨(rv.1 c hc).1, (rv.1 c hc).2.1⟩
  have hwn : ∀ c, c < 2 → R 103 c = nI (wrN R c) ∧ wrN R c ≤ 60 := fun c hc => ⟨(rv.1 c hc).2.2.1, (rv.1 c hc).2.2.2.1⟩
  have hsi9 := rv.2.1.2
  have htr9 := rv.2.2.1.2
  refine lv_aload_n hx hy dX7_leaseOf_0 rfl (lv_at hl 0 rfl) ?_
  refine lv_iload_n hx hy dX7_leaseOf_1 rfl (lv_at hl 2 rfl) ?_
  refine n_go0 C h (n_S (As := [.int ca]) (rest := [.ref (V.1 rMod)]) C h X (c_X7_isCastle l M R o ca) (va_cwS 1 C.2.2.2.2.1 gX7_leaseOf_X7_isCastle rfl rfl rfl (by decide +kernel) ⟨Nat.le_of_ble_eq_true rfl, Nat.le_of_ble_eq_true rfl⟩) rfl hl.1 rfl (Nat.le_of_ble_eq_true rfl) dX7_leaseOf_2 ⟨by decide, by decide⟩) (fun _ _ z => z) (fun v_2 u_2 H locs hpo h => ?_)
  obtain ⟨rfl, rfl⟩ := hpo
  refine b_eq hx hy (tgt := 26) dX7_leaseOf_5 (by decide) (fun c_5 => ?_) (fun c_5 => ?_)
  · skip
    refine lv_iconst (v := (nI 0)) hx hy dX7_leaseOf_26 (by decide) ?_
    refine lv_iconst (v := (nI 1)) hx hy dX7_leaseOf_27 (by decide) ?_
    refine n_go0 C h (n_V (As := [.int (b2i false), .int (nI 1)]) (rest := []) C h X (hr 100 (by decide)) ((cel_hi (by decide)).trans (celF_Mod _)) rfl (c_X7_no l hr M R o false (nI 1)) (cwV 2 C.2.2.2.2.1 gX7_leaseOf_X7_no rfl rfl rfl (by decide +kernel) ⟨Nat.le_of_ble_eq_true rfl, Nat.le_of_ble_eq_true rfl⟩) rfl hl.1 rfl (Nat.le_of_ble_eq_true rfl) dX7_leaseOf_28 ⟨by decide, by decide⟩) (fun _ _ z => z) (fun v_28 u_28 H locs hpo h => ?_)
    obtain ⟨rfl, rfl⟩ := hpo
    refine b_eq hx hy (tgt := 38) dX7_leaseOf_31 (by decide) (fun c_31 => ?_) (fun c_31 => ?_)
    · skip
      exact absurd c_31 (by decide)
    · skip
      rw [noV_f c_31] at h
      refine lv_iconst (v := (nI 0)) hx hy dX7_leaseOf_34 (by decide) ?_
      refine lv_goto (tgt := 52) hx hy dX7_leaseOf_35 (by decide) ?_
      exact e_int C h rfl dX7_leaseOf_52 (⟨_, rfl, by simp [kG3R, vR3, c_5, c_31, suR], by simp [kG3R, vR3, thr, suR, c_5, c_31]⟩) (by decide) (by decide)
  · skip
    obtain ⟨c, hc, rfl⟩ := vIn_ok' c_5 (by decide)
    have hv_c : vIn (nI c) 2 = true := vIn_nI hc (by decide)
    have hi_c : cI (nI c) = c := nI_clamp (by omega)
    have hmn9 := (hmn c hc).2
    have hwn9 := (hwn c hc).2
    have hB := (rv.1 c hc).2.2.2.2.1
    have hEr := (rv.1 c hc).2.2.2.2.2.1
    have hU := (rv.1 c hc).2.2.2.2.2.2
    refine lv_iload_n hx hy dX7_leaseOf_8 rfl (lv_at hl 3 rfl) ?_
    refine n_go0 C h (n_S (As := [.int ga]) (rest := [.ref (V.1 rMod)]) C h X (c_X7_isGate l M R o ga) (va_cwS 1 C.2.2.2.2.1 gX7_leaseOf_X7_isGate rfl rfl rfl (by decide +kernel) ⟨Nat.le_of_ble_eq_true rfl, Nat.le_of_ble_eq_true rfl⟩) rfl hl.1 rfl (Nat.le_of_ble_eq_true rfl) dX7_leaseOf_9 ⟨by decide, by decide⟩) (fun _ _ z => z) (fun v_9 u_9 H locs hpo h => ?_)
    obtain ⟨rfl, rfl⟩ := hpo
    refine b_eq hx hy (tgt := 26) dX7_leaseOf_12 (by decide) (fun c_12 => ?_) (fun c_12 => ?_)
    · skip
      refine lv_iconst (v := (nI 0)) hx hy dX7_leaseOf_26 (by decide) ?_
      refine lv_iconst (v := (nI 1)) hx hy dX7_leaseOf_27 (by decide) ?_
      refine n_go0 C h (n_V (As := [.int (b2i false), .int (nI 1)]) (rest := []) C h X (hr 100 (by decide)) ((cel_hi (by decide)).trans (celF_Mod _)) rfl (c_X7_no l hr M R o false (nI 1)) (cwV 2 C.2.2.2.2.1 gX7_leaseOf_X7_no rfl rfl rfl (by decide +kernel) ⟨Nat.le_of_ble_eq_true rfl, Nat.le_of_ble_eq_true rfl⟩) rfl hl.1 rfl (Nat.le_of_ble_eq_true rfl) dX7_leaseOf_28 ⟨by decide, by decide⟩) (fun _ _ z => z) (fun v_28 u_28 H locs hpo h => ?_)
      obtain ⟨rfl, rfl⟩ := hpo
      refine b_eq hx hy (tgt := 38) dX7_leaseOf_31 (by decide) (fun c_31 => ?_) (fun c_31 => ?_)
      · skip
        exact absurd c_31 (by decide)
      · skip
        rw [noV_f c_31] at h
        refine lv_iconst (v := (nI 0)) hx hy dX7_leaseOf_34 (by decide) ?_
        refine lv_goto (tgt := 52) hx hy dX7_leaseOf_35 (by decide) ?_
        exact e_int C h rfl dX7_leaseOf_52 (⟨_, rfl, by simp [kG3R, vR3, hi_c, hv_c, c_5, c_12, c_31, suR], by simp [kG3R, vR3, thr, suR, hi_c, hv_c, c_5, c_12, c_31]⟩) (by decide) (by decide)
    · skip
      obtain ⟨g, hg, rfl⟩ := vIn_ok' c_12 (by decide)
      have hv_g : vIn (nI g) 3 = true := vIn_nI hg (by decide)
      have hi_g : cI (nI g) = g := nI_clamp (by omega)
      refine lv_iload_n hx hy dX7_leaseOf_15 rfl (lv_at hl 1 rfl) ?_
      refine n_go0 C h (n_S (As := [.int lo0]) (rest := [.ref (V.1 rMod)]) C h X (c_X7_isLord l M R o lo0) (va_cwS 1 C.2.2.2.2.1 gX7_leaseOf_X7_isLord rfl rfl rfl (by decide +kernel) ⟨Nat.le_of_ble_eq_true rfl, Nat.le_of_ble_eq_true rfl⟩) rfl hl.1 rfl (Nat.le_of_ble_eq_true rfl) dX7_leaseOf_16 ⟨by decide, by decide⟩) (fun _ _ z => z) (fun v_16 u_16 H locs hpo h => ?_)
      obtain ⟨rfl, rfl⟩ := hpo
      refine b_eq hx hy (tgt := 26) dX7_leaseOf_19 (by decide) (fun c_19 => ?_) (fun c_19 => ?_)
      · skip
        refine lv_iconst (v := (nI 0)) hx hy dX7_leaseOf_26 (by decide) ?_
        refine lv_iconst (v := (nI 1)) hx hy dX7_leaseOf_27 (by decide) ?_
        refine n_go0 C h (n_V (As := [.int (b2i false), .int (nI 1)]) (rest := []) C h X (hr 100 (by decide)) ((cel_hi (by decide)).trans (celF_Mod _)) rfl (c_X7_no l hr M R o false (nI 1)) (cwV 2 C.2.2.2.2.1 gX7_leaseOf_X7_no rfl rfl rfl (by decide +kernel) ⟨Nat.le_of_ble_eq_true rfl, Nat.le_of_ble_eq_true rfl⟩) rfl hl.1 rfl (Nat.le_of_ble_eq_true rfl) dX7_leaseOf_28 ⟨by decide, by decide⟩) (fun _ _ z => z) (fun v_28 u_28 H locs hpo h => ?_)
        obtain ⟨rfl, rfl⟩ := hpo
        refine b_eq hx hy (tgt := 38) dX7_leaseOf_31 (by decide) (fun c_31 => ?_) (fun c_31 => ?_)
        · skip
          exact absurd c_31 (by decide)
        · skip
          rw [noV_f c_31] at h
          refine lv_iconst (v := (nI 0)) hx hy dX7_leaseOf_34 (by decide) ?_
          refine lv_goto (tgt := 52) hx hy dX7_leaseOf_35 (by decide) ?_
          exact e_int C h rfl dX7_leaseOf_52 (⟨_, rfl, by simp [kG3R, vR3, hi_c, hv_c, hi_g, hv_g, c_5, c_12, c_19, c_31, suR], by simp [kG3R, vR3, thr, suR, hi_c, hv_c, hi_g, hv_g, c_5, c_12, c_19, c_31]⟩) (by decide) (by decide)
      · skip
        obtain ⟨lo, hlo, rfl⟩ := vIn_ok' c_19 (by decide)
        have hv_lo : vIn (nI lo) 4 = true := vIn_nI hlo (by decide)
        have hi_lo : cI (nI lo) = lo := nI_clamp (by omega)
        refine lv_iconst (v := (nI 1)) hx hy dX7_leaseOf_22 (by decide) ?_
        refine lv_goto (tgt := 27) hx hy dX7_leaseOf_23 (by decide) ?_
        refine lv_iconst (v := (nI 1)) hx hy dX7_leaseOf_27 (by decide) ?_
        refine n_go0 C h (n_V (As := [.int (b2i true), .int (nI 1)]) (rest := []) C h X (hr 100 (by decide)) ((cel_hi (by decide)).trans (celF_Mod _)) rfl (c_X7_no l hr M R o true (nI 1)) (cwV 2 C.2.2.2.2.1 gX7_leaseOf_X7_no rfl rfl rfl (by decide +kernel) ⟨Nat.le_of_ble_eq_true rfl, Nat.le_of_ble_eq_true rfl⟩) rfl hl.1 rfl (Nat.le_of_ble_eq_true rfl) dX7_leaseOf_28 ⟨by decide, by decide⟩) (fun _ _ z => z) (fun v_28 u_28 H locs hpo h => ?_)
        obtain ⟨rfl, rfl⟩ := hpo
        refine b_eq hx hy (tgt := 38) dX7_leaseOf_31 (by decide) (fun c_31 => ?_) (fun c_31 => ?_)
        · skip
          rw [noV_t c_31] at h
          refine lv_aload_n hx hy dX7_leaseOf_38 rfl (lv_at hl 0 rfl) ?_
          refine g_f C h (hr 100 (by decide)) (cel_hi (by decide)) celF_Mod rfl in_X7_leaseOf_X7 9 (by decide) (by decide +kernel) (v := .ref (V.1 110)) rfl dX7_leaseOf_39 ?_
          refine lv_iload_n hx hy dX7_leaseOf_42 rfl (lv_at hl 2 rfl) ?_
          refine lv_iconst (v := (nI 4)) hx hy dX7_leaseOf_43 (by decide) ?_
          refine lv_imul hx hy dX7_leaseOf_44 ?_
          refine lv_topn (pk_mul _ _) ?_
          refine lv_iload_n hx hy dX7_leaseOf_45 rfl (lv_at hl 1 rfl) ?_
          refine lv_iadd hx hy dX7_leaseOf_46 ?_
          refine lv_topn (nI_add _ _) ?_
          refine lv_iconst (v := (nI 3)) hx hy dX7_leaseOf_47 (by decide) ?_
          refine lv_imul hx hy dX7_leaseOf_48 ?_
          refine lv_topn (pk_mul _ _) ?_
          refine lv_iload_n hx hy dX7_leaseOf_49 rfl (lv_at hl 3 rfl) ?_
          refine lv_iadd hx hy dX7_leaseOf_50 ?_
          refine lv_topn (nI_add _ _) ?_
          refine g_i C h (hr 110 (by decide)) (n := 24) (k := ((((c * 4) + lo) * 3) + g)) (cel_hi (by decide)) (fun _ => rfl) (by omega) (by decide) (v := (R 110 ((((c * 4) + lo) * 3) + g))) (show (wr R rMod 19 (nI 0)) 110 ((((c * 4) + lo) * 3) + g) = (R 110 ((((c * 4) + lo) * 3) + g)) from (wr_othr (by decide))) dX7_leaseOf_51 ?_
          exact e_int C h rfl dX7_leaseOf_52 (⟨_, rfl, by simp [kG3R, vR3, hi_c, hv_c, hi_g, hv_g, hi_lo, hv_lo, c_5, c_12, c_19, c_31, suR], by simp [kG3R, vR3, thr, suR, hi_c, hv_c, hi_g, hv_g, hi_lo, hv_lo, c_5, c_12, c_19, c_31]⟩) (by decide) (by decide)
        · skip
          exact absurd c_31 (by decide)

set_option maxRecDepth 100000 in
set_option maxHeartbeats 4000000 in
/-- the reference: openFor -/
theorem c_X7_openFor (l : Launch) {G : va_G} {V : wV} {rs : List Nat} (hr : bR rs) (M R : wM) (o : wO) (rv : RV R) (ca ga : Int32) : CT l G V rs yX7_openFor wsX7_openFor 2 42 0 0 [.ref (V.1 rMod), .int ca, .int ga] (M, R, o) (fun v u => ∃ r, v = some (.int r) ∧ (kOpenR R ca ga = 0 → r = ofN (thr R 0) (cI ca) (cI ga) 4) ∧ u = (M, thr R (kOpenR R ca ga), o)) (fun _ _ => False) := by
  refine ct_of (cc := cX7_openFor) (maxL := 5) (ret := (some .int)) (by decide) rfl (Nat.le_of_ble_eq_true rfl) ?_
  intro p e s m below meth cd ls C h X hT hl
  have hx := C.1
  have hy := C.2.1
  have hl : lv_has ls 5 [(0, .ref (V.1 rMod)), (1, .int ca), (2, .int ga)] := hl
  have hmn : ∀ c, c < 2 → R 101 c = nI (mnN R c) ∧ mnN R c ≤ 7 := fun c hc => ⟨(rv.1 c hc).1, (rv.1 c hc).2.1⟩
  have hwn : ∀ c, c < 2 → R 103 c = nI (wrN R c) ∧ wrN R c ≤ 60 := fun c hc => ⟨(rv.1 c hc).2.2.1, (rv.1 c hc).2.2.2.1⟩
  have hsi9 := rv.2.1.2
  have htr9 := rv.2.2.1.2
  refine lv_aload_n hx hy dX7_openFor_0 rfl (lv_at hl 0 rfl) ?_
  refine lv_iload_n hx hy dX7_openFor_1 rfl (lv_at hl 1 rfl) ?_
  refine n_go0 C h (n_S (As := [.int ca]) (rest := [.ref (V.1 rMod)]) C h X (c_X7_isCastle l M R o ca) (va_cwS 1 C.2.2.2.2.1 gX7_openFor_X7_isCastle rfl rfl rfl (by decide +kernel) ⟨Nat.le_of_ble_eq_true rfl, Nat.le_of_ble_eq_true rfl⟩) rfl hl.1 rfl (Nat.le_of_ble_eq_true rfl) dX7_openFor_2 ⟨by decide, by decide⟩) (fun _ _ z => z) (fun v_2 u_2 H locs hpo h => ?_)
  obtain ⟨rfl, rfl⟩ := hpo
  refine b_eq hx hy (tgt := 19) dX7_openFor_5 (by decide) (fun c_5 => ?_) (fun c_5 => ?_)
  · skip
    refine lv_iconst (v := (nI 0)) hx hy dX7_openFor_19 (by decide) ?_
    refine lv_iconst (v := (nI 1)) hx hy dX7_openFor_20 (by decide) ?_
    refine n_go0 C h (n_V (As := [.int (b2i false), .int (nI 1)]) (rest := []) C h X (hr 100 (by decide)) ((cel_hi (by decide)).trans (celF_Mod _)) rfl (c_X7_no l hr M R o false (nI 1)) (cwV 2 C.2.2.2.2.1 gX7_openFor_X7_no rfl rfl rfl (by decide +kernel) ⟨Nat.le_of_ble_eq_true rfl, Nat.le_of_ble_eq_true rfl⟩) rfl hl.1 rfl (Nat.le_of_ble_eq_true rfl) dX7_openFor_21 ⟨by decide, by decide⟩) (fun _ _ z => z) (fun v_21 u_21 H locs hpo h => ?_)
    obtain ⟨rfl, rfl⟩ := hpo
    refine b_eq hx hy (tgt := 29) dX7_openFor_24 (by decide) (fun c_24 => ?_) (fun c_24 => ?_)
    · skip
      exact absurd c_24 (by decide)
    · skip
      rw [noV_f c_24] at h
      refine lv_iconst (v := (nI 0)) hx hy dX7_openFor_27 (by decide) ?_
      exact e_int C h rfl dX7_openFor_28 (⟨_, rfl, by simp [kOpenR, c_5, c_24, suR], by simp [kOpenR, thr, suR, c_5, c_24]⟩) (by decide) (by decide)
  · skip
    obtain ⟨c, hc, rfl⟩ := vIn_ok' c_5 (by decide)
    have hv_c : vIn (nI c) 2 = true := vIn_nI hc (by decide)
    have hi_c : cI (nI c) = c := nI_clamp (by omega)
    have hmn9 := (hmn c hc).2
    have hwn9 := (hwn c hc).2
    have hB := (rv.1 c hc).2.2.2.2.1
    have hEr := (rv.1 c hc).2.2.2.2.2.1
    have hU := (rv.1 c hc).2.2.2.2.2.2
    refine lv_iload_n hx hy dX7_openFor_8 rfl (lv_at hl 2 rfl) ?_
    refine n_go0 C h (n_S (As := [.int ga]) (rest := [.ref (V.1 rMod)]) C h X (c_X7_isGate l M R o ga) (va_cwS 1 C.2.2.2.2.1 gX7_openFor_X7_isGate rfl rfl rfl (by decide +kernel) ⟨Nat.le_of_ble_eq_true rfl, Nat.le_of_ble_eq_true rfl⟩) rfl hl.1 rfl (Nat.le_of_ble_eq_true rfl) dX7_openFor_9 ⟨by decide, by decide⟩) (fun _ _ z => z) (fun v_9 u_9 H locs hpo h => ?_)
    obtain ⟨rfl, rfl⟩ := hpo
    refine b_eq hx hy (tgt := 19) dX7_openFor_12 (by decide) (fun c_12 => ?_) (fun c_12 => ?_)
    · skip
      refine lv_iconst (v := (nI 0)) hx hy dX7_openFor_19 (by decide) ?_
      refine lv_iconst (v := (nI 1)) hx hy dX7_openFor_20 (by decide) ?_
      refine n_go0 C h (n_V (As := [.int (b2i false), .int (nI 1)]) (rest := []) C h X (hr 100 (by decide)) ((cel_hi (by decide)).trans (celF_Mod _)) rfl (c_X7_no l hr M R o false (nI 1)) (cwV 2 C.2.2.2.2.1 gX7_openFor_X7_no rfl rfl rfl (by decide +kernel) ⟨Nat.le_of_ble_eq_true rfl, Nat.le_of_ble_eq_true rfl⟩) rfl hl.1 rfl (Nat.le_of_ble_eq_true rfl) dX7_openFor_21 ⟨by decide, by decide⟩) (fun _ _ z => z) (fun v_21 u_21 H locs hpo h => ?_)
      obtain ⟨rfl, rfl⟩ := hpo
      refine b_eq hx hy (tgt := 29) dX7_openFor_24 (by decide) (fun c_24 => ?_) (fun c_24 => ?_)
      · skip
        exact absurd c_24 (by decide)
      · skip
        rw [noV_f c_24] at h
        refine lv_iconst (v := (nI 0)) hx hy dX7_openFor_27 (by decide) ?_
        exact e_int C h rfl dX7_openFor_28 (⟨_, rfl, by simp [kOpenR, hi_c, hv_c, c_5, c_12, c_24, suR], by simp [kOpenR, thr, suR, hi_c, hv_c, c_5, c_12, c_24]⟩) (by decide) (by decide)
    · skip
      obtain ⟨g, hg, rfl⟩ := vIn_ok' c_12 (by decide)
      have hv_g : vIn (nI g) 3 = true := vIn_nI hg (by decide)
      have hi_g : cI (nI g) = g := nI_clamp (by omega)
      refine lv_iconst (v := (nI 1)) hx hy dX7_openFor_15 (by decide) ?_
      refine lv_goto (tgt := 20) hx hy dX7_openFor_16 (by decide) ?_
      refine lv_iconst (v := (nI 1)) hx hy dX7_openFor_20 (by decide) ?_
      refine n_go0 C h (n_V (As := [.int (b2i true), .int (nI 1)]) (rest := []) C h X (hr 100 (by decide)) ((cel_hi (by decide)).trans (celF_Mod _)) rfl (c_X7_no l hr M R o true (nI 1)) (cwV 2 C.2.2.2.2.1 gX7_openFor_X7_no rfl rfl rfl (by decide +kernel) ⟨Nat.le_of_ble_eq_true rfl, Nat.le_of_ble_eq_true rfl⟩) rfl hl.1 rfl (Nat.le_of_ble_eq_true rfl) dX7_openFor_21 ⟨by decide, by decide⟩) (fun _ _ z => z) (fun v_21 u_21 H locs hpo h => ?_)
      obtain ⟨rfl, rfl⟩ := hpo
      refine b_eq hx hy (tgt := 29) dX7_openFor_24 (by decide) (fun c_24 => ?_) (fun c_24 => ?_)
      · skip
        rw [noV_t c_24] at h
        refine lv_iconst (v := (-1)) hx hy dX7_openFor_29 (by decide) ?_
        refine lv_istore_n (lv' := [(3, .int (-1)), (0, .ref (V.1 rMod)), (1, .int (nI c)), (2, .int (nI g))]) hx hy dX7_openFor_30 rfl hl (by decide) rfl (fun ls hl => ?_)
        refine lv_iconst (v := (nI 0)) hx hy dX7_openFor_31 (by decide) ?_
        refine lv_istore (lv' := [(4, .int (nI 0)), (3, .int (-1)), (0, .ref (V.1 rMod)), (1, .int (nI c)), (2, .int (nI g))]) hx hy dX7_openFor_32 hl (by decide) rfl (fun ls hl => ?_)
        have L_34 : ∀ (n_34 j : Nat), n_34 + j = 4 → ∀ (H : Heap) (locs : List Loc), HH G V rs (M, wr R rMod 19 (nI 0), o) s H locs → ∀ ls : Array Slot, lv_has ls 5 [(4, .int (nI j)), (3, .int (ofN (wr R rMod 19 (nI 0)) c g j)), (0, .ref (V.1 rMod)), (1, .int (nI c)), (2, .int (nI g))] → W p l e { frames := 2, cells := 0, slots := 0, locals := 42 } s m [.ref (V.1 rMod), .int (nI c), .int (nI g)].toArray below meth cd H locs 0 0 (QM G V rs below [.ref (V.1 rMod), .int (nI c), .int (nI g)].toArray s 0 0 (fun v u => ∃ r, v = some (.int r) ∧ (kOpenR R (nI c) (nI g) = 0 → r = ofN (thr R 0) (cI (nI c)) (cI (nI g)) 4) ∧ u = (M, thr R (kOpenR R (nI c) (nI g)), o)) (fun _ _ => False)) (F0 m 34 ls []) := by
          intro n_34
          induction n_34 with
          | zero =>
            intro j hk_34 H locs h ls hl
            have hz_34 : j = 4 := by omega
            try rw [hz_34] at h
            try rw [hz_34] at hl
            refine lv_iload hx hy dX7_openFor_34 (lv_at hl 0 rfl) ?_
            refine lv_iconst (v := (nI 4)) hx hy dX7_openFor_36 (by decide) ?_
            refine n_ge hx hy (by decide) (by decide) (tgt := 64) dX7_openFor_37 (by decide) (fun c_37 => ?_) (fun c_37 => ?_)
            · skip
              refine lv_aload_n hx hy dX7_openFor_64 rfl (lv_at hl 2 rfl) ?_
              refine lv_iload_n hx hy dX7_openFor_65 rfl (lv_at hl 1 rfl) ?_
              refine z_lt hx hy (tgt := 73) dX7_openFor_66 (by decide) (fun c_66 => ?_) (fun c_66 => ?_)
              · skip
                refine lv_iconst (v := (nI 0)) hx hy dX7_openFor_73 (by decide) ?_
                refine lv_iconst (v := (nI 2)) hx hy dX7_openFor_74 (by decide) ?_
                refine n_go0 C h (n_V (As := [.int (b2i false), .int (nI 2)]) (rest := []) C h X (hr 100 (by decide)) ((cel_hi (by decide)).trans (celF_Mod _)) rfl (c_X7_no l hr M (wr R rMod 19 (nI 0)) o false (nI 2)) (cwV 2 C.2.2.2.2.1 gX7_openFor_X7_no rfl rfl rfl (by decide +kernel) ⟨Nat.le_of_ble_eq_true rfl, Nat.le_of_ble_eq_true rfl⟩) rfl hl.1 rfl (Nat.le_of_ble_eq_true rfl) dX7_openFor_75 ⟨by decide, by decide⟩) (fun _ _ z => z) (fun v_75 u_75 H locs hpo h => ?_)
                obtain ⟨rfl, rfl⟩ := hpo
                refine b_eq hx hy (tgt := 85) dX7_openFor_78 (by decide) (fun c_78 => ?_) (fun c_78 => ?_)
                · skip
                  exact absurd c_78 (by decide)
                · skip
                  rw [noV_f c_78] at h
                  rw [wr_wr] at h
                  refine lv_iconst (v := (nI 0)) hx hy dX7_openFor_81 (by decide) ?_
                  refine lv_goto (tgt := 86) hx hy dX7_openFor_82 (by decide) ?_
                  exact e_int C h rfl dX7_openFor_86 (⟨_, rfl, by simp [kOpenR, hi_c, hv_c, hi_g, hv_g, c_5, c_12, c_24, eq_true c_37, eq_false (Nat.not_lt.mpr c_37), eq_true c_66, eq_false (Int32.not_le.mpr c_66), c_78, suR], by simp [kOpenR, thr, suR, hi_c, hv_c, hi_g, hv_g, c_5, c_12, c_24, eq_true c_37, eq_false (Nat.not_lt.mpr c_37), eq_true c_66, eq_false (Int32.not_le.mpr c_66), c_78]⟩) (by decide) (by decide)
              · skip
                refine lv_iconst (v := (nI 1)) hx hy dX7_openFor_69 (by decide) ?_
                refine lv_goto (tgt := 74) hx hy dX7_openFor_70 (by decide) ?_
                refine lv_iconst (v := (nI 2)) hx hy dX7_openFor_74 (by decide) ?_
                refine n_go0 C h (n_V (As := [.int (b2i true), .int (nI 2)]) (rest := []) C h X (hr 100 (by decide)) ((cel_hi (by decide)).trans (celF_Mod _)) rfl (c_X7_no l hr M (wr R rMod 19 (nI 0)) o true (nI 2)) (cwV 2 C.2.2.2.2.1 gX7_openFor_X7_no rfl rfl rfl (by decide +kernel) ⟨Nat.le_of_ble_eq_true rfl, Nat.le_of_ble_eq_true rfl⟩) rfl hl.1 rfl (Nat.le_of_ble_eq_true rfl) dX7_openFor_75 ⟨by decide, by decide⟩) (fun _ _ z => z) (fun v_75 u_75 H locs hpo h => ?_)
                obtain ⟨rfl, rfl⟩ := hpo
                refine b_eq hx hy (tgt := 85) dX7_openFor_78 (by decide) (fun c_78 => ?_) (fun c_78 => ?_)
                · skip
                  rw [noV_t c_78] at h
                  rw [wr_wr] at h
                  refine lv_iload_n hx hy dX7_openFor_85 rfl (lv_at hl 1 rfl) ?_
                  exact e_int C h rfl dX7_openFor_86 (⟨_, rfl, by simp [kOpenR, hi_c, hv_c, hi_g, hv_g, c_5, c_12, c_24, eq_true c_37, eq_false (Nat.not_lt.mpr c_37), eq_true c_66, eq_false (Int32.not_lt.mpr c_66), c_78, suR], by simp [kOpenR, thr, suR, hi_c, hv_c, hi_g, hv_g, c_5, c_12, c_24, eq_true c_37, eq_false (Nat.not_lt.mpr c_37), eq_true c_66, eq_false (Int32.not_lt.mpr c_66), c_78]⟩) (by decide) (by decide)
                · skip
                  exact absurd c_78 (by decide)
            · skip
              exact absurd c_37 (by omega)
          | succ n_34 ih_34 =>
            intro j hk_34 H locs h ls hl
            have hz_34 : j < 4 := by omega
            refine lv_iload hx hy dX7_openFor_34 (lv_at hl 0 rfl) ?_
            refine lv_iconst (v := (nI 4)) hx hy dX7_openFor_36 (by decide) ?_
            refine n_ge hx hy (by omega) (by decide) (tgt := 64) dX7_openFor_37 (by decide) (fun c_37 => ?_) (fun c_37 => ?_)
            · skip
              exact absurd c_37 (by omega)
            · skip
              refine lv_aload_n hx hy dX7_openFor_40 rfl (lv_at hl 2 rfl) ?_
              refine lv_iload_n hx hy dX7_openFor_41 rfl (lv_at hl 3 rfl) ?_
              refine lv_iload_n hx hy dX7_openFor_42 rfl (lv_at hl 4 rfl) ?_
              refine lv_iload hx hy dX7_openFor_43 (lv_at hl 0 rfl) ?_
              refine n_go0 C h (n_V (As := [.int (nI c), .int (nI g), .int (nI j)]) (rest := []) C h X (hr 100 (by decide)) ((cel_hi (by decide)).trans (celF_Mod _)) rfl (c_X7_opens l hr M (wr R rMod 19 (nI 0)) o c hc g hg j (by omega)) (cwV 3 C.2.2.2.2.1 gX7_openFor_X7_opens rfl rfl rfl (by decide +kernel) ⟨Nat.le_of_ble_eq_true rfl, Nat.le_of_ble_eq_true rfl⟩) rfl hl.1 rfl (Nat.le_of_ble_eq_true rfl) dX7_openFor_45 ⟨by decide, by decide⟩) (fun _ _ z => z) (fun v_45 u_45 H locs hpo h => ?_)
              obtain ⟨rfl, rfl⟩ := hpo
              refine b_eq hx hy (tgt := 56) dX7_openFor_48 (by decide) (fun c_48 => ?_) (fun c_48 => ?_)
              · skip
                refine lv_iload_n hx hy dX7_openFor_56 rfl (lv_at hl 1 rfl) ?_
                refine lv_istore_n (lv' := [(3, .int (ofN (wr R rMod 19 (nI 0)) c g j)), (4, .int (nI j)), (0, .ref (V.1 rMod)), (1, .int (nI c)), (2, .int (nI g))]) hx hy dX7_openFor_57 rfl hl (by decide) rfl (fun ls hl => ?_)
                refine lv_iinc (v := (nI (j + 1))) (lv' := [(4, .int (nI (j + 1))), (3, .int (ofN (wr R rMod 19 (nI 0)) c g j)), (0, .ref (V.1 rMod)), (1, .int (nI c)), (2, .int (nI g))]) hx hy dX7_openFor_58 hl (k := 1) rfl (nI_1 _) (by decide) rfl (fun ls hl => ?_)
                refine lv_goto (tgt := 34) hx hy dX7_openFor_61 (by decide) ?_
                exact ih_34 (j + 1) (by omega) _ _ h _ (by have hl := lv_sub hl [0, 1, 2, 3, 4] (l' := [(4, .int (nI (j + 1))), (3, .int (ofN (wr R rMod 19 (nI 0)) c g j)), (0, .ref (V.1 rMod)), (1, .int (nI c)), (2, .int (nI g))]) rfl; rw [show (.int (nI (j + 1)) : Value) = .int (nI (j + 1)) from rfl] at hl; rw [show (.int (ofN (wr R rMod 19 (nI 0)) c g j) : Value) = .int (ofN (wr R rMod 19 (nI 0)) c g (j + 1)) from by simp [ofN, c_5, c_12, c_24, eq_true c_37, eq_false (Nat.not_le.mpr c_37), c_48]] at hl; exact hl)
              · skip
                refine lv_iload hx hy dX7_openFor_51 (lv_at hl 0 rfl) ?_
                refine lv_goto (tgt := 57) hx hy dX7_openFor_53 (by decide) ?_
                refine lv_istore_n (lv' := [(3, .int (nI j)), (4, .int (nI j)), (0, .ref (V.1 rMod)), (1, .int (nI c)), (2, .int (nI g))]) hx hy dX7_openFor_57 rfl hl (by decide) rfl (fun ls hl => ?_)
                refine lv_iinc (v := (nI (j + 1))) (lv' := [(4, .int (nI (j + 1))), (3, .int (nI j)), (0, .ref (V.1 rMod)), (1, .int (nI c)), (2, .int (nI g))]) hx hy dX7_openFor_58 hl (k := 1) rfl (nI_1 _) (by decide) rfl (fun ls hl => ?_)
                refine lv_goto (tgt := 34) hx hy dX7_openFor_61 (by decide) ?_
                exact ih_34 (j + 1) (by omega) _ _ h _ (by have hl := lv_sub hl [0, 1, 2, 3, 4] (l' := [(4, .int (nI (j + 1))), (3, .int (nI j)), (0, .ref (V.1 rMod)), (1, .int (nI c)), (2, .int (nI g))]) rfl; rw [show (.int (nI (j + 1)) : Value) = .int (nI (j + 1)) from rfl] at hl; rw [show (.int (nI j) : Value) = .int (ofN (wr R rMod 19 (nI 0)) c g (j + 1)) from by simp [ofN, c_5, c_12, c_24, eq_true c_37, eq_false (Nat.not_le.mpr c_37), c_48]] at hl; exact hl)
        exact L_34 (4) 0 (by omega) _ _ h _ (by have hl := lv_sub hl [0, 1, 2, 3, 4] (l' := [(4, .int (nI 0)), (3, .int (-1)), (0, .ref (V.1 rMod)), (1, .int (nI c)), (2, .int (nI g))]) rfl; rw [show (.int (-1) : Value) = .int (ofN (wr R rMod 19 (nI 0)) c g 0) from rfl] at hl; exact hl)
      · skip
        exact absurd c_24 (by decide)

set_option maxRecDepth 20000 in
theorem in_X7_voteOf_X7 : ∀ x ∈ wsX70, x ∈ wsX7_voteOf := by decide +kernel
set_option maxRecDepth 100000 in
set_option maxHeartbeats 4000000 in
/-- the reference: voteOf -/
theorem c_X7_voteOf (l : Launch) {G : va_G} {V : wV} {rs : List Nat} (hr : bR rs) (M R : wM) (o : wO) (rv : RV R) (ca to ga : Int32) : CT l G V rs yX7_voteOf wsX7_voteOf 2 44 0 0 [.ref (V.1 rMod), .int ca, .int to, .int ga] (M, R, o) (fun v u => ∃ r, v = some (.int r) ∧ (kVoteR R ca to ga = 0 → r = R 108 ((cI ca * 7 + cI to) * 3 + cI ga)) ∧ u = (M, thr R (kVoteR R ca to ga), o)) (fun _ _ => False) := by
  refine ct_of (cc := cX7_voteOf) (maxL := 4) (ret := (some .int)) (by decide) rfl (Nat.le_of_ble_eq_true rfl) ?_
  intro p e s m below meth cd ls C h X hT hl
  have hx := C.1
  have hy := C.2.1
  have hl : lv_has ls 4 [(0, .ref (V.1 rMod)), (1, .int ca), (2, .int to), (3, .int ga)] := hl
  have hmn : ∀ c, c < 2 → R 101 c = nI (mnN R c) ∧ mnN R c ≤ 7 := fun c hc => ⟨(rv.1 c hc).1, (rv.1 c hc).2.1⟩
  have hwn : ∀ c, c < 2 → R 103 c = nI (wrN R c) ∧ wrN R c ≤ 60 := fun c hc => ⟨(rv.1 c hc).2.2.1, (rv.1 c hc).2.2.2.1⟩
  have hsi9 := rv.2.1.2
  have htr9 := rv.2.2.1.2
  refine lv_aload_n hx hy dX7_voteOf_0 rfl (lv_at hl 0 rfl) ?_
  refine lv_aload_n hx hy dX7_voteOf_1 rfl (lv_at hl 0 rfl) ?_
  refine lv_iload_n hx hy dX7_voteOf_2 rfl (lv_at hl 1 rfl) ?_
  refine lv_iload_n hx hy dX7_voteOf_3 rfl (lv_at hl 2 rfl) ?_
  refine n_go0 C h (n_V (As := [.int ca, .int to]) (rest := [.ref (V.1 rMod)]) C h X (hr 100 (by decide)) ((cel_hi (by decide)).trans (celF_Mod _)) rfl (c_X7_isTower l hr M R o hmn ca to) (cwV 2 C.2.2.2.2.1 gX7_voteOf_X7_isTower rfl rfl rfl (by decide +kernel) ⟨Nat.le_of_ble_eq_true rfl, Nat.le_of_ble_eq_true rfl⟩) rfl hl.1 rfl (Nat.le_of_ble_eq_true rfl) dX7_voteOf_4 ⟨by decide, by decide⟩) (fun _ _ z => z) (fun v_4 u_4 H locs hpo h => ?_)
  obtain ⟨rfl, rfl⟩ := hpo
  refine b_eq hx hy (tgt := 21) dX7_voteOf_7 (by decide) (fun c_7 => ?_) (fun c_7 => ?_)
  · skip
    refine lv_iconst (v := (nI 0)) hx hy dX7_voteOf_21 (by decide) ?_
    refine lv_iconst (v := (nI 1)) hx hy dX7_voteOf_22 (by decide) ?_
    refine n_go0 C h (n_V (As := [.int (b2i false), .int (nI 1)]) (rest := []) C h X (hr 100 (by decide)) ((cel_hi (by decide)).trans (celF_Mod _)) rfl (c_X7_no l hr M R o false (nI 1)) (cwV 2 C.2.2.2.2.1 gX7_voteOf_X7_no rfl rfl rfl (by decide +kernel) ⟨Nat.le_of_ble_eq_true rfl, Nat.le_of_ble_eq_true rfl⟩) rfl hl.1 rfl (Nat.le_of_ble_eq_true rfl) dX7_voteOf_23 ⟨by decide, by decide⟩) (fun _ _ z => z) (fun v_23 u_23 H locs hpo h => ?_)
    obtain ⟨rfl, rfl⟩ := hpo
    refine b_ne hx hy (tgt := 44) dX7_voteOf_26 (by decide) (fun c_26 => ?_) (fun c_26 => ?_)
    · skip
      rw [noV_f c_26] at h
      refine lv_iconst (v := (nI 0)) hx hy dX7_voteOf_44 (by decide) ?_
      refine lv_goto (tgt := 63) hx hy dX7_voteOf_45 (by decide) ?_
      exact e_int C h rfl dX7_voteOf_63 (⟨_, rfl, by simp [kVoteR, c_7, c_26, suR], by simp [kVoteR, thr, suR, c_7, c_26]⟩) (by decide) (by decide)
    · skip
      exact absurd c_26 (by decide)
  · skip
    obtain ⟨c, t, hc, ht, rfl, rfl⟩ := isT_ok c_7 (fun c hc => (hmn c hc).2)
    have hmn9 := (hmn c hc).2
    have ht7 : t < 7 := by omega
    have hi_c : cI (nI c) = c := nI_clamp (by omega)
    have hi_t : cI (nI t) = t := nI_clamp (by omega)
    have hmn9 := (hmn c hc).2
    have hwn9 := (hwn c hc).2
    have hB := (rv.1 c hc).2.2.2.2.1
    have hEr := (rv.1 c hc).2.2.2.2.2.1
    have hU := (rv.1 c hc).2.2.2.2.2.2
    refine lv_iload_n hx hy dX7_voteOf_10 rfl (lv_at hl 3 rfl) ?_
    refine n_go0 C h (n_S (As := [.int ga]) (rest := [.ref (V.1 rMod)]) C h X (c_X7_isGate l M R o ga) (va_cwS 1 C.2.2.2.2.1 gX7_voteOf_X7_isGate rfl rfl rfl (by decide +kernel) ⟨Nat.le_of_ble_eq_true rfl, Nat.le_of_ble_eq_true rfl⟩) rfl hl.1 rfl (Nat.le_of_ble_eq_true rfl) dX7_voteOf_11 ⟨by decide, by decide⟩) (fun _ _ z => z) (fun v_11 u_11 H locs hpo h => ?_)
    obtain ⟨rfl, rfl⟩ := hpo
    refine b_eq hx hy (tgt := 21) dX7_voteOf_14 (by decide) (fun c_14 => ?_) (fun c_14 => ?_)
    · skip
      refine lv_iconst (v := (nI 0)) hx hy dX7_voteOf_21 (by decide) ?_
      refine lv_iconst (v := (nI 1)) hx hy dX7_voteOf_22 (by decide) ?_
      refine n_go0 C h (n_V (As := [.int (b2i false), .int (nI 1)]) (rest := []) C h X (hr 100 (by decide)) ((cel_hi (by decide)).trans (celF_Mod _)) rfl (c_X7_no l hr M R o false (nI 1)) (cwV 2 C.2.2.2.2.1 gX7_voteOf_X7_no rfl rfl rfl (by decide +kernel) ⟨Nat.le_of_ble_eq_true rfl, Nat.le_of_ble_eq_true rfl⟩) rfl hl.1 rfl (Nat.le_of_ble_eq_true rfl) dX7_voteOf_23 ⟨by decide, by decide⟩) (fun _ _ z => z) (fun v_23 u_23 H locs hpo h => ?_)
      obtain ⟨rfl, rfl⟩ := hpo
      refine b_ne hx hy (tgt := 44) dX7_voteOf_26 (by decide) (fun c_26 => ?_) (fun c_26 => ?_)
      · skip
        rw [noV_f c_26] at h
        refine lv_iconst (v := (nI 0)) hx hy dX7_voteOf_44 (by decide) ?_
        refine lv_goto (tgt := 63) hx hy dX7_voteOf_45 (by decide) ?_
        exact e_int C h rfl dX7_voteOf_63 (⟨_, rfl, by simp [kVoteR, hi_c, hi_t, c_7, c_7, c_14, c_26, suR], by simp [kVoteR, thr, suR, hi_c, hi_t, c_7, c_7, c_14, c_26]⟩) (by decide) (by decide)
      · skip
        exact absurd c_26 (by decide)
    · skip
      obtain ⟨g, hg, rfl⟩ := vIn_ok' c_14 (by decide)
      have hv_g : vIn (nI g) 3 = true := vIn_nI hg (by decide)
      have hi_g : cI (nI g) = g := nI_clamp (by omega)
      refine lv_iconst (v := (nI 1)) hx hy dX7_voteOf_17 (by decide) ?_
      refine lv_goto (tgt := 22) hx hy dX7_voteOf_18 (by decide) ?_
      refine lv_iconst (v := (nI 1)) hx hy dX7_voteOf_22 (by decide) ?_
      refine n_go0 C h (n_V (As := [.int (b2i true), .int (nI 1)]) (rest := []) C h X (hr 100 (by decide)) ((cel_hi (by decide)).trans (celF_Mod _)) rfl (c_X7_no l hr M R o true (nI 1)) (cwV 2 C.2.2.2.2.1 gX7_voteOf_X7_no rfl rfl rfl (by decide +kernel) ⟨Nat.le_of_ble_eq_true rfl, Nat.le_of_ble_eq_true rfl⟩) rfl hl.1 rfl (Nat.le_of_ble_eq_true rfl) dX7_voteOf_23 ⟨by decide, by decide⟩) (fun _ _ z => z) (fun v_23 u_23 H locs hpo h => ?_)
      obtain ⟨rfl, rfl⟩ := hpo
      refine b_ne hx hy (tgt := 44) dX7_voteOf_26 (by decide) (fun c_26 => ?_) (fun c_26 => ?_)
      · skip
        exact absurd c_26 (by decide)
      · skip
        rw [noV_t c_26] at h
        refine lv_aload_n hx hy dX7_voteOf_29 rfl (lv_at hl 0 rfl) ?_
        refine lv_aload_n hx hy dX7_voteOf_30 rfl (lv_at hl 0 rfl) ?_
        refine lv_iload_n hx hy dX7_voteOf_31 rfl (lv_at hl 1 rfl) ?_
        refine lv_iload_n hx hy dX7_voteOf_32 rfl (lv_at hl 2 rfl) ?_
        refine lv_iload_n hx hy dX7_voteOf_33 rfl (lv_at hl 3 rfl) ?_
        refine n_go0 C h (n_V (As := [.int (nI c), .int (nI t), .int (nI g)]) (rest := [.ref (V.1 rMod)]) C h X (hr 100 (by decide)) ((cel_hi (by decide)).trans (celF_Mod _)) rfl (c_X7_votes l hr M (wr R rMod 19 (nI 0)) o c hc t ht7 g hg) (cwV 3 C.2.2.2.2.1 gX7_voteOf_X7_votes rfl rfl rfl (by decide +kernel) ⟨Nat.le_of_ble_eq_true rfl, Nat.le_of_ble_eq_true rfl⟩) rfl hl.1 rfl (Nat.le_of_ble_eq_true rfl) dX7_voteOf_34 ⟨by decide, by decide⟩) (fun _ _ z => z) (fun v_34 u_34 H locs hpo h => ?_)
        obtain ⟨rfl, rfl⟩ := hpo
        refine lv_iconst (v := (nI 2)) hx hy dX7_voteOf_37 (by decide) ?_
        refine n_go0 C h (n_V (As := [.int (b2i (mVote (wr R rMod 19 (nI 0)) c t g)), .int (nI 2)]) (rest := []) C h X (hr 100 (by decide)) ((cel_hi (by decide)).trans (celF_Mod _)) rfl (c_X7_no l hr M (wr R rMod 19 (nI 0)) o (mVote (wr R rMod 19 (nI 0)) c t g) (nI 2)) (cwV 2 C.2.2.2.2.1 gX7_voteOf_X7_no rfl rfl rfl (by decide +kernel) ⟨Nat.le_of_ble_eq_true rfl, Nat.le_of_ble_eq_true rfl⟩) rfl hl.1 rfl (Nat.le_of_ble_eq_true rfl) dX7_voteOf_38 ⟨by decide, by decide⟩) (fun _ _ z => z) (fun v_38 u_38 H locs hpo h => ?_)
        obtain ⟨rfl, rfl⟩ := hpo
        refine b_eq hx hy (tgt := 48) dX7_voteOf_41 (by decide) (fun c_41 => ?_) (fun c_41 => ?_)
        · skip
          rw [noV_t c_41] at h
          rw [wr_wr] at h
          have hno_41 : mVote (wr R rMod 19 (nI 0)) c t g = true := not_ff c_41
          refine lv_aload_n hx hy dX7_voteOf_48 rfl (lv_at hl 0 rfl) ?_
          refine g_f C h (hr 100 (by decide)) (cel_hi (by decide)) celF_Mod rfl in_X7_voteOf_X7 7 (by decide) (by decide +kernel) (v := .ref (V.1 108)) rfl dX7_voteOf_49 ?_
          refine lv_iload_n hx hy dX7_voteOf_52 rfl (lv_at hl 1 rfl) ?_
          refine lv_bipush (v := (nI 7)) hx hy dX7_voteOf_53 (by decide) ?_
          refine lv_imul hx hy dX7_voteOf_55 ?_
          refine lv_topn (pk_mul _ _) ?_
          refine lv_iload_n hx hy dX7_voteOf_56 rfl (lv_at hl 2 rfl) ?_
          refine lv_iadd hx hy dX7_voteOf_57 ?_
          refine lv_topn (nI_add _ _) ?_
          refine lv_iconst (v := (nI 3)) hx hy dX7_voteOf_58 (by decide) ?_
          refine lv_imul hx hy dX7_voteOf_59 ?_
          refine lv_topn (pk_mul _ _) ?_
          refine lv_iload_n hx hy dX7_voteOf_60 rfl (lv_at hl 3 rfl) ?_
          refine lv_iadd hx hy dX7_voteOf_61 ?_
          refine lv_topn (nI_add _ _) ?_
          refine g_i C h (hr 108 (by decide)) (n := 42) (k := ((((c * 7) + t) * 3) + g)) (cel_hi (by decide)) (fun _ => rfl) (by omega) (by decide) (v := (R 108 ((((c * 7) + t) * 3) + g))) (show (wr R rMod 19 (nI 0)) 108 ((((c * 7) + t) * 3) + g) = (R 108 ((((c * 7) + t) * 3) + g)) from (wr_othr (by decide))) dX7_voteOf_62 ?_
          exact e_int C h rfl dX7_voteOf_63 (⟨_, rfl, by simp [kVoteR, hi_c, hi_t, c_7, hi_g, hv_g, hno_41, c_7, c_14, c_26, c_41, suR], by simp [kVoteR, thr, suR, hi_c, hi_t, c_7, hi_g, hv_g, hno_41, c_7, c_14, c_26, c_41]⟩) (by decide) (by decide)
        · skip
          rw [noV_f c_41] at h
          rw [wr_wr] at h
          have hno_41 : mVote (wr R rMod 19 (nI 0)) c t g = false := not_tt c_41
          refine lv_iconst (v := (nI 0)) hx hy dX7_voteOf_44 (by decide) ?_
          refine lv_goto (tgt := 63) hx hy dX7_voteOf_45 (by decide) ?_
          exact e_int C h rfl dX7_voteOf_63 (⟨_, rfl, by simp [kVoteR, hi_c, hi_t, c_7, hi_g, hv_g, hno_41, c_7, c_14, c_26, c_41, suR], by simp [kVoteR, thr, suR, hi_c, hi_t, c_7, hi_g, hv_g, hno_41, c_7, c_14, c_26, c_41]⟩) (by decide) (by decide)

set_option maxRecDepth 20000 in
theorem in_X7_voteTill_X7 : ∀ x ∈ wsX70, x ∈ wsX7_voteTill := by decide +kernel
set_option maxRecDepth 100000 in
set_option maxHeartbeats 4000000 in
/-- the reference: voteTill -/
theorem c_X7_voteTill (l : Launch) {G : va_G} {V : wV} {rs : List Nat} (hr : bR rs) (M R : wM) (o : wO) (rv : RV R) (ca to ga : Int32) : CT l G V rs yX7_voteTill wsX7_voteTill 2 44 0 0 [.ref (V.1 rMod), .int ca, .int to, .int ga] (M, R, o) (fun v u => ∃ r, v = some (.int r) ∧ (kVoteR R ca to ga = 0 → r = R 109 ((cI ca * 7 + cI to) * 3 + cI ga)) ∧ u = (M, thr R (kVoteR R ca to ga), o)) (fun _ _ => False) := by
  refine ct_of (cc := cX7_voteTill) (maxL := 4) (ret := (some .int)) (by decide) rfl (Nat.le_of_ble_eq_true rfl) ?_
  intro p e s m below meth cd ls C h X hT hl
  have hx := C.1
  have hy := C.2.1
  have hl : lv_has ls 4 [(0, .ref (V.1 rMod)), (1, .int ca), (2, .int to), (3, .int ga)] := hl
  have hmn : ∀ c, c < 2 → R 101 c = nI (mnN R c) ∧ mnN R c ≤ 7 := fun c hc => ⟨(rv.1 c hc).1, (rv.1 c hc).2.1⟩
  have hwn : ∀ c, c < 2 → R 103 c = nI (wrN R c) ∧ wrN R c ≤ 60 := fun c hc => ⟨(rv.1 c hc).2.2.1, (rv.1 c hc).2.2.2.1⟩
  have hsi9 := rv.2.1.2
  have htr9 := rv.2.2.1.2
  refine lv_aload_n hx hy dX7_voteTill_0 rfl (lv_at hl 0 rfl) ?_
  refine lv_aload_n hx hy dX7_voteTill_1 rfl (lv_at hl 0 rfl) ?_
  refine lv_iload_n hx hy dX7_voteTill_2 rfl (lv_at hl 1 rfl) ?_
  refine lv_iload_n hx hy dX7_voteTill_3 rfl (lv_at hl 2 rfl) ?_
  refine n_go0 C h (n_V (As := [.int ca, .int to]) (rest := [.ref (V.1 rMod)]) C h X (hr 100 (by decide)) ((cel_hi (by decide)).trans (celF_Mod _)) rfl (c_X7_isTower l hr M R o hmn ca to) (cwV 2 C.2.2.2.2.1 gX7_voteTill_X7_isTower rfl rfl rfl (by decide +kernel) ⟨Nat.le_of_ble_eq_true rfl, Nat.le_of_ble_eq_true rfl⟩) rfl hl.1 rfl (Nat.le_of_ble_eq_true rfl) dX7_voteTill_4 ⟨by decide, by decide⟩) (fun _ _ z => z) (fun v_4 u_4 H locs hpo h => ?_)
  obtain ⟨rfl, rfl⟩ := hpo
  refine b_eq hx hy (tgt := 21) dX7_voteTill_7 (by decide) (fun c_7 => ?_) (fun c_7 => ?_)
  · skip
    refine lv_iconst (v := (nI 0)) hx hy dX7_voteTill_21 (by decide) ?_
    refine lv_iconst (v := (nI 1)) hx hy dX7_voteTill_22 (by decide) ?_
    refine n_go0 C h (n_V (As := [.int (b2i false), .int (nI 1)]) (rest := []) C h X (hr 100 (by decide)) ((cel_hi (by decide)).trans (celF_Mod _)) rfl (c_X7_no l hr M R o false (nI 1)) (cwV 2 C.2.2.2.2.1 gX7_voteTill_X7_no rfl rfl rfl (by decide +kernel) ⟨Nat.le_of_ble_eq_true rfl, Nat.le_of_ble_eq_true rfl⟩) rfl hl.1 rfl (Nat.le_of_ble_eq_true rfl) dX7_voteTill_23 ⟨by decide, by decide⟩) (fun _ _ z => z) (fun v_23 u_23 H locs hpo h => ?_)
    obtain ⟨rfl, rfl⟩ := hpo
    refine b_ne hx hy (tgt := 44) dX7_voteTill_26 (by decide) (fun c_26 => ?_) (fun c_26 => ?_)
    · skip
      rw [noV_f c_26] at h
      refine lv_iconst (v := (nI 0)) hx hy dX7_voteTill_44 (by decide) ?_
      refine lv_goto (tgt := 63) hx hy dX7_voteTill_45 (by decide) ?_
      exact e_int C h rfl dX7_voteTill_63 (⟨_, rfl, by simp [kVoteR, c_7, c_26, suR], by simp [kVoteR, thr, suR, c_7, c_26]⟩) (by decide) (by decide)
    · skip
      exact absurd c_26 (by decide)
  · skip
    obtain ⟨c, t, hc, ht, rfl, rfl⟩ := isT_ok c_7 (fun c hc => (hmn c hc).2)
    have hmn9 := (hmn c hc).2
    have ht7 : t < 7 := by omega
    have hi_c : cI (nI c) = c := nI_clamp (by omega)
    have hi_t : cI (nI t) = t := nI_clamp (by omega)
    have hmn9 := (hmn c hc).2
    have hwn9 := (hwn c hc).2
    have hB := (rv.1 c hc).2.2.2.2.1
    have hEr := (rv.1 c hc).2.2.2.2.2.1
    have hU := (rv.1 c hc).2.2.2.2.2.2
    refine lv_iload_n hx hy dX7_voteTill_10 rfl (lv_at hl 3 rfl) ?_
    refine n_go0 C h (n_S (As := [.int ga]) (rest := [.ref (V.1 rMod)]) C h X (c_X7_isGate l M R o ga) (va_cwS 1 C.2.2.2.2.1 gX7_voteTill_X7_isGate rfl rfl rfl (by decide +kernel) ⟨Nat.le_of_ble_eq_true rfl, Nat.le_of_ble_eq_true rfl⟩) rfl hl.1 rfl (Nat.le_of_ble_eq_true rfl) dX7_voteTill_11 ⟨by decide, by decide⟩) (fun _ _ z => z) (fun v_11 u_11 H locs hpo h => ?_)
    obtain ⟨rfl, rfl⟩ := hpo
    refine b_eq hx hy (tgt := 21) dX7_voteTill_14 (by decide) (fun c_14 => ?_) (fun c_14 => ?_)
    · skip
      refine lv_iconst (v := (nI 0)) hx hy dX7_voteTill_21 (by decide) ?_
      refine lv_iconst (v := (nI 1)) hx hy dX7_voteTill_22 (by decide) ?_
      refine n_go0 C h (n_V (As := [.int (b2i false), .int (nI 1)]) (rest := []) C h X (hr 100 (by decide)) ((cel_hi (by decide)).trans (celF_Mod _)) rfl (c_X7_no l hr M R o false (nI 1)) (cwV 2 C.2.2.2.2.1 gX7_voteTill_X7_no rfl rfl rfl (by decide +kernel) ⟨Nat.le_of_ble_eq_true rfl, Nat.le_of_ble_eq_true rfl⟩) rfl hl.1 rfl (Nat.le_of_ble_eq_true rfl) dX7_voteTill_23 ⟨by decide, by decide⟩) (fun _ _ z => z) (fun v_23 u_23 H locs hpo h => ?_)
      obtain ⟨rfl, rfl⟩ := hpo
      refine b_ne hx hy (tgt := 44) dX7_voteTill_26 (by decide) (fun c_26 => ?_) (fun c_26 => ?_)
      · skip
        rw [noV_f c_26] at h
        refine lv_iconst (v := (nI 0)) hx hy dX7_voteTill_44 (by decide) ?_
        refine lv_goto (tgt := 63) hx hy dX7_voteTill_45 (by decide) ?_
        exact e_int C h rfl dX7_voteTill_63 (⟨_, rfl, by simp [kVoteR, hi_c, hi_t, c_7, c_7, c_14, c_26, suR], by simp [kVoteR, thr, suR, hi_c, hi_t, c_7, c_7, c_14, c_26]⟩) (by decide) (by decide)
      · skip
        exact absurd c_26 (by decide)
    · skip
      obtain ⟨g, hg, rfl⟩ := vIn_ok' c_14 (by decide)
      have hv_g : vIn (nI g) 3 = true := vIn_nI hg (by decide)
      have hi_g : cI (nI g) = g := nI_clamp (by omega)
      refine lv_iconst (v := (nI 1)) hx hy dX7_voteTill_17 (by decide) ?_
      refine lv_goto (tgt := 22) hx hy dX7_voteTill_18 (by decide) ?_
      refine lv_iconst (v := (nI 1)) hx hy dX7_voteTill_22 (by decide) ?_
      refine n_go0 C h (n_V (As := [.int (b2i true), .int (nI 1)]) (rest := []) C h X (hr 100 (by decide)) ((cel_hi (by decide)).trans (celF_Mod _)) rfl (c_X7_no l hr M R o true (nI 1)) (cwV 2 C.2.2.2.2.1 gX7_voteTill_X7_no rfl rfl rfl (by decide +kernel) ⟨Nat.le_of_ble_eq_true rfl, Nat.le_of_ble_eq_true rfl⟩) rfl hl.1 rfl (Nat.le_of_ble_eq_true rfl) dX7_voteTill_23 ⟨by decide, by decide⟩) (fun _ _ z => z) (fun v_23 u_23 H locs hpo h => ?_)
      obtain ⟨rfl, rfl⟩ := hpo
      refine b_ne hx hy (tgt := 44) dX7_voteTill_26 (by decide) (fun c_26 => ?_) (fun c_26 => ?_)
      · skip
        exact absurd c_26 (by decide)
      · skip
        rw [noV_t c_26] at h
        refine lv_aload_n hx hy dX7_voteTill_29 rfl (lv_at hl 0 rfl) ?_
        refine lv_aload_n hx hy dX7_voteTill_30 rfl (lv_at hl 0 rfl) ?_
        refine lv_iload_n hx hy dX7_voteTill_31 rfl (lv_at hl 1 rfl) ?_
        refine lv_iload_n hx hy dX7_voteTill_32 rfl (lv_at hl 2 rfl) ?_
        refine lv_iload_n hx hy dX7_voteTill_33 rfl (lv_at hl 3 rfl) ?_
        refine n_go0 C h (n_V (As := [.int (nI c), .int (nI t), .int (nI g)]) (rest := [.ref (V.1 rMod)]) C h X (hr 100 (by decide)) ((cel_hi (by decide)).trans (celF_Mod _)) rfl (c_X7_votes l hr M (wr R rMod 19 (nI 0)) o c hc t ht7 g hg) (cwV 3 C.2.2.2.2.1 gX7_voteTill_X7_votes rfl rfl rfl (by decide +kernel) ⟨Nat.le_of_ble_eq_true rfl, Nat.le_of_ble_eq_true rfl⟩) rfl hl.1 rfl (Nat.le_of_ble_eq_true rfl) dX7_voteTill_34 ⟨by decide, by decide⟩) (fun _ _ z => z) (fun v_34 u_34 H locs hpo h => ?_)
        obtain ⟨rfl, rfl⟩ := hpo
        refine lv_iconst (v := (nI 2)) hx hy dX7_voteTill_37 (by decide) ?_
        refine n_go0 C h (n_V (As := [.int (b2i (mVote (wr R rMod 19 (nI 0)) c t g)), .int (nI 2)]) (rest := []) C h X (hr 100 (by decide)) ((cel_hi (by decide)).trans (celF_Mod _)) rfl (c_X7_no l hr M (wr R rMod 19 (nI 0)) o (mVote (wr R rMod 19 (nI 0)) c t g) (nI 2)) (cwV 2 C.2.2.2.2.1 gX7_voteTill_X7_no rfl rfl rfl (by decide +kernel) ⟨Nat.le_of_ble_eq_true rfl, Nat.le_of_ble_eq_true rfl⟩) rfl hl.1 rfl (Nat.le_of_ble_eq_true rfl) dX7_voteTill_38 ⟨by decide, by decide⟩) (fun _ _ z => z) (fun v_38 u_38 H locs hpo h => ?_)
        obtain ⟨rfl, rfl⟩ := hpo
        refine b_eq hx hy (tgt := 48) dX7_voteTill_41 (by decide) (fun c_41 => ?_) (fun c_41 => ?_)
        · skip
          rw [noV_t c_41] at h
          rw [wr_wr] at h
          have hno_41 : mVote (wr R rMod 19 (nI 0)) c t g = true := not_ff c_41
          refine lv_aload_n hx hy dX7_voteTill_48 rfl (lv_at hl 0 rfl) ?_
          refine g_f C h (hr 100 (by decide)) (cel_hi (by decide)) celF_Mod rfl in_X7_voteTill_X7 8 (by decide) (by decide +kernel) (v := .ref (V.1 109)) rfl dX7_voteTill_49 ?_
          refine lv_iload_n hx hy dX7_voteTill_52 rfl (lv_at hl 1 rfl) ?_
          refine lv_bipush (v := (nI 7)) hx hy dX7_voteTill_53 (by decide) ?_
          refine lv_imul hx hy dX7_voteTill_55 ?_
          refine lv_topn (pk_mul _ _) ?_
          refine lv_iload_n hx hy dX7_voteTill_56 rfl (lv_at hl 2 rfl) ?_
          refine lv_iadd hx hy dX7_voteTill_57 ?_
          refine lv_topn (nI_add _ _) ?_
          refine lv_iconst (v := (nI 3)) hx hy dX7_voteTill_58 (by decide) ?_
          refine lv_imul hx hy dX7_voteTill_59 ?_
          refine lv_topn (pk_mul _ _) ?_
          refine lv_iload_n hx hy dX7_voteTill_60 rfl (lv_at hl 3 rfl) ?_
          refine lv_iadd hx hy dX7_voteTill_61 ?_
          refine lv_topn (nI_add _ _) ?_
          refine g_i C h (hr 109 (by decide)) (n := 42) (k := ((((c * 7) + t) * 3) + g)) (cel_hi (by decide)) (fun _ => rfl) (by omega) (by decide) (v := (R 109 ((((c * 7) + t) * 3) + g))) (show (wr R rMod 19 (nI 0)) 109 ((((c * 7) + t) * 3) + g) = (R 109 ((((c * 7) + t) * 3) + g)) from (wr_othr (by decide))) dX7_voteTill_62 ?_
          exact e_int C h rfl dX7_voteTill_63 (⟨_, rfl, by simp [kVoteR, hi_c, hi_t, c_7, hi_g, hv_g, hno_41, c_7, c_14, c_26, c_41, suR], by simp [kVoteR, thr, suR, hi_c, hi_t, c_7, hi_g, hv_g, hno_41, c_7, c_14, c_26, c_41]⟩) (by decide) (by decide)
        · skip
          rw [noV_f c_41] at h
          rw [wr_wr] at h
          have hno_41 : mVote (wr R rMod 19 (nI 0)) c t g = false := not_tt c_41
          refine lv_iconst (v := (nI 0)) hx hy dX7_voteTill_44 (by decide) ?_
          refine lv_goto (tgt := 63) hx hy dX7_voteTill_45 (by decide) ?_
          exact e_int C h rfl dX7_voteTill_63 (⟨_, rfl, by simp [kVoteR, hi_c, hi_t, c_7, hi_g, hv_g, hno_41, c_7, c_14, c_26, c_41, suR], by simp [kVoteR, thr, suR, hi_c, hi_t, c_7, hi_g, hv_g, hno_41, c_7, c_14, c_26, c_41]⟩) (by decide) (by decide)

set_option maxRecDepth 100000 in
set_option maxHeartbeats 4000000 in
/-- the reference: near -/
theorem c_X7_near (l : Launch) {G : va_G} {V : wV} {rs : List Nat} (hr : bR rs) (M R : wM) (o : wO) (rv : RV R) (lo0 ca : Int32) : CT l G V rs yX7_near wsX7_near 2 42 0 0 [.ref (V.1 rMod), .int lo0, .int ca] (M, R, o) (fun v u => ∃ r, v = some (.int r) ∧ (kCLR ca lo0 = 0 → r = onI (rcN (thr R 0) (cI ca) (cI lo0) (mnN R (cI ca)))) ∧ u = (M, thr R (kCLR ca lo0), o)) (fun _ _ => False) := by
  refine ct_of (cc := cX7_near) (maxL := 3) (ret := (some .int)) (by decide) rfl (Nat.le_of_ble_eq_true rfl) ?_
  intro p e s m below meth cd ls C h X hT hl
  have hx := C.1
  have hy := C.2.1
  have hl : lv_has ls 3 [(0, .ref (V.1 rMod)), (1, .int lo0), (2, .int ca)] := hl
  have hmn : ∀ c, c < 2 → R 101 c = nI (mnN R c) ∧ mnN R c ≤ 7 := fun c hc => ⟨(rv.1 c hc).1, (rv.1 c hc).2.1⟩
  have hwn : ∀ c, c < 2 → R 103 c = nI (wrN R c) ∧ wrN R c ≤ 60 := fun c hc => ⟨(rv.1 c hc).2.2.1, (rv.1 c hc).2.2.2.1⟩
  have hsi9 := rv.2.1.2
  have htr9 := rv.2.2.1.2
  refine lv_aload_n hx hy dX7_near_0 rfl (lv_at hl 0 rfl) ?_
  refine lv_iload_n hx hy dX7_near_1 rfl (lv_at hl 2 rfl) ?_
  refine n_go0 C h (n_S (As := [.int ca]) (rest := [.ref (V.1 rMod)]) C h X (c_X7_isCastle l M R o ca) (va_cwS 1 C.2.2.2.2.1 gX7_near_X7_isCastle rfl rfl rfl (by decide +kernel) ⟨Nat.le_of_ble_eq_true rfl, Nat.le_of_ble_eq_true rfl⟩) rfl hl.1 rfl (Nat.le_of_ble_eq_true rfl) dX7_near_2 ⟨by decide, by decide⟩) (fun _ _ z => z) (fun v_2 u_2 H locs hpo h => ?_)
  obtain ⟨rfl, rfl⟩ := hpo
  refine b_eq hx hy (tgt := 19) dX7_near_5 (by decide) (fun c_5 => ?_) (fun c_5 => ?_)
  · skip
    refine lv_iconst (v := (nI 0)) hx hy dX7_near_19 (by decide) ?_
    refine lv_iconst (v := (nI 1)) hx hy dX7_near_20 (by decide) ?_
    refine n_go0 C h (n_V (As := [.int (b2i false), .int (nI 1)]) (rest := []) C h X (hr 100 (by decide)) ((cel_hi (by decide)).trans (celF_Mod _)) rfl (c_X7_no l hr M R o false (nI 1)) (cwV 2 C.2.2.2.2.1 gX7_near_X7_no rfl rfl rfl (by decide +kernel) ⟨Nat.le_of_ble_eq_true rfl, Nat.le_of_ble_eq_true rfl⟩) rfl hl.1 rfl (Nat.le_of_ble_eq_true rfl) dX7_near_21 ⟨by decide, by decide⟩) (fun _ _ z => z) (fun v_21 u_21 H locs hpo h => ?_)
    obtain ⟨rfl, rfl⟩ := hpo
    refine b_eq hx hy (tgt := 31) dX7_near_24 (by decide) (fun c_24 => ?_) (fun c_24 => ?_)
    · skip
      exact absurd c_24 (by decide)
    · skip
      rw [noV_f c_24] at h
      refine lv_iconst (v := (nI 0)) hx hy dX7_near_27 (by decide) ?_
      refine lv_goto (tgt := 40) hx hy dX7_near_28 (by decide) ?_
      exact e_int C h rfl dX7_near_40 (⟨_, rfl, by simp [kCLR, c_5, c_24, suR], by simp [kCLR, thr, suR, c_5, c_24]⟩) (by decide) (by decide)
  · skip
    obtain ⟨c, hc, rfl⟩ := vIn_ok' c_5 (by decide)
    have hv_c : vIn (nI c) 2 = true := vIn_nI hc (by decide)
    have hi_c : cI (nI c) = c := nI_clamp (by omega)
    have hmn9 := (hmn c hc).2
    have hwn9 := (hwn c hc).2
    have hB := (rv.1 c hc).2.2.2.2.1
    have hEr := (rv.1 c hc).2.2.2.2.2.1
    have hU := (rv.1 c hc).2.2.2.2.2.2
    refine lv_iload_n hx hy dX7_near_8 rfl (lv_at hl 1 rfl) ?_
    refine n_go0 C h (n_S (As := [.int lo0]) (rest := [.ref (V.1 rMod)]) C h X (c_X7_isLord l M R o lo0) (va_cwS 1 C.2.2.2.2.1 gX7_near_X7_isLord rfl rfl rfl (by decide +kernel) ⟨Nat.le_of_ble_eq_true rfl, Nat.le_of_ble_eq_true rfl⟩) rfl hl.1 rfl (Nat.le_of_ble_eq_true rfl) dX7_near_9 ⟨by decide, by decide⟩) (fun _ _ z => z) (fun v_9 u_9 H locs hpo h => ?_)
    obtain ⟨rfl, rfl⟩ := hpo
    refine b_eq hx hy (tgt := 19) dX7_near_12 (by decide) (fun c_12 => ?_) (fun c_12 => ?_)
    · skip
      refine lv_iconst (v := (nI 0)) hx hy dX7_near_19 (by decide) ?_
      refine lv_iconst (v := (nI 1)) hx hy dX7_near_20 (by decide) ?_
      refine n_go0 C h (n_V (As := [.int (b2i false), .int (nI 1)]) (rest := []) C h X (hr 100 (by decide)) ((cel_hi (by decide)).trans (celF_Mod _)) rfl (c_X7_no l hr M R o false (nI 1)) (cwV 2 C.2.2.2.2.1 gX7_near_X7_no rfl rfl rfl (by decide +kernel) ⟨Nat.le_of_ble_eq_true rfl, Nat.le_of_ble_eq_true rfl⟩) rfl hl.1 rfl (Nat.le_of_ble_eq_true rfl) dX7_near_21 ⟨by decide, by decide⟩) (fun _ _ z => z) (fun v_21 u_21 H locs hpo h => ?_)
      obtain ⟨rfl, rfl⟩ := hpo
      refine b_eq hx hy (tgt := 31) dX7_near_24 (by decide) (fun c_24 => ?_) (fun c_24 => ?_)
      · skip
        exact absurd c_24 (by decide)
      · skip
        rw [noV_f c_24] at h
        refine lv_iconst (v := (nI 0)) hx hy dX7_near_27 (by decide) ?_
        refine lv_goto (tgt := 40) hx hy dX7_near_28 (by decide) ?_
        exact e_int C h rfl dX7_near_40 (⟨_, rfl, by simp [kCLR, hi_c, hv_c, c_5, c_12, c_24, suR], by simp [kCLR, thr, suR, hi_c, hv_c, c_5, c_12, c_24]⟩) (by decide) (by decide)
    · skip
      obtain ⟨lo, hlo, rfl⟩ := vIn_ok' c_12 (by decide)
      have hv_lo : vIn (nI lo) 4 = true := vIn_nI hlo (by decide)
      have hi_lo : cI (nI lo) = lo := nI_clamp (by omega)
      refine lv_iconst (v := (nI 1)) hx hy dX7_near_15 (by decide) ?_
      refine lv_goto (tgt := 20) hx hy dX7_near_16 (by decide) ?_
      refine lv_iconst (v := (nI 1)) hx hy dX7_near_20 (by decide) ?_
      refine n_go0 C h (n_V (As := [.int (b2i true), .int (nI 1)]) (rest := []) C h X (hr 100 (by decide)) ((cel_hi (by decide)).trans (celF_Mod _)) rfl (c_X7_no l hr M R o true (nI 1)) (cwV 2 C.2.2.2.2.1 gX7_near_X7_no rfl rfl rfl (by decide +kernel) ⟨Nat.le_of_ble_eq_true rfl, Nat.le_of_ble_eq_true rfl⟩) rfl hl.1 rfl (Nat.le_of_ble_eq_true rfl) dX7_near_21 ⟨by decide, by decide⟩) (fun _ _ z => z) (fun v_21 u_21 H locs hpo h => ?_)
      obtain ⟨rfl, rfl⟩ := hpo
      refine b_eq hx hy (tgt := 31) dX7_near_24 (by decide) (fun c_24 => ?_) (fun c_24 => ?_)
      · skip
        rw [noV_t c_24] at h
        refine lv_aload_n hx hy dX7_near_31 rfl (lv_at hl 0 rfl) ?_
        refine lv_iload_n hx hy dX7_near_32 rfl (lv_at hl 2 rfl) ?_
        refine lv_iload_n hx hy dX7_near_33 rfl (lv_at hl 1 rfl) ?_
        refine n_go0 C h (n_V (As := [.int (nI c), .int (nI lo)]) (rest := []) C h X (hr 100 (by decide)) ((cel_hi (by decide)).trans (celF_Mod _)) rfl (c_X7_reach l hr M (wr R rMod 19 (nI 0)) o c hc (mnN R c) hmn9 (show (wr R rMod 19 (nI 0)) 101 c = nI (mnN R c) from ((wr_othr (by decide)).trans (hmn c hc).1)) lo hlo) (cwV 2 C.2.2.2.2.1 gX7_near_X7_reach rfl rfl rfl (by decide +kernel) ⟨Nat.le_of_ble_eq_true rfl, Nat.le_of_ble_eq_true rfl⟩) rfl hl.1 rfl (Nat.le_of_ble_eq_true rfl) dX7_near_34 ⟨by decide, by decide⟩) (fun _ _ z => z) (fun v_34 u_34 H locs hpo h => ?_)
        obtain ⟨rfl, rfl⟩ := hpo
        refine n_go0 C h (n_S (As := [.int (rcN (wr R rMod 19 (nI 0)) c lo (mnN R c))]) (rest := []) C h X (c_X7_ones l M (wr R rMod 19 (nI 0)) o (rcN (wr R rMod 19 (nI 0)) c lo (mnN R c))) (va_cwS 1 C.2.2.2.2.1 gX7_near_X7_ones rfl rfl rfl (by decide +kernel) ⟨Nat.le_of_ble_eq_true rfl, Nat.le_of_ble_eq_true rfl⟩) rfl hl.1 rfl (Nat.le_of_ble_eq_true rfl) dX7_near_37 ⟨by decide, by decide⟩) (fun _ _ z => z) (fun v_37 u_37 H locs hpo h => ?_)
        obtain ⟨rfl, rfl⟩ := hpo
        exact e_int C h rfl dX7_near_40 (⟨_, rfl, by simp [kCLR, hi_c, hv_c, hi_lo, hv_lo, c_5, c_12, c_24, suR], by simp [kCLR, thr, suR, hi_c, hv_c, hi_lo, hv_lo, c_5, c_12, c_24]⟩) (by decide) (by decide)
      · skip
        exact absurd c_24 (by decide)

set_option maxRecDepth 20000 in
theorem in_X7_tower_X7 : ∀ x ∈ wsX70, x ∈ wsX7_tower := by decide +kernel
set_option maxRecDepth 100000 in
set_option maxHeartbeats 4000000 in
/-- the reference: tower -/
theorem c_X7_tower (l : Launch) {G : va_G} {V : wV} {rs : List Nat} (hr : bR rs) (M R : wM) (o : wO) (rv : RV R) (ca to : Int32) : CT l G V rs yX7_tower wsX7_tower 2 44 0 0 [.ref (V.1 rMod), .int ca, .int to] (M, R, o) (fun v u => ∃ r, v = some (.int r) ∧ (kTowR R ca to = 0 → r = towRR R (cI ca) (cI to)) ∧ u = (M, thr R (kTowR R ca to), o)) (fun _ _ => False) := by
  refine ct_of (cc := cX7_tower) (maxL := 3) (ret := (some .char)) (by decide) rfl (Nat.le_of_ble_eq_true rfl) ?_
  intro p e s m below meth cd ls C h X hT hl
  have hx := C.1
  have hy := C.2.1
  have hl : lv_has ls 3 [(0, .ref (V.1 rMod)), (1, .int ca), (2, .int to)] := hl
  have hmn : ∀ c, c < 2 → R 101 c = nI (mnN R c) ∧ mnN R c ≤ 7 := fun c hc => ⟨(rv.1 c hc).1, (rv.1 c hc).2.1⟩
  have hwn : ∀ c, c < 2 → R 103 c = nI (wrN R c) ∧ wrN R c ≤ 60 := fun c hc => ⟨(rv.1 c hc).2.2.1, (rv.1 c hc).2.2.2.1⟩
  have hsi9 := rv.2.1.2
  have htr9 := rv.2.2.1.2
  refine lv_aload_n hx hy dX7_tower_0 rfl (lv_at hl 0 rfl) ?_
  refine lv_aload_n hx hy dX7_tower_1 rfl (lv_at hl 0 rfl) ?_
  refine lv_iload_n hx hy dX7_tower_2 rfl (lv_at hl 1 rfl) ?_
  refine lv_iload_n hx hy dX7_tower_3 rfl (lv_at hl 2 rfl) ?_
  refine n_go0 C h (n_V (As := [.int ca, .int to]) (rest := [.ref (V.1 rMod)]) C h X (hr 100 (by decide)) ((cel_hi (by decide)).trans (celF_Mod _)) rfl (c_X7_isTower l hr M R o hmn ca to) (cwV 2 C.2.2.2.2.1 gX7_tower_X7_isTower rfl rfl rfl (by decide +kernel) ⟨Nat.le_of_ble_eq_true rfl, Nat.le_of_ble_eq_true rfl⟩) rfl hl.1 rfl (Nat.le_of_ble_eq_true rfl) dX7_tower_4 ⟨by decide, by decide⟩) (fun _ _ z => z) (fun v_4 u_4 H locs hpo h => ?_)
  obtain ⟨rfl, rfl⟩ := hpo
  refine lv_iconst (v := (nI 1)) hx hy dX7_tower_7 (by decide) ?_
  refine n_go0 C h (n_V (As := [.int (b2i (isT R ca to)), .int (nI 1)]) (rest := []) C h X (hr 100 (by decide)) ((cel_hi (by decide)).trans (celF_Mod _)) rfl (c_X7_no l hr M R o (isT R ca to) (nI 1)) (cwV 2 C.2.2.2.2.1 gX7_tower_X7_no rfl rfl rfl (by decide +kernel) ⟨Nat.le_of_ble_eq_true rfl, Nat.le_of_ble_eq_true rfl⟩) rfl hl.1 rfl (Nat.le_of_ble_eq_true rfl) dX7_tower_8 ⟨by decide, by decide⟩) (fun _ _ z => z) (fun v_8 u_8 H locs hpo h => ?_)
  obtain ⟨rfl, rfl⟩ := hpo
  refine b_eq hx hy (tgt := 19) dX7_tower_11 (by decide) (fun c_11 => ?_) (fun c_11 => ?_)
  · skip
    rw [noV_t c_11] at h
    have hno_11 : isT R ca to = true := not_ff c_11
    obtain ⟨c, t, hc, ht, rfl, rfl⟩ := isT_ok hno_11 (fun c hc => (hmn c hc).2)
    have hmn9 := (hmn c hc).2
    have ht7 : t < 7 := by omega
    have hi_c : cI (nI c) = c := nI_clamp (by omega)
    have hi_t : cI (nI t) = t := nI_clamp (by omega)
    have hmn9 := (hmn c hc).2
    have hwn9 := (hwn c hc).2
    have hB := (rv.1 c hc).2.2.2.2.1
    have hEr := (rv.1 c hc).2.2.2.2.2.1
    have hU := (rv.1 c hc).2.2.2.2.2.2
    refine lv_aload_n hx hy dX7_tower_19 rfl (lv_at hl 0 rfl) ?_
    refine g_f C h (hr 100 (by decide)) (cel_hi (by decide)) celF_Mod rfl in_X7_tower_X7 3 (by decide) (by decide +kernel) (v := .ref (V.1 104)) rfl dX7_tower_20 ?_
    refine lv_iload_n hx hy dX7_tower_23 rfl (lv_at hl 1 rfl) ?_
    refine lv_bipush (v := (nI 7)) hx hy dX7_tower_24 (by decide) ?_
    refine lv_imul hx hy dX7_tower_26 ?_
    refine lv_topn (pk_mul _ _) ?_
    refine lv_iload_n hx hy dX7_tower_27 rfl (lv_at hl 2 rfl) ?_
    refine lv_iadd hx hy dX7_tower_28 ?_
    refine lv_topn (nI_add _ _) ?_
    refine g_z C h (hr 104 (by decide)) (n := 14) (k := ((c * 7) + t)) (cel_hi (by decide)) (fun _ => rfl) (by omega) (by decide) (v := (R 104 ((c * 7) + t))) (show (wr R rMod 19 (nI 0)) 104 ((c * 7) + t) = (R 104 ((c * 7) + t)) from (wr_othr (by decide))) dX7_tower_29 ?_
    refine z_ne hx hy (tgt := 38) dX7_tower_30 (by decide) (fun c_30 => ?_) (fun c_30 => ?_)
    · skip
      refine lv_aload_n hx hy dX7_tower_38 rfl (lv_at hl 0 rfl) ?_
      refine lv_iload_n hx hy dX7_tower_39 rfl (lv_at hl 1 rfl) ?_
      refine lv_iload_n hx hy dX7_tower_40 rfl (lv_at hl 2 rfl) ?_
      refine n_go0 C h (n_V (As := [.int (nI c), .int (nI t)]) (rest := []) C h X (hr 100 (by decide)) ((cel_hi (by decide)).trans (celF_Mod _)) rfl (c_X7_rests l hr M (wr R rMod 19 (nI 0)) o c hc t ht7) (cwV 2 C.2.2.2.2.1 gX7_tower_X7_rests rfl rfl rfl (by decide +kernel) ⟨Nat.le_of_ble_eq_true rfl, Nat.le_of_ble_eq_true rfl⟩) rfl hl.1 rfl (Nat.le_of_ble_eq_true rfl) dX7_tower_41 ⟨by decide, by decide⟩) (fun _ _ z => z) (fun v_41 u_41 H locs hpo h => ?_)
      obtain ⟨rfl, rfl⟩ := hpo
      refine b_eq hx hy (tgt := 52) dX7_tower_44 (by decide) (fun c_44 => ?_) (fun c_44 => ?_)
      · skip
        refine lv_bipush (v := (nI 117)) hx hy dX7_tower_52 (by decide) ?_
        exact e_int C h (by decide) dX7_tower_54 (⟨_, rfl, by simp [kTowR, towRR, hno_11, hi_c, hi_t, hno_11, c_11, eq_false c_30, c_44, suR], by simp [kTowR, towRR, thr, suR, hno_11, hi_c, hi_t, hno_11, c_11, eq_false c_30, c_44]⟩) (by decide) (by decide)
      · skip
        refine lv_bipush (v := (nI 119)) hx hy dX7_tower_47 (by decide) ?_
        refine lv_goto (tgt := 54) hx hy dX7_tower_49 (by decide) ?_
        exact e_int C h (by decide) dX7_tower_54 (⟨_, rfl, by simp [kTowR, towRR, hno_11, hi_c, hi_t, hno_11, c_11, eq_false c_30, c_44, suR], by simp [kTowR, towRR, thr, suR, hno_11, hi_c, hi_t, hno_11, c_11, eq_false c_30, c_44]⟩) (by decide) (by decide)
    · skip
      refine lv_bipush (v := (nI 100)) hx hy dX7_tower_33 (by decide) ?_
      refine lv_goto (tgt := 54) hx hy dX7_tower_35 (by decide) ?_
      exact e_int C h (by decide) dX7_tower_54 (⟨_, rfl, by simp [kTowR, towRR, hno_11, hi_c, hi_t, hno_11, c_11, eq_true c_30, suR], by simp [kTowR, towRR, thr, suR, hno_11, hi_c, hi_t, hno_11, c_11, eq_true c_30]⟩) (by decide) (by decide)
  · skip
    rw [noV_f c_11] at h
    have hno_11 : isT R ca to = false := not_tt c_11
    refine lv_bipush (v := (nI 45)) hx hy dX7_tower_14 (by decide) ?_
    refine lv_goto (tgt := 54) hx hy dX7_tower_16 (by decide) ?_
    exact e_int C h (by decide) dX7_tower_54 (⟨_, rfl, by simp [kTowR, towRR, hno_11, c_11, suR], by simp [kTowR, towRR, thr, suR, hno_11, c_11]⟩) (by decide) (by decide)

set_option maxRecDepth 20000 in
theorem in_X7_order_X7 : ∀ x ∈ wsX70, x ∈ wsX7_order := by decide +kernel
set_option maxRecDepth 100000 in
set_option maxHeartbeats 4000000 in
/-- the reference: order -/
theorem c_X7_order (l : Launch) {G : va_G} {V : wV} {rs : List Nat} (hr : bR rs) (M R : wM) (o : wO) (rv : RV R) (lo0 ca ga : Int32) (isIn : Bool) (am : Int32) : CT l G V rs yX7_order wsX7_order 4 92 0 0 [.ref (V.1 rMod), .int lo0, .int ca, .int ga, .int (b2i isIn), .int am] (M, R, o) (fun v u => ∃ r, v = some (.int r) ∧ (kOrdR R lo0 ca ga isIn am = 0 → r = nI (wrN R (cI ca))) ∧ u = (M, orderR R lo0 ca ga isIn am, o)) (fun _ _ => False) := by
  refine ct_of (cc := cX7_order) (maxL := 7) (ret := (some .int)) (by decide) rfl (Nat.le_of_ble_eq_true rfl) ?_
  intro p e s m below meth cd ls C h X hT hl
  have hx := C.1
  have hy := C.2.1
  have hl : lv_has ls 7 [(0, .ref (V.1 rMod)), (1, .int lo0), (2, .int ca), (3, .int ga), (4, .int (b2i isIn)), (5, .int am)] := hl
  have hmn : ∀ c, c < 2 → R 101 c = nI (mnN R c) ∧ mnN R c ≤ 7 := fun c hc => ⟨(rv.1 c hc).1, (rv.1 c hc).2.1⟩
  have hwn : ∀ c, c < 2 → R 103 c = nI (wrN R c) ∧ wrN R c ≤ 60 := fun c hc => ⟨(rv.1 c hc).2.2.1, (rv.1 c hc).2.2.2.1⟩
  have hsi9 := rv.2.1.2
  have htr9 := rv.2.2.1.2
  refine lv_aload_n hx hy dX7_order_0 rfl (lv_at hl 0 rfl) ?_
  refine lv_iload_n hx hy dX7_order_1 rfl (lv_at hl 2 rfl) ?_
  refine n_go0 C h (n_S (As := [.int ca]) (rest := [.ref (V.1 rMod)]) C h X (c_X7_isCastle l M R o ca) (va_cwS 1 C.2.2.2.2.1 gX7_order_X7_isCastle rfl rfl rfl (by decide +kernel) ⟨Nat.le_of_ble_eq_true rfl, Nat.le_of_ble_eq_true rfl⟩) rfl hl.1 rfl (Nat.le_of_ble_eq_true rfl) dX7_order_2 ⟨by decide, by decide⟩) (fun _ _ z => z) (fun v_2 u_2 H locs hpo h => ?_)
  obtain ⟨rfl, rfl⟩ := hpo
  refine b_eq hx hy (tgt := 26) dX7_order_5 (by decide) (fun c_5 => ?_) (fun c_5 => ?_)
  · skip
    refine lv_iconst (v := (nI 0)) hx hy dX7_order_26 (by decide) ?_
    refine lv_iconst (v := (nI 1)) hx hy dX7_order_27 (by decide) ?_
    refine n_go0 C h (n_V (As := [.int (b2i false), .int (nI 1)]) (rest := []) C h X (hr 100 (by decide)) ((cel_hi (by decide)).trans (celF_Mod _)) rfl (c_X7_no l hr M R o false (nI 1)) (cwV 2 C.2.2.2.2.1 gX7_order_X7_no rfl rfl rfl (by decide +kernel) ⟨Nat.le_of_ble_eq_true rfl, Nat.le_of_ble_eq_true rfl⟩) rfl hl.1 rfl (Nat.le_of_ble_eq_true rfl) dX7_order_28 ⟨by decide, by decide⟩) (fun _ _ z => z) (fun v_28 u_28 H locs hpo h => ?_)
    obtain ⟨rfl, rfl⟩ := hpo
    refine b_ne hx hy (tgt := 51) dX7_order_31 (by decide) (fun c_31 => ?_) (fun c_31 => ?_)
    · skip
      rw [noV_f c_31] at h
      refine lv_iconst (v := (nI 0)) hx hy dX7_order_51 (by decide) ?_
      exact e_int C h rfl dX7_order_52 (⟨_, rfl, by simp [kOrdR, vR3, ord3R, ordBR, suR, thr, c_5, c_31], by simp [orderR, kOrdR, vR3, ord3R, ordBR, thr, suR, c_5, c_31]⟩) (by decide) (by decide)
    · skip
      exact absurd c_31 (by decide)
  · skip
    obtain ⟨c, hc, rfl⟩ := vIn_ok' c_5 (by decide)
    have hv_c : vIn (nI c) 2 = true := vIn_nI hc (by decide)
    have hi_c : cI (nI c) = c := nI_clamp (by omega)
    have hmn9 := (hmn c hc).2
    have hwn9 := (hwn c hc).2
    have hB := (rv.1 c hc).2.2.2.2.1
    have hEr := (rv.1 c hc).2.2.2.2.2.1
    have hU := (rv.1 c hc).2.2.2.2.2.2
    refine lv_iload_n hx hy dX7_order_8 rfl (lv_at hl 3 rfl) ?_
    refine n_go0 C h (n_S (As := [.int ga]) (rest := [.ref (V.1 rMod)]) C h X (c_X7_isGate l M R o ga) (va_cwS 1 C.2.2.2.2.1 gX7_order_X7_isGate rfl rfl rfl (by decide +kernel) ⟨Nat.le_of_ble_eq_true rfl, Nat.le_of_ble_eq_true rfl⟩) rfl hl.1 rfl (Nat.le_of_ble_eq_true rfl) dX7_order_9 ⟨by decide, by decide⟩) (fun _ _ z => z) (fun v_9 u_9 H locs hpo h => ?_)
    obtain ⟨rfl, rfl⟩ := hpo
    refine b_eq hx hy (tgt := 26) dX7_order_12 (by decide) (fun c_12 => ?_) (fun c_12 => ?_)
    · skip
      refine lv_iconst (v := (nI 0)) hx hy dX7_order_26 (by decide) ?_
      refine lv_iconst (v := (nI 1)) hx hy dX7_order_27 (by decide) ?_
      refine n_go0 C h (n_V (As := [.int (b2i false), .int (nI 1)]) (rest := []) C h X (hr 100 (by decide)) ((cel_hi (by decide)).trans (celF_Mod _)) rfl (c_X7_no l hr M R o false (nI 1)) (cwV 2 C.2.2.2.2.1 gX7_order_X7_no rfl rfl rfl (by decide +kernel) ⟨Nat.le_of_ble_eq_true rfl, Nat.le_of_ble_eq_true rfl⟩) rfl hl.1 rfl (Nat.le_of_ble_eq_true rfl) dX7_order_28 ⟨by decide, by decide⟩) (fun _ _ z => z) (fun v_28 u_28 H locs hpo h => ?_)
      obtain ⟨rfl, rfl⟩ := hpo
      refine b_ne hx hy (tgt := 51) dX7_order_31 (by decide) (fun c_31 => ?_) (fun c_31 => ?_)
      · skip
        rw [noV_f c_31] at h
        refine lv_iconst (v := (nI 0)) hx hy dX7_order_51 (by decide) ?_
        exact e_int C h rfl dX7_order_52 (⟨_, rfl, by simp [kOrdR, vR3, ord3R, ordBR, suR, thr, hi_c, hv_c, c_5, c_12, c_31], by simp [orderR, kOrdR, vR3, ord3R, ordBR, thr, suR, hi_c, hv_c, c_5, c_12, c_31]⟩) (by decide) (by decide)
      · skip
        exact absurd c_31 (by decide)
    · skip
      obtain ⟨g, hg, rfl⟩ := vIn_ok' c_12 (by decide)
      have hv_g : vIn (nI g) 3 = true := vIn_nI hg (by decide)
      have hi_g : cI (nI g) = g := nI_clamp (by omega)
      refine lv_iload_n hx hy dX7_order_15 rfl (lv_at hl 1 rfl) ?_
      refine n_go0 C h (n_S (As := [.int lo0]) (rest := [.ref (V.1 rMod)]) C h X (c_X7_isLord l M R o lo0) (va_cwS 1 C.2.2.2.2.1 gX7_order_X7_isLord rfl rfl rfl (by decide +kernel) ⟨Nat.le_of_ble_eq_true rfl, Nat.le_of_ble_eq_true rfl⟩) rfl hl.1 rfl (Nat.le_of_ble_eq_true rfl) dX7_order_16 ⟨by decide, by decide⟩) (fun _ _ z => z) (fun v_16 u_16 H locs hpo h => ?_)
      obtain ⟨rfl, rfl⟩ := hpo
      refine b_eq hx hy (tgt := 26) dX7_order_19 (by decide) (fun c_19 => ?_) (fun c_19 => ?_)
      · skip
        refine lv_iconst (v := (nI 0)) hx hy dX7_order_26 (by decide) ?_
        refine lv_iconst (v := (nI 1)) hx hy dX7_order_27 (by decide) ?_
        refine n_go0 C h (n_V (As := [.int (b2i false), .int (nI 1)]) (rest := []) C h X (hr 100 (by decide)) ((cel_hi (by decide)).trans (celF_Mod _)) rfl (c_X7_no l hr M R o false (nI 1)) (cwV 2 C.2.2.2.2.1 gX7_order_X7_no rfl rfl rfl (by decide +kernel) ⟨Nat.le_of_ble_eq_true rfl, Nat.le_of_ble_eq_true rfl⟩) rfl hl.1 rfl (Nat.le_of_ble_eq_true rfl) dX7_order_28 ⟨by decide, by decide⟩) (fun _ _ z => z) (fun v_28 u_28 H locs hpo h => ?_)
        obtain ⟨rfl, rfl⟩ := hpo
        refine b_ne hx hy (tgt := 51) dX7_order_31 (by decide) (fun c_31 => ?_) (fun c_31 => ?_)
        · skip
          rw [noV_f c_31] at h
          refine lv_iconst (v := (nI 0)) hx hy dX7_order_51 (by decide) ?_
          exact e_int C h rfl dX7_order_52 (⟨_, rfl, by simp [kOrdR, vR3, ord3R, ordBR, suR, thr, hi_c, hv_c, hi_g, hv_g, c_5, c_12, c_19, c_31], by simp [orderR, kOrdR, vR3, ord3R, ordBR, thr, suR, hi_c, hv_c, hi_g, hv_g, c_5, c_12, c_19, c_31]⟩) (by decide) (by decide)
        · skip
          exact absurd c_31 (by decide)
      · skip
        obtain ⟨lo, hlo, rfl⟩ := vIn_ok' c_19 (by decide)
        have hv_lo : vIn (nI lo) 4 = true := vIn_nI hlo (by decide)
        have hi_lo : cI (nI lo) = lo := nI_clamp (by omega)
        refine lv_iconst (v := (nI 1)) hx hy dX7_order_22 (by decide) ?_
        refine lv_goto (tgt := 27) hx hy dX7_order_23 (by decide) ?_
        refine lv_iconst (v := (nI 1)) hx hy dX7_order_27 (by decide) ?_
        refine n_go0 C h (n_V (As := [.int (b2i true), .int (nI 1)]) (rest := []) C h X (hr 100 (by decide)) ((cel_hi (by decide)).trans (celF_Mod _)) rfl (c_X7_no l hr M R o true (nI 1)) (cwV 2 C.2.2.2.2.1 gX7_order_X7_no rfl rfl rfl (by decide +kernel) ⟨Nat.le_of_ble_eq_true rfl, Nat.le_of_ble_eq_true rfl⟩) rfl hl.1 rfl (Nat.le_of_ble_eq_true rfl) dX7_order_28 ⟨by decide, by decide⟩) (fun _ _ z => z) (fun v_28 u_28 H locs hpo h => ?_)
        obtain ⟨rfl, rfl⟩ := hpo
        refine b_ne hx hy (tgt := 51) dX7_order_31 (by decide) (fun c_31 => ?_) (fun c_31 => ?_)
        · skip
          exact absurd c_31 (by decide)
        · skip
          rw [noV_t c_31] at h
          refine lv_aload_n hx hy dX7_order_34 rfl (lv_at hl 0 rfl) ?_
          refine lv_iload hx hy dX7_order_35 (lv_at hl 5 rfl) ?_
          refine lv_iconst (v := (nI 1)) hx hy dX7_order_37 (by decide) ?_
          refine lv_sipush (v := (nI 999)) hx hy dX7_order_38 (by decide) ?_
          refine n_go0 C h (n_S (As := [.int am, .int (nI 1), .int (nI 999)]) (rest := [.ref (V.1 rMod)]) C h X (c_X7_isIn l M (wr R rMod 19 (nI 0)) o am (nI 1) (nI 999)) (va_cwS 3 C.2.2.2.2.1 gX7_order_X7_isIn rfl rfl rfl (by decide +kernel) ⟨Nat.le_of_ble_eq_true rfl, Nat.le_of_ble_eq_true rfl⟩) rfl hl.1 rfl (Nat.le_of_ble_eq_true rfl) dX7_order_41 ⟨by decide, by decide⟩) (fun _ _ z => z) (fun v_41 u_41 H locs hpo h => ?_)
          obtain ⟨rfl, rfl⟩ := hpo
          refine lv_iconst (v := (nI 2)) hx hy dX7_order_44 (by decide) ?_
          refine n_go0 C h (n_V (As := [.int (b2i (vI am (nI 1) (nI 999))), .int (nI 2)]) (rest := []) C h X (hr 100 (by decide)) ((cel_hi (by decide)).trans (celF_Mod _)) rfl (c_X7_no l hr M (wr R rMod 19 (nI 0)) o (vI am (nI 1) (nI 999)) (nI 2)) (cwV 2 C.2.2.2.2.1 gX7_order_X7_no rfl rfl rfl (by decide +kernel) ⟨Nat.le_of_ble_eq_true rfl, Nat.le_of_ble_eq_true rfl⟩) rfl hl.1 rfl (Nat.le_of_ble_eq_true rfl) dX7_order_45 ⟨by decide, by decide⟩) (fun _ _ z => z) (fun v_45 u_45 H locs hpo h => ?_)
          obtain ⟨rfl, rfl⟩ := hpo
          refine b_eq hx hy (tgt := 53) dX7_order_48 (by decide) (fun c_48 => ?_) (fun c_48 => ?_)
          · skip
            rw [noV_t c_48] at h
            rw [wr_wr] at h
            have hno_48 : vI am (nI 1) (nI 999) = true := not_ff c_48
            refine lv_aload_n hx hy dX7_order_53 rfl (lv_at hl 0 rfl) ?_
            refine lv_iload_n hx hy dX7_order_54 rfl (lv_at hl 2 rfl) ?_
            refine n_go0 C h (n_V (As := [.int (nI c)]) (rest := []) C h X (hr 100 (by decide)) ((cel_hi (by decide)).trans (celF_Mod _)) rfl (c_X7_sums l hr M (wr R rMod 19 (nI 0)) o c hc (wrN R c) hwn9 (show (wr R rMod 19 (nI 0)) 103 c = nI (wrN R c) from ((wr_othr (by decide)).trans (hwn c hc).1)) hB) (cwV 1 C.2.2.2.2.1 gX7_order_X7_sums rfl rfl rfl (by decide +kernel) ⟨Nat.le_of_ble_eq_true rfl, Nat.le_of_ble_eq_true rfl⟩) rfl hl.1 rfl (Nat.le_of_ble_eq_true rfl) dX7_order_55 ⟨by decide, by decide⟩) (fun _ _ z => z) (fun v_55 u_55 H locs hpo h => ?_)
            obtain ⟨rfl, rfl⟩ := hpo
            refine lv_iload hx hy dX7_order_58 (lv_at hl 4 rfl) ?_
            refine b_eq hx hy (tgt := 82) dX7_order_60 (by decide) (fun c_60 => ?_) (fun c_60 => ?_)
            · skip
              refine lv_aload_n hx hy dX7_order_82 rfl (lv_at hl 0 rfl) ?_
              refine g_f C h (hr 100 (by decide)) (cel_hi (by decide)) celF_Mod rfl in_X7_order_X7 31 (by decide) (by decide +kernel) (v := .int ((suM (wr R rMod 19 (nI 0)) c (wrN R c)) rMod 31)) rfl dX7_order_83 ?_
              refine lv_aload_n hx hy dX7_order_86 rfl (lv_at hl 0 rfl) ?_
              refine g_f C h (hr 100 (by decide)) (cel_hi (by decide)) celF_Mod rfl in_X7_order_X7 32 (by decide) (by decide +kernel) (v := .int ((suM (wr R rMod 19 (nI 0)) c (wrN R c)) rMod 32)) rfl dX7_order_87 ?_
              refine lv_isub hx hy dX7_order_90 ?_
              refine lv_iload hx hy dX7_order_91 (lv_at hl 5 rfl) ?_
              refine i_lt hx hy (tgt := 100) dX7_order_93 (by decide) (fun c_93 => ?_) (fun c_93 => ?_)
              · skip
                refine lv_iconst (v := (nI 0)) hx hy dX7_order_100 (by decide) ?_
                refine lv_istore (lv' := [(6, .int (nI 0)), (0, .ref (V.1 rMod)), (1, .int (nI lo)), (2, .int (nI c)), (3, .int (nI g)), (4, .int (b2i isIn)), (5, .int am)]) hx hy dX7_order_101 hl (by decide) rfl (fun ls hl => ?_)
                refine lv_aload_n hx hy dX7_order_103 rfl (lv_at hl 1 rfl) ?_
                refine lv_aload_n hx hy dX7_order_104 rfl (lv_at hl 1 rfl) ?_
                refine lv_iload_n hx hy dX7_order_105 rfl (lv_at hl 3 rfl) ?_
                refine lv_iload_n hx hy dX7_order_106 rfl (lv_at hl 4 rfl) ?_
                refine lv_iload_n hx hy dX7_order_107 rfl (lv_at hl 2 rfl) ?_
                refine n_go0 C h (n_V (As := [.int (nI c), .int (nI g), .int (nI lo)]) (rest := [.ref (V.1 rMod)]) C h X (hr 100 (by decide)) ((cel_hi (by decide)).trans (celF_Mod _)) rfl (c_X7_opens l hr M (suM (wr R rMod 19 (nI 0)) c (wrN R c)) o c hc g hg lo hlo) (cwV 3 C.2.2.2.2.1 gX7_order_X7_opens rfl rfl rfl (by decide +kernel) ⟨Nat.le_of_ble_eq_true rfl, Nat.le_of_ble_eq_true rfl⟩) rfl hl.1 rfl (Nat.le_of_ble_eq_true rfl) dX7_order_108 ⟨by decide, by decide⟩) (fun _ _ z => z) (fun v_108 u_108 H locs hpo h => ?_)
                obtain ⟨rfl, rfl⟩ := hpo
                refine b_eq hx hy (tgt := 132) dX7_order_111 (by decide) (fun c_111 => ?_) (fun c_111 => ?_)
                · skip
                  refine lv_iconst (v := (nI 0)) hx hy dX7_order_132 (by decide) ?_
                  refine lv_iconst (v := (nI 3)) hx hy dX7_order_133 (by decide) ?_
                  refine n_go0 C h (n_V (As := [.int (b2i false), .int (nI 3)]) (rest := []) C h X (hr 100 (by decide)) ((cel_hi (by decide)).trans (celF_Mod _)) rfl (c_X7_no l hr M (suM (wr R rMod 19 (nI 0)) c (wrN R c)) o false (nI 3)) (cwV 2 C.2.2.2.2.1 gX7_order_X7_no rfl rfl rfl (by decide +kernel) ⟨Nat.le_of_ble_eq_true rfl, Nat.le_of_ble_eq_true rfl⟩) rfl hl.1 rfl (Nat.le_of_ble_eq_true rfl) dX7_order_134 ⟨by decide, by decide⟩) (fun _ _ z => z) (fun v_134 u_134 H locs hpo h => ?_)
                  obtain ⟨rfl, rfl⟩ := hpo
                  refine b_ne hx hy (tgt := 164) dX7_order_137 (by decide) (fun c_137 => ?_) (fun c_137 => ?_)
                  · skip
                    rw [noV_f c_137] at h
                    refine lv_iconst (v := (nI 0)) hx hy dX7_order_164 (by decide) ?_
                    exact e_int C h rfl dX7_order_165 (⟨_, rfl, by simp [kOrdR, vR3, ord3R, ordBR, suR, thr, hi_c, hv_c, hi_g, hv_g, hi_lo, hv_lo, hno_48, c_5, c_12, c_19, c_31, c_48, c_60, eq_true c_93, eq_false (Int32.not_le.mpr c_93), c_111, c_137], by simp [orderR, kOrdR, vR3, ord3R, ordBR, thr, suR, hi_c, hv_c, hi_g, hv_g, hi_lo, hv_lo, hno_48, c_5, c_12, c_19, c_31, c_48, c_60, eq_true c_93, eq_false (Int32.not_le.mpr c_93), c_111, c_137]⟩) (by decide) (by decide)
                  · skip
                    exact absurd c_137 (by decide)
                · skip
                  refine lv_iload hx hy dX7_order_114 (lv_at hl 0 rfl) ?_
                  refine nz_eq hx hy (by omega) (tgt := 132) dX7_order_116 (by decide) (fun c_116 => ?_) (fun c_116 => ?_)
                  · skip
                    refine lv_iconst (v := (nI 0)) hx hy dX7_order_132 (by decide) ?_
                    refine lv_iconst (v := (nI 3)) hx hy dX7_order_133 (by decide) ?_
                    refine n_go0 C h (n_V (As := [.int (b2i false), .int (nI 3)]) (rest := []) C h X (hr 100 (by decide)) ((cel_hi (by decide)).trans (celF_Mod _)) rfl (c_X7_no l hr M (suM (wr R rMod 19 (nI 0)) c (wrN R c)) o false (nI 3)) (cwV 2 C.2.2.2.2.1 gX7_order_X7_no rfl rfl rfl (by decide +kernel) ⟨Nat.le_of_ble_eq_true rfl, Nat.le_of_ble_eq_true rfl⟩) rfl hl.1 rfl (Nat.le_of_ble_eq_true rfl) dX7_order_134 ⟨by decide, by decide⟩) (fun _ _ z => z) (fun v_134 u_134 H locs hpo h => ?_)
                    obtain ⟨rfl, rfl⟩ := hpo
                    refine b_ne hx hy (tgt := 164) dX7_order_137 (by decide) (fun c_137 => ?_) (fun c_137 => ?_)
                    · skip
                      rw [noV_f c_137] at h
                      refine lv_iconst (v := (nI 0)) hx hy dX7_order_164 (by decide) ?_
                      exact e_int C h rfl dX7_order_165 (⟨_, rfl, by simp [kOrdR, vR3, ord3R, ordBR, suR, thr, hi_c, hv_c, hi_g, hv_g, hi_lo, hv_lo, hno_48, c_5, c_12, c_19, c_31, c_48, c_60, eq_true c_93, eq_false (Int32.not_le.mpr c_93), c_111, eq_true c_116, c_137], by simp [orderR, kOrdR, vR3, ord3R, ordBR, thr, suR, hi_c, hv_c, hi_g, hv_g, hi_lo, hv_lo, hno_48, c_5, c_12, c_19, c_31, c_48, c_60, eq_true c_93, eq_false (Int32.not_le.mpr c_93), c_111, eq_true c_116, c_137]⟩) (by decide) (by decide)
                    · skip
                      exact absurd c_137 (by decide)
                  · skip
                    exact absurd c_116 (by decide)
              · skip
                refine lv_iconst (v := (nI 1)) hx hy dX7_order_96 (by decide) ?_
                refine lv_goto (tgt := 101) hx hy dX7_order_97 (by decide) ?_
                refine lv_istore (lv' := [(6, .int (nI 1)), (0, .ref (V.1 rMod)), (1, .int (nI lo)), (2, .int (nI c)), (3, .int (nI g)), (4, .int (b2i isIn)), (5, .int am)]) hx hy dX7_order_101 hl (by decide) rfl (fun ls hl => ?_)
                refine lv_aload_n hx hy dX7_order_103 rfl (lv_at hl 1 rfl) ?_
                refine lv_aload_n hx hy dX7_order_104 rfl (lv_at hl 1 rfl) ?_
                refine lv_iload_n hx hy dX7_order_105 rfl (lv_at hl 3 rfl) ?_
                refine lv_iload_n hx hy dX7_order_106 rfl (lv_at hl 4 rfl) ?_
                refine lv_iload_n hx hy dX7_order_107 rfl (lv_at hl 2 rfl) ?_
                refine n_go0 C h (n_V (As := [.int (nI c), .int (nI g), .int (nI lo)]) (rest := [.ref (V.1 rMod)]) C h X (hr 100 (by decide)) ((cel_hi (by decide)).trans (celF_Mod _)) rfl (c_X7_opens l hr M (suM (wr R rMod 19 (nI 0)) c (wrN R c)) o c hc g hg lo hlo) (cwV 3 C.2.2.2.2.1 gX7_order_X7_opens rfl rfl rfl (by decide +kernel) ⟨Nat.le_of_ble_eq_true rfl, Nat.le_of_ble_eq_true rfl⟩) rfl hl.1 rfl (Nat.le_of_ble_eq_true rfl) dX7_order_108 ⟨by decide, by decide⟩) (fun _ _ z => z) (fun v_108 u_108 H locs hpo h => ?_)
                obtain ⟨rfl, rfl⟩ := hpo
                refine b_eq hx hy (tgt := 132) dX7_order_111 (by decide) (fun c_111 => ?_) (fun c_111 => ?_)
                · skip
                  refine lv_iconst (v := (nI 0)) hx hy dX7_order_132 (by decide) ?_
                  refine lv_iconst (v := (nI 3)) hx hy dX7_order_133 (by decide) ?_
                  refine n_go0 C h (n_V (As := [.int (b2i false), .int (nI 3)]) (rest := []) C h X (hr 100 (by decide)) ((cel_hi (by decide)).trans (celF_Mod _)) rfl (c_X7_no l hr M (suM (wr R rMod 19 (nI 0)) c (wrN R c)) o false (nI 3)) (cwV 2 C.2.2.2.2.1 gX7_order_X7_no rfl rfl rfl (by decide +kernel) ⟨Nat.le_of_ble_eq_true rfl, Nat.le_of_ble_eq_true rfl⟩) rfl hl.1 rfl (Nat.le_of_ble_eq_true rfl) dX7_order_134 ⟨by decide, by decide⟩) (fun _ _ z => z) (fun v_134 u_134 H locs hpo h => ?_)
                  obtain ⟨rfl, rfl⟩ := hpo
                  refine b_ne hx hy (tgt := 164) dX7_order_137 (by decide) (fun c_137 => ?_) (fun c_137 => ?_)
                  · skip
                    rw [noV_f c_137] at h
                    refine lv_iconst (v := (nI 0)) hx hy dX7_order_164 (by decide) ?_
                    exact e_int C h rfl dX7_order_165 (⟨_, rfl, by simp [kOrdR, vR3, ord3R, ordBR, suR, thr, hi_c, hv_c, hi_g, hv_g, hi_lo, hv_lo, hno_48, c_5, c_12, c_19, c_31, c_48, c_60, eq_true c_93, eq_false (Int32.not_lt.mpr c_93), c_111, c_137], by simp [orderR, kOrdR, vR3, ord3R, ordBR, thr, suR, hi_c, hv_c, hi_g, hv_g, hi_lo, hv_lo, hno_48, c_5, c_12, c_19, c_31, c_48, c_60, eq_true c_93, eq_false (Int32.not_lt.mpr c_93), c_111, c_137]⟩) (by decide) (by decide)
                  · skip
                    exact absurd c_137 (by decide)
                · skip
                  refine lv_iload hx hy dX7_order_114 (lv_at hl 0 rfl) ?_
                  refine nz_eq hx hy (by omega) (tgt := 132) dX7_order_116 (by decide) (fun c_116 => ?_) (fun c_116 => ?_)
                  · skip
                    exact absurd c_116 (by decide)
                  · skip
                    refine lv_aload_n hx hy dX7_order_119 rfl (lv_at hl 1 rfl) ?_
                    refine lv_iload_n hx hy dX7_order_120 rfl (lv_at hl 3 rfl) ?_
                    refine lv_iload_n hx hy dX7_order_121 rfl (lv_at hl 2 rfl) ?_
                    refine n_go0 C h (n_V (As := [.int (nI c), .int (nI lo)]) (rest := [.ref (V.1 rMod)]) C h X (hr 100 (by decide)) ((cel_hi (by decide)).trans (celF_Mod _)) rfl (c_X7_reach l hr M (suM (wr R rMod 19 (nI 0)) c (wrN R c)) o c hc (mnN R c) hmn9 (show (suM (wr R rMod 19 (nI 0)) c (wrN R c)) 101 c = nI (mnN R c) from ((congrFun (suM_ne (by decide) (by decide)) _).trans ((wr_othr (by decide)).trans (hmn c hc).1))) lo hlo) (cwV 2 C.2.2.2.2.1 gX7_order_X7_reach rfl rfl rfl (by decide +kernel) ⟨Nat.le_of_ble_eq_true rfl, Nat.le_of_ble_eq_true rfl⟩) rfl hl.1 rfl (Nat.le_of_ble_eq_true rfl) dX7_order_122 ⟨by decide, by decide⟩) (fun _ _ z => z) (fun v_122 u_122 H locs hpo h => ?_)
                    obtain ⟨rfl, rfl⟩ := hpo
                    refine z_eq hx hy (tgt := 132) dX7_order_125 (by decide) (fun c_125 => ?_) (fun c_125 => ?_)
                    · skip
                      refine lv_iconst (v := (nI 0)) hx hy dX7_order_132 (by decide) ?_
                      refine lv_iconst (v := (nI 3)) hx hy dX7_order_133 (by decide) ?_
                      refine n_go0 C h (n_V (As := [.int (b2i false), .int (nI 3)]) (rest := []) C h X (hr 100 (by decide)) ((cel_hi (by decide)).trans (celF_Mod _)) rfl (c_X7_no l hr M (suM (wr R rMod 19 (nI 0)) c (wrN R c)) o false (nI 3)) (cwV 2 C.2.2.2.2.1 gX7_order_X7_no rfl rfl rfl (by decide +kernel) ⟨Nat.le_of_ble_eq_true rfl, Nat.le_of_ble_eq_true rfl⟩) rfl hl.1 rfl (Nat.le_of_ble_eq_true rfl) dX7_order_134 ⟨by decide, by decide⟩) (fun _ _ z => z) (fun v_134 u_134 H locs hpo h => ?_)
                      obtain ⟨rfl, rfl⟩ := hpo
                      refine b_ne hx hy (tgt := 164) dX7_order_137 (by decide) (fun c_137 => ?_) (fun c_137 => ?_)
                      · skip
                        rw [noV_f c_137] at h
                        refine lv_iconst (v := (nI 0)) hx hy dX7_order_164 (by decide) ?_
                        exact e_int C h rfl dX7_order_165 (⟨_, rfl, by simp [kOrdR, vR3, ord3R, ordBR, suR, thr, hi_c, hv_c, hi_g, hv_g, hi_lo, hv_lo, hno_48, c_5, c_12, c_19, c_31, c_48, c_60, eq_true c_93, eq_false (Int32.not_lt.mpr c_93), c_111, eq_false c_116, eq_true c_125, c_137], by simp [orderR, kOrdR, vR3, ord3R, ordBR, thr, suR, hi_c, hv_c, hi_g, hv_g, hi_lo, hv_lo, hno_48, c_5, c_12, c_19, c_31, c_48, c_60, eq_true c_93, eq_false (Int32.not_lt.mpr c_93), c_111, eq_false c_116, eq_true c_125, c_137]⟩) (by decide) (by decide)
                      · skip
                        exact absurd c_137 (by decide)
                    · skip
                      refine lv_iconst (v := (nI 1)) hx hy dX7_order_128 (by decide) ?_
                      refine lv_goto (tgt := 133) hx hy dX7_order_129 (by decide) ?_
                      refine lv_iconst (v := (nI 3)) hx hy dX7_order_133 (by decide) ?_
                      refine n_go0 C h (n_V (As := [.int (b2i true), .int (nI 3)]) (rest := []) C h X (hr 100 (by decide)) ((cel_hi (by decide)).trans (celF_Mod _)) rfl (c_X7_no l hr M (suM (wr R rMod 19 (nI 0)) c (wrN R c)) o true (nI 3)) (cwV 2 C.2.2.2.2.1 gX7_order_X7_no rfl rfl rfl (by decide +kernel) ⟨Nat.le_of_ble_eq_true rfl, Nat.le_of_ble_eq_true rfl⟩) rfl hl.1 rfl (Nat.le_of_ble_eq_true rfl) dX7_order_134 ⟨by decide, by decide⟩) (fun _ _ z => z) (fun v_134 u_134 H locs hpo h => ?_)
                      obtain ⟨rfl, rfl⟩ := hpo
                      refine b_ne hx hy (tgt := 164) dX7_order_137 (by decide) (fun c_137 => ?_) (fun c_137 => ?_)
                      · skip
                        exact absurd c_137 (by decide)
                      · skip
                        rw [noV_t c_137] at h
                        refine lv_aload_n hx hy dX7_order_140 rfl (lv_at hl 1 rfl) ?_
                        refine lv_aload_n hx hy dX7_order_141 rfl (lv_at hl 1 rfl) ?_
                        refine g_f C h (hr 100 (by decide)) (cel_hi (by decide)) celF_Mod rfl in_X7_order_X7 2 (by decide) (by decide +kernel) (v := .ref (V.1 103)) rfl dX7_order_142 ?_
                        refine lv_iload_n hx hy dX7_order_145 rfl (lv_at hl 3 rfl) ?_
                        refine g_i C h (hr 103 (by decide)) (n := 2) (k := c) (cel_hi (by decide)) (fun _ => rfl) (by omega) (by decide) (v := (nI (wrN R c))) (show (wr (suM (wr R rMod 19 (nI 0)) c (wrN R c)) rMod 19 (nI 0)) 103 c = (nI (wrN R c)) from ((wr_othr (by decide)).trans ((congrFun (suM_ne (by decide) (by decide)) _).trans ((wr_othr (by decide)).trans (hwn c hc).1)))) dX7_order_146 ?_
                        refine lv_bipush (v := (nI 60)) hx hy dX7_order_147 (by decide) ?_
                        refine n_ge hx hy (by omega) (by decide) (tgt := 156) dX7_order_149 (by decide) (fun c_149 => ?_) (fun c_149 => ?_)
                        · skip
                          refine lv_iconst (v := (nI 0)) hx hy dX7_order_156 (by decide) ?_
                          refine lv_iconst (v := (nI 4)) hx hy dX7_order_157 (by decide) ?_
                          refine n_go0 C h (n_V (As := [.int (b2i false), .int (nI 4)]) (rest := []) C h X (hr 100 (by decide)) ((cel_hi (by decide)).trans (celF_Mod _)) rfl (c_X7_no l hr M (wr (suM (wr R rMod 19 (nI 0)) c (wrN R c)) rMod 19 (nI 0)) o false (nI 4)) (cwV 2 C.2.2.2.2.1 gX7_order_X7_no rfl rfl rfl (by decide +kernel) ⟨Nat.le_of_ble_eq_true rfl, Nat.le_of_ble_eq_true rfl⟩) rfl hl.1 rfl (Nat.le_of_ble_eq_true rfl) dX7_order_158 ⟨by decide, by decide⟩) (fun _ _ z => z) (fun v_158 u_158 H locs hpo h => ?_)
                          obtain ⟨rfl, rfl⟩ := hpo
                          refine b_eq hx hy (tgt := 166) dX7_order_161 (by decide) (fun c_161 => ?_) (fun c_161 => ?_)
                          · skip
                            exact absurd c_161 (by decide)
                          · skip
                            rw [noV_f c_161] at h
                            rw [wr_wr] at h
                            refine lv_iconst (v := (nI 0)) hx hy dX7_order_164 (by decide) ?_
                            exact e_int C h rfl dX7_order_165 (⟨_, rfl, by simp [kOrdR, vR3, ord3R, ordBR, suR, thr, hi_c, hv_c, hi_g, hv_g, hi_lo, hv_lo, hno_48, c_5, c_12, c_19, c_31, c_48, c_60, eq_true c_93, eq_false (Int32.not_lt.mpr c_93), c_111, eq_false c_116, eq_false c_125, c_137, eq_true c_149, eq_false (Nat.not_lt.mpr c_149), c_161], by simp [orderR, kOrdR, vR3, ord3R, ordBR, thr, suR, hi_c, hv_c, hi_g, hv_g, hi_lo, hv_lo, hno_48, c_5, c_12, c_19, c_31, c_48, c_60, eq_true c_93, eq_false (Int32.not_lt.mpr c_93), c_111, eq_false c_116, eq_false c_125, c_137, eq_true c_149, eq_false (Nat.not_lt.mpr c_149), c_161]⟩) (by decide) (by decide)
                        · skip
                          refine lv_iconst (v := (nI 1)) hx hy dX7_order_152 (by decide) ?_
                          refine lv_goto (tgt := 157) hx hy dX7_order_153 (by decide) ?_
                          refine lv_iconst (v := (nI 4)) hx hy dX7_order_157 (by decide) ?_
                          refine n_go0 C h (n_V (As := [.int (b2i true), .int (nI 4)]) (rest := []) C h X (hr 100 (by decide)) ((cel_hi (by decide)).trans (celF_Mod _)) rfl (c_X7_no l hr M (wr (suM (wr R rMod 19 (nI 0)) c (wrN R c)) rMod 19 (nI 0)) o true (nI 4)) (cwV 2 C.2.2.2.2.1 gX7_order_X7_no rfl rfl rfl (by decide +kernel) ⟨Nat.le_of_ble_eq_true rfl, Nat.le_of_ble_eq_true rfl⟩) rfl hl.1 rfl (Nat.le_of_ble_eq_true rfl) dX7_order_158 ⟨by decide, by decide⟩) (fun _ _ z => z) (fun v_158 u_158 H locs hpo h => ?_)
                          obtain ⟨rfl, rfl⟩ := hpo
                          refine b_eq hx hy (tgt := 166) dX7_order_161 (by decide) (fun c_161 => ?_) (fun c_161 => ?_)
                          · skip
                            rw [noV_t c_161] at h
                            rw [wr_wr] at h
                            refine lv_aload_n hx hy dX7_order_166 rfl (lv_at hl 1 rfl) ?_
                            refine lv_iload_n hx hy dX7_order_167 rfl (lv_at hl 3 rfl) ?_
                            refine lv_iload hx hy dX7_order_168 (lv_at hl 5 rfl) ?_
                            refine b_eq hx hy (tgt := 178) dX7_order_170 (by decide) (fun c_170 => ?_) (fun c_170 => ?_)
                            · skip
                              refine lv_bipush (v := (nI 111)) hx hy dX7_order_178 (by decide) ?_
                              refine lv_iload hx hy dX7_order_180 (lv_at hl 6 rfl) ?_
                              refine lv_iload_n hx hy dX7_order_182 rfl (lv_at hl 2 rfl) ?_
                              refine lv_iconst (v := (nI 0)) hx hy dX7_order_183 (by decide) ?_
                              refine n_go0 C h (n_V (As := [.int (nI c), .int (nI 111), .int am, .int (nI lo), .int (nI 0)]) (rest := []) C h X (hr 100 (by decide)) ((cel_hi (by decide)).trans (celF_Mod _)) rfl (c_X7_writes l hr M (wr (suM (wr R rMod 19 (nI 0)) c (wrN R c)) rMod 19 (nI 0)) o c hc (mnN R c) hmn9 (show (wr (suM (wr R rMod 19 (nI 0)) c (wrN R c)) rMod 19 (nI 0)) 101 c = nI (mnN R c) from ((wr_othr (by decide)).trans ((congrFun (suM_ne (by decide) (by decide)) _).trans ((wr_othr (by decide)).trans (hmn c hc).1)))) (wrN R c) c_149 (show (wr (suM (wr R rMod 19 (nI 0)) c (wrN R c)) rMod 19 (nI 0)) 103 c = nI (wrN R c) from ((wr_othr (by decide)).trans ((congrFun (suM_ne (by decide) (by decide)) _).trans ((wr_othr (by decide)).trans (hwn c hc).1)))) lo hlo (nI 111) am (nI 0) (by decide)) (cwV 5 C.2.2.2.2.1 gX7_order_X7_writes rfl rfl rfl (by decide +kernel) ⟨Nat.le_of_ble_eq_true rfl, Nat.le_of_ble_eq_true rfl⟩) rfl hl.1 rfl (Nat.le_of_ble_eq_true rfl) dX7_order_184 ⟨by decide, by decide⟩) (fun _ _ z => z) (fun v_184 u_184 H locs hpo h => ?_)
                              obtain ⟨rfl, rfl⟩ := hpo
                              exact e_int C h rfl dX7_order_187 (⟨_, rfl, by simp [kOrdR, vR3, ord3R, ordBR, suR, thr, hi_c, hv_c, hi_g, hv_g, hi_lo, hv_lo, hno_48, c_5, c_12, c_19, c_31, c_48, c_60, eq_true c_93, eq_false (Int32.not_lt.mpr c_93), c_111, eq_false c_116, eq_false c_125, c_137, eq_true c_149, eq_false (Nat.not_le.mpr c_149), c_161, c_170], by simp [orderR, kOrdR, vR3, ord3R, ordBR, thr, suR, hi_c, hv_c, hi_g, hv_g, hi_lo, hv_lo, hno_48, c_5, c_12, c_19, c_31, c_48, c_60, eq_true c_93, eq_false (Int32.not_lt.mpr c_93), c_111, eq_false c_116, eq_false c_125, c_137, eq_true c_149, eq_false (Nat.not_le.mpr c_149), c_161, c_170]⟩) (by decide) (by decide)
                            · skip
                              refine lv_bipush (v := (nI 105)) hx hy dX7_order_173 (by decide) ?_
                              refine lv_goto (tgt := 180) hx hy dX7_order_175 (by decide) ?_
                              refine lv_iload hx hy dX7_order_180 (lv_at hl 6 rfl) ?_
                              refine lv_iload_n hx hy dX7_order_182 rfl (lv_at hl 2 rfl) ?_
                              refine lv_iconst (v := (nI 0)) hx hy dX7_order_183 (by decide) ?_
                              refine n_go0 C h (n_V (As := [.int (nI c), .int (nI 105), .int am, .int (nI lo), .int (nI 0)]) (rest := []) C h X (hr 100 (by decide)) ((cel_hi (by decide)).trans (celF_Mod _)) rfl (c_X7_writes l hr M (wr (suM (wr R rMod 19 (nI 0)) c (wrN R c)) rMod 19 (nI 0)) o c hc (mnN R c) hmn9 (show (wr (suM (wr R rMod 19 (nI 0)) c (wrN R c)) rMod 19 (nI 0)) 101 c = nI (mnN R c) from ((wr_othr (by decide)).trans ((congrFun (suM_ne (by decide) (by decide)) _).trans ((wr_othr (by decide)).trans (hmn c hc).1)))) (wrN R c) c_149 (show (wr (suM (wr R rMod 19 (nI 0)) c (wrN R c)) rMod 19 (nI 0)) 103 c = nI (wrN R c) from ((wr_othr (by decide)).trans ((congrFun (suM_ne (by decide) (by decide)) _).trans ((wr_othr (by decide)).trans (hwn c hc).1)))) lo hlo (nI 105) am (nI 0) (by decide)) (cwV 5 C.2.2.2.2.1 gX7_order_X7_writes rfl rfl rfl (by decide +kernel) ⟨Nat.le_of_ble_eq_true rfl, Nat.le_of_ble_eq_true rfl⟩) rfl hl.1 rfl (Nat.le_of_ble_eq_true rfl) dX7_order_184 ⟨by decide, by decide⟩) (fun _ _ z => z) (fun v_184 u_184 H locs hpo h => ?_)
                              obtain ⟨rfl, rfl⟩ := hpo
                              exact e_int C h rfl dX7_order_187 (absurd (c_60.symm.trans c_170) (by decide)) (by decide) (by decide)
                          · skip
                            exact absurd c_161 (by decide)
            · skip
              refine lv_aload_n hx hy dX7_order_63 rfl (lv_at hl 0 rfl) ?_
              refine g_f C h (hr 100 (by decide)) (cel_hi (by decide)) celF_Mod rfl in_X7_order_X7 34 (by decide) (by decide +kernel) (v := .ref (V.1 135)) rfl dX7_order_64 ?_
              refine lv_iload_n hx hy dX7_order_67 rfl (lv_at hl 1 rfl) ?_
              refine g_i C h (hr 135 (by decide)) (n := 4) (k := lo) (cel_hi (by decide)) (fun _ => rfl) (by omega) (by decide) (v := ((suM (wr R rMod 19 (nI 0)) c (wrN R c)) 135 lo)) rfl dX7_order_68 ?_
              refine lv_iload hx hy dX7_order_69 (lv_at hl 5 rfl) ?_
              refine i_lt hx hy (tgt := 78) dX7_order_71 (by decide) (fun c_71 => ?_) (fun c_71 => ?_)
              · skip
                refine lv_iconst (v := (nI 0)) hx hy dX7_order_78 (by decide) ?_
                refine lv_goto (tgt := 101) hx hy dX7_order_79 (by decide) ?_
                refine lv_istore (lv' := [(6, .int (nI 0)), (0, .ref (V.1 rMod)), (1, .int (nI lo)), (2, .int (nI c)), (3, .int (nI g)), (4, .int (b2i isIn)), (5, .int am)]) hx hy dX7_order_101 hl (by decide) rfl (fun ls hl => ?_)
                refine lv_aload_n hx hy dX7_order_103 rfl (lv_at hl 1 rfl) ?_
                refine lv_aload_n hx hy dX7_order_104 rfl (lv_at hl 1 rfl) ?_
                refine lv_iload_n hx hy dX7_order_105 rfl (lv_at hl 3 rfl) ?_
                refine lv_iload_n hx hy dX7_order_106 rfl (lv_at hl 4 rfl) ?_
                refine lv_iload_n hx hy dX7_order_107 rfl (lv_at hl 2 rfl) ?_
                refine n_go0 C h (n_V (As := [.int (nI c), .int (nI g), .int (nI lo)]) (rest := [.ref (V.1 rMod)]) C h X (hr 100 (by decide)) ((cel_hi (by decide)).trans (celF_Mod _)) rfl (c_X7_opens l hr M (suM (wr R rMod 19 (nI 0)) c (wrN R c)) o c hc g hg lo hlo) (cwV 3 C.2.2.2.2.1 gX7_order_X7_opens rfl rfl rfl (by decide +kernel) ⟨Nat.le_of_ble_eq_true rfl, Nat.le_of_ble_eq_true rfl⟩) rfl hl.1 rfl (Nat.le_of_ble_eq_true rfl) dX7_order_108 ⟨by decide, by decide⟩) (fun _ _ z => z) (fun v_108 u_108 H locs hpo h => ?_)
                obtain ⟨rfl, rfl⟩ := hpo
                refine b_eq hx hy (tgt := 132) dX7_order_111 (by decide) (fun c_111 => ?_) (fun c_111 => ?_)
                · skip
                  refine lv_iconst (v := (nI 0)) hx hy dX7_order_132 (by decide) ?_
                  refine lv_iconst (v := (nI 3)) hx hy dX7_order_133 (by decide) ?_
                  refine n_go0 C h (n_V (As := [.int (b2i false), .int (nI 3)]) (rest := []) C h X (hr 100 (by decide)) ((cel_hi (by decide)).trans (celF_Mod _)) rfl (c_X7_no l hr M (suM (wr R rMod 19 (nI 0)) c (wrN R c)) o false (nI 3)) (cwV 2 C.2.2.2.2.1 gX7_order_X7_no rfl rfl rfl (by decide +kernel) ⟨Nat.le_of_ble_eq_true rfl, Nat.le_of_ble_eq_true rfl⟩) rfl hl.1 rfl (Nat.le_of_ble_eq_true rfl) dX7_order_134 ⟨by decide, by decide⟩) (fun _ _ z => z) (fun v_134 u_134 H locs hpo h => ?_)
                  obtain ⟨rfl, rfl⟩ := hpo
                  refine b_ne hx hy (tgt := 164) dX7_order_137 (by decide) (fun c_137 => ?_) (fun c_137 => ?_)
                  · skip
                    rw [noV_f c_137] at h
                    refine lv_iconst (v := (nI 0)) hx hy dX7_order_164 (by decide) ?_
                    exact e_int C h rfl dX7_order_165 (⟨_, rfl, by simp [kOrdR, vR3, ord3R, ordBR, suR, thr, hi_c, hv_c, hi_g, hv_g, hi_lo, hv_lo, hno_48, c_5, c_12, c_19, c_31, c_48, c_60, eq_true c_71, eq_false (Int32.not_le.mpr c_71), c_111, c_137], by simp [orderR, kOrdR, vR3, ord3R, ordBR, thr, suR, hi_c, hv_c, hi_g, hv_g, hi_lo, hv_lo, hno_48, c_5, c_12, c_19, c_31, c_48, c_60, eq_true c_71, eq_false (Int32.not_le.mpr c_71), c_111, c_137]⟩) (by decide) (by decide)
                  · skip
                    exact absurd c_137 (by decide)
                · skip
                  refine lv_iload hx hy dX7_order_114 (lv_at hl 0 rfl) ?_
                  refine nz_eq hx hy (by omega) (tgt := 132) dX7_order_116 (by decide) (fun c_116 => ?_) (fun c_116 => ?_)
                  · skip
                    refine lv_iconst (v := (nI 0)) hx hy dX7_order_132 (by decide) ?_
                    refine lv_iconst (v := (nI 3)) hx hy dX7_order_133 (by decide) ?_
                    refine n_go0 C h (n_V (As := [.int (b2i false), .int (nI 3)]) (rest := []) C h X (hr 100 (by decide)) ((cel_hi (by decide)).trans (celF_Mod _)) rfl (c_X7_no l hr M (suM (wr R rMod 19 (nI 0)) c (wrN R c)) o false (nI 3)) (cwV 2 C.2.2.2.2.1 gX7_order_X7_no rfl rfl rfl (by decide +kernel) ⟨Nat.le_of_ble_eq_true rfl, Nat.le_of_ble_eq_true rfl⟩) rfl hl.1 rfl (Nat.le_of_ble_eq_true rfl) dX7_order_134 ⟨by decide, by decide⟩) (fun _ _ z => z) (fun v_134 u_134 H locs hpo h => ?_)
                    obtain ⟨rfl, rfl⟩ := hpo
                    refine b_ne hx hy (tgt := 164) dX7_order_137 (by decide) (fun c_137 => ?_) (fun c_137 => ?_)
                    · skip
                      rw [noV_f c_137] at h
                      refine lv_iconst (v := (nI 0)) hx hy dX7_order_164 (by decide) ?_
                      exact e_int C h rfl dX7_order_165 (⟨_, rfl, by simp [kOrdR, vR3, ord3R, ordBR, suR, thr, hi_c, hv_c, hi_g, hv_g, hi_lo, hv_lo, hno_48, c_5, c_12, c_19, c_31, c_48, c_60, eq_true c_71, eq_false (Int32.not_le.mpr c_71), c_111, eq_true c_116, c_137], by simp [orderR, kOrdR, vR3, ord3R, ordBR, thr, suR, hi_c, hv_c, hi_g, hv_g, hi_lo, hv_lo, hno_48, c_5, c_12, c_19, c_31, c_48, c_60, eq_true c_71, eq_false (Int32.not_le.mpr c_71), c_111, eq_true c_116, c_137]⟩) (by decide) (by decide)
                    · skip
                      exact absurd c_137 (by decide)
                  · skip
                    exact absurd c_116 (by decide)
              · skip
                refine lv_iconst (v := (nI 1)) hx hy dX7_order_74 (by decide) ?_
                refine lv_goto (tgt := 101) hx hy dX7_order_75 (by decide) ?_
                refine lv_istore (lv' := [(6, .int (nI 1)), (0, .ref (V.1 rMod)), (1, .int (nI lo)), (2, .int (nI c)), (3, .int (nI g)), (4, .int (b2i isIn)), (5, .int am)]) hx hy dX7_order_101 hl (by decide) rfl (fun ls hl => ?_)
                refine lv_aload_n hx hy dX7_order_103 rfl (lv_at hl 1 rfl) ?_
                refine lv_aload_n hx hy dX7_order_104 rfl (lv_at hl 1 rfl) ?_
                refine lv_iload_n hx hy dX7_order_105 rfl (lv_at hl 3 rfl) ?_
                refine lv_iload_n hx hy dX7_order_106 rfl (lv_at hl 4 rfl) ?_
                refine lv_iload_n hx hy dX7_order_107 rfl (lv_at hl 2 rfl) ?_
                refine n_go0 C h (n_V (As := [.int (nI c), .int (nI g), .int (nI lo)]) (rest := [.ref (V.1 rMod)]) C h X (hr 100 (by decide)) ((cel_hi (by decide)).trans (celF_Mod _)) rfl (c_X7_opens l hr M (suM (wr R rMod 19 (nI 0)) c (wrN R c)) o c hc g hg lo hlo) (cwV 3 C.2.2.2.2.1 gX7_order_X7_opens rfl rfl rfl (by decide +kernel) ⟨Nat.le_of_ble_eq_true rfl, Nat.le_of_ble_eq_true rfl⟩) rfl hl.1 rfl (Nat.le_of_ble_eq_true rfl) dX7_order_108 ⟨by decide, by decide⟩) (fun _ _ z => z) (fun v_108 u_108 H locs hpo h => ?_)
                obtain ⟨rfl, rfl⟩ := hpo
                refine b_eq hx hy (tgt := 132) dX7_order_111 (by decide) (fun c_111 => ?_) (fun c_111 => ?_)
                · skip
                  refine lv_iconst (v := (nI 0)) hx hy dX7_order_132 (by decide) ?_
                  refine lv_iconst (v := (nI 3)) hx hy dX7_order_133 (by decide) ?_
                  refine n_go0 C h (n_V (As := [.int (b2i false), .int (nI 3)]) (rest := []) C h X (hr 100 (by decide)) ((cel_hi (by decide)).trans (celF_Mod _)) rfl (c_X7_no l hr M (suM (wr R rMod 19 (nI 0)) c (wrN R c)) o false (nI 3)) (cwV 2 C.2.2.2.2.1 gX7_order_X7_no rfl rfl rfl (by decide +kernel) ⟨Nat.le_of_ble_eq_true rfl, Nat.le_of_ble_eq_true rfl⟩) rfl hl.1 rfl (Nat.le_of_ble_eq_true rfl) dX7_order_134 ⟨by decide, by decide⟩) (fun _ _ z => z) (fun v_134 u_134 H locs hpo h => ?_)
                  obtain ⟨rfl, rfl⟩ := hpo
                  refine b_ne hx hy (tgt := 164) dX7_order_137 (by decide) (fun c_137 => ?_) (fun c_137 => ?_)
                  · skip
                    rw [noV_f c_137] at h
                    refine lv_iconst (v := (nI 0)) hx hy dX7_order_164 (by decide) ?_
                    exact e_int C h rfl dX7_order_165 (⟨_, rfl, by simp [kOrdR, vR3, ord3R, ordBR, suR, thr, hi_c, hv_c, hi_g, hv_g, hi_lo, hv_lo, hno_48, c_5, c_12, c_19, c_31, c_48, c_60, eq_true c_71, eq_false (Int32.not_lt.mpr c_71), c_111, c_137], by simp [orderR, kOrdR, vR3, ord3R, ordBR, thr, suR, hi_c, hv_c, hi_g, hv_g, hi_lo, hv_lo, hno_48, c_5, c_12, c_19, c_31, c_48, c_60, eq_true c_71, eq_false (Int32.not_lt.mpr c_71), c_111, c_137]⟩) (by decide) (by decide)
                  · skip
                    exact absurd c_137 (by decide)
                · skip
                  refine lv_iload hx hy dX7_order_114 (lv_at hl 0 rfl) ?_
                  refine nz_eq hx hy (by omega) (tgt := 132) dX7_order_116 (by decide) (fun c_116 => ?_) (fun c_116 => ?_)
                  · skip
                    exact absurd c_116 (by decide)
                  · skip
                    refine lv_aload_n hx hy dX7_order_119 rfl (lv_at hl 1 rfl) ?_
                    refine lv_iload_n hx hy dX7_order_120 rfl (lv_at hl 3 rfl) ?_
                    refine lv_iload_n hx hy dX7_order_121 rfl (lv_at hl 2 rfl) ?_
                    refine n_go0 C h (n_V (As := [.int (nI c), .int (nI lo)]) (rest := [.ref (V.1 rMod)]) C h X (hr 100 (by decide)) ((cel_hi (by decide)).trans (celF_Mod _)) rfl (c_X7_reach l hr M (suM (wr R rMod 19 (nI 0)) c (wrN R c)) o c hc (mnN R c) hmn9 (show (suM (wr R rMod 19 (nI 0)) c (wrN R c)) 101 c = nI (mnN R c) from ((congrFun (suM_ne (by decide) (by decide)) _).trans ((wr_othr (by decide)).trans (hmn c hc).1))) lo hlo) (cwV 2 C.2.2.2.2.1 gX7_order_X7_reach rfl rfl rfl (by decide +kernel) ⟨Nat.le_of_ble_eq_true rfl, Nat.le_of_ble_eq_true rfl⟩) rfl hl.1 rfl (Nat.le_of_ble_eq_true rfl) dX7_order_122 ⟨by decide, by decide⟩) (fun _ _ z => z) (fun v_122 u_122 H locs hpo h => ?_)
                    obtain ⟨rfl, rfl⟩ := hpo
                    refine z_eq hx hy (tgt := 132) dX7_order_125 (by decide) (fun c_125 => ?_) (fun c_125 => ?_)
                    · skip
                      refine lv_iconst (v := (nI 0)) hx hy dX7_order_132 (by decide) ?_
                      refine lv_iconst (v := (nI 3)) hx hy dX7_order_133 (by decide) ?_
                      refine n_go0 C h (n_V (As := [.int (b2i false), .int (nI 3)]) (rest := []) C h X (hr 100 (by decide)) ((cel_hi (by decide)).trans (celF_Mod _)) rfl (c_X7_no l hr M (suM (wr R rMod 19 (nI 0)) c (wrN R c)) o false (nI 3)) (cwV 2 C.2.2.2.2.1 gX7_order_X7_no rfl rfl rfl (by decide +kernel) ⟨Nat.le_of_ble_eq_true rfl, Nat.le_of_ble_eq_true rfl⟩) rfl hl.1 rfl (Nat.le_of_ble_eq_true rfl) dX7_order_134 ⟨by decide, by decide⟩) (fun _ _ z => z) (fun v_134 u_134 H locs hpo h => ?_)
                      obtain ⟨rfl, rfl⟩ := hpo
                      refine b_ne hx hy (tgt := 164) dX7_order_137 (by decide) (fun c_137 => ?_) (fun c_137 => ?_)
                      · skip
                        rw [noV_f c_137] at h
                        refine lv_iconst (v := (nI 0)) hx hy dX7_order_164 (by decide) ?_
                        exact e_int C h rfl dX7_order_165 (⟨_, rfl, by simp [kOrdR, vR3, ord3R, ordBR, suR, thr, hi_c, hv_c, hi_g, hv_g, hi_lo, hv_lo, hno_48, c_5, c_12, c_19, c_31, c_48, c_60, eq_true c_71, eq_false (Int32.not_lt.mpr c_71), c_111, eq_false c_116, eq_true c_125, c_137], by simp [orderR, kOrdR, vR3, ord3R, ordBR, thr, suR, hi_c, hv_c, hi_g, hv_g, hi_lo, hv_lo, hno_48, c_5, c_12, c_19, c_31, c_48, c_60, eq_true c_71, eq_false (Int32.not_lt.mpr c_71), c_111, eq_false c_116, eq_true c_125, c_137]⟩) (by decide) (by decide)
                      · skip
                        exact absurd c_137 (by decide)
                    · skip
                      refine lv_iconst (v := (nI 1)) hx hy dX7_order_128 (by decide) ?_
                      refine lv_goto (tgt := 133) hx hy dX7_order_129 (by decide) ?_
                      refine lv_iconst (v := (nI 3)) hx hy dX7_order_133 (by decide) ?_
                      refine n_go0 C h (n_V (As := [.int (b2i true), .int (nI 3)]) (rest := []) C h X (hr 100 (by decide)) ((cel_hi (by decide)).trans (celF_Mod _)) rfl (c_X7_no l hr M (suM (wr R rMod 19 (nI 0)) c (wrN R c)) o true (nI 3)) (cwV 2 C.2.2.2.2.1 gX7_order_X7_no rfl rfl rfl (by decide +kernel) ⟨Nat.le_of_ble_eq_true rfl, Nat.le_of_ble_eq_true rfl⟩) rfl hl.1 rfl (Nat.le_of_ble_eq_true rfl) dX7_order_134 ⟨by decide, by decide⟩) (fun _ _ z => z) (fun v_134 u_134 H locs hpo h => ?_)
                      obtain ⟨rfl, rfl⟩ := hpo
                      refine b_ne hx hy (tgt := 164) dX7_order_137 (by decide) (fun c_137 => ?_) (fun c_137 => ?_)
                      · skip
                        exact absurd c_137 (by decide)
                      · skip
                        rw [noV_t c_137] at h
                        refine lv_aload_n hx hy dX7_order_140 rfl (lv_at hl 1 rfl) ?_
                        refine lv_aload_n hx hy dX7_order_141 rfl (lv_at hl 1 rfl) ?_
                        refine g_f C h (hr 100 (by decide)) (cel_hi (by decide)) celF_Mod rfl in_X7_order_X7 2 (by decide) (by decide +kernel) (v := .ref (V.1 103)) rfl dX7_order_142 ?_
                        refine lv_iload_n hx hy dX7_order_145 rfl (lv_at hl 3 rfl) ?_
                        refine g_i C h (hr 103 (by decide)) (n := 2) (k := c) (cel_hi (by decide)) (fun _ => rfl) (by omega) (by decide) (v := (nI (wrN R c))) (show (wr (suM (wr R rMod 19 (nI 0)) c (wrN R c)) rMod 19 (nI 0)) 103 c = (nI (wrN R c)) from ((wr_othr (by decide)).trans ((congrFun (suM_ne (by decide) (by decide)) _).trans ((wr_othr (by decide)).trans (hwn c hc).1)))) dX7_order_146 ?_
                        refine lv_bipush (v := (nI 60)) hx hy dX7_order_147 (by decide) ?_
                        refine n_ge hx hy (by omega) (by decide) (tgt := 156) dX7_order_149 (by decide) (fun c_149 => ?_) (fun c_149 => ?_)
                        · skip
                          refine lv_iconst (v := (nI 0)) hx hy dX7_order_156 (by decide) ?_
                          refine lv_iconst (v := (nI 4)) hx hy dX7_order_157 (by decide) ?_
                          refine n_go0 C h (n_V (As := [.int (b2i false), .int (nI 4)]) (rest := []) C h X (hr 100 (by decide)) ((cel_hi (by decide)).trans (celF_Mod _)) rfl (c_X7_no l hr M (wr (suM (wr R rMod 19 (nI 0)) c (wrN R c)) rMod 19 (nI 0)) o false (nI 4)) (cwV 2 C.2.2.2.2.1 gX7_order_X7_no rfl rfl rfl (by decide +kernel) ⟨Nat.le_of_ble_eq_true rfl, Nat.le_of_ble_eq_true rfl⟩) rfl hl.1 rfl (Nat.le_of_ble_eq_true rfl) dX7_order_158 ⟨by decide, by decide⟩) (fun _ _ z => z) (fun v_158 u_158 H locs hpo h => ?_)
                          obtain ⟨rfl, rfl⟩ := hpo
                          refine b_eq hx hy (tgt := 166) dX7_order_161 (by decide) (fun c_161 => ?_) (fun c_161 => ?_)
                          · skip
                            exact absurd c_161 (by decide)
                          · skip
                            rw [noV_f c_161] at h
                            rw [wr_wr] at h
                            refine lv_iconst (v := (nI 0)) hx hy dX7_order_164 (by decide) ?_
                            exact e_int C h rfl dX7_order_165 (⟨_, rfl, by simp [kOrdR, vR3, ord3R, ordBR, suR, thr, hi_c, hv_c, hi_g, hv_g, hi_lo, hv_lo, hno_48, c_5, c_12, c_19, c_31, c_48, c_60, eq_true c_71, eq_false (Int32.not_lt.mpr c_71), c_111, eq_false c_116, eq_false c_125, c_137, eq_true c_149, eq_false (Nat.not_lt.mpr c_149), c_161], by simp [orderR, kOrdR, vR3, ord3R, ordBR, thr, suR, hi_c, hv_c, hi_g, hv_g, hi_lo, hv_lo, hno_48, c_5, c_12, c_19, c_31, c_48, c_60, eq_true c_71, eq_false (Int32.not_lt.mpr c_71), c_111, eq_false c_116, eq_false c_125, c_137, eq_true c_149, eq_false (Nat.not_lt.mpr c_149), c_161]⟩) (by decide) (by decide)
                        · skip
                          refine lv_iconst (v := (nI 1)) hx hy dX7_order_152 (by decide) ?_
                          refine lv_goto (tgt := 157) hx hy dX7_order_153 (by decide) ?_
                          refine lv_iconst (v := (nI 4)) hx hy dX7_order_157 (by decide) ?_
                          refine n_go0 C h (n_V (As := [.int (b2i true), .int (nI 4)]) (rest := []) C h X (hr 100 (by decide)) ((cel_hi (by decide)).trans (celF_Mod _)) rfl (c_X7_no l hr M (wr (suM (wr R rMod 19 (nI 0)) c (wrN R c)) rMod 19 (nI 0)) o true (nI 4)) (cwV 2 C.2.2.2.2.1 gX7_order_X7_no rfl rfl rfl (by decide +kernel) ⟨Nat.le_of_ble_eq_true rfl, Nat.le_of_ble_eq_true rfl⟩) rfl hl.1 rfl (Nat.le_of_ble_eq_true rfl) dX7_order_158 ⟨by decide, by decide⟩) (fun _ _ z => z) (fun v_158 u_158 H locs hpo h => ?_)
                          obtain ⟨rfl, rfl⟩ := hpo
                          refine b_eq hx hy (tgt := 166) dX7_order_161 (by decide) (fun c_161 => ?_) (fun c_161 => ?_)
                          · skip
                            rw [noV_t c_161] at h
                            rw [wr_wr] at h
                            refine lv_aload_n hx hy dX7_order_166 rfl (lv_at hl 1 rfl) ?_
                            refine lv_iload_n hx hy dX7_order_167 rfl (lv_at hl 3 rfl) ?_
                            refine lv_iload hx hy dX7_order_168 (lv_at hl 5 rfl) ?_
                            refine b_eq hx hy (tgt := 178) dX7_order_170 (by decide) (fun c_170 => ?_) (fun c_170 => ?_)
                            · skip
                              refine lv_bipush (v := (nI 111)) hx hy dX7_order_178 (by decide) ?_
                              refine lv_iload hx hy dX7_order_180 (lv_at hl 6 rfl) ?_
                              refine lv_iload_n hx hy dX7_order_182 rfl (lv_at hl 2 rfl) ?_
                              refine lv_iconst (v := (nI 0)) hx hy dX7_order_183 (by decide) ?_
                              refine n_go0 C h (n_V (As := [.int (nI c), .int (nI 111), .int am, .int (nI lo), .int (nI 0)]) (rest := []) C h X (hr 100 (by decide)) ((cel_hi (by decide)).trans (celF_Mod _)) rfl (c_X7_writes l hr M (wr (suM (wr R rMod 19 (nI 0)) c (wrN R c)) rMod 19 (nI 0)) o c hc (mnN R c) hmn9 (show (wr (suM (wr R rMod 19 (nI 0)) c (wrN R c)) rMod 19 (nI 0)) 101 c = nI (mnN R c) from ((wr_othr (by decide)).trans ((congrFun (suM_ne (by decide) (by decide)) _).trans ((wr_othr (by decide)).trans (hmn c hc).1)))) (wrN R c) c_149 (show (wr (suM (wr R rMod 19 (nI 0)) c (wrN R c)) rMod 19 (nI 0)) 103 c = nI (wrN R c) from ((wr_othr (by decide)).trans ((congrFun (suM_ne (by decide) (by decide)) _).trans ((wr_othr (by decide)).trans (hwn c hc).1)))) lo hlo (nI 111) am (nI 0) (by decide)) (cwV 5 C.2.2.2.2.1 gX7_order_X7_writes rfl rfl rfl (by decide +kernel) ⟨Nat.le_of_ble_eq_true rfl, Nat.le_of_ble_eq_true rfl⟩) rfl hl.1 rfl (Nat.le_of_ble_eq_true rfl) dX7_order_184 ⟨by decide, by decide⟩) (fun _ _ z => z) (fun v_184 u_184 H locs hpo h => ?_)
                              obtain ⟨rfl, rfl⟩ := hpo
                              exact e_int C h rfl dX7_order_187 (absurd (c_60.symm.trans c_170) (by decide)) (by decide) (by decide)
                            · skip
                              refine lv_bipush (v := (nI 105)) hx hy dX7_order_173 (by decide) ?_
                              refine lv_goto (tgt := 180) hx hy dX7_order_175 (by decide) ?_
                              refine lv_iload hx hy dX7_order_180 (lv_at hl 6 rfl) ?_
                              refine lv_iload_n hx hy dX7_order_182 rfl (lv_at hl 2 rfl) ?_
                              refine lv_iconst (v := (nI 0)) hx hy dX7_order_183 (by decide) ?_
                              refine n_go0 C h (n_V (As := [.int (nI c), .int (nI 105), .int am, .int (nI lo), .int (nI 0)]) (rest := []) C h X (hr 100 (by decide)) ((cel_hi (by decide)).trans (celF_Mod _)) rfl (c_X7_writes l hr M (wr (suM (wr R rMod 19 (nI 0)) c (wrN R c)) rMod 19 (nI 0)) o c hc (mnN R c) hmn9 (show (wr (suM (wr R rMod 19 (nI 0)) c (wrN R c)) rMod 19 (nI 0)) 101 c = nI (mnN R c) from ((wr_othr (by decide)).trans ((congrFun (suM_ne (by decide) (by decide)) _).trans ((wr_othr (by decide)).trans (hmn c hc).1)))) (wrN R c) c_149 (show (wr (suM (wr R rMod 19 (nI 0)) c (wrN R c)) rMod 19 (nI 0)) 103 c = nI (wrN R c) from ((wr_othr (by decide)).trans ((congrFun (suM_ne (by decide) (by decide)) _).trans ((wr_othr (by decide)).trans (hwn c hc).1)))) lo hlo (nI 105) am (nI 0) (by decide)) (cwV 5 C.2.2.2.2.1 gX7_order_X7_writes rfl rfl rfl (by decide +kernel) ⟨Nat.le_of_ble_eq_true rfl, Nat.le_of_ble_eq_true rfl⟩) rfl hl.1 rfl (Nat.le_of_ble_eq_true rfl) dX7_order_184 ⟨by decide, by decide⟩) (fun _ _ z => z) (fun v_184 u_184 H locs hpo h => ?_)
                              obtain ⟨rfl, rfl⟩ := hpo
                              exact e_int C h rfl dX7_order_187 (⟨_, rfl, by simp [kOrdR, vR3, ord3R, ordBR, suR, thr, hi_c, hv_c, hi_g, hv_g, hi_lo, hv_lo, hno_48, c_5, c_12, c_19, c_31, c_48, c_60, eq_true c_71, eq_false (Int32.not_lt.mpr c_71), c_111, eq_false c_116, eq_false c_125, c_137, eq_true c_149, eq_false (Nat.not_le.mpr c_149), c_161, c_170], by simp [orderR, kOrdR, vR3, ord3R, ordBR, thr, suR, hi_c, hv_c, hi_g, hv_g, hi_lo, hv_lo, hno_48, c_5, c_12, c_19, c_31, c_48, c_60, eq_true c_71, eq_false (Int32.not_lt.mpr c_71), c_111, eq_false c_116, eq_false c_125, c_137, eq_true c_149, eq_false (Nat.not_le.mpr c_149), c_161, c_170]⟩) (by decide) (by decide)
                          · skip
                            exact absurd c_161 (by decide)
          · skip
            rw [noV_f c_48] at h
            rw [wr_wr] at h
            have hno_48 : vI am (nI 1) (nI 999) = false := not_tt c_48
            refine lv_iconst (v := (nI 0)) hx hy dX7_order_51 (by decide) ?_
            exact e_int C h rfl dX7_order_52 (⟨_, rfl, by simp [kOrdR, vR3, ord3R, ordBR, suR, thr, hi_c, hv_c, hi_g, hv_g, hi_lo, hv_lo, hno_48, c_5, c_12, c_19, c_31, c_48], by simp [orderR, kOrdR, vR3, ord3R, ordBR, thr, suR, hi_c, hv_c, hi_g, hv_g, hi_lo, hv_lo, hno_48, c_5, c_12, c_19, c_31, c_48]⟩) (by decide) (by decide)

set_option maxRecDepth 20000 in
theorem in_X7_spread_X7 : ∀ x ∈ wsX70, x ∈ wsX7_spread := by decide +kernel
set_option maxRecDepth 100000 in
set_option maxHeartbeats 4000000 in
/-- the reference: spread -/
theorem c_X7_spread (l : Launch) {G : va_G} {V : wV} {rs : List Nat} (hr : bR rs) (M R : wM) (o : wO) (rv : RV R) (ca : Int32) : CT l G V rs yX7_spread wsX7_spread 3 66 0 0 [.ref (V.1 rMod), .int ca] (M, R, o) (fun v u => ∃ r, v = some (.int r) ∧ (kCR ca = 0 → r = spRC (thr R 0) (cI ca) (upR R ca) (wrN R (cI ca))) ∧ u = (M, spreadR R ca, o)) (fun _ _ => False) := by
  refine ct_of (cc := cX7_spread) (maxL := 6) (ret := (some .int)) (by decide) rfl (Nat.le_of_ble_eq_true rfl) ?_
  intro p e s m below meth cd ls C h X hT hl
  have hx := C.1
  have hy := C.2.1
  have hl : lv_has ls 6 [(0, .ref (V.1 rMod)), (1, .int ca)] := hl
  have hmn : ∀ c, c < 2 → R 101 c = nI (mnN R c) ∧ mnN R c ≤ 7 := fun c hc => ⟨(rv.1 c hc).1, (rv.1 c hc).2.1⟩
  have hwn : ∀ c, c < 2 → R 103 c = nI (wrN R c) ∧ wrN R c ≤ 60 := fun c hc => ⟨(rv.1 c hc).2.2.1, (rv.1 c hc).2.2.2.1⟩
  have hsi9 := rv.2.1.2
  have htr9 := rv.2.2.1.2
  refine lv_aload_n hx hy dX7_spread_0 rfl (lv_at hl 0 rfl) ?_
  refine lv_iload_n hx hy dX7_spread_1 rfl (lv_at hl 1 rfl) ?_
  refine n_go0 C h (n_S (As := [.int ca]) (rest := [.ref (V.1 rMod)]) C h X (c_X7_isCastle l M R o ca) (va_cwS 1 C.2.2.2.2.1 gX7_spread_X7_isCastle rfl rfl rfl (by decide +kernel) ⟨Nat.le_of_ble_eq_true rfl, Nat.le_of_ble_eq_true rfl⟩) rfl hl.1 rfl (Nat.le_of_ble_eq_true rfl) dX7_spread_2 ⟨by decide, by decide⟩) (fun _ _ z => z) (fun v_2 u_2 H locs hpo h => ?_)
  obtain ⟨rfl, rfl⟩ := hpo
  refine lv_iconst (v := (nI 1)) hx hy dX7_spread_5 (by decide) ?_
  refine n_go0 C h (n_V (As := [.int (b2i (vIn ca 2)), .int (nI 1)]) (rest := []) C h X (hr 100 (by decide)) ((cel_hi (by decide)).trans (celF_Mod _)) rfl (c_X7_no l hr M R o (vIn ca 2) (nI 1)) (cwV 2 C.2.2.2.2.1 gX7_spread_X7_no rfl rfl rfl (by decide +kernel) ⟨Nat.le_of_ble_eq_true rfl, Nat.le_of_ble_eq_true rfl⟩) rfl hl.1 rfl (Nat.le_of_ble_eq_true rfl) dX7_spread_6 ⟨by decide, by decide⟩) (fun _ _ z => z) (fun v_6 u_6 H locs hpo h => ?_)
  obtain ⟨rfl, rfl⟩ := hpo
  refine b_eq hx hy (tgt := 14) dX7_spread_9 (by decide) (fun c_9 => ?_) (fun c_9 => ?_)
  · skip
    rw [noV_t c_9] at h
    have hno_9 : vIn ca 2 = true := not_ff c_9
    obtain ⟨c, hc, rfl⟩ := vIn_ok' hno_9 (by decide)
    have hv_c : vIn (nI c) 2 = true := vIn_nI hc (by decide)
    have hi_c : cI (nI c) = c := nI_clamp (by omega)
    have hmn9 := (hmn c hc).2
    have hwn9 := (hwn c hc).2
    have hB := (rv.1 c hc).2.2.2.2.1
    have hEr := (rv.1 c hc).2.2.2.2.2.1
    have hU := (rv.1 c hc).2.2.2.2.2.2
    refine lv_aload_n hx hy dX7_spread_14 rfl (lv_at hl 0 rfl) ?_
    refine lv_iload_n hx hy dX7_spread_15 rfl (lv_at hl 1 rfl) ?_
    refine lv_iconst (v := (-1)) hx hy dX7_spread_16 (by decide) ?_
    refine n_go0 C h (n_V (As := [.int (nI c), .int (-1)]) (rest := []) C h X (hr 100 (by decide)) ((cel_hi (by decide)).trans (celF_Mod _)) rfl (c_X7_reachU l hr M (wr R rMod 19 (nI 0)) o c hc (mnN R c) hmn9 (show (wr R rMod 19 (nI 0)) 101 c = nI (mnN R c) from ((wr_othr (by decide)).trans (hmn c hc).1))) (cwV 2 C.2.2.2.2.1 gX7_spread_X7_reach rfl rfl rfl (by decide +kernel) ⟨Nat.le_of_ble_eq_true rfl, Nat.le_of_ble_eq_true rfl⟩) rfl hl.1 rfl (Nat.le_of_ble_eq_true rfl) dX7_spread_17 ⟨by decide, by decide⟩) (fun _ _ z => z) (fun v_17 u_17 H locs hpo h => ?_)
    obtain ⟨rfl, rfl⟩ := hpo
    refine lv_istore_n (lv' := [(2, .int (rcU (wr R rMod 19 (nI 0)) c (mnN R c))), (0, .ref (V.1 rMod)), (1, .int (nI c))]) hx hy dX7_spread_20 rfl hl (by decide) rfl (fun ls hl => ?_)
    refine lv_iconst (v := (nI 0)) hx hy dX7_spread_21 (by decide) ?_
    refine lv_istore_n (lv' := [(3, .int (nI 0)), (2, .int (rcU (wr R rMod 19 (nI 0)) c (mnN R c))), (0, .ref (V.1 rMod)), (1, .int (nI c))]) hx hy dX7_spread_22 rfl hl (by decide) rfl (fun ls hl => ?_)
    refine lv_iconst (v := (nI 0)) hx hy dX7_spread_23 (by decide) ?_
    refine lv_istore (lv' := [(4, .int (nI 0)), (3, .int (nI 0)), (2, .int (rcU (wr R rMod 19 (nI 0)) c (mnN R c))), (0, .ref (V.1 rMod)), (1, .int (nI c))]) hx hy dX7_spread_24 hl (by decide) rfl (fun ls hl => ?_)
    have L_26 : ∀ (n_26 k : Nat), n_26 + k = (wrN R c) → ∀ (H : Heap) (locs : List Loc), HH G V rs (M, spRN (wr R rMod 19 (nI 0)) c (rcU (wr R rMod 19 (nI 0)) c (mnN R c)) k, o) s H locs → ∀ ls : Array Slot, lv_has ls 6 [(4, .int (nI k)), (3, .int (spRC (wr R rMod 19 (nI 0)) c (rcU (wr R rMod 19 (nI 0)) c (mnN R c)) k)), (2, .int (rcU (wr R rMod 19 (nI 0)) c (mnN R c))), (0, .ref (V.1 rMod)), (1, .int (nI c))] → W p l e { frames := 3, cells := 0, slots := 0, locals := 66 } s m [.ref (V.1 rMod), .int (nI c)].toArray below meth cd H locs 0 0 (QM G V rs below [.ref (V.1 rMod), .int (nI c)].toArray s 0 0 (fun v u => ∃ r, v = some (.int r) ∧ (kCR (nI c) = 0 → r = spRC (thr R 0) (cI (nI c)) (upR R (nI c)) (wrN R (cI (nI c)))) ∧ u = (M, spreadR R (nI c), o)) (fun _ _ => False)) (F0 m 26 ls []) := by
      intro n_26
      induction n_26 with
      | zero =>
        intro k hk_26 H locs h ls hl
        have hz_26 : k = (wrN R c) := by omega
        try rw [hz_26] at h
        try rw [hz_26] at hl
        refine lv_iload hx hy dX7_spread_26 (lv_at hl 0 rfl) ?_
        refine lv_aload_n hx hy dX7_spread_28 rfl (lv_at hl 3 rfl) ?_
        refine g_f C h (hr 100 (by decide)) (cel_hi (by decide)) celF_Mod rfl in_X7_spread_X7 2 (by decide) (by decide +kernel) (v := .ref (V.1 103)) rfl dX7_spread_29 ?_
        refine lv_iload_n hx hy dX7_spread_32 rfl (lv_at hl 4 rfl) ?_
        refine g_i C h (hr 103 (by decide)) (n := 2) (k := c) (cel_hi (by decide)) (fun _ => rfl) (by omega) (by decide) (v := (nI (wrN R c))) (show (spRN (wr R rMod 19 (nI 0)) c (rcU (wr R rMod 19 (nI 0)) c (mnN R c)) (wrN R c)) 103 c = (nI (wrN R c)) from ((congrFun (spRN_ne (by decide)) _).trans ((wr_othr (by decide)).trans (hwn c hc).1))) dX7_spread_33 ?_
        refine n_ge hx hy (by omega) (by omega) (tgt := 95) dX7_spread_34 (by decide) (fun c_34 => ?_) (fun c_34 => ?_)
        · skip
          refine lv_aload_n hx hy dX7_spread_95 rfl (lv_at hl 3 rfl) ?_
          refine lv_iload_n hx hy dX7_spread_96 rfl (lv_at hl 4 rfl) ?_
          refine n_go0 C h (n_V (As := [.int (nI c)]) (rest := []) C h X (hr 100 (by decide)) ((cel_hi (by decide)).trans (celF_Mod _)) rfl (c_X7_commits l hr M (spRN (wr R rMod 19 (nI 0)) c (rcU (wr R rMod 19 (nI 0)) c (mnN R c)) (wrN R c)) o c hc (wrN R c) hwn9 (show (spRN (wr R rMod 19 (nI 0)) c (rcU (wr R rMod 19 (nI 0)) c (mnN R c)) (wrN R c)) 103 c = nI (wrN R c) from ((congrFun (spRN_ne (by decide)) _).trans ((wr_othr (by decide)).trans (hwn c hc).1)))) (cwV 1 C.2.2.2.2.1 gX7_spread_X7_commits rfl rfl rfl (by decide +kernel) ⟨Nat.le_of_ble_eq_true rfl, Nat.le_of_ble_eq_true rfl⟩) rfl hl.1 rfl (Nat.le_of_ble_eq_true rfl) dX7_spread_97 ⟨by decide, by decide⟩) (fun _ _ z => z) (fun v_97 u_97 H locs hpo h => ?_)
          obtain ⟨rfl, rfl⟩ := hpo
          refine lv_iload_n hx hy dX7_spread_100 rfl (lv_at hl 1 rfl) ?_
          exact e_int C h rfl dX7_spread_101 (⟨_, rfl, by simp [kCR, upR, hno_9, hi_c, hv_c, c_9, eq_true c_34, eq_false (Nat.not_lt.mpr c_34), suR], by simp [kCR, upR, spreadR, thr, suR, hno_9, hi_c, hv_c, c_9, eq_true c_34, eq_false (Nat.not_lt.mpr c_34)]⟩) (by decide) (by decide)
        · skip
          exact absurd c_34 (by omega)
      | succ n_26 ih_26 =>
        intro k hk_26 H locs h ls hl
        have hz_26 : k < (wrN R c) := by omega
        refine lv_iload hx hy dX7_spread_26 (lv_at hl 0 rfl) ?_
        refine lv_aload_n hx hy dX7_spread_28 rfl (lv_at hl 3 rfl) ?_
        refine g_f C h (hr 100 (by decide)) (cel_hi (by decide)) celF_Mod rfl in_X7_spread_X7 2 (by decide) (by decide +kernel) (v := .ref (V.1 103)) rfl dX7_spread_29 ?_
        refine lv_iload_n hx hy dX7_spread_32 rfl (lv_at hl 4 rfl) ?_
        refine g_i C h (hr 103 (by decide)) (n := 2) (k := c) (cel_hi (by decide)) (fun _ => rfl) (by omega) (by decide) (v := (nI (wrN R c))) (show (spRN (wr R rMod 19 (nI 0)) c (rcU (wr R rMod 19 (nI 0)) c (mnN R c)) k) 103 c = (nI (wrN R c)) from ((congrFun (spRN_ne (by decide)) _).trans ((wr_othr (by decide)).trans (hwn c hc).1))) dX7_spread_33 ?_
        refine n_ge hx hy (by omega) (by omega) (tgt := 95) dX7_spread_34 (by decide) (fun c_34 => ?_) (fun c_34 => ?_)
        · skip
          exact absurd c_34 (by omega)
        · skip
          refine lv_iload_n hx hy dX7_spread_37 rfl (lv_at hl 4 rfl) ?_
          refine lv_bipush (v := (nI 60)) hx hy dX7_spread_38 (by decide) ?_
          refine lv_imul hx hy dX7_spread_40 ?_
          refine lv_topn (pk_mul _ _) ?_
          refine lv_iload hx hy dX7_spread_41 (lv_at hl 0 rfl) ?_
          refine lv_iadd hx hy dX7_spread_43 ?_
          refine lv_topn (nI_add _ _) ?_
          refine lv_istore (lv' := [(5, .int (nI ((c * 60) + k))), (4, .int (nI k)), (3, .int (spRC (wr R rMod 19 (nI 0)) c (rcU (wr R rMod 19 (nI 0)) c (mnN R c)) k)), (2, .int (rcU (wr R rMod 19 (nI 0)) c (mnN R c))), (0, .ref (V.1 rMod)), (1, .int (nI c))]) hx hy dX7_spread_44 hl (by decide) rfl (fun ls hl => ?_)
          refine lv_aload_n hx hy dX7_spread_46 rfl (lv_at hl 4 rfl) ?_
          refine g_f C h (hr 100 (by decide)) (cel_hi (by decide)) celF_Mod rfl in_X7_spread_X7 14 (by decide) (by decide +kernel) (v := .ref (V.1 115)) rfl dX7_spread_47 ?_
          refine lv_iload hx hy dX7_spread_50 (lv_at hl 0 rfl) ?_
          refine g_i C h (hr 115 (by decide)) (n := 120) (k := ((c * 60) + k)) (cel_hi (by decide)) (fun _ => rfl) (by omega) (by decide) (v := ((spRN (wr R rMod 19 (nI 0)) c (rcU (wr R rMod 19 (nI 0)) c (mnN R c)) k) 115 ((c * 60) + k))) rfl dX7_spread_52 ?_
          refine lv_iload_n hx hy dX7_spread_53 rfl (lv_at hl 3 rfl) ?_
          refine lv_iand hx hy dX7_spread_54 ?_
          refine z_ne hx hy (tgt := 61) dX7_spread_55 (by decide) (fun c_55 => ?_) (fun c_55 => ?_)
          · skip
            refine lv_iload_n hx hy dX7_spread_61 rfl (lv_at hl 2 rfl) ?_
            refine lv_iload_n hx hy dX7_spread_62 rfl (lv_at hl 3 rfl) ?_
            refine lv_aload_n hx hy dX7_spread_63 rfl (lv_at hl 4 rfl) ?_
            refine g_f C h (hr 100 (by decide)) (cel_hi (by decide)) celF_Mod rfl in_X7_spread_X7 14 (by decide) (by decide +kernel) (v := .ref (V.1 115)) rfl dX7_spread_64 ?_
            refine lv_iload hx hy dX7_spread_67 (lv_at hl 0 rfl) ?_
            refine g_i C h (hr 115 (by decide)) (n := 120) (k := ((c * 60) + k)) (cel_hi (by decide)) (fun _ => rfl) (by omega) (by decide) (v := ((spRN (wr R rMod 19 (nI 0)) c (rcU (wr R rMod 19 (nI 0)) c (mnN R c)) k) 115 ((c * 60) + k))) rfl dX7_spread_69 ?_
            refine lv_iconst (v := (-1)) hx hy dX7_spread_70 (by decide) ?_
            refine lv_ixor hx hy dX7_spread_71 ?_
            refine lv_iand hx hy dX7_spread_72 ?_
            refine n_go0 C h (n_S (As := [.int ((rcU (wr R rMod 19 (nI 0)) c (mnN R c)) &&& (((spRN (wr R rMod 19 (nI 0)) c (rcU (wr R rMod 19 (nI 0)) c (mnN R c)) k) 115 ((c * 60) + k)) ^^^ (-1)))]) (rest := [.int (spRC (wr R rMod 19 (nI 0)) c (rcU (wr R rMod 19 (nI 0)) c (mnN R c)) k)]) C h X (c_X7_ones l M (spRN (wr R rMod 19 (nI 0)) c (rcU (wr R rMod 19 (nI 0)) c (mnN R c)) k) o ((rcU (wr R rMod 19 (nI 0)) c (mnN R c)) &&& (((spRN (wr R rMod 19 (nI 0)) c (rcU (wr R rMod 19 (nI 0)) c (mnN R c)) k) 115 ((c * 60) + k)) ^^^ (-1)))) (va_cwS 1 C.2.2.2.2.1 gX7_spread_X7_ones rfl rfl rfl (by decide +kernel) ⟨Nat.le_of_ble_eq_true rfl, Nat.le_of_ble_eq_true rfl⟩) rfl hl.1 rfl (Nat.le_of_ble_eq_true rfl) dX7_spread_73 ⟨by decide, by decide⟩) (fun _ _ z => z) (fun v_73 u_73 H locs hpo h => ?_)
            obtain ⟨rfl, rfl⟩ := hpo
            refine lv_iadd hx hy dX7_spread_76 ?_
            refine lv_istore_n (lv' := [(3, .int ((spRC (wr R rMod 19 (nI 0)) c (rcU (wr R rMod 19 (nI 0)) c (mnN R c)) k) + (onI ((rcU (wr R rMod 19 (nI 0)) c (mnN R c)) &&& (((spRN (wr R rMod 19 (nI 0)) c (rcU (wr R rMod 19 (nI 0)) c (mnN R c)) k) 115 ((c * 60) + k)) ^^^ (-1)))))), (5, .int (nI ((c * 60) + k))), (4, .int (nI k)), (2, .int (rcU (wr R rMod 19 (nI 0)) c (mnN R c))), (0, .ref (V.1 rMod)), (1, .int (nI c))]) hx hy dX7_spread_77 rfl hl (by decide) rfl (fun ls hl => ?_)
            refine lv_aload_n hx hy dX7_spread_78 rfl (lv_at hl 4 rfl) ?_
            refine g_f C h (hr 100 (by decide)) (cel_hi (by decide)) celF_Mod rfl in_X7_spread_X7 14 (by decide) (by decide +kernel) (v := .ref (V.1 115)) rfl dX7_spread_79 ?_
            refine lv_iload hx hy dX7_spread_82 (lv_at hl 1 rfl) ?_
            refine lv_dup2_11 hx hy dX7_spread_84 rfl rfl ?_
            refine g_i C h (hr 115 (by decide)) (n := 120) (k := ((c * 60) + k)) (cel_hi (by decide)) (fun _ => rfl) (by omega) (by decide) (v := ((spRN (wr R rMod 19 (nI 0)) c (rcU (wr R rMod 19 (nI 0)) c (mnN R c)) k) 115 ((c * 60) + k))) rfl dX7_spread_85 ?_
            refine lv_iload_n hx hy dX7_spread_86 rfl (lv_at hl 3 rfl) ?_
            refine lv_ior hx hy dX7_spread_87 ?_
            refine s_iR C h (hr 115 (by decide)) (by decide) (n := 120) (k := ((c * 60) + k)) (fun _ => rfl) (by omega) (by decide) (x := (((spRN (wr R rMod 19 (nI 0)) c (rcU (wr R rMod 19 (nI 0)) c (mnN R c)) k) 115 ((c * 60) + k)) ||| (rcU (wr R rMod 19 (nI 0)) c (mnN R c)))) dX7_spread_88 (fun H locs h => ?_)
            refine lv_iinc (v := (nI (k + 1))) (lv' := [(4, .int (nI (k + 1))), (3, .int ((spRC (wr R rMod 19 (nI 0)) c (rcU (wr R rMod 19 (nI 0)) c (mnN R c)) k) + (onI ((rcU (wr R rMod 19 (nI 0)) c (mnN R c)) &&& (((spRN (wr R rMod 19 (nI 0)) c (rcU (wr R rMod 19 (nI 0)) c (mnN R c)) k) 115 ((c * 60) + k)) ^^^ (-1)))))), (5, .int (nI ((c * 60) + k))), (2, .int (rcU (wr R rMod 19 (nI 0)) c (mnN R c))), (0, .ref (V.1 rMod)), (1, .int (nI c))]) hx hy dX7_spread_89 hl (k := 2) rfl (nI_1 _) (by decide) rfl (fun ls hl => ?_)
            refine lv_goto (tgt := 26) hx hy dX7_spread_92 (by decide) ?_
            exact ih_26 (k + 1) (by omega) _ _ (by rw [show ((M, spRN (wr R rMod 19 (nI 0)) c (rcU (wr R rMod 19 (nI 0)) c (mnN R c)) (k + 1), o) : wW) = (M, wr (spRN (wr R rMod 19 (nI 0)) c (rcU (wr R rMod 19 (nI 0)) c (mnN R c)) k) 115 ((c * 60) + k) (((spRN (wr R rMod 19 (nI 0)) c (rcU (wr R rMod 19 (nI 0)) c (mnN R c)) k) 115 ((c * 60) + k)) ||| (rcU (wr R rMod 19 (nI 0)) c (mnN R c))), o) from by simp [spRN, c_9, eq_true c_34, eq_false (Nat.not_le.mpr c_34), eq_false c_55]]; exact h) _ (by have hl := lv_sub hl [0, 1, 3, 4, 5] (l' := [(4, .int (nI (k + 1))), (3, .int ((spRC (wr R rMod 19 (nI 0)) c (rcU (wr R rMod 19 (nI 0)) c (mnN R c)) k) + (onI ((rcU (wr R rMod 19 (nI 0)) c (mnN R c)) &&& (((spRN (wr R rMod 19 (nI 0)) c (rcU (wr R rMod 19 (nI 0)) c (mnN R c)) k) 115 ((c * 60) + k)) ^^^ (-1)))))), (2, .int (rcU (wr R rMod 19 (nI 0)) c (mnN R c))), (0, .ref (V.1 rMod)), (1, .int (nI c))]) rfl; rw [show (.int (nI (k + 1)) : Value) = .int (nI (k + 1)) from rfl] at hl; rw [show (.int ((spRC (wr R rMod 19 (nI 0)) c (rcU (wr R rMod 19 (nI 0)) c (mnN R c)) k) + (onI ((rcU (wr R rMod 19 (nI 0)) c (mnN R c)) &&& (((spRN (wr R rMod 19 (nI 0)) c (rcU (wr R rMod 19 (nI 0)) c (mnN R c)) k) 115 ((c * 60) + k)) ^^^ (-1))))) : Value) = .int (spRC (wr R rMod 19 (nI 0)) c (rcU (wr R rMod 19 (nI 0)) c (mnN R c)) (k + 1)) from by simp [spRC, c_9, eq_true c_34, eq_false (Nat.not_le.mpr c_34), eq_false c_55]] at hl; exact hl)
          · skip
            refine lv_goto (tgt := 89) hx hy dX7_spread_58 (by decide) ?_
            refine lv_iinc (v := (nI (k + 1))) (lv' := [(4, .int (nI (k + 1))), (5, .int (nI ((c * 60) + k))), (3, .int (spRC (wr R rMod 19 (nI 0)) c (rcU (wr R rMod 19 (nI 0)) c (mnN R c)) k)), (2, .int (rcU (wr R rMod 19 (nI 0)) c (mnN R c))), (0, .ref (V.1 rMod)), (1, .int (nI c))]) hx hy dX7_spread_89 hl (k := 1) rfl (nI_1 _) (by decide) rfl (fun ls hl => ?_)
            refine lv_goto (tgt := 26) hx hy dX7_spread_92 (by decide) ?_
            exact ih_26 (k + 1) (by omega) _ _ (by rw [show ((M, spRN (wr R rMod 19 (nI 0)) c (rcU (wr R rMod 19 (nI 0)) c (mnN R c)) (k + 1), o) : wW) = (M, spRN (wr R rMod 19 (nI 0)) c (rcU (wr R rMod 19 (nI 0)) c (mnN R c)) k, o) from by simp [spRN, c_9, eq_true c_34, eq_false (Nat.not_le.mpr c_34), eq_true c_55]]; exact h) _ (by have hl := lv_sub hl [0, 2, 3, 4, 5] (l' := [(4, .int (nI (k + 1))), (3, .int (spRC (wr R rMod 19 (nI 0)) c (rcU (wr R rMod 19 (nI 0)) c (mnN R c)) k)), (2, .int (rcU (wr R rMod 19 (nI 0)) c (mnN R c))), (0, .ref (V.1 rMod)), (1, .int (nI c))]) rfl; rw [show (.int (nI (k + 1)) : Value) = .int (nI (k + 1)) from rfl] at hl; rw [show (.int (spRC (wr R rMod 19 (nI 0)) c (rcU (wr R rMod 19 (nI 0)) c (mnN R c)) k) : Value) = .int (spRC (wr R rMod 19 (nI 0)) c (rcU (wr R rMod 19 (nI 0)) c (mnN R c)) (k + 1)) from by simp [spRC, c_9, eq_true c_34, eq_false (Nat.not_le.mpr c_34), eq_true c_55]] at hl; exact hl)
    exact L_26 ((wrN R c)) 0 (by omega) _ _ (by rw [show (M, spRN (wr R rMod 19 (nI 0)) c (rcU (wr R rMod 19 (nI 0)) c (mnN R c)) 0, o) = (M, wr R rMod 19 (nI 0), o) from rfl]; exact h) _ (by have hl := lv_sub hl [0, 1, 2, 3, 4] (l' := [(4, .int (nI 0)), (3, .int (nI 0)), (2, .int (rcU (wr R rMod 19 (nI 0)) c (mnN R c))), (0, .ref (V.1 rMod)), (1, .int (nI c))]) rfl; rw [show (.int (nI 0) : Value) = .int (spRC (wr R rMod 19 (nI 0)) c (rcU (wr R rMod 19 (nI 0)) c (mnN R c)) 0) from rfl] at hl; exact hl)
  · skip
    rw [noV_f c_9] at h
    have hno_9 : vIn ca 2 = false := not_tt c_9
    refine lv_iconst (v := (nI 0)) hx hy dX7_spread_12 (by decide) ?_
    exact e_int C h rfl dX7_spread_13 (⟨_, rfl, by simp [kCR, upR, hno_9, c_9, suR], by simp [kCR, upR, spreadR, thr, suR, hno_9, c_9]⟩) (by decide) (by decide)

set_option maxRecDepth 20000 in
theorem in_X7_strike_X7 : ∀ x ∈ wsX70, x ∈ wsX7_strike := by decide +kernel
set_option maxRecDepth 100000 in
set_option maxHeartbeats 4000000 in
/-- the reference: strike -/
theorem c_X7_strike (l : Launch) {G : va_G} {V : wV} {rs : List Nat} (hr : bR rs) (M R : wM) (o : wO) (rv : RV R) (ca : Int32) : CT l G V rs yX7_strike wsX7_strike 2 47 0 0 [.ref (V.1 rMod), .int ca] (M, R, o) (fun v u => ∃ r, v = some (.int r) ∧ (kCR ca = 0 → r = nI (stRC R (cI ca) (suC (thr R 0) (cI ca) (wrN R (cI ca))) (wrN R (cI ca) - suC (thr R 0) (cI ca) (wrN R (cI ca))))) ∧ u = (M, strikeR R ca, o)) (fun _ _ => False) := by
  refine ct_of (cc := cX7_strike) (maxL := 5) (ret := (some .int)) (by decide) rfl (Nat.le_of_ble_eq_true rfl) ?_
  intro p e s m below meth cd ls C h X hT hl
  have hx := C.1
  have hy := C.2.1
  have hl : lv_has ls 5 [(0, .ref (V.1 rMod)), (1, .int ca)] := hl
  have hmn : ∀ c, c < 2 → R 101 c = nI (mnN R c) ∧ mnN R c ≤ 7 := fun c hc => ⟨(rv.1 c hc).1, (rv.1 c hc).2.1⟩
  have hwn : ∀ c, c < 2 → R 103 c = nI (wrN R c) ∧ wrN R c ≤ 60 := fun c hc => ⟨(rv.1 c hc).2.2.1, (rv.1 c hc).2.2.2.1⟩
  have hsi9 := rv.2.1.2
  have htr9 := rv.2.2.1.2
  refine lv_aload_n hx hy dX7_strike_0 rfl (lv_at hl 0 rfl) ?_
  refine lv_iload_n hx hy dX7_strike_1 rfl (lv_at hl 1 rfl) ?_
  refine n_go0 C h (n_S (As := [.int ca]) (rest := [.ref (V.1 rMod)]) C h X (c_X7_isCastle l M R o ca) (va_cwS 1 C.2.2.2.2.1 gX7_strike_X7_isCastle rfl rfl rfl (by decide +kernel) ⟨Nat.le_of_ble_eq_true rfl, Nat.le_of_ble_eq_true rfl⟩) rfl hl.1 rfl (Nat.le_of_ble_eq_true rfl) dX7_strike_2 ⟨by decide, by decide⟩) (fun _ _ z => z) (fun v_2 u_2 H locs hpo h => ?_)
  obtain ⟨rfl, rfl⟩ := hpo
  refine lv_iconst (v := (nI 1)) hx hy dX7_strike_5 (by decide) ?_
  refine n_go0 C h (n_V (As := [.int (b2i (vIn ca 2)), .int (nI 1)]) (rest := []) C h X (hr 100 (by decide)) ((cel_hi (by decide)).trans (celF_Mod _)) rfl (c_X7_no l hr M R o (vIn ca 2) (nI 1)) (cwV 2 C.2.2.2.2.1 gX7_strike_X7_no rfl rfl rfl (by decide +kernel) ⟨Nat.le_of_ble_eq_true rfl, Nat.le_of_ble_eq_true rfl⟩) rfl hl.1 rfl (Nat.le_of_ble_eq_true rfl) dX7_strike_6 ⟨by decide, by decide⟩) (fun _ _ z => z) (fun v_6 u_6 H locs hpo h => ?_)
  obtain ⟨rfl, rfl⟩ := hpo
  refine b_eq hx hy (tgt := 14) dX7_strike_9 (by decide) (fun c_9 => ?_) (fun c_9 => ?_)
  · skip
    rw [noV_t c_9] at h
    have hno_9 : vIn ca 2 = true := not_ff c_9
    obtain ⟨c, hc, rfl⟩ := vIn_ok' hno_9 (by decide)
    have hv_c : vIn (nI c) 2 = true := vIn_nI hc (by decide)
    have hi_c : cI (nI c) = c := nI_clamp (by omega)
    have hmn9 := (hmn c hc).2
    have hwn9 := (hwn c hc).2
    have hB := (rv.1 c hc).2.2.2.2.1
    have hEr := (rv.1 c hc).2.2.2.2.2.1
    have hU := (rv.1 c hc).2.2.2.2.2.2
    refine lv_aload_n hx hy dX7_strike_14 rfl (lv_at hl 0 rfl) ?_
    refine lv_iload_n hx hy dX7_strike_15 rfl (lv_at hl 1 rfl) ?_
    refine n_go0 C h (n_V (As := [.int (nI c)]) (rest := []) C h X (hr 100 (by decide)) ((cel_hi (by decide)).trans (celF_Mod _)) rfl (c_X7_sums l hr M (wr R rMod 19 (nI 0)) o c hc (wrN R c) hwn9 (show (wr R rMod 19 (nI 0)) 103 c = nI (wrN R c) from ((wr_othr (by decide)).trans (hwn c hc).1)) hB) (cwV 1 C.2.2.2.2.1 gX7_strike_X7_sums rfl rfl rfl (by decide +kernel) ⟨Nat.le_of_ble_eq_true rfl, Nat.le_of_ble_eq_true rfl⟩) rfl hl.1 rfl (Nat.le_of_ble_eq_true rfl) dX7_strike_16 ⟨by decide, by decide⟩) (fun _ _ z => z) (fun v_16 u_16 H locs hpo h => ?_)
    obtain ⟨rfl, rfl⟩ := hpo
    refine lv_iconst (v := (nI 0)) hx hy dX7_strike_19 (by decide) ?_
    refine lv_istore_n (lv' := [(2, .int (nI 0)), (0, .ref (V.1 rMod)), (1, .int (nI c))]) hx hy dX7_strike_20 rfl hl (by decide) rfl (fun ls hl => ?_)
    have hq8 : (suC (wr R rMod 19 (nI 0)) c (wrN R c)) ≤ wrN R c := lead_le _ _
    refine lv_aload_n hx hy dX7_strike_21 rfl (lv_at hl 1 rfl) ?_
    refine g_f C h (hr 100 (by decide)) (cel_hi (by decide)) celF_Mod rfl in_X7_strike_X7 33 (by decide) (by decide +kernel) (v := .int (nI (suC (wr R rMod 19 (nI 0)) c (wrN R c)))) (congrArg (fun z => some (Value.int z)) (show (suM (wr R rMod 19 (nI 0)) c (wrN R c)) rMod 33 = (nI (suC (wr R rMod 19 (nI 0)) c (wrN R c))) from suM_cnt)) dX7_strike_22 ?_
    refine lv_istore_n (lv' := [(3, .int (nI (suC (wr R rMod 19 (nI 0)) c (wrN R c)))), (2, .int (nI 0)), (0, .ref (V.1 rMod)), (1, .int (nI c))]) hx hy dX7_strike_25 rfl hl (by decide) rfl (fun ls hl => ?_)
    have L_26 : ∀ (n_26 i : Nat), n_26 + i = (wrN R c - (suC (wr R rMod 19 (nI 0)) c (wrN R c))) → ∀ (H : Heap) (locs : List Loc), HH G V rs (M, stRN (suM (wr R rMod 19 (nI 0)) c (wrN R c)) R c (suC (wr R rMod 19 (nI 0)) c (wrN R c)) i, o) s H locs → ∀ ls : Array Slot, lv_has ls 5 [(3, .int (nI ((suC (wr R rMod 19 (nI 0)) c (wrN R c)) + i))), (2, .int (nI (stRC R c (suC (wr R rMod 19 (nI 0)) c (wrN R c)) i))), (0, .ref (V.1 rMod)), (1, .int (nI c))] → W p l e { frames := 2, cells := 0, slots := 0, locals := 47 } s m [.ref (V.1 rMod), .int (nI c)].toArray below meth cd H locs 0 0 (QM G V rs below [.ref (V.1 rMod), .int (nI c)].toArray s 0 0 (fun v u => ∃ r, v = some (.int r) ∧ (kCR (nI c) = 0 → r = nI (stRC R (cI (nI c)) (suC (thr R 0) (cI (nI c)) (wrN R (cI (nI c)))) (wrN R (cI (nI c)) - suC (thr R 0) (cI (nI c)) (wrN R (cI (nI c)))))) ∧ u = (M, strikeR R (nI c), o)) (fun _ _ => False)) (F0 m 26 ls []) := by
      intro n_26
      induction n_26 with
      | zero =>
        intro i hk_26 H locs h ls hl
        have hz_26 : i = (wrN R c - (suC (wr R rMod 19 (nI 0)) c (wrN R c))) := by omega
        try rw [hz_26] at h
        try rw [hz_26] at hl
        refine lv_iload_n hx hy dX7_strike_26 rfl (lv_at hl 0 rfl) ?_
        refine lv_aload_n hx hy dX7_strike_27 rfl (lv_at hl 2 rfl) ?_
        refine g_f C h (hr 100 (by decide)) (cel_hi (by decide)) celF_Mod rfl in_X7_strike_X7 2 (by decide) (by decide +kernel) (v := .ref (V.1 103)) rfl dX7_strike_28 ?_
        refine lv_iload_n hx hy dX7_strike_31 rfl (lv_at hl 3 rfl) ?_
        refine g_i C h (hr 103 (by decide)) (n := 2) (k := c) (cel_hi (by decide)) (fun _ => rfl) (by omega) (by decide) (v := (nI (wrN R c))) (show (stRN (suM (wr R rMod 19 (nI 0)) c (wrN R c)) R c (suC (wr R rMod 19 (nI 0)) c (wrN R c)) (wrN R c - (suC (wr R rMod 19 (nI 0)) c (wrN R c)))) 103 c = (nI (wrN R c)) from ((congrFun (stRN_ne (by decide)) _).trans ((congrFun (suM_ne (by decide) (by decide)) _).trans ((wr_othr (by decide)).trans (hwn c hc).1)))) dX7_strike_32 ?_
        refine n_ge hx hy (by omega) (by omega) (tgt := 124) dX7_strike_33 (by decide) (fun c_33 => ?_) (fun c_33 => ?_)
        · skip
          refine lv_iload_n hx hy dX7_strike_124 rfl (lv_at hl 1 rfl) ?_
          exact e_int C h rfl dX7_strike_125 (⟨_, rfl, by simp [kCR, hno_9, hi_c, hv_c, c_9, eq_true c_33, eq_false (Nat.not_lt.mpr c_33), suR], by simp [kCR, strikeR, thr, suR, hno_9, hi_c, hv_c, c_9, eq_true c_33, eq_false (Nat.not_lt.mpr c_33)]⟩) (by decide) (by decide)
        · skip
          exact absurd c_33 (by omega)
      | succ n_26 ih_26 =>
        intro i hk_26 H locs h ls hl
        have hz_26 : i < (wrN R c - (suC (wr R rMod 19 (nI 0)) c (wrN R c))) := by omega
        refine lv_iload_n hx hy dX7_strike_26 rfl (lv_at hl 0 rfl) ?_
        refine lv_aload_n hx hy dX7_strike_27 rfl (lv_at hl 2 rfl) ?_
        refine g_f C h (hr 100 (by decide)) (cel_hi (by decide)) celF_Mod rfl in_X7_strike_X7 2 (by decide) (by decide +kernel) (v := .ref (V.1 103)) rfl dX7_strike_28 ?_
        refine lv_iload_n hx hy dX7_strike_31 rfl (lv_at hl 3 rfl) ?_
        refine g_i C h (hr 103 (by decide)) (n := 2) (k := c) (cel_hi (by decide)) (fun _ => rfl) (by omega) (by decide) (v := (nI (wrN R c))) (show (stRN (suM (wr R rMod 19 (nI 0)) c (wrN R c)) R c (suC (wr R rMod 19 (nI 0)) c (wrN R c)) i) 103 c = (nI (wrN R c)) from ((congrFun (stRN_ne (by decide)) _).trans ((congrFun (suM_ne (by decide) (by decide)) _).trans ((wr_othr (by decide)).trans (hwn c hc).1)))) dX7_strike_32 ?_
        refine n_ge hx hy (by omega) (by omega) (tgt := 124) dX7_strike_33 (by decide) (fun c_33 => ?_) (fun c_33 => ?_)
        · skip
          exact absurd c_33 (by omega)
        · skip
          refine lv_aload_n hx hy dX7_strike_36 rfl (lv_at hl 2 rfl) ?_
          refine g_f C h (hr 100 (by decide)) (cel_hi (by decide)) celF_Mod rfl in_X7_strike_X7 14 (by decide) (by decide +kernel) (v := .ref (V.1 115)) rfl dX7_strike_37 ?_
          refine lv_iload_n hx hy dX7_strike_40 rfl (lv_at hl 3 rfl) ?_
          refine lv_bipush (v := (nI 60)) hx hy dX7_strike_41 (by decide) ?_
          refine lv_imul hx hy dX7_strike_43 ?_
          refine lv_topn (pk_mul _ _) ?_
          refine lv_iload_n hx hy dX7_strike_44 rfl (lv_at hl 0 rfl) ?_
          refine lv_iadd hx hy dX7_strike_45 ?_
          refine lv_topn (nI_add _ _) ?_
          refine g_i C h (hr 115 (by decide)) (n := 120) (k := ((c * 60) + ((suC (wr R rMod 19 (nI 0)) c (wrN R c)) + i))) (cel_hi (by decide)) (fun _ => rfl) (by omega) (by decide) (v := (R 115 ((c * 60) + ((suC (wr R rMod 19 (nI 0)) c (wrN R c)) + i)))) (show (stRN (suM (wr R rMod 19 (nI 0)) c (wrN R c)) R c (suC (wr R rMod 19 (nI 0)) c (wrN R c)) i) 115 ((c * 60) + ((suC (wr R rMod 19 (nI 0)) c (wrN R c)) + i)) = (R 115 ((c * 60) + ((suC (wr R rMod 19 (nI 0)) c (wrN R c)) + i))) from ((congrFun (stRN_ne (by decide)) _).trans ((congrFun (suM_ne (by decide) (by decide)) _).trans (wr_othr (by decide))))) dX7_strike_46 ?_
          refine z_ne hx hy (tgt := 70) dX7_strike_47 (by decide) (fun c_47 => ?_) (fun c_47 => ?_)
          · skip
            refine lv_iconst (v := (nI 0)) hx hy dX7_strike_70 (by decide) ?_
            refine lv_istore (lv' := [(4, .int (nI 0)), (3, .int (nI ((suC (wr R rMod 19 (nI 0)) c (wrN R c)) + i))), (2, .int (nI (stRC R c (suC (wr R rMod 19 (nI 0)) c (wrN R c)) i))), (0, .ref (V.1 rMod)), (1, .int (nI c))]) hx hy dX7_strike_71 hl (by decide) rfl (fun ls hl => ?_)
            refine lv_aload_n hx hy dX7_strike_73 rfl (lv_at hl 3 rfl) ?_
            refine g_f C h (hr 100 (by decide)) (cel_hi (by decide)) celF_Mod rfl in_X7_strike_X7 10 (by decide) (by decide +kernel) (v := .ref (V.1 111)) rfl dX7_strike_74 ?_
            refine lv_iload_n hx hy dX7_strike_77 rfl (lv_at hl 4 rfl) ?_
            refine lv_bipush (v := (nI 60)) hx hy dX7_strike_78 (by decide) ?_
            refine lv_imul hx hy dX7_strike_80 ?_
            refine lv_topn (pk_mul _ _) ?_
            refine lv_iload_n hx hy dX7_strike_81 rfl (lv_at hl 1 rfl) ?_
            refine lv_iadd hx hy dX7_strike_82 ?_
            refine lv_topn (nI_add _ _) ?_
            refine lv_iload hx hy dX7_strike_83 (lv_at hl 0 rfl) ?_
            refine nz_eq hx hy (by omega) (tgt := 93) dX7_strike_85 (by decide) (fun c_85 => ?_) (fun c_85 => ?_)
            · skip
              refine lv_aload_n hx hy dX7_strike_93 rfl (lv_at hl 3 rfl) ?_
              refine g_f C h (hr 100 (by decide)) (cel_hi (by decide)) celF_Mod rfl in_X7_strike_X7 10 (by decide) (by decide +kernel) (v := .ref (V.1 111)) rfl dX7_strike_94 ?_
              refine lv_iload_n hx hy dX7_strike_97 rfl (lv_at hl 4 rfl) ?_
              refine lv_bipush (v := (nI 60)) hx hy dX7_strike_98 (by decide) ?_
              refine lv_imul hx hy dX7_strike_100 ?_
              refine lv_topn (pk_mul _ _) ?_
              refine lv_iload_n hx hy dX7_strike_101 rfl (lv_at hl 1 rfl) ?_
              refine lv_iadd hx hy dX7_strike_102 ?_
              refine lv_topn (nI_add _ _) ?_
              refine g_c C h (hr 111 (by decide)) (n := 120) (k := ((c * 60) + ((suC (wr R rMod 19 (nI 0)) c (wrN R c)) + i))) (cel_hi (by decide)) (fun _ => rfl) (by omega) (by decide) (v := (R 111 (c * 60 + ((suC (wr R rMod 19 (nI 0)) c (wrN R c)) + i)))) (show (stRN (suM (wr R rMod 19 (nI 0)) c (wrN R c)) R c (suC (wr R rMod 19 (nI 0)) c (wrN R c)) i) 111 ((c * 60) + ((suC (wr R rMod 19 (nI 0)) c (wrN R c)) + i)) = (R 111 (c * 60 + ((suC (wr R rMod 19 (nI 0)) c (wrN R c)) + i))) from ((stRN_at (Nat.le_refl _)).trans ((congrFun (suM_ne (by decide) (by decide)) _).trans (wr_othr (by decide))))) dX7_strike_103 ?_
              refine s_cR C h (hr 111 (by decide)) (by decide) (n := 120) (k := ((c * 60) + ((suC (wr R rMod 19 (nI 0)) c (wrN R c)) + i))) (fun _ => rfl) (by omega) (by decide) (x := (R 111 (c * 60 + ((suC (wr R rMod 19 (nI 0)) c (wrN R c)) + i)))) (by first | decide | exact vp_of_nar (hEr _ (by omega))) dX7_strike_104 (fun H locs h => ?_)
              refine lv_iload_n hx hy dX7_strike_105 rfl (lv_at hl 2 rfl) ?_
              refine lv_iload hx hy dX7_strike_106 (lv_at hl 0 rfl) ?_
              refine nz_eq hx hy (by omega) (tgt := 115) dX7_strike_108 (by decide) (fun c_108 => ?_) (fun c_108 => ?_)
              · skip
                refine lv_iconst (v := (nI 0)) hx hy dX7_strike_115 (by decide) ?_
                refine lv_iadd hx hy dX7_strike_116 ?_
                refine lv_topn (nI_add _ _) ?_
                refine lv_istore_n (lv' := [(2, .int (nI ((stRC R c (suC (wr R rMod 19 (nI 0)) c (wrN R c)) i) + 0))), (4, .int (nI 0)), (3, .int (nI ((suC (wr R rMod 19 (nI 0)) c (wrN R c)) + i))), (0, .ref (V.1 rMod)), (1, .int (nI c))]) hx hy dX7_strike_117 rfl hl (by decide) rfl (fun ls hl => ?_)
                refine lv_iinc (v := (nI (((suC (wr R rMod 19 (nI 0)) c (wrN R c)) + i) + 1))) (lv' := [(3, .int (nI (((suC (wr R rMod 19 (nI 0)) c (wrN R c)) + i) + 1))), (2, .int (nI ((stRC R c (suC (wr R rMod 19 (nI 0)) c (wrN R c)) i) + 0))), (4, .int (nI 0)), (0, .ref (V.1 rMod)), (1, .int (nI c))]) hx hy dX7_strike_118 hl (k := 2) rfl (nI_1 _) (by decide) rfl (fun ls hl => ?_)
                refine lv_goto (tgt := 26) hx hy dX7_strike_121 (by decide) ?_
                exact ih_26 (i + 1) (by omega) _ _ (by rw [show ((M, stRN (suM (wr R rMod 19 (nI 0)) c (wrN R c)) R c (suC (wr R rMod 19 (nI 0)) c (wrN R c)) (i + 1), o) : wW) = (M, wr (stRN (suM (wr R rMod 19 (nI 0)) c (wrN R c)) R c (suC (wr R rMod 19 (nI 0)) c (wrN R c)) i) 111 ((c * 60) + ((suC (wr R rMod 19 (nI 0)) c (wrN R c)) + i)) (R 111 (c * 60 + ((suC (wr R rMod 19 (nI 0)) c (wrN R c)) + i))), o) from by simp [stRN, stRP, c_9, eq_true c_33, eq_false (Nat.not_le.mpr c_33), eq_false c_47, eq_true c_85, eq_true c_108]]; exact h) _ (by have hl := lv_sub hl [0, 1, 3, 4] (l' := [(3, .int (nI (((suC (wr R rMod 19 (nI 0)) c (wrN R c)) + i) + 1))), (2, .int (nI ((stRC R c (suC (wr R rMod 19 (nI 0)) c (wrN R c)) i) + 0))), (0, .ref (V.1 rMod)), (1, .int (nI c))]) rfl; rw [show (.int (nI (((suC (wr R rMod 19 (nI 0)) c (wrN R c)) + i) + 1)) : Value) = .int (nI ((suC (wr R rMod 19 (nI 0)) c (wrN R c)) + (i + 1))) from rfl] at hl; rw [show (.int (nI ((stRC R c (suC (wr R rMod 19 (nI 0)) c (wrN R c)) i) + 0)) : Value) = .int (nI (stRC R c (suC (wr R rMod 19 (nI 0)) c (wrN R c)) (i + 1))) from by simp [stRC, stRP, c_9, eq_true c_33, eq_false (Nat.not_le.mpr c_33), eq_false c_47, eq_true c_85, eq_true c_108]] at hl; exact hl)
              · skip
                exact absurd c_108 (by decide)
            · skip
              exact absurd c_85 (by decide)
          · skip
            refine lv_aload_n hx hy dX7_strike_50 rfl (lv_at hl 2 rfl) ?_
            refine g_f C h (hr 100 (by decide)) (cel_hi (by decide)) celF_Mod rfl in_X7_strike_X7 10 (by decide) (by decide +kernel) (v := .ref (V.1 111)) rfl dX7_strike_51 ?_
            refine lv_iload_n hx hy dX7_strike_54 rfl (lv_at hl 3 rfl) ?_
            refine lv_bipush (v := (nI 60)) hx hy dX7_strike_55 (by decide) ?_
            refine lv_imul hx hy dX7_strike_57 ?_
            refine lv_topn (pk_mul _ _) ?_
            refine lv_iload_n hx hy dX7_strike_58 rfl (lv_at hl 0 rfl) ?_
            refine lv_iadd hx hy dX7_strike_59 ?_
            refine lv_topn (nI_add _ _) ?_
            refine g_c C h (hr 111 (by decide)) (n := 120) (k := ((c * 60) + ((suC (wr R rMod 19 (nI 0)) c (wrN R c)) + i))) (cel_hi (by decide)) (fun _ => rfl) (by omega) (by decide) (v := (R 111 (c * 60 + ((suC (wr R rMod 19 (nI 0)) c (wrN R c)) + i)))) (show (stRN (suM (wr R rMod 19 (nI 0)) c (wrN R c)) R c (suC (wr R rMod 19 (nI 0)) c (wrN R c)) i) 111 ((c * 60) + ((suC (wr R rMod 19 (nI 0)) c (wrN R c)) + i)) = (R 111 (c * 60 + ((suC (wr R rMod 19 (nI 0)) c (wrN R c)) + i))) from ((stRN_at (Nat.le_refl _)).trans ((congrFun (suM_ne (by decide) (by decide)) _).trans (wr_othr (by decide))))) dX7_strike_60 ?_
            refine lv_bipush (v := (nI 45)) hx hy dX7_strike_61 (by decide) ?_
            refine i_eq hx hy (tgt := 70) dX7_strike_63 (by decide) (fun c_63 => ?_) (fun c_63 => ?_)
            · skip
              refine lv_iconst (v := (nI 0)) hx hy dX7_strike_70 (by decide) ?_
              refine lv_istore (lv' := [(4, .int (nI 0)), (3, .int (nI ((suC (wr R rMod 19 (nI 0)) c (wrN R c)) + i))), (2, .int (nI (stRC R c (suC (wr R rMod 19 (nI 0)) c (wrN R c)) i))), (0, .ref (V.1 rMod)), (1, .int (nI c))]) hx hy dX7_strike_71 hl (by decide) rfl (fun ls hl => ?_)
              refine lv_aload_n hx hy dX7_strike_73 rfl (lv_at hl 3 rfl) ?_
              refine g_f C h (hr 100 (by decide)) (cel_hi (by decide)) celF_Mod rfl in_X7_strike_X7 10 (by decide) (by decide +kernel) (v := .ref (V.1 111)) rfl dX7_strike_74 ?_
              refine lv_iload_n hx hy dX7_strike_77 rfl (lv_at hl 4 rfl) ?_
              refine lv_bipush (v := (nI 60)) hx hy dX7_strike_78 (by decide) ?_
              refine lv_imul hx hy dX7_strike_80 ?_
              refine lv_topn (pk_mul _ _) ?_
              refine lv_iload_n hx hy dX7_strike_81 rfl (lv_at hl 1 rfl) ?_
              refine lv_iadd hx hy dX7_strike_82 ?_
              refine lv_topn (nI_add _ _) ?_
              refine lv_iload hx hy dX7_strike_83 (lv_at hl 0 rfl) ?_
              refine nz_eq hx hy (by omega) (tgt := 93) dX7_strike_85 (by decide) (fun c_85 => ?_) (fun c_85 => ?_)
              · skip
                refine lv_aload_n hx hy dX7_strike_93 rfl (lv_at hl 3 rfl) ?_
                refine g_f C h (hr 100 (by decide)) (cel_hi (by decide)) celF_Mod rfl in_X7_strike_X7 10 (by decide) (by decide +kernel) (v := .ref (V.1 111)) rfl dX7_strike_94 ?_
                refine lv_iload_n hx hy dX7_strike_97 rfl (lv_at hl 4 rfl) ?_
                refine lv_bipush (v := (nI 60)) hx hy dX7_strike_98 (by decide) ?_
                refine lv_imul hx hy dX7_strike_100 ?_
                refine lv_topn (pk_mul _ _) ?_
                refine lv_iload_n hx hy dX7_strike_101 rfl (lv_at hl 1 rfl) ?_
                refine lv_iadd hx hy dX7_strike_102 ?_
                refine lv_topn (nI_add _ _) ?_
                refine g_c C h (hr 111 (by decide)) (n := 120) (k := ((c * 60) + ((suC (wr R rMod 19 (nI 0)) c (wrN R c)) + i))) (cel_hi (by decide)) (fun _ => rfl) (by omega) (by decide) (v := (R 111 (c * 60 + ((suC (wr R rMod 19 (nI 0)) c (wrN R c)) + i)))) (show (stRN (suM (wr R rMod 19 (nI 0)) c (wrN R c)) R c (suC (wr R rMod 19 (nI 0)) c (wrN R c)) i) 111 ((c * 60) + ((suC (wr R rMod 19 (nI 0)) c (wrN R c)) + i)) = (R 111 (c * 60 + ((suC (wr R rMod 19 (nI 0)) c (wrN R c)) + i))) from ((stRN_at (Nat.le_refl _)).trans ((congrFun (suM_ne (by decide) (by decide)) _).trans (wr_othr (by decide))))) dX7_strike_103 ?_
                refine s_cR C h (hr 111 (by decide)) (by decide) (n := 120) (k := ((c * 60) + ((suC (wr R rMod 19 (nI 0)) c (wrN R c)) + i))) (fun _ => rfl) (by omega) (by decide) (x := (R 111 (c * 60 + ((suC (wr R rMod 19 (nI 0)) c (wrN R c)) + i)))) (by first | decide | exact vp_of_nar (hEr _ (by omega))) dX7_strike_104 (fun H locs h => ?_)
                refine lv_iload_n hx hy dX7_strike_105 rfl (lv_at hl 2 rfl) ?_
                refine lv_iload hx hy dX7_strike_106 (lv_at hl 0 rfl) ?_
                refine nz_eq hx hy (by omega) (tgt := 115) dX7_strike_108 (by decide) (fun c_108 => ?_) (fun c_108 => ?_)
                · skip
                  refine lv_iconst (v := (nI 0)) hx hy dX7_strike_115 (by decide) ?_
                  refine lv_iadd hx hy dX7_strike_116 ?_
                  refine lv_topn (nI_add _ _) ?_
                  refine lv_istore_n (lv' := [(2, .int (nI ((stRC R c (suC (wr R rMod 19 (nI 0)) c (wrN R c)) i) + 0))), (4, .int (nI 0)), (3, .int (nI ((suC (wr R rMod 19 (nI 0)) c (wrN R c)) + i))), (0, .ref (V.1 rMod)), (1, .int (nI c))]) hx hy dX7_strike_117 rfl hl (by decide) rfl (fun ls hl => ?_)
                  refine lv_iinc (v := (nI (((suC (wr R rMod 19 (nI 0)) c (wrN R c)) + i) + 1))) (lv' := [(3, .int (nI (((suC (wr R rMod 19 (nI 0)) c (wrN R c)) + i) + 1))), (2, .int (nI ((stRC R c (suC (wr R rMod 19 (nI 0)) c (wrN R c)) i) + 0))), (4, .int (nI 0)), (0, .ref (V.1 rMod)), (1, .int (nI c))]) hx hy dX7_strike_118 hl (k := 2) rfl (nI_1 _) (by decide) rfl (fun ls hl => ?_)
                  refine lv_goto (tgt := 26) hx hy dX7_strike_121 (by decide) ?_
                  exact ih_26 (i + 1) (by omega) _ _ (by rw [show ((M, stRN (suM (wr R rMod 19 (nI 0)) c (wrN R c)) R c (suC (wr R rMod 19 (nI 0)) c (wrN R c)) (i + 1), o) : wW) = (M, wr (stRN (suM (wr R rMod 19 (nI 0)) c (wrN R c)) R c (suC (wr R rMod 19 (nI 0)) c (wrN R c)) i) 111 ((c * 60) + ((suC (wr R rMod 19 (nI 0)) c (wrN R c)) + i)) (R 111 (c * 60 + ((suC (wr R rMod 19 (nI 0)) c (wrN R c)) + i))), o) from by simp [stRN, stRP, c_9, eq_true c_33, eq_false (Nat.not_le.mpr c_33), eq_true c_47, eq_true c_63, eq_true c_85, eq_true c_108]]; exact h) _ (by have hl := lv_sub hl [0, 1, 3, 4] (l' := [(3, .int (nI (((suC (wr R rMod 19 (nI 0)) c (wrN R c)) + i) + 1))), (2, .int (nI ((stRC R c (suC (wr R rMod 19 (nI 0)) c (wrN R c)) i) + 0))), (0, .ref (V.1 rMod)), (1, .int (nI c))]) rfl; rw [show (.int (nI (((suC (wr R rMod 19 (nI 0)) c (wrN R c)) + i) + 1)) : Value) = .int (nI ((suC (wr R rMod 19 (nI 0)) c (wrN R c)) + (i + 1))) from rfl] at hl; rw [show (.int (nI ((stRC R c (suC (wr R rMod 19 (nI 0)) c (wrN R c)) i) + 0)) : Value) = .int (nI (stRC R c (suC (wr R rMod 19 (nI 0)) c (wrN R c)) (i + 1))) from by simp [stRC, stRP, c_9, eq_true c_33, eq_false (Nat.not_le.mpr c_33), eq_true c_47, eq_true c_63, eq_true c_85, eq_true c_108]] at hl; exact hl)
                · skip
                  exact absurd c_108 (by decide)
              · skip
                exact absurd c_85 (by decide)
            · skip
              refine lv_iconst (v := (nI 1)) hx hy dX7_strike_66 (by decide) ?_
              refine lv_goto (tgt := 71) hx hy dX7_strike_67 (by decide) ?_
              refine lv_istore (lv' := [(4, .int (nI 1)), (3, .int (nI ((suC (wr R rMod 19 (nI 0)) c (wrN R c)) + i))), (2, .int (nI (stRC R c (suC (wr R rMod 19 (nI 0)) c (wrN R c)) i))), (0, .ref (V.1 rMod)), (1, .int (nI c))]) hx hy dX7_strike_71 hl (by decide) rfl (fun ls hl => ?_)
              refine lv_aload_n hx hy dX7_strike_73 rfl (lv_at hl 3 rfl) ?_
              refine g_f C h (hr 100 (by decide)) (cel_hi (by decide)) celF_Mod rfl in_X7_strike_X7 10 (by decide) (by decide +kernel) (v := .ref (V.1 111)) rfl dX7_strike_74 ?_
              refine lv_iload_n hx hy dX7_strike_77 rfl (lv_at hl 4 rfl) ?_
              refine lv_bipush (v := (nI 60)) hx hy dX7_strike_78 (by decide) ?_
              refine lv_imul hx hy dX7_strike_80 ?_
              refine lv_topn (pk_mul _ _) ?_
              refine lv_iload_n hx hy dX7_strike_81 rfl (lv_at hl 1 rfl) ?_
              refine lv_iadd hx hy dX7_strike_82 ?_
              refine lv_topn (nI_add _ _) ?_
              refine lv_iload hx hy dX7_strike_83 (lv_at hl 0 rfl) ?_
              refine nz_eq hx hy (by omega) (tgt := 93) dX7_strike_85 (by decide) (fun c_85 => ?_) (fun c_85 => ?_)
              · skip
                exact absurd c_85 (by decide)
              · skip
                refine lv_bipush (v := (nI 45)) hx hy dX7_strike_88 (by decide) ?_
                refine lv_goto (tgt := 104) hx hy dX7_strike_90 (by decide) ?_
                refine s_cR C h (hr 111 (by decide)) (by decide) (n := 120) (k := ((c * 60) + ((suC (wr R rMod 19 (nI 0)) c (wrN R c)) + i))) (fun _ => rfl) (by omega) (by decide) (x := (nI 45)) (by first | decide | exact vp_of_nar (hEr _ (by omega))) dX7_strike_104 (fun H locs h => ?_)
                refine lv_iload_n hx hy dX7_strike_105 rfl (lv_at hl 2 rfl) ?_
                refine lv_iload hx hy dX7_strike_106 (lv_at hl 0 rfl) ?_
                refine nz_eq hx hy (by omega) (tgt := 115) dX7_strike_108 (by decide) (fun c_108 => ?_) (fun c_108 => ?_)
                · skip
                  exact absurd c_108 (by decide)
                · skip
                  refine lv_iconst (v := (nI 1)) hx hy dX7_strike_111 (by decide) ?_
                  refine lv_goto (tgt := 116) hx hy dX7_strike_112 (by decide) ?_
                  refine lv_iadd hx hy dX7_strike_116 ?_
                  refine lv_topn (nI_add _ _) ?_
                  refine lv_istore_n (lv' := [(2, .int (nI ((stRC R c (suC (wr R rMod 19 (nI 0)) c (wrN R c)) i) + 1))), (4, .int (nI 1)), (3, .int (nI ((suC (wr R rMod 19 (nI 0)) c (wrN R c)) + i))), (0, .ref (V.1 rMod)), (1, .int (nI c))]) hx hy dX7_strike_117 rfl hl (by decide) rfl (fun ls hl => ?_)
                  refine lv_iinc (v := (nI (((suC (wr R rMod 19 (nI 0)) c (wrN R c)) + i) + 1))) (lv' := [(3, .int (nI (((suC (wr R rMod 19 (nI 0)) c (wrN R c)) + i) + 1))), (2, .int (nI ((stRC R c (suC (wr R rMod 19 (nI 0)) c (wrN R c)) i) + 1))), (4, .int (nI 1)), (0, .ref (V.1 rMod)), (1, .int (nI c))]) hx hy dX7_strike_118 hl (k := 2) rfl (nI_1 _) (by decide) rfl (fun ls hl => ?_)
                  refine lv_goto (tgt := 26) hx hy dX7_strike_121 (by decide) ?_
                  exact ih_26 (i + 1) (by omega) _ _ (by rw [show ((M, stRN (suM (wr R rMod 19 (nI 0)) c (wrN R c)) R c (suC (wr R rMod 19 (nI 0)) c (wrN R c)) (i + 1), o) : wW) = (M, wr (stRN (suM (wr R rMod 19 (nI 0)) c (wrN R c)) R c (suC (wr R rMod 19 (nI 0)) c (wrN R c)) i) 111 ((c * 60) + ((suC (wr R rMod 19 (nI 0)) c (wrN R c)) + i)) (nI 45), o) from by simp [stRN, stRP, c_9, eq_true c_33, eq_false (Nat.not_le.mpr c_33), eq_true c_47, eq_false c_63, eq_false c_85, eq_false c_108]]; exact h) _ (by have hl := lv_sub hl [0, 1, 3, 4] (l' := [(3, .int (nI (((suC (wr R rMod 19 (nI 0)) c (wrN R c)) + i) + 1))), (2, .int (nI ((stRC R c (suC (wr R rMod 19 (nI 0)) c (wrN R c)) i) + 1))), (0, .ref (V.1 rMod)), (1, .int (nI c))]) rfl; rw [show (.int (nI (((suC (wr R rMod 19 (nI 0)) c (wrN R c)) + i) + 1)) : Value) = .int (nI ((suC (wr R rMod 19 (nI 0)) c (wrN R c)) + (i + 1))) from rfl] at hl; rw [show (.int (nI ((stRC R c (suC (wr R rMod 19 (nI 0)) c (wrN R c)) i) + 1)) : Value) = .int (nI (stRC R c (suC (wr R rMod 19 (nI 0)) c (wrN R c)) (i + 1))) from by simp [stRC, stRP, c_9, eq_true c_33, eq_false (Nat.not_le.mpr c_33), eq_true c_47, eq_false c_63, eq_false c_85, eq_false c_108]] at hl; exact hl)
    exact L_26 ((wrN R c - (suC (wr R rMod 19 (nI 0)) c (wrN R c)))) 0 (by omega) _ _ (by rw [show (M, stRN (suM (wr R rMod 19 (nI 0)) c (wrN R c)) R c (suC (wr R rMod 19 (nI 0)) c (wrN R c)) 0, o) = (M, suM (wr R rMod 19 (nI 0)) c (wrN R c), o) from rfl]; exact h) _ (by have hl := lv_sub hl [0, 1, 2, 3] (l' := [(3, .int (nI (suC (wr R rMod 19 (nI 0)) c (wrN R c)))), (2, .int (nI 0)), (0, .ref (V.1 rMod)), (1, .int (nI c))]) rfl; rw [show (.int (nI (suC (wr R rMod 19 (nI 0)) c (wrN R c))) : Value) = .int (nI ((suC (wr R rMod 19 (nI 0)) c (wrN R c)) + 0)) from rfl] at hl; rw [show (.int (nI 0) : Value) = .int (nI (stRC R c (suC (wr R rMod 19 (nI 0)) c (wrN R c)) 0)) from rfl] at hl; exact hl)
  · skip
    rw [noV_f c_9] at h
    have hno_9 : vIn ca 2 = false := not_tt c_9
    refine lv_iconst (v := (nI 0)) hx hy dX7_strike_12 (by decide) ?_
    exact e_int C h rfl dX7_strike_13 (⟨_, rfl, by simp [kCR, hno_9, c_9, suR], by simp [kCR, strikeR, thr, suR, hno_9, c_9]⟩) (by decide) (by decide)

set_option maxRecDepth 20000 in
theorem in_X7_entries_X7 : ∀ x ∈ wsX70, x ∈ wsX7_entries := by decide +kernel
set_option maxRecDepth 100000 in
set_option maxHeartbeats 4000000 in
/-- the reference: entries -/
theorem c_X7_entries (l : Launch) {G : va_G} {V : wV} {rs : List Nat} (hr : bR rs) (M R : wM) (o : wO) (rv : RV R) (ca : Int32) : CT l G V rs yX7_entries wsX7_entries 1 22 0 0 [.ref (V.1 rMod), .int ca] (M, R, o) (fun v u => ∃ r, v = some (.int r) ∧ (kCR ca = 0 → r = nI (wrN R (cI ca))) ∧ u = (M, thr R (kCR ca), o)) (fun _ _ => False) := by
  refine ct_of (cc := cX7_entries) (maxL := 2) (ret := (some .int)) (by decide) rfl (Nat.le_of_ble_eq_true rfl) ?_
  intro p e s m below meth cd ls C h X hT hl
  have hx := C.1
  have hy := C.2.1
  have hl : lv_has ls 2 [(0, .ref (V.1 rMod)), (1, .int ca)] := hl
  have hmn : ∀ c, c < 2 → R 101 c = nI (mnN R c) ∧ mnN R c ≤ 7 := fun c hc => ⟨(rv.1 c hc).1, (rv.1 c hc).2.1⟩
  have hwn : ∀ c, c < 2 → R 103 c = nI (wrN R c) ∧ wrN R c ≤ 60 := fun c hc => ⟨(rv.1 c hc).2.2.1, (rv.1 c hc).2.2.2.1⟩
  have hsi9 := rv.2.1.2
  have htr9 := rv.2.2.1.2
  refine lv_aload_n hx hy dX7_entries_0 rfl (lv_at hl 0 rfl) ?_
  refine lv_iload_n hx hy dX7_entries_1 rfl (lv_at hl 1 rfl) ?_
  refine n_go0 C h (n_S (As := [.int ca]) (rest := [.ref (V.1 rMod)]) C h X (c_X7_isCastle l M R o ca) (va_cwS 1 C.2.2.2.2.1 gX7_entries_X7_isCastle rfl rfl rfl (by decide +kernel) ⟨Nat.le_of_ble_eq_true rfl, Nat.le_of_ble_eq_true rfl⟩) rfl hl.1 rfl (Nat.le_of_ble_eq_true rfl) dX7_entries_2 ⟨by decide, by decide⟩) (fun _ _ z => z) (fun v_2 u_2 H locs hpo h => ?_)
  obtain ⟨rfl, rfl⟩ := hpo
  refine lv_iconst (v := (nI 1)) hx hy dX7_entries_5 (by decide) ?_
  refine n_go0 C h (n_V (As := [.int (b2i (vIn ca 2)), .int (nI 1)]) (rest := []) C h X (hr 100 (by decide)) ((cel_hi (by decide)).trans (celF_Mod _)) rfl (c_X7_no l hr M R o (vIn ca 2) (nI 1)) (cwV 2 C.2.2.2.2.1 gX7_entries_X7_no rfl rfl rfl (by decide +kernel) ⟨Nat.le_of_ble_eq_true rfl, Nat.le_of_ble_eq_true rfl⟩) rfl hl.1 rfl (Nat.le_of_ble_eq_true rfl) dX7_entries_6 ⟨by decide, by decide⟩) (fun _ _ z => z) (fun v_6 u_6 H locs hpo h => ?_)
  obtain ⟨rfl, rfl⟩ := hpo
  refine b_eq hx hy (tgt := 16) dX7_entries_9 (by decide) (fun c_9 => ?_) (fun c_9 => ?_)
  · skip
    rw [noV_t c_9] at h
    have hno_9 : vIn ca 2 = true := not_ff c_9
    obtain ⟨c, hc, rfl⟩ := vIn_ok' hno_9 (by decide)
    have hv_c : vIn (nI c) 2 = true := vIn_nI hc (by decide)
    have hi_c : cI (nI c) = c := nI_clamp (by omega)
    have hmn9 := (hmn c hc).2
    have hwn9 := (hwn c hc).2
    have hB := (rv.1 c hc).2.2.2.2.1
    have hEr := (rv.1 c hc).2.2.2.2.2.1
    have hU := (rv.1 c hc).2.2.2.2.2.2
    refine lv_aload_n hx hy dX7_entries_16 rfl (lv_at hl 0 rfl) ?_
    refine g_f C h (hr 100 (by decide)) (cel_hi (by decide)) celF_Mod rfl in_X7_entries_X7 2 (by decide) (by decide +kernel) (v := .ref (V.1 103)) rfl dX7_entries_17 ?_
    refine lv_iload_n hx hy dX7_entries_20 rfl (lv_at hl 1 rfl) ?_
    refine g_i C h (hr 103 (by decide)) (n := 2) (k := c) (cel_hi (by decide)) (fun _ => rfl) (by omega) (by decide) (v := (nI (wrN R c))) (show (wr R rMod 19 (nI 0)) 103 c = (nI (wrN R c)) from ((wr_othr (by decide)).trans (hwn c hc).1)) dX7_entries_21 ?_
    exact e_int C h rfl dX7_entries_22 (⟨_, rfl, by simp [kCR, hno_9, hi_c, hv_c, c_9, suR], by simp [kCR, thr, suR, hno_9, hi_c, hv_c, c_9]⟩) (by decide) (by decide)
  · skip
    rw [noV_f c_9] at h
    have hno_9 : vIn ca 2 = false := not_tt c_9
    refine lv_iconst (v := (nI 0)) hx hy dX7_entries_12 (by decide) ?_
    refine lv_goto (tgt := 22) hx hy dX7_entries_13 (by decide) ?_
    exact e_int C h rfl dX7_entries_22 (⟨_, rfl, by simp [kCR, hno_9, c_9, suR], by simp [kCR, thr, suR, hno_9, c_9]⟩) (by decide) (by decide)

set_option maxRecDepth 20000 in
theorem in_X7_counting_X7 : ∀ x ∈ wsX70, x ∈ wsX7_counting := by decide +kernel
set_option maxRecDepth 100000 in
set_option maxHeartbeats 4000000 in
/-- the reference: counting -/
theorem c_X7_counting (l : Launch) {G : va_G} {V : wV} {rs : List Nat} (hr : bR rs) (M R : wM) (o : wO) (rv : RV R) (ca : Int32) : CT l G V rs yX7_counting wsX7_counting 2 47 0 0 [.ref (V.1 rMod), .int ca] (M, R, o) (fun v u => ∃ r, v = some (.int r) ∧ (kCR ca = 0 → r = nI (suC (thr R 0) (cI ca) (wrN R (cI ca)))) ∧ u = (M, sumR R ca, o)) (fun _ _ => False) := by
  refine ct_of (cc := cX7_counting) (maxL := 2) (ret := (some .int)) (by decide) rfl (Nat.le_of_ble_eq_true rfl) ?_
  intro p e s m below meth cd ls C h X hT hl
  have hx := C.1
  have hy := C.2.1
  have hl : lv_has ls 2 [(0, .ref (V.1 rMod)), (1, .int ca)] := hl
  have hmn : ∀ c, c < 2 → R 101 c = nI (mnN R c) ∧ mnN R c ≤ 7 := fun c hc => ⟨(rv.1 c hc).1, (rv.1 c hc).2.1⟩
  have hwn : ∀ c, c < 2 → R 103 c = nI (wrN R c) ∧ wrN R c ≤ 60 := fun c hc => ⟨(rv.1 c hc).2.2.1, (rv.1 c hc).2.2.2.1⟩
  have hsi9 := rv.2.1.2
  have htr9 := rv.2.2.1.2
  refine lv_aload_n hx hy dX7_counting_0 rfl (lv_at hl 0 rfl) ?_
  refine lv_iload_n hx hy dX7_counting_1 rfl (lv_at hl 1 rfl) ?_
  refine n_go0 C h (n_S (As := [.int ca]) (rest := [.ref (V.1 rMod)]) C h X (c_X7_isCastle l M R o ca) (va_cwS 1 C.2.2.2.2.1 gX7_counting_X7_isCastle rfl rfl rfl (by decide +kernel) ⟨Nat.le_of_ble_eq_true rfl, Nat.le_of_ble_eq_true rfl⟩) rfl hl.1 rfl (Nat.le_of_ble_eq_true rfl) dX7_counting_2 ⟨by decide, by decide⟩) (fun _ _ z => z) (fun v_2 u_2 H locs hpo h => ?_)
  obtain ⟨rfl, rfl⟩ := hpo
  refine lv_iconst (v := (nI 1)) hx hy dX7_counting_5 (by decide) ?_
  refine n_go0 C h (n_V (As := [.int (b2i (vIn ca 2)), .int (nI 1)]) (rest := []) C h X (hr 100 (by decide)) ((cel_hi (by decide)).trans (celF_Mod _)) rfl (c_X7_no l hr M R o (vIn ca 2) (nI 1)) (cwV 2 C.2.2.2.2.1 gX7_counting_X7_no rfl rfl rfl (by decide +kernel) ⟨Nat.le_of_ble_eq_true rfl, Nat.le_of_ble_eq_true rfl⟩) rfl hl.1 rfl (Nat.le_of_ble_eq_true rfl) dX7_counting_6 ⟨by decide, by decide⟩) (fun _ _ z => z) (fun v_6 u_6 H locs hpo h => ?_)
  obtain ⟨rfl, rfl⟩ := hpo
  refine b_eq hx hy (tgt := 14) dX7_counting_9 (by decide) (fun c_9 => ?_) (fun c_9 => ?_)
  · skip
    rw [noV_t c_9] at h
    have hno_9 : vIn ca 2 = true := not_ff c_9
    obtain ⟨c, hc, rfl⟩ := vIn_ok' hno_9 (by decide)
    have hv_c : vIn (nI c) 2 = true := vIn_nI hc (by decide)
    have hi_c : cI (nI c) = c := nI_clamp (by omega)
    have hmn9 := (hmn c hc).2
    have hwn9 := (hwn c hc).2
    have hB := (rv.1 c hc).2.2.2.2.1
    have hEr := (rv.1 c hc).2.2.2.2.2.1
    have hU := (rv.1 c hc).2.2.2.2.2.2
    refine lv_aload_n hx hy dX7_counting_14 rfl (lv_at hl 0 rfl) ?_
    refine lv_iload_n hx hy dX7_counting_15 rfl (lv_at hl 1 rfl) ?_
    refine n_go0 C h (n_V (As := [.int (nI c)]) (rest := []) C h X (hr 100 (by decide)) ((cel_hi (by decide)).trans (celF_Mod _)) rfl (c_X7_sums l hr M (wr R rMod 19 (nI 0)) o c hc (wrN R c) hwn9 (show (wr R rMod 19 (nI 0)) 103 c = nI (wrN R c) from ((wr_othr (by decide)).trans (hwn c hc).1)) hB) (cwV 1 C.2.2.2.2.1 gX7_counting_X7_sums rfl rfl rfl (by decide +kernel) ⟨Nat.le_of_ble_eq_true rfl, Nat.le_of_ble_eq_true rfl⟩) rfl hl.1 rfl (Nat.le_of_ble_eq_true rfl) dX7_counting_16 ⟨by decide, by decide⟩) (fun _ _ z => z) (fun v_16 u_16 H locs hpo h => ?_)
    obtain ⟨rfl, rfl⟩ := hpo
    refine lv_aload_n hx hy dX7_counting_19 rfl (lv_at hl 0 rfl) ?_
    refine g_f C h (hr 100 (by decide)) (cel_hi (by decide)) celF_Mod rfl in_X7_counting_X7 33 (by decide) (by decide +kernel) (v := .int (nI (suC (wr R rMod 19 (nI 0)) c (wrN R c)))) (congrArg (fun z => some (Value.int z)) (show (suM (wr R rMod 19 (nI 0)) c (wrN R c)) rMod 33 = (nI (suC (wr R rMod 19 (nI 0)) c (wrN R c))) from suM_cnt)) dX7_counting_20 ?_
    exact e_int C h rfl dX7_counting_23 (⟨_, rfl, by simp [kCR, hno_9, hi_c, hv_c, c_9, suR], by simp [kCR, sumR, thr, suR, hno_9, hi_c, hv_c, c_9]⟩) (by decide) (by decide)
  · skip
    rw [noV_f c_9] at h
    have hno_9 : vIn ca 2 = false := not_tt c_9
    refine lv_iconst (v := (nI 0)) hx hy dX7_counting_12 (by decide) ?_
    exact e_int C h rfl dX7_counting_13 (⟨_, rfl, by simp [kCR, hno_9, c_9, suR], by simp [kCR, sumR, thr, suR, hno_9, c_9]⟩) (by decide) (by decide)

set_option maxRecDepth 20000 in
theorem in_X7_entryOf_X7 : ∀ x ∈ wsX70, x ∈ wsX7_entryOf := by decide +kernel
set_option maxRecDepth 100000 in
set_option maxHeartbeats 4000000 in
/-- the reference: entryOf -/
theorem c_X7_entryOf (l : Launch) {G : va_G} {V : wV} {rs : List Nat} (hr : bR rs) (M R : wM) (o : wO) (rv : RV R) (ca en0 : Int32) : CT l G V rs yX7_entryOf wsX7_entryOf 2 44 0 0 [.ref (V.1 rMod), .int ca, .int en0] (M, R, o) (fun v u => ∃ r, v = some (.int r) ∧ (kER R ca en0 = 0 → r = R 111 (cI ca * 60 + cI en0)) ∧ u = (M, thr R (kER R ca en0), o)) (fun _ _ => False) := by
  refine ct_of (cc := cX7_entryOf) (maxL := 3) (ret := (some .char)) (by decide) rfl (Nat.le_of_ble_eq_true rfl) ?_
  intro p e s m below meth cd ls C h X hT hl
  have hx := C.1
  have hy := C.2.1
  have hl : lv_has ls 3 [(0, .ref (V.1 rMod)), (1, .int ca), (2, .int en0)] := hl
  have hmn : ∀ c, c < 2 → R 101 c = nI (mnN R c) ∧ mnN R c ≤ 7 := fun c hc => ⟨(rv.1 c hc).1, (rv.1 c hc).2.1⟩
  have hwn : ∀ c, c < 2 → R 103 c = nI (wrN R c) ∧ wrN R c ≤ 60 := fun c hc => ⟨(rv.1 c hc).2.2.1, (rv.1 c hc).2.2.2.1⟩
  have hsi9 := rv.2.1.2
  have htr9 := rv.2.2.1.2
  refine lv_aload_n hx hy dX7_entryOf_0 rfl (lv_at hl 0 rfl) ?_
  refine lv_aload_n hx hy dX7_entryOf_1 rfl (lv_at hl 0 rfl) ?_
  refine lv_iload_n hx hy dX7_entryOf_2 rfl (lv_at hl 1 rfl) ?_
  refine lv_iload_n hx hy dX7_entryOf_3 rfl (lv_at hl 2 rfl) ?_
  refine n_go0 C h (n_V (As := [.int ca, .int en0]) (rest := [.ref (V.1 rMod)]) C h X (hr 100 (by decide)) ((cel_hi (by decide)).trans (celF_Mod _)) rfl (c_X7_isEntry l hr M R o hwn ca en0) (cwV 2 C.2.2.2.2.1 gX7_entryOf_X7_isEntry rfl rfl rfl (by decide +kernel) ⟨Nat.le_of_ble_eq_true rfl, Nat.le_of_ble_eq_true rfl⟩) rfl hl.1 rfl (Nat.le_of_ble_eq_true rfl) dX7_entryOf_4 ⟨by decide, by decide⟩) (fun _ _ z => z) (fun v_4 u_4 H locs hpo h => ?_)
  obtain ⟨rfl, rfl⟩ := hpo
  refine lv_iconst (v := (nI 1)) hx hy dX7_entryOf_7 (by decide) ?_
  refine n_go0 C h (n_V (As := [.int (b2i (isE R ca en0)), .int (nI 1)]) (rest := []) C h X (hr 100 (by decide)) ((cel_hi (by decide)).trans (celF_Mod _)) rfl (c_X7_no l hr M R o (isE R ca en0) (nI 1)) (cwV 2 C.2.2.2.2.1 gX7_entryOf_X7_no rfl rfl rfl (by decide +kernel) ⟨Nat.le_of_ble_eq_true rfl, Nat.le_of_ble_eq_true rfl⟩) rfl hl.1 rfl (Nat.le_of_ble_eq_true rfl) dX7_entryOf_8 ⟨by decide, by decide⟩) (fun _ _ z => z) (fun v_8 u_8 H locs hpo h => ?_)
  obtain ⟨rfl, rfl⟩ := hpo
  refine b_eq hx hy (tgt := 19) dX7_entryOf_11 (by decide) (fun c_11 => ?_) (fun c_11 => ?_)
  · skip
    rw [noV_t c_11] at h
    have hno_11 : isE R ca en0 = true := not_ff c_11
    obtain ⟨c, en, hc, hen, rfl, rfl⟩ := isE_ok hno_11 (fun c hc => (hwn c hc).2)
    have hwn9 := (hwn c hc).2
    have hen6 : en < 60 := by omega
    have hi_c : cI (nI c) = c := nI_clamp (by omega)
    have hi_en : cI (nI en) = en := nI_clamp (by omega)
    have hmn9 := (hmn c hc).2
    have hwn9 := (hwn c hc).2
    have hB := (rv.1 c hc).2.2.2.2.1
    have hEr := (rv.1 c hc).2.2.2.2.2.1
    have hU := (rv.1 c hc).2.2.2.2.2.2
    refine lv_aload_n hx hy dX7_entryOf_19 rfl (lv_at hl 0 rfl) ?_
    refine g_f C h (hr 100 (by decide)) (cel_hi (by decide)) celF_Mod rfl in_X7_entryOf_X7 10 (by decide) (by decide +kernel) (v := .ref (V.1 111)) rfl dX7_entryOf_20 ?_
    refine lv_iload_n hx hy dX7_entryOf_23 rfl (lv_at hl 1 rfl) ?_
    refine lv_bipush (v := (nI 60)) hx hy dX7_entryOf_24 (by decide) ?_
    refine lv_imul hx hy dX7_entryOf_26 ?_
    refine lv_topn (pk_mul _ _) ?_
    refine lv_iload_n hx hy dX7_entryOf_27 rfl (lv_at hl 2 rfl) ?_
    refine lv_iadd hx hy dX7_entryOf_28 ?_
    refine lv_topn (nI_add _ _) ?_
    refine g_c C h (hr 111 (by decide)) (n := 120) (k := ((c * 60) + en)) (cel_hi (by decide)) (fun _ => rfl) (by omega) (by decide) (v := (R 111 ((c * 60) + en))) (show (wr R rMod 19 (nI 0)) 111 ((c * 60) + en) = (R 111 ((c * 60) + en)) from (wr_othr (by decide))) dX7_entryOf_29 ?_
    exact e_int C h (by first | decide | exact hEr en hen) dX7_entryOf_30 (⟨_, rfl, by simp [kER, hno_11, hi_c, hi_en, hno_11, c_11, suR], by simp [kER, thr, suR, hno_11, hi_c, hi_en, hno_11, c_11]⟩) (by decide) (by decide)
  · skip
    rw [noV_f c_11] at h
    have hno_11 : isE R ca en0 = false := not_tt c_11
    refine lv_bipush (v := (nI 63)) hx hy dX7_entryOf_14 (by decide) ?_
    refine lv_goto (tgt := 30) hx hy dX7_entryOf_16 (by decide) ?_
    exact e_int C h (by first | decide | exact hEr en hen) dX7_entryOf_30 (⟨_, rfl, by simp [kER, hno_11, c_11, suR], by simp [kER, thr, suR, hno_11, c_11]⟩) (by decide) (by decide)

set_option maxRecDepth 20000 in
theorem in_X7_amountOf_X7 : ∀ x ∈ wsX70, x ∈ wsX7_amountOf := by decide +kernel
set_option maxRecDepth 100000 in
set_option maxHeartbeats 4000000 in
/-- the reference: amountOf -/
theorem c_X7_amountOf (l : Launch) {G : va_G} {V : wV} {rs : List Nat} (hr : bR rs) (M R : wM) (o : wO) (rv : RV R) (ca en0 : Int32) : CT l G V rs yX7_amountOf wsX7_amountOf 2 44 0 0 [.ref (V.1 rMod), .int ca, .int en0] (M, R, o) (fun v u => ∃ r, v = some (.int r) ∧ (kER R ca en0 = 0 → r = R 112 (cI ca * 60 + cI en0)) ∧ u = (M, thr R (kER R ca en0), o)) (fun _ _ => False) := by
  refine ct_of (cc := cX7_amountOf) (maxL := 3) (ret := (some .int)) (by decide) rfl (Nat.le_of_ble_eq_true rfl) ?_
  intro p e s m below meth cd ls C h X hT hl
  have hx := C.1
  have hy := C.2.1
  have hl : lv_has ls 3 [(0, .ref (V.1 rMod)), (1, .int ca), (2, .int en0)] := hl
  have hmn : ∀ c, c < 2 → R 101 c = nI (mnN R c) ∧ mnN R c ≤ 7 := fun c hc => ⟨(rv.1 c hc).1, (rv.1 c hc).2.1⟩
  have hwn : ∀ c, c < 2 → R 103 c = nI (wrN R c) ∧ wrN R c ≤ 60 := fun c hc => ⟨(rv.1 c hc).2.2.1, (rv.1 c hc).2.2.2.1⟩
  have hsi9 := rv.2.1.2
  have htr9 := rv.2.2.1.2
  refine lv_aload_n hx hy dX7_amountOf_0 rfl (lv_at hl 0 rfl) ?_
  refine lv_aload_n hx hy dX7_amountOf_1 rfl (lv_at hl 0 rfl) ?_
  refine lv_iload_n hx hy dX7_amountOf_2 rfl (lv_at hl 1 rfl) ?_
  refine lv_iload_n hx hy dX7_amountOf_3 rfl (lv_at hl 2 rfl) ?_
  refine n_go0 C h (n_V (As := [.int ca, .int en0]) (rest := [.ref (V.1 rMod)]) C h X (hr 100 (by decide)) ((cel_hi (by decide)).trans (celF_Mod _)) rfl (c_X7_isEntry l hr M R o hwn ca en0) (cwV 2 C.2.2.2.2.1 gX7_amountOf_X7_isEntry rfl rfl rfl (by decide +kernel) ⟨Nat.le_of_ble_eq_true rfl, Nat.le_of_ble_eq_true rfl⟩) rfl hl.1 rfl (Nat.le_of_ble_eq_true rfl) dX7_amountOf_4 ⟨by decide, by decide⟩) (fun _ _ z => z) (fun v_4 u_4 H locs hpo h => ?_)
  obtain ⟨rfl, rfl⟩ := hpo
  refine lv_iconst (v := (nI 1)) hx hy dX7_amountOf_7 (by decide) ?_
  refine n_go0 C h (n_V (As := [.int (b2i (isE R ca en0)), .int (nI 1)]) (rest := []) C h X (hr 100 (by decide)) ((cel_hi (by decide)).trans (celF_Mod _)) rfl (c_X7_no l hr M R o (isE R ca en0) (nI 1)) (cwV 2 C.2.2.2.2.1 gX7_amountOf_X7_no rfl rfl rfl (by decide +kernel) ⟨Nat.le_of_ble_eq_true rfl, Nat.le_of_ble_eq_true rfl⟩) rfl hl.1 rfl (Nat.le_of_ble_eq_true rfl) dX7_amountOf_8 ⟨by decide, by decide⟩) (fun _ _ z => z) (fun v_8 u_8 H locs hpo h => ?_)
  obtain ⟨rfl, rfl⟩ := hpo
  refine b_eq hx hy (tgt := 18) dX7_amountOf_11 (by decide) (fun c_11 => ?_) (fun c_11 => ?_)
  · skip
    rw [noV_t c_11] at h
    have hno_11 : isE R ca en0 = true := not_ff c_11
    obtain ⟨c, en, hc, hen, rfl, rfl⟩ := isE_ok hno_11 (fun c hc => (hwn c hc).2)
    have hwn9 := (hwn c hc).2
    have hen6 : en < 60 := by omega
    have hi_c : cI (nI c) = c := nI_clamp (by omega)
    have hi_en : cI (nI en) = en := nI_clamp (by omega)
    have hmn9 := (hmn c hc).2
    have hwn9 := (hwn c hc).2
    have hB := (rv.1 c hc).2.2.2.2.1
    have hEr := (rv.1 c hc).2.2.2.2.2.1
    have hU := (rv.1 c hc).2.2.2.2.2.2
    refine lv_aload_n hx hy dX7_amountOf_18 rfl (lv_at hl 0 rfl) ?_
    refine g_f C h (hr 100 (by decide)) (cel_hi (by decide)) celF_Mod rfl in_X7_amountOf_X7 11 (by decide) (by decide +kernel) (v := .ref (V.1 112)) rfl dX7_amountOf_19 ?_
    refine lv_iload_n hx hy dX7_amountOf_22 rfl (lv_at hl 1 rfl) ?_
    refine lv_bipush (v := (nI 60)) hx hy dX7_amountOf_23 (by decide) ?_
    refine lv_imul hx hy dX7_amountOf_25 ?_
    refine lv_topn (pk_mul _ _) ?_
    refine lv_iload_n hx hy dX7_amountOf_26 rfl (lv_at hl 2 rfl) ?_
    refine lv_iadd hx hy dX7_amountOf_27 ?_
    refine lv_topn (nI_add _ _) ?_
    refine g_i C h (hr 112 (by decide)) (n := 120) (k := ((c * 60) + en)) (cel_hi (by decide)) (fun _ => rfl) (by omega) (by decide) (v := (R 112 ((c * 60) + en))) (show (wr R rMod 19 (nI 0)) 112 ((c * 60) + en) = (R 112 ((c * 60) + en)) from (wr_othr (by decide))) dX7_amountOf_28 ?_
    exact e_int C h rfl dX7_amountOf_29 (⟨_, rfl, by simp [kER, hno_11, hi_c, hi_en, hno_11, c_11, suR], by simp [kER, thr, suR, hno_11, hi_c, hi_en, hno_11, c_11]⟩) (by decide) (by decide)
  · skip
    rw [noV_f c_11] at h
    have hno_11 : isE R ca en0 = false := not_tt c_11
    refine lv_iconst (v := (nI 0)) hx hy dX7_amountOf_14 (by decide) ?_
    refine lv_goto (tgt := 29) hx hy dX7_amountOf_15 (by decide) ?_
    exact e_int C h rfl dX7_amountOf_29 (⟨_, rfl, by simp [kER, hno_11, c_11, suR], by simp [kER, thr, suR, hno_11, c_11]⟩) (by decide) (by decide)

set_option maxRecDepth 20000 in
theorem in_X7_isCommitted_X7 : ∀ x ∈ wsX70, x ∈ wsX7_isCommitted := by decide +kernel
set_option maxRecDepth 100000 in
set_option maxHeartbeats 4000000 in
/-- the reference: isCommitted -/
theorem c_X7_isCommitted (l : Launch) {G : va_G} {V : wV} {rs : List Nat} (hr : bR rs) (M R : wM) (o : wO) (rv : RV R) (ca en0 : Int32) : CT l G V rs yX7_isCommitted wsX7_isCommitted 2 44 0 0 [.ref (V.1 rMod), .int ca, .int en0] (M, R, o) (fun v u => ∃ r, v = some (.int r) ∧ (kER R ca en0 = 0 → r = b2i (decide (¬ R 116 (cI ca * 60 + cI en0) = 0))) ∧ u = (M, thr R (kER R ca en0), o)) (fun _ _ => False) := by
  refine ct_of (cc := cX7_isCommitted) (maxL := 3) (ret := (some .boolean)) (by decide) rfl (Nat.le_of_ble_eq_true rfl) ?_
  intro p e s m below meth cd ls C h X hT hl
  have hx := C.1
  have hy := C.2.1
  have hl : lv_has ls 3 [(0, .ref (V.1 rMod)), (1, .int ca), (2, .int en0)] := hl
  have hmn : ∀ c, c < 2 → R 101 c = nI (mnN R c) ∧ mnN R c ≤ 7 := fun c hc => ⟨(rv.1 c hc).1, (rv.1 c hc).2.1⟩
  have hwn : ∀ c, c < 2 → R 103 c = nI (wrN R c) ∧ wrN R c ≤ 60 := fun c hc => ⟨(rv.1 c hc).2.2.1, (rv.1 c hc).2.2.2.1⟩
  have hsi9 := rv.2.1.2
  have htr9 := rv.2.2.1.2
  refine lv_aload_n hx hy dX7_isCommitted_0 rfl (lv_at hl 0 rfl) ?_
  refine lv_aload_n hx hy dX7_isCommitted_1 rfl (lv_at hl 0 rfl) ?_
  refine lv_iload_n hx hy dX7_isCommitted_2 rfl (lv_at hl 1 rfl) ?_
  refine lv_iload_n hx hy dX7_isCommitted_3 rfl (lv_at hl 2 rfl) ?_
  refine n_go0 C h (n_V (As := [.int ca, .int en0]) (rest := [.ref (V.1 rMod)]) C h X (hr 100 (by decide)) ((cel_hi (by decide)).trans (celF_Mod _)) rfl (c_X7_isEntry l hr M R o hwn ca en0) (cwV 2 C.2.2.2.2.1 gX7_isCommitted_X7_isEntry rfl rfl rfl (by decide +kernel) ⟨Nat.le_of_ble_eq_true rfl, Nat.le_of_ble_eq_true rfl⟩) rfl hl.1 rfl (Nat.le_of_ble_eq_true rfl) dX7_isCommitted_4 ⟨by decide, by decide⟩) (fun _ _ z => z) (fun v_4 u_4 H locs hpo h => ?_)
  obtain ⟨rfl, rfl⟩ := hpo
  refine lv_iconst (v := (nI 1)) hx hy dX7_isCommitted_7 (by decide) ?_
  refine n_go0 C h (n_V (As := [.int (b2i (isE R ca en0)), .int (nI 1)]) (rest := []) C h X (hr 100 (by decide)) ((cel_hi (by decide)).trans (celF_Mod _)) rfl (c_X7_no l hr M R o (isE R ca en0) (nI 1)) (cwV 2 C.2.2.2.2.1 gX7_isCommitted_X7_no rfl rfl rfl (by decide +kernel) ⟨Nat.le_of_ble_eq_true rfl, Nat.le_of_ble_eq_true rfl⟩) rfl hl.1 rfl (Nat.le_of_ble_eq_true rfl) dX7_isCommitted_8 ⟨by decide, by decide⟩) (fun _ _ z => z) (fun v_8 u_8 H locs hpo h => ?_)
  obtain ⟨rfl, rfl⟩ := hpo
  refine b_ne hx hy (tgt := 32) dX7_isCommitted_11 (by decide) (fun c_11 => ?_) (fun c_11 => ?_)
  · skip
    rw [noV_f c_11] at h
    have hno_11 : isE R ca en0 = false := not_tt c_11
    refine lv_iconst (v := (nI 0)) hx hy dX7_isCommitted_32 (by decide) ?_
    exact e_int C h (by decide) dX7_isCommitted_33 (⟨_, rfl, by simp [kER, b2i, hno_11, c_11, suR], by simp [kER, b2i, thr, suR, hno_11, c_11]⟩) (by decide) (by decide)
  · skip
    rw [noV_t c_11] at h
    have hno_11 : isE R ca en0 = true := not_ff c_11
    obtain ⟨c, en, hc, hen, rfl, rfl⟩ := isE_ok hno_11 (fun c hc => (hwn c hc).2)
    have hwn9 := (hwn c hc).2
    have hen6 : en < 60 := by omega
    have hi_c : cI (nI c) = c := nI_clamp (by omega)
    have hi_en : cI (nI en) = en := nI_clamp (by omega)
    have hmn9 := (hmn c hc).2
    have hwn9 := (hwn c hc).2
    have hB := (rv.1 c hc).2.2.2.2.1
    have hEr := (rv.1 c hc).2.2.2.2.2.1
    have hU := (rv.1 c hc).2.2.2.2.2.2
    refine lv_aload_n hx hy dX7_isCommitted_14 rfl (lv_at hl 0 rfl) ?_
    refine g_f C h (hr 100 (by decide)) (cel_hi (by decide)) celF_Mod rfl in_X7_isCommitted_X7 15 (by decide) (by decide +kernel) (v := .ref (V.1 116)) rfl dX7_isCommitted_15 ?_
    refine lv_iload_n hx hy dX7_isCommitted_18 rfl (lv_at hl 1 rfl) ?_
    refine lv_bipush (v := (nI 60)) hx hy dX7_isCommitted_19 (by decide) ?_
    refine lv_imul hx hy dX7_isCommitted_21 ?_
    refine lv_topn (pk_mul _ _) ?_
    refine lv_iload_n hx hy dX7_isCommitted_22 rfl (lv_at hl 2 rfl) ?_
    refine lv_iadd hx hy dX7_isCommitted_23 ?_
    refine lv_topn (nI_add _ _) ?_
    refine g_z C h (hr 116 (by decide)) (n := 120) (k := ((c * 60) + en)) (cel_hi (by decide)) (fun _ => rfl) (by omega) (by decide) (v := (R 116 ((c * 60) + en))) (show (wr R rMod 19 (nI 0)) 116 ((c * 60) + en) = (R 116 ((c * 60) + en)) from (wr_othr (by decide))) dX7_isCommitted_24 ?_
    refine z_eq hx hy (tgt := 32) dX7_isCommitted_25 (by decide) (fun c_25 => ?_) (fun c_25 => ?_)
    · skip
      refine lv_iconst (v := (nI 0)) hx hy dX7_isCommitted_32 (by decide) ?_
      exact e_int C h (by decide) dX7_isCommitted_33 (⟨_, rfl, by simp [kER, b2i, hno_11, hi_c, hi_en, hno_11, c_11, eq_true c_25, suR], by simp [kER, b2i, thr, suR, hno_11, hi_c, hi_en, hno_11, c_11, eq_true c_25]⟩) (by decide) (by decide)
    · skip
      refine lv_iconst (v := (nI 1)) hx hy dX7_isCommitted_28 (by decide) ?_
      refine lv_goto (tgt := 33) hx hy dX7_isCommitted_29 (by decide) ?_
      exact e_int C h (by decide) dX7_isCommitted_33 (⟨_, rfl, by simp [kER, b2i, hno_11, hi_c, hi_en, hno_11, c_11, eq_false c_25, suR], by simp [kER, b2i, thr, suR, hno_11, hi_c, hi_en, hno_11, c_11, eq_false c_25]⟩) (by decide) (by decide)

set_option maxRecDepth 20000 in
theorem in_X7_has_X7 : ∀ x ∈ wsX70, x ∈ wsX7_has := by decide +kernel
set_option maxRecDepth 100000 in
set_option maxHeartbeats 4000000 in
/-- the reference: has -/
theorem c_X7_has (l : Launch) {G : va_G} {V : wV} {rs : List Nat} (hr : bR rs) (M R : wM) (o : wO) (rv : RV R) (ca to en0 : Int32) : CT l G V rs yX7_has wsX7_has 2 44 0 0 [.ref (V.1 rMod), .int ca, .int to, .int en0] (M, R, o) (fun v u => ∃ r, v = some (.int r) ∧ (kHasR R ca to en0 = 0 → r = b2i (decide (bitI (R 115 (cI ca * 60 + cI en0)) (cI to) = nI 1))) ∧ u = (M, thr R (kHasR R ca to en0), o)) (fun _ _ => False) := by
  refine ct_of (cc := cX7_has) (maxL := 4) (ret := (some .boolean)) (by decide) rfl (Nat.le_of_ble_eq_true rfl) ?_
  intro p e s m below meth cd ls C h X hT hl
  have hx := C.1
  have hy := C.2.1
  have hl : lv_has ls 4 [(0, .ref (V.1 rMod)), (1, .int ca), (2, .int to), (3, .int en0)] := hl
  have hmn : ∀ c, c < 2 → R 101 c = nI (mnN R c) ∧ mnN R c ≤ 7 := fun c hc => ⟨(rv.1 c hc).1, (rv.1 c hc).2.1⟩
  have hwn : ∀ c, c < 2 → R 103 c = nI (wrN R c) ∧ wrN R c ≤ 60 := fun c hc => ⟨(rv.1 c hc).2.2.1, (rv.1 c hc).2.2.2.1⟩
  have hsi9 := rv.2.1.2
  have htr9 := rv.2.2.1.2
  refine lv_aload_n hx hy dX7_has_0 rfl (lv_at hl 0 rfl) ?_
  refine lv_aload_n hx hy dX7_has_1 rfl (lv_at hl 0 rfl) ?_
  refine lv_iload_n hx hy dX7_has_2 rfl (lv_at hl 1 rfl) ?_
  refine lv_iload_n hx hy dX7_has_3 rfl (lv_at hl 2 rfl) ?_
  refine n_go0 C h (n_V (As := [.int ca, .int to]) (rest := [.ref (V.1 rMod)]) C h X (hr 100 (by decide)) ((cel_hi (by decide)).trans (celF_Mod _)) rfl (c_X7_isTower l hr M R o hmn ca to) (cwV 2 C.2.2.2.2.1 gX7_has_X7_isTower rfl rfl rfl (by decide +kernel) ⟨Nat.le_of_ble_eq_true rfl, Nat.le_of_ble_eq_true rfl⟩) rfl hl.1 rfl (Nat.le_of_ble_eq_true rfl) dX7_has_4 ⟨by decide, by decide⟩) (fun _ _ z => z) (fun v_4 u_4 H locs hpo h => ?_)
  obtain ⟨rfl, rfl⟩ := hpo
  refine b_eq hx hy (tgt := 23) dX7_has_7 (by decide) (fun c_7 => ?_) (fun c_7 => ?_)
  · skip
    refine lv_iconst (v := (nI 0)) hx hy dX7_has_23 (by decide) ?_
    refine lv_iconst (v := (nI 1)) hx hy dX7_has_24 (by decide) ?_
    refine n_go0 C h (n_V (As := [.int (b2i false), .int (nI 1)]) (rest := []) C h X (hr 100 (by decide)) ((cel_hi (by decide)).trans (celF_Mod _)) rfl (c_X7_no l hr M R o false (nI 1)) (cwV 2 C.2.2.2.2.1 gX7_has_X7_no rfl rfl rfl (by decide +kernel) ⟨Nat.le_of_ble_eq_true rfl, Nat.le_of_ble_eq_true rfl⟩) rfl hl.1 rfl (Nat.le_of_ble_eq_true rfl) dX7_has_25 ⟨by decide, by decide⟩) (fun _ _ z => z) (fun v_25 u_25 H locs hpo h => ?_)
    obtain ⟨rfl, rfl⟩ := hpo
    refine b_ne hx hy (tgt := 54) dX7_has_28 (by decide) (fun c_28 => ?_) (fun c_28 => ?_)
    · skip
      rw [noV_f c_28] at h
      refine lv_iconst (v := (nI 0)) hx hy dX7_has_54 (by decide) ?_
      exact e_int C h (by decide) dX7_has_55 (⟨_, rfl, by simp [kHasR, b2i, bitI, c_7, c_28, suR], by simp [kHasR, b2i, bitI, thr, suR, c_7, c_28]⟩) (by decide) (by decide)
    · skip
      exact absurd c_28 (by decide)
  · skip
    obtain ⟨c, t, hc, ht, rfl, rfl⟩ := isT_ok c_7 (fun c hc => (hmn c hc).2)
    have hmn9 := (hmn c hc).2
    have ht7 : t < 7 := by omega
    have hi_c : cI (nI c) = c := nI_clamp (by omega)
    have hi_t : cI (nI t) = t := nI_clamp (by omega)
    have hmn9 := (hmn c hc).2
    have hwn9 := (hwn c hc).2
    have hB := (rv.1 c hc).2.2.2.2.1
    have hEr := (rv.1 c hc).2.2.2.2.2.1
    have hU := (rv.1 c hc).2.2.2.2.2.2
    refine lv_aload_n hx hy dX7_has_10 rfl (lv_at hl 0 rfl) ?_
    refine lv_iload_n hx hy dX7_has_11 rfl (lv_at hl 1 rfl) ?_
    refine lv_iload_n hx hy dX7_has_12 rfl (lv_at hl 3 rfl) ?_
    refine n_go0 C h (n_V (As := [.int (nI c), .int en0]) (rest := [.ref (V.1 rMod)]) C h X (hr 100 (by decide)) ((cel_hi (by decide)).trans (celF_Mod _)) rfl (c_X7_isEntry l hr M R o hwn (nI c) en0) (cwV 2 C.2.2.2.2.1 gX7_has_X7_isEntry rfl rfl rfl (by decide +kernel) ⟨Nat.le_of_ble_eq_true rfl, Nat.le_of_ble_eq_true rfl⟩) rfl hl.1 rfl (Nat.le_of_ble_eq_true rfl) dX7_has_13 ⟨by decide, by decide⟩) (fun _ _ z => z) (fun v_13 u_13 H locs hpo h => ?_)
    obtain ⟨rfl, rfl⟩ := hpo
    refine b_eq hx hy (tgt := 23) dX7_has_16 (by decide) (fun c_16 => ?_) (fun c_16 => ?_)
    · skip
      refine lv_iconst (v := (nI 0)) hx hy dX7_has_23 (by decide) ?_
      refine lv_iconst (v := (nI 1)) hx hy dX7_has_24 (by decide) ?_
      refine n_go0 C h (n_V (As := [.int (b2i false), .int (nI 1)]) (rest := []) C h X (hr 100 (by decide)) ((cel_hi (by decide)).trans (celF_Mod _)) rfl (c_X7_no l hr M R o false (nI 1)) (cwV 2 C.2.2.2.2.1 gX7_has_X7_no rfl rfl rfl (by decide +kernel) ⟨Nat.le_of_ble_eq_true rfl, Nat.le_of_ble_eq_true rfl⟩) rfl hl.1 rfl (Nat.le_of_ble_eq_true rfl) dX7_has_25 ⟨by decide, by decide⟩) (fun _ _ z => z) (fun v_25 u_25 H locs hpo h => ?_)
      obtain ⟨rfl, rfl⟩ := hpo
      refine b_ne hx hy (tgt := 54) dX7_has_28 (by decide) (fun c_28 => ?_) (fun c_28 => ?_)
      · skip
        rw [noV_f c_28] at h
        refine lv_iconst (v := (nI 0)) hx hy dX7_has_54 (by decide) ?_
        exact e_int C h (by decide) dX7_has_55 (⟨_, rfl, by simp [kHasR, b2i, bitI, hi_c, hi_t, c_7, c_7, c_16, c_28, suR], by simp [kHasR, b2i, bitI, thr, suR, hi_c, hi_t, c_7, c_7, c_16, c_28]⟩) (by decide) (by decide)
      · skip
        exact absurd c_28 (by decide)
    · skip
      obtain ⟨c9, en, hc9, hen, he9, rfl⟩ := isE_ok c_16 (fun c hc => (hwn c hc).2)
      obtain rfl := nI_inj2 hc hc9 (by decide) he9
      have hwn9 := (hwn c hc).2
      have hen6 : en < 60 := by omega
      have hi_en : cI (nI en) = en := nI_clamp (by omega)
      refine lv_iconst (v := (nI 1)) hx hy dX7_has_19 (by decide) ?_
      refine lv_goto (tgt := 24) hx hy dX7_has_20 (by decide) ?_
      refine lv_iconst (v := (nI 1)) hx hy dX7_has_24 (by decide) ?_
      refine n_go0 C h (n_V (As := [.int (b2i true), .int (nI 1)]) (rest := []) C h X (hr 100 (by decide)) ((cel_hi (by decide)).trans (celF_Mod _)) rfl (c_X7_no l hr M R o true (nI 1)) (cwV 2 C.2.2.2.2.1 gX7_has_X7_no rfl rfl rfl (by decide +kernel) ⟨Nat.le_of_ble_eq_true rfl, Nat.le_of_ble_eq_true rfl⟩) rfl hl.1 rfl (Nat.le_of_ble_eq_true rfl) dX7_has_25 ⟨by decide, by decide⟩) (fun _ _ z => z) (fun v_25 u_25 H locs hpo h => ?_)
      obtain ⟨rfl, rfl⟩ := hpo
      refine b_ne hx hy (tgt := 54) dX7_has_28 (by decide) (fun c_28 => ?_) (fun c_28 => ?_)
      · skip
        exact absurd c_28 (by decide)
      · skip
        rw [noV_t c_28] at h
        refine lv_aload_n hx hy dX7_has_31 rfl (lv_at hl 0 rfl) ?_
        refine g_f C h (hr 100 (by decide)) (cel_hi (by decide)) celF_Mod rfl in_X7_has_X7 14 (by decide) (by decide +kernel) (v := .ref (V.1 115)) rfl dX7_has_32 ?_
        refine lv_iload_n hx hy dX7_has_35 rfl (lv_at hl 1 rfl) ?_
        refine lv_bipush (v := (nI 60)) hx hy dX7_has_36 (by decide) ?_
        refine lv_imul hx hy dX7_has_38 ?_
        refine lv_topn (pk_mul _ _) ?_
        refine lv_iload_n hx hy dX7_has_39 rfl (lv_at hl 3 rfl) ?_
        refine lv_iadd hx hy dX7_has_40 ?_
        refine lv_topn (nI_add _ _) ?_
        refine g_i C h (hr 115 (by decide)) (n := 120) (k := ((c * 60) + en)) (cel_hi (by decide)) (fun _ => rfl) (by omega) (by decide) (v := (R 115 ((c * 60) + en))) (show (wr R rMod 19 (nI 0)) 115 ((c * 60) + en) = (R 115 ((c * 60) + en)) from (wr_othr (by decide))) dX7_has_41 ?_
        refine lv_iload_n hx hy dX7_has_42 rfl (lv_at hl 2 rfl) ?_
        refine lv_ishr hx hy dX7_has_43 ?_
        refine lv_iconst (v := (nI 1)) hx hy dX7_has_44 (by decide) ?_
        refine lv_iand hx hy dX7_has_45 ?_
        refine lv_iconst (v := (nI 1)) hx hy dX7_has_46 (by decide) ?_
        refine i_ne hx hy (tgt := 54) dX7_has_47 (by decide) (fun c_47 => ?_) (fun c_47 => ?_)
        · skip
          refine lv_iconst (v := (nI 0)) hx hy dX7_has_54 (by decide) ?_
          exact e_int C h (by decide) dX7_has_55 (⟨_, rfl, by simp [kHasR, b2i, bitI, hi_c, hi_t, c_7, hi_en, c_16, c_7, c_16, c_28, eq_false c_47, suR], by simp [kHasR, b2i, bitI, thr, suR, hi_c, hi_t, c_7, hi_en, c_16, c_7, c_16, c_28, eq_false c_47]⟩) (by decide) (by decide)
        · skip
          refine lv_iconst (v := (nI 1)) hx hy dX7_has_50 (by decide) ?_
          refine lv_goto (tgt := 55) hx hy dX7_has_51 (by decide) ?_
          exact e_int C h (by decide) dX7_has_55 (⟨_, rfl, by simp [kHasR, b2i, bitI, hi_c, hi_t, c_7, hi_en, c_16, c_7, c_16, c_28, eq_true c_47, suR], by simp [kHasR, b2i, bitI, thr, suR, hi_c, hi_t, c_7, hi_en, c_16, c_7, c_16, c_28, eq_true c_47]⟩) (by decide) (by decide)

set_option maxRecDepth 20000 in
theorem in_X7_gold_X7 : ∀ x ∈ wsX70, x ∈ wsX7_gold := by decide +kernel
set_option maxRecDepth 100000 in
set_option maxHeartbeats 4000000 in
/-- the reference: gold -/
theorem c_X7_gold (l : Launch) {G : va_G} {V : wV} {rs : List Nat} (hr : bR rs) (M R : wM) (o : wO) (rv : RV R) (ca : Int32) (isH : Bool) : CT l G V rs yX7_gold wsX7_gold 2 47 0 0 [.ref (V.1 rMod), .int ca, .int (b2i isH)] (M, R, o) (fun v u => ∃ r, v = some (.int r) ∧ (kCR ca = 0 → r = (if isH = true then suR R ca rMod 32 else suR R ca rMod 31)) ∧ u = (M, sumR R ca, o)) (fun _ _ => False) := by
  refine ct_of (cc := cX7_gold) (maxL := 3) (ret := (some .int)) (by decide) rfl (Nat.le_of_ble_eq_true rfl) ?_
  intro p e s m below meth cd ls C h X hT hl
  have hx := C.1
  have hy := C.2.1
  have hl : lv_has ls 3 [(0, .ref (V.1 rMod)), (1, .int ca), (2, .int (b2i isH))] := hl
  have hmn : ∀ c, c < 2 → R 101 c = nI (mnN R c) ∧ mnN R c ≤ 7 := fun c hc => ⟨(rv.1 c hc).1, (rv.1 c hc).2.1⟩
  have hwn : ∀ c, c < 2 → R 103 c = nI (wrN R c) ∧ wrN R c ≤ 60 := fun c hc => ⟨(rv.1 c hc).2.2.1, (rv.1 c hc).2.2.2.1⟩
  have hsi9 := rv.2.1.2
  have htr9 := rv.2.2.1.2
  refine lv_aload_n hx hy dX7_gold_0 rfl (lv_at hl 0 rfl) ?_
  refine lv_iload_n hx hy dX7_gold_1 rfl (lv_at hl 1 rfl) ?_
  refine n_go0 C h (n_S (As := [.int ca]) (rest := [.ref (V.1 rMod)]) C h X (c_X7_isCastle l M R o ca) (va_cwS 1 C.2.2.2.2.1 gX7_gold_X7_isCastle rfl rfl rfl (by decide +kernel) ⟨Nat.le_of_ble_eq_true rfl, Nat.le_of_ble_eq_true rfl⟩) rfl hl.1 rfl (Nat.le_of_ble_eq_true rfl) dX7_gold_2 ⟨by decide, by decide⟩) (fun _ _ z => z) (fun v_2 u_2 H locs hpo h => ?_)
  obtain ⟨rfl, rfl⟩ := hpo
  refine lv_iconst (v := (nI 1)) hx hy dX7_gold_5 (by decide) ?_
  refine n_go0 C h (n_V (As := [.int (b2i (vIn ca 2)), .int (nI 1)]) (rest := []) C h X (hr 100 (by decide)) ((cel_hi (by decide)).trans (celF_Mod _)) rfl (c_X7_no l hr M R o (vIn ca 2) (nI 1)) (cwV 2 C.2.2.2.2.1 gX7_gold_X7_no rfl rfl rfl (by decide +kernel) ⟨Nat.le_of_ble_eq_true rfl, Nat.le_of_ble_eq_true rfl⟩) rfl hl.1 rfl (Nat.le_of_ble_eq_true rfl) dX7_gold_6 ⟨by decide, by decide⟩) (fun _ _ z => z) (fun v_6 u_6 H locs hpo h => ?_)
  obtain ⟨rfl, rfl⟩ := hpo
  refine b_eq hx hy (tgt := 14) dX7_gold_9 (by decide) (fun c_9 => ?_) (fun c_9 => ?_)
  · skip
    rw [noV_t c_9] at h
    have hno_9 : vIn ca 2 = true := not_ff c_9
    obtain ⟨c, hc, rfl⟩ := vIn_ok' hno_9 (by decide)
    have hv_c : vIn (nI c) 2 = true := vIn_nI hc (by decide)
    have hi_c : cI (nI c) = c := nI_clamp (by omega)
    have hmn9 := (hmn c hc).2
    have hwn9 := (hwn c hc).2
    have hB := (rv.1 c hc).2.2.2.2.1
    have hEr := (rv.1 c hc).2.2.2.2.2.1
    have hU := (rv.1 c hc).2.2.2.2.2.2
    refine lv_aload_n hx hy dX7_gold_14 rfl (lv_at hl 0 rfl) ?_
    refine lv_iload_n hx hy dX7_gold_15 rfl (lv_at hl 1 rfl) ?_
    refine n_go0 C h (n_V (As := [.int (nI c)]) (rest := []) C h X (hr 100 (by decide)) ((cel_hi (by decide)).trans (celF_Mod _)) rfl (c_X7_sums l hr M (wr R rMod 19 (nI 0)) o c hc (wrN R c) hwn9 (show (wr R rMod 19 (nI 0)) 103 c = nI (wrN R c) from ((wr_othr (by decide)).trans (hwn c hc).1)) hB) (cwV 1 C.2.2.2.2.1 gX7_gold_X7_sums rfl rfl rfl (by decide +kernel) ⟨Nat.le_of_ble_eq_true rfl, Nat.le_of_ble_eq_true rfl⟩) rfl hl.1 rfl (Nat.le_of_ble_eq_true rfl) dX7_gold_16 ⟨by decide, by decide⟩) (fun _ _ z => z) (fun v_16 u_16 H locs hpo h => ?_)
    obtain ⟨rfl, rfl⟩ := hpo
    refine lv_iload_n hx hy dX7_gold_19 rfl (lv_at hl 2 rfl) ?_
    refine b_eq hx hy (tgt := 30) dX7_gold_20 (by decide) (fun c_20 => ?_) (fun c_20 => ?_)
    · skip
      refine lv_aload_n hx hy dX7_gold_30 rfl (lv_at hl 0 rfl) ?_
      refine g_f C h (hr 100 (by decide)) (cel_hi (by decide)) celF_Mod rfl in_X7_gold_X7 31 (by decide) (by decide +kernel) (v := .int ((suM (wr R rMod 19 (nI 0)) c (wrN R c)) rMod 31)) rfl dX7_gold_31 ?_
      exact e_int C h rfl dX7_gold_34 (⟨_, rfl, by simp [kCR, hno_9, hi_c, hv_c, c_9, c_20, suR], by simp [kCR, sumR, thr, suR, hno_9, hi_c, hv_c, c_9, c_20]⟩) (by decide) (by decide)
    · skip
      refine lv_aload_n hx hy dX7_gold_23 rfl (lv_at hl 0 rfl) ?_
      refine g_f C h (hr 100 (by decide)) (cel_hi (by decide)) celF_Mod rfl in_X7_gold_X7 32 (by decide) (by decide +kernel) (v := .int ((suM (wr R rMod 19 (nI 0)) c (wrN R c)) rMod 32)) rfl dX7_gold_24 ?_
      refine lv_goto (tgt := 34) hx hy dX7_gold_27 (by decide) ?_
      exact e_int C h rfl dX7_gold_34 (⟨_, rfl, by simp [kCR, hno_9, hi_c, hv_c, c_9, c_20, suR], by simp [kCR, sumR, thr, suR, hno_9, hi_c, hv_c, c_9, c_20]⟩) (by decide) (by decide)
  · skip
    rw [noV_f c_9] at h
    have hno_9 : vIn ca 2 = false := not_tt c_9
    refine lv_iconst (v := (nI 0)) hx hy dX7_gold_12 (by decide) ?_
    exact e_int C h rfl dX7_gold_13 (⟨_, rfl, by simp [kCR, hno_9, c_9, suR], by simp [kCR, sumR, thr, suR, hno_9, c_9]⟩) (by decide) (by decide)

set_option maxRecDepth 20000 in
theorem in_X7_purse_X7 : ∀ x ∈ wsX70, x ∈ wsX7_purse := by decide +kernel
set_option maxRecDepth 100000 in
set_option maxHeartbeats 4000000 in
/-- the reference: purse -/
theorem c_X7_purse (l : Launch) {G : va_G} {V : wV} {rs : List Nat} (hr : bR rs) (M R : wM) (o : wO) (rv : RV R) (lo0 ca : Int32) : CT l G V rs yX7_purse wsX7_purse 2 47 0 0 [.ref (V.1 rMod), .int lo0, .int ca] (M, R, o) (fun v u => ∃ r, v = some (.int r) ∧ (kCLR ca lo0 = 0 → r = suR R ca 135 (cI lo0)) ∧ u = (M, purseR R lo0 ca, o)) (fun _ _ => False) := by
  refine ct_of (cc := cX7_purse) (maxL := 3) (ret := (some .int)) (by decide) rfl (Nat.le_of_ble_eq_true rfl) ?_
  intro p e s m below meth cd ls C h X hT hl
  have hx := C.1
  have hy := C.2.1
  have hl : lv_has ls 3 [(0, .ref (V.1 rMod)), (1, .int lo0), (2, .int ca)] := hl
  have hmn : ∀ c, c < 2 → R 101 c = nI (mnN R c) ∧ mnN R c ≤ 7 := fun c hc => ⟨(rv.1 c hc).1, (rv.1 c hc).2.1⟩
  have hwn : ∀ c, c < 2 → R 103 c = nI (wrN R c) ∧ wrN R c ≤ 60 := fun c hc => ⟨(rv.1 c hc).2.2.1, (rv.1 c hc).2.2.2.1⟩
  have hsi9 := rv.2.1.2
  have htr9 := rv.2.2.1.2
  refine lv_aload_n hx hy dX7_purse_0 rfl (lv_at hl 0 rfl) ?_
  refine lv_iload_n hx hy dX7_purse_1 rfl (lv_at hl 2 rfl) ?_
  refine n_go0 C h (n_S (As := [.int ca]) (rest := [.ref (V.1 rMod)]) C h X (c_X7_isCastle l M R o ca) (va_cwS 1 C.2.2.2.2.1 gX7_purse_X7_isCastle rfl rfl rfl (by decide +kernel) ⟨Nat.le_of_ble_eq_true rfl, Nat.le_of_ble_eq_true rfl⟩) rfl hl.1 rfl (Nat.le_of_ble_eq_true rfl) dX7_purse_2 ⟨by decide, by decide⟩) (fun _ _ z => z) (fun v_2 u_2 H locs hpo h => ?_)
  obtain ⟨rfl, rfl⟩ := hpo
  refine b_eq hx hy (tgt := 19) dX7_purse_5 (by decide) (fun c_5 => ?_) (fun c_5 => ?_)
  · skip
    refine lv_iconst (v := (nI 0)) hx hy dX7_purse_19 (by decide) ?_
    refine lv_iconst (v := (nI 1)) hx hy dX7_purse_20 (by decide) ?_
    refine n_go0 C h (n_V (As := [.int (b2i false), .int (nI 1)]) (rest := []) C h X (hr 100 (by decide)) ((cel_hi (by decide)).trans (celF_Mod _)) rfl (c_X7_no l hr M R o false (nI 1)) (cwV 2 C.2.2.2.2.1 gX7_purse_X7_no rfl rfl rfl (by decide +kernel) ⟨Nat.le_of_ble_eq_true rfl, Nat.le_of_ble_eq_true rfl⟩) rfl hl.1 rfl (Nat.le_of_ble_eq_true rfl) dX7_purse_21 ⟨by decide, by decide⟩) (fun _ _ z => z) (fun v_21 u_21 H locs hpo h => ?_)
    obtain ⟨rfl, rfl⟩ := hpo
    refine b_eq hx hy (tgt := 29) dX7_purse_24 (by decide) (fun c_24 => ?_) (fun c_24 => ?_)
    · skip
      exact absurd c_24 (by decide)
    · skip
      rw [noV_f c_24] at h
      refine lv_iconst (v := (nI 0)) hx hy dX7_purse_27 (by decide) ?_
      exact e_int C h rfl dX7_purse_28 (⟨_, rfl, by simp [kCLR, c_5, c_24, suR], by simp [kCLR, purseR, thr, suR, c_5, c_24]⟩) (by decide) (by decide)
  · skip
    obtain ⟨c, hc, rfl⟩ := vIn_ok' c_5 (by decide)
    have hv_c : vIn (nI c) 2 = true := vIn_nI hc (by decide)
    have hi_c : cI (nI c) = c := nI_clamp (by omega)
    have hmn9 := (hmn c hc).2
    have hwn9 := (hwn c hc).2
    have hB := (rv.1 c hc).2.2.2.2.1
    have hEr := (rv.1 c hc).2.2.2.2.2.1
    have hU := (rv.1 c hc).2.2.2.2.2.2
    refine lv_iload_n hx hy dX7_purse_8 rfl (lv_at hl 1 rfl) ?_
    refine n_go0 C h (n_S (As := [.int lo0]) (rest := [.ref (V.1 rMod)]) C h X (c_X7_isLord l M R o lo0) (va_cwS 1 C.2.2.2.2.1 gX7_purse_X7_isLord rfl rfl rfl (by decide +kernel) ⟨Nat.le_of_ble_eq_true rfl, Nat.le_of_ble_eq_true rfl⟩) rfl hl.1 rfl (Nat.le_of_ble_eq_true rfl) dX7_purse_9 ⟨by decide, by decide⟩) (fun _ _ z => z) (fun v_9 u_9 H locs hpo h => ?_)
    obtain ⟨rfl, rfl⟩ := hpo
    refine b_eq hx hy (tgt := 19) dX7_purse_12 (by decide) (fun c_12 => ?_) (fun c_12 => ?_)
    · skip
      refine lv_iconst (v := (nI 0)) hx hy dX7_purse_19 (by decide) ?_
      refine lv_iconst (v := (nI 1)) hx hy dX7_purse_20 (by decide) ?_
      refine n_go0 C h (n_V (As := [.int (b2i false), .int (nI 1)]) (rest := []) C h X (hr 100 (by decide)) ((cel_hi (by decide)).trans (celF_Mod _)) rfl (c_X7_no l hr M R o false (nI 1)) (cwV 2 C.2.2.2.2.1 gX7_purse_X7_no rfl rfl rfl (by decide +kernel) ⟨Nat.le_of_ble_eq_true rfl, Nat.le_of_ble_eq_true rfl⟩) rfl hl.1 rfl (Nat.le_of_ble_eq_true rfl) dX7_purse_21 ⟨by decide, by decide⟩) (fun _ _ z => z) (fun v_21 u_21 H locs hpo h => ?_)
      obtain ⟨rfl, rfl⟩ := hpo
      refine b_eq hx hy (tgt := 29) dX7_purse_24 (by decide) (fun c_24 => ?_) (fun c_24 => ?_)
      · skip
        exact absurd c_24 (by decide)
      · skip
        rw [noV_f c_24] at h
        refine lv_iconst (v := (nI 0)) hx hy dX7_purse_27 (by decide) ?_
        exact e_int C h rfl dX7_purse_28 (⟨_, rfl, by simp [kCLR, hi_c, hv_c, c_5, c_12, c_24, suR], by simp [kCLR, purseR, thr, suR, hi_c, hv_c, c_5, c_12, c_24]⟩) (by decide) (by decide)
    · skip
      obtain ⟨lo, hlo, rfl⟩ := vIn_ok' c_12 (by decide)
      have hv_lo : vIn (nI lo) 4 = true := vIn_nI hlo (by decide)
      have hi_lo : cI (nI lo) = lo := nI_clamp (by omega)
      refine lv_iconst (v := (nI 1)) hx hy dX7_purse_15 (by decide) ?_
      refine lv_goto (tgt := 20) hx hy dX7_purse_16 (by decide) ?_
      refine lv_iconst (v := (nI 1)) hx hy dX7_purse_20 (by decide) ?_
      refine n_go0 C h (n_V (As := [.int (b2i true), .int (nI 1)]) (rest := []) C h X (hr 100 (by decide)) ((cel_hi (by decide)).trans (celF_Mod _)) rfl (c_X7_no l hr M R o true (nI 1)) (cwV 2 C.2.2.2.2.1 gX7_purse_X7_no rfl rfl rfl (by decide +kernel) ⟨Nat.le_of_ble_eq_true rfl, Nat.le_of_ble_eq_true rfl⟩) rfl hl.1 rfl (Nat.le_of_ble_eq_true rfl) dX7_purse_21 ⟨by decide, by decide⟩) (fun _ _ z => z) (fun v_21 u_21 H locs hpo h => ?_)
      obtain ⟨rfl, rfl⟩ := hpo
      refine b_eq hx hy (tgt := 29) dX7_purse_24 (by decide) (fun c_24 => ?_) (fun c_24 => ?_)
      · skip
        rw [noV_t c_24] at h
        refine lv_aload_n hx hy dX7_purse_29 rfl (lv_at hl 0 rfl) ?_
        refine lv_iload_n hx hy dX7_purse_30 rfl (lv_at hl 2 rfl) ?_
        refine n_go0 C h (n_V (As := [.int (nI c)]) (rest := []) C h X (hr 100 (by decide)) ((cel_hi (by decide)).trans (celF_Mod _)) rfl (c_X7_sums l hr M (wr R rMod 19 (nI 0)) o c hc (wrN R c) hwn9 (show (wr R rMod 19 (nI 0)) 103 c = nI (wrN R c) from ((wr_othr (by decide)).trans (hwn c hc).1)) hB) (cwV 1 C.2.2.2.2.1 gX7_purse_X7_sums rfl rfl rfl (by decide +kernel) ⟨Nat.le_of_ble_eq_true rfl, Nat.le_of_ble_eq_true rfl⟩) rfl hl.1 rfl (Nat.le_of_ble_eq_true rfl) dX7_purse_31 ⟨by decide, by decide⟩) (fun _ _ z => z) (fun v_31 u_31 H locs hpo h => ?_)
        obtain ⟨rfl, rfl⟩ := hpo
        refine lv_aload_n hx hy dX7_purse_34 rfl (lv_at hl 0 rfl) ?_
        refine g_f C h (hr 100 (by decide)) (cel_hi (by decide)) celF_Mod rfl in_X7_purse_X7 34 (by decide) (by decide +kernel) (v := .ref (V.1 135)) rfl dX7_purse_35 ?_
        refine lv_iload_n hx hy dX7_purse_38 rfl (lv_at hl 1 rfl) ?_
        refine g_i C h (hr 135 (by decide)) (n := 4) (k := lo) (cel_hi (by decide)) (fun _ => rfl) (by omega) (by decide) (v := ((suM (wr R rMod 19 (nI 0)) c (wrN R c)) 135 lo)) rfl dX7_purse_39 ?_
        exact e_int C h rfl dX7_purse_40 (⟨_, rfl, by simp [kCLR, hi_c, hv_c, hi_lo, hv_lo, c_5, c_12, c_24, suR], by simp [kCLR, purseR, thr, suR, hi_c, hv_c, hi_lo, hv_lo, c_5, c_12, c_24]⟩) (by decide) (by decide)
      · skip
        exact absurd c_24 (by decide)

