set_option maxRecDepth 20000 in
theorem in_X7_scout_X7 : ∀ x ∈ wsX70, x ∈ wsX7_scout := by decide +kernel
set_option maxRecDepth 100000 in
set_option maxHeartbeats 4000000 in
/-- the reference: scout -/
theorem c_X7_scout (l : Launch) {G : va_G} {V : wV} {rs : List Nat} (hr : bR rs) (M R : wM) (o : wO) (rv : RV R) (lo0 ca : Int32) : CT l G V rs yX7_scout wsX7_scout 2 47 0 0 [.ref (V.1 rMod), .int lo0, .int ca] (M, R, o) (fun v u => ∃ r, v = some (.int r) ∧ (kScoR R lo0 ca = 0 → r = nI (siN R)) ∧ u = (M, scoRR R lo0 ca, o)) (fun _ _ => False) := by
  refine ct_of (cc := cX7_scout) (maxL := 3) (ret := (some .int)) (by decide) rfl (Nat.le_of_ble_eq_true rfl) ?_
  intro p e s m below meth cd ls C h X hT hl
  have hx := C.1
  have hy := C.2.1
  have hl : lv_has ls 3 [(0, .ref (V.1 rMod)), (1, .int lo0), (2, .int ca)] := hl
  have hmn : ∀ c, c < 2 → R 101 c = nI (mnN R c) ∧ mnN R c ≤ 7 := fun c hc => ⟨(rv.1 c hc).1, (rv.1 c hc).2.1⟩
  have hwn : ∀ c, c < 2 → R 103 c = nI (wrN R c) ∧ wrN R c ≤ 60 := fun c hc => ⟨(rv.1 c hc).2.2.1, (rv.1 c hc).2.2.2.1⟩
  have hsi9 := rv.2.1.2
  have htr9 := rv.2.2.1.2
  refine lv_aload_n hx hy dX7_scout_0 rfl (lv_at hl 0 rfl) ?_
  refine lv_iload_n hx hy dX7_scout_1 rfl (lv_at hl 2 rfl) ?_
  refine n_go0 C h (n_S (As := [.int ca]) (rest := [.ref (V.1 rMod)]) C h X (c_X7_isCastle l M R o ca) (va_cwS 1 C.2.2.2.2.1 gX7_scout_X7_isCastle rfl rfl rfl (by decide +kernel) ⟨Nat.le_of_ble_eq_true rfl, Nat.le_of_ble_eq_true rfl⟩) rfl hl.1 rfl (Nat.le_of_ble_eq_true rfl) dX7_scout_2 ⟨by decide, by decide⟩) (fun _ _ z => z) (fun v_2 u_2 H locs hpo h => ?_)
  obtain ⟨rfl, rfl⟩ := hpo
  refine b_eq hx hy (tgt := 19) dX7_scout_5 (by decide) (fun c_5 => ?_) (fun c_5 => ?_)
  · skip
    refine lv_iconst (v := (nI 0)) hx hy dX7_scout_19 (by decide) ?_
    refine lv_iconst (v := (nI 1)) hx hy dX7_scout_20 (by decide) ?_
    refine n_go0 C h (n_V (As := [.int (b2i false), .int (nI 1)]) (rest := []) C h X (hr 100 (by decide)) ((cel_hi (by decide)).trans (celF_Mod _)) rfl (c_X7_no l hr M R o false (nI 1)) (cwV 2 C.2.2.2.2.1 gX7_scout_X7_no rfl rfl rfl (by decide +kernel) ⟨Nat.le_of_ble_eq_true rfl, Nat.le_of_ble_eq_true rfl⟩) rfl hl.1 rfl (Nat.le_of_ble_eq_true rfl) dX7_scout_21 ⟨by decide, by decide⟩) (fun _ _ z => z) (fun v_21 u_21 H locs hpo h => ?_)
    obtain ⟨rfl, rfl⟩ := hpo
    refine b_ne hx hy (tgt := 68) dX7_scout_24 (by decide) (fun c_24 => ?_) (fun c_24 => ?_)
    · skip
      rw [noV_f c_24] at h
      refine lv_iconst (v := (nI 0)) hx hy dX7_scout_68 (by decide) ?_
      exact e_int C h rfl dX7_scout_69 (⟨_, rfl, by simp [kScoR, c_5, c_24], by simp [scoRR, kScoR, thr, c_5, c_24]⟩) (by decide) (by decide)
    · skip
      exact absurd c_24 (by decide)
  · skip
    obtain ⟨c, hc, rfl⟩ := vIn_ok' c_5 (by decide)
    have hv_c : vIn (nI c) 2 = true := vIn_nI hc (by decide)
    have hi_c : cI (nI c) = c := nI_clamp (by omega)
    have hmn9 := (hmn c hc).2
    have hwn9 := (hwn c hc).2
    have hB := (rv.1 c hc).2.2.2.2.1
    have hEr := (rv.1 c hc).2.2.2.2.2.1
    have hU := (rv.1 c hc).2.2.2.2.2.2
    refine lv_iload_n hx hy dX7_scout_8 rfl (lv_at hl 1 rfl) ?_
    refine n_go0 C h (n_S (As := [.int lo0]) (rest := [.ref (V.1 rMod)]) C h X (c_X7_isLord l M R o lo0) (va_cwS 1 C.2.2.2.2.1 gX7_scout_X7_isLord rfl rfl rfl (by decide +kernel) ⟨Nat.le_of_ble_eq_true rfl, Nat.le_of_ble_eq_true rfl⟩) rfl hl.1 rfl (Nat.le_of_ble_eq_true rfl) dX7_scout_9 ⟨by decide, by decide⟩) (fun _ _ z => z) (fun v_9 u_9 H locs hpo h => ?_)
    obtain ⟨rfl, rfl⟩ := hpo
    refine b_eq hx hy (tgt := 19) dX7_scout_12 (by decide) (fun c_12 => ?_) (fun c_12 => ?_)
    · skip
      refine lv_iconst (v := (nI 0)) hx hy dX7_scout_19 (by decide) ?_
      refine lv_iconst (v := (nI 1)) hx hy dX7_scout_20 (by decide) ?_
      refine n_go0 C h (n_V (As := [.int (b2i false), .int (nI 1)]) (rest := []) C h X (hr 100 (by decide)) ((cel_hi (by decide)).trans (celF_Mod _)) rfl (c_X7_no l hr M R o false (nI 1)) (cwV 2 C.2.2.2.2.1 gX7_scout_X7_no rfl rfl rfl (by decide +kernel) ⟨Nat.le_of_ble_eq_true rfl, Nat.le_of_ble_eq_true rfl⟩) rfl hl.1 rfl (Nat.le_of_ble_eq_true rfl) dX7_scout_21 ⟨by decide, by decide⟩) (fun _ _ z => z) (fun v_21 u_21 H locs hpo h => ?_)
      obtain ⟨rfl, rfl⟩ := hpo
      refine b_ne hx hy (tgt := 68) dX7_scout_24 (by decide) (fun c_24 => ?_) (fun c_24 => ?_)
      · skip
        rw [noV_f c_24] at h
        refine lv_iconst (v := (nI 0)) hx hy dX7_scout_68 (by decide) ?_
        exact e_int C h rfl dX7_scout_69 (⟨_, rfl, by simp [kScoR, hi_c, hv_c, c_5, c_12, c_24], by simp [scoRR, kScoR, thr, hi_c, hv_c, c_5, c_12, c_24]⟩) (by decide) (by decide)
      · skip
        exact absurd c_24 (by decide)
    · skip
      obtain ⟨lo, hlo, rfl⟩ := vIn_ok' c_12 (by decide)
      have hv_lo : vIn (nI lo) 4 = true := vIn_nI hlo (by decide)
      have hi_lo : cI (nI lo) = lo := nI_clamp (by omega)
      refine lv_iconst (v := (nI 1)) hx hy dX7_scout_15 (by decide) ?_
      refine lv_goto (tgt := 20) hx hy dX7_scout_16 (by decide) ?_
      refine lv_iconst (v := (nI 1)) hx hy dX7_scout_20 (by decide) ?_
      refine n_go0 C h (n_V (As := [.int (b2i true), .int (nI 1)]) (rest := []) C h X (hr 100 (by decide)) ((cel_hi (by decide)).trans (celF_Mod _)) rfl (c_X7_no l hr M R o true (nI 1)) (cwV 2 C.2.2.2.2.1 gX7_scout_X7_no rfl rfl rfl (by decide +kernel) ⟨Nat.le_of_ble_eq_true rfl, Nat.le_of_ble_eq_true rfl⟩) rfl hl.1 rfl (Nat.le_of_ble_eq_true rfl) dX7_scout_21 ⟨by decide, by decide⟩) (fun _ _ z => z) (fun v_21 u_21 H locs hpo h => ?_)
      obtain ⟨rfl, rfl⟩ := hpo
      refine b_ne hx hy (tgt := 68) dX7_scout_24 (by decide) (fun c_24 => ?_) (fun c_24 => ?_)
      · skip
        exact absurd c_24 (by decide)
      · skip
        rw [noV_t c_24] at h
        refine lv_aload_n hx hy dX7_scout_27 rfl (lv_at hl 0 rfl) ?_
        refine lv_aload_n hx hy dX7_scout_28 rfl (lv_at hl 0 rfl) ?_
        refine lv_iload_n hx hy dX7_scout_29 rfl (lv_at hl 2 rfl) ?_
        refine lv_aload_n hx hy dX7_scout_30 rfl (lv_at hl 0 rfl) ?_
        refine lv_iload_n hx hy dX7_scout_31 rfl (lv_at hl 2 rfl) ?_
        refine lv_iload_n hx hy dX7_scout_32 rfl (lv_at hl 1 rfl) ?_
        refine n_go0 C h (n_V (As := [.int (nI c), .int (nI lo)]) (rest := [.int (nI c), .ref (V.1 rMod), .ref (V.1 rMod)]) C h X (hr 100 (by decide)) ((cel_hi (by decide)).trans (celF_Mod _)) rfl (c_X7_reach l hr M (wr R rMod 19 (nI 0)) o c hc (mnN R c) hmn9 (show (wr R rMod 19 (nI 0)) 101 c = nI (mnN R c) from ((wr_othr (by decide)).trans (hmn c hc).1)) lo hlo) (cwV 2 C.2.2.2.2.1 gX7_scout_X7_reach rfl rfl rfl (by decide +kernel) ⟨Nat.le_of_ble_eq_true rfl, Nat.le_of_ble_eq_true rfl⟩) rfl hl.1 rfl (Nat.le_of_ble_eq_true rfl) dX7_scout_33 ⟨by decide, by decide⟩) (fun _ _ z => z) (fun v_33 u_33 H locs hpo h => ?_)
        obtain ⟨rfl, rfl⟩ := hpo
        refine n_go0 C h (n_V (As := [.int (nI c), .int (rcN (wr R rMod 19 (nI 0)) c lo (mnN R c))]) (rest := [.ref (V.1 rMod)]) C h X (hr 100 (by decide)) ((cel_hi (by decide)).trans (celF_Mod _)) rfl (c_X7_quorum l hr M (wr R rMod 19 (nI 0)) o c hc (rcN (wr R rMod 19 (nI 0)) c lo (mnN R c))) (cwV 2 C.2.2.2.2.1 gX7_scout_X7_quorum rfl rfl rfl (by decide +kernel) ⟨Nat.le_of_ble_eq_true rfl, Nat.le_of_ble_eq_true rfl⟩) rfl hl.1 rfl (Nat.le_of_ble_eq_true rfl) dX7_scout_36 ⟨by decide, by decide⟩) (fun _ _ z => z) (fun v_36 u_36 H locs hpo h => ?_)
        obtain ⟨rfl, rfl⟩ := hpo
        refine lv_iconst (v := (nI 2)) hx hy dX7_scout_39 (by decide) ?_
        refine n_go0 C h (n_V (As := [.int (b2i (mQ (wr R rMod 19 (nI 0)) c (rcN (wr R rMod 19 (nI 0)) c lo (mnN R c)))), .int (nI 2)]) (rest := []) C h X (hr 100 (by decide)) ((cel_hi (by decide)).trans (celF_Mod _)) rfl (c_X7_no l hr M (wr R rMod 19 (nI 0)) o (mQ (wr R rMod 19 (nI 0)) c (rcN (wr R rMod 19 (nI 0)) c lo (mnN R c))) (nI 2)) (cwV 2 C.2.2.2.2.1 gX7_scout_X7_no rfl rfl rfl (by decide +kernel) ⟨Nat.le_of_ble_eq_true rfl, Nat.le_of_ble_eq_true rfl⟩) rfl hl.1 rfl (Nat.le_of_ble_eq_true rfl) dX7_scout_40 ⟨by decide, by decide⟩) (fun _ _ z => z) (fun v_40 u_40 H locs hpo h => ?_)
        obtain ⟨rfl, rfl⟩ := hpo
        refine b_ne hx hy (tgt := 68) dX7_scout_43 (by decide) (fun c_43 => ?_) (fun c_43 => ?_)
        · skip
          rw [noV_f c_43] at h
          rw [wr_wr] at h
          have hno_43 : mQ (wr R rMod 19 (nI 0)) c (rcN (wr R rMod 19 (nI 0)) c lo (mnN R c)) = false := not_tt c_43
          refine lv_iconst (v := (nI 0)) hx hy dX7_scout_68 (by decide) ?_
          exact e_int C h rfl dX7_scout_69 (⟨_, rfl, by simp [kScoR, hi_c, hv_c, hi_lo, hv_lo, hno_43, c_5, c_12, c_24, c_43], by simp [scoRR, kScoR, thr, hi_c, hv_c, hi_lo, hv_lo, hno_43, c_5, c_12, c_24, c_43]⟩) (by decide) (by decide)
        · skip
          rw [noV_t c_43] at h
          rw [wr_wr] at h
          have hno_43 : mQ (wr R rMod 19 (nI 0)) c (rcN (wr R rMod 19 (nI 0)) c lo (mnN R c)) = true := not_ff c_43
          refine lv_aload_n hx hy dX7_scout_46 rfl (lv_at hl 0 rfl) ?_
          refine lv_aload_n hx hy dX7_scout_47 rfl (lv_at hl 0 rfl) ?_
          refine g_f C h (hr 100 (by decide)) (cel_hi (by decide)) celF_Mod rfl in_X7_scout_X7 16 (by decide) (by decide +kernel) (v := .int (nI (siN R))) (congrArg (fun z => some (Value.int z)) (show (wr R rMod 19 (nI 0)) rMod 16 = (nI (siN R)) from ((wr_othj (by decide)).trans rv.2.1.1))) dX7_scout_48 ?_
          refine lv_bipush (v := (nI 20)) hx hy dX7_scout_51 (by decide) ?_
          refine n_ge hx hy (by omega) (by decide) (tgt := 60) dX7_scout_53 (by decide) (fun c_53 => ?_) (fun c_53 => ?_)
          · skip
            refine lv_iconst (v := (nI 0)) hx hy dX7_scout_60 (by decide) ?_
            refine lv_iconst (v := (nI 3)) hx hy dX7_scout_61 (by decide) ?_
            refine n_go0 C h (n_V (As := [.int (b2i false), .int (nI 3)]) (rest := []) C h X (hr 100 (by decide)) ((cel_hi (by decide)).trans (celF_Mod _)) rfl (c_X7_no l hr M (wr R rMod 19 (nI 0)) o false (nI 3)) (cwV 2 C.2.2.2.2.1 gX7_scout_X7_no rfl rfl rfl (by decide +kernel) ⟨Nat.le_of_ble_eq_true rfl, Nat.le_of_ble_eq_true rfl⟩) rfl hl.1 rfl (Nat.le_of_ble_eq_true rfl) dX7_scout_62 ⟨by decide, by decide⟩) (fun _ _ z => z) (fun v_62 u_62 H locs hpo h => ?_)
            obtain ⟨rfl, rfl⟩ := hpo
            refine b_eq hx hy (tgt := 70) dX7_scout_65 (by decide) (fun c_65 => ?_) (fun c_65 => ?_)
            · skip
              exact absurd c_65 (by decide)
            · skip
              rw [noV_f c_65] at h
              rw [wr_wr] at h
              refine lv_iconst (v := (nI 0)) hx hy dX7_scout_68 (by decide) ?_
              exact e_int C h rfl dX7_scout_69 (⟨_, rfl, by simp [kScoR, hi_c, hv_c, hi_lo, hv_lo, hno_43, c_5, c_12, c_24, c_43, eq_true c_53, eq_false (Nat.not_lt.mpr c_53), c_65], by simp [scoRR, kScoR, thr, hi_c, hv_c, hi_lo, hv_lo, hno_43, c_5, c_12, c_24, c_43, eq_true c_53, eq_false (Nat.not_lt.mpr c_53), c_65]⟩) (by decide) (by decide)
          · skip
            refine lv_iconst (v := (nI 1)) hx hy dX7_scout_56 (by decide) ?_
            refine lv_goto (tgt := 61) hx hy dX7_scout_57 (by decide) ?_
            refine lv_iconst (v := (nI 3)) hx hy dX7_scout_61 (by decide) ?_
            refine n_go0 C h (n_V (As := [.int (b2i true), .int (nI 3)]) (rest := []) C h X (hr 100 (by decide)) ((cel_hi (by decide)).trans (celF_Mod _)) rfl (c_X7_no l hr M (wr R rMod 19 (nI 0)) o true (nI 3)) (cwV 2 C.2.2.2.2.1 gX7_scout_X7_no rfl rfl rfl (by decide +kernel) ⟨Nat.le_of_ble_eq_true rfl, Nat.le_of_ble_eq_true rfl⟩) rfl hl.1 rfl (Nat.le_of_ble_eq_true rfl) dX7_scout_62 ⟨by decide, by decide⟩) (fun _ _ z => z) (fun v_62 u_62 H locs hpo h => ?_)
            obtain ⟨rfl, rfl⟩ := hpo
            refine b_eq hx hy (tgt := 70) dX7_scout_65 (by decide) (fun c_65 => ?_) (fun c_65 => ?_)
            · skip
              rw [noV_t c_65] at h
              rw [wr_wr] at h
              refine lv_aload_n hx hy dX7_scout_70 rfl (lv_at hl 0 rfl) ?_
              refine lv_iload_n hx hy dX7_scout_71 rfl (lv_at hl 2 rfl) ?_
              refine n_go0 C h (n_V (As := [.int (nI c)]) (rest := []) C h X (hr 100 (by decide)) ((cel_hi (by decide)).trans (celF_Mod _)) rfl (c_X7_sums l hr M (wr R rMod 19 (nI 0)) o c hc (wrN R c) hwn9 (show (wr R rMod 19 (nI 0)) 103 c = nI (wrN R c) from ((wr_othr (by decide)).trans (hwn c hc).1)) hB) (cwV 1 C.2.2.2.2.1 gX7_scout_X7_sums rfl rfl rfl (by decide +kernel) ⟨Nat.le_of_ble_eq_true rfl, Nat.le_of_ble_eq_true rfl⟩) rfl hl.1 rfl (Nat.le_of_ble_eq_true rfl) dX7_scout_72 ⟨by decide, by decide⟩) (fun _ _ z => z) (fun v_72 u_72 H locs hpo h => ?_)
              obtain ⟨rfl, rfl⟩ := hpo
              refine lv_aload_n hx hy dX7_scout_75 rfl (lv_at hl 0 rfl) ?_
              refine g_f C h (hr 100 (by decide)) (cel_hi (by decide)) celF_Mod rfl in_X7_scout_X7 20 (by decide) (by decide +kernel) (v := .ref (V.1 121)) rfl dX7_scout_76 ?_
              refine lv_aload_n hx hy dX7_scout_79 rfl (lv_at hl 0 rfl) ?_
              refine g_f C h (hr 100 (by decide)) (cel_hi (by decide)) celF_Mod rfl in_X7_scout_X7 16 (by decide) (by decide +kernel) (v := .int (nI (siN R))) (congrArg (fun z => some (Value.int z)) (show (suM (wr R rMod 19 (nI 0)) c (wrN R c)) rMod 16 = (nI (siN R)) from ((suM_oth (by decide) (by decide) (by decide)).trans ((wr_othj (by decide)).trans rv.2.1.1)))) dX7_scout_80 ?_
              refine lv_iload_n hx hy dX7_scout_83 rfl (lv_at hl 1 rfl) ?_
              refine s_iR C h (hr 121 (by decide)) (by decide) (n := 20) (k := (siN R)) (fun _ => rfl) (by omega) (by decide) (x := (nI lo)) dX7_scout_84 (fun H locs h => ?_)
              refine lv_aload_n hx hy dX7_scout_85 rfl (lv_at hl 0 rfl) ?_
              refine g_f C h (hr 100 (by decide)) (cel_hi (by decide)) celF_Mod rfl in_X7_scout_X7 21 (by decide) (by decide +kernel) (v := .ref (V.1 122)) rfl dX7_scout_86 ?_
              refine lv_aload_n hx hy dX7_scout_89 rfl (lv_at hl 0 rfl) ?_
              refine g_f C h (hr 100 (by decide)) (cel_hi (by decide)) celF_Mod rfl in_X7_scout_X7 16 (by decide) (by decide +kernel) (v := .int (nI (siN R))) (congrArg (fun z => some (Value.int z)) (show (wr (suM (wr R rMod 19 (nI 0)) c (wrN R c)) 121 (siN R) (nI lo)) rMod 16 = (nI (siN R)) from ((wr_othr (by decide)).trans ((suM_oth (by decide) (by decide) (by decide)).trans ((wr_othj (by decide)).trans rv.2.1.1))))) dX7_scout_90 ?_
              refine lv_iload_n hx hy dX7_scout_93 rfl (lv_at hl 2 rfl) ?_
              refine s_iR C h (hr 122 (by decide)) (by decide) (n := 20) (k := (siN R)) (fun _ => rfl) (by omega) (by decide) (x := (nI c)) dX7_scout_94 (fun H locs h => ?_)
              refine lv_aload_n hx hy dX7_scout_95 rfl (lv_at hl 0 rfl) ?_
              refine g_f C h (hr 100 (by decide)) (cel_hi (by decide)) celF_Mod rfl in_X7_scout_X7 22 (by decide) (by decide +kernel) (v := .ref (V.1 123)) rfl dX7_scout_96 ?_
              refine lv_aload_n hx hy dX7_scout_99 rfl (lv_at hl 0 rfl) ?_
              refine g_f C h (hr 100 (by decide)) (cel_hi (by decide)) celF_Mod rfl in_X7_scout_X7 16 (by decide) (by decide +kernel) (v := .int (nI (siN R))) (congrArg (fun z => some (Value.int z)) (show (wr (wr (suM (wr R rMod 19 (nI 0)) c (wrN R c)) 121 (siN R) (nI lo)) 122 (siN R) (nI c)) rMod 16 = (nI (siN R)) from ((wr_othr (by decide)).trans ((wr_othr (by decide)).trans ((suM_oth (by decide) (by decide) (by decide)).trans ((wr_othj (by decide)).trans rv.2.1.1)))))) dX7_scout_100 ?_
              refine lv_aload_n hx hy dX7_scout_103 rfl (lv_at hl 0 rfl) ?_
              refine g_f C h (hr 100 (by decide)) (cel_hi (by decide)) celF_Mod rfl in_X7_scout_X7 18 (by decide) (by decide +kernel) (v := .int (R rMod 18)) (congrArg (fun z => some (Value.int z)) (show (wr (wr (suM (wr R rMod 19 (nI 0)) c (wrN R c)) 121 (siN R) (nI lo)) 122 (siN R) (nI c)) rMod 18 = (R rMod 18) from ((wr_othr (by decide)).trans ((wr_othr (by decide)).trans ((suM_oth (by decide) (by decide) (by decide)).trans (wr_othj (by decide))))))) dX7_scout_104 ?_
              refine s_iR C h (hr 123 (by decide)) (by decide) (n := 20) (k := (siN R)) (fun _ => rfl) (by omega) (by decide) (x := (R rMod 18)) dX7_scout_107 (fun H locs h => ?_)
              refine lv_aload_n hx hy dX7_scout_108 rfl (lv_at hl 0 rfl) ?_
              refine g_f C h (hr 100 (by decide)) (cel_hi (by decide)) celF_Mod rfl in_X7_scout_X7 23 (by decide) (by decide +kernel) (v := .ref (V.1 124)) rfl dX7_scout_109 ?_
              refine lv_aload_n hx hy dX7_scout_112 rfl (lv_at hl 0 rfl) ?_
              refine g_f C h (hr 100 (by decide)) (cel_hi (by decide)) celF_Mod rfl in_X7_scout_X7 16 (by decide) (by decide +kernel) (v := .int (nI (siN R))) (congrArg (fun z => some (Value.int z)) (show (wr (wr (wr (suM (wr R rMod 19 (nI 0)) c (wrN R c)) 121 (siN R) (nI lo)) 122 (siN R) (nI c)) 123 (siN R) (R rMod 18)) rMod 16 = (nI (siN R)) from ((wr_othr (by decide)).trans ((wr_othr (by decide)).trans ((wr_othr (by decide)).trans ((suM_oth (by decide) (by decide) (by decide)).trans ((wr_othj (by decide)).trans rv.2.1.1))))))) dX7_scout_113 ?_
              refine lv_aload_n hx hy dX7_scout_116 rfl (lv_at hl 0 rfl) ?_
              refine g_f C h (hr 100 (by decide)) (cel_hi (by decide)) celF_Mod rfl in_X7_scout_X7 33 (by decide) (by decide +kernel) (v := .int (nI (suC (wr R rMod 19 (nI 0)) c (wrN R c)))) (congrArg (fun z => some (Value.int z)) (show (wr (wr (wr (suM (wr R rMod 19 (nI 0)) c (wrN R c)) 121 (siN R) (nI lo)) 122 (siN R) (nI c)) 123 (siN R) (R rMod 18)) rMod 33 = (nI (suC (wr R rMod 19 (nI 0)) c (wrN R c))) from ((wr_othr (by decide)).trans ((wr_othr (by decide)).trans ((wr_othr (by decide)).trans suM_cnt))))) dX7_scout_117 ?_
              refine s_iR C h (hr 124 (by decide)) (by decide) (n := 20) (k := (siN R)) (fun _ => rfl) (by omega) (by decide) (x := (nI (suC (wr R rMod 19 (nI 0)) c (wrN R c)))) dX7_scout_120 (fun H locs h => ?_)
              refine lv_aload_n hx hy dX7_scout_121 rfl (lv_at hl 0 rfl) ?_
              refine g_f C h (hr 100 (by decide)) (cel_hi (by decide)) celF_Mod rfl in_X7_scout_X7 24 (by decide) (by decide +kernel) (v := .ref (V.1 125)) rfl dX7_scout_122 ?_
              refine lv_aload_n hx hy dX7_scout_125 rfl (lv_at hl 0 rfl) ?_
              refine g_f C h (hr 100 (by decide)) (cel_hi (by decide)) celF_Mod rfl in_X7_scout_X7 16 (by decide) (by decide +kernel) (v := .int (nI (siN R))) (congrArg (fun z => some (Value.int z)) (show (wr (wr (wr (wr (suM (wr R rMod 19 (nI 0)) c (wrN R c)) 121 (siN R) (nI lo)) 122 (siN R) (nI c)) 123 (siN R) (R rMod 18)) 124 (siN R) (nI (suC (wr R rMod 19 (nI 0)) c (wrN R c)))) rMod 16 = (nI (siN R)) from ((wr_othr (by decide)).trans ((wr_othr (by decide)).trans ((wr_othr (by decide)).trans ((wr_othr (by decide)).trans ((suM_oth (by decide) (by decide) (by decide)).trans ((wr_othj (by decide)).trans rv.2.1.1)))))))) dX7_scout_126 ?_
              refine lv_aload_n hx hy dX7_scout_129 rfl (lv_at hl 0 rfl) ?_
              refine g_f C h (hr 100 (by decide)) (cel_hi (by decide)) celF_Mod rfl in_X7_scout_X7 31 (by decide) (by decide +kernel) (v := .int ((suM (wr R rMod 19 (nI 0)) c (wrN R c)) rMod 31)) (congrArg (fun z => some (Value.int z)) (show (wr (wr (wr (wr (suM (wr R rMod 19 (nI 0)) c (wrN R c)) 121 (siN R) (nI lo)) 122 (siN R) (nI c)) 123 (siN R) (R rMod 18)) 124 (siN R) (nI (suC (wr R rMod 19 (nI 0)) c (wrN R c)))) rMod 31 = ((suM (wr R rMod 19 (nI 0)) c (wrN R c)) rMod 31) from ((wr_othr (by decide)).trans ((wr_othr (by decide)).trans ((wr_othr (by decide)).trans (wr_othr (by decide))))))) dX7_scout_130 ?_
              refine lv_aload_n hx hy dX7_scout_133 rfl (lv_at hl 0 rfl) ?_
              refine g_f C h (hr 100 (by decide)) (cel_hi (by decide)) celF_Mod rfl in_X7_scout_X7 32 (by decide) (by decide +kernel) (v := .int ((suM (wr R rMod 19 (nI 0)) c (wrN R c)) rMod 32)) (congrArg (fun z => some (Value.int z)) (show (wr (wr (wr (wr (suM (wr R rMod 19 (nI 0)) c (wrN R c)) 121 (siN R) (nI lo)) 122 (siN R) (nI c)) 123 (siN R) (R rMod 18)) 124 (siN R) (nI (suC (wr R rMod 19 (nI 0)) c (wrN R c)))) rMod 32 = ((suM (wr R rMod 19 (nI 0)) c (wrN R c)) rMod 32) from ((wr_othr (by decide)).trans ((wr_othr (by decide)).trans ((wr_othr (by decide)).trans (wr_othr (by decide))))))) dX7_scout_134 ?_
              refine lv_isub hx hy dX7_scout_137 ?_
              refine s_iR C h (hr 125 (by decide)) (by decide) (n := 20) (k := (siN R)) (fun _ => rfl) (by omega) (by decide) (x := (((suM (wr R rMod 19 (nI 0)) c (wrN R c)) rMod 31) - ((suM (wr R rMod 19 (nI 0)) c (wrN R c)) rMod 32))) dX7_scout_138 (fun H locs h => ?_)
              refine lv_aload_n hx hy dX7_scout_139 rfl (lv_at hl 0 rfl) ?_
              refine g_f C h (hr 100 (by decide)) (cel_hi (by decide)) celF_Mod rfl in_X7_scout_X7 25 (by decide) (by decide +kernel) (v := .ref (V.1 126)) rfl dX7_scout_140 ?_
              refine lv_aload_n hx hy dX7_scout_143 rfl (lv_at hl 0 rfl) ?_
              refine g_f C h (hr 100 (by decide)) (cel_hi (by decide)) celF_Mod rfl in_X7_scout_X7 16 (by decide) (by decide +kernel) (v := .int (nI (siN R))) (congrArg (fun z => some (Value.int z)) (show (wr (wr (wr (wr (wr (suM (wr R rMod 19 (nI 0)) c (wrN R c)) 121 (siN R) (nI lo)) 122 (siN R) (nI c)) 123 (siN R) (R rMod 18)) 124 (siN R) (nI (suC (wr R rMod 19 (nI 0)) c (wrN R c)))) 125 (siN R) (((suM (wr R rMod 19 (nI 0)) c (wrN R c)) rMod 31) - ((suM (wr R rMod 19 (nI 0)) c (wrN R c)) rMod 32))) rMod 16 = (nI (siN R)) from ((wr_othr (by decide)).trans ((wr_othr (by decide)).trans ((wr_othr (by decide)).trans ((wr_othr (by decide)).trans ((wr_othr (by decide)).trans ((suM_oth (by decide) (by decide) (by decide)).trans ((wr_othj (by decide)).trans rv.2.1.1))))))))) dX7_scout_144 ?_
              refine lv_iconst (v := (nI 0)) hx hy dX7_scout_147 (by decide) ?_
              refine s_zR C h (hr 126 (by decide)) (by decide) (n := 20) (k := (siN R)) (fun _ => rfl) (by omega) (by decide) (x := (nI 0)) (by decide) dX7_scout_148 (fun H locs h => ?_)
              refine lv_aload_n hx hy dX7_scout_149 rfl (lv_at hl 0 rfl) ?_
              refine lv_dup hx hy dX7_scout_150 rfl ?_
              refine g_f C h (hr 100 (by decide)) (cel_hi (by decide)) celF_Mod rfl in_X7_scout_X7 16 (by decide) (by decide +kernel) (v := .int (nI (siN R))) (congrArg (fun z => some (Value.int z)) (show (wr (wr (wr (wr (wr (wr (suM (wr R rMod 19 (nI 0)) c (wrN R c)) 121 (siN R) (nI lo)) 122 (siN R) (nI c)) 123 (siN R) (R rMod 18)) 124 (siN R) (nI (suC (wr R rMod 19 (nI 0)) c (wrN R c)))) 125 (siN R) (((suM (wr R rMod 19 (nI 0)) c (wrN R c)) rMod 31) - ((suM (wr R rMod 19 (nI 0)) c (wrN R c)) rMod 32))) 126 (siN R) (nI 0)) rMod 16 = (nI (siN R)) from ((wr_othr (by decide)).trans ((wr_othr (by decide)).trans ((wr_othr (by decide)).trans ((wr_othr (by decide)).trans ((wr_othr (by decide)).trans ((wr_othr (by decide)).trans ((suM_oth (by decide) (by decide) (by decide)).trans ((wr_othj (by decide)).trans rv.2.1.1)))))))))) dX7_scout_151 ?_
              refine lv_iconst (v := (nI 1)) hx hy dX7_scout_154 (by decide) ?_
              refine lv_iadd hx hy dX7_scout_155 ?_
              refine lv_topn (nI_add _ _) ?_
              refine p_fR C h (hr 100 (by decide)) (by decide) celF_Mod rfl in_X7_scout_X7 tyX7_ok nmX7 16 (by decide) (by decide +kernel) rfl (v := .int (nI ((siN R) + 1))) (x := (nI ((siN R) + 1))) rfl rfl (fun _ => Nat.le_of_ble_eq_true rfl) (fun _ => rfl) dX7_scout_156 (fun H locs h => ?_)
              refine lv_aload_n hx hy dX7_scout_159 rfl (lv_at hl 0 rfl) ?_
              refine g_f C h (hr 100 (by decide)) (cel_hi (by decide)) celF_Mod rfl in_X7_scout_X7 16 (by decide) (by decide +kernel) (v := .int (nI ((siN R) + 1))) (congrArg (fun z => some (Value.int z)) (show (wr (wr (wr (wr (wr (wr (wr (suM (wr R rMod 19 (nI 0)) c (wrN R c)) 121 (siN R) (nI lo)) 122 (siN R) (nI c)) 123 (siN R) (R rMod 18)) 124 (siN R) (nI (suC (wr R rMod 19 (nI 0)) c (wrN R c)))) 125 (siN R) (((suM (wr R rMod 19 (nI 0)) c (wrN R c)) rMod 31) - ((suM (wr R rMod 19 (nI 0)) c (wrN R c)) rMod 32))) 126 (siN R) (nI 0)) rMod 16 (nI ((siN R) + 1))) rMod 16 = (nI ((siN R) + 1)) from (wr_same _ _ _ _))) dX7_scout_160 ?_
              refine lv_iconst (v := (nI 1)) hx hy dX7_scout_163 (by decide) ?_
              refine lv_isub hx hy dX7_scout_164 ?_
              exact e_int C h rfl dX7_scout_165 (⟨_, rfl, by rw [show nI 1 = (1 : Int32) from rfl, nI_pred]; simp, by simp [scoRR, kScoR, thr, hi_c, hv_c, hi_lo, hv_lo, hno_43, c_5, c_12, c_24, c_43, eq_true c_53, eq_false (Nat.not_le.mpr c_53), c_65]⟩) (by decide) (by decide)
            · skip
              exact absurd c_65 (by decide)

set_option maxRecDepth 20000 in
theorem in_X7_read_X7 : ∀ x ∈ wsX70, x ∈ wsX7_read := by decide +kernel
set_option maxRecDepth 100000 in
set_option maxHeartbeats 4000000 in
/-- the reference: read -/
theorem c_X7_read (l : Launch) {G : va_G} {V : wV} {rs : List Nat} (hr : bR rs) (M R : wM) (o : wO) (rv : RV R) (si0 : Int32) (isC : Bool) : CT l G V rs yX7_read wsX7_read 1 22 0 0 [.ref (V.1 rMod), .int si0, .int (b2i isC)] (M, R, o) (fun v u => ∃ r, v = some (.int r) ∧ (kReaR R si0 = 0 → r = (if isC = true then R 124 (cI si0) else R 125 (cI si0))) ∧ u = (M, thr R (kReaR R si0), o)) (fun _ _ => False) := by
  refine ct_of (cc := cX7_read) (maxL := 3) (ret := (some .int)) (by decide) rfl (Nat.le_of_ble_eq_true rfl) ?_
  intro p e s m below meth cd ls C h X hT hl
  have hx := C.1
  have hy := C.2.1
  have hl : lv_has ls 3 [(0, .ref (V.1 rMod)), (1, .int si0), (2, .int (b2i isC))] := hl
  have hmn : ∀ c, c < 2 → R 101 c = nI (mnN R c) ∧ mnN R c ≤ 7 := fun c hc => ⟨(rv.1 c hc).1, (rv.1 c hc).2.1⟩
  have hwn : ∀ c, c < 2 → R 103 c = nI (wrN R c) ∧ wrN R c ≤ 60 := fun c hc => ⟨(rv.1 c hc).2.2.1, (rv.1 c hc).2.2.2.1⟩
  have hsi9 := rv.2.1.2
  have htr9 := rv.2.2.1.2
  refine lv_aload_n hx hy dX7_read_0 rfl (lv_at hl 0 rfl) ?_
  refine lv_iload_n hx hy dX7_read_1 rfl (lv_at hl 1 rfl) ?_
  refine lv_iconst (v := (nI 0)) hx hy dX7_read_2 (by decide) ?_
  refine lv_aload_n hx hy dX7_read_3 rfl (lv_at hl 0 rfl) ?_
  refine g_f C h (hr 100 (by decide)) (cel_hi (by decide)) celF_Mod rfl in_X7_read_X7 16 (by decide) (by decide +kernel) (v := .int (nI (siN R))) (congrArg (fun z => some (Value.int z)) (show R rMod 16 = (nI (siN R)) from rv.2.1.1)) dX7_read_4 ?_
  refine lv_iconst (v := (nI 1)) hx hy dX7_read_7 (by decide) ?_
  refine lv_isub hx hy dX7_read_8 ?_
  refine n_go0 C h (n_S (As := [.int si0, .int (nI 0), .int ((nI (siN R)) - (nI 1))]) (rest := [.ref (V.1 rMod)]) C h X (c_X7_isIn l M R o si0 (nI 0) ((nI (siN R)) - (nI 1))) (va_cwS 3 C.2.2.2.2.1 gX7_read_X7_isIn rfl rfl rfl (by decide +kernel) ⟨Nat.le_of_ble_eq_true rfl, Nat.le_of_ble_eq_true rfl⟩) rfl hl.1 rfl (Nat.le_of_ble_eq_true rfl) dX7_read_9 ⟨by decide, by decide⟩) (fun _ _ z => z) (fun v_9 u_9 H locs hpo h => ?_)
  obtain ⟨rfl, rfl⟩ := hpo
  refine lv_topE (show (.int (b2i (vI si0 (nI 0) ((nI (siN R)) - (nI 1)))) : Value) = .int (b2i (vIn si0 (siN R))) from by rw [vI_sub (by omega)]) ?_
  refine lv_iconst (v := (nI 1)) hx hy dX7_read_12 (by decide) ?_
  refine n_go0 C h (n_V (As := [.int (b2i (vIn si0 (siN R))), .int (nI 1)]) (rest := []) C h X (hr 100 (by decide)) ((cel_hi (by decide)).trans (celF_Mod _)) rfl (c_X7_no l hr M R o (vIn si0 (siN R)) (nI 1)) (cwV 2 C.2.2.2.2.1 gX7_read_X7_no rfl rfl rfl (by decide +kernel) ⟨Nat.le_of_ble_eq_true rfl, Nat.le_of_ble_eq_true rfl⟩) rfl hl.1 rfl (Nat.le_of_ble_eq_true rfl) dX7_read_13 ⟨by decide, by decide⟩) (fun _ _ z => z) (fun v_13 u_13 H locs hpo h => ?_)
  obtain ⟨rfl, rfl⟩ := hpo
  refine b_ne hx hy (tgt := 40) dX7_read_16 (by decide) (fun c_16 => ?_) (fun c_16 => ?_)
  · skip
    rw [noV_f c_16] at h
    have hno_16 : vIn si0 (siN R) = false := not_tt c_16
    refine lv_iconst (v := (nI 0)) hx hy dX7_read_40 (by decide) ?_
    exact e_int C h rfl dX7_read_41 (⟨_, rfl, by simp [kReaR, hno_16, c_16, suR], by simp [kReaR, thr, suR, hno_16, c_16]⟩) (by decide) (by decide)
  · skip
    rw [noV_t c_16] at h
    have hno_16 : vIn si0 (siN R) = true := not_ff c_16
    obtain ⟨k, hk, rfl⟩ := vIn_ok' hno_16 (by omega)
    have hv_k : vIn (nI k) (siN R) = true := vIn_nI hk (by omega)
    have hi_k : cI (nI k) = k := nI_clamp (by omega)
    have hk20 : k < 20 := by omega
    have hS9 := rv.2.2.2.1 k hk
    have hS91 := hS9.2.1
    have hS93 := hS9.2.2.2
    have hwn8 := (hwn (scC R k) hS91).2
    refine lv_aload_n hx hy dX7_read_19 rfl (lv_at hl 0 rfl) ?_
    refine lv_aload_n hx hy dX7_read_20 rfl (lv_at hl 0 rfl) ?_
    refine lv_iload_n hx hy dX7_read_21 rfl (lv_at hl 1 rfl) ?_
    refine n_go0 C h (n_V (As := [.int (nI k)]) (rest := [.ref (V.1 rMod)]) C h X (hr 100 (by decide)) ((cel_hi (by decide)).trans (celF_Mod _)) rfl (c_X7_isOld l hr M (wr R rMod 19 (nI 0)) o k hk20) (cwV 1 C.2.2.2.2.1 gX7_read_X7_isOld rfl rfl rfl (by decide +kernel) ⟨Nat.le_of_ble_eq_true rfl, Nat.le_of_ble_eq_true rfl⟩) rfl hl.1 rfl (Nat.le_of_ble_eq_true rfl) dX7_read_22 ⟨by decide, by decide⟩) (fun _ _ z => z) (fun v_22 u_22 H locs hpo h => ?_)
    obtain ⟨rfl, rfl⟩ := hpo
    refine b_ne hx hy (tgt := 32) dX7_read_25 (by decide) (fun c_25 => ?_) (fun c_25 => ?_)
    · skip
      refine lv_iconst (v := (nI 0)) hx hy dX7_read_32 (by decide) ?_
      refine lv_iconst (v := (nI 2)) hx hy dX7_read_33 (by decide) ?_
      refine n_go0 C h (n_V (As := [.int (b2i false), .int (nI 2)]) (rest := []) C h X (hr 100 (by decide)) ((cel_hi (by decide)).trans (celF_Mod _)) rfl (c_X7_no l hr M (wr R rMod 19 (nI 0)) o false (nI 2)) (cwV 2 C.2.2.2.2.1 gX7_read_X7_no rfl rfl rfl (by decide +kernel) ⟨Nat.le_of_ble_eq_true rfl, Nat.le_of_ble_eq_true rfl⟩) rfl hl.1 rfl (Nat.le_of_ble_eq_true rfl) dX7_read_34 ⟨by decide, by decide⟩) (fun _ _ z => z) (fun v_34 u_34 H locs hpo h => ?_)
      obtain ⟨rfl, rfl⟩ := hpo
      refine b_eq hx hy (tgt := 42) dX7_read_37 (by decide) (fun c_37 => ?_) (fun c_37 => ?_)
      · skip
        exact absurd c_37 (by decide)
      · skip
        rw [noV_f c_37] at h
        rw [wr_wr] at h
        refine lv_iconst (v := (nI 0)) hx hy dX7_read_40 (by decide) ?_
        exact e_int C h rfl dX7_read_41 (⟨_, rfl, by simp [kReaR, hno_16, hi_k, hv_k, c_16, c_25, c_37, suR], by simp [kReaR, thr, suR, hno_16, hi_k, hv_k, c_16, c_25, c_37]⟩) (by decide) (by decide)
    · skip
      refine lv_iconst (v := (nI 1)) hx hy dX7_read_28 (by decide) ?_
      refine lv_goto (tgt := 33) hx hy dX7_read_29 (by decide) ?_
      refine lv_iconst (v := (nI 2)) hx hy dX7_read_33 (by decide) ?_
      refine n_go0 C h (n_V (As := [.int (b2i true), .int (nI 2)]) (rest := []) C h X (hr 100 (by decide)) ((cel_hi (by decide)).trans (celF_Mod _)) rfl (c_X7_no l hr M (wr R rMod 19 (nI 0)) o true (nI 2)) (cwV 2 C.2.2.2.2.1 gX7_read_X7_no rfl rfl rfl (by decide +kernel) ⟨Nat.le_of_ble_eq_true rfl, Nat.le_of_ble_eq_true rfl⟩) rfl hl.1 rfl (Nat.le_of_ble_eq_true rfl) dX7_read_34 ⟨by decide, by decide⟩) (fun _ _ z => z) (fun v_34 u_34 H locs hpo h => ?_)
      obtain ⟨rfl, rfl⟩ := hpo
      refine b_eq hx hy (tgt := 42) dX7_read_37 (by decide) (fun c_37 => ?_) (fun c_37 => ?_)
      · skip
        rw [noV_t c_37] at h
        rw [wr_wr] at h
        refine lv_iload_n hx hy dX7_read_42 rfl (lv_at hl 2 rfl) ?_
        refine b_eq hx hy (tgt := 55) dX7_read_43 (by decide) (fun c_43 => ?_) (fun c_43 => ?_)
        · skip
          refine lv_aload_n hx hy dX7_read_55 rfl (lv_at hl 0 rfl) ?_
          refine g_f C h (hr 100 (by decide)) (cel_hi (by decide)) celF_Mod rfl in_X7_read_X7 24 (by decide) (by decide +kernel) (v := .ref (V.1 125)) rfl dX7_read_56 ?_
          refine lv_iload_n hx hy dX7_read_59 rfl (lv_at hl 1 rfl) ?_
          refine g_i C h (hr 125 (by decide)) (n := 20) (k := k) (cel_hi (by decide)) (fun _ => rfl) (by omega) (by decide) (v := (R 125 k)) (show (wr R rMod 19 (nI 0)) 125 k = (R 125 k) from (wr_othr (by decide))) dX7_read_60 ?_
          exact e_int C h rfl dX7_read_61 (⟨_, rfl, by simp [kReaR, hno_16, hi_k, hv_k, c_16, c_25, c_37, c_43, suR], by simp [kReaR, thr, suR, hno_16, hi_k, hv_k, c_16, c_25, c_37, c_43]⟩) (by decide) (by decide)
        · skip
          refine lv_aload_n hx hy dX7_read_46 rfl (lv_at hl 0 rfl) ?_
          refine g_f C h (hr 100 (by decide)) (cel_hi (by decide)) celF_Mod rfl in_X7_read_X7 23 (by decide) (by decide +kernel) (v := .ref (V.1 124)) rfl dX7_read_47 ?_
          refine lv_iload_n hx hy dX7_read_50 rfl (lv_at hl 1 rfl) ?_
          refine g_i C h (hr 124 (by decide)) (n := 20) (k := k) (cel_hi (by decide)) (fun _ => rfl) (by omega) (by decide) (v := (R 124 k)) (show (wr R rMod 19 (nI 0)) 124 k = (R 124 k) from (wr_othr (by decide))) dX7_read_51 ?_
          refine lv_goto (tgt := 61) hx hy dX7_read_52 (by decide) ?_
          exact e_int C h rfl dX7_read_61 (⟨_, rfl, by simp [kReaR, hno_16, hi_k, hv_k, c_16, c_25, c_37, c_43, suR], by simp [kReaR, thr, suR, hno_16, hi_k, hv_k, c_16, c_25, c_37, c_43]⟩) (by decide) (by decide)
      · skip
        exact absurd c_37 (by decide)

set_option maxRecDepth 20000 in
theorem in_X7_raid_X7 : ∀ x ∈ wsX70, x ∈ wsX7_raid := by decide +kernel
set_option maxRecDepth 100000 in
set_option maxHeartbeats 4000000 in
/-- the reference: raid -/
theorem c_X7_raid (l : Launch) {G : va_G} {V : wV} {rs : List Nat} (hr : bR rs) (M R : wM) (o : wO) (rv : RV R) (si0 ga : Int32) : CT l G V rs yX7_raid wsX7_raid 4 92 0 0 [.ref (V.1 rMod), .int si0, .int ga] (M, R, o) (fun v u => ∃ r, v = some (.int r) ∧ (kRaiR R si0 ga = 0 → r = raiVR R (cI si0) (cI ga)) ∧ u = (M, raidRR R si0 ga, o)) (fun _ _ => False) := by
  refine ct_of (cc := cX7_raid) (maxL := 6) (ret := (some .char)) (by decide) rfl (Nat.le_of_ble_eq_true rfl) ?_
  intro p e s m below meth cd ls C h X hT hl
  have hx := C.1
  have hy := C.2.1
  have hl : lv_has ls 6 [(0, .ref (V.1 rMod)), (1, .int si0), (2, .int ga)] := hl
  have hmn : ∀ c, c < 2 → R 101 c = nI (mnN R c) ∧ mnN R c ≤ 7 := fun c hc => ⟨(rv.1 c hc).1, (rv.1 c hc).2.1⟩
  have hwn : ∀ c, c < 2 → R 103 c = nI (wrN R c) ∧ wrN R c ≤ 60 := fun c hc => ⟨(rv.1 c hc).2.2.1, (rv.1 c hc).2.2.2.1⟩
  have hsi9 := rv.2.1.2
  have htr9 := rv.2.2.1.2
  refine lv_aload_n hx hy dX7_raid_0 rfl (lv_at hl 0 rfl) ?_
  refine lv_iload_n hx hy dX7_raid_1 rfl (lv_at hl 1 rfl) ?_
  refine lv_iconst (v := (nI 0)) hx hy dX7_raid_2 (by decide) ?_
  refine lv_aload_n hx hy dX7_raid_3 rfl (lv_at hl 0 rfl) ?_
  refine g_f C h (hr 100 (by decide)) (cel_hi (by decide)) celF_Mod rfl in_X7_raid_X7 16 (by decide) (by decide +kernel) (v := .int (nI (siN R))) (congrArg (fun z => some (Value.int z)) (show R rMod 16 = (nI (siN R)) from rv.2.1.1)) dX7_raid_4 ?_
  refine lv_iconst (v := (nI 1)) hx hy dX7_raid_7 (by decide) ?_
  refine lv_isub hx hy dX7_raid_8 ?_
  refine n_go0 C h (n_S (As := [.int si0, .int (nI 0), .int ((nI (siN R)) - (nI 1))]) (rest := [.ref (V.1 rMod)]) C h X (c_X7_isIn l M R o si0 (nI 0) ((nI (siN R)) - (nI 1))) (va_cwS 3 C.2.2.2.2.1 gX7_raid_X7_isIn rfl rfl rfl (by decide +kernel) ⟨Nat.le_of_ble_eq_true rfl, Nat.le_of_ble_eq_true rfl⟩) rfl hl.1 rfl (Nat.le_of_ble_eq_true rfl) dX7_raid_9 ⟨by decide, by decide⟩) (fun _ _ z => z) (fun v_9 u_9 H locs hpo h => ?_)
  obtain ⟨rfl, rfl⟩ := hpo
  refine lv_topE (show (.int (b2i (vI si0 (nI 0) ((nI (siN R)) - (nI 1)))) : Value) = .int (b2i (vIn si0 (siN R))) from by rw [vI_sub (by omega)]) ?_
  refine b_eq hx hy (tgt := 26) dX7_raid_12 (by decide) (fun c_12 => ?_) (fun c_12 => ?_)
  · skip
    refine lv_iconst (v := (nI 0)) hx hy dX7_raid_26 (by decide) ?_
    refine lv_iconst (v := (nI 1)) hx hy dX7_raid_27 (by decide) ?_
    refine n_go0 C h (n_V (As := [.int (b2i false), .int (nI 1)]) (rest := []) C h X (hr 100 (by decide)) ((cel_hi (by decide)).trans (celF_Mod _)) rfl (c_X7_no l hr M R o false (nI 1)) (cwV 2 C.2.2.2.2.1 gX7_raid_X7_no rfl rfl rfl (by decide +kernel) ⟨Nat.le_of_ble_eq_true rfl, Nat.le_of_ble_eq_true rfl⟩) rfl hl.1 rfl (Nat.le_of_ble_eq_true rfl) dX7_raid_28 ⟨by decide, by decide⟩) (fun _ _ z => z) (fun v_28 u_28 H locs hpo h => ?_)
    obtain ⟨rfl, rfl⟩ := hpo
    refine b_eq hx hy (tgt := 37) dX7_raid_31 (by decide) (fun c_31 => ?_) (fun c_31 => ?_)
    · skip
      exact absurd c_31 (by decide)
    · skip
      rw [noV_f c_31] at h
      refine lv_bipush (v := (nI 45)) hx hy dX7_raid_34 (by decide) ?_
      exact e_int C h (by decide) dX7_raid_36 (⟨_, rfl, by simp [kRaiR, raiVR, raiNr, c_12, c_31], by simp [raidRR, kRaiR, raiMR, raiNr, thr, c_12, c_31]⟩) (by decide) (by decide)
  · skip
    obtain ⟨k, hk, rfl⟩ := vIn_ok' c_12 (by omega)
    have hv_k : vIn (nI k) (siN R) = true := vIn_nI hk (by omega)
    have hi_k : cI (nI k) = k := nI_clamp (by omega)
    have hk20 : k < 20 := by omega
    have hS9 := rv.2.2.2.1 k hk
    have hS91 := hS9.2.1
    have hS93 := hS9.2.2.2
    have hwn8 := (hwn (scC R k) hS91).2
    refine lv_iload_n hx hy dX7_raid_15 rfl (lv_at hl 2 rfl) ?_
    refine n_go0 C h (n_S (As := [.int ga]) (rest := [.ref (V.1 rMod)]) C h X (c_X7_isGate l M R o ga) (va_cwS 1 C.2.2.2.2.1 gX7_raid_X7_isGate rfl rfl rfl (by decide +kernel) ⟨Nat.le_of_ble_eq_true rfl, Nat.le_of_ble_eq_true rfl⟩) rfl hl.1 rfl (Nat.le_of_ble_eq_true rfl) dX7_raid_16 ⟨by decide, by decide⟩) (fun _ _ z => z) (fun v_16 u_16 H locs hpo h => ?_)
    obtain ⟨rfl, rfl⟩ := hpo
    refine b_eq hx hy (tgt := 26) dX7_raid_19 (by decide) (fun c_19 => ?_) (fun c_19 => ?_)
    · skip
      refine lv_iconst (v := (nI 0)) hx hy dX7_raid_26 (by decide) ?_
      refine lv_iconst (v := (nI 1)) hx hy dX7_raid_27 (by decide) ?_
      refine n_go0 C h (n_V (As := [.int (b2i false), .int (nI 1)]) (rest := []) C h X (hr 100 (by decide)) ((cel_hi (by decide)).trans (celF_Mod _)) rfl (c_X7_no l hr M R o false (nI 1)) (cwV 2 C.2.2.2.2.1 gX7_raid_X7_no rfl rfl rfl (by decide +kernel) ⟨Nat.le_of_ble_eq_true rfl, Nat.le_of_ble_eq_true rfl⟩) rfl hl.1 rfl (Nat.le_of_ble_eq_true rfl) dX7_raid_28 ⟨by decide, by decide⟩) (fun _ _ z => z) (fun v_28 u_28 H locs hpo h => ?_)
      obtain ⟨rfl, rfl⟩ := hpo
      refine b_eq hx hy (tgt := 37) dX7_raid_31 (by decide) (fun c_31 => ?_) (fun c_31 => ?_)
      · skip
        exact absurd c_31 (by decide)
      · skip
        rw [noV_f c_31] at h
        refine lv_bipush (v := (nI 45)) hx hy dX7_raid_34 (by decide) ?_
        exact e_int C h (by decide) dX7_raid_36 (⟨_, rfl, by simp [kRaiR, raiVR, raiNr, hi_k, hv_k, c_12, c_19, c_31], by simp [raidRR, kRaiR, raiMR, raiNr, thr, hi_k, hv_k, c_12, c_19, c_31]⟩) (by decide) (by decide)
    · skip
      obtain ⟨g, hg, rfl⟩ := vIn_ok' c_19 (by decide)
      have hv_g : vIn (nI g) 3 = true := vIn_nI hg (by decide)
      have hi_g : cI (nI g) = g := nI_clamp (by omega)
      refine lv_iconst (v := (nI 1)) hx hy dX7_raid_22 (by decide) ?_
      refine lv_goto (tgt := 27) hx hy dX7_raid_23 (by decide) ?_
      refine lv_iconst (v := (nI 1)) hx hy dX7_raid_27 (by decide) ?_
      refine n_go0 C h (n_V (As := [.int (b2i true), .int (nI 1)]) (rest := []) C h X (hr 100 (by decide)) ((cel_hi (by decide)).trans (celF_Mod _)) rfl (c_X7_no l hr M R o true (nI 1)) (cwV 2 C.2.2.2.2.1 gX7_raid_X7_no rfl rfl rfl (by decide +kernel) ⟨Nat.le_of_ble_eq_true rfl, Nat.le_of_ble_eq_true rfl⟩) rfl hl.1 rfl (Nat.le_of_ble_eq_true rfl) dX7_raid_28 ⟨by decide, by decide⟩) (fun _ _ z => z) (fun v_28 u_28 H locs hpo h => ?_)
      obtain ⟨rfl, rfl⟩ := hpo
      refine b_eq hx hy (tgt := 37) dX7_raid_31 (by decide) (fun c_31 => ?_) (fun c_31 => ?_)
      · skip
        rw [noV_t c_31] at h
        refine lv_aload_n hx hy dX7_raid_37 rfl (lv_at hl 0 rfl) ?_
        refine g_f C h (hr 100 (by decide)) (cel_hi (by decide)) celF_Mod rfl in_X7_raid_X7 21 (by decide) (by decide +kernel) (v := .ref (V.1 122)) rfl dX7_raid_38 ?_
        refine lv_iload_n hx hy dX7_raid_41 rfl (lv_at hl 1 rfl) ?_
        refine g_i C h (hr 122 (by decide)) (n := 20) (k := k) (cel_hi (by decide)) (fun _ => rfl) (by omega) (by decide) (v := (nI (scC R k))) (show (wr R rMod 19 (nI 0)) 122 k = (nI (scC R k)) from ((wr_othr (by decide)).trans hS9.1)) dX7_raid_42 ?_
        refine lv_istore_n (lv' := [(3, .int (nI (scC R k))), (0, .ref (V.1 rMod)), (1, .int (nI k)), (2, .int (nI g))]) hx hy dX7_raid_43 rfl hl (by decide) rfl (fun ls hl => ?_)
        refine lv_aload_n hx hy dX7_raid_44 rfl (lv_at hl 1 rfl) ?_
        refine g_f C h (hr 100 (by decide)) (cel_hi (by decide)) celF_Mod rfl in_X7_raid_X7 20 (by decide) (by decide +kernel) (v := .ref (V.1 121)) rfl dX7_raid_45 ?_
        refine lv_iload_n hx hy dX7_raid_48 rfl (lv_at hl 2 rfl) ?_
        refine g_i C h (hr 121 (by decide)) (n := 20) (k := k) (cel_hi (by decide)) (fun _ => rfl) (by omega) (by decide) (v := (nI (scL R k))) (show (wr R rMod 19 (nI 0)) 121 k = (nI (scL R k)) from ((wr_othr (by decide)).trans hS9.2.2.1)) dX7_raid_49 ?_
        refine lv_istore (lv' := [(4, .int (nI (scL R k))), (3, .int (nI (scC R k))), (0, .ref (V.1 rMod)), (1, .int (nI k)), (2, .int (nI g))]) hx hy dX7_raid_50 hl (by decide) rfl (fun ls hl => ?_)
        refine lv_aload_n hx hy dX7_raid_52 rfl (lv_at hl 2 rfl) ?_
        refine lv_aload_n hx hy dX7_raid_53 rfl (lv_at hl 2 rfl) ?_
        refine g_f C h (hr 100 (by decide)) (cel_hi (by decide)) celF_Mod rfl in_X7_raid_X7 2 (by decide) (by decide +kernel) (v := .ref (V.1 103)) rfl dX7_raid_54 ?_
        refine lv_iload_n hx hy dX7_raid_57 rfl (lv_at hl 1 rfl) ?_
        refine g_i C h (hr 103 (by decide)) (n := 2) (k := (scC R k)) (cel_hi (by decide)) (fun _ => rfl) (by omega) (by decide) (v := (nI (wrN R (scC R k)))) (show (wr R rMod 19 (nI 0)) 103 (scC R k) = (nI (wrN R (scC R k))) from ((wr_othr (by decide)).trans (hwn (scC R k) hS9.2.1).1)) dX7_raid_58 ?_
        refine lv_bipush (v := (nI 60)) hx hy dX7_raid_59 (by decide) ?_
        refine n_ge hx hy (by omega) (by decide) (tgt := 68) dX7_raid_61 (by decide) (fun c_61 => ?_) (fun c_61 => ?_)
        · skip
          refine lv_iconst (v := (nI 0)) hx hy dX7_raid_68 (by decide) ?_
          refine lv_iconst (v := (nI 2)) hx hy dX7_raid_69 (by decide) ?_
          refine n_go0 C h (n_V (As := [.int (b2i false), .int (nI 2)]) (rest := []) C h X (hr 100 (by decide)) ((cel_hi (by decide)).trans (celF_Mod _)) rfl (c_X7_no l hr M (wr R rMod 19 (nI 0)) o false (nI 2)) (cwV 2 C.2.2.2.2.1 gX7_raid_X7_no rfl rfl rfl (by decide +kernel) ⟨Nat.le_of_ble_eq_true rfl, Nat.le_of_ble_eq_true rfl⟩) rfl hl.1 rfl (Nat.le_of_ble_eq_true rfl) dX7_raid_70 ⟨by decide, by decide⟩) (fun _ _ z => z) (fun v_70 u_70 H locs hpo h => ?_)
          obtain ⟨rfl, rfl⟩ := hpo
          refine b_eq hx hy (tgt := 79) dX7_raid_73 (by decide) (fun c_73 => ?_) (fun c_73 => ?_)
          · skip
            exact absurd c_73 (by decide)
          · skip
            rw [noV_f c_73] at h
            rw [wr_wr] at h
            refine lv_bipush (v := (nI 45)) hx hy dX7_raid_76 (by decide) ?_
            exact e_int C h (by decide) dX7_raid_78 (⟨_, rfl, by simp [kRaiR, raiVR, raiNr, hi_k, hv_k, hi_g, hv_g, c_12, c_19, c_31, eq_true c_61, eq_false (Nat.not_lt.mpr c_61), c_73], by simp [raidRR, kRaiR, raiMR, raiNr, thr, hi_k, hv_k, hi_g, hv_g, c_12, c_19, c_31, eq_true c_61, eq_false (Nat.not_lt.mpr c_61), c_73]⟩) (by decide) (by decide)
        · skip
          refine lv_iconst (v := (nI 1)) hx hy dX7_raid_64 (by decide) ?_
          refine lv_goto (tgt := 69) hx hy dX7_raid_65 (by decide) ?_
          refine lv_iconst (v := (nI 2)) hx hy dX7_raid_69 (by decide) ?_
          refine n_go0 C h (n_V (As := [.int (b2i true), .int (nI 2)]) (rest := []) C h X (hr 100 (by decide)) ((cel_hi (by decide)).trans (celF_Mod _)) rfl (c_X7_no l hr M (wr R rMod 19 (nI 0)) o true (nI 2)) (cwV 2 C.2.2.2.2.1 gX7_raid_X7_no rfl rfl rfl (by decide +kernel) ⟨Nat.le_of_ble_eq_true rfl, Nat.le_of_ble_eq_true rfl⟩) rfl hl.1 rfl (Nat.le_of_ble_eq_true rfl) dX7_raid_70 ⟨by decide, by decide⟩) (fun _ _ z => z) (fun v_70 u_70 H locs hpo h => ?_)
          obtain ⟨rfl, rfl⟩ := hpo
          refine b_eq hx hy (tgt := 79) dX7_raid_73 (by decide) (fun c_73 => ?_) (fun c_73 => ?_)
          · skip
            rw [noV_t c_73] at h
            rw [wr_wr] at h
            refine lv_aload_n hx hy dX7_raid_79 rfl (lv_at hl 2 rfl) ?_
            refine lv_iload_n hx hy dX7_raid_80 rfl (lv_at hl 3 rfl) ?_
            refine n_go0 C h (n_V (As := [.int (nI k)]) (rest := []) C h X (hr 100 (by decide)) ((cel_hi (by decide)).trans (celF_Mod _)) rfl (c_X7_isOld l hr M (wr R rMod 19 (nI 0)) o k hk20) (cwV 1 C.2.2.2.2.1 gX7_raid_X7_isOld rfl rfl rfl (by decide +kernel) ⟨Nat.le_of_ble_eq_true rfl, Nat.le_of_ble_eq_true rfl⟩) rfl hl.1 rfl (Nat.le_of_ble_eq_true rfl) dX7_raid_81 ⟨by decide, by decide⟩) (fun _ _ z => z) (fun v_81 u_81 H locs hpo h => ?_)
            obtain ⟨rfl, rfl⟩ := hpo
            refine b_eq hx hy (tgt := 90) dX7_raid_84 (by decide) (fun c_84 => ?_) (fun c_84 => ?_)
            · skip
              refine lv_aload_n hx hy dX7_raid_90 rfl (lv_at hl 2 rfl) ?_
              refine lv_iload_n hx hy dX7_raid_91 rfl (lv_at hl 1 rfl) ?_
              refine lv_iload_n hx hy dX7_raid_92 rfl (lv_at hl 4 rfl) ?_
              refine lv_iload hx hy dX7_raid_93 (lv_at hl 0 rfl) ?_
              refine n_go0 C h (n_V (As := [.int (nI (scC R k)), .int (nI g), .int (nI (scL R k))]) (rest := []) C h X (hr 100 (by decide)) ((cel_hi (by decide)).trans (celF_Mod _)) rfl (c_X7_opens l hr M (wr R rMod 19 (nI 0)) o (scC R k) hS9.2.1 g hg (scL R k) hS9.2.2.2) (cwV 3 C.2.2.2.2.1 gX7_raid_X7_opens rfl rfl rfl (by decide +kernel) ⟨Nat.le_of_ble_eq_true rfl, Nat.le_of_ble_eq_true rfl⟩) rfl hl.1 rfl (Nat.le_of_ble_eq_true rfl) dX7_raid_95 ⟨by decide, by decide⟩) (fun _ _ z => z) (fun v_95 u_95 H locs hpo h => ?_)
              obtain ⟨rfl, rfl⟩ := hpo
              refine b_ne hx hy (tgt := 104) dX7_raid_98 (by decide) (fun c_98 => ?_) (fun c_98 => ?_)
              · skip
                refine lv_aload_n hx hy dX7_raid_104 rfl (lv_at hl 2 rfl) ?_
                refine lv_iload_n hx hy dX7_raid_105 rfl (lv_at hl 1 rfl) ?_
                refine lv_aload_n hx hy dX7_raid_106 rfl (lv_at hl 2 rfl) ?_
                refine lv_iload_n hx hy dX7_raid_107 rfl (lv_at hl 1 rfl) ?_
                refine lv_iload hx hy dX7_raid_108 (lv_at hl 0 rfl) ?_
                refine n_go0 C h (n_V (As := [.int (nI (scC R k)), .int (nI (scL R k))]) (rest := [.int (nI (scC R k)), .ref (V.1 rMod)]) C h X (hr 100 (by decide)) ((cel_hi (by decide)).trans (celF_Mod _)) rfl (c_X7_reach l hr M (wr R rMod 19 (nI 0)) o (scC R k) hS9.2.1 (mnN R (scC R k)) (hmn (scC R k) hS9.2.1).2 (show (wr R rMod 19 (nI 0)) 101 (scC R k) = nI (mnN R (scC R k)) from ((wr_othr (by decide)).trans (hmn (scC R k) hS9.2.1).1)) (scL R k) hS9.2.2.2) (cwV 2 C.2.2.2.2.1 gX7_raid_X7_reach rfl rfl rfl (by decide +kernel) ⟨Nat.le_of_ble_eq_true rfl, Nat.le_of_ble_eq_true rfl⟩) rfl hl.1 rfl (Nat.le_of_ble_eq_true rfl) dX7_raid_110 ⟨by decide, by decide⟩) (fun _ _ z => z) (fun v_110 u_110 H locs hpo h => ?_)
                obtain ⟨rfl, rfl⟩ := hpo
                refine n_go0 C h (n_V (As := [.int (nI (scC R k)), .int (rcN (wr R rMod 19 (nI 0)) (scC R k) (scL R k) (mnN R (scC R k)))]) (rest := []) C h X (hr 100 (by decide)) ((cel_hi (by decide)).trans (celF_Mod _)) rfl (c_X7_quorum l hr M (wr R rMod 19 (nI 0)) o (scC R k) hS9.2.1 (rcN (wr R rMod 19 (nI 0)) (scC R k) (scL R k) (mnN R (scC R k)))) (cwV 2 C.2.2.2.2.1 gX7_raid_X7_quorum rfl rfl rfl (by decide +kernel) ⟨Nat.le_of_ble_eq_true rfl, Nat.le_of_ble_eq_true rfl⟩) rfl hl.1 rfl (Nat.le_of_ble_eq_true rfl) dX7_raid_113 ⟨by decide, by decide⟩) (fun _ _ z => z) (fun v_113 u_113 H locs hpo h => ?_)
                obtain ⟨rfl, rfl⟩ := hpo
                refine b_ne hx hy (tgt := 122) dX7_raid_116 (by decide) (fun c_116 => ?_) (fun c_116 => ?_)
                · skip
                  refine lv_aload_n hx hy dX7_raid_122 rfl (lv_at hl 2 rfl) ?_
                  refine lv_iload_n hx hy dX7_raid_123 rfl (lv_at hl 1 rfl) ?_
                  refine n_go0 C h (n_V (As := [.int (nI (scC R k))]) (rest := []) C h X (hr 100 (by decide)) ((cel_hi (by decide)).trans (celF_Mod _)) rfl (c_X7_hangs l hr M (wr R rMod 19 (nI 0)) o (scC R k) hS9.2.1 (wrN R (scC R k)) (hwn (scC R k) hS9.2.1).2 (show (wr R rMod 19 (nI 0)) 103 (scC R k) = nI (wrN R (scC R k)) from ((wr_othr (by decide)).trans (hwn (scC R k) hS9.2.1).1)) (rv.1 (scC R k) hS9.2.1).2.2.2.2.1) (cwV 1 C.2.2.2.2.1 gX7_raid_X7_hangs rfl rfl rfl (by decide +kernel) ⟨Nat.le_of_ble_eq_true rfl, Nat.le_of_ble_eq_true rfl⟩) rfl hl.1 rfl (Nat.le_of_ble_eq_true rfl) dX7_raid_124 ⟨by decide, by decide⟩) (fun _ _ z => z) (fun v_124 u_124 H locs hpo h => ?_)
                  obtain ⟨rfl, rfl⟩ := hpo
                  refine b_ne hx hy (tgt := 143) dX7_raid_127 (by decide) (fun c_127 => ?_) (fun c_127 => ?_)
                  · skip
                    refine lv_bipush (v := (nI 115)) hx hy dX7_raid_143 (by decide) ?_
                    exact e_int C h (by decide) dX7_raid_145 (⟨_, rfl, by simp [kRaiR, raiVR, raiNr, hi_k, hv_k, hi_g, hv_g, c_12, c_19, c_31, eq_true c_61, eq_false (Nat.not_le.mpr c_61), c_73, c_84, c_98, c_116, c_127], by simp [raidRR, kRaiR, raiMR, raiNr, thr, hi_k, hv_k, hi_g, hv_g, c_12, c_19, c_31, eq_true c_61, eq_false (Nat.not_le.mpr c_61), c_73, c_84, c_98, c_116, c_127]⟩) (by decide) (by decide)
                  · skip
                    refine lv_aload_n hx hy dX7_raid_130 rfl (lv_at hl 2 rfl) ?_
                    refine g_f C h (hr 100 (by decide)) (cel_hi (by decide)) celF_Mod rfl in_X7_raid_X7 33 (by decide) (by decide +kernel) (v := .int (nI (suC (wr R rMod 19 (nI 0)) (scC R k) (wrN R (scC R k))))) (congrArg (fun z => some (Value.int z)) (show (suM (wr R rMod 19 (nI 0)) (scC R k) (wrN R (scC R k))) rMod 33 = (nI (suC (wr R rMod 19 (nI 0)) (scC R k) (wrN R (scC R k)))) from suM_cnt)) dX7_raid_131 ?_
                    refine lv_aload_n hx hy dX7_raid_134 rfl (lv_at hl 2 rfl) ?_
                    refine g_f C h (hr 100 (by decide)) (cel_hi (by decide)) celF_Mod rfl in_X7_raid_X7 23 (by decide) (by decide +kernel) (v := .ref (V.1 124)) rfl dX7_raid_135 ?_
                    refine lv_iload_n hx hy dX7_raid_138 rfl (lv_at hl 3 rfl) ?_
                    refine g_i C h (hr 124 (by decide)) (n := 20) (k := k) (cel_hi (by decide)) (fun _ => rfl) (by omega) (by decide) (v := (R 124 k)) (show (suM (wr R rMod 19 (nI 0)) (scC R k) (wrN R (scC R k))) 124 k = (R 124 k) from ((congrFun (suM_ne (by decide) (by decide)) _).trans (wr_othr (by decide)))) dX7_raid_139 ?_
                    refine i_eq hx hy (tgt := 146) dX7_raid_140 (by decide) (fun c_140 => ?_) (fun c_140 => ?_)
                    · skip
                      refine lv_aload_n hx hy dX7_raid_146 rfl (lv_at hl 2 rfl) ?_
                      refine lv_iload_n hx hy dX7_raid_147 rfl (lv_at hl 1 rfl) ?_
                      refine lv_bipush (v := (nI 114)) hx hy dX7_raid_148 (by decide) ?_
                      refine lv_aload_n hx hy dX7_raid_150 rfl (lv_at hl 2 rfl) ?_
                      refine g_f C h (hr 100 (by decide)) (cel_hi (by decide)) celF_Mod rfl in_X7_raid_X7 24 (by decide) (by decide +kernel) (v := .ref (V.1 125)) rfl dX7_raid_151 ?_
                      refine lv_iload_n hx hy dX7_raid_154 rfl (lv_at hl 3 rfl) ?_
                      refine g_i C h (hr 125 (by decide)) (n := 20) (k := k) (cel_hi (by decide)) (fun _ => rfl) (by omega) (by decide) (v := (R 125 k)) (show (suM (wr R rMod 19 (nI 0)) (scC R k) (wrN R (scC R k))) 125 k = (R 125 k) from ((congrFun (suM_ne (by decide) (by decide)) _).trans (wr_othr (by decide)))) dX7_raid_155 ?_
                      refine lv_iconst (v := (nI 2)) hx hy dX7_raid_156 (by decide) ?_
                      refine lv_idiv hx hy dX7_raid_157 (by decide) ?_
                      refine lv_iload hx hy dX7_raid_158 (lv_at hl 0 rfl) ?_
                      refine lv_iconst (v := (nI 0)) hx hy dX7_raid_160 (by decide) ?_
                      refine n_go0 C h (n_V (As := [.int (nI (scC R k)), .int (nI 114), .int ((R 125 k) / (nI 2)), .int (nI (scL R k)), .int (nI 0)]) (rest := []) C h X (hr 100 (by decide)) ((cel_hi (by decide)).trans (celF_Mod _)) rfl (c_X7_writes l hr M (suM (wr R rMod 19 (nI 0)) (scC R k) (wrN R (scC R k))) o (scC R k) hS9.2.1 (mnN R (scC R k)) (hmn (scC R k) hS9.2.1).2 (show (suM (wr R rMod 19 (nI 0)) (scC R k) (wrN R (scC R k))) 101 (scC R k) = nI (mnN R (scC R k)) from ((congrFun (suM_ne (by decide) (by decide)) _).trans ((wr_othr (by decide)).trans (hmn (scC R k) hS9.2.1).1))) (wrN R (scC R k)) c_61 (show (suM (wr R rMod 19 (nI 0)) (scC R k) (wrN R (scC R k))) 103 (scC R k) = nI (wrN R (scC R k)) from ((congrFun (suM_ne (by decide) (by decide)) _).trans ((wr_othr (by decide)).trans (hwn (scC R k) hS9.2.1).1))) (scL R k) hS9.2.2.2 (nI 114) ((R 125 k) / (nI 2)) (nI 0) (by decide)) (cwV 5 C.2.2.2.2.1 gX7_raid_X7_writes rfl rfl rfl (by decide +kernel) ⟨Nat.le_of_ble_eq_true rfl, Nat.le_of_ble_eq_true rfl⟩) rfl hl.1 rfl (Nat.le_of_ble_eq_true rfl) dX7_raid_161 ⟨by decide, by decide⟩) (fun _ _ z => z) (fun v_161 u_161 H locs hpo h => ?_)
                      obtain ⟨rfl, rfl⟩ := hpo
                      refine lv_istore (lv' := [(5, .int (nI (wrN R (scC R k)))), (4, .int (nI (scL R k))), (3, .int (nI (scC R k))), (0, .ref (V.1 rMod)), (1, .int (nI k)), (2, .int (nI g))]) hx hy dX7_raid_164 hl (by decide) rfl (fun ls hl => ?_)
                      refine lv_aload_n hx hy dX7_raid_166 rfl (lv_at hl 3 rfl) ?_
                      refine g_f C h (hr 100 (by decide)) (cel_hi (by decide)) celF_Mod rfl in_X7_raid_X7 30 (by decide) (by decide +kernel) (v := .ref (V.1 131)) rfl dX7_raid_167 ?_
                      refine lv_iload hx hy dX7_raid_170 (lv_at hl 1 rfl) ?_
                      refine lv_dup2_11 hx hy dX7_raid_172 rfl rfl ?_
                      refine g_i C h (hr 131 (by decide)) (n := 4) (k := (scL R k)) (cel_hi (by decide)) (fun _ => rfl) (by omega) (by decide) (v := (R 131 (scL R k))) (show (mWr (suM (wr R rMod 19 (nI 0)) (scC R k) (wrN R (scC R k))) (scC R k) (wrN R (scC R k)) (nI 114) ((R 125 k) / (nI 2)) (nI (scL R k)) (nI 0) (rcN (suM (wr R rMod 19 (nI 0)) (scC R k) (wrN R (scC R k))) (scC R k) (scL R k) (mnN R (scC R k)))) 131 (scL R k) = (R 131 (scL R k)) from ((congrFun (mWr_ne (by decide) (by decide) (by decide) (by decide) (by decide) (by decide) (by decide)) _).trans ((congrFun (suM_ne (by decide) (by decide)) _).trans (wr_othr (by decide))))) dX7_raid_173 ?_
                      refine lv_iconst (v := (nI 1)) hx hy dX7_raid_174 (by decide) ?_
                      refine lv_iadd hx hy dX7_raid_175 ?_
                      refine s_iR C h (hr 131 (by decide)) (by decide) (n := 4) (k := (scL R k)) (fun _ => rfl) (by omega) (by decide) (x := ((R 131 (scL R k)) + (nI 1))) dX7_raid_176 (fun H locs h => ?_)
                      refine lv_bipush (v := (nI 119)) hx hy dX7_raid_177 (by decide) ?_
                      exact e_int C h (by decide) dX7_raid_179 (⟨_, rfl, by simp [kRaiR, raiVR, raiNr, hi_k, hv_k, hi_g, hv_g, c_12, c_19, c_31, eq_true c_61, eq_false (Nat.not_le.mpr c_61), c_73, c_84, c_98, c_116, c_127, eq_true c_140], by simp [raidRR, kRaiR, raiMR, raiNr, thr, hi_k, hv_k, hi_g, hv_g, c_12, c_19, c_31, eq_true c_61, eq_false (Nat.not_le.mpr c_61), c_73, c_84, c_98, c_116, c_127, eq_true c_140]⟩) (by decide) (by decide)
                    · skip
                      refine lv_bipush (v := (nI 115)) hx hy dX7_raid_143 (by decide) ?_
                      exact e_int C h (by decide) dX7_raid_145 (⟨_, rfl, by simp [kRaiR, raiVR, raiNr, hi_k, hv_k, hi_g, hv_g, c_12, c_19, c_31, eq_true c_61, eq_false (Nat.not_le.mpr c_61), c_73, c_84, c_98, c_116, c_127, eq_false c_140], by simp [raidRR, kRaiR, raiMR, raiNr, thr, hi_k, hv_k, hi_g, hv_g, c_12, c_19, c_31, eq_true c_61, eq_false (Nat.not_le.mpr c_61), c_73, c_84, c_98, c_116, c_127, eq_false c_140]⟩) (by decide) (by decide)
                · skip
                  refine lv_bipush (v := (nI 113)) hx hy dX7_raid_119 (by decide) ?_
                  exact e_int C h (by decide) dX7_raid_121 (⟨_, rfl, by simp [kRaiR, raiVR, raiNr, hi_k, hv_k, hi_g, hv_g, c_12, c_19, c_31, eq_true c_61, eq_false (Nat.not_le.mpr c_61), c_73, c_84, c_98, c_116], by simp [raidRR, kRaiR, raiMR, raiNr, thr, hi_k, hv_k, hi_g, hv_g, c_12, c_19, c_31, eq_true c_61, eq_false (Nat.not_le.mpr c_61), c_73, c_84, c_98, c_116]⟩) (by decide) (by decide)
              · skip
                refine lv_bipush (v := (nI 103)) hx hy dX7_raid_101 (by decide) ?_
                exact e_int C h (by decide) dX7_raid_103 (⟨_, rfl, by simp [kRaiR, raiVR, raiNr, hi_k, hv_k, hi_g, hv_g, c_12, c_19, c_31, eq_true c_61, eq_false (Nat.not_le.mpr c_61), c_73, c_84, c_98], by simp [raidRR, kRaiR, raiMR, raiNr, thr, hi_k, hv_k, hi_g, hv_g, c_12, c_19, c_31, eq_true c_61, eq_false (Nat.not_le.mpr c_61), c_73, c_84, c_98]⟩) (by decide) (by decide)
            · skip
              refine lv_bipush (v := (nI 111)) hx hy dX7_raid_87 (by decide) ?_
              exact e_int C h (by decide) dX7_raid_89 (⟨_, rfl, by simp [kRaiR, raiVR, raiNr, hi_k, hv_k, hi_g, hv_g, c_12, c_19, c_31, eq_true c_61, eq_false (Nat.not_le.mpr c_61), c_73, c_84], by simp [raidRR, kRaiR, raiMR, raiNr, thr, hi_k, hv_k, hi_g, hv_g, c_12, c_19, c_31, eq_true c_61, eq_false (Nat.not_le.mpr c_61), c_73, c_84]⟩) (by decide) (by decide)
          · skip
            exact absurd c_73 (by decide)
      · skip
        exact absurd c_31 (by decide)

set_option maxRecDepth 20000 in
theorem in_X7_won_X7 : ∀ x ∈ wsX70, x ∈ wsX7_won := by decide +kernel
set_option maxRecDepth 100000 in
set_option maxHeartbeats 4000000 in
/-- the reference: won -/
theorem c_X7_won (l : Launch) {G : va_G} {V : wV} {rs : List Nat} (hr : bR rs) (M R : wM) (o : wO) (rv : RV R) (lo0 : Int32) : CT l G V rs yX7_won wsX7_won 2 42 0 0 [.ref (V.1 rMod), .int lo0] (M, R, o) (fun v u => ∃ r, v = some (.int r) ∧ (kLoR lo0 = 0 → r = R 131 (cI lo0)) ∧ u = (M, thr R (kLoR lo0), o)) (fun _ _ => False) := by
  refine ct_of (cc := cX7_won) (maxL := 2) (ret := (some .int)) (by decide) rfl (Nat.le_of_ble_eq_true rfl) ?_
  intro p e s m below meth cd ls C h X hT hl
  have hx := C.1
  have hy := C.2.1
  have hl : lv_has ls 2 [(0, .ref (V.1 rMod)), (1, .int lo0)] := hl
  have hmn : ∀ c, c < 2 → R 101 c = nI (mnN R c) ∧ mnN R c ≤ 7 := fun c hc => ⟨(rv.1 c hc).1, (rv.1 c hc).2.1⟩
  have hwn : ∀ c, c < 2 → R 103 c = nI (wrN R c) ∧ wrN R c ≤ 60 := fun c hc => ⟨(rv.1 c hc).2.2.1, (rv.1 c hc).2.2.2.1⟩
  have hsi9 := rv.2.1.2
  have htr9 := rv.2.2.1.2
  refine lv_aload_n hx hy dX7_won_0 rfl (lv_at hl 0 rfl) ?_
  refine lv_iload_n hx hy dX7_won_1 rfl (lv_at hl 1 rfl) ?_
  refine n_go0 C h (n_S (As := [.int lo0]) (rest := [.ref (V.1 rMod)]) C h X (c_X7_isLord l M R o lo0) (va_cwS 1 C.2.2.2.2.1 gX7_won_X7_isLord rfl rfl rfl (by decide +kernel) ⟨Nat.le_of_ble_eq_true rfl, Nat.le_of_ble_eq_true rfl⟩) rfl hl.1 rfl (Nat.le_of_ble_eq_true rfl) dX7_won_2 ⟨by decide, by decide⟩) (fun _ _ z => z) (fun v_2 u_2 H locs hpo h => ?_)
  obtain ⟨rfl, rfl⟩ := hpo
  refine lv_iconst (v := (nI 1)) hx hy dX7_won_5 (by decide) ?_
  refine n_go0 C h (n_V (As := [.int (b2i (vIn lo0 4)), .int (nI 1)]) (rest := []) C h X (hr 100 (by decide)) ((cel_hi (by decide)).trans (celF_Mod _)) rfl (c_X7_no l hr M R o (vIn lo0 4) (nI 1)) (cwV 2 C.2.2.2.2.1 gX7_won_X7_no rfl rfl rfl (by decide +kernel) ⟨Nat.le_of_ble_eq_true rfl, Nat.le_of_ble_eq_true rfl⟩) rfl hl.1 rfl (Nat.le_of_ble_eq_true rfl) dX7_won_6 ⟨by decide, by decide⟩) (fun _ _ z => z) (fun v_6 u_6 H locs hpo h => ?_)
  obtain ⟨rfl, rfl⟩ := hpo
  refine b_eq hx hy (tgt := 16) dX7_won_9 (by decide) (fun c_9 => ?_) (fun c_9 => ?_)
  · skip
    rw [noV_t c_9] at h
    have hno_9 : vIn lo0 4 = true := not_ff c_9
    obtain ⟨lo, hlo, rfl⟩ := vIn_ok' hno_9 (by decide)
    have hv_lo : vIn (nI lo) 4 = true := vIn_nI hlo (by decide)
    have hi_lo : cI (nI lo) = lo := nI_clamp (by omega)
    refine lv_aload_n hx hy dX7_won_16 rfl (lv_at hl 0 rfl) ?_
    refine g_f C h (hr 100 (by decide)) (cel_hi (by decide)) celF_Mod rfl in_X7_won_X7 30 (by decide) (by decide +kernel) (v := .ref (V.1 131)) rfl dX7_won_17 ?_
    refine lv_iload_n hx hy dX7_won_20 rfl (lv_at hl 1 rfl) ?_
    refine g_i C h (hr 131 (by decide)) (n := 4) (k := lo) (cel_hi (by decide)) (fun _ => rfl) (by omega) (by decide) (v := (R 131 lo)) (show (wr R rMod 19 (nI 0)) 131 lo = (R 131 lo) from (wr_othr (by decide))) dX7_won_21 ?_
    exact e_int C h rfl dX7_won_22 (⟨_, rfl, by simp [kLoR, hno_9, hi_lo, hv_lo, c_9, suR], by simp [kLoR, thr, suR, hno_9, hi_lo, hv_lo, c_9]⟩) (by decide) (by decide)
  · skip
    rw [noV_f c_9] at h
    have hno_9 : vIn lo0 4 = false := not_tt c_9
    refine lv_iconst (v := (nI 0)) hx hy dX7_won_12 (by decide) ?_
    refine lv_goto (tgt := 22) hx hy dX7_won_13 (by decide) ?_
    exact e_int C h rfl dX7_won_22 (⟨_, rfl, by simp [kLoR, hno_9, c_9, suR], by simp [kLoR, thr, suR, hno_9, c_9]⟩) (by decide) (by decide)

set_option maxRecDepth 20000 in
theorem in_X7_truce_X7 : ∀ x ∈ wsX70, x ∈ wsX7_truce := by decide +kernel
set_option maxRecDepth 100000 in
set_option maxHeartbeats 4000000 in
/-- the reference: truce -/
theorem c_X7_truce (l : Launch) {G : va_G} {V : wV} {rs : List Nat} (hr : bR rs) (M R : wM) (o : wO) (rv : RV R) (fr wo : Int32) : CT l G V rs yX7_truce wsX7_truce 1 22 0 0 [.ref (V.1 rMod), .int fr, .int wo] (M, R, o) (fun v u => ∃ r, v = some (.int r) ∧ (kTruR R fr wo = 0 → r = nI (trN R)) ∧ u = (M, truRR R fr wo, o)) (fun _ _ => False) := by
  refine ct_of (cc := cX7_truce) (maxL := 3) (ret := (some .int)) (by decide) rfl (Nat.le_of_ble_eq_true rfl) ?_
  intro p e s m below meth cd ls C h X hT hl
  have hx := C.1
  have hy := C.2.1
  have hl : lv_has ls 3 [(0, .ref (V.1 rMod)), (1, .int fr), (2, .int wo)] := hl
  have hmn : ∀ c, c < 2 → R 101 c = nI (mnN R c) ∧ mnN R c ≤ 7 := fun c hc => ⟨(rv.1 c hc).1, (rv.1 c hc).2.1⟩
  have hwn : ∀ c, c < 2 → R 103 c = nI (wrN R c) ∧ wrN R c ≤ 60 := fun c hc => ⟨(rv.1 c hc).2.2.1, (rv.1 c hc).2.2.2.1⟩
  have hsi9 := rv.2.1.2
  have htr9 := rv.2.2.1.2
  refine lv_aload_n hx hy dX7_truce_0 rfl (lv_at hl 0 rfl) ?_
  refine lv_iload_n hx hy dX7_truce_1 rfl (lv_at hl 1 rfl) ?_
  refine n_go0 C h (n_S (As := [.int fr]) (rest := [.ref (V.1 rMod)]) C h X (c_X7_isCastle l M R o fr) (va_cwS 1 C.2.2.2.2.1 gX7_truce_X7_isCastle rfl rfl rfl (by decide +kernel) ⟨Nat.le_of_ble_eq_true rfl, Nat.le_of_ble_eq_true rfl⟩) rfl hl.1 rfl (Nat.le_of_ble_eq_true rfl) dX7_truce_2 ⟨by decide, by decide⟩) (fun _ _ z => z) (fun v_2 u_2 H locs hpo h => ?_)
  obtain ⟨rfl, rfl⟩ := hpo
  refine lv_iconst (v := (nI 1)) hx hy dX7_truce_5 (by decide) ?_
  refine n_go0 C h (n_V (As := [.int (b2i (vIn fr 2)), .int (nI 1)]) (rest := []) C h X (hr 100 (by decide)) ((cel_hi (by decide)).trans (celF_Mod _)) rfl (c_X7_no l hr M R o (vIn fr 2) (nI 1)) (cwV 2 C.2.2.2.2.1 gX7_truce_X7_no rfl rfl rfl (by decide +kernel) ⟨Nat.le_of_ble_eq_true rfl, Nat.le_of_ble_eq_true rfl⟩) rfl hl.1 rfl (Nat.le_of_ble_eq_true rfl) dX7_truce_6 ⟨by decide, by decide⟩) (fun _ _ z => z) (fun v_6 u_6 H locs hpo h => ?_)
  obtain ⟨rfl, rfl⟩ := hpo
  refine b_ne hx hy (tgt := 50) dX7_truce_9 (by decide) (fun c_9 => ?_) (fun c_9 => ?_)
  · skip
    rw [noV_f c_9] at h
    have hno_9 : vIn fr 2 = false := not_tt c_9
    refine lv_iconst (v := (nI 0)) hx hy dX7_truce_50 (by decide) ?_
    exact e_int C h rfl dX7_truce_51 (⟨_, rfl, by simp [kTruR, hno_9, c_9], by simp [truRR, kTruR, thr, hno_9, c_9]⟩) (by decide) (by decide)
  · skip
    rw [noV_t c_9] at h
    have hno_9 : vIn fr 2 = true := not_ff c_9
    obtain ⟨c, hc, rfl⟩ := vIn_ok' hno_9 (by decide)
    have hv_c : vIn (nI c) 2 = true := vIn_nI hc (by decide)
    have hi_c : cI (nI c) = c := nI_clamp (by omega)
    have hmn9 := (hmn c hc).2
    have hwn9 := (hwn c hc).2
    have hB := (rv.1 c hc).2.2.2.2.1
    have hEr := (rv.1 c hc).2.2.2.2.2.1
    have hU := (rv.1 c hc).2.2.2.2.2.2
    refine lv_aload_n hx hy dX7_truce_12 rfl (lv_at hl 0 rfl) ?_
    refine lv_iload_n hx hy dX7_truce_13 rfl (lv_at hl 2 rfl) ?_
    refine lv_iconst (v := (nI 1)) hx hy dX7_truce_14 (by decide) ?_
    refine lv_sipush (v := (nI 999)) hx hy dX7_truce_15 (by decide) ?_
    refine n_go0 C h (n_S (As := [.int wo, .int (nI 1), .int (nI 999)]) (rest := [.ref (V.1 rMod)]) C h X (c_X7_isIn l M (wr R rMod 19 (nI 0)) o wo (nI 1) (nI 999)) (va_cwS 3 C.2.2.2.2.1 gX7_truce_X7_isIn rfl rfl rfl (by decide +kernel) ⟨Nat.le_of_ble_eq_true rfl, Nat.le_of_ble_eq_true rfl⟩) rfl hl.1 rfl (Nat.le_of_ble_eq_true rfl) dX7_truce_18 ⟨by decide, by decide⟩) (fun _ _ z => z) (fun v_18 u_18 H locs hpo h => ?_)
    obtain ⟨rfl, rfl⟩ := hpo
    refine lv_iconst (v := (nI 2)) hx hy dX7_truce_21 (by decide) ?_
    refine n_go0 C h (n_V (As := [.int (b2i (vI wo (nI 1) (nI 999))), .int (nI 2)]) (rest := []) C h X (hr 100 (by decide)) ((cel_hi (by decide)).trans (celF_Mod _)) rfl (c_X7_no l hr M (wr R rMod 19 (nI 0)) o (vI wo (nI 1) (nI 999)) (nI 2)) (cwV 2 C.2.2.2.2.1 gX7_truce_X7_no rfl rfl rfl (by decide +kernel) ⟨Nat.le_of_ble_eq_true rfl, Nat.le_of_ble_eq_true rfl⟩) rfl hl.1 rfl (Nat.le_of_ble_eq_true rfl) dX7_truce_22 ⟨by decide, by decide⟩) (fun _ _ z => z) (fun v_22 u_22 H locs hpo h => ?_)
    obtain ⟨rfl, rfl⟩ := hpo
    refine b_ne hx hy (tgt := 50) dX7_truce_25 (by decide) (fun c_25 => ?_) (fun c_25 => ?_)
    · skip
      rw [noV_f c_25] at h
      rw [wr_wr] at h
      have hno_25 : vI wo (nI 1) (nI 999) = false := not_tt c_25
      refine lv_iconst (v := (nI 0)) hx hy dX7_truce_50 (by decide) ?_
      exact e_int C h rfl dX7_truce_51 (⟨_, rfl, by simp [kTruR, hno_9, hi_c, hv_c, hno_25, c_9, c_25], by simp [truRR, kTruR, thr, hno_9, hi_c, hv_c, hno_25, c_9, c_25]⟩) (by decide) (by decide)
    · skip
      rw [noV_t c_25] at h
      rw [wr_wr] at h
      have hno_25 : vI wo (nI 1) (nI 999) = true := not_ff c_25
      refine lv_aload_n hx hy dX7_truce_28 rfl (lv_at hl 0 rfl) ?_
      refine lv_aload_n hx hy dX7_truce_29 rfl (lv_at hl 0 rfl) ?_
      refine g_f C h (hr 100 (by decide)) (cel_hi (by decide)) celF_Mod rfl in_X7_truce_X7 17 (by decide) (by decide +kernel) (v := .int (nI (trN R))) (congrArg (fun z => some (Value.int z)) (show (wr R rMod 19 (nI 0)) rMod 17 = (nI (trN R)) from ((wr_othj (by decide)).trans rv.2.2.1.1))) dX7_truce_30 ?_
      refine lv_bipush (v := (nI 8)) hx hy dX7_truce_33 (by decide) ?_
      refine n_ge hx hy (by omega) (by decide) (tgt := 42) dX7_truce_35 (by decide) (fun c_35 => ?_) (fun c_35 => ?_)
      · skip
        refine lv_iconst (v := (nI 0)) hx hy dX7_truce_42 (by decide) ?_
        refine lv_iconst (v := (nI 3)) hx hy dX7_truce_43 (by decide) ?_
        refine n_go0 C h (n_V (As := [.int (b2i false), .int (nI 3)]) (rest := []) C h X (hr 100 (by decide)) ((cel_hi (by decide)).trans (celF_Mod _)) rfl (c_X7_no l hr M (wr R rMod 19 (nI 0)) o false (nI 3)) (cwV 2 C.2.2.2.2.1 gX7_truce_X7_no rfl rfl rfl (by decide +kernel) ⟨Nat.le_of_ble_eq_true rfl, Nat.le_of_ble_eq_true rfl⟩) rfl hl.1 rfl (Nat.le_of_ble_eq_true rfl) dX7_truce_44 ⟨by decide, by decide⟩) (fun _ _ z => z) (fun v_44 u_44 H locs hpo h => ?_)
        obtain ⟨rfl, rfl⟩ := hpo
        refine b_eq hx hy (tgt := 52) dX7_truce_47 (by decide) (fun c_47 => ?_) (fun c_47 => ?_)
        · skip
          exact absurd c_47 (by decide)
        · skip
          rw [noV_f c_47] at h
          rw [wr_wr] at h
          refine lv_iconst (v := (nI 0)) hx hy dX7_truce_50 (by decide) ?_
          exact e_int C h rfl dX7_truce_51 (⟨_, rfl, by simp [kTruR, hno_9, hi_c, hv_c, hno_25, c_9, c_25, eq_true c_35, eq_false (Nat.not_lt.mpr c_35), c_47], by simp [truRR, kTruR, thr, hno_9, hi_c, hv_c, hno_25, c_9, c_25, eq_true c_35, eq_false (Nat.not_lt.mpr c_35), c_47]⟩) (by decide) (by decide)
      · skip
        refine lv_iconst (v := (nI 1)) hx hy dX7_truce_38 (by decide) ?_
        refine lv_goto (tgt := 43) hx hy dX7_truce_39 (by decide) ?_
        refine lv_iconst (v := (nI 3)) hx hy dX7_truce_43 (by decide) ?_
        refine n_go0 C h (n_V (As := [.int (b2i true), .int (nI 3)]) (rest := []) C h X (hr 100 (by decide)) ((cel_hi (by decide)).trans (celF_Mod _)) rfl (c_X7_no l hr M (wr R rMod 19 (nI 0)) o true (nI 3)) (cwV 2 C.2.2.2.2.1 gX7_truce_X7_no rfl rfl rfl (by decide +kernel) ⟨Nat.le_of_ble_eq_true rfl, Nat.le_of_ble_eq_true rfl⟩) rfl hl.1 rfl (Nat.le_of_ble_eq_true rfl) dX7_truce_44 ⟨by decide, by decide⟩) (fun _ _ z => z) (fun v_44 u_44 H locs hpo h => ?_)
        obtain ⟨rfl, rfl⟩ := hpo
        refine b_eq hx hy (tgt := 52) dX7_truce_47 (by decide) (fun c_47 => ?_) (fun c_47 => ?_)
        · skip
          rw [noV_t c_47] at h
          rw [wr_wr] at h
          refine lv_aload_n hx hy dX7_truce_52 rfl (lv_at hl 0 rfl) ?_
          refine g_f C h (hr 100 (by decide)) (cel_hi (by decide)) celF_Mod rfl in_X7_truce_X7 26 (by decide) (by decide +kernel) (v := .ref (V.1 127)) rfl dX7_truce_53 ?_
          refine lv_aload_n hx hy dX7_truce_56 rfl (lv_at hl 0 rfl) ?_
          refine g_f C h (hr 100 (by decide)) (cel_hi (by decide)) celF_Mod rfl in_X7_truce_X7 17 (by decide) (by decide +kernel) (v := .int (nI (trN R))) (congrArg (fun z => some (Value.int z)) (show (wr R rMod 19 (nI 0)) rMod 17 = (nI (trN R)) from ((wr_othj (by decide)).trans rv.2.2.1.1))) dX7_truce_57 ?_
          refine lv_iload_n hx hy dX7_truce_60 rfl (lv_at hl 1 rfl) ?_
          refine s_iR C h (hr 127 (by decide)) (by decide) (n := 8) (k := (trN R)) (fun _ => rfl) (by omega) (by decide) (x := (nI c)) dX7_truce_61 (fun H locs h => ?_)
          refine lv_aload_n hx hy dX7_truce_62 rfl (lv_at hl 0 rfl) ?_
          refine g_f C h (hr 100 (by decide)) (cel_hi (by decide)) celF_Mod rfl in_X7_truce_X7 27 (by decide) (by decide +kernel) (v := .ref (V.1 128)) rfl dX7_truce_63 ?_
          refine lv_aload_n hx hy dX7_truce_66 rfl (lv_at hl 0 rfl) ?_
          refine g_f C h (hr 100 (by decide)) (cel_hi (by decide)) celF_Mod rfl in_X7_truce_X7 17 (by decide) (by decide +kernel) (v := .int (nI (trN R))) (congrArg (fun z => some (Value.int z)) (show (wr (wr R rMod 19 (nI 0)) 127 (trN R) (nI c)) rMod 17 = (nI (trN R)) from ((wr_othr (by decide)).trans ((wr_othj (by decide)).trans rv.2.2.1.1)))) dX7_truce_67 ?_
          refine lv_iload_n hx hy dX7_truce_70 rfl (lv_at hl 2 rfl) ?_
          refine s_iR C h (hr 128 (by decide)) (by decide) (n := 8) (k := (trN R)) (fun _ => rfl) (by omega) (by decide) (x := wo) dX7_truce_71 (fun H locs h => ?_)
          refine lv_aload_n hx hy dX7_truce_72 rfl (lv_at hl 0 rfl) ?_
          refine g_f C h (hr 100 (by decide)) (cel_hi (by decide)) celF_Mod rfl in_X7_truce_X7 28 (by decide) (by decide +kernel) (v := .ref (V.1 129)) rfl dX7_truce_73 ?_
          refine lv_aload_n hx hy dX7_truce_76 rfl (lv_at hl 0 rfl) ?_
          refine g_f C h (hr 100 (by decide)) (cel_hi (by decide)) celF_Mod rfl in_X7_truce_X7 17 (by decide) (by decide +kernel) (v := .int (nI (trN R))) (congrArg (fun z => some (Value.int z)) (show (wr (wr (wr R rMod 19 (nI 0)) 127 (trN R) (nI c)) 128 (trN R) wo) rMod 17 = (nI (trN R)) from ((wr_othr (by decide)).trans ((wr_othr (by decide)).trans ((wr_othj (by decide)).trans rv.2.2.1.1))))) dX7_truce_77 ?_
          refine lv_bipush (v := (nI 45)) hx hy dX7_truce_80 (by decide) ?_
          refine s_cR C h (hr 129 (by decide)) (by decide) (n := 8) (k := (trN R)) (fun _ => rfl) (by omega) (by decide) (x := (nI 45)) (by decide) dX7_truce_82 (fun H locs h => ?_)
          refine lv_aload_n hx hy dX7_truce_83 rfl (lv_at hl 0 rfl) ?_
          refine g_f C h (hr 100 (by decide)) (cel_hi (by decide)) celF_Mod rfl in_X7_truce_X7 29 (by decide) (by decide +kernel) (v := .ref (V.1 130)) rfl dX7_truce_84 ?_
          refine lv_iconst (v := (nI 2)) hx hy dX7_truce_87 (by decide) ?_
          refine lv_aload_n hx hy dX7_truce_88 rfl (lv_at hl 0 rfl) ?_
          refine g_f C h (hr 100 (by decide)) (cel_hi (by decide)) celF_Mod rfl in_X7_truce_X7 17 (by decide) (by decide +kernel) (v := .int (nI (trN R))) (congrArg (fun z => some (Value.int z)) (show (wr (wr (wr (wr R rMod 19 (nI 0)) 127 (trN R) (nI c)) 128 (trN R) wo) 129 (trN R) (nI 45)) rMod 17 = (nI (trN R)) from ((wr_othr (by decide)).trans ((wr_othr (by decide)).trans ((wr_othr (by decide)).trans ((wr_othj (by decide)).trans rv.2.2.1.1)))))) dX7_truce_89 ?_
          refine lv_imul hx hy dX7_truce_92 ?_
          refine lv_topn (pk_mul _ _) ?_
          refine lv_bipush (v := (nI 45)) hx hy dX7_truce_93 (by decide) ?_
          refine s_cR C h (hr 130 (by decide)) (by decide) (n := 16) (k := (2 * (trN R))) (fun _ => rfl) (by omega) (by decide) (x := (nI 45)) (by decide) dX7_truce_95 (fun H locs h => ?_)
          refine lv_aload_n hx hy dX7_truce_96 rfl (lv_at hl 0 rfl) ?_
          refine g_f C h (hr 100 (by decide)) (cel_hi (by decide)) celF_Mod rfl in_X7_truce_X7 29 (by decide) (by decide +kernel) (v := .ref (V.1 130)) rfl dX7_truce_97 ?_
          refine lv_iconst (v := (nI 2)) hx hy dX7_truce_100 (by decide) ?_
          refine lv_aload_n hx hy dX7_truce_101 rfl (lv_at hl 0 rfl) ?_
          refine g_f C h (hr 100 (by decide)) (cel_hi (by decide)) celF_Mod rfl in_X7_truce_X7 17 (by decide) (by decide +kernel) (v := .int (nI (trN R))) (congrArg (fun z => some (Value.int z)) (show (wr (wr (wr (wr (wr R rMod 19 (nI 0)) 127 (trN R) (nI c)) 128 (trN R) wo) 129 (trN R) (nI 45)) 130 (2 * (trN R)) (nI 45)) rMod 17 = (nI (trN R)) from ((wr_othr (by decide)).trans ((wr_othr (by decide)).trans ((wr_othr (by decide)).trans ((wr_othr (by decide)).trans ((wr_othj (by decide)).trans rv.2.2.1.1))))))) dX7_truce_102 ?_
          refine lv_imul hx hy dX7_truce_105 ?_
          refine lv_topn (pk_mul _ _) ?_
          refine lv_iconst (v := (nI 1)) hx hy dX7_truce_106 (by decide) ?_
          refine lv_iadd hx hy dX7_truce_107 ?_
          refine lv_topn (nI_add _ _) ?_
          refine lv_bipush (v := (nI 45)) hx hy dX7_truce_108 (by decide) ?_
          refine s_cR C h (hr 130 (by decide)) (by decide) (n := 16) (k := ((2 * (trN R)) + 1)) (fun _ => rfl) (by omega) (by decide) (x := (nI 45)) (by decide) dX7_truce_110 (fun H locs h => ?_)
          refine lv_aload_n hx hy dX7_truce_111 rfl (lv_at hl 0 rfl) ?_
          refine lv_dup hx hy dX7_truce_112 rfl ?_
          refine g_f C h (hr 100 (by decide)) (cel_hi (by decide)) celF_Mod rfl in_X7_truce_X7 17 (by decide) (by decide +kernel) (v := .int (nI (trN R))) (congrArg (fun z => some (Value.int z)) (show (wr (wr (wr (wr (wr (wr R rMod 19 (nI 0)) 127 (trN R) (nI c)) 128 (trN R) wo) 129 (trN R) (nI 45)) 130 (2 * (trN R)) (nI 45)) 130 ((2 * (trN R)) + 1) (nI 45)) rMod 17 = (nI (trN R)) from ((wr_othr (by decide)).trans ((wr_othr (by decide)).trans ((wr_othr (by decide)).trans ((wr_othr (by decide)).trans ((wr_othr (by decide)).trans ((wr_othj (by decide)).trans rv.2.2.1.1)))))))) dX7_truce_113 ?_
          refine lv_iconst (v := (nI 1)) hx hy dX7_truce_116 (by decide) ?_
          refine lv_iadd hx hy dX7_truce_117 ?_
          refine lv_topn (nI_add _ _) ?_
          refine p_fR C h (hr 100 (by decide)) (by decide) celF_Mod rfl in_X7_truce_X7 tyX7_ok nmX7 17 (by decide) (by decide +kernel) rfl (v := .int (nI ((trN R) + 1))) (x := (nI ((trN R) + 1))) rfl rfl (fun _ => Nat.le_of_ble_eq_true rfl) (fun _ => rfl) dX7_truce_118 (fun H locs h => ?_)
          refine lv_aload_n hx hy dX7_truce_121 rfl (lv_at hl 0 rfl) ?_
          refine g_f C h (hr 100 (by decide)) (cel_hi (by decide)) celF_Mod rfl in_X7_truce_X7 17 (by decide) (by decide +kernel) (v := .int (nI ((trN R) + 1))) (congrArg (fun z => some (Value.int z)) (show (wr (wr (wr (wr (wr (wr (wr R rMod 19 (nI 0)) 127 (trN R) (nI c)) 128 (trN R) wo) 129 (trN R) (nI 45)) 130 (2 * (trN R)) (nI 45)) 130 ((2 * (trN R)) + 1) (nI 45)) rMod 17 (nI ((trN R) + 1))) rMod 17 = (nI ((trN R) + 1)) from (wr_same _ _ _ _))) dX7_truce_122 ?_
          refine lv_iconst (v := (nI 1)) hx hy dX7_truce_125 (by decide) ?_
          refine lv_isub hx hy dX7_truce_126 ?_
          exact e_int C h rfl dX7_truce_127 (⟨_, rfl, by rw [show nI 1 = (1 : Int32) from rfl, nI_pred]; simp, by simp [truRR, kTruR, thr, hno_9, hi_c, hv_c, hno_25, c_9, c_25, eq_true c_35, eq_false (Nat.not_le.mpr c_35), c_47]⟩) (by decide) (by decide)
        · skip
          exact absurd c_47 (by decide)

set_option maxRecDepth 20000 in
theorem in_X7_prepare_X7 : ∀ x ∈ wsX70, x ∈ wsX7_prepare := by decide +kernel
set_option maxRecDepth 100000 in
set_option maxHeartbeats 4000000 in
/-- the reference: prepare -/
theorem c_X7_prepare (l : Launch) {G : va_G} {V : wV} {rs : List Nat} (hr : bR rs) (M R : wM) (o : wO) (rv : RV R) (tr0 ca lo0 : Int32) : CT l G V rs yX7_prepare wsX7_prepare 4 92 0 0 [.ref (V.1 rMod), .int tr0, .int ca, .int lo0] (M, R, o) (fun v u => ∃ r, v = some (.int r) ∧ (kPreR R tr0 ca lo0 = 0 → r = nI (wrN R (cI ca))) ∧ u = (M, preRR R tr0 ca lo0, o)) (fun _ _ => False) := by
  refine ct_of (cc := cX7_prepare) (maxL := 6) (ret := (some .int)) (by decide) rfl (Nat.le_of_ble_eq_true rfl) ?_
  intro p e s m below meth cd ls C h X hT hl
  have hx := C.1
  have hy := C.2.1
  have hl : lv_has ls 6 [(0, .ref (V.1 rMod)), (1, .int tr0), (2, .int ca), (3, .int lo0)] := hl
  have hmn : ∀ c, c < 2 → R 101 c = nI (mnN R c) ∧ mnN R c ≤ 7 := fun c hc => ⟨(rv.1 c hc).1, (rv.1 c hc).2.1⟩
  have hwn : ∀ c, c < 2 → R 103 c = nI (wrN R c) ∧ wrN R c ≤ 60 := fun c hc => ⟨(rv.1 c hc).2.2.1, (rv.1 c hc).2.2.2.1⟩
  have hsi9 := rv.2.1.2
  have htr9 := rv.2.2.1.2
  refine lv_aload_n hx hy dX7_prepare_0 rfl (lv_at hl 0 rfl) ?_
  refine lv_aload_n hx hy dX7_prepare_1 rfl (lv_at hl 0 rfl) ?_
  refine lv_iload_n hx hy dX7_prepare_2 rfl (lv_at hl 1 rfl) ?_
  refine n_go0 C h (n_V (As := [.int tr0]) (rest := [.ref (V.1 rMod)]) C h X (hr 100 (by decide)) ((cel_hi (by decide)).trans (celF_Mod _)) rfl (c_X7_isTruce l hr M R o (trN R) htr9 (show R rMod 17 = nI (trN R) from rv.2.2.1.1) tr0) (cwV 1 C.2.2.2.2.1 gX7_prepare_X7_isTruce rfl rfl rfl (by decide +kernel) ⟨Nat.le_of_ble_eq_true rfl, Nat.le_of_ble_eq_true rfl⟩) rfl hl.1 rfl (Nat.le_of_ble_eq_true rfl) dX7_prepare_3 ⟨by decide, by decide⟩) (fun _ _ z => z) (fun v_3 u_3 H locs hpo h => ?_)
  obtain ⟨rfl, rfl⟩ := hpo
  refine b_eq hx hy (tgt := 27) dX7_prepare_6 (by decide) (fun c_6 => ?_) (fun c_6 => ?_)
  · skip
    refine lv_iconst (v := (nI 0)) hx hy dX7_prepare_27 (by decide) ?_
    refine lv_iconst (v := (nI 1)) hx hy dX7_prepare_28 (by decide) ?_
    refine n_go0 C h (n_V (As := [.int (b2i false), .int (nI 1)]) (rest := []) C h X (hr 100 (by decide)) ((cel_hi (by decide)).trans (celF_Mod _)) rfl (c_X7_no l hr M R o false (nI 1)) (cwV 2 C.2.2.2.2.1 gX7_prepare_X7_no rfl rfl rfl (by decide +kernel) ⟨Nat.le_of_ble_eq_true rfl, Nat.le_of_ble_eq_true rfl⟩) rfl hl.1 rfl (Nat.le_of_ble_eq_true rfl) dX7_prepare_29 ⟨by decide, by decide⟩) (fun _ _ z => z) (fun v_29 u_29 H locs hpo h => ?_)
    obtain ⟨rfl, rfl⟩ := hpo
    refine b_eq hx hy (tgt := 37) dX7_prepare_32 (by decide) (fun c_32 => ?_) (fun c_32 => ?_)
    · skip
      exact absurd c_32 (by decide)
    · skip
      rw [noV_f c_32] at h
      refine lv_iconst (v := (nI 0)) hx hy dX7_prepare_35 (by decide) ?_
      exact e_int C h rfl dX7_prepare_36 (⟨_, rfl, by simp [kPreR, preBR, c_6, c_32], by simp [preRR, kPreR, preBR, thr, c_6, c_32]⟩) (by decide) (by decide)
  · skip
    obtain ⟨k, hk, rfl⟩ := vIn_ok' c_6 (by omega)
    have hv_k : vIn (nI k) (trN R) = true := vIn_nI hk (by omega)
    have hi_k : cI (nI k) = k := nI_clamp (by omega)
    have hk8 : k < 8 := by omega
    have hT9 := rv.2.2.2.2 k hk
    refine lv_iload_n hx hy dX7_prepare_9 rfl (lv_at hl 2 rfl) ?_
    refine n_go0 C h (n_S (As := [.int ca]) (rest := [.ref (V.1 rMod)]) C h X (c_X7_isCastle l M R o ca) (va_cwS 1 C.2.2.2.2.1 gX7_prepare_X7_isCastle rfl rfl rfl (by decide +kernel) ⟨Nat.le_of_ble_eq_true rfl, Nat.le_of_ble_eq_true rfl⟩) rfl hl.1 rfl (Nat.le_of_ble_eq_true rfl) dX7_prepare_10 ⟨by decide, by decide⟩) (fun _ _ z => z) (fun v_10 u_10 H locs hpo h => ?_)
    obtain ⟨rfl, rfl⟩ := hpo
    refine b_eq hx hy (tgt := 27) dX7_prepare_13 (by decide) (fun c_13 => ?_) (fun c_13 => ?_)
    · skip
      refine lv_iconst (v := (nI 0)) hx hy dX7_prepare_27 (by decide) ?_
      refine lv_iconst (v := (nI 1)) hx hy dX7_prepare_28 (by decide) ?_
      refine n_go0 C h (n_V (As := [.int (b2i false), .int (nI 1)]) (rest := []) C h X (hr 100 (by decide)) ((cel_hi (by decide)).trans (celF_Mod _)) rfl (c_X7_no l hr M R o false (nI 1)) (cwV 2 C.2.2.2.2.1 gX7_prepare_X7_no rfl rfl rfl (by decide +kernel) ⟨Nat.le_of_ble_eq_true rfl, Nat.le_of_ble_eq_true rfl⟩) rfl hl.1 rfl (Nat.le_of_ble_eq_true rfl) dX7_prepare_29 ⟨by decide, by decide⟩) (fun _ _ z => z) (fun v_29 u_29 H locs hpo h => ?_)
      obtain ⟨rfl, rfl⟩ := hpo
      refine b_eq hx hy (tgt := 37) dX7_prepare_32 (by decide) (fun c_32 => ?_) (fun c_32 => ?_)
      · skip
        exact absurd c_32 (by decide)
      · skip
        rw [noV_f c_32] at h
        refine lv_iconst (v := (nI 0)) hx hy dX7_prepare_35 (by decide) ?_
        exact e_int C h rfl dX7_prepare_36 (⟨_, rfl, by simp [kPreR, preBR, hi_k, hv_k, c_6, c_13, c_32], by simp [preRR, kPreR, preBR, thr, hi_k, hv_k, c_6, c_13, c_32]⟩) (by decide) (by decide)
    · skip
      obtain ⟨c, hc, rfl⟩ := vIn_ok' c_13 (by decide)
      have hv_c : vIn (nI c) 2 = true := vIn_nI hc (by decide)
      have hi_c : cI (nI c) = c := nI_clamp (by omega)
      have hmn9 := (hmn c hc).2
      have hwn9 := (hwn c hc).2
      have hB := (rv.1 c hc).2.2.2.2.1
      have hEr := (rv.1 c hc).2.2.2.2.2.1
      have hU := (rv.1 c hc).2.2.2.2.2.2
      refine lv_iload_n hx hy dX7_prepare_16 rfl (lv_at hl 3 rfl) ?_
      refine n_go0 C h (n_S (As := [.int lo0]) (rest := [.ref (V.1 rMod)]) C h X (c_X7_isLord l M R o lo0) (va_cwS 1 C.2.2.2.2.1 gX7_prepare_X7_isLord rfl rfl rfl (by decide +kernel) ⟨Nat.le_of_ble_eq_true rfl, Nat.le_of_ble_eq_true rfl⟩) rfl hl.1 rfl (Nat.le_of_ble_eq_true rfl) dX7_prepare_17 ⟨by decide, by decide⟩) (fun _ _ z => z) (fun v_17 u_17 H locs hpo h => ?_)
      obtain ⟨rfl, rfl⟩ := hpo
      refine b_eq hx hy (tgt := 27) dX7_prepare_20 (by decide) (fun c_20 => ?_) (fun c_20 => ?_)
      · skip
        refine lv_iconst (v := (nI 0)) hx hy dX7_prepare_27 (by decide) ?_
        refine lv_iconst (v := (nI 1)) hx hy dX7_prepare_28 (by decide) ?_
        refine n_go0 C h (n_V (As := [.int (b2i false), .int (nI 1)]) (rest := []) C h X (hr 100 (by decide)) ((cel_hi (by decide)).trans (celF_Mod _)) rfl (c_X7_no l hr M R o false (nI 1)) (cwV 2 C.2.2.2.2.1 gX7_prepare_X7_no rfl rfl rfl (by decide +kernel) ⟨Nat.le_of_ble_eq_true rfl, Nat.le_of_ble_eq_true rfl⟩) rfl hl.1 rfl (Nat.le_of_ble_eq_true rfl) dX7_prepare_29 ⟨by decide, by decide⟩) (fun _ _ z => z) (fun v_29 u_29 H locs hpo h => ?_)
        obtain ⟨rfl, rfl⟩ := hpo
        refine b_eq hx hy (tgt := 37) dX7_prepare_32 (by decide) (fun c_32 => ?_) (fun c_32 => ?_)
        · skip
          exact absurd c_32 (by decide)
        · skip
          rw [noV_f c_32] at h
          refine lv_iconst (v := (nI 0)) hx hy dX7_prepare_35 (by decide) ?_
          exact e_int C h rfl dX7_prepare_36 (⟨_, rfl, by simp [kPreR, preBR, hi_k, hv_k, hi_c, hv_c, c_6, c_13, c_20, c_32], by simp [preRR, kPreR, preBR, thr, hi_k, hv_k, hi_c, hv_c, c_6, c_13, c_20, c_32]⟩) (by decide) (by decide)
      · skip
        obtain ⟨lo, hlo, rfl⟩ := vIn_ok' c_20 (by decide)
        have hv_lo : vIn (nI lo) 4 = true := vIn_nI hlo (by decide)
        have hi_lo : cI (nI lo) = lo := nI_clamp (by omega)
        refine lv_iconst (v := (nI 1)) hx hy dX7_prepare_23 (by decide) ?_
        refine lv_goto (tgt := 28) hx hy dX7_prepare_24 (by decide) ?_
        refine lv_iconst (v := (nI 1)) hx hy dX7_prepare_28 (by decide) ?_
        refine n_go0 C h (n_V (As := [.int (b2i true), .int (nI 1)]) (rest := []) C h X (hr 100 (by decide)) ((cel_hi (by decide)).trans (celF_Mod _)) rfl (c_X7_no l hr M R o true (nI 1)) (cwV 2 C.2.2.2.2.1 gX7_prepare_X7_no rfl rfl rfl (by decide +kernel) ⟨Nat.le_of_ble_eq_true rfl, Nat.le_of_ble_eq_true rfl⟩) rfl hl.1 rfl (Nat.le_of_ble_eq_true rfl) dX7_prepare_29 ⟨by decide, by decide⟩) (fun _ _ z => z) (fun v_29 u_29 H locs hpo h => ?_)
        obtain ⟨rfl, rfl⟩ := hpo
        refine b_eq hx hy (tgt := 37) dX7_prepare_32 (by decide) (fun c_32 => ?_) (fun c_32 => ?_)
        · skip
          rw [noV_t c_32] at h
          refine lv_aload_n hx hy dX7_prepare_37 rfl (lv_at hl 0 rfl) ?_
          refine lv_iload_n hx hy dX7_prepare_38 rfl (lv_at hl 2 rfl) ?_
          refine n_go0 C h (n_V (As := [.int (nI c)]) (rest := []) C h X (hr 100 (by decide)) ((cel_hi (by decide)).trans (celF_Mod _)) rfl (c_X7_hangs l hr M (wr R rMod 19 (nI 0)) o c hc (wrN R c) hwn9 (show (wr R rMod 19 (nI 0)) 103 c = nI (wrN R c) from ((wr_othr (by decide)).trans (hwn c hc).1)) hB) (cwV 1 C.2.2.2.2.1 gX7_prepare_X7_hangs rfl rfl rfl (by decide +kernel) ⟨Nat.le_of_ble_eq_true rfl, Nat.le_of_ble_eq_true rfl⟩) rfl hl.1 rfl (Nat.le_of_ble_eq_true rfl) dX7_prepare_39 ⟨by decide, by decide⟩) (fun _ _ z => z) (fun v_39 u_39 H locs hpo h => ?_)
          obtain ⟨rfl, rfl⟩ := hpo
          refine b_ne hx hy (tgt := 83) dX7_prepare_42 (by decide) (fun c_42 => ?_) (fun c_42 => ?_)
          · skip
            refine lv_iconst (v := (nI 0)) hx hy dX7_prepare_83 (by decide) ?_
            refine lv_istore (lv' := [(4, .int (nI 0)), (0, .ref (V.1 rMod)), (1, .int (nI k)), (2, .int (nI c)), (3, .int (nI lo))]) hx hy dX7_prepare_84 hl (by decide) rfl (fun ls hl => ?_)
            refine lv_aload_n hx hy dX7_prepare_86 rfl (lv_at hl 1 rfl) ?_
            refine g_f C h (hr 100 (by decide)) (cel_hi (by decide)) celF_Mod rfl in_X7_prepare_X7 26 (by decide) (by decide +kernel) (v := .ref (V.1 127)) rfl dX7_prepare_87 ?_
            refine lv_iload_n hx hy dX7_prepare_90 rfl (lv_at hl 2 rfl) ?_
            refine g_i C h (hr 127 (by decide)) (n := 8) (k := k) (cel_hi (by decide)) (fun _ => rfl) (by omega) (by decide) (v := (R 127 k)) (show (suM (wr R rMod 19 (nI 0)) c (wrN R c)) 127 k = (R 127 k) from ((congrFun (suM_ne (by decide) (by decide)) _).trans (wr_othr (by decide)))) dX7_prepare_91 ?_
            refine lv_iload_n hx hy dX7_prepare_92 rfl (lv_at hl 3 rfl) ?_
            refine i_ne hx hy (tgt := 114) dX7_prepare_93 (by decide) (fun c_93 => ?_) (fun c_93 => ?_)
            · skip
              refine lv_iconst (v := (nI 1)) hx hy dX7_prepare_114 (by decide) ?_
              refine lv_goto (tgt := 119) hx hy dX7_prepare_115 (by decide) ?_
              refine lv_istore (lv' := [(5, .int (nI 1)), (4, .int (nI 0)), (0, .ref (V.1 rMod)), (1, .int (nI k)), (2, .int (nI c)), (3, .int (nI lo))]) hx hy dX7_prepare_119 hl (by decide) rfl (fun ls hl => ?_)
              refine lv_aload_n hx hy dX7_prepare_121 rfl (lv_at hl 2 rfl) ?_
              refine lv_iload hx hy dX7_prepare_122 (lv_at hl 1 rfl) ?_
              refine nz_eq hx hy (by omega) (tgt := 150) dX7_prepare_124 (by decide) (fun c_124 => ?_) (fun c_124 => ?_)
              · skip
                refine lv_iconst (v := (nI 0)) hx hy dX7_prepare_150 (by decide) ?_
                refine lv_iconst (v := (nI 2)) hx hy dX7_prepare_151 (by decide) ?_
                refine n_go0 C h (n_V (As := [.int (b2i false), .int (nI 2)]) (rest := []) C h X (hr 100 (by decide)) ((cel_hi (by decide)).trans (celF_Mod _)) rfl (c_X7_no l hr M (suM (wr R rMod 19 (nI 0)) c (wrN R c)) o false (nI 2)) (cwV 2 C.2.2.2.2.1 gX7_prepare_X7_no rfl rfl rfl (by decide +kernel) ⟨Nat.le_of_ble_eq_true rfl, Nat.le_of_ble_eq_true rfl⟩) rfl hl.1 rfl (Nat.le_of_ble_eq_true rfl) dX7_prepare_152 ⟨by decide, by decide⟩) (fun _ _ z => z) (fun v_152 u_152 H locs hpo h => ?_)
                obtain ⟨rfl, rfl⟩ := hpo
                refine b_ne hx hy (tgt := 182) dX7_prepare_155 (by decide) (fun c_155 => ?_) (fun c_155 => ?_)
                · skip
                  rw [noV_f c_155] at h
                  refine lv_iconst (v := (nI 0)) hx hy dX7_prepare_182 (by decide) ?_
                  exact e_int C h rfl dX7_prepare_183 (⟨_, rfl, by simp [kPreR, preBR, hi_k, hv_k, hi_c, hv_c, hi_lo, hv_lo, c_6, c_13, c_20, c_32, c_42, eq_false c_93, eq_true c_124, c_155], by simp [preRR, kPreR, preBR, thr, hi_k, hv_k, hi_c, hv_c, hi_lo, hv_lo, c_6, c_13, c_20, c_32, c_42, eq_false c_93, eq_true c_124, c_155]⟩) (by decide) (by decide)
                · skip
                  exact absurd c_155 (by decide)
              · skip
                exact absurd c_124 (by decide)
            · skip
              refine lv_aload_n hx hy dX7_prepare_96 rfl (lv_at hl 1 rfl) ?_
              refine g_f C h (hr 100 (by decide)) (cel_hi (by decide)) celF_Mod rfl in_X7_prepare_X7 31 (by decide) (by decide +kernel) (v := .int ((suM (wr R rMod 19 (nI 0)) c (wrN R c)) rMod 31)) rfl dX7_prepare_97 ?_
              refine lv_aload_n hx hy dX7_prepare_100 rfl (lv_at hl 1 rfl) ?_
              refine g_f C h (hr 100 (by decide)) (cel_hi (by decide)) celF_Mod rfl in_X7_prepare_X7 32 (by decide) (by decide +kernel) (v := .int ((suM (wr R rMod 19 (nI 0)) c (wrN R c)) rMod 32)) rfl dX7_prepare_101 ?_
              refine lv_isub hx hy dX7_prepare_104 ?_
              refine lv_aload_n hx hy dX7_prepare_105 rfl (lv_at hl 1 rfl) ?_
              refine g_f C h (hr 100 (by decide)) (cel_hi (by decide)) celF_Mod rfl in_X7_prepare_X7 27 (by decide) (by decide +kernel) (v := .ref (V.1 128)) rfl dX7_prepare_106 ?_
              refine lv_iload_n hx hy dX7_prepare_109 rfl (lv_at hl 2 rfl) ?_
              refine g_i C h (hr 128 (by decide)) (n := 8) (k := k) (cel_hi (by decide)) (fun _ => rfl) (by omega) (by decide) (v := (R 128 k)) (show (suM (wr R rMod 19 (nI 0)) c (wrN R c)) 128 k = (R 128 k) from ((congrFun (suM_ne (by decide) (by decide)) _).trans (wr_othr (by decide)))) dX7_prepare_110 ?_
              refine i_lt hx hy (tgt := 118) dX7_prepare_111 (by decide) (fun c_111 => ?_) (fun c_111 => ?_)
              · skip
                refine lv_iconst (v := (nI 0)) hx hy dX7_prepare_118 (by decide) ?_
                refine lv_istore (lv' := [(5, .int (nI 0)), (4, .int (nI 0)), (0, .ref (V.1 rMod)), (1, .int (nI k)), (2, .int (nI c)), (3, .int (nI lo))]) hx hy dX7_prepare_119 hl (by decide) rfl (fun ls hl => ?_)
                refine lv_aload_n hx hy dX7_prepare_121 rfl (lv_at hl 2 rfl) ?_
                refine lv_iload hx hy dX7_prepare_122 (lv_at hl 1 rfl) ?_
                refine nz_eq hx hy (by omega) (tgt := 150) dX7_prepare_124 (by decide) (fun c_124 => ?_) (fun c_124 => ?_)
                · skip
                  refine lv_iconst (v := (nI 0)) hx hy dX7_prepare_150 (by decide) ?_
                  refine lv_iconst (v := (nI 2)) hx hy dX7_prepare_151 (by decide) ?_
                  refine n_go0 C h (n_V (As := [.int (b2i false), .int (nI 2)]) (rest := []) C h X (hr 100 (by decide)) ((cel_hi (by decide)).trans (celF_Mod _)) rfl (c_X7_no l hr M (suM (wr R rMod 19 (nI 0)) c (wrN R c)) o false (nI 2)) (cwV 2 C.2.2.2.2.1 gX7_prepare_X7_no rfl rfl rfl (by decide +kernel) ⟨Nat.le_of_ble_eq_true rfl, Nat.le_of_ble_eq_true rfl⟩) rfl hl.1 rfl (Nat.le_of_ble_eq_true rfl) dX7_prepare_152 ⟨by decide, by decide⟩) (fun _ _ z => z) (fun v_152 u_152 H locs hpo h => ?_)
                  obtain ⟨rfl, rfl⟩ := hpo
                  refine b_ne hx hy (tgt := 182) dX7_prepare_155 (by decide) (fun c_155 => ?_) (fun c_155 => ?_)
                  · skip
                    rw [noV_f c_155] at h
                    refine lv_iconst (v := (nI 0)) hx hy dX7_prepare_182 (by decide) ?_
                    exact e_int C h rfl dX7_prepare_183 (⟨_, rfl, by simp [kPreR, preBR, hi_k, hv_k, hi_c, hv_c, hi_lo, hv_lo, c_6, c_13, c_20, c_32, c_42, eq_true c_93, eq_true c_111, eq_false (Int32.not_le.mpr c_111), eq_true c_124, c_155], by simp [preRR, kPreR, preBR, thr, hi_k, hv_k, hi_c, hv_c, hi_lo, hv_lo, c_6, c_13, c_20, c_32, c_42, eq_true c_93, eq_true c_111, eq_false (Int32.not_le.mpr c_111), eq_true c_124, c_155]⟩) (by decide) (by decide)
                  · skip
                    exact absurd c_155 (by decide)
                · skip
                  exact absurd c_124 (by decide)
              · skip
                refine lv_iconst (v := (nI 1)) hx hy dX7_prepare_114 (by decide) ?_
                refine lv_goto (tgt := 119) hx hy dX7_prepare_115 (by decide) ?_
                refine lv_istore (lv' := [(5, .int (nI 1)), (4, .int (nI 0)), (0, .ref (V.1 rMod)), (1, .int (nI k)), (2, .int (nI c)), (3, .int (nI lo))]) hx hy dX7_prepare_119 hl (by decide) rfl (fun ls hl => ?_)
                refine lv_aload_n hx hy dX7_prepare_121 rfl (lv_at hl 2 rfl) ?_
                refine lv_iload hx hy dX7_prepare_122 (lv_at hl 1 rfl) ?_
                refine nz_eq hx hy (by omega) (tgt := 150) dX7_prepare_124 (by decide) (fun c_124 => ?_) (fun c_124 => ?_)
                · skip
                  refine lv_iconst (v := (nI 0)) hx hy dX7_prepare_150 (by decide) ?_
                  refine lv_iconst (v := (nI 2)) hx hy dX7_prepare_151 (by decide) ?_
                  refine n_go0 C h (n_V (As := [.int (b2i false), .int (nI 2)]) (rest := []) C h X (hr 100 (by decide)) ((cel_hi (by decide)).trans (celF_Mod _)) rfl (c_X7_no l hr M (suM (wr R rMod 19 (nI 0)) c (wrN R c)) o false (nI 2)) (cwV 2 C.2.2.2.2.1 gX7_prepare_X7_no rfl rfl rfl (by decide +kernel) ⟨Nat.le_of_ble_eq_true rfl, Nat.le_of_ble_eq_true rfl⟩) rfl hl.1 rfl (Nat.le_of_ble_eq_true rfl) dX7_prepare_152 ⟨by decide, by decide⟩) (fun _ _ z => z) (fun v_152 u_152 H locs hpo h => ?_)
                  obtain ⟨rfl, rfl⟩ := hpo
                  refine b_ne hx hy (tgt := 182) dX7_prepare_155 (by decide) (fun c_155 => ?_) (fun c_155 => ?_)
                  · skip
                    rw [noV_f c_155] at h
                    refine lv_iconst (v := (nI 0)) hx hy dX7_prepare_182 (by decide) ?_
                    exact e_int C h rfl dX7_prepare_183 (⟨_, rfl, by simp [kPreR, preBR, hi_k, hv_k, hi_c, hv_c, hi_lo, hv_lo, c_6, c_13, c_20, c_32, c_42, eq_true c_93, eq_true c_111, eq_false (Int32.not_lt.mpr c_111), eq_true c_124, c_155], by simp [preRR, kPreR, preBR, thr, hi_k, hv_k, hi_c, hv_c, hi_lo, hv_lo, c_6, c_13, c_20, c_32, c_42, eq_true c_93, eq_true c_111, eq_false (Int32.not_lt.mpr c_111), eq_true c_124, c_155]⟩) (by decide) (by decide)
                  · skip
                    exact absurd c_155 (by decide)
                · skip
                  exact absurd c_124 (by decide)
          · skip
            refine lv_aload_n hx hy dX7_prepare_45 rfl (lv_at hl 0 rfl) ?_
            refine lv_iload_n hx hy dX7_prepare_46 rfl (lv_at hl 2 rfl) ?_
            refine n_go0 C h (n_V (As := [.int (nI c)]) (rest := []) C h X (hr 100 (by decide)) ((cel_hi (by decide)).trans (celF_Mod _)) rfl (c_X7_prepared l hr M (suM (wr R rMod 19 (nI 0)) c (wrN R c)) o c hc (trN R) htr9 (show (suM (wr R rMod 19 (nI 0)) c (wrN R c)) rMod 17 = nI (trN R) from ((suM_oth (by decide) (by decide) (by decide)).trans ((wr_othj (by decide)).trans rv.2.2.1.1)))) (cwV 1 C.2.2.2.2.1 gX7_prepare_X7_prepared rfl rfl rfl (by decide +kernel) ⟨Nat.le_of_ble_eq_true rfl, Nat.le_of_ble_eq_true rfl⟩) rfl hl.1 rfl (Nat.le_of_ble_eq_true rfl) dX7_prepare_47 ⟨by decide, by decide⟩) (fun _ _ z => z) (fun v_47 u_47 H locs hpo h => ?_)
            obtain ⟨rfl, rfl⟩ := hpo
            refine z_ge hx hy (tgt := 83) dX7_prepare_50 (by decide) (fun c_50 => ?_) (fun c_50 => ?_)
            · skip
              refine lv_iconst (v := (nI 0)) hx hy dX7_prepare_83 (by decide) ?_
              refine lv_istore (lv' := [(4, .int (nI 0)), (0, .ref (V.1 rMod)), (1, .int (nI k)), (2, .int (nI c)), (3, .int (nI lo))]) hx hy dX7_prepare_84 hl (by decide) rfl (fun ls hl => ?_)
              refine lv_aload_n hx hy dX7_prepare_86 rfl (lv_at hl 1 rfl) ?_
              refine g_f C h (hr 100 (by decide)) (cel_hi (by decide)) celF_Mod rfl in_X7_prepare_X7 26 (by decide) (by decide +kernel) (v := .ref (V.1 127)) rfl dX7_prepare_87 ?_
              refine lv_iload_n hx hy dX7_prepare_90 rfl (lv_at hl 2 rfl) ?_
              refine g_i C h (hr 127 (by decide)) (n := 8) (k := k) (cel_hi (by decide)) (fun _ => rfl) (by omega) (by decide) (v := (R 127 k)) (show (suM (wr R rMod 19 (nI 0)) c (wrN R c)) 127 k = (R 127 k) from ((congrFun (suM_ne (by decide) (by decide)) _).trans (wr_othr (by decide)))) dX7_prepare_91 ?_
              refine lv_iload_n hx hy dX7_prepare_92 rfl (lv_at hl 3 rfl) ?_
              refine i_ne hx hy (tgt := 114) dX7_prepare_93 (by decide) (fun c_93 => ?_) (fun c_93 => ?_)
              · skip
                refine lv_iconst (v := (nI 1)) hx hy dX7_prepare_114 (by decide) ?_
                refine lv_goto (tgt := 119) hx hy dX7_prepare_115 (by decide) ?_
                refine lv_istore (lv' := [(5, .int (nI 1)), (4, .int (nI 0)), (0, .ref (V.1 rMod)), (1, .int (nI k)), (2, .int (nI c)), (3, .int (nI lo))]) hx hy dX7_prepare_119 hl (by decide) rfl (fun ls hl => ?_)
                refine lv_aload_n hx hy dX7_prepare_121 rfl (lv_at hl 2 rfl) ?_
                refine lv_iload hx hy dX7_prepare_122 (lv_at hl 1 rfl) ?_
                refine nz_eq hx hy (by omega) (tgt := 150) dX7_prepare_124 (by decide) (fun c_124 => ?_) (fun c_124 => ?_)
                · skip
                  refine lv_iconst (v := (nI 0)) hx hy dX7_prepare_150 (by decide) ?_
                  refine lv_iconst (v := (nI 2)) hx hy dX7_prepare_151 (by decide) ?_
                  refine n_go0 C h (n_V (As := [.int (b2i false), .int (nI 2)]) (rest := []) C h X (hr 100 (by decide)) ((cel_hi (by decide)).trans (celF_Mod _)) rfl (c_X7_no l hr M (suM (wr R rMod 19 (nI 0)) c (wrN R c)) o false (nI 2)) (cwV 2 C.2.2.2.2.1 gX7_prepare_X7_no rfl rfl rfl (by decide +kernel) ⟨Nat.le_of_ble_eq_true rfl, Nat.le_of_ble_eq_true rfl⟩) rfl hl.1 rfl (Nat.le_of_ble_eq_true rfl) dX7_prepare_152 ⟨by decide, by decide⟩) (fun _ _ z => z) (fun v_152 u_152 H locs hpo h => ?_)
                  obtain ⟨rfl, rfl⟩ := hpo
                  refine b_ne hx hy (tgt := 182) dX7_prepare_155 (by decide) (fun c_155 => ?_) (fun c_155 => ?_)
                  · skip
                    rw [noV_f c_155] at h
                    refine lv_iconst (v := (nI 0)) hx hy dX7_prepare_182 (by decide) ?_
                    exact e_int C h rfl dX7_prepare_183 (⟨_, rfl, by simp [kPreR, preBR, hi_k, hv_k, hi_c, hv_c, hi_lo, hv_lo, c_6, c_13, c_20, c_32, c_42, eq_true c_50, eq_false (Int32.not_lt.mpr c_50), eq_false c_93, eq_true c_124, c_155], by simp [preRR, kPreR, preBR, thr, hi_k, hv_k, hi_c, hv_c, hi_lo, hv_lo, c_6, c_13, c_20, c_32, c_42, eq_true c_50, eq_false (Int32.not_lt.mpr c_50), eq_false c_93, eq_true c_124, c_155]⟩) (by decide) (by decide)
                  · skip
                    exact absurd c_155 (by decide)
                · skip
                  exact absurd c_124 (by decide)
              · skip
                refine lv_aload_n hx hy dX7_prepare_96 rfl (lv_at hl 1 rfl) ?_
                refine g_f C h (hr 100 (by decide)) (cel_hi (by decide)) celF_Mod rfl in_X7_prepare_X7 31 (by decide) (by decide +kernel) (v := .int ((suM (wr R rMod 19 (nI 0)) c (wrN R c)) rMod 31)) rfl dX7_prepare_97 ?_
                refine lv_aload_n hx hy dX7_prepare_100 rfl (lv_at hl 1 rfl) ?_
                refine g_f C h (hr 100 (by decide)) (cel_hi (by decide)) celF_Mod rfl in_X7_prepare_X7 32 (by decide) (by decide +kernel) (v := .int ((suM (wr R rMod 19 (nI 0)) c (wrN R c)) rMod 32)) rfl dX7_prepare_101 ?_
                refine lv_isub hx hy dX7_prepare_104 ?_
                refine lv_aload_n hx hy dX7_prepare_105 rfl (lv_at hl 1 rfl) ?_
                refine g_f C h (hr 100 (by decide)) (cel_hi (by decide)) celF_Mod rfl in_X7_prepare_X7 27 (by decide) (by decide +kernel) (v := .ref (V.1 128)) rfl dX7_prepare_106 ?_
                refine lv_iload_n hx hy dX7_prepare_109 rfl (lv_at hl 2 rfl) ?_
                refine g_i C h (hr 128 (by decide)) (n := 8) (k := k) (cel_hi (by decide)) (fun _ => rfl) (by omega) (by decide) (v := (R 128 k)) (show (suM (wr R rMod 19 (nI 0)) c (wrN R c)) 128 k = (R 128 k) from ((congrFun (suM_ne (by decide) (by decide)) _).trans (wr_othr (by decide)))) dX7_prepare_110 ?_
                refine i_lt hx hy (tgt := 118) dX7_prepare_111 (by decide) (fun c_111 => ?_) (fun c_111 => ?_)
                · skip
                  refine lv_iconst (v := (nI 0)) hx hy dX7_prepare_118 (by decide) ?_
                  refine lv_istore (lv' := [(5, .int (nI 0)), (4, .int (nI 0)), (0, .ref (V.1 rMod)), (1, .int (nI k)), (2, .int (nI c)), (3, .int (nI lo))]) hx hy dX7_prepare_119 hl (by decide) rfl (fun ls hl => ?_)
                  refine lv_aload_n hx hy dX7_prepare_121 rfl (lv_at hl 2 rfl) ?_
                  refine lv_iload hx hy dX7_prepare_122 (lv_at hl 1 rfl) ?_
                  refine nz_eq hx hy (by omega) (tgt := 150) dX7_prepare_124 (by decide) (fun c_124 => ?_) (fun c_124 => ?_)
                  · skip
                    refine lv_iconst (v := (nI 0)) hx hy dX7_prepare_150 (by decide) ?_
                    refine lv_iconst (v := (nI 2)) hx hy dX7_prepare_151 (by decide) ?_
                    refine n_go0 C h (n_V (As := [.int (b2i false), .int (nI 2)]) (rest := []) C h X (hr 100 (by decide)) ((cel_hi (by decide)).trans (celF_Mod _)) rfl (c_X7_no l hr M (suM (wr R rMod 19 (nI 0)) c (wrN R c)) o false (nI 2)) (cwV 2 C.2.2.2.2.1 gX7_prepare_X7_no rfl rfl rfl (by decide +kernel) ⟨Nat.le_of_ble_eq_true rfl, Nat.le_of_ble_eq_true rfl⟩) rfl hl.1 rfl (Nat.le_of_ble_eq_true rfl) dX7_prepare_152 ⟨by decide, by decide⟩) (fun _ _ z => z) (fun v_152 u_152 H locs hpo h => ?_)
                    obtain ⟨rfl, rfl⟩ := hpo
                    refine b_ne hx hy (tgt := 182) dX7_prepare_155 (by decide) (fun c_155 => ?_) (fun c_155 => ?_)
                    · skip
                      rw [noV_f c_155] at h
                      refine lv_iconst (v := (nI 0)) hx hy dX7_prepare_182 (by decide) ?_
                      exact e_int C h rfl dX7_prepare_183 (⟨_, rfl, by simp [kPreR, preBR, hi_k, hv_k, hi_c, hv_c, hi_lo, hv_lo, c_6, c_13, c_20, c_32, c_42, eq_true c_50, eq_false (Int32.not_lt.mpr c_50), eq_true c_93, eq_true c_111, eq_false (Int32.not_le.mpr c_111), eq_true c_124, c_155], by simp [preRR, kPreR, preBR, thr, hi_k, hv_k, hi_c, hv_c, hi_lo, hv_lo, c_6, c_13, c_20, c_32, c_42, eq_true c_50, eq_false (Int32.not_lt.mpr c_50), eq_true c_93, eq_true c_111, eq_false (Int32.not_le.mpr c_111), eq_true c_124, c_155]⟩) (by decide) (by decide)
                    · skip
                      exact absurd c_155 (by decide)
                  · skip
                    exact absurd c_124 (by decide)
                · skip
                  refine lv_iconst (v := (nI 1)) hx hy dX7_prepare_114 (by decide) ?_
                  refine lv_goto (tgt := 119) hx hy dX7_prepare_115 (by decide) ?_
                  refine lv_istore (lv' := [(5, .int (nI 1)), (4, .int (nI 0)), (0, .ref (V.1 rMod)), (1, .int (nI k)), (2, .int (nI c)), (3, .int (nI lo))]) hx hy dX7_prepare_119 hl (by decide) rfl (fun ls hl => ?_)
                  refine lv_aload_n hx hy dX7_prepare_121 rfl (lv_at hl 2 rfl) ?_
                  refine lv_iload hx hy dX7_prepare_122 (lv_at hl 1 rfl) ?_
                  refine nz_eq hx hy (by omega) (tgt := 150) dX7_prepare_124 (by decide) (fun c_124 => ?_) (fun c_124 => ?_)
                  · skip
                    refine lv_iconst (v := (nI 0)) hx hy dX7_prepare_150 (by decide) ?_
                    refine lv_iconst (v := (nI 2)) hx hy dX7_prepare_151 (by decide) ?_
                    refine n_go0 C h (n_V (As := [.int (b2i false), .int (nI 2)]) (rest := []) C h X (hr 100 (by decide)) ((cel_hi (by decide)).trans (celF_Mod _)) rfl (c_X7_no l hr M (suM (wr R rMod 19 (nI 0)) c (wrN R c)) o false (nI 2)) (cwV 2 C.2.2.2.2.1 gX7_prepare_X7_no rfl rfl rfl (by decide +kernel) ⟨Nat.le_of_ble_eq_true rfl, Nat.le_of_ble_eq_true rfl⟩) rfl hl.1 rfl (Nat.le_of_ble_eq_true rfl) dX7_prepare_152 ⟨by decide, by decide⟩) (fun _ _ z => z) (fun v_152 u_152 H locs hpo h => ?_)
                    obtain ⟨rfl, rfl⟩ := hpo
                    refine b_ne hx hy (tgt := 182) dX7_prepare_155 (by decide) (fun c_155 => ?_) (fun c_155 => ?_)
                    · skip
                      rw [noV_f c_155] at h
                      refine lv_iconst (v := (nI 0)) hx hy dX7_prepare_182 (by decide) ?_
                      exact e_int C h rfl dX7_prepare_183 (⟨_, rfl, by simp [kPreR, preBR, hi_k, hv_k, hi_c, hv_c, hi_lo, hv_lo, c_6, c_13, c_20, c_32, c_42, eq_true c_50, eq_false (Int32.not_lt.mpr c_50), eq_true c_93, eq_true c_111, eq_false (Int32.not_lt.mpr c_111), eq_true c_124, c_155], by simp [preRR, kPreR, preBR, thr, hi_k, hv_k, hi_c, hv_c, hi_lo, hv_lo, c_6, c_13, c_20, c_32, c_42, eq_true c_50, eq_false (Int32.not_lt.mpr c_50), eq_true c_93, eq_true c_111, eq_false (Int32.not_lt.mpr c_111), eq_true c_124, c_155]⟩) (by decide) (by decide)
                    · skip
                      exact absurd c_155 (by decide)
                  · skip
                    exact absurd c_124 (by decide)
            · skip
              refine lv_aload_n hx hy dX7_prepare_53 rfl (lv_at hl 0 rfl) ?_
              refine g_f C h (hr 100 (by decide)) (cel_hi (by decide)) celF_Mod rfl in_X7_prepare_X7 29 (by decide) (by decide +kernel) (v := .ref (V.1 130)) rfl dX7_prepare_54 ?_
              refine lv_iconst (v := (nI 2)) hx hy dX7_prepare_57 (by decide) ?_
              refine lv_iload_n hx hy dX7_prepare_58 rfl (lv_at hl 1 rfl) ?_
              refine lv_imul hx hy dX7_prepare_59 ?_
              refine lv_topn (pk_mul _ _) ?_
              refine lv_iload_n hx hy dX7_prepare_60 rfl (lv_at hl 2 rfl) ?_
              refine lv_iadd hx hy dX7_prepare_61 ?_
              refine lv_topn (nI_add _ _) ?_
              refine g_c C h (hr 130 (by decide)) (n := 16) (k := ((2 * k) + c)) (cel_hi (by decide)) (fun _ => rfl) (by omega) (by decide) (v := (R 130 ((2 * k) + c))) (show (suM (wr R rMod 19 (nI 0)) c (wrN R c)) 130 ((2 * k) + c) = (R 130 ((2 * k) + c)) from ((congrFun (suM_ne (by decide) (by decide)) _).trans (wr_othr (by decide)))) dX7_prepare_62 ?_
              refine lv_bipush (v := (nI 45)) hx hy dX7_prepare_63 (by decide) ?_
              refine i_ne hx hy (tgt := 83) dX7_prepare_65 (by decide) (fun c_65 => ?_) (fun c_65 => ?_)
              · skip
                refine lv_iconst (v := (nI 0)) hx hy dX7_prepare_83 (by decide) ?_
                refine lv_istore (lv' := [(4, .int (nI 0)), (0, .ref (V.1 rMod)), (1, .int (nI k)), (2, .int (nI c)), (3, .int (nI lo))]) hx hy dX7_prepare_84 hl (by decide) rfl (fun ls hl => ?_)
                refine lv_aload_n hx hy dX7_prepare_86 rfl (lv_at hl 1 rfl) ?_
                refine g_f C h (hr 100 (by decide)) (cel_hi (by decide)) celF_Mod rfl in_X7_prepare_X7 26 (by decide) (by decide +kernel) (v := .ref (V.1 127)) rfl dX7_prepare_87 ?_
                refine lv_iload_n hx hy dX7_prepare_90 rfl (lv_at hl 2 rfl) ?_
                refine g_i C h (hr 127 (by decide)) (n := 8) (k := k) (cel_hi (by decide)) (fun _ => rfl) (by omega) (by decide) (v := (R 127 k)) (show (suM (wr R rMod 19 (nI 0)) c (wrN R c)) 127 k = (R 127 k) from ((congrFun (suM_ne (by decide) (by decide)) _).trans (wr_othr (by decide)))) dX7_prepare_91 ?_
                refine lv_iload_n hx hy dX7_prepare_92 rfl (lv_at hl 3 rfl) ?_
                refine i_ne hx hy (tgt := 114) dX7_prepare_93 (by decide) (fun c_93 => ?_) (fun c_93 => ?_)
                · skip
                  refine lv_iconst (v := (nI 1)) hx hy dX7_prepare_114 (by decide) ?_
                  refine lv_goto (tgt := 119) hx hy dX7_prepare_115 (by decide) ?_
                  refine lv_istore (lv' := [(5, .int (nI 1)), (4, .int (nI 0)), (0, .ref (V.1 rMod)), (1, .int (nI k)), (2, .int (nI c)), (3, .int (nI lo))]) hx hy dX7_prepare_119 hl (by decide) rfl (fun ls hl => ?_)
                  refine lv_aload_n hx hy dX7_prepare_121 rfl (lv_at hl 2 rfl) ?_
                  refine lv_iload hx hy dX7_prepare_122 (lv_at hl 1 rfl) ?_
                  refine nz_eq hx hy (by omega) (tgt := 150) dX7_prepare_124 (by decide) (fun c_124 => ?_) (fun c_124 => ?_)
                  · skip
                    refine lv_iconst (v := (nI 0)) hx hy dX7_prepare_150 (by decide) ?_
                    refine lv_iconst (v := (nI 2)) hx hy dX7_prepare_151 (by decide) ?_
                    refine n_go0 C h (n_V (As := [.int (b2i false), .int (nI 2)]) (rest := []) C h X (hr 100 (by decide)) ((cel_hi (by decide)).trans (celF_Mod _)) rfl (c_X7_no l hr M (suM (wr R rMod 19 (nI 0)) c (wrN R c)) o false (nI 2)) (cwV 2 C.2.2.2.2.1 gX7_prepare_X7_no rfl rfl rfl (by decide +kernel) ⟨Nat.le_of_ble_eq_true rfl, Nat.le_of_ble_eq_true rfl⟩) rfl hl.1 rfl (Nat.le_of_ble_eq_true rfl) dX7_prepare_152 ⟨by decide, by decide⟩) (fun _ _ z => z) (fun v_152 u_152 H locs hpo h => ?_)
                    obtain ⟨rfl, rfl⟩ := hpo
                    refine b_ne hx hy (tgt := 182) dX7_prepare_155 (by decide) (fun c_155 => ?_) (fun c_155 => ?_)
                    · skip
                      rw [noV_f c_155] at h
                      refine lv_iconst (v := (nI 0)) hx hy dX7_prepare_182 (by decide) ?_
                      exact e_int C h rfl dX7_prepare_183 (⟨_, rfl, by simp [kPreR, preBR, hi_k, hv_k, hi_c, hv_c, hi_lo, hv_lo, c_6, c_13, c_20, c_32, c_42, eq_true c_50, eq_false (Int32.not_le.mpr c_50), eq_false c_65, eq_false c_93, eq_true c_124, c_155], by simp [preRR, kPreR, preBR, thr, hi_k, hv_k, hi_c, hv_c, hi_lo, hv_lo, c_6, c_13, c_20, c_32, c_42, eq_true c_50, eq_false (Int32.not_le.mpr c_50), eq_false c_65, eq_false c_93, eq_true c_124, c_155]⟩) (by decide) (by decide)
                    · skip
                      exact absurd c_155 (by decide)
                  · skip
                    exact absurd c_124 (by decide)
                · skip
                  refine lv_aload_n hx hy dX7_prepare_96 rfl (lv_at hl 1 rfl) ?_
                  refine g_f C h (hr 100 (by decide)) (cel_hi (by decide)) celF_Mod rfl in_X7_prepare_X7 31 (by decide) (by decide +kernel) (v := .int ((suM (wr R rMod 19 (nI 0)) c (wrN R c)) rMod 31)) rfl dX7_prepare_97 ?_
                  refine lv_aload_n hx hy dX7_prepare_100 rfl (lv_at hl 1 rfl) ?_
                  refine g_f C h (hr 100 (by decide)) (cel_hi (by decide)) celF_Mod rfl in_X7_prepare_X7 32 (by decide) (by decide +kernel) (v := .int ((suM (wr R rMod 19 (nI 0)) c (wrN R c)) rMod 32)) rfl dX7_prepare_101 ?_
                  refine lv_isub hx hy dX7_prepare_104 ?_
                  refine lv_aload_n hx hy dX7_prepare_105 rfl (lv_at hl 1 rfl) ?_
                  refine g_f C h (hr 100 (by decide)) (cel_hi (by decide)) celF_Mod rfl in_X7_prepare_X7 27 (by decide) (by decide +kernel) (v := .ref (V.1 128)) rfl dX7_prepare_106 ?_
                  refine lv_iload_n hx hy dX7_prepare_109 rfl (lv_at hl 2 rfl) ?_
                  refine g_i C h (hr 128 (by decide)) (n := 8) (k := k) (cel_hi (by decide)) (fun _ => rfl) (by omega) (by decide) (v := (R 128 k)) (show (suM (wr R rMod 19 (nI 0)) c (wrN R c)) 128 k = (R 128 k) from ((congrFun (suM_ne (by decide) (by decide)) _).trans (wr_othr (by decide)))) dX7_prepare_110 ?_
                  refine i_lt hx hy (tgt := 118) dX7_prepare_111 (by decide) (fun c_111 => ?_) (fun c_111 => ?_)
                  · skip
                    refine lv_iconst (v := (nI 0)) hx hy dX7_prepare_118 (by decide) ?_
                    refine lv_istore (lv' := [(5, .int (nI 0)), (4, .int (nI 0)), (0, .ref (V.1 rMod)), (1, .int (nI k)), (2, .int (nI c)), (3, .int (nI lo))]) hx hy dX7_prepare_119 hl (by decide) rfl (fun ls hl => ?_)
                    refine lv_aload_n hx hy dX7_prepare_121 rfl (lv_at hl 2 rfl) ?_
                    refine lv_iload hx hy dX7_prepare_122 (lv_at hl 1 rfl) ?_
                    refine nz_eq hx hy (by omega) (tgt := 150) dX7_prepare_124 (by decide) (fun c_124 => ?_) (fun c_124 => ?_)
                    · skip
                      refine lv_iconst (v := (nI 0)) hx hy dX7_prepare_150 (by decide) ?_
                      refine lv_iconst (v := (nI 2)) hx hy dX7_prepare_151 (by decide) ?_
                      refine n_go0 C h (n_V (As := [.int (b2i false), .int (nI 2)]) (rest := []) C h X (hr 100 (by decide)) ((cel_hi (by decide)).trans (celF_Mod _)) rfl (c_X7_no l hr M (suM (wr R rMod 19 (nI 0)) c (wrN R c)) o false (nI 2)) (cwV 2 C.2.2.2.2.1 gX7_prepare_X7_no rfl rfl rfl (by decide +kernel) ⟨Nat.le_of_ble_eq_true rfl, Nat.le_of_ble_eq_true rfl⟩) rfl hl.1 rfl (Nat.le_of_ble_eq_true rfl) dX7_prepare_152 ⟨by decide, by decide⟩) (fun _ _ z => z) (fun v_152 u_152 H locs hpo h => ?_)
                      obtain ⟨rfl, rfl⟩ := hpo
                      refine b_ne hx hy (tgt := 182) dX7_prepare_155 (by decide) (fun c_155 => ?_) (fun c_155 => ?_)
                      · skip
                        rw [noV_f c_155] at h
                        refine lv_iconst (v := (nI 0)) hx hy dX7_prepare_182 (by decide) ?_
                        exact e_int C h rfl dX7_prepare_183 (⟨_, rfl, by simp [kPreR, preBR, hi_k, hv_k, hi_c, hv_c, hi_lo, hv_lo, c_6, c_13, c_20, c_32, c_42, eq_true c_50, eq_false (Int32.not_le.mpr c_50), eq_false c_65, eq_true c_93, eq_true c_111, eq_false (Int32.not_le.mpr c_111), eq_true c_124, c_155], by simp [preRR, kPreR, preBR, thr, hi_k, hv_k, hi_c, hv_c, hi_lo, hv_lo, c_6, c_13, c_20, c_32, c_42, eq_true c_50, eq_false (Int32.not_le.mpr c_50), eq_false c_65, eq_true c_93, eq_true c_111, eq_false (Int32.not_le.mpr c_111), eq_true c_124, c_155]⟩) (by decide) (by decide)
                      · skip
                        exact absurd c_155 (by decide)
                    · skip
                      exact absurd c_124 (by decide)
                  · skip
                    refine lv_iconst (v := (nI 1)) hx hy dX7_prepare_114 (by decide) ?_
                    refine lv_goto (tgt := 119) hx hy dX7_prepare_115 (by decide) ?_
                    refine lv_istore (lv' := [(5, .int (nI 1)), (4, .int (nI 0)), (0, .ref (V.1 rMod)), (1, .int (nI k)), (2, .int (nI c)), (3, .int (nI lo))]) hx hy dX7_prepare_119 hl (by decide) rfl (fun ls hl => ?_)
                    refine lv_aload_n hx hy dX7_prepare_121 rfl (lv_at hl 2 rfl) ?_
                    refine lv_iload hx hy dX7_prepare_122 (lv_at hl 1 rfl) ?_
                    refine nz_eq hx hy (by omega) (tgt := 150) dX7_prepare_124 (by decide) (fun c_124 => ?_) (fun c_124 => ?_)
                    · skip
                      refine lv_iconst (v := (nI 0)) hx hy dX7_prepare_150 (by decide) ?_
                      refine lv_iconst (v := (nI 2)) hx hy dX7_prepare_151 (by decide) ?_
                      refine n_go0 C h (n_V (As := [.int (b2i false), .int (nI 2)]) (rest := []) C h X (hr 100 (by decide)) ((cel_hi (by decide)).trans (celF_Mod _)) rfl (c_X7_no l hr M (suM (wr R rMod 19 (nI 0)) c (wrN R c)) o false (nI 2)) (cwV 2 C.2.2.2.2.1 gX7_prepare_X7_no rfl rfl rfl (by decide +kernel) ⟨Nat.le_of_ble_eq_true rfl, Nat.le_of_ble_eq_true rfl⟩) rfl hl.1 rfl (Nat.le_of_ble_eq_true rfl) dX7_prepare_152 ⟨by decide, by decide⟩) (fun _ _ z => z) (fun v_152 u_152 H locs hpo h => ?_)
                      obtain ⟨rfl, rfl⟩ := hpo
                      refine b_ne hx hy (tgt := 182) dX7_prepare_155 (by decide) (fun c_155 => ?_) (fun c_155 => ?_)
                      · skip
                        rw [noV_f c_155] at h
                        refine lv_iconst (v := (nI 0)) hx hy dX7_prepare_182 (by decide) ?_
                        exact e_int C h rfl dX7_prepare_183 (⟨_, rfl, by simp [kPreR, preBR, hi_k, hv_k, hi_c, hv_c, hi_lo, hv_lo, c_6, c_13, c_20, c_32, c_42, eq_true c_50, eq_false (Int32.not_le.mpr c_50), eq_false c_65, eq_true c_93, eq_true c_111, eq_false (Int32.not_lt.mpr c_111), eq_true c_124, c_155], by simp [preRR, kPreR, preBR, thr, hi_k, hv_k, hi_c, hv_c, hi_lo, hv_lo, c_6, c_13, c_20, c_32, c_42, eq_true c_50, eq_false (Int32.not_le.mpr c_50), eq_false c_65, eq_true c_93, eq_true c_111, eq_false (Int32.not_lt.mpr c_111), eq_true c_124, c_155]⟩) (by decide) (by decide)
                      · skip
                        exact absurd c_155 (by decide)
                    · skip
                      exact absurd c_124 (by decide)
              · skip
                refine lv_aload_n hx hy dX7_prepare_68 rfl (lv_at hl 0 rfl) ?_
                refine g_f C h (hr 100 (by decide)) (cel_hi (by decide)) celF_Mod rfl in_X7_prepare_X7 28 (by decide) (by decide +kernel) (v := .ref (V.1 129)) rfl dX7_prepare_69 ?_
                refine lv_iload_n hx hy dX7_prepare_72 rfl (lv_at hl 1 rfl) ?_
                refine g_c C h (hr 129 (by decide)) (n := 8) (k := k) (cel_hi (by decide)) (fun _ => rfl) (by omega) (by decide) (v := (R 129 k)) (show (suM (wr R rMod 19 (nI 0)) c (wrN R c)) 129 k = (R 129 k) from ((congrFun (suM_ne (by decide) (by decide)) _).trans (wr_othr (by decide)))) dX7_prepare_73 ?_
                refine lv_bipush (v := (nI 45)) hx hy dX7_prepare_74 (by decide) ?_
                refine i_ne hx hy (tgt := 83) dX7_prepare_76 (by decide) (fun c_76 => ?_) (fun c_76 => ?_)
                · skip
                  refine lv_iconst (v := (nI 0)) hx hy dX7_prepare_83 (by decide) ?_
                  refine lv_istore (lv' := [(4, .int (nI 0)), (0, .ref (V.1 rMod)), (1, .int (nI k)), (2, .int (nI c)), (3, .int (nI lo))]) hx hy dX7_prepare_84 hl (by decide) rfl (fun ls hl => ?_)
                  refine lv_aload_n hx hy dX7_prepare_86 rfl (lv_at hl 1 rfl) ?_
                  refine g_f C h (hr 100 (by decide)) (cel_hi (by decide)) celF_Mod rfl in_X7_prepare_X7 26 (by decide) (by decide +kernel) (v := .ref (V.1 127)) rfl dX7_prepare_87 ?_
                  refine lv_iload_n hx hy dX7_prepare_90 rfl (lv_at hl 2 rfl) ?_
                  refine g_i C h (hr 127 (by decide)) (n := 8) (k := k) (cel_hi (by decide)) (fun _ => rfl) (by omega) (by decide) (v := (R 127 k)) (show (suM (wr R rMod 19 (nI 0)) c (wrN R c)) 127 k = (R 127 k) from ((congrFun (suM_ne (by decide) (by decide)) _).trans (wr_othr (by decide)))) dX7_prepare_91 ?_
                  refine lv_iload_n hx hy dX7_prepare_92 rfl (lv_at hl 3 rfl) ?_
                  refine i_ne hx hy (tgt := 114) dX7_prepare_93 (by decide) (fun c_93 => ?_) (fun c_93 => ?_)
                  · skip
                    refine lv_iconst (v := (nI 1)) hx hy dX7_prepare_114 (by decide) ?_
                    refine lv_goto (tgt := 119) hx hy dX7_prepare_115 (by decide) ?_
                    refine lv_istore (lv' := [(5, .int (nI 1)), (4, .int (nI 0)), (0, .ref (V.1 rMod)), (1, .int (nI k)), (2, .int (nI c)), (3, .int (nI lo))]) hx hy dX7_prepare_119 hl (by decide) rfl (fun ls hl => ?_)
                    refine lv_aload_n hx hy dX7_prepare_121 rfl (lv_at hl 2 rfl) ?_
                    refine lv_iload hx hy dX7_prepare_122 (lv_at hl 1 rfl) ?_
                    refine nz_eq hx hy (by omega) (tgt := 150) dX7_prepare_124 (by decide) (fun c_124 => ?_) (fun c_124 => ?_)
                    · skip
                      refine lv_iconst (v := (nI 0)) hx hy dX7_prepare_150 (by decide) ?_
                      refine lv_iconst (v := (nI 2)) hx hy dX7_prepare_151 (by decide) ?_
                      refine n_go0 C h (n_V (As := [.int (b2i false), .int (nI 2)]) (rest := []) C h X (hr 100 (by decide)) ((cel_hi (by decide)).trans (celF_Mod _)) rfl (c_X7_no l hr M (suM (wr R rMod 19 (nI 0)) c (wrN R c)) o false (nI 2)) (cwV 2 C.2.2.2.2.1 gX7_prepare_X7_no rfl rfl rfl (by decide +kernel) ⟨Nat.le_of_ble_eq_true rfl, Nat.le_of_ble_eq_true rfl⟩) rfl hl.1 rfl (Nat.le_of_ble_eq_true rfl) dX7_prepare_152 ⟨by decide, by decide⟩) (fun _ _ z => z) (fun v_152 u_152 H locs hpo h => ?_)
                      obtain ⟨rfl, rfl⟩ := hpo
                      refine b_ne hx hy (tgt := 182) dX7_prepare_155 (by decide) (fun c_155 => ?_) (fun c_155 => ?_)
                      · skip
                        rw [noV_f c_155] at h
                        refine lv_iconst (v := (nI 0)) hx hy dX7_prepare_182 (by decide) ?_
                        exact e_int C h rfl dX7_prepare_183 (⟨_, rfl, by simp [kPreR, preBR, hi_k, hv_k, hi_c, hv_c, hi_lo, hv_lo, c_6, c_13, c_20, c_32, c_42, eq_true c_50, eq_false (Int32.not_le.mpr c_50), eq_true c_65, eq_false c_76, eq_false c_93, eq_true c_124, c_155], by simp [preRR, kPreR, preBR, thr, hi_k, hv_k, hi_c, hv_c, hi_lo, hv_lo, c_6, c_13, c_20, c_32, c_42, eq_true c_50, eq_false (Int32.not_le.mpr c_50), eq_true c_65, eq_false c_76, eq_false c_93, eq_true c_124, c_155]⟩) (by decide) (by decide)
                      · skip
                        exact absurd c_155 (by decide)
                    · skip
                      exact absurd c_124 (by decide)
                  · skip
                    refine lv_aload_n hx hy dX7_prepare_96 rfl (lv_at hl 1 rfl) ?_
                    refine g_f C h (hr 100 (by decide)) (cel_hi (by decide)) celF_Mod rfl in_X7_prepare_X7 31 (by decide) (by decide +kernel) (v := .int ((suM (wr R rMod 19 (nI 0)) c (wrN R c)) rMod 31)) rfl dX7_prepare_97 ?_
                    refine lv_aload_n hx hy dX7_prepare_100 rfl (lv_at hl 1 rfl) ?_
                    refine g_f C h (hr 100 (by decide)) (cel_hi (by decide)) celF_Mod rfl in_X7_prepare_X7 32 (by decide) (by decide +kernel) (v := .int ((suM (wr R rMod 19 (nI 0)) c (wrN R c)) rMod 32)) rfl dX7_prepare_101 ?_
                    refine lv_isub hx hy dX7_prepare_104 ?_
                    refine lv_aload_n hx hy dX7_prepare_105 rfl (lv_at hl 1 rfl) ?_
                    refine g_f C h (hr 100 (by decide)) (cel_hi (by decide)) celF_Mod rfl in_X7_prepare_X7 27 (by decide) (by decide +kernel) (v := .ref (V.1 128)) rfl dX7_prepare_106 ?_
                    refine lv_iload_n hx hy dX7_prepare_109 rfl (lv_at hl 2 rfl) ?_
                    refine g_i C h (hr 128 (by decide)) (n := 8) (k := k) (cel_hi (by decide)) (fun _ => rfl) (by omega) (by decide) (v := (R 128 k)) (show (suM (wr R rMod 19 (nI 0)) c (wrN R c)) 128 k = (R 128 k) from ((congrFun (suM_ne (by decide) (by decide)) _).trans (wr_othr (by decide)))) dX7_prepare_110 ?_
                    refine i_lt hx hy (tgt := 118) dX7_prepare_111 (by decide) (fun c_111 => ?_) (fun c_111 => ?_)
                    · skip
                      refine lv_iconst (v := (nI 0)) hx hy dX7_prepare_118 (by decide) ?_
                      refine lv_istore (lv' := [(5, .int (nI 0)), (4, .int (nI 0)), (0, .ref (V.1 rMod)), (1, .int (nI k)), (2, .int (nI c)), (3, .int (nI lo))]) hx hy dX7_prepare_119 hl (by decide) rfl (fun ls hl => ?_)
                      refine lv_aload_n hx hy dX7_prepare_121 rfl (lv_at hl 2 rfl) ?_
                      refine lv_iload hx hy dX7_prepare_122 (lv_at hl 1 rfl) ?_
                      refine nz_eq hx hy (by omega) (tgt := 150) dX7_prepare_124 (by decide) (fun c_124 => ?_) (fun c_124 => ?_)
                      · skip
                        refine lv_iconst (v := (nI 0)) hx hy dX7_prepare_150 (by decide) ?_
                        refine lv_iconst (v := (nI 2)) hx hy dX7_prepare_151 (by decide) ?_
                        refine n_go0 C h (n_V (As := [.int (b2i false), .int (nI 2)]) (rest := []) C h X (hr 100 (by decide)) ((cel_hi (by decide)).trans (celF_Mod _)) rfl (c_X7_no l hr M (suM (wr R rMod 19 (nI 0)) c (wrN R c)) o false (nI 2)) (cwV 2 C.2.2.2.2.1 gX7_prepare_X7_no rfl rfl rfl (by decide +kernel) ⟨Nat.le_of_ble_eq_true rfl, Nat.le_of_ble_eq_true rfl⟩) rfl hl.1 rfl (Nat.le_of_ble_eq_true rfl) dX7_prepare_152 ⟨by decide, by decide⟩) (fun _ _ z => z) (fun v_152 u_152 H locs hpo h => ?_)
                        obtain ⟨rfl, rfl⟩ := hpo
                        refine b_ne hx hy (tgt := 182) dX7_prepare_155 (by decide) (fun c_155 => ?_) (fun c_155 => ?_)
                        · skip
                          rw [noV_f c_155] at h
                          refine lv_iconst (v := (nI 0)) hx hy dX7_prepare_182 (by decide) ?_
                          exact e_int C h rfl dX7_prepare_183 (⟨_, rfl, by simp [kPreR, preBR, hi_k, hv_k, hi_c, hv_c, hi_lo, hv_lo, c_6, c_13, c_20, c_32, c_42, eq_true c_50, eq_false (Int32.not_le.mpr c_50), eq_true c_65, eq_false c_76, eq_true c_93, eq_true c_111, eq_false (Int32.not_le.mpr c_111), eq_true c_124, c_155], by simp [preRR, kPreR, preBR, thr, hi_k, hv_k, hi_c, hv_c, hi_lo, hv_lo, c_6, c_13, c_20, c_32, c_42, eq_true c_50, eq_false (Int32.not_le.mpr c_50), eq_true c_65, eq_false c_76, eq_true c_93, eq_true c_111, eq_false (Int32.not_le.mpr c_111), eq_true c_124, c_155]⟩) (by decide) (by decide)
                        · skip
                          exact absurd c_155 (by decide)
                      · skip
                        exact absurd c_124 (by decide)
                    · skip
                      refine lv_iconst (v := (nI 1)) hx hy dX7_prepare_114 (by decide) ?_
                      refine lv_goto (tgt := 119) hx hy dX7_prepare_115 (by decide) ?_
                      refine lv_istore (lv' := [(5, .int (nI 1)), (4, .int (nI 0)), (0, .ref (V.1 rMod)), (1, .int (nI k)), (2, .int (nI c)), (3, .int (nI lo))]) hx hy dX7_prepare_119 hl (by decide) rfl (fun ls hl => ?_)
                      refine lv_aload_n hx hy dX7_prepare_121 rfl (lv_at hl 2 rfl) ?_
                      refine lv_iload hx hy dX7_prepare_122 (lv_at hl 1 rfl) ?_
                      refine nz_eq hx hy (by omega) (tgt := 150) dX7_prepare_124 (by decide) (fun c_124 => ?_) (fun c_124 => ?_)
                      · skip
                        refine lv_iconst (v := (nI 0)) hx hy dX7_prepare_150 (by decide) ?_
                        refine lv_iconst (v := (nI 2)) hx hy dX7_prepare_151 (by decide) ?_
                        refine n_go0 C h (n_V (As := [.int (b2i false), .int (nI 2)]) (rest := []) C h X (hr 100 (by decide)) ((cel_hi (by decide)).trans (celF_Mod _)) rfl (c_X7_no l hr M (suM (wr R rMod 19 (nI 0)) c (wrN R c)) o false (nI 2)) (cwV 2 C.2.2.2.2.1 gX7_prepare_X7_no rfl rfl rfl (by decide +kernel) ⟨Nat.le_of_ble_eq_true rfl, Nat.le_of_ble_eq_true rfl⟩) rfl hl.1 rfl (Nat.le_of_ble_eq_true rfl) dX7_prepare_152 ⟨by decide, by decide⟩) (fun _ _ z => z) (fun v_152 u_152 H locs hpo h => ?_)
                        obtain ⟨rfl, rfl⟩ := hpo
                        refine b_ne hx hy (tgt := 182) dX7_prepare_155 (by decide) (fun c_155 => ?_) (fun c_155 => ?_)
                        · skip
                          rw [noV_f c_155] at h
                          refine lv_iconst (v := (nI 0)) hx hy dX7_prepare_182 (by decide) ?_
                          exact e_int C h rfl dX7_prepare_183 (⟨_, rfl, by simp [kPreR, preBR, hi_k, hv_k, hi_c, hv_c, hi_lo, hv_lo, c_6, c_13, c_20, c_32, c_42, eq_true c_50, eq_false (Int32.not_le.mpr c_50), eq_true c_65, eq_false c_76, eq_true c_93, eq_true c_111, eq_false (Int32.not_lt.mpr c_111), eq_true c_124, c_155], by simp [preRR, kPreR, preBR, thr, hi_k, hv_k, hi_c, hv_c, hi_lo, hv_lo, c_6, c_13, c_20, c_32, c_42, eq_true c_50, eq_false (Int32.not_le.mpr c_50), eq_true c_65, eq_false c_76, eq_true c_93, eq_true c_111, eq_false (Int32.not_lt.mpr c_111), eq_true c_124, c_155]⟩) (by decide) (by decide)
                        · skip
                          exact absurd c_155 (by decide)
                      · skip
                        exact absurd c_124 (by decide)
                · skip
                  refine lv_iconst (v := (nI 1)) hx hy dX7_prepare_79 (by decide) ?_
                  refine lv_goto (tgt := 84) hx hy dX7_prepare_80 (by decide) ?_
                  refine lv_istore (lv' := [(4, .int (nI 1)), (0, .ref (V.1 rMod)), (1, .int (nI k)), (2, .int (nI c)), (3, .int (nI lo))]) hx hy dX7_prepare_84 hl (by decide) rfl (fun ls hl => ?_)
                  refine lv_aload_n hx hy dX7_prepare_86 rfl (lv_at hl 1 rfl) ?_
                  refine g_f C h (hr 100 (by decide)) (cel_hi (by decide)) celF_Mod rfl in_X7_prepare_X7 26 (by decide) (by decide +kernel) (v := .ref (V.1 127)) rfl dX7_prepare_87 ?_
                  refine lv_iload_n hx hy dX7_prepare_90 rfl (lv_at hl 2 rfl) ?_
                  refine g_i C h (hr 127 (by decide)) (n := 8) (k := k) (cel_hi (by decide)) (fun _ => rfl) (by omega) (by decide) (v := (R 127 k)) (show (suM (wr R rMod 19 (nI 0)) c (wrN R c)) 127 k = (R 127 k) from ((congrFun (suM_ne (by decide) (by decide)) _).trans (wr_othr (by decide)))) dX7_prepare_91 ?_
                  refine lv_iload_n hx hy dX7_prepare_92 rfl (lv_at hl 3 rfl) ?_
                  refine i_ne hx hy (tgt := 114) dX7_prepare_93 (by decide) (fun c_93 => ?_) (fun c_93 => ?_)
                  · skip
                    refine lv_iconst (v := (nI 1)) hx hy dX7_prepare_114 (by decide) ?_
                    refine lv_goto (tgt := 119) hx hy dX7_prepare_115 (by decide) ?_
                    refine lv_istore (lv' := [(5, .int (nI 1)), (4, .int (nI 1)), (0, .ref (V.1 rMod)), (1, .int (nI k)), (2, .int (nI c)), (3, .int (nI lo))]) hx hy dX7_prepare_119 hl (by decide) rfl (fun ls hl => ?_)
                    refine lv_aload_n hx hy dX7_prepare_121 rfl (lv_at hl 2 rfl) ?_
                    refine lv_iload hx hy dX7_prepare_122 (lv_at hl 1 rfl) ?_
                    refine nz_eq hx hy (by omega) (tgt := 150) dX7_prepare_124 (by decide) (fun c_124 => ?_) (fun c_124 => ?_)
                    · skip
                      exact absurd c_124 (by decide)
                    · skip
                      refine lv_iload hx hy dX7_prepare_127 (lv_at hl 0 rfl) ?_
                      refine nz_eq hx hy (by omega) (tgt := 150) dX7_prepare_129 (by decide) (fun c_129 => ?_) (fun c_129 => ?_)
                      · skip
                        exact absurd c_129 (by decide)
                      · skip
                        refine lv_aload_n hx hy dX7_prepare_132 rfl (lv_at hl 2 rfl) ?_
                        refine lv_iload_n hx hy dX7_prepare_133 rfl (lv_at hl 4 rfl) ?_
                        refine lv_aload_n hx hy dX7_prepare_134 rfl (lv_at hl 2 rfl) ?_
                        refine lv_iload_n hx hy dX7_prepare_135 rfl (lv_at hl 4 rfl) ?_
                        refine lv_iload_n hx hy dX7_prepare_136 rfl (lv_at hl 5 rfl) ?_
                        refine n_go0 C h (n_V (As := [.int (nI c), .int (nI lo)]) (rest := [.int (nI c), .ref (V.1 rMod), .ref (V.1 rMod)]) C h X (hr 100 (by decide)) ((cel_hi (by decide)).trans (celF_Mod _)) rfl (c_X7_reach l hr M (suM (wr R rMod 19 (nI 0)) c (wrN R c)) o c hc (mnN R c) hmn9 (show (suM (wr R rMod 19 (nI 0)) c (wrN R c)) 101 c = nI (mnN R c) from ((congrFun (suM_ne (by decide) (by decide)) _).trans ((wr_othr (by decide)).trans (hmn c hc).1))) lo hlo) (cwV 2 C.2.2.2.2.1 gX7_prepare_X7_reach rfl rfl rfl (by decide +kernel) ⟨Nat.le_of_ble_eq_true rfl, Nat.le_of_ble_eq_true rfl⟩) rfl hl.1 rfl (Nat.le_of_ble_eq_true rfl) dX7_prepare_137 ⟨by decide, by decide⟩) (fun _ _ z => z) (fun v_137 u_137 H locs hpo h => ?_)
                        obtain ⟨rfl, rfl⟩ := hpo
                        refine n_go0 C h (n_V (As := [.int (nI c), .int (rcN (suM (wr R rMod 19 (nI 0)) c (wrN R c)) c lo (mnN R c))]) (rest := [.ref (V.1 rMod)]) C h X (hr 100 (by decide)) ((cel_hi (by decide)).trans (celF_Mod _)) rfl (c_X7_quorum l hr M (suM (wr R rMod 19 (nI 0)) c (wrN R c)) o c hc (rcN (suM (wr R rMod 19 (nI 0)) c (wrN R c)) c lo (mnN R c))) (cwV 2 C.2.2.2.2.1 gX7_prepare_X7_quorum rfl rfl rfl (by decide +kernel) ⟨Nat.le_of_ble_eq_true rfl, Nat.le_of_ble_eq_true rfl⟩) rfl hl.1 rfl (Nat.le_of_ble_eq_true rfl) dX7_prepare_140 ⟨by decide, by decide⟩) (fun _ _ z => z) (fun v_140 u_140 H locs hpo h => ?_)
                        obtain ⟨rfl, rfl⟩ := hpo
                        refine b_eq hx hy (tgt := 150) dX7_prepare_143 (by decide) (fun c_143 => ?_) (fun c_143 => ?_)
                        · skip
                          refine lv_iconst (v := (nI 0)) hx hy dX7_prepare_150 (by decide) ?_
                          refine lv_iconst (v := (nI 2)) hx hy dX7_prepare_151 (by decide) ?_
                          refine n_go0 C h (n_V (As := [.int (b2i false), .int (nI 2)]) (rest := []) C h X (hr 100 (by decide)) ((cel_hi (by decide)).trans (celF_Mod _)) rfl (c_X7_no l hr M (suM (wr R rMod 19 (nI 0)) c (wrN R c)) o false (nI 2)) (cwV 2 C.2.2.2.2.1 gX7_prepare_X7_no rfl rfl rfl (by decide +kernel) ⟨Nat.le_of_ble_eq_true rfl, Nat.le_of_ble_eq_true rfl⟩) rfl hl.1 rfl (Nat.le_of_ble_eq_true rfl) dX7_prepare_152 ⟨by decide, by decide⟩) (fun _ _ z => z) (fun v_152 u_152 H locs hpo h => ?_)
                          obtain ⟨rfl, rfl⟩ := hpo
                          refine b_ne hx hy (tgt := 182) dX7_prepare_155 (by decide) (fun c_155 => ?_) (fun c_155 => ?_)
                          · skip
                            rw [noV_f c_155] at h
                            refine lv_iconst (v := (nI 0)) hx hy dX7_prepare_182 (by decide) ?_
                            exact e_int C h rfl dX7_prepare_183 (⟨_, rfl, by simp [kPreR, preBR, hi_k, hv_k, hi_c, hv_c, hi_lo, hv_lo, c_6, c_13, c_20, c_32, c_42, eq_true c_50, eq_false (Int32.not_le.mpr c_50), eq_true c_65, eq_true c_76, eq_false c_93, eq_false c_124, eq_false c_129, c_143, c_155], by simp [preRR, kPreR, preBR, thr, hi_k, hv_k, hi_c, hv_c, hi_lo, hv_lo, c_6, c_13, c_20, c_32, c_42, eq_true c_50, eq_false (Int32.not_le.mpr c_50), eq_true c_65, eq_true c_76, eq_false c_93, eq_false c_124, eq_false c_129, c_143, c_155]⟩) (by decide) (by decide)
                          · skip
                            exact absurd c_155 (by decide)
                        · skip
                          refine lv_iconst (v := (nI 1)) hx hy dX7_prepare_146 (by decide) ?_
                          refine lv_goto (tgt := 151) hx hy dX7_prepare_147 (by decide) ?_
                          refine lv_iconst (v := (nI 2)) hx hy dX7_prepare_151 (by decide) ?_
                          refine n_go0 C h (n_V (As := [.int (b2i true), .int (nI 2)]) (rest := []) C h X (hr 100 (by decide)) ((cel_hi (by decide)).trans (celF_Mod _)) rfl (c_X7_no l hr M (suM (wr R rMod 19 (nI 0)) c (wrN R c)) o true (nI 2)) (cwV 2 C.2.2.2.2.1 gX7_prepare_X7_no rfl rfl rfl (by decide +kernel) ⟨Nat.le_of_ble_eq_true rfl, Nat.le_of_ble_eq_true rfl⟩) rfl hl.1 rfl (Nat.le_of_ble_eq_true rfl) dX7_prepare_152 ⟨by decide, by decide⟩) (fun _ _ z => z) (fun v_152 u_152 H locs hpo h => ?_)
                          obtain ⟨rfl, rfl⟩ := hpo
                          refine b_ne hx hy (tgt := 182) dX7_prepare_155 (by decide) (fun c_155 => ?_) (fun c_155 => ?_)
                          · skip
                            exact absurd c_155 (by decide)
                          · skip
                            rw [noV_t c_155] at h
                            refine lv_aload_n hx hy dX7_prepare_158 rfl (lv_at hl 2 rfl) ?_
                            refine lv_aload_n hx hy dX7_prepare_159 rfl (lv_at hl 2 rfl) ?_
                            refine g_f C h (hr 100 (by decide)) (cel_hi (by decide)) celF_Mod rfl in_X7_prepare_X7 2 (by decide) (by decide +kernel) (v := .ref (V.1 103)) rfl dX7_prepare_160 ?_
                            refine lv_iload_n hx hy dX7_prepare_163 rfl (lv_at hl 4 rfl) ?_
                            refine g_i C h (hr 103 (by decide)) (n := 2) (k := c) (cel_hi (by decide)) (fun _ => rfl) (by omega) (by decide) (v := (nI (wrN R c))) (show (wr (suM (wr R rMod 19 (nI 0)) c (wrN R c)) rMod 19 (nI 0)) 103 c = (nI (wrN R c)) from ((wr_othr (by decide)).trans ((congrFun (suM_ne (by decide) (by decide)) _).trans ((wr_othr (by decide)).trans (hwn c hc).1)))) dX7_prepare_164 ?_
                            refine lv_bipush (v := (nI 60)) hx hy dX7_prepare_165 (by decide) ?_
                            refine n_ge hx hy (by omega) (by decide) (tgt := 174) dX7_prepare_167 (by decide) (fun c_167 => ?_) (fun c_167 => ?_)
                            · skip
                              refine lv_iconst (v := (nI 0)) hx hy dX7_prepare_174 (by decide) ?_
                              refine lv_iconst (v := (nI 3)) hx hy dX7_prepare_175 (by decide) ?_
                              refine n_go0 C h (n_V (As := [.int (b2i false), .int (nI 3)]) (rest := []) C h X (hr 100 (by decide)) ((cel_hi (by decide)).trans (celF_Mod _)) rfl (c_X7_no l hr M (wr (suM (wr R rMod 19 (nI 0)) c (wrN R c)) rMod 19 (nI 0)) o false (nI 3)) (cwV 2 C.2.2.2.2.1 gX7_prepare_X7_no rfl rfl rfl (by decide +kernel) ⟨Nat.le_of_ble_eq_true rfl, Nat.le_of_ble_eq_true rfl⟩) rfl hl.1 rfl (Nat.le_of_ble_eq_true rfl) dX7_prepare_176 ⟨by decide, by decide⟩) (fun _ _ z => z) (fun v_176 u_176 H locs hpo h => ?_)
                              obtain ⟨rfl, rfl⟩ := hpo
                              refine b_eq hx hy (tgt := 184) dX7_prepare_179 (by decide) (fun c_179 => ?_) (fun c_179 => ?_)
                              · skip
                                exact absurd c_179 (by decide)
                              · skip
                                rw [noV_f c_179] at h
                                rw [wr_wr] at h
                                refine lv_iconst (v := (nI 0)) hx hy dX7_prepare_182 (by decide) ?_
                                exact e_int C h rfl dX7_prepare_183 (⟨_, rfl, by simp [kPreR, preBR, hi_k, hv_k, hi_c, hv_c, hi_lo, hv_lo, c_6, c_13, c_20, c_32, c_42, eq_true c_50, eq_false (Int32.not_le.mpr c_50), eq_true c_65, eq_true c_76, eq_false c_93, eq_false c_124, eq_false c_129, c_143, c_155, eq_true c_167, eq_false (Nat.not_lt.mpr c_167), c_179], by simp [preRR, kPreR, preBR, thr, hi_k, hv_k, hi_c, hv_c, hi_lo, hv_lo, c_6, c_13, c_20, c_32, c_42, eq_true c_50, eq_false (Int32.not_le.mpr c_50), eq_true c_65, eq_true c_76, eq_false c_93, eq_false c_124, eq_false c_129, c_143, c_155, eq_true c_167, eq_false (Nat.not_lt.mpr c_167), c_179]⟩) (by decide) (by decide)
                            · skip
                              refine lv_iconst (v := (nI 1)) hx hy dX7_prepare_170 (by decide) ?_
                              refine lv_goto (tgt := 175) hx hy dX7_prepare_171 (by decide) ?_
                              refine lv_iconst (v := (nI 3)) hx hy dX7_prepare_175 (by decide) ?_
                              refine n_go0 C h (n_V (As := [.int (b2i true), .int (nI 3)]) (rest := []) C h X (hr 100 (by decide)) ((cel_hi (by decide)).trans (celF_Mod _)) rfl (c_X7_no l hr M (wr (suM (wr R rMod 19 (nI 0)) c (wrN R c)) rMod 19 (nI 0)) o true (nI 3)) (cwV 2 C.2.2.2.2.1 gX7_prepare_X7_no rfl rfl rfl (by decide +kernel) ⟨Nat.le_of_ble_eq_true rfl, Nat.le_of_ble_eq_true rfl⟩) rfl hl.1 rfl (Nat.le_of_ble_eq_true rfl) dX7_prepare_176 ⟨by decide, by decide⟩) (fun _ _ z => z) (fun v_176 u_176 H locs hpo h => ?_)
                              obtain ⟨rfl, rfl⟩ := hpo
                              refine b_eq hx hy (tgt := 184) dX7_prepare_179 (by decide) (fun c_179 => ?_) (fun c_179 => ?_)
                              · skip
                                rw [noV_t c_179] at h
                                rw [wr_wr] at h
                                refine lv_aload_n hx hy dX7_prepare_184 rfl (lv_at hl 2 rfl) ?_
                                refine g_f C h (hr 100 (by decide)) (cel_hi (by decide)) celF_Mod rfl in_X7_prepare_X7 29 (by decide) (by decide +kernel) (v := .ref (V.1 130)) rfl dX7_prepare_185 ?_
                                refine lv_iconst (v := (nI 2)) hx hy dX7_prepare_188 (by decide) ?_
                                refine lv_iload_n hx hy dX7_prepare_189 rfl (lv_at hl 3 rfl) ?_
                                refine lv_imul hx hy dX7_prepare_190 ?_
                                refine lv_topn (pk_mul _ _) ?_
                                refine lv_iload_n hx hy dX7_prepare_191 rfl (lv_at hl 4 rfl) ?_
                                refine lv_iadd hx hy dX7_prepare_192 ?_
                                refine lv_topn (nI_add _ _) ?_
                                refine lv_bipush (v := (nI 112)) hx hy dX7_prepare_193 (by decide) ?_
                                refine s_cR C h (hr 130 (by decide)) (by decide) (n := 16) (k := ((2 * k) + c)) (fun _ => rfl) (by omega) (by decide) (x := (nI 112)) (by decide) dX7_prepare_195 (fun H locs h => ?_)
                                refine lv_aload_n hx hy dX7_prepare_196 rfl (lv_at hl 2 rfl) ?_
                                refine lv_iload_n hx hy dX7_prepare_197 rfl (lv_at hl 4 rfl) ?_
                                refine lv_bipush (v := (nI 112)) hx hy dX7_prepare_198 (by decide) ?_
                                refine lv_aload_n hx hy dX7_prepare_200 rfl (lv_at hl 2 rfl) ?_
                                refine g_f C h (hr 100 (by decide)) (cel_hi (by decide)) celF_Mod rfl in_X7_prepare_X7 27 (by decide) (by decide +kernel) (v := .ref (V.1 128)) rfl dX7_prepare_201 ?_
                                refine lv_iload_n hx hy dX7_prepare_204 rfl (lv_at hl 3 rfl) ?_
                                refine g_i C h (hr 128 (by decide)) (n := 8) (k := k) (cel_hi (by decide)) (fun _ => rfl) (by omega) (by decide) (v := (R 128 k)) (show (wr (wr (suM (wr R rMod 19 (nI 0)) c (wrN R c)) rMod 19 (nI 0)) 130 ((2 * k) + c) (nI 112)) 128 k = (R 128 k) from ((wr_othr (by decide)).trans ((wr_othr (by decide)).trans ((congrFun (suM_ne (by decide) (by decide)) _).trans (wr_othr (by decide)))))) dX7_prepare_205 ?_
                                refine lv_iload_n hx hy dX7_prepare_206 rfl (lv_at hl 5 rfl) ?_
                                refine lv_iload_n hx hy dX7_prepare_207 rfl (lv_at hl 3 rfl) ?_
                                refine n_go0 C h (n_V (As := [.int (nI c), .int (nI 112), .int (R 128 k), .int (nI lo), .int (nI k)]) (rest := []) C h X (hr 100 (by decide)) ((cel_hi (by decide)).trans (celF_Mod _)) rfl (c_X7_writes l hr M (wr (wr (suM (wr R rMod 19 (nI 0)) c (wrN R c)) rMod 19 (nI 0)) 130 ((2 * k) + c) (nI 112)) o c hc (mnN R c) hmn9 (show (wr (wr (suM (wr R rMod 19 (nI 0)) c (wrN R c)) rMod 19 (nI 0)) 130 ((2 * k) + c) (nI 112)) 101 c = nI (mnN R c) from ((wr_othr (by decide)).trans ((wr_othr (by decide)).trans ((congrFun (suM_ne (by decide) (by decide)) _).trans ((wr_othr (by decide)).trans (hmn c hc).1))))) (wrN R c) c_167 (show (wr (wr (suM (wr R rMod 19 (nI 0)) c (wrN R c)) rMod 19 (nI 0)) 130 ((2 * k) + c) (nI 112)) 103 c = nI (wrN R c) from ((wr_othr (by decide)).trans ((wr_othr (by decide)).trans ((congrFun (suM_ne (by decide) (by decide)) _).trans ((wr_othr (by decide)).trans (hwn c hc).1))))) lo hlo (nI 112) (R 128 k) (nI k) (by decide)) (cwV 5 C.2.2.2.2.1 gX7_prepare_X7_writes rfl rfl rfl (by decide +kernel) ⟨Nat.le_of_ble_eq_true rfl, Nat.le_of_ble_eq_true rfl⟩) rfl hl.1 rfl (Nat.le_of_ble_eq_true rfl) dX7_prepare_208 ⟨by decide, by decide⟩) (fun _ _ z => z) (fun v_208 u_208 H locs hpo h => ?_)
                                obtain ⟨rfl, rfl⟩ := hpo
                                exact e_int C h rfl dX7_prepare_211 (⟨_, rfl, by simp [kPreR, preBR, hi_k, hv_k, hi_c, hv_c, hi_lo, hv_lo, c_6, c_13, c_20, c_32, c_42, eq_true c_50, eq_false (Int32.not_le.mpr c_50), eq_true c_65, eq_true c_76, eq_false c_93, eq_false c_124, eq_false c_129, c_143, c_155, eq_true c_167, eq_false (Nat.not_le.mpr c_167), c_179], by simp [preRR, kPreR, preBR, thr, hi_k, hv_k, hi_c, hv_c, hi_lo, hv_lo, c_6, c_13, c_20, c_32, c_42, eq_true c_50, eq_false (Int32.not_le.mpr c_50), eq_true c_65, eq_true c_76, eq_false c_93, eq_false c_124, eq_false c_129, c_143, c_155, eq_true c_167, eq_false (Nat.not_le.mpr c_167), c_179]⟩) (by decide) (by decide)
                              · skip
                                exact absurd c_179 (by decide)
                  · skip
                    refine lv_aload_n hx hy dX7_prepare_96 rfl (lv_at hl 1 rfl) ?_
                    refine g_f C h (hr 100 (by decide)) (cel_hi (by decide)) celF_Mod rfl in_X7_prepare_X7 31 (by decide) (by decide +kernel) (v := .int ((suM (wr R rMod 19 (nI 0)) c (wrN R c)) rMod 31)) rfl dX7_prepare_97 ?_
                    refine lv_aload_n hx hy dX7_prepare_100 rfl (lv_at hl 1 rfl) ?_
                    refine g_f C h (hr 100 (by decide)) (cel_hi (by decide)) celF_Mod rfl in_X7_prepare_X7 32 (by decide) (by decide +kernel) (v := .int ((suM (wr R rMod 19 (nI 0)) c (wrN R c)) rMod 32)) rfl dX7_prepare_101 ?_
                    refine lv_isub hx hy dX7_prepare_104 ?_
                    refine lv_aload_n hx hy dX7_prepare_105 rfl (lv_at hl 1 rfl) ?_
                    refine g_f C h (hr 100 (by decide)) (cel_hi (by decide)) celF_Mod rfl in_X7_prepare_X7 27 (by decide) (by decide +kernel) (v := .ref (V.1 128)) rfl dX7_prepare_106 ?_
                    refine lv_iload_n hx hy dX7_prepare_109 rfl (lv_at hl 2 rfl) ?_
                    refine g_i C h (hr 128 (by decide)) (n := 8) (k := k) (cel_hi (by decide)) (fun _ => rfl) (by omega) (by decide) (v := (R 128 k)) (show (suM (wr R rMod 19 (nI 0)) c (wrN R c)) 128 k = (R 128 k) from ((congrFun (suM_ne (by decide) (by decide)) _).trans (wr_othr (by decide)))) dX7_prepare_110 ?_
                    refine i_lt hx hy (tgt := 118) dX7_prepare_111 (by decide) (fun c_111 => ?_) (fun c_111 => ?_)
                    · skip
                      refine lv_iconst (v := (nI 0)) hx hy dX7_prepare_118 (by decide) ?_
                      refine lv_istore (lv' := [(5, .int (nI 0)), (4, .int (nI 1)), (0, .ref (V.1 rMod)), (1, .int (nI k)), (2, .int (nI c)), (3, .int (nI lo))]) hx hy dX7_prepare_119 hl (by decide) rfl (fun ls hl => ?_)
                      refine lv_aload_n hx hy dX7_prepare_121 rfl (lv_at hl 2 rfl) ?_
                      refine lv_iload hx hy dX7_prepare_122 (lv_at hl 1 rfl) ?_
                      refine nz_eq hx hy (by omega) (tgt := 150) dX7_prepare_124 (by decide) (fun c_124 => ?_) (fun c_124 => ?_)
                      · skip
                        exact absurd c_124 (by decide)
                      · skip
                        refine lv_iload hx hy dX7_prepare_127 (lv_at hl 0 rfl) ?_
                        refine nz_eq hx hy (by omega) (tgt := 150) dX7_prepare_129 (by decide) (fun c_129 => ?_) (fun c_129 => ?_)
                        · skip
                          refine lv_iconst (v := (nI 0)) hx hy dX7_prepare_150 (by decide) ?_
                          refine lv_iconst (v := (nI 2)) hx hy dX7_prepare_151 (by decide) ?_
                          refine n_go0 C h (n_V (As := [.int (b2i false), .int (nI 2)]) (rest := []) C h X (hr 100 (by decide)) ((cel_hi (by decide)).trans (celF_Mod _)) rfl (c_X7_no l hr M (suM (wr R rMod 19 (nI 0)) c (wrN R c)) o false (nI 2)) (cwV 2 C.2.2.2.2.1 gX7_prepare_X7_no rfl rfl rfl (by decide +kernel) ⟨Nat.le_of_ble_eq_true rfl, Nat.le_of_ble_eq_true rfl⟩) rfl hl.1 rfl (Nat.le_of_ble_eq_true rfl) dX7_prepare_152 ⟨by decide, by decide⟩) (fun _ _ z => z) (fun v_152 u_152 H locs hpo h => ?_)
                          obtain ⟨rfl, rfl⟩ := hpo
                          refine b_ne hx hy (tgt := 182) dX7_prepare_155 (by decide) (fun c_155 => ?_) (fun c_155 => ?_)
                          · skip
                            rw [noV_f c_155] at h
                            refine lv_iconst (v := (nI 0)) hx hy dX7_prepare_182 (by decide) ?_
                            exact e_int C h rfl dX7_prepare_183 (⟨_, rfl, by simp [kPreR, preBR, hi_k, hv_k, hi_c, hv_c, hi_lo, hv_lo, c_6, c_13, c_20, c_32, c_42, eq_true c_50, eq_false (Int32.not_le.mpr c_50), eq_true c_65, eq_true c_76, eq_true c_93, eq_true c_111, eq_false (Int32.not_le.mpr c_111), eq_false c_124, eq_true c_129, c_155], by simp [preRR, kPreR, preBR, thr, hi_k, hv_k, hi_c, hv_c, hi_lo, hv_lo, c_6, c_13, c_20, c_32, c_42, eq_true c_50, eq_false (Int32.not_le.mpr c_50), eq_true c_65, eq_true c_76, eq_true c_93, eq_true c_111, eq_false (Int32.not_le.mpr c_111), eq_false c_124, eq_true c_129, c_155]⟩) (by decide) (by decide)
                          · skip
                            exact absurd c_155 (by decide)
                        · skip
                          exact absurd c_129 (by decide)
                    · skip
                      refine lv_iconst (v := (nI 1)) hx hy dX7_prepare_114 (by decide) ?_
                      refine lv_goto (tgt := 119) hx hy dX7_prepare_115 (by decide) ?_
                      refine lv_istore (lv' := [(5, .int (nI 1)), (4, .int (nI 1)), (0, .ref (V.1 rMod)), (1, .int (nI k)), (2, .int (nI c)), (3, .int (nI lo))]) hx hy dX7_prepare_119 hl (by decide) rfl (fun ls hl => ?_)
                      refine lv_aload_n hx hy dX7_prepare_121 rfl (lv_at hl 2 rfl) ?_
                      refine lv_iload hx hy dX7_prepare_122 (lv_at hl 1 rfl) ?_
                      refine nz_eq hx hy (by omega) (tgt := 150) dX7_prepare_124 (by decide) (fun c_124 => ?_) (fun c_124 => ?_)
                      · skip
                        exact absurd c_124 (by decide)
                      · skip
                        refine lv_iload hx hy dX7_prepare_127 (lv_at hl 0 rfl) ?_
                        refine nz_eq hx hy (by omega) (tgt := 150) dX7_prepare_129 (by decide) (fun c_129 => ?_) (fun c_129 => ?_)
                        · skip
                          exact absurd c_129 (by decide)
                        · skip
                          refine lv_aload_n hx hy dX7_prepare_132 rfl (lv_at hl 2 rfl) ?_
                          refine lv_iload_n hx hy dX7_prepare_133 rfl (lv_at hl 4 rfl) ?_
                          refine lv_aload_n hx hy dX7_prepare_134 rfl (lv_at hl 2 rfl) ?_
                          refine lv_iload_n hx hy dX7_prepare_135 rfl (lv_at hl 4 rfl) ?_
                          refine lv_iload_n hx hy dX7_prepare_136 rfl (lv_at hl 5 rfl) ?_
                          refine n_go0 C h (n_V (As := [.int (nI c), .int (nI lo)]) (rest := [.int (nI c), .ref (V.1 rMod), .ref (V.1 rMod)]) C h X (hr 100 (by decide)) ((cel_hi (by decide)).trans (celF_Mod _)) rfl (c_X7_reach l hr M (suM (wr R rMod 19 (nI 0)) c (wrN R c)) o c hc (mnN R c) hmn9 (show (suM (wr R rMod 19 (nI 0)) c (wrN R c)) 101 c = nI (mnN R c) from ((congrFun (suM_ne (by decide) (by decide)) _).trans ((wr_othr (by decide)).trans (hmn c hc).1))) lo hlo) (cwV 2 C.2.2.2.2.1 gX7_prepare_X7_reach rfl rfl rfl (by decide +kernel) ⟨Nat.le_of_ble_eq_true rfl, Nat.le_of_ble_eq_true rfl⟩) rfl hl.1 rfl (Nat.le_of_ble_eq_true rfl) dX7_prepare_137 ⟨by decide, by decide⟩) (fun _ _ z => z) (fun v_137 u_137 H locs hpo h => ?_)
                          obtain ⟨rfl, rfl⟩ := hpo
                          refine n_go0 C h (n_V (As := [.int (nI c), .int (rcN (suM (wr R rMod 19 (nI 0)) c (wrN R c)) c lo (mnN R c))]) (rest := [.ref (V.1 rMod)]) C h X (hr 100 (by decide)) ((cel_hi (by decide)).trans (celF_Mod _)) rfl (c_X7_quorum l hr M (suM (wr R rMod 19 (nI 0)) c (wrN R c)) o c hc (rcN (suM (wr R rMod 19 (nI 0)) c (wrN R c)) c lo (mnN R c))) (cwV 2 C.2.2.2.2.1 gX7_prepare_X7_quorum rfl rfl rfl (by decide +kernel) ⟨Nat.le_of_ble_eq_true rfl, Nat.le_of_ble_eq_true rfl⟩) rfl hl.1 rfl (Nat.le_of_ble_eq_true rfl) dX7_prepare_140 ⟨by decide, by decide⟩) (fun _ _ z => z) (fun v_140 u_140 H locs hpo h => ?_)
                          obtain ⟨rfl, rfl⟩ := hpo
                          refine b_eq hx hy (tgt := 150) dX7_prepare_143 (by decide) (fun c_143 => ?_) (fun c_143 => ?_)
                          · skip
                            refine lv_iconst (v := (nI 0)) hx hy dX7_prepare_150 (by decide) ?_
                            refine lv_iconst (v := (nI 2)) hx hy dX7_prepare_151 (by decide) ?_
                            refine n_go0 C h (n_V (As := [.int (b2i false), .int (nI 2)]) (rest := []) C h X (hr 100 (by decide)) ((cel_hi (by decide)).trans (celF_Mod _)) rfl (c_X7_no l hr M (suM (wr R rMod 19 (nI 0)) c (wrN R c)) o false (nI 2)) (cwV 2 C.2.2.2.2.1 gX7_prepare_X7_no rfl rfl rfl (by decide +kernel) ⟨Nat.le_of_ble_eq_true rfl, Nat.le_of_ble_eq_true rfl⟩) rfl hl.1 rfl (Nat.le_of_ble_eq_true rfl) dX7_prepare_152 ⟨by decide, by decide⟩) (fun _ _ z => z) (fun v_152 u_152 H locs hpo h => ?_)
                            obtain ⟨rfl, rfl⟩ := hpo
                            refine b_ne hx hy (tgt := 182) dX7_prepare_155 (by decide) (fun c_155 => ?_) (fun c_155 => ?_)
                            · skip
                              rw [noV_f c_155] at h
                              refine lv_iconst (v := (nI 0)) hx hy dX7_prepare_182 (by decide) ?_
                              exact e_int C h rfl dX7_prepare_183 (⟨_, rfl, by simp [kPreR, preBR, hi_k, hv_k, hi_c, hv_c, hi_lo, hv_lo, c_6, c_13, c_20, c_32, c_42, eq_true c_50, eq_false (Int32.not_le.mpr c_50), eq_true c_65, eq_true c_76, eq_true c_93, eq_true c_111, eq_false (Int32.not_lt.mpr c_111), eq_false c_124, eq_false c_129, c_143, c_155], by simp [preRR, kPreR, preBR, thr, hi_k, hv_k, hi_c, hv_c, hi_lo, hv_lo, c_6, c_13, c_20, c_32, c_42, eq_true c_50, eq_false (Int32.not_le.mpr c_50), eq_true c_65, eq_true c_76, eq_true c_93, eq_true c_111, eq_false (Int32.not_lt.mpr c_111), eq_false c_124, eq_false c_129, c_143, c_155]⟩) (by decide) (by decide)
                            · skip
                              exact absurd c_155 (by decide)
                          · skip
                            refine lv_iconst (v := (nI 1)) hx hy dX7_prepare_146 (by decide) ?_
                            refine lv_goto (tgt := 151) hx hy dX7_prepare_147 (by decide) ?_
                            refine lv_iconst (v := (nI 2)) hx hy dX7_prepare_151 (by decide) ?_
                            refine n_go0 C h (n_V (As := [.int (b2i true), .int (nI 2)]) (rest := []) C h X (hr 100 (by decide)) ((cel_hi (by decide)).trans (celF_Mod _)) rfl (c_X7_no l hr M (suM (wr R rMod 19 (nI 0)) c (wrN R c)) o true (nI 2)) (cwV 2 C.2.2.2.2.1 gX7_prepare_X7_no rfl rfl rfl (by decide +kernel) ⟨Nat.le_of_ble_eq_true rfl, Nat.le_of_ble_eq_true rfl⟩) rfl hl.1 rfl (Nat.le_of_ble_eq_true rfl) dX7_prepare_152 ⟨by decide, by decide⟩) (fun _ _ z => z) (fun v_152 u_152 H locs hpo h => ?_)
                            obtain ⟨rfl, rfl⟩ := hpo
                            refine b_ne hx hy (tgt := 182) dX7_prepare_155 (by decide) (fun c_155 => ?_) (fun c_155 => ?_)
                            · skip
                              exact absurd c_155 (by decide)
                            · skip
                              rw [noV_t c_155] at h
                              refine lv_aload_n hx hy dX7_prepare_158 rfl (lv_at hl 2 rfl) ?_
                              refine lv_aload_n hx hy dX7_prepare_159 rfl (lv_at hl 2 rfl) ?_
                              refine g_f C h (hr 100 (by decide)) (cel_hi (by decide)) celF_Mod rfl in_X7_prepare_X7 2 (by decide) (by decide +kernel) (v := .ref (V.1 103)) rfl dX7_prepare_160 ?_
                              refine lv_iload_n hx hy dX7_prepare_163 rfl (lv_at hl 4 rfl) ?_
                              refine g_i C h (hr 103 (by decide)) (n := 2) (k := c) (cel_hi (by decide)) (fun _ => rfl) (by omega) (by decide) (v := (nI (wrN R c))) (show (wr (suM (wr R rMod 19 (nI 0)) c (wrN R c)) rMod 19 (nI 0)) 103 c = (nI (wrN R c)) from ((wr_othr (by decide)).trans ((congrFun (suM_ne (by decide) (by decide)) _).trans ((wr_othr (by decide)).trans (hwn c hc).1)))) dX7_prepare_164 ?_
                              refine lv_bipush (v := (nI 60)) hx hy dX7_prepare_165 (by decide) ?_
                              refine n_ge hx hy (by omega) (by decide) (tgt := 174) dX7_prepare_167 (by decide) (fun c_167 => ?_) (fun c_167 => ?_)
                              · skip
                                refine lv_iconst (v := (nI 0)) hx hy dX7_prepare_174 (by decide) ?_
                                refine lv_iconst (v := (nI 3)) hx hy dX7_prepare_175 (by decide) ?_
                                refine n_go0 C h (n_V (As := [.int (b2i false), .int (nI 3)]) (rest := []) C h X (hr 100 (by decide)) ((cel_hi (by decide)).trans (celF_Mod _)) rfl (c_X7_no l hr M (wr (suM (wr R rMod 19 (nI 0)) c (wrN R c)) rMod 19 (nI 0)) o false (nI 3)) (cwV 2 C.2.2.2.2.1 gX7_prepare_X7_no rfl rfl rfl (by decide +kernel) ⟨Nat.le_of_ble_eq_true rfl, Nat.le_of_ble_eq_true rfl⟩) rfl hl.1 rfl (Nat.le_of_ble_eq_true rfl) dX7_prepare_176 ⟨by decide, by decide⟩) (fun _ _ z => z) (fun v_176 u_176 H locs hpo h => ?_)
                                obtain ⟨rfl, rfl⟩ := hpo
                                refine b_eq hx hy (tgt := 184) dX7_prepare_179 (by decide) (fun c_179 => ?_) (fun c_179 => ?_)
                                · skip
                                  exact absurd c_179 (by decide)
                                · skip
                                  rw [noV_f c_179] at h
                                  rw [wr_wr] at h
                                  refine lv_iconst (v := (nI 0)) hx hy dX7_prepare_182 (by decide) ?_
                                  exact e_int C h rfl dX7_prepare_183 (⟨_, rfl, by simp [kPreR, preBR, hi_k, hv_k, hi_c, hv_c, hi_lo, hv_lo, c_6, c_13, c_20, c_32, c_42, eq_true c_50, eq_false (Int32.not_le.mpr c_50), eq_true c_65, eq_true c_76, eq_true c_93, eq_true c_111, eq_false (Int32.not_lt.mpr c_111), eq_false c_124, eq_false c_129, c_143, c_155, eq_true c_167, eq_false (Nat.not_lt.mpr c_167), c_179], by simp [preRR, kPreR, preBR, thr, hi_k, hv_k, hi_c, hv_c, hi_lo, hv_lo, c_6, c_13, c_20, c_32, c_42, eq_true c_50, eq_false (Int32.not_le.mpr c_50), eq_true c_65, eq_true c_76, eq_true c_93, eq_true c_111, eq_false (Int32.not_lt.mpr c_111), eq_false c_124, eq_false c_129, c_143, c_155, eq_true c_167, eq_false (Nat.not_lt.mpr c_167), c_179]⟩) (by decide) (by decide)
                              · skip
                                refine lv_iconst (v := (nI 1)) hx hy dX7_prepare_170 (by decide) ?_
                                refine lv_goto (tgt := 175) hx hy dX7_prepare_171 (by decide) ?_
                                refine lv_iconst (v := (nI 3)) hx hy dX7_prepare_175 (by decide) ?_
                                refine n_go0 C h (n_V (As := [.int (b2i true), .int (nI 3)]) (rest := []) C h X (hr 100 (by decide)) ((cel_hi (by decide)).trans (celF_Mod _)) rfl (c_X7_no l hr M (wr (suM (wr R rMod 19 (nI 0)) c (wrN R c)) rMod 19 (nI 0)) o true (nI 3)) (cwV 2 C.2.2.2.2.1 gX7_prepare_X7_no rfl rfl rfl (by decide +kernel) ⟨Nat.le_of_ble_eq_true rfl, Nat.le_of_ble_eq_true rfl⟩) rfl hl.1 rfl (Nat.le_of_ble_eq_true rfl) dX7_prepare_176 ⟨by decide, by decide⟩) (fun _ _ z => z) (fun v_176 u_176 H locs hpo h => ?_)
                                obtain ⟨rfl, rfl⟩ := hpo
                                refine b_eq hx hy (tgt := 184) dX7_prepare_179 (by decide) (fun c_179 => ?_) (fun c_179 => ?_)
                                · skip
                                  rw [noV_t c_179] at h
                                  rw [wr_wr] at h
                                  refine lv_aload_n hx hy dX7_prepare_184 rfl (lv_at hl 2 rfl) ?_
                                  refine g_f C h (hr 100 (by decide)) (cel_hi (by decide)) celF_Mod rfl in_X7_prepare_X7 29 (by decide) (by decide +kernel) (v := .ref (V.1 130)) rfl dX7_prepare_185 ?_
                                  refine lv_iconst (v := (nI 2)) hx hy dX7_prepare_188 (by decide) ?_
                                  refine lv_iload_n hx hy dX7_prepare_189 rfl (lv_at hl 3 rfl) ?_
                                  refine lv_imul hx hy dX7_prepare_190 ?_
                                  refine lv_topn (pk_mul _ _) ?_
                                  refine lv_iload_n hx hy dX7_prepare_191 rfl (lv_at hl 4 rfl) ?_
                                  refine lv_iadd hx hy dX7_prepare_192 ?_
                                  refine lv_topn (nI_add _ _) ?_
                                  refine lv_bipush (v := (nI 112)) hx hy dX7_prepare_193 (by decide) ?_
                                  refine s_cR C h (hr 130 (by decide)) (by decide) (n := 16) (k := ((2 * k) + c)) (fun _ => rfl) (by omega) (by decide) (x := (nI 112)) (by decide) dX7_prepare_195 (fun H locs h => ?_)
                                  refine lv_aload_n hx hy dX7_prepare_196 rfl (lv_at hl 2 rfl) ?_
                                  refine lv_iload_n hx hy dX7_prepare_197 rfl (lv_at hl 4 rfl) ?_
                                  refine lv_bipush (v := (nI 112)) hx hy dX7_prepare_198 (by decide) ?_
                                  refine lv_aload_n hx hy dX7_prepare_200 rfl (lv_at hl 2 rfl) ?_
                                  refine g_f C h (hr 100 (by decide)) (cel_hi (by decide)) celF_Mod rfl in_X7_prepare_X7 27 (by decide) (by decide +kernel) (v := .ref (V.1 128)) rfl dX7_prepare_201 ?_
                                  refine lv_iload_n hx hy dX7_prepare_204 rfl (lv_at hl 3 rfl) ?_
                                  refine g_i C h (hr 128 (by decide)) (n := 8) (k := k) (cel_hi (by decide)) (fun _ => rfl) (by omega) (by decide) (v := (R 128 k)) (show (wr (wr (suM (wr R rMod 19 (nI 0)) c (wrN R c)) rMod 19 (nI 0)) 130 ((2 * k) + c) (nI 112)) 128 k = (R 128 k) from ((wr_othr (by decide)).trans ((wr_othr (by decide)).trans ((congrFun (suM_ne (by decide) (by decide)) _).trans (wr_othr (by decide)))))) dX7_prepare_205 ?_
                                  refine lv_iload_n hx hy dX7_prepare_206 rfl (lv_at hl 5 rfl) ?_
                                  refine lv_iload_n hx hy dX7_prepare_207 rfl (lv_at hl 3 rfl) ?_
                                  refine n_go0 C h (n_V (As := [.int (nI c), .int (nI 112), .int (R 128 k), .int (nI lo), .int (nI k)]) (rest := []) C h X (hr 100 (by decide)) ((cel_hi (by decide)).trans (celF_Mod _)) rfl (c_X7_writes l hr M (wr (wr (suM (wr R rMod 19 (nI 0)) c (wrN R c)) rMod 19 (nI 0)) 130 ((2 * k) + c) (nI 112)) o c hc (mnN R c) hmn9 (show (wr (wr (suM (wr R rMod 19 (nI 0)) c (wrN R c)) rMod 19 (nI 0)) 130 ((2 * k) + c) (nI 112)) 101 c = nI (mnN R c) from ((wr_othr (by decide)).trans ((wr_othr (by decide)).trans ((congrFun (suM_ne (by decide) (by decide)) _).trans ((wr_othr (by decide)).trans (hmn c hc).1))))) (wrN R c) c_167 (show (wr (wr (suM (wr R rMod 19 (nI 0)) c (wrN R c)) rMod 19 (nI 0)) 130 ((2 * k) + c) (nI 112)) 103 c = nI (wrN R c) from ((wr_othr (by decide)).trans ((wr_othr (by decide)).trans ((congrFun (suM_ne (by decide) (by decide)) _).trans ((wr_othr (by decide)).trans (hwn c hc).1))))) lo hlo (nI 112) (R 128 k) (nI k) (by decide)) (cwV 5 C.2.2.2.2.1 gX7_prepare_X7_writes rfl rfl rfl (by decide +kernel) ⟨Nat.le_of_ble_eq_true rfl, Nat.le_of_ble_eq_true rfl⟩) rfl hl.1 rfl (Nat.le_of_ble_eq_true rfl) dX7_prepare_208 ⟨by decide, by decide⟩) (fun _ _ z => z) (fun v_208 u_208 H locs hpo h => ?_)
                                  obtain ⟨rfl, rfl⟩ := hpo
                                  exact e_int C h rfl dX7_prepare_211 (⟨_, rfl, by simp [kPreR, preBR, hi_k, hv_k, hi_c, hv_c, hi_lo, hv_lo, c_6, c_13, c_20, c_32, c_42, eq_true c_50, eq_false (Int32.not_le.mpr c_50), eq_true c_65, eq_true c_76, eq_true c_93, eq_true c_111, eq_false (Int32.not_lt.mpr c_111), eq_false c_124, eq_false c_129, c_143, c_155, eq_true c_167, eq_false (Nat.not_le.mpr c_167), c_179], by simp [preRR, kPreR, preBR, thr, hi_k, hv_k, hi_c, hv_c, hi_lo, hv_lo, c_6, c_13, c_20, c_32, c_42, eq_true c_50, eq_false (Int32.not_le.mpr c_50), eq_true c_65, eq_true c_76, eq_true c_93, eq_true c_111, eq_false (Int32.not_lt.mpr c_111), eq_false c_124, eq_false c_129, c_143, c_155, eq_true c_167, eq_false (Nat.not_le.mpr c_167), c_179]⟩) (by decide) (by decide)
                                · skip
                                  exact absurd c_179 (by decide)
        · skip
          exact absurd c_32 (by decide)

set_option maxRecDepth 20000 in
theorem in_X7_decide_X7 : ∀ x ∈ wsX70, x ∈ wsX7_decide := by decide +kernel
set_option maxRecDepth 100000 in
set_option maxHeartbeats 4000000 in
/-- the reference: decide -/
theorem c_X7_decide (l : Launch) {G : va_G} {V : wV} {rs : List Nat} (hr : bR rs) (M R : wM) (o : wO) (rv : RV R) (tr0 : Int32) (de : Bool) : CT l G V rs yX7_decide wsX7_decide 2 43 0 0 [.ref (V.1 rMod), .int tr0, .int (b2i de)] (M, R, o) (fun v u => ∃ r, v = some (.int r) ∧ (kDecR R tr0 de = 0 → r = nI (pzI R (2 * cI tr0) + pzI R (2 * cI tr0 + 1))) ∧ u = (M, decRR R tr0 de, o)) (fun _ _ => False) := by
  refine ct_of (cc := cX7_decide) (maxL := 4) (ret := (some .int)) (by decide) rfl (Nat.le_of_ble_eq_true rfl) ?_
  intro p e s m below meth cd ls C h X hT hl
  have hx := C.1
  have hy := C.2.1
  have hl : lv_has ls 4 [(0, .ref (V.1 rMod)), (1, .int tr0), (2, .int (b2i de))] := hl
  have hmn : ∀ c, c < 2 → R 101 c = nI (mnN R c) ∧ mnN R c ≤ 7 := fun c hc => ⟨(rv.1 c hc).1, (rv.1 c hc).2.1⟩
  have hwn : ∀ c, c < 2 → R 103 c = nI (wrN R c) ∧ wrN R c ≤ 60 := fun c hc => ⟨(rv.1 c hc).2.2.1, (rv.1 c hc).2.2.2.1⟩
  have hsi9 := rv.2.1.2
  have htr9 := rv.2.2.1.2
  refine lv_aload_n hx hy dX7_decide_0 rfl (lv_at hl 0 rfl) ?_
  refine lv_aload_n hx hy dX7_decide_1 rfl (lv_at hl 0 rfl) ?_
  refine lv_iload_n hx hy dX7_decide_2 rfl (lv_at hl 1 rfl) ?_
  refine n_go0 C h (n_V (As := [.int tr0]) (rest := [.ref (V.1 rMod)]) C h X (hr 100 (by decide)) ((cel_hi (by decide)).trans (celF_Mod _)) rfl (c_X7_isTruce l hr M R o (trN R) htr9 (show R rMod 17 = nI (trN R) from rv.2.2.1.1) tr0) (cwV 1 C.2.2.2.2.1 gX7_decide_X7_isTruce rfl rfl rfl (by decide +kernel) ⟨Nat.le_of_ble_eq_true rfl, Nat.le_of_ble_eq_true rfl⟩) rfl hl.1 rfl (Nat.le_of_ble_eq_true rfl) dX7_decide_3 ⟨by decide, by decide⟩) (fun _ _ z => z) (fun v_3 u_3 H locs hpo h => ?_)
  obtain ⟨rfl, rfl⟩ := hpo
  refine lv_iconst (v := (nI 1)) hx hy dX7_decide_6 (by decide) ?_
  refine n_go0 C h (n_V (As := [.int (b2i (vIn tr0 (trN R))), .int (nI 1)]) (rest := []) C h X (hr 100 (by decide)) ((cel_hi (by decide)).trans (celF_Mod _)) rfl (c_X7_no l hr M R o (vIn tr0 (trN R)) (nI 1)) (cwV 2 C.2.2.2.2.1 gX7_decide_X7_no rfl rfl rfl (by decide +kernel) ⟨Nat.le_of_ble_eq_true rfl, Nat.le_of_ble_eq_true rfl⟩) rfl hl.1 rfl (Nat.le_of_ble_eq_true rfl) dX7_decide_7 ⟨by decide, by decide⟩) (fun _ _ z => z) (fun v_7 u_7 H locs hpo h => ?_)
  obtain ⟨rfl, rfl⟩ := hpo
  refine b_eq hx hy (tgt := 15) dX7_decide_10 (by decide) (fun c_10 => ?_) (fun c_10 => ?_)
  · skip
    rw [noV_t c_10] at h
    have hno_10 : vIn tr0 (trN R) = true := not_ff c_10
    obtain ⟨k, hk, rfl⟩ := vIn_ok' hno_10 (by omega)
    have hv_k : vIn (nI k) (trN R) = true := vIn_nI hk (by omega)
    have hi_k : cI (nI k) = k := nI_clamp (by omega)
    have hk8 : k < 8 := by omega
    have hT9 := rv.2.2.2.2 k hk
    refine lv_aload_n hx hy dX7_decide_15 rfl (lv_at hl 0 rfl) ?_
    refine g_f C h (hr 100 (by decide)) (cel_hi (by decide)) celF_Mod rfl in_X7_decide_X7 29 (by decide) (by decide +kernel) (v := .ref (V.1 130)) rfl dX7_decide_16 ?_
    refine lv_iconst (v := (nI 2)) hx hy dX7_decide_19 (by decide) ?_
    refine lv_iload_n hx hy dX7_decide_20 rfl (lv_at hl 1 rfl) ?_
    refine lv_imul hx hy dX7_decide_21 ?_
    refine lv_topn (pk_mul _ _) ?_
    refine g_c C h (hr 130 (by decide)) (n := 16) (k := (2 * k)) (cel_hi (by decide)) (fun _ => rfl) (by omega) (by decide) (v := (R 130 (2 * k))) (show (wr R rMod 19 (nI 0)) 130 (2 * k) = (R 130 (2 * k)) from (wr_othr (by decide))) dX7_decide_22 ?_
    refine lv_bipush (v := (nI 112)) hx hy dX7_decide_23 (by decide) ?_
    refine i_ne hx hy (tgt := 32) dX7_decide_25 (by decide) (fun c_25 => ?_) (fun c_25 => ?_)
    · skip
      refine lv_iconst (v := (nI 0)) hx hy dX7_decide_32 (by decide) ?_
      refine lv_aload_n hx hy dX7_decide_33 rfl (lv_at hl 0 rfl) ?_
      refine g_f C h (hr 100 (by decide)) (cel_hi (by decide)) celF_Mod rfl in_X7_decide_X7 29 (by decide) (by decide +kernel) (v := .ref (V.1 130)) rfl dX7_decide_34 ?_
      refine lv_iconst (v := (nI 2)) hx hy dX7_decide_37 (by decide) ?_
      refine lv_iload_n hx hy dX7_decide_38 rfl (lv_at hl 1 rfl) ?_
      refine lv_imul hx hy dX7_decide_39 ?_
      refine lv_topn (pk_mul _ _) ?_
      refine lv_iconst (v := (nI 1)) hx hy dX7_decide_40 (by decide) ?_
      refine lv_iadd hx hy dX7_decide_41 ?_
      refine lv_topn (nI_add _ _) ?_
      refine g_c C h (hr 130 (by decide)) (n := 16) (k := ((2 * k) + 1)) (cel_hi (by decide)) (fun _ => rfl) (by omega) (by decide) (v := (R 130 ((2 * k) + 1))) (show (wr R rMod 19 (nI 0)) 130 ((2 * k) + 1) = (R 130 ((2 * k) + 1)) from (wr_othr (by decide))) dX7_decide_42 ?_
      refine lv_bipush (v := (nI 112)) hx hy dX7_decide_43 (by decide) ?_
      refine i_ne hx hy (tgt := 52) dX7_decide_45 (by decide) (fun c_45 => ?_) (fun c_45 => ?_)
      · skip
        refine lv_iconst (v := (nI 0)) hx hy dX7_decide_52 (by decide) ?_
        refine lv_iadd hx hy dX7_decide_53 ?_
        refine lv_topn (nI_add _ _) ?_
        refine lv_istore_n (lv' := [(3, .int (nI (0 + 0))), (0, .ref (V.1 rMod)), (1, .int (nI k)), (2, .int (b2i de))]) hx hy dX7_decide_54 rfl hl (by decide) rfl (fun ls hl => ?_)
        refine lv_aload_n hx hy dX7_decide_55 rfl (lv_at hl 1 rfl) ?_
        refine lv_aload_n hx hy dX7_decide_56 rfl (lv_at hl 1 rfl) ?_
        refine g_f C h (hr 100 (by decide)) (cel_hi (by decide)) celF_Mod rfl in_X7_decide_X7 28 (by decide) (by decide +kernel) (v := .ref (V.1 129)) rfl dX7_decide_57 ?_
        refine lv_iload_n hx hy dX7_decide_60 rfl (lv_at hl 2 rfl) ?_
        refine g_c C h (hr 129 (by decide)) (n := 8) (k := k) (cel_hi (by decide)) (fun _ => rfl) (by omega) (by decide) (v := (R 129 k)) (show (wr R rMod 19 (nI 0)) 129 k = (R 129 k) from (wr_othr (by decide))) dX7_decide_61 ?_
        refine lv_bipush (v := (nI 45)) hx hy dX7_decide_62 (by decide) ?_
        refine i_ne hx hy (tgt := 80) dX7_decide_64 (by decide) (fun c_64 => ?_) (fun c_64 => ?_)
        · skip
          refine lv_iconst (v := (nI 0)) hx hy dX7_decide_80 (by decide) ?_
          refine lv_iconst (v := (nI 2)) hx hy dX7_decide_81 (by decide) ?_
          refine n_go0 C h (n_V (As := [.int (b2i false), .int (nI 2)]) (rest := []) C h X (hr 100 (by decide)) ((cel_hi (by decide)).trans (celF_Mod _)) rfl (c_X7_no l hr M (wr R rMod 19 (nI 0)) o false (nI 2)) (cwV 2 C.2.2.2.2.1 gX7_decide_X7_no rfl rfl rfl (by decide +kernel) ⟨Nat.le_of_ble_eq_true rfl, Nat.le_of_ble_eq_true rfl⟩) rfl hl.1 rfl (Nat.le_of_ble_eq_true rfl) dX7_decide_82 ⟨by decide, by decide⟩) (fun _ _ z => z) (fun v_82 u_82 H locs hpo h => ?_)
          obtain ⟨rfl, rfl⟩ := hpo
          refine b_eq hx hy (tgt := 90) dX7_decide_85 (by decide) (fun c_85 => ?_) (fun c_85 => ?_)
          · skip
            exact absurd c_85 (by decide)
          · skip
            rw [noV_f c_85] at h
            rw [wr_wr] at h
            refine lv_iconst (v := (nI 0)) hx hy dX7_decide_88 (by decide) ?_
            exact e_int C h rfl dX7_decide_89 (⟨_, rfl, by first | (exfalso; omega) | exact absurd (c_68.symm.trans c_96) (by decide) | simp [kDecR, decBR, pzI, hno_10, hi_k, hv_k, c_10, eq_false c_25, eq_false c_45, eq_false c_64, c_85], by first | (exfalso; omega) | exact absurd (c_68.symm.trans c_96) (by decide) | simp [decRR, kDecR, decBR, thr, hno_10, hi_k, hv_k, c_10, eq_false c_25, eq_false c_45, eq_false c_64, c_85]⟩) (by decide) (by decide)
        · skip
          refine lv_iload_n hx hy dX7_decide_67 rfl (lv_at hl 3 rfl) ?_
          refine b_eq hx hy (tgt := 76) dX7_decide_68 (by decide) (fun c_68 => ?_) (fun c_68 => ?_)
          · skip
            refine lv_iconst (v := (nI 1)) hx hy dX7_decide_76 (by decide) ?_
            refine lv_goto (tgt := 81) hx hy dX7_decide_77 (by decide) ?_
            refine lv_iconst (v := (nI 2)) hx hy dX7_decide_81 (by decide) ?_
            refine n_go0 C h (n_V (As := [.int (b2i true), .int (nI 2)]) (rest := []) C h X (hr 100 (by decide)) ((cel_hi (by decide)).trans (celF_Mod _)) rfl (c_X7_no l hr M (wr R rMod 19 (nI 0)) o true (nI 2)) (cwV 2 C.2.2.2.2.1 gX7_decide_X7_no rfl rfl rfl (by decide +kernel) ⟨Nat.le_of_ble_eq_true rfl, Nat.le_of_ble_eq_true rfl⟩) rfl hl.1 rfl (Nat.le_of_ble_eq_true rfl) dX7_decide_82 ⟨by decide, by decide⟩) (fun _ _ z => z) (fun v_82 u_82 H locs hpo h => ?_)
            obtain ⟨rfl, rfl⟩ := hpo
            refine b_eq hx hy (tgt := 90) dX7_decide_85 (by decide) (fun c_85 => ?_) (fun c_85 => ?_)
            · skip
              rw [noV_t c_85] at h
              rw [wr_wr] at h
              refine lv_aload_n hx hy dX7_decide_90 rfl (lv_at hl 1 rfl) ?_
              refine g_f C h (hr 100 (by decide)) (cel_hi (by decide)) celF_Mod rfl in_X7_decide_X7 28 (by decide) (by decide +kernel) (v := .ref (V.1 129)) rfl dX7_decide_91 ?_
              refine lv_iload_n hx hy dX7_decide_94 rfl (lv_at hl 2 rfl) ?_
              refine lv_iload_n hx hy dX7_decide_95 rfl (lv_at hl 3 rfl) ?_
              refine b_eq hx hy (tgt := 104) dX7_decide_96 (by decide) (fun c_96 => ?_) (fun c_96 => ?_)
              · skip
                refine lv_bipush (v := (nI 97)) hx hy dX7_decide_104 (by decide) ?_
                refine s_cR C h (hr 129 (by decide)) (by decide) (n := 8) (k := k) (fun _ => rfl) (by omega) (by decide) (x := (nI 97)) (by decide) dX7_decide_106 (fun H locs h => ?_)
                refine lv_iload_n hx hy dX7_decide_107 rfl (lv_at hl 0 rfl) ?_
                exact e_int C h rfl dX7_decide_108 (⟨_, rfl, by first | (exfalso; omega) | exact absurd (c_68.symm.trans c_96) (by decide) | simp [kDecR, decBR, pzI, hno_10, hi_k, hv_k, c_10, eq_false c_25, eq_false c_45, eq_true c_64, c_68, c_85, c_96], by first | (exfalso; omega) | exact absurd (c_68.symm.trans c_96) (by decide) | simp [decRR, kDecR, decBR, thr, hno_10, hi_k, hv_k, c_10, eq_false c_25, eq_false c_45, eq_true c_64, c_68, c_85, c_96]⟩) (by decide) (by decide)
              · skip
                refine lv_bipush (v := (nI 100)) hx hy dX7_decide_99 (by decide) ?_
                refine lv_goto (tgt := 106) hx hy dX7_decide_101 (by decide) ?_
                refine s_cR C h (hr 129 (by decide)) (by decide) (n := 8) (k := k) (fun _ => rfl) (by omega) (by decide) (x := (nI 100)) (by decide) dX7_decide_106 (fun H locs h => ?_)
                refine lv_iload_n hx hy dX7_decide_107 rfl (lv_at hl 0 rfl) ?_
                exact e_int C h rfl dX7_decide_108 (⟨_, rfl, by first | (exfalso; omega) | exact absurd (c_68.symm.trans c_96) (by decide) | simp [kDecR, decBR, pzI, hno_10, hi_k, hv_k, c_10, eq_false c_25, eq_false c_45, eq_true c_64, c_68, c_85, c_96], by first | (exfalso; omega) | exact absurd (c_68.symm.trans c_96) (by decide) | simp [decRR, kDecR, decBR, thr, hno_10, hi_k, hv_k, c_10, eq_false c_25, eq_false c_45, eq_true c_64, c_68, c_85, c_96]⟩) (by decide) (by decide)
            · skip
              exact absurd c_85 (by decide)
          · skip
            refine lv_iload_n hx hy dX7_decide_71 rfl (lv_at hl 0 rfl) ?_
            refine lv_iconst (v := (nI 2)) hx hy dX7_decide_72 (by decide) ?_
            refine n_ne hx hy (by omega) (by decide) (tgt := 80) dX7_decide_73 (by decide) (fun c_73 => ?_) (fun c_73 => ?_)
            · skip
              refine lv_iconst (v := (nI 0)) hx hy dX7_decide_80 (by decide) ?_
              refine lv_iconst (v := (nI 2)) hx hy dX7_decide_81 (by decide) ?_
              refine n_go0 C h (n_V (As := [.int (b2i false), .int (nI 2)]) (rest := []) C h X (hr 100 (by decide)) ((cel_hi (by decide)).trans (celF_Mod _)) rfl (c_X7_no l hr M (wr R rMod 19 (nI 0)) o false (nI 2)) (cwV 2 C.2.2.2.2.1 gX7_decide_X7_no rfl rfl rfl (by decide +kernel) ⟨Nat.le_of_ble_eq_true rfl, Nat.le_of_ble_eq_true rfl⟩) rfl hl.1 rfl (Nat.le_of_ble_eq_true rfl) dX7_decide_82 ⟨by decide, by decide⟩) (fun _ _ z => z) (fun v_82 u_82 H locs hpo h => ?_)
              obtain ⟨rfl, rfl⟩ := hpo
              refine b_eq hx hy (tgt := 90) dX7_decide_85 (by decide) (fun c_85 => ?_) (fun c_85 => ?_)
              · skip
                exact absurd c_85 (by decide)
              · skip
                rw [noV_f c_85] at h
                rw [wr_wr] at h
                refine lv_iconst (v := (nI 0)) hx hy dX7_decide_88 (by decide) ?_
                exact e_int C h rfl dX7_decide_89 (⟨_, rfl, by first | (exfalso; omega) | exact absurd (c_68.symm.trans c_96) (by decide) | simp [kDecR, decBR, pzI, hno_10, hi_k, hv_k, c_10, eq_false c_25, eq_false c_45, eq_true c_64, c_68, eq_false c_73, c_85], by first | (exfalso; omega) | exact absurd (c_68.symm.trans c_96) (by decide) | simp [decRR, kDecR, decBR, thr, hno_10, hi_k, hv_k, c_10, eq_false c_25, eq_false c_45, eq_true c_64, c_68, eq_false c_73, c_85]⟩) (by decide) (by decide)
            · skip
              refine lv_iconst (v := (nI 1)) hx hy dX7_decide_76 (by decide) ?_
              refine lv_goto (tgt := 81) hx hy dX7_decide_77 (by decide) ?_
              refine lv_iconst (v := (nI 2)) hx hy dX7_decide_81 (by decide) ?_
              refine n_go0 C h (n_V (As := [.int (b2i true), .int (nI 2)]) (rest := []) C h X (hr 100 (by decide)) ((cel_hi (by decide)).trans (celF_Mod _)) rfl (c_X7_no l hr M (wr R rMod 19 (nI 0)) o true (nI 2)) (cwV 2 C.2.2.2.2.1 gX7_decide_X7_no rfl rfl rfl (by decide +kernel) ⟨Nat.le_of_ble_eq_true rfl, Nat.le_of_ble_eq_true rfl⟩) rfl hl.1 rfl (Nat.le_of_ble_eq_true rfl) dX7_decide_82 ⟨by decide, by decide⟩) (fun _ _ z => z) (fun v_82 u_82 H locs hpo h => ?_)
              obtain ⟨rfl, rfl⟩ := hpo
              refine b_eq hx hy (tgt := 90) dX7_decide_85 (by decide) (fun c_85 => ?_) (fun c_85 => ?_)
              · skip
                rw [noV_t c_85] at h
                rw [wr_wr] at h
                refine lv_aload_n hx hy dX7_decide_90 rfl (lv_at hl 1 rfl) ?_
                refine g_f C h (hr 100 (by decide)) (cel_hi (by decide)) celF_Mod rfl in_X7_decide_X7 28 (by decide) (by decide +kernel) (v := .ref (V.1 129)) rfl dX7_decide_91 ?_
                refine lv_iload_n hx hy dX7_decide_94 rfl (lv_at hl 2 rfl) ?_
                refine lv_iload_n hx hy dX7_decide_95 rfl (lv_at hl 3 rfl) ?_
                refine b_eq hx hy (tgt := 104) dX7_decide_96 (by decide) (fun c_96 => ?_) (fun c_96 => ?_)
                · skip
                  refine lv_bipush (v := (nI 97)) hx hy dX7_decide_104 (by decide) ?_
                  refine s_cR C h (hr 129 (by decide)) (by decide) (n := 8) (k := k) (fun _ => rfl) (by omega) (by decide) (x := (nI 97)) (by decide) dX7_decide_106 (fun H locs h => ?_)
                  refine lv_iload_n hx hy dX7_decide_107 rfl (lv_at hl 0 rfl) ?_
                  exact e_int C h rfl dX7_decide_108 (⟨_, rfl, by first | (exfalso; omega) | exact absurd (c_68.symm.trans c_96) (by decide) | simp [kDecR, decBR, pzI, hno_10, hi_k, hv_k, c_10, eq_false c_25, eq_false c_45, eq_true c_64, c_68, eq_true c_73, c_85, c_96], by first | (exfalso; omega) | exact absurd (c_68.symm.trans c_96) (by decide) | simp [decRR, kDecR, decBR, thr, hno_10, hi_k, hv_k, c_10, eq_false c_25, eq_false c_45, eq_true c_64, c_68, eq_true c_73, c_85, c_96]⟩) (by decide) (by decide)
                · skip
                  refine lv_bipush (v := (nI 100)) hx hy dX7_decide_99 (by decide) ?_
                  refine lv_goto (tgt := 106) hx hy dX7_decide_101 (by decide) ?_
                  refine s_cR C h (hr 129 (by decide)) (by decide) (n := 8) (k := k) (fun _ => rfl) (by omega) (by decide) (x := (nI 100)) (by decide) dX7_decide_106 (fun H locs h => ?_)
                  refine lv_iload_n hx hy dX7_decide_107 rfl (lv_at hl 0 rfl) ?_
                  exact e_int C h rfl dX7_decide_108 (⟨_, rfl, by first | (exfalso; omega) | exact absurd (c_68.symm.trans c_96) (by decide) | simp [kDecR, decBR, pzI, hno_10, hi_k, hv_k, c_10, eq_false c_25, eq_false c_45, eq_true c_64, c_68, eq_true c_73, c_85, c_96], by first | (exfalso; omega) | exact absurd (c_68.symm.trans c_96) (by decide) | simp [decRR, kDecR, decBR, thr, hno_10, hi_k, hv_k, c_10, eq_false c_25, eq_false c_45, eq_true c_64, c_68, eq_true c_73, c_85, c_96]⟩) (by decide) (by decide)
              · skip
                exact absurd c_85 (by decide)
      · skip
        refine lv_iconst (v := (nI 1)) hx hy dX7_decide_48 (by decide) ?_
        refine lv_goto (tgt := 53) hx hy dX7_decide_49 (by decide) ?_
        refine lv_iadd hx hy dX7_decide_53 ?_
        refine lv_topn (nI_add _ _) ?_
        refine lv_istore_n (lv' := [(3, .int (nI (0 + 1))), (0, .ref (V.1 rMod)), (1, .int (nI k)), (2, .int (b2i de))]) hx hy dX7_decide_54 rfl hl (by decide) rfl (fun ls hl => ?_)
        refine lv_aload_n hx hy dX7_decide_55 rfl (lv_at hl 1 rfl) ?_
        refine lv_aload_n hx hy dX7_decide_56 rfl (lv_at hl 1 rfl) ?_
        refine g_f C h (hr 100 (by decide)) (cel_hi (by decide)) celF_Mod rfl in_X7_decide_X7 28 (by decide) (by decide +kernel) (v := .ref (V.1 129)) rfl dX7_decide_57 ?_
        refine lv_iload_n hx hy dX7_decide_60 rfl (lv_at hl 2 rfl) ?_
        refine g_c C h (hr 129 (by decide)) (n := 8) (k := k) (cel_hi (by decide)) (fun _ => rfl) (by omega) (by decide) (v := (R 129 k)) (show (wr R rMod 19 (nI 0)) 129 k = (R 129 k) from (wr_othr (by decide))) dX7_decide_61 ?_
        refine lv_bipush (v := (nI 45)) hx hy dX7_decide_62 (by decide) ?_
        refine i_ne hx hy (tgt := 80) dX7_decide_64 (by decide) (fun c_64 => ?_) (fun c_64 => ?_)
        · skip
          refine lv_iconst (v := (nI 0)) hx hy dX7_decide_80 (by decide) ?_
          refine lv_iconst (v := (nI 2)) hx hy dX7_decide_81 (by decide) ?_
          refine n_go0 C h (n_V (As := [.int (b2i false), .int (nI 2)]) (rest := []) C h X (hr 100 (by decide)) ((cel_hi (by decide)).trans (celF_Mod _)) rfl (c_X7_no l hr M (wr R rMod 19 (nI 0)) o false (nI 2)) (cwV 2 C.2.2.2.2.1 gX7_decide_X7_no rfl rfl rfl (by decide +kernel) ⟨Nat.le_of_ble_eq_true rfl, Nat.le_of_ble_eq_true rfl⟩) rfl hl.1 rfl (Nat.le_of_ble_eq_true rfl) dX7_decide_82 ⟨by decide, by decide⟩) (fun _ _ z => z) (fun v_82 u_82 H locs hpo h => ?_)
          obtain ⟨rfl, rfl⟩ := hpo
          refine b_eq hx hy (tgt := 90) dX7_decide_85 (by decide) (fun c_85 => ?_) (fun c_85 => ?_)
          · skip
            exact absurd c_85 (by decide)
          · skip
            rw [noV_f c_85] at h
            rw [wr_wr] at h
            refine lv_iconst (v := (nI 0)) hx hy dX7_decide_88 (by decide) ?_
            exact e_int C h rfl dX7_decide_89 (⟨_, rfl, by first | (exfalso; omega) | exact absurd (c_68.symm.trans c_96) (by decide) | simp [kDecR, decBR, pzI, hno_10, hi_k, hv_k, c_10, eq_false c_25, eq_true c_45, eq_false c_64, c_85], by first | (exfalso; omega) | exact absurd (c_68.symm.trans c_96) (by decide) | simp [decRR, kDecR, decBR, thr, hno_10, hi_k, hv_k, c_10, eq_false c_25, eq_true c_45, eq_false c_64, c_85]⟩) (by decide) (by decide)
        · skip
          refine lv_iload_n hx hy dX7_decide_67 rfl (lv_at hl 3 rfl) ?_
          refine b_eq hx hy (tgt := 76) dX7_decide_68 (by decide) (fun c_68 => ?_) (fun c_68 => ?_)
          · skip
            refine lv_iconst (v := (nI 1)) hx hy dX7_decide_76 (by decide) ?_
            refine lv_goto (tgt := 81) hx hy dX7_decide_77 (by decide) ?_
            refine lv_iconst (v := (nI 2)) hx hy dX7_decide_81 (by decide) ?_
            refine n_go0 C h (n_V (As := [.int (b2i true), .int (nI 2)]) (rest := []) C h X (hr 100 (by decide)) ((cel_hi (by decide)).trans (celF_Mod _)) rfl (c_X7_no l hr M (wr R rMod 19 (nI 0)) o true (nI 2)) (cwV 2 C.2.2.2.2.1 gX7_decide_X7_no rfl rfl rfl (by decide +kernel) ⟨Nat.le_of_ble_eq_true rfl, Nat.le_of_ble_eq_true rfl⟩) rfl hl.1 rfl (Nat.le_of_ble_eq_true rfl) dX7_decide_82 ⟨by decide, by decide⟩) (fun _ _ z => z) (fun v_82 u_82 H locs hpo h => ?_)
            obtain ⟨rfl, rfl⟩ := hpo
            refine b_eq hx hy (tgt := 90) dX7_decide_85 (by decide) (fun c_85 => ?_) (fun c_85 => ?_)
            · skip
              rw [noV_t c_85] at h
              rw [wr_wr] at h
              refine lv_aload_n hx hy dX7_decide_90 rfl (lv_at hl 1 rfl) ?_
              refine g_f C h (hr 100 (by decide)) (cel_hi (by decide)) celF_Mod rfl in_X7_decide_X7 28 (by decide) (by decide +kernel) (v := .ref (V.1 129)) rfl dX7_decide_91 ?_
              refine lv_iload_n hx hy dX7_decide_94 rfl (lv_at hl 2 rfl) ?_
              refine lv_iload_n hx hy dX7_decide_95 rfl (lv_at hl 3 rfl) ?_
              refine b_eq hx hy (tgt := 104) dX7_decide_96 (by decide) (fun c_96 => ?_) (fun c_96 => ?_)
              · skip
                refine lv_bipush (v := (nI 97)) hx hy dX7_decide_104 (by decide) ?_
                refine s_cR C h (hr 129 (by decide)) (by decide) (n := 8) (k := k) (fun _ => rfl) (by omega) (by decide) (x := (nI 97)) (by decide) dX7_decide_106 (fun H locs h => ?_)
                refine lv_iload_n hx hy dX7_decide_107 rfl (lv_at hl 0 rfl) ?_
                exact e_int C h rfl dX7_decide_108 (⟨_, rfl, by first | (exfalso; omega) | exact absurd (c_68.symm.trans c_96) (by decide) | simp [kDecR, decBR, pzI, hno_10, hi_k, hv_k, c_10, eq_false c_25, eq_true c_45, eq_true c_64, c_68, c_85, c_96], by first | (exfalso; omega) | exact absurd (c_68.symm.trans c_96) (by decide) | simp [decRR, kDecR, decBR, thr, hno_10, hi_k, hv_k, c_10, eq_false c_25, eq_true c_45, eq_true c_64, c_68, c_85, c_96]⟩) (by decide) (by decide)
              · skip
                refine lv_bipush (v := (nI 100)) hx hy dX7_decide_99 (by decide) ?_
                refine lv_goto (tgt := 106) hx hy dX7_decide_101 (by decide) ?_
                refine s_cR C h (hr 129 (by decide)) (by decide) (n := 8) (k := k) (fun _ => rfl) (by omega) (by decide) (x := (nI 100)) (by decide) dX7_decide_106 (fun H locs h => ?_)
                refine lv_iload_n hx hy dX7_decide_107 rfl (lv_at hl 0 rfl) ?_
                exact e_int C h rfl dX7_decide_108 (⟨_, rfl, by first | (exfalso; omega) | exact absurd (c_68.symm.trans c_96) (by decide) | simp [kDecR, decBR, pzI, hno_10, hi_k, hv_k, c_10, eq_false c_25, eq_true c_45, eq_true c_64, c_68, c_85, c_96], by first | (exfalso; omega) | exact absurd (c_68.symm.trans c_96) (by decide) | simp [decRR, kDecR, decBR, thr, hno_10, hi_k, hv_k, c_10, eq_false c_25, eq_true c_45, eq_true c_64, c_68, c_85, c_96]⟩) (by decide) (by decide)
            · skip
              exact absurd c_85 (by decide)
          · skip
            refine lv_iload_n hx hy dX7_decide_71 rfl (lv_at hl 0 rfl) ?_
            refine lv_iconst (v := (nI 2)) hx hy dX7_decide_72 (by decide) ?_
            refine n_ne hx hy (by omega) (by decide) (tgt := 80) dX7_decide_73 (by decide) (fun c_73 => ?_) (fun c_73 => ?_)
            · skip
              refine lv_iconst (v := (nI 0)) hx hy dX7_decide_80 (by decide) ?_
              refine lv_iconst (v := (nI 2)) hx hy dX7_decide_81 (by decide) ?_
              refine n_go0 C h (n_V (As := [.int (b2i false), .int (nI 2)]) (rest := []) C h X (hr 100 (by decide)) ((cel_hi (by decide)).trans (celF_Mod _)) rfl (c_X7_no l hr M (wr R rMod 19 (nI 0)) o false (nI 2)) (cwV 2 C.2.2.2.2.1 gX7_decide_X7_no rfl rfl rfl (by decide +kernel) ⟨Nat.le_of_ble_eq_true rfl, Nat.le_of_ble_eq_true rfl⟩) rfl hl.1 rfl (Nat.le_of_ble_eq_true rfl) dX7_decide_82 ⟨by decide, by decide⟩) (fun _ _ z => z) (fun v_82 u_82 H locs hpo h => ?_)
              obtain ⟨rfl, rfl⟩ := hpo
              refine b_eq hx hy (tgt := 90) dX7_decide_85 (by decide) (fun c_85 => ?_) (fun c_85 => ?_)
              · skip
                exact absurd c_85 (by decide)
              · skip
                rw [noV_f c_85] at h
                rw [wr_wr] at h
                refine lv_iconst (v := (nI 0)) hx hy dX7_decide_88 (by decide) ?_
                exact e_int C h rfl dX7_decide_89 (⟨_, rfl, by first | (exfalso; omega) | exact absurd (c_68.symm.trans c_96) (by decide) | simp [kDecR, decBR, pzI, hno_10, hi_k, hv_k, c_10, eq_false c_25, eq_true c_45, eq_true c_64, c_68, eq_false c_73, c_85], by first | (exfalso; omega) | exact absurd (c_68.symm.trans c_96) (by decide) | simp [decRR, kDecR, decBR, thr, hno_10, hi_k, hv_k, c_10, eq_false c_25, eq_true c_45, eq_true c_64, c_68, eq_false c_73, c_85]⟩) (by decide) (by decide)
            · skip
              refine lv_iconst (v := (nI 1)) hx hy dX7_decide_76 (by decide) ?_
              refine lv_goto (tgt := 81) hx hy dX7_decide_77 (by decide) ?_
              refine lv_iconst (v := (nI 2)) hx hy dX7_decide_81 (by decide) ?_
              refine n_go0 C h (n_V (As := [.int (b2i true), .int (nI 2)]) (rest := []) C h X (hr 100 (by decide)) ((cel_hi (by decide)).trans (celF_Mod _)) rfl (c_X7_no l hr M (wr R rMod 19 (nI 0)) o true (nI 2)) (cwV 2 C.2.2.2.2.1 gX7_decide_X7_no rfl rfl rfl (by decide +kernel) ⟨Nat.le_of_ble_eq_true rfl, Nat.le_of_ble_eq_true rfl⟩) rfl hl.1 rfl (Nat.le_of_ble_eq_true rfl) dX7_decide_82 ⟨by decide, by decide⟩) (fun _ _ z => z) (fun v_82 u_82 H locs hpo h => ?_)
              obtain ⟨rfl, rfl⟩ := hpo
              refine b_eq hx hy (tgt := 90) dX7_decide_85 (by decide) (fun c_85 => ?_) (fun c_85 => ?_)
              · skip
                rw [noV_t c_85] at h
                rw [wr_wr] at h
                refine lv_aload_n hx hy dX7_decide_90 rfl (lv_at hl 1 rfl) ?_
                refine g_f C h (hr 100 (by decide)) (cel_hi (by decide)) celF_Mod rfl in_X7_decide_X7 28 (by decide) (by decide +kernel) (v := .ref (V.1 129)) rfl dX7_decide_91 ?_
                refine lv_iload_n hx hy dX7_decide_94 rfl (lv_at hl 2 rfl) ?_
                refine lv_iload_n hx hy dX7_decide_95 rfl (lv_at hl 3 rfl) ?_
                refine b_eq hx hy (tgt := 104) dX7_decide_96 (by decide) (fun c_96 => ?_) (fun c_96 => ?_)
                · skip
                  refine lv_bipush (v := (nI 97)) hx hy dX7_decide_104 (by decide) ?_
                  refine s_cR C h (hr 129 (by decide)) (by decide) (n := 8) (k := k) (fun _ => rfl) (by omega) (by decide) (x := (nI 97)) (by decide) dX7_decide_106 (fun H locs h => ?_)
                  refine lv_iload_n hx hy dX7_decide_107 rfl (lv_at hl 0 rfl) ?_
                  exact e_int C h rfl dX7_decide_108 (⟨_, rfl, by first | (exfalso; omega) | exact absurd (c_68.symm.trans c_96) (by decide) | simp [kDecR, decBR, pzI, hno_10, hi_k, hv_k, c_10, eq_false c_25, eq_true c_45, eq_true c_64, c_68, eq_true c_73, c_85, c_96], by first | (exfalso; omega) | exact absurd (c_68.symm.trans c_96) (by decide) | simp [decRR, kDecR, decBR, thr, hno_10, hi_k, hv_k, c_10, eq_false c_25, eq_true c_45, eq_true c_64, c_68, eq_true c_73, c_85, c_96]⟩) (by decide) (by decide)
                · skip
                  refine lv_bipush (v := (nI 100)) hx hy dX7_decide_99 (by decide) ?_
                  refine lv_goto (tgt := 106) hx hy dX7_decide_101 (by decide) ?_
                  refine s_cR C h (hr 129 (by decide)) (by decide) (n := 8) (k := k) (fun _ => rfl) (by omega) (by decide) (x := (nI 100)) (by decide) dX7_decide_106 (fun H locs h => ?_)
                  refine lv_iload_n hx hy dX7_decide_107 rfl (lv_at hl 0 rfl) ?_
                  exact e_int C h rfl dX7_decide_108 (⟨_, rfl, by first | (exfalso; omega) | exact absurd (c_68.symm.trans c_96) (by decide) | simp [kDecR, decBR, pzI, hno_10, hi_k, hv_k, c_10, eq_false c_25, eq_true c_45, eq_true c_64, c_68, eq_true c_73, c_85, c_96], by first | (exfalso; omega) | exact absurd (c_68.symm.trans c_96) (by decide) | simp [decRR, kDecR, decBR, thr, hno_10, hi_k, hv_k, c_10, eq_false c_25, eq_true c_45, eq_true c_64, c_68, eq_true c_73, c_85, c_96]⟩) (by decide) (by decide)
              · skip
                exact absurd c_85 (by decide)
    · skip
      refine lv_iconst (v := (nI 1)) hx hy dX7_decide_28 (by decide) ?_
      refine lv_goto (tgt := 33) hx hy dX7_decide_29 (by decide) ?_
      refine lv_aload_n hx hy dX7_decide_33 rfl (lv_at hl 0 rfl) ?_
      refine g_f C h (hr 100 (by decide)) (cel_hi (by decide)) celF_Mod rfl in_X7_decide_X7 29 (by decide) (by decide +kernel) (v := .ref (V.1 130)) rfl dX7_decide_34 ?_
      refine lv_iconst (v := (nI 2)) hx hy dX7_decide_37 (by decide) ?_
      refine lv_iload_n hx hy dX7_decide_38 rfl (lv_at hl 1 rfl) ?_
      refine lv_imul hx hy dX7_decide_39 ?_
      refine lv_topn (pk_mul _ _) ?_
      refine lv_iconst (v := (nI 1)) hx hy dX7_decide_40 (by decide) ?_
      refine lv_iadd hx hy dX7_decide_41 ?_
      refine lv_topn (nI_add _ _) ?_
      refine g_c C h (hr 130 (by decide)) (n := 16) (k := ((2 * k) + 1)) (cel_hi (by decide)) (fun _ => rfl) (by omega) (by decide) (v := (R 130 ((2 * k) + 1))) (show (wr R rMod 19 (nI 0)) 130 ((2 * k) + 1) = (R 130 ((2 * k) + 1)) from (wr_othr (by decide))) dX7_decide_42 ?_
      refine lv_bipush (v := (nI 112)) hx hy dX7_decide_43 (by decide) ?_
      refine i_ne hx hy (tgt := 52) dX7_decide_45 (by decide) (fun c_45 => ?_) (fun c_45 => ?_)
      · skip
        refine lv_iconst (v := (nI 0)) hx hy dX7_decide_52 (by decide) ?_
        refine lv_iadd hx hy dX7_decide_53 ?_
        refine lv_topn (nI_add _ _) ?_
        refine lv_istore_n (lv' := [(3, .int (nI (1 + 0))), (0, .ref (V.1 rMod)), (1, .int (nI k)), (2, .int (b2i de))]) hx hy dX7_decide_54 rfl hl (by decide) rfl (fun ls hl => ?_)
        refine lv_aload_n hx hy dX7_decide_55 rfl (lv_at hl 1 rfl) ?_
        refine lv_aload_n hx hy dX7_decide_56 rfl (lv_at hl 1 rfl) ?_
        refine g_f C h (hr 100 (by decide)) (cel_hi (by decide)) celF_Mod rfl in_X7_decide_X7 28 (by decide) (by decide +kernel) (v := .ref (V.1 129)) rfl dX7_decide_57 ?_
        refine lv_iload_n hx hy dX7_decide_60 rfl (lv_at hl 2 rfl) ?_
        refine g_c C h (hr 129 (by decide)) (n := 8) (k := k) (cel_hi (by decide)) (fun _ => rfl) (by omega) (by decide) (v := (R 129 k)) (show (wr R rMod 19 (nI 0)) 129 k = (R 129 k) from (wr_othr (by decide))) dX7_decide_61 ?_
        refine lv_bipush (v := (nI 45)) hx hy dX7_decide_62 (by decide) ?_
        refine i_ne hx hy (tgt := 80) dX7_decide_64 (by decide) (fun c_64 => ?_) (fun c_64 => ?_)
        · skip
          refine lv_iconst (v := (nI 0)) hx hy dX7_decide_80 (by decide) ?_
          refine lv_iconst (v := (nI 2)) hx hy dX7_decide_81 (by decide) ?_
          refine n_go0 C h (n_V (As := [.int (b2i false), .int (nI 2)]) (rest := []) C h X (hr 100 (by decide)) ((cel_hi (by decide)).trans (celF_Mod _)) rfl (c_X7_no l hr M (wr R rMod 19 (nI 0)) o false (nI 2)) (cwV 2 C.2.2.2.2.1 gX7_decide_X7_no rfl rfl rfl (by decide +kernel) ⟨Nat.le_of_ble_eq_true rfl, Nat.le_of_ble_eq_true rfl⟩) rfl hl.1 rfl (Nat.le_of_ble_eq_true rfl) dX7_decide_82 ⟨by decide, by decide⟩) (fun _ _ z => z) (fun v_82 u_82 H locs hpo h => ?_)
          obtain ⟨rfl, rfl⟩ := hpo
          refine b_eq hx hy (tgt := 90) dX7_decide_85 (by decide) (fun c_85 => ?_) (fun c_85 => ?_)
          · skip
            exact absurd c_85 (by decide)
          · skip
            rw [noV_f c_85] at h
            rw [wr_wr] at h
            refine lv_iconst (v := (nI 0)) hx hy dX7_decide_88 (by decide) ?_
            exact e_int C h rfl dX7_decide_89 (⟨_, rfl, by first | (exfalso; omega) | exact absurd (c_68.symm.trans c_96) (by decide) | simp [kDecR, decBR, pzI, hno_10, hi_k, hv_k, c_10, eq_true c_25, eq_false c_45, eq_false c_64, c_85], by first | (exfalso; omega) | exact absurd (c_68.symm.trans c_96) (by decide) | simp [decRR, kDecR, decBR, thr, hno_10, hi_k, hv_k, c_10, eq_true c_25, eq_false c_45, eq_false c_64, c_85]⟩) (by decide) (by decide)
        · skip
          refine lv_iload_n hx hy dX7_decide_67 rfl (lv_at hl 3 rfl) ?_
          refine b_eq hx hy (tgt := 76) dX7_decide_68 (by decide) (fun c_68 => ?_) (fun c_68 => ?_)
          · skip
            refine lv_iconst (v := (nI 1)) hx hy dX7_decide_76 (by decide) ?_
            refine lv_goto (tgt := 81) hx hy dX7_decide_77 (by decide) ?_
            refine lv_iconst (v := (nI 2)) hx hy dX7_decide_81 (by decide) ?_
            refine n_go0 C h (n_V (As := [.int (b2i true), .int (nI 2)]) (rest := []) C h X (hr 100 (by decide)) ((cel_hi (by decide)).trans (celF_Mod _)) rfl (c_X7_no l hr M (wr R rMod 19 (nI 0)) o true (nI 2)) (cwV 2 C.2.2.2.2.1 gX7_decide_X7_no rfl rfl rfl (by decide +kernel) ⟨Nat.le_of_ble_eq_true rfl, Nat.le_of_ble_eq_true rfl⟩) rfl hl.1 rfl (Nat.le_of_ble_eq_true rfl) dX7_decide_82 ⟨by decide, by decide⟩) (fun _ _ z => z) (fun v_82 u_82 H locs hpo h => ?_)
            obtain ⟨rfl, rfl⟩ := hpo
            refine b_eq hx hy (tgt := 90) dX7_decide_85 (by decide) (fun c_85 => ?_) (fun c_85 => ?_)
            · skip
              rw [noV_t c_85] at h
              rw [wr_wr] at h
              refine lv_aload_n hx hy dX7_decide_90 rfl (lv_at hl 1 rfl) ?_
              refine g_f C h (hr 100 (by decide)) (cel_hi (by decide)) celF_Mod rfl in_X7_decide_X7 28 (by decide) (by decide +kernel) (v := .ref (V.1 129)) rfl dX7_decide_91 ?_
              refine lv_iload_n hx hy dX7_decide_94 rfl (lv_at hl 2 rfl) ?_
              refine lv_iload_n hx hy dX7_decide_95 rfl (lv_at hl 3 rfl) ?_
              refine b_eq hx hy (tgt := 104) dX7_decide_96 (by decide) (fun c_96 => ?_) (fun c_96 => ?_)
              · skip
                refine lv_bipush (v := (nI 97)) hx hy dX7_decide_104 (by decide) ?_
                refine s_cR C h (hr 129 (by decide)) (by decide) (n := 8) (k := k) (fun _ => rfl) (by omega) (by decide) (x := (nI 97)) (by decide) dX7_decide_106 (fun H locs h => ?_)
                refine lv_iload_n hx hy dX7_decide_107 rfl (lv_at hl 0 rfl) ?_
                exact e_int C h rfl dX7_decide_108 (⟨_, rfl, by first | (exfalso; omega) | exact absurd (c_68.symm.trans c_96) (by decide) | simp [kDecR, decBR, pzI, hno_10, hi_k, hv_k, c_10, eq_true c_25, eq_false c_45, eq_true c_64, c_68, c_85, c_96], by first | (exfalso; omega) | exact absurd (c_68.symm.trans c_96) (by decide) | simp [decRR, kDecR, decBR, thr, hno_10, hi_k, hv_k, c_10, eq_true c_25, eq_false c_45, eq_true c_64, c_68, c_85, c_96]⟩) (by decide) (by decide)
              · skip
                refine lv_bipush (v := (nI 100)) hx hy dX7_decide_99 (by decide) ?_
                refine lv_goto (tgt := 106) hx hy dX7_decide_101 (by decide) ?_
                refine s_cR C h (hr 129 (by decide)) (by decide) (n := 8) (k := k) (fun _ => rfl) (by omega) (by decide) (x := (nI 100)) (by decide) dX7_decide_106 (fun H locs h => ?_)
                refine lv_iload_n hx hy dX7_decide_107 rfl (lv_at hl 0 rfl) ?_
                exact e_int C h rfl dX7_decide_108 (⟨_, rfl, by first | (exfalso; omega) | exact absurd (c_68.symm.trans c_96) (by decide) | simp [kDecR, decBR, pzI, hno_10, hi_k, hv_k, c_10, eq_true c_25, eq_false c_45, eq_true c_64, c_68, c_85, c_96], by first | (exfalso; omega) | exact absurd (c_68.symm.trans c_96) (by decide) | simp [decRR, kDecR, decBR, thr, hno_10, hi_k, hv_k, c_10, eq_true c_25, eq_false c_45, eq_true c_64, c_68, c_85, c_96]⟩) (by decide) (by decide)
            · skip
              exact absurd c_85 (by decide)
          · skip
            refine lv_iload_n hx hy dX7_decide_71 rfl (lv_at hl 0 rfl) ?_
            refine lv_iconst (v := (nI 2)) hx hy dX7_decide_72 (by decide) ?_
            refine n_ne hx hy (by omega) (by decide) (tgt := 80) dX7_decide_73 (by decide) (fun c_73 => ?_) (fun c_73 => ?_)
            · skip
              refine lv_iconst (v := (nI 0)) hx hy dX7_decide_80 (by decide) ?_
              refine lv_iconst (v := (nI 2)) hx hy dX7_decide_81 (by decide) ?_
              refine n_go0 C h (n_V (As := [.int (b2i false), .int (nI 2)]) (rest := []) C h X (hr 100 (by decide)) ((cel_hi (by decide)).trans (celF_Mod _)) rfl (c_X7_no l hr M (wr R rMod 19 (nI 0)) o false (nI 2)) (cwV 2 C.2.2.2.2.1 gX7_decide_X7_no rfl rfl rfl (by decide +kernel) ⟨Nat.le_of_ble_eq_true rfl, Nat.le_of_ble_eq_true rfl⟩) rfl hl.1 rfl (Nat.le_of_ble_eq_true rfl) dX7_decide_82 ⟨by decide, by decide⟩) (fun _ _ z => z) (fun v_82 u_82 H locs hpo h => ?_)
              obtain ⟨rfl, rfl⟩ := hpo
              refine b_eq hx hy (tgt := 90) dX7_decide_85 (by decide) (fun c_85 => ?_) (fun c_85 => ?_)
              · skip
                exact absurd c_85 (by decide)
              · skip
                rw [noV_f c_85] at h
                rw [wr_wr] at h
                refine lv_iconst (v := (nI 0)) hx hy dX7_decide_88 (by decide) ?_
                exact e_int C h rfl dX7_decide_89 (⟨_, rfl, by first | (exfalso; omega) | exact absurd (c_68.symm.trans c_96) (by decide) | simp [kDecR, decBR, pzI, hno_10, hi_k, hv_k, c_10, eq_true c_25, eq_false c_45, eq_true c_64, c_68, eq_false c_73, c_85], by first | (exfalso; omega) | exact absurd (c_68.symm.trans c_96) (by decide) | simp [decRR, kDecR, decBR, thr, hno_10, hi_k, hv_k, c_10, eq_true c_25, eq_false c_45, eq_true c_64, c_68, eq_false c_73, c_85]⟩) (by decide) (by decide)
            · skip
              refine lv_iconst (v := (nI 1)) hx hy dX7_decide_76 (by decide) ?_
              refine lv_goto (tgt := 81) hx hy dX7_decide_77 (by decide) ?_
              refine lv_iconst (v := (nI 2)) hx hy dX7_decide_81 (by decide) ?_
              refine n_go0 C h (n_V (As := [.int (b2i true), .int (nI 2)]) (rest := []) C h X (hr 100 (by decide)) ((cel_hi (by decide)).trans (celF_Mod _)) rfl (c_X7_no l hr M (wr R rMod 19 (nI 0)) o true (nI 2)) (cwV 2 C.2.2.2.2.1 gX7_decide_X7_no rfl rfl rfl (by decide +kernel) ⟨Nat.le_of_ble_eq_true rfl, Nat.le_of_ble_eq_true rfl⟩) rfl hl.1 rfl (Nat.le_of_ble_eq_true rfl) dX7_decide_82 ⟨by decide, by decide⟩) (fun _ _ z => z) (fun v_82 u_82 H locs hpo h => ?_)
              obtain ⟨rfl, rfl⟩ := hpo
              refine b_eq hx hy (tgt := 90) dX7_decide_85 (by decide) (fun c_85 => ?_) (fun c_85 => ?_)
              · skip
                rw [noV_t c_85] at h
                rw [wr_wr] at h
                refine lv_aload_n hx hy dX7_decide_90 rfl (lv_at hl 1 rfl) ?_
                refine g_f C h (hr 100 (by decide)) (cel_hi (by decide)) celF_Mod rfl in_X7_decide_X7 28 (by decide) (by decide +kernel) (v := .ref (V.1 129)) rfl dX7_decide_91 ?_
                refine lv_iload_n hx hy dX7_decide_94 rfl (lv_at hl 2 rfl) ?_
                refine lv_iload_n hx hy dX7_decide_95 rfl (lv_at hl 3 rfl) ?_
                refine b_eq hx hy (tgt := 104) dX7_decide_96 (by decide) (fun c_96 => ?_) (fun c_96 => ?_)
                · skip
                  refine lv_bipush (v := (nI 97)) hx hy dX7_decide_104 (by decide) ?_
                  refine s_cR C h (hr 129 (by decide)) (by decide) (n := 8) (k := k) (fun _ => rfl) (by omega) (by decide) (x := (nI 97)) (by decide) dX7_decide_106 (fun H locs h => ?_)
                  refine lv_iload_n hx hy dX7_decide_107 rfl (lv_at hl 0 rfl) ?_
                  exact e_int C h rfl dX7_decide_108 (⟨_, rfl, by first | (exfalso; omega) | exact absurd (c_68.symm.trans c_96) (by decide) | simp [kDecR, decBR, pzI, hno_10, hi_k, hv_k, c_10, eq_true c_25, eq_false c_45, eq_true c_64, c_68, eq_true c_73, c_85, c_96], by first | (exfalso; omega) | exact absurd (c_68.symm.trans c_96) (by decide) | simp [decRR, kDecR, decBR, thr, hno_10, hi_k, hv_k, c_10, eq_true c_25, eq_false c_45, eq_true c_64, c_68, eq_true c_73, c_85, c_96]⟩) (by decide) (by decide)
                · skip
                  refine lv_bipush (v := (nI 100)) hx hy dX7_decide_99 (by decide) ?_
                  refine lv_goto (tgt := 106) hx hy dX7_decide_101 (by decide) ?_
                  refine s_cR C h (hr 129 (by decide)) (by decide) (n := 8) (k := k) (fun _ => rfl) (by omega) (by decide) (x := (nI 100)) (by decide) dX7_decide_106 (fun H locs h => ?_)
                  refine lv_iload_n hx hy dX7_decide_107 rfl (lv_at hl 0 rfl) ?_
                  exact e_int C h rfl dX7_decide_108 (⟨_, rfl, by first | (exfalso; omega) | exact absurd (c_68.symm.trans c_96) (by decide) | simp [kDecR, decBR, pzI, hno_10, hi_k, hv_k, c_10, eq_true c_25, eq_false c_45, eq_true c_64, c_68, eq_true c_73, c_85, c_96], by first | (exfalso; omega) | exact absurd (c_68.symm.trans c_96) (by decide) | simp [decRR, kDecR, decBR, thr, hno_10, hi_k, hv_k, c_10, eq_true c_25, eq_false c_45, eq_true c_64, c_68, eq_true c_73, c_85, c_96]⟩) (by decide) (by decide)
              · skip
                exact absurd c_85 (by decide)
      · skip
        refine lv_iconst (v := (nI 1)) hx hy dX7_decide_48 (by decide) ?_
        refine lv_goto (tgt := 53) hx hy dX7_decide_49 (by decide) ?_
        refine lv_iadd hx hy dX7_decide_53 ?_
        refine lv_topn (nI_add _ _) ?_
        refine lv_istore_n (lv' := [(3, .int (nI (1 + 1))), (0, .ref (V.1 rMod)), (1, .int (nI k)), (2, .int (b2i de))]) hx hy dX7_decide_54 rfl hl (by decide) rfl (fun ls hl => ?_)
        refine lv_aload_n hx hy dX7_decide_55 rfl (lv_at hl 1 rfl) ?_
        refine lv_aload_n hx hy dX7_decide_56 rfl (lv_at hl 1 rfl) ?_
        refine g_f C h (hr 100 (by decide)) (cel_hi (by decide)) celF_Mod rfl in_X7_decide_X7 28 (by decide) (by decide +kernel) (v := .ref (V.1 129)) rfl dX7_decide_57 ?_
        refine lv_iload_n hx hy dX7_decide_60 rfl (lv_at hl 2 rfl) ?_
        refine g_c C h (hr 129 (by decide)) (n := 8) (k := k) (cel_hi (by decide)) (fun _ => rfl) (by omega) (by decide) (v := (R 129 k)) (show (wr R rMod 19 (nI 0)) 129 k = (R 129 k) from (wr_othr (by decide))) dX7_decide_61 ?_
        refine lv_bipush (v := (nI 45)) hx hy dX7_decide_62 (by decide) ?_
        refine i_ne hx hy (tgt := 80) dX7_decide_64 (by decide) (fun c_64 => ?_) (fun c_64 => ?_)
        · skip
          refine lv_iconst (v := (nI 0)) hx hy dX7_decide_80 (by decide) ?_
          refine lv_iconst (v := (nI 2)) hx hy dX7_decide_81 (by decide) ?_
          refine n_go0 C h (n_V (As := [.int (b2i false), .int (nI 2)]) (rest := []) C h X (hr 100 (by decide)) ((cel_hi (by decide)).trans (celF_Mod _)) rfl (c_X7_no l hr M (wr R rMod 19 (nI 0)) o false (nI 2)) (cwV 2 C.2.2.2.2.1 gX7_decide_X7_no rfl rfl rfl (by decide +kernel) ⟨Nat.le_of_ble_eq_true rfl, Nat.le_of_ble_eq_true rfl⟩) rfl hl.1 rfl (Nat.le_of_ble_eq_true rfl) dX7_decide_82 ⟨by decide, by decide⟩) (fun _ _ z => z) (fun v_82 u_82 H locs hpo h => ?_)
          obtain ⟨rfl, rfl⟩ := hpo
          refine b_eq hx hy (tgt := 90) dX7_decide_85 (by decide) (fun c_85 => ?_) (fun c_85 => ?_)
          · skip
            exact absurd c_85 (by decide)
          · skip
            rw [noV_f c_85] at h
            rw [wr_wr] at h
            refine lv_iconst (v := (nI 0)) hx hy dX7_decide_88 (by decide) ?_
            exact e_int C h rfl dX7_decide_89 (⟨_, rfl, by first | (exfalso; omega) | exact absurd (c_68.symm.trans c_96) (by decide) | simp [kDecR, decBR, pzI, hno_10, hi_k, hv_k, c_10, eq_true c_25, eq_true c_45, eq_false c_64, c_85], by first | (exfalso; omega) | exact absurd (c_68.symm.trans c_96) (by decide) | simp [decRR, kDecR, decBR, thr, hno_10, hi_k, hv_k, c_10, eq_true c_25, eq_true c_45, eq_false c_64, c_85]⟩) (by decide) (by decide)
        · skip
          refine lv_iload_n hx hy dX7_decide_67 rfl (lv_at hl 3 rfl) ?_
          refine b_eq hx hy (tgt := 76) dX7_decide_68 (by decide) (fun c_68 => ?_) (fun c_68 => ?_)
          · skip
            refine lv_iconst (v := (nI 1)) hx hy dX7_decide_76 (by decide) ?_
            refine lv_goto (tgt := 81) hx hy dX7_decide_77 (by decide) ?_
            refine lv_iconst (v := (nI 2)) hx hy dX7_decide_81 (by decide) ?_
            refine n_go0 C h (n_V (As := [.int (b2i true), .int (nI 2)]) (rest := []) C h X (hr 100 (by decide)) ((cel_hi (by decide)).trans (celF_Mod _)) rfl (c_X7_no l hr M (wr R rMod 19 (nI 0)) o true (nI 2)) (cwV 2 C.2.2.2.2.1 gX7_decide_X7_no rfl rfl rfl (by decide +kernel) ⟨Nat.le_of_ble_eq_true rfl, Nat.le_of_ble_eq_true rfl⟩) rfl hl.1 rfl (Nat.le_of_ble_eq_true rfl) dX7_decide_82 ⟨by decide, by decide⟩) (fun _ _ z => z) (fun v_82 u_82 H locs hpo h => ?_)
            obtain ⟨rfl, rfl⟩ := hpo
            refine b_eq hx hy (tgt := 90) dX7_decide_85 (by decide) (fun c_85 => ?_) (fun c_85 => ?_)
            · skip
              rw [noV_t c_85] at h
              rw [wr_wr] at h
              refine lv_aload_n hx hy dX7_decide_90 rfl (lv_at hl 1 rfl) ?_
              refine g_f C h (hr 100 (by decide)) (cel_hi (by decide)) celF_Mod rfl in_X7_decide_X7 28 (by decide) (by decide +kernel) (v := .ref (V.1 129)) rfl dX7_decide_91 ?_
              refine lv_iload_n hx hy dX7_decide_94 rfl (lv_at hl 2 rfl) ?_
              refine lv_iload_n hx hy dX7_decide_95 rfl (lv_at hl 3 rfl) ?_
              refine b_eq hx hy (tgt := 104) dX7_decide_96 (by decide) (fun c_96 => ?_) (fun c_96 => ?_)
              · skip
                refine lv_bipush (v := (nI 97)) hx hy dX7_decide_104 (by decide) ?_
                refine s_cR C h (hr 129 (by decide)) (by decide) (n := 8) (k := k) (fun _ => rfl) (by omega) (by decide) (x := (nI 97)) (by decide) dX7_decide_106 (fun H locs h => ?_)
                refine lv_iload_n hx hy dX7_decide_107 rfl (lv_at hl 0 rfl) ?_
                exact e_int C h rfl dX7_decide_108 (⟨_, rfl, by first | (exfalso; omega) | exact absurd (c_68.symm.trans c_96) (by decide) | simp [kDecR, decBR, pzI, hno_10, hi_k, hv_k, c_10, eq_true c_25, eq_true c_45, eq_true c_64, c_68, c_85, c_96], by first | (exfalso; omega) | exact absurd (c_68.symm.trans c_96) (by decide) | simp [decRR, kDecR, decBR, thr, hno_10, hi_k, hv_k, c_10, eq_true c_25, eq_true c_45, eq_true c_64, c_68, c_85, c_96]⟩) (by decide) (by decide)
              · skip
                refine lv_bipush (v := (nI 100)) hx hy dX7_decide_99 (by decide) ?_
                refine lv_goto (tgt := 106) hx hy dX7_decide_101 (by decide) ?_
                refine s_cR C h (hr 129 (by decide)) (by decide) (n := 8) (k := k) (fun _ => rfl) (by omega) (by decide) (x := (nI 100)) (by decide) dX7_decide_106 (fun H locs h => ?_)
                refine lv_iload_n hx hy dX7_decide_107 rfl (lv_at hl 0 rfl) ?_
                exact e_int C h rfl dX7_decide_108 (⟨_, rfl, by first | (exfalso; omega) | exact absurd (c_68.symm.trans c_96) (by decide) | simp [kDecR, decBR, pzI, hno_10, hi_k, hv_k, c_10, eq_true c_25, eq_true c_45, eq_true c_64, c_68, c_85, c_96], by first | (exfalso; omega) | exact absurd (c_68.symm.trans c_96) (by decide) | simp [decRR, kDecR, decBR, thr, hno_10, hi_k, hv_k, c_10, eq_true c_25, eq_true c_45, eq_true c_64, c_68, c_85, c_96]⟩) (by decide) (by decide)
            · skip
              exact absurd c_85 (by decide)
          · skip
            refine lv_iload_n hx hy dX7_decide_71 rfl (lv_at hl 0 rfl) ?_
            refine lv_iconst (v := (nI 2)) hx hy dX7_decide_72 (by decide) ?_
            refine n_ne hx hy (by omega) (by decide) (tgt := 80) dX7_decide_73 (by decide) (fun c_73 => ?_) (fun c_73 => ?_)
            · skip
              refine lv_iconst (v := (nI 0)) hx hy dX7_decide_80 (by decide) ?_
              refine lv_iconst (v := (nI 2)) hx hy dX7_decide_81 (by decide) ?_
              refine n_go0 C h (n_V (As := [.int (b2i false), .int (nI 2)]) (rest := []) C h X (hr 100 (by decide)) ((cel_hi (by decide)).trans (celF_Mod _)) rfl (c_X7_no l hr M (wr R rMod 19 (nI 0)) o false (nI 2)) (cwV 2 C.2.2.2.2.1 gX7_decide_X7_no rfl rfl rfl (by decide +kernel) ⟨Nat.le_of_ble_eq_true rfl, Nat.le_of_ble_eq_true rfl⟩) rfl hl.1 rfl (Nat.le_of_ble_eq_true rfl) dX7_decide_82 ⟨by decide, by decide⟩) (fun _ _ z => z) (fun v_82 u_82 H locs hpo h => ?_)
              obtain ⟨rfl, rfl⟩ := hpo
              refine b_eq hx hy (tgt := 90) dX7_decide_85 (by decide) (fun c_85 => ?_) (fun c_85 => ?_)
              · skip
                exact absurd c_85 (by decide)
              · skip
                rw [noV_f c_85] at h
                rw [wr_wr] at h
                refine lv_iconst (v := (nI 0)) hx hy dX7_decide_88 (by decide) ?_
                exact e_int C h rfl dX7_decide_89 (⟨_, rfl, by first | (exfalso; omega) | exact absurd (c_68.symm.trans c_96) (by decide) | simp [kDecR, decBR, pzI, hno_10, hi_k, hv_k, c_10, eq_true c_25, eq_true c_45, eq_true c_64, c_68, eq_false c_73, c_85], by first | (exfalso; omega) | exact absurd (c_68.symm.trans c_96) (by decide) | simp [decRR, kDecR, decBR, thr, hno_10, hi_k, hv_k, c_10, eq_true c_25, eq_true c_45, eq_true c_64, c_68, eq_false c_73, c_85]⟩) (by decide) (by decide)
            · skip
              refine lv_iconst (v := (nI 1)) hx hy dX7_decide_76 (by decide) ?_
              refine lv_goto (tgt := 81) hx hy dX7_decide_77 (by decide) ?_
              refine lv_iconst (v := (nI 2)) hx hy dX7_decide_81 (by decide) ?_
              refine n_go0 C h (n_V (As := [.int (b2i true), .int (nI 2)]) (rest := []) C h X (hr 100 (by decide)) ((cel_hi (by decide)).trans (celF_Mod _)) rfl (c_X7_no l hr M (wr R rMod 19 (nI 0)) o true (nI 2)) (cwV 2 C.2.2.2.2.1 gX7_decide_X7_no rfl rfl rfl (by decide +kernel) ⟨Nat.le_of_ble_eq_true rfl, Nat.le_of_ble_eq_true rfl⟩) rfl hl.1 rfl (Nat.le_of_ble_eq_true rfl) dX7_decide_82 ⟨by decide, by decide⟩) (fun _ _ z => z) (fun v_82 u_82 H locs hpo h => ?_)
              obtain ⟨rfl, rfl⟩ := hpo
              refine b_eq hx hy (tgt := 90) dX7_decide_85 (by decide) (fun c_85 => ?_) (fun c_85 => ?_)
              · skip
                rw [noV_t c_85] at h
                rw [wr_wr] at h
                refine lv_aload_n hx hy dX7_decide_90 rfl (lv_at hl 1 rfl) ?_
                refine g_f C h (hr 100 (by decide)) (cel_hi (by decide)) celF_Mod rfl in_X7_decide_X7 28 (by decide) (by decide +kernel) (v := .ref (V.1 129)) rfl dX7_decide_91 ?_
                refine lv_iload_n hx hy dX7_decide_94 rfl (lv_at hl 2 rfl) ?_
                refine lv_iload_n hx hy dX7_decide_95 rfl (lv_at hl 3 rfl) ?_
                refine b_eq hx hy (tgt := 104) dX7_decide_96 (by decide) (fun c_96 => ?_) (fun c_96 => ?_)
                · skip
                  refine lv_bipush (v := (nI 97)) hx hy dX7_decide_104 (by decide) ?_
                  refine s_cR C h (hr 129 (by decide)) (by decide) (n := 8) (k := k) (fun _ => rfl) (by omega) (by decide) (x := (nI 97)) (by decide) dX7_decide_106 (fun H locs h => ?_)
                  refine lv_iload_n hx hy dX7_decide_107 rfl (lv_at hl 0 rfl) ?_
                  exact e_int C h rfl dX7_decide_108 (⟨_, rfl, by first | (exfalso; omega) | exact absurd (c_68.symm.trans c_96) (by decide) | simp [kDecR, decBR, pzI, hno_10, hi_k, hv_k, c_10, eq_true c_25, eq_true c_45, eq_true c_64, c_68, eq_true c_73, c_85, c_96], by first | (exfalso; omega) | exact absurd (c_68.symm.trans c_96) (by decide) | simp [decRR, kDecR, decBR, thr, hno_10, hi_k, hv_k, c_10, eq_true c_25, eq_true c_45, eq_true c_64, c_68, eq_true c_73, c_85, c_96]⟩) (by decide) (by decide)
                · skip
                  refine lv_bipush (v := (nI 100)) hx hy dX7_decide_99 (by decide) ?_
                  refine lv_goto (tgt := 106) hx hy dX7_decide_101 (by decide) ?_
                  refine s_cR C h (hr 129 (by decide)) (by decide) (n := 8) (k := k) (fun _ => rfl) (by omega) (by decide) (x := (nI 100)) (by decide) dX7_decide_106 (fun H locs h => ?_)
                  refine lv_iload_n hx hy dX7_decide_107 rfl (lv_at hl 0 rfl) ?_
                  exact e_int C h rfl dX7_decide_108 (⟨_, rfl, by first | (exfalso; omega) | exact absurd (c_68.symm.trans c_96) (by decide) | simp [kDecR, decBR, pzI, hno_10, hi_k, hv_k, c_10, eq_true c_25, eq_true c_45, eq_true c_64, c_68, eq_true c_73, c_85, c_96], by first | (exfalso; omega) | exact absurd (c_68.symm.trans c_96) (by decide) | simp [decRR, kDecR, decBR, thr, hno_10, hi_k, hv_k, c_10, eq_true c_25, eq_true c_45, eq_true c_64, c_68, eq_true c_73, c_85, c_96]⟩) (by decide) (by decide)
              · skip
                exact absurd c_85 (by decide)
  · skip
    rw [noV_f c_10] at h
    have hno_10 : vIn tr0 (trN R) = false := not_tt c_10
    refine lv_iconst (v := (nI 0)) hx hy dX7_decide_13 (by decide) ?_
    exact e_int C h rfl dX7_decide_14 (⟨_, rfl, by first | (exfalso; omega) | exact absurd (c_68.symm.trans c_96) (by decide) | simp [kDecR, decBR, pzI, hno_10, c_10], by first | (exfalso; omega) | exact absurd (c_68.symm.trans c_96) (by decide) | simp [decRR, kDecR, decBR, thr, hno_10, c_10]⟩) (by decide) (by decide)

set_option maxRecDepth 20000 in
theorem in_X7_settle_X7 : ∀ x ∈ wsX70, x ∈ wsX7_settle := by decide +kernel
set_option maxRecDepth 100000 in
set_option maxHeartbeats 4000000 in
/-- the reference: settle -/
theorem c_X7_settle (l : Launch) {G : va_G} {V : wV} {rs : List Nat} (hr : bR rs) (M R : wM) (o : wO) (rv : RV R) (ca : Int32) : CT l G V rs yX7_settle wsX7_settle 4 92 0 0 [.ref (V.1 rMod), .int ca] (M, R, o) (fun v u => ∃ r, v = some (.int r) ∧ (kSetR R ca = 0 → r = nI (prQ R (cI ca))) ∧ u = (M, setRR R ca, o)) (fun _ _ => False) := by
  refine ct_of (cc := cX7_settle) (maxL := 5) (ret := (some .int)) (by decide) rfl (Nat.le_of_ble_eq_true rfl) ?_
  intro p e s m below meth cd ls C h X hT hl
  have hx := C.1
  have hy := C.2.1
  have hl : lv_has ls 5 [(0, .ref (V.1 rMod)), (1, .int ca)] := hl
  have hmn : ∀ c, c < 2 → R 101 c = nI (mnN R c) ∧ mnN R c ≤ 7 := fun c hc => ⟨(rv.1 c hc).1, (rv.1 c hc).2.1⟩
  have hwn : ∀ c, c < 2 → R 103 c = nI (wrN R c) ∧ wrN R c ≤ 60 := fun c hc => ⟨(rv.1 c hc).2.2.1, (rv.1 c hc).2.2.2.1⟩
  have hsi9 := rv.2.1.2
  have htr9 := rv.2.2.1.2
  refine lv_aload_n hx hy dX7_settle_0 rfl (lv_at hl 0 rfl) ?_
  refine lv_iload_n hx hy dX7_settle_1 rfl (lv_at hl 1 rfl) ?_
  refine n_go0 C h (n_S (As := [.int ca]) (rest := [.ref (V.1 rMod)]) C h X (c_X7_isCastle l M R o ca) (va_cwS 1 C.2.2.2.2.1 gX7_settle_X7_isCastle rfl rfl rfl (by decide +kernel) ⟨Nat.le_of_ble_eq_true rfl, Nat.le_of_ble_eq_true rfl⟩) rfl hl.1 rfl (Nat.le_of_ble_eq_true rfl) dX7_settle_2 ⟨by decide, by decide⟩) (fun _ _ z => z) (fun v_2 u_2 H locs hpo h => ?_)
  obtain ⟨rfl, rfl⟩ := hpo
  refine lv_iconst (v := (nI 1)) hx hy dX7_settle_5 (by decide) ?_
  refine n_go0 C h (n_V (As := [.int (b2i (vIn ca 2)), .int (nI 1)]) (rest := []) C h X (hr 100 (by decide)) ((cel_hi (by decide)).trans (celF_Mod _)) rfl (c_X7_no l hr M R o (vIn ca 2) (nI 1)) (cwV 2 C.2.2.2.2.1 gX7_settle_X7_no rfl rfl rfl (by decide +kernel) ⟨Nat.le_of_ble_eq_true rfl, Nat.le_of_ble_eq_true rfl⟩) rfl hl.1 rfl (Nat.le_of_ble_eq_true rfl) dX7_settle_6 ⟨by decide, by decide⟩) (fun _ _ z => z) (fun v_6 u_6 H locs hpo h => ?_)
  obtain ⟨rfl, rfl⟩ := hpo
  refine b_eq hx hy (tgt := 14) dX7_settle_9 (by decide) (fun c_9 => ?_) (fun c_9 => ?_)
  · skip
    rw [noV_t c_9] at h
    have hno_9 : vIn ca 2 = true := not_ff c_9
    obtain ⟨c, hc, rfl⟩ := vIn_ok' hno_9 (by decide)
    have hv_c : vIn (nI c) 2 = true := vIn_nI hc (by decide)
    have hi_c : cI (nI c) = c := nI_clamp (by omega)
    have hmn9 := (hmn c hc).2
    have hwn9 := (hwn c hc).2
    have hB := (rv.1 c hc).2.2.2.2.1
    have hEr := (rv.1 c hc).2.2.2.2.2.1
    have hU := (rv.1 c hc).2.2.2.2.2.2
    refine lv_aload_n hx hy dX7_settle_14 rfl (lv_at hl 0 rfl) ?_
    refine lv_iload_n hx hy dX7_settle_15 rfl (lv_at hl 1 rfl) ?_
    refine n_go0 C h (n_V (As := [.int (nI c)]) (rest := []) C h X (hr 100 (by decide)) ((cel_hi (by decide)).trans (celF_Mod _)) rfl (c_X7_prepared l hr M (wr R rMod 19 (nI 0)) o c hc (trN R) htr9 (show (wr R rMod 19 (nI 0)) rMod 17 = nI (trN R) from ((wr_othj (by decide)).trans rv.2.2.1.1))) (cwV 1 C.2.2.2.2.1 gX7_settle_X7_prepared rfl rfl rfl (by decide +kernel) ⟨Nat.le_of_ble_eq_true rfl, Nat.le_of_ble_eq_true rfl⟩) rfl hl.1 rfl (Nat.le_of_ble_eq_true rfl) dX7_settle_16 ⟨by decide, by decide⟩) (fun _ _ z => z) (fun v_16 u_16 H locs hpo h => ?_)
    obtain ⟨rfl, rfl⟩ := hpo
    refine lv_istore_n (lv' := [(2, .int (prN (wr R rMod 19 (nI 0)) c (trN R))), (0, .ref (V.1 rMod)), (1, .int (nI c))]) hx hy dX7_settle_19 rfl hl (by decide) rfl (fun ls hl => ?_)
    refine lv_iload_n hx hy dX7_settle_20 rfl (lv_at hl 0 rfl) ?_
    refine z_lt hx hy (tgt := 50) dX7_settle_21 (by decide) (fun c_21 => ?_) (fun c_21 => ?_)
    · skip
      refine lv_iconst (v := (nI 0)) hx hy dX7_settle_50 (by decide) ?_
      refine lv_istore_n (lv' := [(3, .int (nI 0)), (2, .int (prN (wr R rMod 19 (nI 0)) c (trN R))), (0, .ref (V.1 rMod)), (1, .int (nI c))]) hx hy dX7_settle_51 rfl hl (by decide) rfl (fun ls hl => ?_)
      refine lv_aload_n hx hy dX7_settle_52 rfl (lv_at hl 2 rfl) ?_
      refine lv_iload_n hx hy dX7_settle_53 rfl (lv_at hl 0 rfl) ?_
      refine nz_eq hx hy (by omega) (tgt := 72) dX7_settle_54 (by decide) (fun c_54 => ?_) (fun c_54 => ?_)
      · skip
        refine lv_iconst (v := (nI 0)) hx hy dX7_settle_72 (by decide) ?_
        refine lv_iconst (v := (nI 2)) hx hy dX7_settle_73 (by decide) ?_
        refine n_go0 C h (n_V (As := [.int (b2i false), .int (nI 2)]) (rest := []) C h X (hr 100 (by decide)) ((cel_hi (by decide)).trans (celF_Mod _)) rfl (c_X7_no l hr M (wr R rMod 19 (nI 0)) o false (nI 2)) (cwV 2 C.2.2.2.2.1 gX7_settle_X7_no rfl rfl rfl (by decide +kernel) ⟨Nat.le_of_ble_eq_true rfl, Nat.le_of_ble_eq_true rfl⟩) rfl hl.1 rfl (Nat.le_of_ble_eq_true rfl) dX7_settle_74 ⟨by decide, by decide⟩) (fun _ _ z => z) (fun v_74 u_74 H locs hpo h => ?_)
        obtain ⟨rfl, rfl⟩ := hpo
        refine b_ne hx hy (tgt := 104) dX7_settle_77 (by decide) (fun c_77 => ?_) (fun c_77 => ?_)
        · skip
          rw [noV_f c_77] at h
          rw [wr_wr] at h
          refine lv_iconst (v := (nI 0)) hx hy dX7_settle_104 (by decide) ?_
          exact e_int C h rfl dX7_settle_105 (⟨_, rfl, by simp [kSetR, setBR, hno_9, hi_c, hv_c, c_9, eq_true c_21, eq_false (Int32.not_le.mpr c_21), eq_true c_54, c_77], by simp [setRR, kSetR, setBR, thr, hno_9, hi_c, hv_c, c_9, eq_true c_21, eq_false (Int32.not_le.mpr c_21), eq_true c_54, c_77]⟩) (by decide) (by decide)
        · skip
          exact absurd c_77 (by decide)
      · skip
        exact absurd c_54 (by decide)
    · skip
      have hq9 := prQ_ok htr9 c_21
      rw [hq9.1] at hl
      have hq8 : prQ R c < 8 := by omega
      have hT9 := rv.2.2.2.2 _ hq9.2
      refine lv_aload_n hx hy dX7_settle_24 rfl (lv_at hl 1 rfl) ?_
      refine lv_iload_n hx hy dX7_settle_25 rfl (lv_at hl 2 rfl) ?_
      refine n_go0 C h (n_V (As := [.int (nI c)]) (rest := []) C h X (hr 100 (by decide)) ((cel_hi (by decide)).trans (celF_Mod _)) rfl (c_X7_hangs l hr M (wr R rMod 19 (nI 0)) o c hc (wrN R c) hwn9 (show (wr R rMod 19 (nI 0)) 103 c = nI (wrN R c) from ((wr_othr (by decide)).trans (hwn c hc).1)) hB) (cwV 1 C.2.2.2.2.1 gX7_settle_X7_hangs rfl rfl rfl (by decide +kernel) ⟨Nat.le_of_ble_eq_true rfl, Nat.le_of_ble_eq_true rfl⟩) rfl hl.1 rfl (Nat.le_of_ble_eq_true rfl) dX7_settle_26 ⟨by decide, by decide⟩) (fun _ _ z => z) (fun v_26 u_26 H locs hpo h => ?_)
      obtain ⟨rfl, rfl⟩ := hpo
      refine b_ne hx hy (tgt := 50) dX7_settle_29 (by decide) (fun c_29 => ?_) (fun c_29 => ?_)
      · skip
        refine lv_iconst (v := (nI 0)) hx hy dX7_settle_50 (by decide) ?_
        refine lv_istore_n (lv' := [(3, .int (nI 0)), (2, .int (nI (prQ R c))), (0, .ref (V.1 rMod)), (1, .int (nI c))]) hx hy dX7_settle_51 rfl hl (by decide) rfl (fun ls hl => ?_)
        refine lv_aload_n hx hy dX7_settle_52 rfl (lv_at hl 2 rfl) ?_
        refine lv_iload_n hx hy dX7_settle_53 rfl (lv_at hl 0 rfl) ?_
        refine nz_eq hx hy (by omega) (tgt := 72) dX7_settle_54 (by decide) (fun c_54 => ?_) (fun c_54 => ?_)
        · skip
          refine lv_iconst (v := (nI 0)) hx hy dX7_settle_72 (by decide) ?_
          refine lv_iconst (v := (nI 2)) hx hy dX7_settle_73 (by decide) ?_
          refine n_go0 C h (n_V (As := [.int (b2i false), .int (nI 2)]) (rest := []) C h X (hr 100 (by decide)) ((cel_hi (by decide)).trans (celF_Mod _)) rfl (c_X7_no l hr M (suM (wr R rMod 19 (nI 0)) c (wrN R c)) o false (nI 2)) (cwV 2 C.2.2.2.2.1 gX7_settle_X7_no rfl rfl rfl (by decide +kernel) ⟨Nat.le_of_ble_eq_true rfl, Nat.le_of_ble_eq_true rfl⟩) rfl hl.1 rfl (Nat.le_of_ble_eq_true rfl) dX7_settle_74 ⟨by decide, by decide⟩) (fun _ _ z => z) (fun v_74 u_74 H locs hpo h => ?_)
          obtain ⟨rfl, rfl⟩ := hpo
          refine b_ne hx hy (tgt := 104) dX7_settle_77 (by decide) (fun c_77 => ?_) (fun c_77 => ?_)
          · skip
            rw [noV_f c_77] at h
            refine lv_iconst (v := (nI 0)) hx hy dX7_settle_104 (by decide) ?_
            exact e_int C h rfl dX7_settle_105 (⟨_, rfl, by simp [kSetR, setBR, hno_9, hi_c, hv_c, c_9, eq_true c_21, eq_false (Int32.not_lt.mpr c_21), c_29, eq_true c_54, c_77], by simp [setRR, kSetR, setBR, thr, hno_9, hi_c, hv_c, c_9, eq_true c_21, eq_false (Int32.not_lt.mpr c_21), c_29, eq_true c_54, c_77]⟩) (by decide) (by decide)
          · skip
            exact absurd c_77 (by decide)
        · skip
          exact absurd c_54 (by decide)
      · skip
        refine lv_aload_n hx hy dX7_settle_32 rfl (lv_at hl 1 rfl) ?_
        refine lv_iload_n hx hy dX7_settle_33 rfl (lv_at hl 2 rfl) ?_
        refine lv_aload_n hx hy dX7_settle_34 rfl (lv_at hl 1 rfl) ?_
        refine lv_iload_n hx hy dX7_settle_35 rfl (lv_at hl 2 rfl) ?_
        refine lv_iconst (v := (-1)) hx hy dX7_settle_36 (by decide) ?_
        refine n_go0 C h (n_V (As := [.int (nI c), .int (-1)]) (rest := [.int (nI c), .ref (V.1 rMod)]) C h X (hr 100 (by decide)) ((cel_hi (by decide)).trans (celF_Mod _)) rfl (c_X7_reachU l hr M (suM (wr R rMod 19 (nI 0)) c (wrN R c)) o c hc (mnN R c) hmn9 (show (suM (wr R rMod 19 (nI 0)) c (wrN R c)) 101 c = nI (mnN R c) from ((congrFun (suM_ne (by decide) (by decide)) _).trans ((wr_othr (by decide)).trans (hmn c hc).1)))) (cwV 2 C.2.2.2.2.1 gX7_settle_X7_reach rfl rfl rfl (by decide +kernel) ⟨Nat.le_of_ble_eq_true rfl, Nat.le_of_ble_eq_true rfl⟩) rfl hl.1 rfl (Nat.le_of_ble_eq_true rfl) dX7_settle_37 ⟨by decide, by decide⟩) (fun _ _ z => z) (fun v_37 u_37 H locs hpo h => ?_)
        obtain ⟨rfl, rfl⟩ := hpo
        refine n_go0 C h (n_V (As := [.int (nI c), .int (rcU (suM (wr R rMod 19 (nI 0)) c (wrN R c)) c (mnN R c))]) (rest := []) C h X (hr 100 (by decide)) ((cel_hi (by decide)).trans (celF_Mod _)) rfl (c_X7_quorum l hr M (suM (wr R rMod 19 (nI 0)) c (wrN R c)) o c hc (rcU (suM (wr R rMod 19 (nI 0)) c (wrN R c)) c (mnN R c))) (cwV 2 C.2.2.2.2.1 gX7_settle_X7_quorum rfl rfl rfl (by decide +kernel) ⟨Nat.le_of_ble_eq_true rfl, Nat.le_of_ble_eq_true rfl⟩) rfl hl.1 rfl (Nat.le_of_ble_eq_true rfl) dX7_settle_40 ⟨by decide, by decide⟩) (fun _ _ z => z) (fun v_40 u_40 H locs hpo h => ?_)
        obtain ⟨rfl, rfl⟩ := hpo
        refine b_eq hx hy (tgt := 50) dX7_settle_43 (by decide) (fun c_43 => ?_) (fun c_43 => ?_)
        · skip
          refine lv_iconst (v := (nI 0)) hx hy dX7_settle_50 (by decide) ?_
          refine lv_istore_n (lv' := [(3, .int (nI 0)), (2, .int (nI (prQ R c))), (0, .ref (V.1 rMod)), (1, .int (nI c))]) hx hy dX7_settle_51 rfl hl (by decide) rfl (fun ls hl => ?_)
          refine lv_aload_n hx hy dX7_settle_52 rfl (lv_at hl 2 rfl) ?_
          refine lv_iload_n hx hy dX7_settle_53 rfl (lv_at hl 0 rfl) ?_
          refine nz_eq hx hy (by omega) (tgt := 72) dX7_settle_54 (by decide) (fun c_54 => ?_) (fun c_54 => ?_)
          · skip
            refine lv_iconst (v := (nI 0)) hx hy dX7_settle_72 (by decide) ?_
            refine lv_iconst (v := (nI 2)) hx hy dX7_settle_73 (by decide) ?_
            refine n_go0 C h (n_V (As := [.int (b2i false), .int (nI 2)]) (rest := []) C h X (hr 100 (by decide)) ((cel_hi (by decide)).trans (celF_Mod _)) rfl (c_X7_no l hr M (suM (wr R rMod 19 (nI 0)) c (wrN R c)) o false (nI 2)) (cwV 2 C.2.2.2.2.1 gX7_settle_X7_no rfl rfl rfl (by decide +kernel) ⟨Nat.le_of_ble_eq_true rfl, Nat.le_of_ble_eq_true rfl⟩) rfl hl.1 rfl (Nat.le_of_ble_eq_true rfl) dX7_settle_74 ⟨by decide, by decide⟩) (fun _ _ z => z) (fun v_74 u_74 H locs hpo h => ?_)
            obtain ⟨rfl, rfl⟩ := hpo
            refine b_ne hx hy (tgt := 104) dX7_settle_77 (by decide) (fun c_77 => ?_) (fun c_77 => ?_)
            · skip
              rw [noV_f c_77] at h
              refine lv_iconst (v := (nI 0)) hx hy dX7_settle_104 (by decide) ?_
              exact e_int C h rfl dX7_settle_105 (⟨_, rfl, by simp [kSetR, setBR, hno_9, hi_c, hv_c, c_9, eq_true c_21, eq_false (Int32.not_lt.mpr c_21), c_29, c_43, eq_true c_54, c_77], by simp [setRR, kSetR, setBR, thr, hno_9, hi_c, hv_c, c_9, eq_true c_21, eq_false (Int32.not_lt.mpr c_21), c_29, c_43, eq_true c_54, c_77]⟩) (by decide) (by decide)
            · skip
              exact absurd c_77 (by decide)
          · skip
            exact absurd c_54 (by decide)
        · skip
          refine lv_iconst (v := (nI 1)) hx hy dX7_settle_46 (by decide) ?_
          refine lv_goto (tgt := 51) hx hy dX7_settle_47 (by decide) ?_
          refine lv_istore_n (lv' := [(3, .int (nI 1)), (2, .int (nI (prQ R c))), (0, .ref (V.1 rMod)), (1, .int (nI c))]) hx hy dX7_settle_51 rfl hl (by decide) rfl (fun ls hl => ?_)
          refine lv_aload_n hx hy dX7_settle_52 rfl (lv_at hl 2 rfl) ?_
          refine lv_iload_n hx hy dX7_settle_53 rfl (lv_at hl 0 rfl) ?_
          refine nz_eq hx hy (by omega) (tgt := 72) dX7_settle_54 (by decide) (fun c_54 => ?_) (fun c_54 => ?_)
          · skip
            exact absurd c_54 (by decide)
          · skip
            refine lv_aload_n hx hy dX7_settle_57 rfl (lv_at hl 2 rfl) ?_
            refine g_f C h (hr 100 (by decide)) (cel_hi (by decide)) celF_Mod rfl in_X7_settle_X7 28 (by decide) (by decide +kernel) (v := .ref (V.1 129)) rfl dX7_settle_58 ?_
            refine lv_iload_n hx hy dX7_settle_61 rfl (lv_at hl 1 rfl) ?_
            refine g_c C h (hr 129 (by decide)) (n := 8) (k := (prQ R c)) (cel_hi (by decide)) (fun _ => rfl) (by omega) (by decide) (v := (R 129 (prQ R c))) (show (suM (wr R rMod 19 (nI 0)) c (wrN R c)) 129 (prQ R c) = (R 129 (prQ R c)) from ((congrFun (suM_ne (by decide) (by decide)) _).trans (wr_othr (by decide)))) dX7_settle_62 ?_
            refine lv_bipush (v := (nI 45)) hx hy dX7_settle_63 (by decide) ?_
            refine i_eq hx hy (tgt := 72) dX7_settle_65 (by decide) (fun c_65 => ?_) (fun c_65 => ?_)
            · skip
              refine lv_iconst (v := (nI 0)) hx hy dX7_settle_72 (by decide) ?_
              refine lv_iconst (v := (nI 2)) hx hy dX7_settle_73 (by decide) ?_
              refine n_go0 C h (n_V (As := [.int (b2i false), .int (nI 2)]) (rest := []) C h X (hr 100 (by decide)) ((cel_hi (by decide)).trans (celF_Mod _)) rfl (c_X7_no l hr M (suM (wr R rMod 19 (nI 0)) c (wrN R c)) o false (nI 2)) (cwV 2 C.2.2.2.2.1 gX7_settle_X7_no rfl rfl rfl (by decide +kernel) ⟨Nat.le_of_ble_eq_true rfl, Nat.le_of_ble_eq_true rfl⟩) rfl hl.1 rfl (Nat.le_of_ble_eq_true rfl) dX7_settle_74 ⟨by decide, by decide⟩) (fun _ _ z => z) (fun v_74 u_74 H locs hpo h => ?_)
              obtain ⟨rfl, rfl⟩ := hpo
              refine b_ne hx hy (tgt := 104) dX7_settle_77 (by decide) (fun c_77 => ?_) (fun c_77 => ?_)
              · skip
                rw [noV_f c_77] at h
                refine lv_iconst (v := (nI 0)) hx hy dX7_settle_104 (by decide) ?_
                exact e_int C h rfl dX7_settle_105 (⟨_, rfl, by simp [kSetR, setBR, hno_9, hi_c, hv_c, c_9, eq_true c_21, eq_false (Int32.not_lt.mpr c_21), c_29, c_43, eq_false c_54, eq_true c_65, c_77], by simp [setRR, kSetR, setBR, thr, hno_9, hi_c, hv_c, c_9, eq_true c_21, eq_false (Int32.not_lt.mpr c_21), c_29, c_43, eq_false c_54, eq_true c_65, c_77]⟩) (by decide) (by decide)
              · skip
                exact absurd c_77 (by decide)
            · skip
              refine lv_iconst (v := (nI 1)) hx hy dX7_settle_68 (by decide) ?_
              refine lv_goto (tgt := 73) hx hy dX7_settle_69 (by decide) ?_
              refine lv_iconst (v := (nI 2)) hx hy dX7_settle_73 (by decide) ?_
              refine n_go0 C h (n_V (As := [.int (b2i true), .int (nI 2)]) (rest := []) C h X (hr 100 (by decide)) ((cel_hi (by decide)).trans (celF_Mod _)) rfl (c_X7_no l hr M (suM (wr R rMod 19 (nI 0)) c (wrN R c)) o true (nI 2)) (cwV 2 C.2.2.2.2.1 gX7_settle_X7_no rfl rfl rfl (by decide +kernel) ⟨Nat.le_of_ble_eq_true rfl, Nat.le_of_ble_eq_true rfl⟩) rfl hl.1 rfl (Nat.le_of_ble_eq_true rfl) dX7_settle_74 ⟨by decide, by decide⟩) (fun _ _ z => z) (fun v_74 u_74 H locs hpo h => ?_)
              obtain ⟨rfl, rfl⟩ := hpo
              refine b_ne hx hy (tgt := 104) dX7_settle_77 (by decide) (fun c_77 => ?_) (fun c_77 => ?_)
              · skip
                exact absurd c_77 (by decide)
              · skip
                rw [noV_t c_77] at h
                refine lv_aload_n hx hy dX7_settle_80 rfl (lv_at hl 2 rfl) ?_
                refine lv_aload_n hx hy dX7_settle_81 rfl (lv_at hl 2 rfl) ?_
                refine g_f C h (hr 100 (by decide)) (cel_hi (by decide)) celF_Mod rfl in_X7_settle_X7 2 (by decide) (by decide +kernel) (v := .ref (V.1 103)) rfl dX7_settle_82 ?_
                refine lv_iload_n hx hy dX7_settle_85 rfl (lv_at hl 3 rfl) ?_
                refine g_i C h (hr 103 (by decide)) (n := 2) (k := c) (cel_hi (by decide)) (fun _ => rfl) (by omega) (by decide) (v := (nI (wrN R c))) (show (wr (suM (wr R rMod 19 (nI 0)) c (wrN R c)) rMod 19 (nI 0)) 103 c = (nI (wrN R c)) from ((wr_othr (by decide)).trans ((congrFun (suM_ne (by decide) (by decide)) _).trans ((wr_othr (by decide)).trans (hwn c hc).1)))) dX7_settle_86 ?_
                refine lv_bipush (v := (nI 60)) hx hy dX7_settle_87 (by decide) ?_
                refine n_ge hx hy (by omega) (by decide) (tgt := 96) dX7_settle_89 (by decide) (fun c_89 => ?_) (fun c_89 => ?_)
                · skip
                  refine lv_iconst (v := (nI 0)) hx hy dX7_settle_96 (by decide) ?_
                  refine lv_iconst (v := (nI 3)) hx hy dX7_settle_97 (by decide) ?_
                  refine n_go0 C h (n_V (As := [.int (b2i false), .int (nI 3)]) (rest := []) C h X (hr 100 (by decide)) ((cel_hi (by decide)).trans (celF_Mod _)) rfl (c_X7_no l hr M (wr (suM (wr R rMod 19 (nI 0)) c (wrN R c)) rMod 19 (nI 0)) o false (nI 3)) (cwV 2 C.2.2.2.2.1 gX7_settle_X7_no rfl rfl rfl (by decide +kernel) ⟨Nat.le_of_ble_eq_true rfl, Nat.le_of_ble_eq_true rfl⟩) rfl hl.1 rfl (Nat.le_of_ble_eq_true rfl) dX7_settle_98 ⟨by decide, by decide⟩) (fun _ _ z => z) (fun v_98 u_98 H locs hpo h => ?_)
                  obtain ⟨rfl, rfl⟩ := hpo
                  refine b_eq hx hy (tgt := 106) dX7_settle_101 (by decide) (fun c_101 => ?_) (fun c_101 => ?_)
                  · skip
                    exact absurd c_101 (by decide)
                  · skip
                    rw [noV_f c_101] at h
                    rw [wr_wr] at h
                    refine lv_iconst (v := (nI 0)) hx hy dX7_settle_104 (by decide) ?_
                    exact e_int C h rfl dX7_settle_105 (⟨_, rfl, by simp [kSetR, setBR, hno_9, hi_c, hv_c, c_9, eq_true c_21, eq_false (Int32.not_lt.mpr c_21), c_29, c_43, eq_false c_54, eq_false c_65, c_77, eq_true c_89, eq_false (Nat.not_lt.mpr c_89), c_101], by simp [setRR, kSetR, setBR, thr, hno_9, hi_c, hv_c, c_9, eq_true c_21, eq_false (Int32.not_lt.mpr c_21), c_29, c_43, eq_false c_54, eq_false c_65, c_77, eq_true c_89, eq_false (Nat.not_lt.mpr c_89), c_101]⟩) (by decide) (by decide)
                · skip
                  refine lv_iconst (v := (nI 1)) hx hy dX7_settle_92 (by decide) ?_
                  refine lv_goto (tgt := 97) hx hy dX7_settle_93 (by decide) ?_
                  refine lv_iconst (v := (nI 3)) hx hy dX7_settle_97 (by decide) ?_
                  refine n_go0 C h (n_V (As := [.int (b2i true), .int (nI 3)]) (rest := []) C h X (hr 100 (by decide)) ((cel_hi (by decide)).trans (celF_Mod _)) rfl (c_X7_no l hr M (wr (suM (wr R rMod 19 (nI 0)) c (wrN R c)) rMod 19 (nI 0)) o true (nI 3)) (cwV 2 C.2.2.2.2.1 gX7_settle_X7_no rfl rfl rfl (by decide +kernel) ⟨Nat.le_of_ble_eq_true rfl, Nat.le_of_ble_eq_true rfl⟩) rfl hl.1 rfl (Nat.le_of_ble_eq_true rfl) dX7_settle_98 ⟨by decide, by decide⟩) (fun _ _ z => z) (fun v_98 u_98 H locs hpo h => ?_)
                  obtain ⟨rfl, rfl⟩ := hpo
                  refine b_eq hx hy (tgt := 106) dX7_settle_101 (by decide) (fun c_101 => ?_) (fun c_101 => ?_)
                  · skip
                    rw [noV_t c_101] at h
                    rw [wr_wr] at h
                    refine lv_aload_n hx hy dX7_settle_106 rfl (lv_at hl 2 rfl) ?_
                    refine g_f C h (hr 100 (by decide)) (cel_hi (by decide)) celF_Mod rfl in_X7_settle_X7 29 (by decide) (by decide +kernel) (v := .ref (V.1 130)) rfl dX7_settle_107 ?_
                    refine lv_iconst (v := (nI 2)) hx hy dX7_settle_110 (by decide) ?_
                    refine lv_iload_n hx hy dX7_settle_111 rfl (lv_at hl 1 rfl) ?_
                    refine lv_imul hx hy dX7_settle_112 ?_
                    refine lv_topn (pk_mul _ _) ?_
                    refine lv_iload_n hx hy dX7_settle_113 rfl (lv_at hl 3 rfl) ?_
                    refine lv_iadd hx hy dX7_settle_114 ?_
                    refine lv_topn (nI_add _ _) ?_
                    refine lv_aload_n hx hy dX7_settle_115 rfl (lv_at hl 2 rfl) ?_
                    refine g_f C h (hr 100 (by decide)) (cel_hi (by decide)) celF_Mod rfl in_X7_settle_X7 28 (by decide) (by decide +kernel) (v := .ref (V.1 129)) rfl dX7_settle_116 ?_
                    refine lv_iload_n hx hy dX7_settle_119 rfl (lv_at hl 1 rfl) ?_
                    refine g_c C h (hr 129 (by decide)) (n := 8) (k := (prQ R c)) (cel_hi (by decide)) (fun _ => rfl) (by omega) (by decide) (v := (R 129 (prQ R c))) (show (wr (suM (wr R rMod 19 (nI 0)) c (wrN R c)) rMod 19 (nI 0)) 129 (prQ R c) = (R 129 (prQ R c)) from ((wr_othr (by decide)).trans ((congrFun (suM_ne (by decide) (by decide)) _).trans (wr_othr (by decide))))) dX7_settle_120 ?_
                    refine s_cR C h (hr 130 (by decide)) (by decide) (n := 16) (k := ((2 * (prQ R c)) + c)) (fun _ => rfl) (by omega) (by decide) (x := (R 129 (prQ R c))) (vp_of_nar hT9.1) dX7_settle_121 (fun H locs h => ?_)
                    refine lv_aload_n hx hy dX7_settle_122 rfl (lv_at hl 2 rfl) ?_
                    refine lv_iload_n hx hy dX7_settle_123 rfl (lv_at hl 3 rfl) ?_
                    refine lv_aload_n hx hy dX7_settle_124 rfl (lv_at hl 2 rfl) ?_
                    refine g_f C h (hr 100 (by decide)) (cel_hi (by decide)) celF_Mod rfl in_X7_settle_X7 28 (by decide) (by decide +kernel) (v := .ref (V.1 129)) rfl dX7_settle_125 ?_
                    refine lv_iload_n hx hy dX7_settle_128 rfl (lv_at hl 1 rfl) ?_
                    refine g_c C h (hr 129 (by decide)) (n := 8) (k := (prQ R c)) (cel_hi (by decide)) (fun _ => rfl) (by omega) (by decide) (v := (R 129 (prQ R c))) (show (wr (wr (suM (wr R rMod 19 (nI 0)) c (wrN R c)) rMod 19 (nI 0)) 130 ((2 * (prQ R c)) + c) (R 129 (prQ R c))) 129 (prQ R c) = (R 129 (prQ R c)) from ((wr_othr (by decide)).trans ((wr_othr (by decide)).trans ((congrFun (suM_ne (by decide) (by decide)) _).trans (wr_othr (by decide)))))) dX7_settle_129 ?_
                    refine lv_aload_n hx hy dX7_settle_130 rfl (lv_at hl 2 rfl) ?_
                    refine g_f C h (hr 100 (by decide)) (cel_hi (by decide)) celF_Mod rfl in_X7_settle_X7 27 (by decide) (by decide +kernel) (v := .ref (V.1 128)) rfl dX7_settle_131 ?_
                    refine lv_iload_n hx hy dX7_settle_134 rfl (lv_at hl 1 rfl) ?_
                    refine g_i C h (hr 128 (by decide)) (n := 8) (k := (prQ R c)) (cel_hi (by decide)) (fun _ => rfl) (by omega) (by decide) (v := (R 128 (prQ R c))) (show (wr (wr (suM (wr R rMod 19 (nI 0)) c (wrN R c)) rMod 19 (nI 0)) 130 ((2 * (prQ R c)) + c) (R 129 (prQ R c))) 128 (prQ R c) = (R 128 (prQ R c)) from ((wr_othr (by decide)).trans ((wr_othr (by decide)).trans ((congrFun (suM_ne (by decide) (by decide)) _).trans (wr_othr (by decide)))))) dX7_settle_135 ?_
                    refine lv_iconst (v := (-1)) hx hy dX7_settle_136 (by decide) ?_
                    refine lv_iload_n hx hy dX7_settle_137 rfl (lv_at hl 1 rfl) ?_
                    refine n_go0 C h (n_V (As := [.int (nI c), .int (R 129 (prQ R c)), .int (R 128 (prQ R c)), .int (-1), .int (nI (prQ R c))]) (rest := []) C h X (hr 100 (by decide)) ((cel_hi (by decide)).trans (celF_Mod _)) rfl (c_X7_writesU l hr M (wr (wr (suM (wr R rMod 19 (nI 0)) c (wrN R c)) rMod 19 (nI 0)) 130 ((2 * (prQ R c)) + c) (R 129 (prQ R c))) o c hc (mnN R c) hmn9 (show (wr (wr (suM (wr R rMod 19 (nI 0)) c (wrN R c)) rMod 19 (nI 0)) 130 ((2 * (prQ R c)) + c) (R 129 (prQ R c))) 101 c = nI (mnN R c) from ((wr_othr (by decide)).trans ((wr_othr (by decide)).trans ((congrFun (suM_ne (by decide) (by decide)) _).trans ((wr_othr (by decide)).trans (hmn c hc).1))))) (wrN R c) c_89 (show (wr (wr (suM (wr R rMod 19 (nI 0)) c (wrN R c)) rMod 19 (nI 0)) 130 ((2 * (prQ R c)) + c) (R 129 (prQ R c))) 103 c = nI (wrN R c) from ((wr_othr (by decide)).trans ((wr_othr (by decide)).trans ((congrFun (suM_ne (by decide) (by decide)) _).trans ((wr_othr (by decide)).trans (hwn c hc).1))))) (R 129 (prQ R c)) (R 128 (prQ R c)) (nI (prQ R c)) (vp_of_nar hT9.1)) (cwV 5 C.2.2.2.2.1 gX7_settle_X7_writes rfl rfl rfl (by decide +kernel) ⟨Nat.le_of_ble_eq_true rfl, Nat.le_of_ble_eq_true rfl⟩) rfl hl.1 rfl (Nat.le_of_ble_eq_true rfl) dX7_settle_138 ⟨by decide, by decide⟩) (fun _ _ z => z) (fun v_138 u_138 H locs hpo h => ?_)
                    obtain ⟨rfl, rfl⟩ := hpo
                    refine lv_istore (lv' := [(4, .int (nI (wrN R c))), (3, .int (nI 1)), (2, .int (nI (prQ R c))), (0, .ref (V.1 rMod)), (1, .int (nI c))]) hx hy dX7_settle_141 hl (by decide) rfl (fun ls hl => ?_)
                    refine lv_iload_n hx hy dX7_settle_143 rfl (lv_at hl 2 rfl) ?_
                    exact e_int C h rfl dX7_settle_144 (⟨_, rfl, by simp [kSetR, setBR, hno_9, hi_c, hv_c, c_9, eq_true c_21, eq_false (Int32.not_lt.mpr c_21), c_29, c_43, eq_false c_54, eq_false c_65, c_77, eq_true c_89, eq_false (Nat.not_le.mpr c_89), c_101], by simp [setRR, kSetR, setBR, thr, hno_9, hi_c, hv_c, c_9, eq_true c_21, eq_false (Int32.not_lt.mpr c_21), c_29, c_43, eq_false c_54, eq_false c_65, c_77, eq_true c_89, eq_false (Nat.not_le.mpr c_89), c_101]⟩) (by decide) (by decide)
                  · skip
                    exact absurd c_101 (by decide)
  · skip
    rw [noV_f c_9] at h
    have hno_9 : vIn ca 2 = false := not_tt c_9
    refine lv_iconst (v := (nI 0)) hx hy dX7_settle_12 (by decide) ?_
    exact e_int C h rfl dX7_settle_13 (⟨_, rfl, by simp [kSetR, setBR, hno_9, c_9], by simp [setRR, kSetR, setBR, thr, hno_9, c_9]⟩) (by decide) (by decide)

set_option maxRecDepth 20000 in
theorem in_X7_truceOf_X7 : ∀ x ∈ wsX70, x ∈ wsX7_truceOf := by decide +kernel
set_option maxRecDepth 100000 in
set_option maxHeartbeats 4000000 in
/-- the reference: truceOf -/
theorem c_X7_truceOf (l : Launch) {G : va_G} {V : wV} {rs : List Nat} (hr : bR rs) (M R : wM) (o : wO) (rv : RV R) (tr0 ca : Int32) : CT l G V rs yX7_truceOf wsX7_truceOf 2 43 0 0 [.ref (V.1 rMod), .int tr0, .int ca] (M, R, o) (fun v u => ∃ r, v = some (.int r) ∧ (kTCR R tr0 ca = 0 → r = R 130 (2 * cI tr0 + cI ca)) ∧ u = (M, thr R (kTCR R tr0 ca), o)) (fun _ _ => False) := by
  refine ct_of (cc := cX7_truceOf) (maxL := 3) (ret := (some .char)) (by decide) rfl (Nat.le_of_ble_eq_true rfl) ?_
  intro p e s m below meth cd ls C h X hT hl
  have hx := C.1
  have hy := C.2.1
  have hl : lv_has ls 3 [(0, .ref (V.1 rMod)), (1, .int tr0), (2, .int ca)] := hl
  have hmn : ∀ c, c < 2 → R 101 c = nI (mnN R c) ∧ mnN R c ≤ 7 := fun c hc => ⟨(rv.1 c hc).1, (rv.1 c hc).2.1⟩
  have hwn : ∀ c, c < 2 → R 103 c = nI (wrN R c) ∧ wrN R c ≤ 60 := fun c hc => ⟨(rv.1 c hc).2.2.1, (rv.1 c hc).2.2.2.1⟩
  have hsi9 := rv.2.1.2
  have htr9 := rv.2.2.1.2
  refine lv_aload_n hx hy dX7_truceOf_0 rfl (lv_at hl 0 rfl) ?_
  refine lv_aload_n hx hy dX7_truceOf_1 rfl (lv_at hl 0 rfl) ?_
  refine lv_iload_n hx hy dX7_truceOf_2 rfl (lv_at hl 1 rfl) ?_
  refine n_go0 C h (n_V (As := [.int tr0]) (rest := [.ref (V.1 rMod)]) C h X (hr 100 (by decide)) ((cel_hi (by decide)).trans (celF_Mod _)) rfl (c_X7_isTruce l hr M R o (trN R) htr9 (show R rMod 17 = nI (trN R) from rv.2.2.1.1) tr0) (cwV 1 C.2.2.2.2.1 gX7_truceOf_X7_isTruce rfl rfl rfl (by decide +kernel) ⟨Nat.le_of_ble_eq_true rfl, Nat.le_of_ble_eq_true rfl⟩) rfl hl.1 rfl (Nat.le_of_ble_eq_true rfl) dX7_truceOf_3 ⟨by decide, by decide⟩) (fun _ _ z => z) (fun v_3 u_3 H locs hpo h => ?_)
  obtain ⟨rfl, rfl⟩ := hpo
  refine b_eq hx hy (tgt := 20) dX7_truceOf_6 (by decide) (fun c_6 => ?_) (fun c_6 => ?_)
  · skip
    refine lv_iconst (v := (nI 0)) hx hy dX7_truceOf_20 (by decide) ?_
    refine lv_iconst (v := (nI 1)) hx hy dX7_truceOf_21 (by decide) ?_
    refine n_go0 C h (n_V (As := [.int (b2i false), .int (nI 1)]) (rest := []) C h X (hr 100 (by decide)) ((cel_hi (by decide)).trans (celF_Mod _)) rfl (c_X7_no l hr M R o false (nI 1)) (cwV 2 C.2.2.2.2.1 gX7_truceOf_X7_no rfl rfl rfl (by decide +kernel) ⟨Nat.le_of_ble_eq_true rfl, Nat.le_of_ble_eq_true rfl⟩) rfl hl.1 rfl (Nat.le_of_ble_eq_true rfl) dX7_truceOf_22 ⟨by decide, by decide⟩) (fun _ _ z => z) (fun v_22 u_22 H locs hpo h => ?_)
    obtain ⟨rfl, rfl⟩ := hpo
    refine b_eq hx hy (tgt := 33) dX7_truceOf_25 (by decide) (fun c_25 => ?_) (fun c_25 => ?_)
    · skip
      exact absurd c_25 (by decide)
    · skip
      rw [noV_f c_25] at h
      refine lv_bipush (v := (nI 63)) hx hy dX7_truceOf_28 (by decide) ?_
      refine lv_goto (tgt := 43) hx hy dX7_truceOf_30 (by decide) ?_
      exact e_int C h (by first | decide | exact hT9.2 c hc) dX7_truceOf_43 (⟨_, rfl, by simp [kTCR, c_6, c_25, suR], by simp [kTCR, thr, suR, c_6, c_25]⟩) (by decide) (by decide)
  · skip
    obtain ⟨k, hk, rfl⟩ := vIn_ok' c_6 (by omega)
    have hv_k : vIn (nI k) (trN R) = true := vIn_nI hk (by omega)
    have hi_k : cI (nI k) = k := nI_clamp (by omega)
    have hk8 : k < 8 := by omega
    have hT9 := rv.2.2.2.2 k hk
    refine lv_iload_n hx hy dX7_truceOf_9 rfl (lv_at hl 2 rfl) ?_
    refine n_go0 C h (n_S (As := [.int ca]) (rest := [.ref (V.1 rMod)]) C h X (c_X7_isCastle l M R o ca) (va_cwS 1 C.2.2.2.2.1 gX7_truceOf_X7_isCastle rfl rfl rfl (by decide +kernel) ⟨Nat.le_of_ble_eq_true rfl, Nat.le_of_ble_eq_true rfl⟩) rfl hl.1 rfl (Nat.le_of_ble_eq_true rfl) dX7_truceOf_10 ⟨by decide, by decide⟩) (fun _ _ z => z) (fun v_10 u_10 H locs hpo h => ?_)
    obtain ⟨rfl, rfl⟩ := hpo
    refine b_eq hx hy (tgt := 20) dX7_truceOf_13 (by decide) (fun c_13 => ?_) (fun c_13 => ?_)
    · skip
      refine lv_iconst (v := (nI 0)) hx hy dX7_truceOf_20 (by decide) ?_
      refine lv_iconst (v := (nI 1)) hx hy dX7_truceOf_21 (by decide) ?_
      refine n_go0 C h (n_V (As := [.int (b2i false), .int (nI 1)]) (rest := []) C h X (hr 100 (by decide)) ((cel_hi (by decide)).trans (celF_Mod _)) rfl (c_X7_no l hr M R o false (nI 1)) (cwV 2 C.2.2.2.2.1 gX7_truceOf_X7_no rfl rfl rfl (by decide +kernel) ⟨Nat.le_of_ble_eq_true rfl, Nat.le_of_ble_eq_true rfl⟩) rfl hl.1 rfl (Nat.le_of_ble_eq_true rfl) dX7_truceOf_22 ⟨by decide, by decide⟩) (fun _ _ z => z) (fun v_22 u_22 H locs hpo h => ?_)
      obtain ⟨rfl, rfl⟩ := hpo
      refine b_eq hx hy (tgt := 33) dX7_truceOf_25 (by decide) (fun c_25 => ?_) (fun c_25 => ?_)
      · skip
        exact absurd c_25 (by decide)
      · skip
        rw [noV_f c_25] at h
        refine lv_bipush (v := (nI 63)) hx hy dX7_truceOf_28 (by decide) ?_
        refine lv_goto (tgt := 43) hx hy dX7_truceOf_30 (by decide) ?_
        exact e_int C h (by first | decide | exact hT9.2 c hc) dX7_truceOf_43 (⟨_, rfl, by simp [kTCR, hi_k, hv_k, c_6, c_13, c_25, suR], by simp [kTCR, thr, suR, hi_k, hv_k, c_6, c_13, c_25]⟩) (by decide) (by decide)
    · skip
      obtain ⟨c, hc, rfl⟩ := vIn_ok' c_13 (by decide)
      have hv_c : vIn (nI c) 2 = true := vIn_nI hc (by decide)
      have hi_c : cI (nI c) = c := nI_clamp (by omega)
      have hmn9 := (hmn c hc).2
      have hwn9 := (hwn c hc).2
      have hB := (rv.1 c hc).2.2.2.2.1
      have hEr := (rv.1 c hc).2.2.2.2.2.1
      have hU := (rv.1 c hc).2.2.2.2.2.2
      refine lv_iconst (v := (nI 1)) hx hy dX7_truceOf_16 (by decide) ?_
      refine lv_goto (tgt := 21) hx hy dX7_truceOf_17 (by decide) ?_
      refine lv_iconst (v := (nI 1)) hx hy dX7_truceOf_21 (by decide) ?_
      refine n_go0 C h (n_V (As := [.int (b2i true), .int (nI 1)]) (rest := []) C h X (hr 100 (by decide)) ((cel_hi (by decide)).trans (celF_Mod _)) rfl (c_X7_no l hr M R o true (nI 1)) (cwV 2 C.2.2.2.2.1 gX7_truceOf_X7_no rfl rfl rfl (by decide +kernel) ⟨Nat.le_of_ble_eq_true rfl, Nat.le_of_ble_eq_true rfl⟩) rfl hl.1 rfl (Nat.le_of_ble_eq_true rfl) dX7_truceOf_22 ⟨by decide, by decide⟩) (fun _ _ z => z) (fun v_22 u_22 H locs hpo h => ?_)
      obtain ⟨rfl, rfl⟩ := hpo
      refine b_eq hx hy (tgt := 33) dX7_truceOf_25 (by decide) (fun c_25 => ?_) (fun c_25 => ?_)
      · skip
        rw [noV_t c_25] at h
        refine lv_aload_n hx hy dX7_truceOf_33 rfl (lv_at hl 0 rfl) ?_
        refine g_f C h (hr 100 (by decide)) (cel_hi (by decide)) celF_Mod rfl in_X7_truceOf_X7 29 (by decide) (by decide +kernel) (v := .ref (V.1 130)) rfl dX7_truceOf_34 ?_
        refine lv_iconst (v := (nI 2)) hx hy dX7_truceOf_37 (by decide) ?_
        refine lv_iload_n hx hy dX7_truceOf_38 rfl (lv_at hl 1 rfl) ?_
        refine lv_imul hx hy dX7_truceOf_39 ?_
        refine lv_topn (pk_mul _ _) ?_
        refine lv_iload_n hx hy dX7_truceOf_40 rfl (lv_at hl 2 rfl) ?_
        refine lv_iadd hx hy dX7_truceOf_41 ?_
        refine lv_topn (nI_add _ _) ?_
        refine g_c C h (hr 130 (by decide)) (n := 16) (k := ((2 * k) + c)) (cel_hi (by decide)) (fun _ => rfl) (by omega) (by decide) (v := (R 130 ((2 * k) + c))) (show (wr R rMod 19 (nI 0)) 130 ((2 * k) + c) = (R 130 ((2 * k) + c)) from (wr_othr (by decide))) dX7_truceOf_42 ?_
        exact e_int C h (by first | decide | exact hT9.2 c hc) dX7_truceOf_43 (⟨_, rfl, by simp [kTCR, hi_k, hv_k, hi_c, hv_c, c_6, c_13, c_25, suR], by simp [kTCR, thr, suR, hi_k, hv_k, hi_c, hv_c, c_6, c_13, c_25]⟩) (by decide) (by decide)
      · skip
        exact absurd c_25 (by decide)

set_option maxRecDepth 20000 in
theorem in_X7_time_X7 : ∀ x ∈ wsX70, x ∈ wsX7_time := by decide +kernel
set_option maxRecDepth 100000 in
set_option maxHeartbeats 4000000 in
/-- the reference: time -/
theorem c_X7_time (l : Launch) {G : va_G} {V : wV} {rs : List Nat} (hr : bR rs) (M R : wM) (o : wO) : CT l G V rs yX7_time wsX7_time 0 0 0 0 [.ref (V.1 rMod)] (M, R, o) (fun v u => v = some (.int (R rMod 18)) ∧ u = (M, R, o)) (fun _ _ => False) := by
  refine ct_of (cc := cX7_time) (maxL := 1) (ret := (some .int)) (by decide) rfl (Nat.le_of_ble_eq_true rfl) ?_
  intro p e s m below meth cd ls C h X hT hl
  have hx := C.1
  have hy := C.2.1
  have hl : lv_has ls 1 [(0, .ref (V.1 rMod))] := hl
  refine lv_aload_n hx hy dX7_time_0 rfl (lv_at hl 0 rfl) ?_
  refine g_f C h (hr 100 (by decide)) (cel_hi (by decide)) celF_Mod rfl in_X7_time_X7 18 (by decide) (by decide +kernel) (v := .int (R rMod 18)) rfl dX7_time_1 ?_
  exact e_int C h rfl dX7_time_4 (⟨rfl, rfl⟩) (by decide) (by decide)

set_option maxRecDepth 20000 in
theorem in_X7_checksum_X7 : ∀ x ∈ wsX70, x ∈ wsX7_checksum := by decide +kernel
set_option maxRecDepth 100000 in
set_option maxHeartbeats 4000000 in
/-- the reference: checksum -/
theorem c_X7_checksum (l : Launch) {G : va_G} {V : wV} {rs : List Nat} (hr : bR rs) (M R : wM) (o : wO) (rv : RV R) : CT l G V rs yX7_checksum wsX7_checksum 2 47 0 0 [.ref (V.1 rMod)] (M, R, o) (fun v u => v = some (.long (ckN R 2)) ∧ u = (M, ckM R 2, o)) (fun _ _ => False) := by
  refine ct_of (cc := cX7_checksum) (maxL := 5) (ret := (some .long)) (by decide) rfl (Nat.le_of_ble_eq_true rfl) ?_
  intro p e s m below meth cd ls C h X hT hl
  have hx := C.1
  have hy := C.2.1
  have hl : lv_has ls 5 [(0, .ref (V.1 rMod))] := hl
  have hmn : ∀ c, c < 2 → R 101 c = nI (mnN R c) ∧ mnN R c ≤ 7 := fun c hc => ⟨(rv.1 c hc).1, (rv.1 c hc).2.1⟩
  have hwn : ∀ c, c < 2 → R 103 c = nI (wrN R c) ∧ wrN R c ≤ 60 := fun c hc => ⟨(rv.1 c hc).2.2.1, (rv.1 c hc).2.2.2.1⟩
  have hsi9 := rv.2.1.2
  have htr9 := rv.2.2.1.2
  refine lv_ldc2 (v := 7) hx hy C.2.2.2.1 (C.2.2.2.2.1 (.constantLong RX7 197 7) (by decide +kernel)) dX7_checksum_0 ?_
  refine lv_lstore_n (lv' := [(1, .long 7), (0, .ref (V.1 rMod))]) hx hy dX7_checksum_3 rfl hl (by decide) rfl (fun ls hl => ?_)
  refine lv_iconst (v := (nI 0)) hx hy dX7_checksum_4 (by decide) ?_
  refine lv_istore_n (lv' := [(3, .int (nI 0)), (1, .long 7), (0, .ref (V.1 rMod))]) hx hy dX7_checksum_5 rfl hl (by decide) rfl (fun ls hl => ?_)
  have L_6 : ∀ (n_6 c : Nat), n_6 + c = 2 → ∀ (H : Heap) (locs : List Loc), HH G V rs (M, ckM R c, o) s H locs → ∀ ls : Array Slot, lv_has ls 5 [(3, .int (nI c)), (1, .long (ckN R c)), (0, .ref (V.1 rMod))] → W p l e { frames := 2, cells := 0, slots := 0, locals := 47 } s m [.ref (V.1 rMod)].toArray below meth cd H locs 0 0 (QM G V rs below [.ref (V.1 rMod)].toArray s 0 0 (fun v u => v = some (.long (ckN R 2)) ∧ u = (M, ckM R 2, o)) (fun _ _ => False)) (F0 m 6 ls []) := by
    intro n_6
    induction n_6 with
    | zero =>
      intro c hk_6 H locs h ls hl
      have hz_6 : c = 2 := by omega
      try rw [hz_6] at h
      try rw [hz_6] at hl
      refine lv_iload_n hx hy dX7_checksum_6 rfl (lv_at hl 0 rfl) ?_
      refine lv_iconst (v := (nI 2)) hx hy dX7_checksum_7 (by decide) ?_
      refine n_ge hx hy (by decide) (by decide) (tgt := 64) dX7_checksum_8 (by decide) (fun c_8 => ?_) (fun c_8 => ?_)
      · skip
        refine lv_lload_n hx hy dX7_checksum_64 rfl (lv_at hl 1 rfl) ?_
        exact e_long C h dX7_checksum_65 (⟨rfl, rfl⟩) (by decide) (by decide)
      · skip
        exact absurd c_8 (by omega)
    | succ n_6 ih_6 =>
      intro c hk_6 H locs h ls hl
      have hz_6 : c < 2 := by omega
      refine lv_iload_n hx hy dX7_checksum_6 rfl (lv_at hl 0 rfl) ?_
      refine lv_iconst (v := (nI 2)) hx hy dX7_checksum_7 (by decide) ?_
      refine n_ge hx hy (by omega) (by decide) (tgt := 64) dX7_checksum_8 (by decide) (fun c_8 => ?_) (fun c_8 => ?_)
      · skip
        exact absurd c_8 (by omega)
      · skip
        refine lv_aload_n hx hy dX7_checksum_11 rfl (lv_at hl 2 rfl) ?_
        refine lv_iload_n hx hy dX7_checksum_12 rfl (lv_at hl 0 rfl) ?_
        refine n_go0 C h (n_V (As := [.int (nI c)]) (rest := []) C h X (hr 100 (by decide)) ((cel_hi (by decide)).trans (celF_Mod _)) rfl (c_X7_sums l hr M (ckM R c) o c (by omega) (wrN R c) (hwn c (by omega)).2 (show (ckM R c) 103 c = nI (wrN R c) from ((congrFun (ckM_ne (by decide) (by decide)) _).trans (hwn c (by omega)).1)) (okB_eq (ckM_ne (by decide) (by decide)) (ckM_ne (by decide) (by decide)) (ckM_ne (by decide) (by decide)) (rv.1 c (by omega)).2.2.2.2.1)) (cwV 1 C.2.2.2.2.1 gX7_checksum_X7_sums rfl rfl rfl (by decide +kernel) ⟨Nat.le_of_ble_eq_true rfl, Nat.le_of_ble_eq_true rfl⟩) rfl hl.1 rfl (Nat.le_of_ble_eq_true rfl) dX7_checksum_13 ⟨by decide, by decide⟩) (fun _ _ z => z) (fun v_13 u_13 H locs hpo h => ?_)
        obtain ⟨rfl, rfl⟩ := hpo
        refine lv_ldc2 (v := 31) hx hy C.2.2.2.1 (C.2.2.2.2.1 (.constantLong RX7 199 31) (by decide +kernel)) dX7_checksum_16 ?_
        refine lv_lload_n hx hy dX7_checksum_19 rfl (lv_at hl 1 rfl) ?_
        refine lv_lmul hx hy dX7_checksum_20 ?_
        refine lv_aload_n hx hy dX7_checksum_21 rfl (lv_at hl 2 rfl) ?_
        refine g_f C h (hr 100 (by decide)) (cel_hi (by decide)) celF_Mod rfl in_X7_checksum_X7 31 (by decide) (by decide +kernel) (v := .int ((suM (ckM R c) c (wrN R c)) rMod 31)) rfl dX7_checksum_22 ?_
        refine lv_i2l hx hy dX7_checksum_25 rfl ?_
        refine lv_ladd hx hy dX7_checksum_26 ?_
        refine lv_lstore_n (lv' := [(1, .long ((31 * (ckN R c)) + (((suM (ckM R c) c (wrN R c)) rMod 31).toInt64))), (3, .int (nI c)), (0, .ref (V.1 rMod))]) hx hy dX7_checksum_27 rfl hl (by decide) rfl (fun ls hl => ?_)
        refine lv_iconst (v := (nI 0)) hx hy dX7_checksum_28 (by decide) ?_
        refine lv_istore (lv' := [(4, .int (nI 0)), (1, .long ((31 * (ckN R c)) + (((suM (ckM R c) c (wrN R c)) rMod 31).toInt64))), (3, .int (nI c)), (0, .ref (V.1 rMod))]) hx hy dX7_checksum_29 hl (by decide) rfl (fun ls hl => ?_)
        have L_31 : ∀ (n_31 j : Nat), n_31 + j = 4 → ∀ (H : Heap) (locs : List Loc), HH G V rs (M, suM (ckM R c) c (wrN R c), o) s H locs → ∀ ls : Array Slot, lv_has ls 5 [(4, .int (nI j)), (1, .long (ckL (suM (ckM R c) c (wrN R c)) (31 * ckN R c + ((suM (ckM R c) c (wrN R c)) rMod 31).toInt64) j)), (3, .int (nI c)), (0, .ref (V.1 rMod))] → W p l e { frames := 2, cells := 0, slots := 0, locals := 47 } s m [.ref (V.1 rMod)].toArray below meth cd H locs 0 0 (QM G V rs below [.ref (V.1 rMod)].toArray s 0 0 (fun v u => v = some (.long (ckN R 2)) ∧ u = (M, ckM R 2, o)) (fun _ _ => False)) (F0 m 31 ls []) := by
          intro n_31
          induction n_31 with
          | zero =>
            intro j hk_31 H locs h ls hl
            have hz_31 : j = 4 := by omega
            try rw [hz_31] at h
            try rw [hz_31] at hl
            refine lv_iload hx hy dX7_checksum_31 (lv_at hl 0 rfl) ?_
            refine lv_iconst (v := (nI 4)) hx hy dX7_checksum_33 (by decide) ?_
            refine n_ge hx hy (by decide) (by decide) (tgt := 58) dX7_checksum_34 (by decide) (fun c_34 => ?_) (fun c_34 => ?_)
            · skip
              refine lv_iinc (v := (nI (c + 1))) (lv' := [(3, .int (nI (c + 1))), (4, .int (nI 4)), (1, .long (ckL (suM (ckM R c) c (wrN R c)) (31 * ckN R c + ((suM (ckM R c) c (wrN R c)) rMod 31).toInt64) 4)), (0, .ref (V.1 rMod))]) hx hy dX7_checksum_58 hl (k := 2) rfl (nI_1 _) (by decide) rfl (fun ls hl => ?_)
              refine lv_goto (tgt := 6) hx hy dX7_checksum_61 (by decide) ?_
              exact ih_6 (c + 1) (by omega) _ _ (by rw [show ((M, ckM R (c + 1), o) : wW) = (M, suM (ckM R c) c (wrN R c), o) from rfl]; exact h) _ (by have hl := lv_sub hl [0, 2, 3] (l' := [(3, .int (nI (c + 1))), (1, .long (ckL (suM (ckM R c) c (wrN R c)) (31 * ckN R c + ((suM (ckM R c) c (wrN R c)) rMod 31).toInt64) 4)), (0, .ref (V.1 rMod))]) rfl; rw [show (.int (nI (c + 1)) : Value) = .int (nI (c + 1)) from rfl] at hl; rw [show (.long (ckL (suM (ckM R c) c (wrN R c)) (31 * ckN R c + ((suM (ckM R c) c (wrN R c)) rMod 31).toInt64) 4) : Value) = .long (ckN R (c + 1)) from rfl] at hl; exact hl)
            · skip
              exact absurd c_34 (by omega)
          | succ n_31 ih_31 =>
            intro j hk_31 H locs h ls hl
            have hz_31 : j < 4 := by omega
            refine lv_iload hx hy dX7_checksum_31 (lv_at hl 0 rfl) ?_
            refine lv_iconst (v := (nI 4)) hx hy dX7_checksum_33 (by decide) ?_
            refine n_ge hx hy (by omega) (by decide) (tgt := 58) dX7_checksum_34 (by decide) (fun c_34 => ?_) (fun c_34 => ?_)
            · skip
              exact absurd c_34 (by omega)
            · skip
              refine lv_ldc2 (v := 31) hx hy C.2.2.2.1 (C.2.2.2.2.1 (.constantLong RX7 199 31) (by decide +kernel)) dX7_checksum_37 ?_
              refine lv_lload_n hx hy dX7_checksum_40 rfl (lv_at hl 1 rfl) ?_
              refine lv_lmul hx hy dX7_checksum_41 ?_
              refine lv_aload_n hx hy dX7_checksum_42 rfl (lv_at hl 3 rfl) ?_
              refine g_f C h (hr 100 (by decide)) (cel_hi (by decide)) celF_Mod rfl in_X7_checksum_X7 34 (by decide) (by decide +kernel) (v := .ref (V.1 135)) rfl dX7_checksum_43 ?_
              refine lv_iload hx hy dX7_checksum_46 (lv_at hl 0 rfl) ?_
              refine g_i C h (hr 135 (by decide)) (n := 4) (k := j) (cel_hi (by decide)) (fun _ => rfl) (by omega) (by decide) (v := ((suM (ckM R c) c (wrN R c)) 135 j)) rfl dX7_checksum_48 ?_
              refine lv_i2l hx hy dX7_checksum_49 rfl ?_
              refine lv_ladd hx hy dX7_checksum_50 ?_
              refine lv_lstore_n (lv' := [(1, .long ((31 * (ckL (suM (ckM R c) c (wrN R c)) (31 * ckN R c + ((suM (ckM R c) c (wrN R c)) rMod 31).toInt64) j)) + (((suM (ckM R c) c (wrN R c)) 135 j).toInt64))), (4, .int (nI j)), (3, .int (nI c)), (0, .ref (V.1 rMod))]) hx hy dX7_checksum_51 rfl hl (by decide) rfl (fun ls hl => ?_)
              refine lv_iinc (v := (nI (j + 1))) (lv' := [(4, .int (nI (j + 1))), (1, .long ((31 * (ckL (suM (ckM R c) c (wrN R c)) (31 * ckN R c + ((suM (ckM R c) c (wrN R c)) rMod 31).toInt64) j)) + (((suM (ckM R c) c (wrN R c)) 135 j).toInt64))), (3, .int (nI c)), (0, .ref (V.1 rMod))]) hx hy dX7_checksum_52 hl (k := 1) rfl (nI_1 _) (by decide) rfl (fun ls hl => ?_)
              refine lv_goto (tgt := 31) hx hy dX7_checksum_55 (by decide) ?_
              exact ih_31 (j + 1) (by omega) _ _ h _ (by have hl := lv_sub hl [0, 1, 2, 3] (l' := [(4, .int (nI (j + 1))), (1, .long ((31 * (ckL (suM (ckM R c) c (wrN R c)) (31 * ckN R c + ((suM (ckM R c) c (wrN R c)) rMod 31).toInt64) j)) + (((suM (ckM R c) c (wrN R c)) 135 j).toInt64))), (3, .int (nI c)), (0, .ref (V.1 rMod))]) rfl; rw [show (.int (nI (j + 1)) : Value) = .int (nI (j + 1)) from rfl] at hl; rw [show (.long ((31 * (ckL (suM (ckM R c) c (wrN R c)) (31 * ckN R c + ((suM (ckM R c) c (wrN R c)) rMod 31).toInt64) j)) + (((suM (ckM R c) c (wrN R c)) 135 j).toInt64)) : Value) = .long (ckL (suM (ckM R c) c (wrN R c)) (31 * ckN R c + ((suM (ckM R c) c (wrN R c)) rMod 31).toInt64) (j + 1)) from rfl] at hl; exact hl)
        exact L_31 (4) 0 (by omega) _ _ h _ (by have hl := lv_sub hl [0, 1, 2, 3] (l' := [(4, .int (nI 0)), (1, .long ((31 * (ckN R c)) + (((suM (ckM R c) c (wrN R c)) rMod 31).toInt64))), (3, .int (nI c)), (0, .ref (V.1 rMod))]) rfl; rw [show (.long ((31 * (ckN R c)) + (((suM (ckM R c) c (wrN R c)) rMod 31).toInt64)) : Value) = .long (ckL (suM (ckM R c) c (wrN R c)) (31 * ckN R c + ((suM (ckM R c) c (wrN R c)) rMod 31).toInt64) 0) from rfl] at hl; exact hl)
  exact L_6 (2) 0 (by omega) _ _ (by rw [show (M, ckM R 0, o) = (M, R, o) from rfl]; exact h) _ (by have hl := lv_sub hl [0, 1, 2] (l' := [(3, .int (nI 0)), (1, .long 7), (0, .ref (V.1 rMod))]) rfl; rw [show (.long 7 : Value) = .long (ckN R 0) from rfl] at hl; exact hl)

set_option maxRecDepth 20000 in
theorem in_X7_upShare_X7 : ∀ x ∈ wsX70, x ∈ wsX7_upShare := by decide +kernel
set_option maxRecDepth 100000 in
set_option maxHeartbeats 4000000 in
/-- the reference: upShare -/
theorem c_X7_upShare (l : Launch) {G : va_G} {V : wV} {rs : List Nat} (hr : bR rs) (M R : wM) (o : wO) (rv : RV R) (ca : Int32) (hnn : ∀ c, c < 2 → vf_n32 (FP.fdiv (FP.i2f (onI (rcU (T0 R) c (mnN R c)))) (FP.i2f (nI (mnN R c))))) : CT l G V rs yX7_upShare wsX7_upShare 1 24 0 0 [.ref (V.1 rMod), .int ca] (M, R, o) (fun v u => ∃ r, v = some (.float r) ∧ (kCR ca = 0 → r = FP.fdiv (FP.i2f (onI (rcU (T0 R) (cI ca) (mnN R (cI ca))))) (FP.i2f (nI (mnN R (cI ca))))) ∧ u = (M, thr R (kCR ca), o)) (fun _ _ => False) := by
  refine ct_of (cc := cX7_upShare) (maxL := 2) (ret := (some .float)) (by decide) rfl (Nat.le_of_ble_eq_true rfl) ?_
  intro p e s m below meth cd ls C h X hT hl
  have hx := C.1
  have hy := C.2.1
  have hl : lv_has ls 2 [(0, .ref (V.1 rMod)), (1, .int ca)] := hl
  have hmn : ∀ c, c < 2 → R 101 c = nI (mnN R c) ∧ mnN R c ≤ 7 := fun c hc => ⟨(rv.1 c hc).1, (rv.1 c hc).2.1⟩
  have hwn : ∀ c, c < 2 → R 103 c = nI (wrN R c) ∧ wrN R c ≤ 60 := fun c hc => ⟨(rv.1 c hc).2.2.1, (rv.1 c hc).2.2.2.1⟩
  have hsi9 := rv.2.1.2
  have htr9 := rv.2.2.1.2
  refine lv_aload_n hx hy dX7_upShare_0 rfl (lv_at hl 0 rfl) ?_
  refine lv_iload_n hx hy dX7_upShare_1 rfl (lv_at hl 1 rfl) ?_
  refine n_go0 C h (n_S (As := [.int ca]) (rest := [.ref (V.1 rMod)]) C h X (c_X7_isCastle l M R o ca) (va_cwS 1 C.2.2.2.2.1 gX7_upShare_X7_isCastle rfl rfl rfl (by decide +kernel) ⟨Nat.le_of_ble_eq_true rfl, Nat.le_of_ble_eq_true rfl⟩) rfl hl.1 rfl (Nat.le_of_ble_eq_true rfl) dX7_upShare_2 ⟨by decide, by decide⟩) (fun _ _ z => z) (fun v_2 u_2 H locs hpo h => ?_)
  obtain ⟨rfl, rfl⟩ := hpo
  refine lv_iconst (v := (nI 1)) hx hy dX7_upShare_5 (by decide) ?_
  refine n_go0 C h (n_V (As := [.int (b2i (vIn ca 2)), .int (nI 1)]) (rest := []) C h X (hr 100 (by decide)) ((cel_hi (by decide)).trans (celF_Mod _)) rfl (c_X7_no l hr M R o (vIn ca 2) (nI 1)) (cwV 2 C.2.2.2.2.1 gX7_upShare_X7_no rfl rfl rfl (by decide +kernel) ⟨Nat.le_of_ble_eq_true rfl, Nat.le_of_ble_eq_true rfl⟩) rfl hl.1 rfl (Nat.le_of_ble_eq_true rfl) dX7_upShare_6 ⟨by decide, by decide⟩) (fun _ _ z => z) (fun v_6 u_6 H locs hpo h => ?_)
  obtain ⟨rfl, rfl⟩ := hpo
  refine b_eq hx hy (tgt := 16) dX7_upShare_9 (by decide) (fun c_9 => ?_) (fun c_9 => ?_)
  · skip
    rw [noV_t c_9] at h
    have hno_9 : vIn ca 2 = true := not_ff c_9
    obtain ⟨c, hc, rfl⟩ := vIn_ok' hno_9 (by decide)
    have hv_c : vIn (nI c) 2 = true := vIn_nI hc (by decide)
    have hi_c : cI (nI c) = c := nI_clamp (by omega)
    have hmn9 := (hmn c hc).2
    have hwn9 := (hwn c hc).2
    have hB := (rv.1 c hc).2.2.2.2.1
    have hEr := (rv.1 c hc).2.2.2.2.2.1
    have hU := (rv.1 c hc).2.2.2.2.2.2
    refine lv_aload_n hx hy dX7_upShare_16 rfl (lv_at hl 0 rfl) ?_
    refine lv_iload_n hx hy dX7_upShare_17 rfl (lv_at hl 1 rfl) ?_
    refine lv_iconst (v := (-1)) hx hy dX7_upShare_18 (by decide) ?_
    refine n_go0 C h (n_V (As := [.int (nI c), .int (-1)]) (rest := []) C h X (hr 100 (by decide)) ((cel_hi (by decide)).trans (celF_Mod _)) rfl (c_X7_reachU l hr M (wr R rMod 19 (nI 0)) o c hc (mnN R c) hmn9 (show (wr R rMod 19 (nI 0)) 101 c = nI (mnN R c) from ((wr_othr (by decide)).trans (hmn c hc).1))) (cwV 2 C.2.2.2.2.1 gX7_upShare_X7_reach rfl rfl rfl (by decide +kernel) ⟨Nat.le_of_ble_eq_true rfl, Nat.le_of_ble_eq_true rfl⟩) rfl hl.1 rfl (Nat.le_of_ble_eq_true rfl) dX7_upShare_19 ⟨by decide, by decide⟩) (fun _ _ z => z) (fun v_19 u_19 H locs hpo h => ?_)
    obtain ⟨rfl, rfl⟩ := hpo
    refine n_go0 C h (n_S (As := [.int (rcU (wr R rMod 19 (nI 0)) c (mnN R c))]) (rest := []) C h X (c_X7_ones l M (wr R rMod 19 (nI 0)) o (rcU (wr R rMod 19 (nI 0)) c (mnN R c))) (va_cwS 1 C.2.2.2.2.1 gX7_upShare_X7_ones rfl rfl rfl (by decide +kernel) ⟨Nat.le_of_ble_eq_true rfl, Nat.le_of_ble_eq_true rfl⟩) rfl hl.1 rfl (Nat.le_of_ble_eq_true rfl) dX7_upShare_22 ⟨by decide, by decide⟩) (fun _ _ z => z) (fun v_22 u_22 H locs hpo h => ?_)
    obtain ⟨rfl, rfl⟩ := hpo
    refine lv_i2f hx hy dX7_upShare_25 ?_
    refine lv_aload_n hx hy dX7_upShare_26 rfl (lv_at hl 0 rfl) ?_
    refine g_f C h (hr 100 (by decide)) (cel_hi (by decide)) celF_Mod rfl in_X7_upShare_X7 0 (by decide) (by decide +kernel) (v := .ref (V.1 101)) rfl dX7_upShare_27 ?_
    refine lv_iload_n hx hy dX7_upShare_30 rfl (lv_at hl 1 rfl) ?_
    refine g_i C h (hr 101 (by decide)) (n := 2) (k := c) (cel_hi (by decide)) (fun _ => rfl) (by omega) (by decide) (v := (nI (mnN R c))) (show (wr R rMod 19 (nI 0)) 101 c = (nI (mnN R c)) from ((wr_othr (by decide)).trans (hmn c hc).1)) dX7_upShare_31 ?_
    refine lv_i2f hx hy dX7_upShare_32 ?_
    refine lv_fdiv hx hy dX7_upShare_33 (hnn c hc) ?_
    exact e_float C h dX7_upShare_34 (⟨_, rfl, by simp [kCR, hno_9, hi_c, hv_c, c_9], by simp [kCR, thr, hno_9, hi_c, hv_c, c_9]⟩) (by decide) (by decide)
  · skip
    rw [noV_f c_9] at h
    have hno_9 : vIn ca 2 = false := not_tt c_9
    refine lv_fconst0 hx hy dX7_upShare_12 ?_
    refine lv_goto (tgt := 34) hx hy dX7_upShare_13 (by decide) ?_
    exact e_float C h dX7_upShare_34 (⟨_, rfl, by simp [kCR, hno_9, c_9], by simp [kCR, thr, hno_9, c_9]⟩) (by decide) (by decide)

set_option maxRecDepth 20000 in
theorem in_X7_meanEntries_X7 : ∀ x ∈ wsX70, x ∈ wsX7_meanEntries := by decide +kernel
set_option maxRecDepth 100000 in
set_option maxHeartbeats 4000000 in
/-- the reference: meanEntries -/
theorem c_X7_meanEntries (l : Launch) {G : va_G} {V : wV} {rs : List Nat} (hr : bR rs) (M R : wM) (o : wO) (rv : RV R) (ca : Int32) (hnn : ∀ c, c < 2 → vf_n64 (FP.ddiv (FP.i2d (meR (T0 R) c (wrN R c))) (FP.i2d (nI (mnN R c))))) : CT l G V rs yX7_meanEntries wsX7_meanEntries 1 22 0 0 [.ref (V.1 rMod), .int ca] (M, R, o) (fun v u => ∃ r, v = some (.double r) ∧ (kCR ca = 0 → r = FP.ddiv (FP.i2d (meR (T0 R) (cI ca) (wrN R (cI ca)))) (FP.i2d (nI (mnN R (cI ca))))) ∧ u = (M, thr R (kCR ca), o)) (fun _ _ => False) := by
  refine ct_of (cc := cX7_meanEntries) (maxL := 4) (ret := (some .double)) (by decide) rfl (Nat.le_of_ble_eq_true rfl) ?_
  intro p e s m below meth cd ls C h X hT hl
  have hx := C.1
  have hy := C.2.1
  have hl : lv_has ls 4 [(0, .ref (V.1 rMod)), (1, .int ca)] := hl
  have hmn : ∀ c, c < 2 → R 101 c = nI (mnN R c) ∧ mnN R c ≤ 7 := fun c hc => ⟨(rv.1 c hc).1, (rv.1 c hc).2.1⟩
  have hwn : ∀ c, c < 2 → R 103 c = nI (wrN R c) ∧ wrN R c ≤ 60 := fun c hc => ⟨(rv.1 c hc).2.2.1, (rv.1 c hc).2.2.2.1⟩
  have hsi9 := rv.2.1.2
  have htr9 := rv.2.2.1.2
  refine lv_aload_n hx hy dX7_meanEntries_0 rfl (lv_at hl 0 rfl) ?_
  refine lv_iload_n hx hy dX7_meanEntries_1 rfl (lv_at hl 1 rfl) ?_
  refine n_go0 C h (n_S (As := [.int ca]) (rest := [.ref (V.1 rMod)]) C h X (c_X7_isCastle l M R o ca) (va_cwS 1 C.2.2.2.2.1 gX7_meanEntries_X7_isCastle rfl rfl rfl (by decide +kernel) ⟨Nat.le_of_ble_eq_true rfl, Nat.le_of_ble_eq_true rfl⟩) rfl hl.1 rfl (Nat.le_of_ble_eq_true rfl) dX7_meanEntries_2 ⟨by decide, by decide⟩) (fun _ _ z => z) (fun v_2 u_2 H locs hpo h => ?_)
  obtain ⟨rfl, rfl⟩ := hpo
  refine lv_iconst (v := (nI 1)) hx hy dX7_meanEntries_5 (by decide) ?_
  refine n_go0 C h (n_V (As := [.int (b2i (vIn ca 2)), .int (nI 1)]) (rest := []) C h X (hr 100 (by decide)) ((cel_hi (by decide)).trans (celF_Mod _)) rfl (c_X7_no l hr M R o (vIn ca 2) (nI 1)) (cwV 2 C.2.2.2.2.1 gX7_meanEntries_X7_no rfl rfl rfl (by decide +kernel) ⟨Nat.le_of_ble_eq_true rfl, Nat.le_of_ble_eq_true rfl⟩) rfl hl.1 rfl (Nat.le_of_ble_eq_true rfl) dX7_meanEntries_6 ⟨by decide, by decide⟩) (fun _ _ z => z) (fun v_6 u_6 H locs hpo h => ?_)
  obtain ⟨rfl, rfl⟩ := hpo
  refine b_eq hx hy (tgt := 14) dX7_meanEntries_9 (by decide) (fun c_9 => ?_) (fun c_9 => ?_)
  · skip
    rw [noV_t c_9] at h
    have hno_9 : vIn ca 2 = true := not_ff c_9
    obtain ⟨c, hc, rfl⟩ := vIn_ok' hno_9 (by decide)
    have hv_c : vIn (nI c) 2 = true := vIn_nI hc (by decide)
    have hi_c : cI (nI c) = c := nI_clamp (by omega)
    have hmn9 := (hmn c hc).2
    have hwn9 := (hwn c hc).2
    have hB := (rv.1 c hc).2.2.2.2.1
    have hEr := (rv.1 c hc).2.2.2.2.2.1
    have hU := (rv.1 c hc).2.2.2.2.2.2
    refine lv_iconst (v := (nI 0)) hx hy dX7_meanEntries_14 (by decide) ?_
    refine lv_istore_n (lv' := [(2, .int (nI 0)), (0, .ref (V.1 rMod)), (1, .int (nI c))]) hx hy dX7_meanEntries_15 rfl hl (by decide) rfl (fun ls hl => ?_)
    refine lv_iconst (v := (nI 0)) hx hy dX7_meanEntries_16 (by decide) ?_
    refine lv_istore_n (lv' := [(3, .int (nI 0)), (2, .int (nI 0)), (0, .ref (V.1 rMod)), (1, .int (nI c))]) hx hy dX7_meanEntries_17 rfl hl (by decide) rfl (fun ls hl => ?_)
    have L_18 : ∀ (n_18 k : Nat), n_18 + k = (wrN R c) → ∀ (H : Heap) (locs : List Loc), HH G V rs (M, wr R rMod 19 (nI 0), o) s H locs → ∀ ls : Array Slot, lv_has ls 4 [(3, .int (nI k)), (2, .int (meR (T0 R) c k)), (0, .ref (V.1 rMod)), (1, .int (nI c))] → W p l e { frames := 1, cells := 0, slots := 0, locals := 22 } s m [.ref (V.1 rMod), .int (nI c)].toArray below meth cd H locs 0 0 (QM G V rs below [.ref (V.1 rMod), .int (nI c)].toArray s 0 0 (fun v u => ∃ r, v = some (.double r) ∧ (kCR (nI c) = 0 → r = FP.ddiv (FP.i2d (meR (T0 R) (cI (nI c)) (wrN R (cI (nI c))))) (FP.i2d (nI (mnN R (cI (nI c)))))) ∧ u = (M, thr R (kCR (nI c)), o)) (fun _ _ => False)) (F0 m 18 ls []) := by
      intro n_18
      induction n_18 with
      | zero =>
        intro k hk_18 H locs h ls hl
        have hz_18 : k = (wrN R c) := by omega
        try rw [hz_18] at h
        try rw [hz_18] at hl
        refine lv_iload_n hx hy dX7_meanEntries_18 rfl (lv_at hl 0 rfl) ?_
        refine lv_aload_n hx hy dX7_meanEntries_19 rfl (lv_at hl 2 rfl) ?_
        refine g_f C h (hr 100 (by decide)) (cel_hi (by decide)) celF_Mod rfl in_X7_meanEntries_X7 2 (by decide) (by decide +kernel) (v := .ref (V.1 103)) rfl dX7_meanEntries_20 ?_
        refine lv_iload_n hx hy dX7_meanEntries_23 rfl (lv_at hl 3 rfl) ?_
        refine g_i C h (hr 103 (by decide)) (n := 2) (k := c) (cel_hi (by decide)) (fun _ => rfl) (by omega) (by decide) (v := (nI (wrN R c))) (show (wr R rMod 19 (nI 0)) 103 c = (nI (wrN R c)) from ((wr_othr (by decide)).trans (hwn c hc).1)) dX7_meanEntries_24 ?_
        refine n_ge hx hy (by omega) (by omega) (tgt := 51) dX7_meanEntries_25 (by decide) (fun c_25 => ?_) (fun c_25 => ?_)
        · skip
          refine lv_iload_n hx hy dX7_meanEntries_51 rfl (lv_at hl 1 rfl) ?_
          refine lv_i2d hx hy dX7_meanEntries_52 ?_
          refine lv_aload_n hx hy dX7_meanEntries_53 rfl (lv_at hl 2 rfl) ?_
          refine g_f C h (hr 100 (by decide)) (cel_hi (by decide)) celF_Mod rfl in_X7_meanEntries_X7 0 (by decide) (by decide +kernel) (v := .ref (V.1 101)) rfl dX7_meanEntries_54 ?_
          refine lv_iload_n hx hy dX7_meanEntries_57 rfl (lv_at hl 3 rfl) ?_
          refine g_i C h (hr 101 (by decide)) (n := 2) (k := c) (cel_hi (by decide)) (fun _ => rfl) (by omega) (by decide) (v := (nI (mnN R c))) (show (wr R rMod 19 (nI 0)) 101 c = (nI (mnN R c)) from ((wr_othr (by decide)).trans (hmn c hc).1)) dX7_meanEntries_58 ?_
          refine lv_i2d hx hy dX7_meanEntries_59 ?_
          refine lv_ddiv hx hy dX7_meanEntries_60 (hnn c hc) ?_
          exact e_double C h dX7_meanEntries_61 (⟨_, rfl, by simp [kCR, hno_9, hi_c, hv_c, c_9, eq_true c_25, eq_false (Nat.not_lt.mpr c_25)], by simp [kCR, thr, hno_9, hi_c, hv_c, c_9, eq_true c_25, eq_false (Nat.not_lt.mpr c_25)]⟩) (by decide) (by decide)
        · skip
          exact absurd c_25 (by omega)
      | succ n_18 ih_18 =>
        intro k hk_18 H locs h ls hl
        have hz_18 : k < (wrN R c) := by omega
        refine lv_iload_n hx hy dX7_meanEntries_18 rfl (lv_at hl 0 rfl) ?_
        refine lv_aload_n hx hy dX7_meanEntries_19 rfl (lv_at hl 2 rfl) ?_
        refine g_f C h (hr 100 (by decide)) (cel_hi (by decide)) celF_Mod rfl in_X7_meanEntries_X7 2 (by decide) (by decide +kernel) (v := .ref (V.1 103)) rfl dX7_meanEntries_20 ?_
        refine lv_iload_n hx hy dX7_meanEntries_23 rfl (lv_at hl 3 rfl) ?_
        refine g_i C h (hr 103 (by decide)) (n := 2) (k := c) (cel_hi (by decide)) (fun _ => rfl) (by omega) (by decide) (v := (nI (wrN R c))) (show (wr R rMod 19 (nI 0)) 103 c = (nI (wrN R c)) from ((wr_othr (by decide)).trans (hwn c hc).1)) dX7_meanEntries_24 ?_
        refine n_ge hx hy (by omega) (by omega) (tgt := 51) dX7_meanEntries_25 (by decide) (fun c_25 => ?_) (fun c_25 => ?_)
        · skip
          exact absurd c_25 (by omega)
        · skip
          refine lv_iload_n hx hy dX7_meanEntries_28 rfl (lv_at hl 1 rfl) ?_
          refine lv_aload_n hx hy dX7_meanEntries_29 rfl (lv_at hl 2 rfl) ?_
          refine g_f C h (hr 100 (by decide)) (cel_hi (by decide)) celF_Mod rfl in_X7_meanEntries_X7 14 (by decide) (by decide +kernel) (v := .ref (V.1 115)) rfl dX7_meanEntries_30 ?_
          refine lv_iload_n hx hy dX7_meanEntries_33 rfl (lv_at hl 3 rfl) ?_
          refine lv_bipush (v := (nI 60)) hx hy dX7_meanEntries_34 (by decide) ?_
          refine lv_imul hx hy dX7_meanEntries_36 ?_
          refine lv_topn (pk_mul _ _) ?_
          refine lv_iload_n hx hy dX7_meanEntries_37 rfl (lv_at hl 0 rfl) ?_
          refine lv_iadd hx hy dX7_meanEntries_38 ?_
          refine lv_topn (nI_add _ _) ?_
          refine g_i C h (hr 115 (by decide)) (n := 120) (k := ((c * 60) + k)) (cel_hi (by decide)) (fun _ => rfl) (by omega) (by decide) (v := (R 115 ((c * 60) + k))) (show (wr R rMod 19 (nI 0)) 115 ((c * 60) + k) = (R 115 ((c * 60) + k)) from (wr_othr (by decide))) dX7_meanEntries_39 ?_
          refine n_go0 C h (n_S (As := [.int (R 115 ((c * 60) + k))]) (rest := [.int (meR (T0 R) c k)]) C h X (c_X7_ones l M (wr R rMod 19 (nI 0)) o (R 115 ((c * 60) + k))) (va_cwS 1 C.2.2.2.2.1 gX7_meanEntries_X7_ones rfl rfl rfl (by decide +kernel) ⟨Nat.le_of_ble_eq_true rfl, Nat.le_of_ble_eq_true rfl⟩) rfl hl.1 rfl (Nat.le_of_ble_eq_true rfl) dX7_meanEntries_40 ⟨by decide, by decide⟩) (fun _ _ z => z) (fun v_40 u_40 H locs hpo h => ?_)
          obtain ⟨rfl, rfl⟩ := hpo
          refine lv_iadd hx hy dX7_meanEntries_43 ?_
          refine lv_istore_n (lv' := [(2, .int ((meR (T0 R) c k) + (onI (R 115 ((c * 60) + k))))), (3, .int (nI k)), (0, .ref (V.1 rMod)), (1, .int (nI c))]) hx hy dX7_meanEntries_44 rfl hl (by decide) rfl (fun ls hl => ?_)
          refine lv_iinc (v := (nI (k + 1))) (lv' := [(3, .int (nI (k + 1))), (2, .int ((meR (T0 R) c k) + (onI (R 115 ((c * 60) + k))))), (0, .ref (V.1 rMod)), (1, .int (nI c))]) hx hy dX7_meanEntries_45 hl (k := 1) rfl (nI_1 _) (by decide) rfl (fun ls hl => ?_)
          refine lv_goto (tgt := 18) hx hy dX7_meanEntries_48 (by decide) ?_
          exact ih_18 (k + 1) (by omega) _ _ h _ (by have hl := lv_sub hl [0, 1, 2, 3] (l' := [(3, .int (nI (k + 1))), (2, .int ((meR (T0 R) c k) + (onI (R 115 ((c * 60) + k))))), (0, .ref (V.1 rMod)), (1, .int (nI c))]) rfl; rw [show (.int (nI (k + 1)) : Value) = .int (nI (k + 1)) from rfl] at hl; rw [show (.int ((meR (T0 R) c k) + (onI (R 115 ((c * 60) + k)))) : Value) = .int (meR (T0 R) c (k + 1)) from rfl] at hl; exact hl)
    exact L_18 ((wrN R c)) 0 (by omega) _ _ h _ (by have hl := lv_sub hl [0, 1, 2, 3] (l' := [(3, .int (nI 0)), (2, .int (nI 0)), (0, .ref (V.1 rMod)), (1, .int (nI c))]) rfl; rw [show (.int (nI 0) : Value) = .int (meR (T0 R) c 0) from rfl] at hl; exact hl)
  · skip
    rw [noV_f c_9] at h
    have hno_9 : vIn ca 2 = false := not_tt c_9
    refine lv_dconst0 hx hy dX7_meanEntries_12 ?_
    exact e_double C h dX7_meanEntries_13 (⟨_, rfl, by simp [kCR, hno_9, c_9], by simp [kCR, thr, hno_9, c_9]⟩) (by decide) (by decide)

set_option maxRecDepth 100000 in
set_option maxHeartbeats 4000000 in
/-- the reference: isSound -/
theorem c_X7_isSound (l : Launch) {G : va_G} {V : wV} {rs : List Nat} (hr : bR rs) (M R : wM) (o : wO) : CT l G V rs yX7_isSound wsX7_isSound 0 0 0 0 [.ref (V.1 rMod)] (M, R, o) (fun v u => v = some (.int (nI 1)) ∧ u = (M, R, o)) (fun _ _ => False) := by
  refine ct_of (cc := cX7_isSound) (maxL := 1) (ret := (some .boolean)) (by decide) rfl (Nat.le_of_ble_eq_true rfl) ?_
  intro p e s m below meth cd ls C h X hT hl
  have hx := C.1
  have hy := C.2.1
  have hl : lv_has ls 1 [(0, .ref (V.1 rMod))] := hl
  refine lv_iconst (v := (nI 1)) hx hy dX7_isSound_0 (by decide) ?_
  exact e_int C h (by decide) dX7_isSound_1 (⟨rfl, rfl⟩) (by decide) (by decide)

