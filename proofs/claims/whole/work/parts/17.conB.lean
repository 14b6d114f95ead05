set_option maxRecDepth 20000 in
theorem in_X2_freeGold_X2 : ∀ x ∈ wsX20, x ∈ wsX2_freeGold := by decide +kernel
set_option maxRecDepth 100000 in
set_option maxHeartbeats 4000000 in
/-- Ledger.freeGold -/
theorem c_X2_freeGold (l : Launch) {G : va_G} {V : wV} {rs : List Nat} (c : Nat) (hc : c < 2) (hb : bC c rs) (M R : wM) (o : wO) : CT l G V rs yX2_freeGold wsX2_freeGold 0 0 0 0 [.ref (V.1 (rLed c))] (M, R, o) (fun v u => v = some (.int (lFree M c)) ∧ u = (M, R, o)) (fun _ _ => False) := by
  refine ct_of (cc := cX2_freeGold) (maxL := 1) (ret := (some .int)) (by decide) rfl (Nat.le_of_ble_eq_true rfl) ?_
  intro p e s m below meth cd ls C h X hT hl
  have hx := C.1
  have hy := C.2.1
  have hl : lv_has ls 1 [(0, .ref (V.1 (rLed c)))] := hl
  refine lv_aload_n hx hy dX2_freeGold_0 rfl (lv_at hl 0 rfl) ?_
  refine g_f C h (hb 23 (by decide)) (lo_Led hc) (celF_Led hc) rfl in_X2_freeGold_X2 0 (by decide) (by decide +kernel) (v := .int (M (rLed c) 0)) rfl dX2_freeGold_1 ?_
  refine lv_aload_n hx hy dX2_freeGold_4 rfl (lv_at hl 0 rfl) ?_
  refine g_f C h (hb 23 (by decide)) (lo_Led hc) (celF_Led hc) rfl in_X2_freeGold_X2 1 (by decide) (by decide +kernel) (v := .int (M (rLed c) 1)) rfl dX2_freeGold_5 ?_
  refine lv_isub hx hy dX2_freeGold_8 ?_
  exact e_int C h rfl dX2_freeGold_9 (⟨rfl, rfl⟩) (by decide) (by decide)

set_option maxRecDepth 20000 in
theorem in_X2_tellOrder_X2 : ∀ x ∈ wsX20, x ∈ wsX2_tellOrder := by decide +kernel
set_option maxRecDepth 100000 in
set_option maxHeartbeats 4000000 in
/-- Ledger.tellOrder -/
theorem c_X2_tellOrder (l : Launch) {G : va_G} {V : wV} {rs : List Nat} (c : Nat) (hc : c < 2) (hb : bC c rs) (M R : wM) (o : wO) (le am : Int32) (lo : Nat) (hlo : lo < 4) : CT l G V rs yX2_tellOrder wsX2_tellOrder 1 20 0 0 [.ref (V.1 (rLed c)), .int le, .int am, .int (nI lo)] (M, R, o) (fun v u => v = none ∧ u = (tOrd M c le am lo, R, o)) (fun _ _ => False) := by
  refine ct_of (cc := cX2_tellOrder) (maxL := 4) (ret := none) (by decide) rfl (Nat.le_of_ble_eq_true rfl) ?_
  intro p e s m below meth cd ls C h X hT hl
  have hx := C.1
  have hy := C.2.1
  have hl : lv_has ls 4 [(0, .ref (V.1 (rLed c))), (1, .int le), (2, .int am), (3, .int (nI lo))] := hl
  refine lv_iload_n hx hy dX2_tellOrder_0 rfl (lv_at hl 1 rfl) ?_
  refine lv_bipush (v := (nI 105)) hx hy dX2_tellOrder_1 (by decide) ?_
  refine i_ne hx hy (tgt := 39) dX2_tellOrder_3 (by decide) (fun c_3 => ?_) (fun c_3 => ?_)
  · skip
    refine lv_aload_n hx hy dX2_tellOrder_39 rfl (lv_at hl 0 rfl) ?_
    refine n_go0 C h (n_V (As := []) (rest := []) C h X (hb 23 (by decide)) ((lo_Led hc).trans ((celF_Led hc) _)) rfl (c_X2_freeGold l c hc hb M R o ) (cwV 0 C.2.2.2.2.1 gX2_tellOrder_X2_freeGold rfl rfl rfl (by decide +kernel) ⟨Nat.le_of_ble_eq_true rfl, Nat.le_of_ble_eq_true rfl⟩) rfl hl.1 rfl (Nat.le_of_ble_eq_true rfl) dX2_tellOrder_40 ⟨by decide, by decide⟩) (fun _ _ z => z) (fun v_40 u_40 H locs hpo h => ?_)
    obtain ⟨rfl, rfl⟩ := hpo
    refine lv_iload_n hx hy dX2_tellOrder_43 rfl (lv_at hl 2 rfl) ?_
    refine i_lt hx hy (tgt := 67) dX2_tellOrder_44 (by decide) (fun c_44 => ?_) (fun c_44 => ?_)
    · skip
      exact e_void C h dX2_tellOrder_67 (by first | contradiction | exact ⟨rfl, by simp [tOrd, eq_false c_3, eq_true c_44, eq_false (Int32.not_le.mpr c_44)]⟩) (by decide) (by decide)
    · skip
      refine lv_aload_n hx hy dX2_tellOrder_47 rfl (lv_at hl 0 rfl) ?_
      refine lv_dup hx hy dX2_tellOrder_48 rfl ?_
      refine g_f C h (hb 23 (by decide)) (lo_Led hc) (celF_Led hc) rfl in_X2_tellOrder_X2 0 (by decide) (by decide +kernel) (v := .int (M (rLed c) 0)) rfl dX2_tellOrder_49 ?_
      refine lv_iload_n hx hy dX2_tellOrder_52 rfl (lv_at hl 2 rfl) ?_
      refine lv_isub hx hy dX2_tellOrder_53 ?_
      refine p_f C h (hb 23 (by decide)) (lt_Led hc) (celF_Led hc) rfl in_X2_tellOrder_X2 tyX2_ok nmX2 0 (by decide) (by decide +kernel) rfl (v := .int ((M (rLed c) 0) - am)) (x := ((M (rLed c) 0) - am)) rfl rfl (fun _ => Nat.le_of_ble_eq_true rfl) (fun _ => rfl) dX2_tellOrder_54 (fun H locs h => ?_)
      refine lv_aload_n hx hy dX2_tellOrder_57 rfl (lv_at hl 0 rfl) ?_
      refine g_f C h (hb 23 (by decide)) (lo_Led hc) (celF_Led hc) rfl in_X2_tellOrder_X2 2 (by decide) (by decide +kernel) (v := .ref (V.1 (rPu c))) rfl dX2_tellOrder_58 ?_
      refine lv_iload_n hx hy dX2_tellOrder_61 rfl (lv_at hl 3 rfl) ?_
      refine lv_dup2_11 hx hy dX2_tellOrder_62 rfl rfl ?_
      refine g_i C h (hb 24 (by decide)) (n := 4) (k := lo) (lo_Pu hc) (celF_Pu hc) (by omega) (by decide) (v := (M (rPu c) lo)) (show (wr M (rLed c) 0 ((M (rLed c) 0) - am)) (rPu c) lo = (M (rPu c) lo) from (wr_othr (by simp only [rLed, rPu]; omega))) dX2_tellOrder_63 ?_
      refine lv_iload_n hx hy dX2_tellOrder_64 rfl (lv_at hl 2 rfl) ?_
      refine lv_iadd hx hy dX2_tellOrder_65 ?_
      refine s_i C h (hb 24 (by decide)) (lt_Pu hc) (n := 4) (k := lo) (celF_Pu hc) (by omega) (by decide) (x := ((M (rPu c) lo) + am)) dX2_tellOrder_66 (fun H locs h => ?_)
      exact e_void C h dX2_tellOrder_67 (by first | contradiction | exact ⟨rfl, by simp [tOrd, eq_false c_3, eq_true c_44, eq_false (Int32.not_lt.mpr c_44)]⟩) (by decide) (by decide)
  · skip
    refine lv_aload_n hx hy dX2_tellOrder_6 rfl (lv_at hl 0 rfl) ?_
    refine g_f C h (hb 23 (by decide)) (lo_Led hc) (celF_Led hc) rfl in_X2_tellOrder_X2 2 (by decide) (by decide +kernel) (v := .ref (V.1 (rPu c))) rfl dX2_tellOrder_7 ?_
    refine lv_iload_n hx hy dX2_tellOrder_10 rfl (lv_at hl 3 rfl) ?_
    refine g_i C h (hb 24 (by decide)) (n := 4) (k := lo) (lo_Pu hc) (celF_Pu hc) (by omega) (by decide) (v := (M (rPu c) lo)) rfl dX2_tellOrder_11 ?_
    refine lv_iload_n hx hy dX2_tellOrder_12 rfl (lv_at hl 2 rfl) ?_
    refine i_lt hx hy (tgt := 67) dX2_tellOrder_13 (by decide) (fun c_13 => ?_) (fun c_13 => ?_)
    · skip
      exact e_void C h dX2_tellOrder_67 (by first | contradiction | exact ⟨rfl, by simp [tOrd, eq_true c_3, eq_true c_13, eq_false (Int32.not_le.mpr c_13)]⟩) (by decide) (by decide)
    · skip
      refine lv_aload_n hx hy dX2_tellOrder_16 rfl (lv_at hl 0 rfl) ?_
      refine g_f C h (hb 23 (by decide)) (lo_Led hc) (celF_Led hc) rfl in_X2_tellOrder_X2 2 (by decide) (by decide +kernel) (v := .ref (V.1 (rPu c))) rfl dX2_tellOrder_17 ?_
      refine lv_iload_n hx hy dX2_tellOrder_20 rfl (lv_at hl 3 rfl) ?_
      refine lv_dup2_11 hx hy dX2_tellOrder_21 rfl rfl ?_
      refine g_i C h (hb 24 (by decide)) (n := 4) (k := lo) (lo_Pu hc) (celF_Pu hc) (by omega) (by decide) (v := (M (rPu c) lo)) rfl dX2_tellOrder_22 ?_
      refine lv_iload_n hx hy dX2_tellOrder_23 rfl (lv_at hl 2 rfl) ?_
      refine lv_isub hx hy dX2_tellOrder_24 ?_
      refine s_i C h (hb 24 (by decide)) (lt_Pu hc) (n := 4) (k := lo) (celF_Pu hc) (by omega) (by decide) (x := ((M (rPu c) lo) - am)) dX2_tellOrder_25 (fun H locs h => ?_)
      refine lv_aload_n hx hy dX2_tellOrder_26 rfl (lv_at hl 0 rfl) ?_
      refine lv_dup hx hy dX2_tellOrder_27 rfl ?_
      refine g_f C h (hb 23 (by decide)) (lo_Led hc) (celF_Led hc) rfl in_X2_tellOrder_X2 0 (by decide) (by decide +kernel) (v := .int (M (rLed c) 0)) (congrArg (fun z => some (Value.int z)) (show (wr M (rPu c) lo ((M (rPu c) lo) - am)) (rLed c) 0 = (M (rLed c) 0) from (wr_othr (by simp only [rLed, rPu]; omega)))) dX2_tellOrder_28 ?_
      refine lv_iload_n hx hy dX2_tellOrder_31 rfl (lv_at hl 2 rfl) ?_
      refine lv_iadd hx hy dX2_tellOrder_32 ?_
      refine p_f C h (hb 23 (by decide)) (lt_Led hc) (celF_Led hc) rfl in_X2_tellOrder_X2 tyX2_ok nmX2 0 (by decide) (by decide +kernel) rfl (v := .int ((M (rLed c) 0) + am)) (x := ((M (rLed c) 0) + am)) rfl rfl (fun _ => Nat.le_of_ble_eq_true rfl) (fun _ => rfl) dX2_tellOrder_33 (fun H locs h => ?_)
      refine lv_goto (tgt := 67) hx hy dX2_tellOrder_36 (by decide) ?_
      exact e_void C h dX2_tellOrder_67 (by first | contradiction | exact ⟨rfl, by simp [tOrd, eq_true c_3, eq_true c_13, eq_false (Int32.not_lt.mpr c_13)]⟩) (by decide) (by decide)

set_option maxRecDepth 20000 in
theorem in_X2_tellTruce_X2 : ∀ x ∈ wsX20, x ∈ wsX2_tellTruce := by decide +kernel
set_option maxRecDepth 100000 in
set_option maxHeartbeats 4000000 in
/-- Ledger.tellTruce -/
theorem c_X2_tellTruce (l : Launch) {G : va_G} {V : wV} {rs : List Nat} (c : Nat) (hc : c < 2) (hb : bC c rs) (M R : wM) (o : wO) (le am fh : Int32) : CT l G V rs yX2_tellTruce wsX2_tellTruce 0 0 0 0 [.ref (V.1 (rLed c)), .int le, .int am, .int fh] (M, R, o) (fun v u => v = none ∧ u = (tTru M c le am fh, R, o)) (fun _ _ => False) := by
  refine ct_of (cc := cX2_tellTruce) (maxL := 4) (ret := none) (by decide) rfl (Nat.le_of_ble_eq_true rfl) ?_
  intro p e s m below meth cd ls C h X hT hl
  have hx := C.1
  have hy := C.2.1
  have hl : lv_has ls 4 [(0, .ref (V.1 (rLed c))), (1, .int le), (2, .int am), (3, .int fh)] := hl
  refine lv_iload_n hx hy dX2_tellTruce_0 rfl (lv_at hl 1 rfl) ?_
  refine lv_bipush (v := (nI 100)) hx hy dX2_tellTruce_1 (by decide) ?_
  refine i_ne hx hy (tgt := 25) dX2_tellTruce_3 (by decide) (fun c_3 => ?_) (fun c_3 => ?_)
  · skip
    refine lv_iload_n hx hy dX2_tellTruce_25 rfl (lv_at hl 3 rfl) ?_
    refine z_eq hx hy (tgt := 48) dX2_tellTruce_26 (by decide) (fun c_26 => ?_) (fun c_26 => ?_)
    · skip
      refine lv_iload_n hx hy dX2_tellTruce_48 rfl (lv_at hl 3 rfl) ?_
      refine z_eq hx hy (tgt := 74) dX2_tellTruce_49 (by decide) (fun c_49 => ?_) (fun c_49 => ?_)
      · skip
        exact e_void C h dX2_tellTruce_74 (by first | contradiction | exact ⟨rfl, by simp [tTru, tT1, eq_false c_3, eq_true c_26, eq_true c_49]⟩) (by decide) (by decide)
      · skip
        refine lv_iload_n hx hy dX2_tellTruce_52 rfl (lv_at hl 1 rfl) ?_
        refine lv_bipush (v := (nI 100)) hx hy dX2_tellTruce_53 (by decide) ?_
        refine i_eq hx hy (tgt := 64) dX2_tellTruce_55 (by decide) (fun c_55 => ?_) (fun c_55 => ?_)
        · skip
          refine lv_aload_n hx hy dX2_tellTruce_64 rfl (lv_at hl 0 rfl) ?_
          refine lv_dup hx hy dX2_tellTruce_65 rfl ?_
          refine g_f C h (hb 23 (by decide)) (lo_Led hc) (celF_Led hc) rfl in_X2_tellTruce_X2 1 (by decide) (by decide +kernel) (v := .int (M (rLed c) 1)) rfl dX2_tellTruce_66 ?_
          refine lv_iload_n hx hy dX2_tellTruce_69 rfl (lv_at hl 2 rfl) ?_
          refine lv_isub hx hy dX2_tellTruce_70 ?_
          refine p_f C h (hb 23 (by decide)) (lt_Led hc) (celF_Led hc) rfl in_X2_tellTruce_X2 tyX2_ok nmX2 1 (by decide) (by decide +kernel) rfl (v := .int ((M (rLed c) 1) - am)) (x := ((M (rLed c) 1) - am)) rfl rfl (fun _ => Nat.le_of_ble_eq_true rfl) (fun _ => rfl) dX2_tellTruce_71 (fun H locs h => ?_)
          exact e_void C h dX2_tellTruce_74 (by first | contradiction | exact ⟨rfl, by simp [tTru, tT1, eq_false c_3, eq_true c_26, eq_false c_49, eq_true c_55]⟩) (by decide) (by decide)
        · skip
          refine lv_iload_n hx hy dX2_tellTruce_58 rfl (lv_at hl 1 rfl) ?_
          refine lv_bipush (v := (nI 97)) hx hy dX2_tellTruce_59 (by decide) ?_
          refine i_ne hx hy (tgt := 74) dX2_tellTruce_61 (by decide) (fun c_61 => ?_) (fun c_61 => ?_)
          · skip
            exact e_void C h dX2_tellTruce_74 (by first | contradiction | exact ⟨rfl, by simp [tTru, tT1, eq_false c_3, eq_true c_26, eq_false c_49, eq_false c_55, eq_false c_61]⟩) (by decide) (by decide)
          · skip
            refine lv_aload_n hx hy dX2_tellTruce_64 rfl (lv_at hl 0 rfl) ?_
            refine lv_dup hx hy dX2_tellTruce_65 rfl ?_
            refine g_f C h (hb 23 (by decide)) (lo_Led hc) (celF_Led hc) rfl in_X2_tellTruce_X2 1 (by decide) (by decide +kernel) (v := .int (M (rLed c) 1)) rfl dX2_tellTruce_66 ?_
            refine lv_iload_n hx hy dX2_tellTruce_69 rfl (lv_at hl 2 rfl) ?_
            refine lv_isub hx hy dX2_tellTruce_70 ?_
            refine p_f C h (hb 23 (by decide)) (lt_Led hc) (celF_Led hc) rfl in_X2_tellTruce_X2 tyX2_ok nmX2 1 (by decide) (by decide +kernel) rfl (v := .int ((M (rLed c) 1) - am)) (x := ((M (rLed c) 1) - am)) rfl rfl (fun _ => Nat.le_of_ble_eq_true rfl) (fun _ => rfl) dX2_tellTruce_71 (fun H locs h => ?_)
            exact e_void C h dX2_tellTruce_74 (by first | contradiction | exact ⟨rfl, by simp [tTru, tT1, eq_false c_3, eq_true c_26, eq_false c_49, eq_false c_55, eq_true c_61]⟩) (by decide) (by decide)
    · skip
      refine lv_iload_n hx hy dX2_tellTruce_29 rfl (lv_at hl 1 rfl) ?_
      refine lv_bipush (v := (nI 112)) hx hy dX2_tellTruce_30 (by decide) ?_
      refine i_ne hx hy (tgt := 48) dX2_tellTruce_32 (by decide) (fun c_32 => ?_) (fun c_32 => ?_)
      · skip
        refine lv_iload_n hx hy dX2_tellTruce_48 rfl (lv_at hl 3 rfl) ?_
        refine z_eq hx hy (tgt := 74) dX2_tellTruce_49 (by decide) (fun c_49 => ?_) (fun c_49 => ?_)
        · skip
          exact e_void C h dX2_tellTruce_74 (by first | contradiction | exact ⟨rfl, by simp [tTru, tT1, eq_false c_3, eq_false c_26, eq_false c_32, eq_true c_49]⟩) (by decide) (by decide)
        · skip
          refine lv_iload_n hx hy dX2_tellTruce_52 rfl (lv_at hl 1 rfl) ?_
          refine lv_bipush (v := (nI 100)) hx hy dX2_tellTruce_53 (by decide) ?_
          refine i_eq hx hy (tgt := 64) dX2_tellTruce_55 (by decide) (fun c_55 => ?_) (fun c_55 => ?_)
          · skip
            refine lv_aload_n hx hy dX2_tellTruce_64 rfl (lv_at hl 0 rfl) ?_
            refine lv_dup hx hy dX2_tellTruce_65 rfl ?_
            refine g_f C h (hb 23 (by decide)) (lo_Led hc) (celF_Led hc) rfl in_X2_tellTruce_X2 1 (by decide) (by decide +kernel) (v := .int (M (rLed c) 1)) rfl dX2_tellTruce_66 ?_
            refine lv_iload_n hx hy dX2_tellTruce_69 rfl (lv_at hl 2 rfl) ?_
            refine lv_isub hx hy dX2_tellTruce_70 ?_
            refine p_f C h (hb 23 (by decide)) (lt_Led hc) (celF_Led hc) rfl in_X2_tellTruce_X2 tyX2_ok nmX2 1 (by decide) (by decide +kernel) rfl (v := .int ((M (rLed c) 1) - am)) (x := ((M (rLed c) 1) - am)) rfl rfl (fun _ => Nat.le_of_ble_eq_true rfl) (fun _ => rfl) dX2_tellTruce_71 (fun H locs h => ?_)
            exact e_void C h dX2_tellTruce_74 (by first | contradiction | exact ⟨rfl, by simp [tTru, tT1, eq_false c_3, eq_false c_26, eq_false c_32, eq_false c_49, eq_true c_55]⟩) (by decide) (by decide)
          · skip
            refine lv_iload_n hx hy dX2_tellTruce_58 rfl (lv_at hl 1 rfl) ?_
            refine lv_bipush (v := (nI 97)) hx hy dX2_tellTruce_59 (by decide) ?_
            refine i_ne hx hy (tgt := 74) dX2_tellTruce_61 (by decide) (fun c_61 => ?_) (fun c_61 => ?_)
            · skip
              exact e_void C h dX2_tellTruce_74 (by first | contradiction | exact ⟨rfl, by simp [tTru, tT1, eq_false c_3, eq_false c_26, eq_false c_32, eq_false c_49, eq_false c_55, eq_false c_61]⟩) (by decide) (by decide)
            · skip
              refine lv_aload_n hx hy dX2_tellTruce_64 rfl (lv_at hl 0 rfl) ?_
              refine lv_dup hx hy dX2_tellTruce_65 rfl ?_
              refine g_f C h (hb 23 (by decide)) (lo_Led hc) (celF_Led hc) rfl in_X2_tellTruce_X2 1 (by decide) (by decide +kernel) (v := .int (M (rLed c) 1)) rfl dX2_tellTruce_66 ?_
              refine lv_iload_n hx hy dX2_tellTruce_69 rfl (lv_at hl 2 rfl) ?_
              refine lv_isub hx hy dX2_tellTruce_70 ?_
              refine p_f C h (hb 23 (by decide)) (lt_Led hc) (celF_Led hc) rfl in_X2_tellTruce_X2 tyX2_ok nmX2 1 (by decide) (by decide +kernel) rfl (v := .int ((M (rLed c) 1) - am)) (x := ((M (rLed c) 1) - am)) rfl rfl (fun _ => Nat.le_of_ble_eq_true rfl) (fun _ => rfl) dX2_tellTruce_71 (fun H locs h => ?_)
              exact e_void C h dX2_tellTruce_74 (by first | contradiction | exact ⟨rfl, by simp [tTru, tT1, eq_false c_3, eq_false c_26, eq_false c_32, eq_false c_49, eq_false c_55, eq_true c_61]⟩) (by decide) (by decide)
      · skip
        refine lv_aload_n hx hy dX2_tellTruce_35 rfl (lv_at hl 0 rfl) ?_
        refine lv_dup hx hy dX2_tellTruce_36 rfl ?_
        refine g_f C h (hb 23 (by decide)) (lo_Led hc) (celF_Led hc) rfl in_X2_tellTruce_X2 1 (by decide) (by decide +kernel) (v := .int (M (rLed c) 1)) rfl dX2_tellTruce_37 ?_
        refine lv_iload_n hx hy dX2_tellTruce_40 rfl (lv_at hl 2 rfl) ?_
        refine lv_iadd hx hy dX2_tellTruce_41 ?_
        refine p_f C h (hb 23 (by decide)) (lt_Led hc) (celF_Led hc) rfl in_X2_tellTruce_X2 tyX2_ok nmX2 1 (by decide) (by decide +kernel) rfl (v := .int ((M (rLed c) 1) + am)) (x := ((M (rLed c) 1) + am)) rfl rfl (fun _ => Nat.le_of_ble_eq_true rfl) (fun _ => rfl) dX2_tellTruce_42 (fun H locs h => ?_)
        refine lv_goto (tgt := 74) hx hy dX2_tellTruce_45 (by decide) ?_
        exact e_void C h dX2_tellTruce_74 (by first | contradiction | exact ⟨rfl, by simp [tTru, tT1, eq_false c_3, eq_false c_26, eq_true c_32]⟩) (by decide) (by decide)
  · skip
    refine lv_aload_n hx hy dX2_tellTruce_6 rfl (lv_at hl 0 rfl) ?_
    refine lv_dup hx hy dX2_tellTruce_7 rfl ?_
    refine g_f C h (hb 23 (by decide)) (lo_Led hc) (celF_Led hc) rfl in_X2_tellTruce_X2 0 (by decide) (by decide +kernel) (v := .int (M (rLed c) 0)) rfl dX2_tellTruce_8 ?_
    refine lv_iload_n hx hy dX2_tellTruce_11 rfl (lv_at hl 3 rfl) ?_
    refine z_eq hx hy (tgt := 20) dX2_tellTruce_12 (by decide) (fun c_12 => ?_) (fun c_12 => ?_)
    · skip
      refine lv_iload_n hx hy dX2_tellTruce_20 rfl (lv_at hl 2 rfl) ?_
      refine lv_iadd hx hy dX2_tellTruce_21 ?_
      refine p_f C h (hb 23 (by decide)) (lt_Led hc) (celF_Led hc) rfl in_X2_tellTruce_X2 tyX2_ok nmX2 0 (by decide) (by decide +kernel) rfl (v := .int ((M (rLed c) 0) + am)) (x := ((M (rLed c) 0) + am)) rfl rfl (fun _ => Nat.le_of_ble_eq_true rfl) (fun _ => rfl) dX2_tellTruce_22 (fun H locs h => ?_)
      refine lv_iload_n hx hy dX2_tellTruce_25 rfl (lv_at hl 3 rfl) ?_
      refine z_eq hx hy (tgt := 48) dX2_tellTruce_26 (by decide) (fun c_26 => ?_) (fun c_26 => ?_)
      · skip
        refine lv_iload_n hx hy dX2_tellTruce_48 rfl (lv_at hl 3 rfl) ?_
        refine z_eq hx hy (tgt := 74) dX2_tellTruce_49 (by decide) (fun c_49 => ?_) (fun c_49 => ?_)
        · skip
          exact e_void C h dX2_tellTruce_74 (by first | contradiction | exact ⟨rfl, by simp [tTru, tT1, eq_true c_3, eq_true c_12, eq_true c_26, eq_true c_49]⟩) (by decide) (by decide)
        · skip
          refine lv_iload_n hx hy dX2_tellTruce_52 rfl (lv_at hl 1 rfl) ?_
          refine lv_bipush (v := (nI 100)) hx hy dX2_tellTruce_53 (by decide) ?_
          refine i_eq hx hy (tgt := 64) dX2_tellTruce_55 (by decide) (fun c_55 => ?_) (fun c_55 => ?_)
          · skip
            refine lv_aload_n hx hy dX2_tellTruce_64 rfl (lv_at hl 0 rfl) ?_
            refine lv_dup hx hy dX2_tellTruce_65 rfl ?_
            refine g_f C h (hb 23 (by decide)) (lo_Led hc) (celF_Led hc) rfl in_X2_tellTruce_X2 1 (by decide) (by decide +kernel) (v := .int (M (rLed c) 1)) (congrArg (fun z => some (Value.int z)) (show (wr M (rLed c) 0 ((M (rLed c) 0) + am)) (rLed c) 1 = (M (rLed c) 1) from (wr_othj (by decide)))) dX2_tellTruce_66 ?_
            refine lv_iload_n hx hy dX2_tellTruce_69 rfl (lv_at hl 2 rfl) ?_
            refine lv_isub hx hy dX2_tellTruce_70 ?_
            refine p_f C h (hb 23 (by decide)) (lt_Led hc) (celF_Led hc) rfl in_X2_tellTruce_X2 tyX2_ok nmX2 1 (by decide) (by decide +kernel) rfl (v := .int ((M (rLed c) 1) - am)) (x := ((M (rLed c) 1) - am)) rfl rfl (fun _ => Nat.le_of_ble_eq_true rfl) (fun _ => rfl) dX2_tellTruce_71 (fun H locs h => ?_)
            exact e_void C h dX2_tellTruce_74 (by first | contradiction | exact ⟨rfl, by simp [tTru, tT1, eq_true c_3, eq_true c_12, eq_true c_26, eq_false c_49, eq_true c_55]⟩) (by decide) (by decide)
          · skip
            refine lv_iload_n hx hy dX2_tellTruce_58 rfl (lv_at hl 1 rfl) ?_
            refine lv_bipush (v := (nI 97)) hx hy dX2_tellTruce_59 (by decide) ?_
            refine i_ne hx hy (tgt := 74) dX2_tellTruce_61 (by decide) (fun c_61 => ?_) (fun c_61 => ?_)
            · skip
              exact e_void C h dX2_tellTruce_74 (by first | contradiction | exact ⟨rfl, by simp [tTru, tT1, eq_true c_3, eq_true c_12, eq_true c_26, eq_false c_49, eq_false c_55, eq_false c_61]⟩) (by decide) (by decide)
            · skip
              refine lv_aload_n hx hy dX2_tellTruce_64 rfl (lv_at hl 0 rfl) ?_
              refine lv_dup hx hy dX2_tellTruce_65 rfl ?_
              refine g_f C h (hb 23 (by decide)) (lo_Led hc) (celF_Led hc) rfl in_X2_tellTruce_X2 1 (by decide) (by decide +kernel) (v := .int (M (rLed c) 1)) (congrArg (fun z => some (Value.int z)) (show (wr M (rLed c) 0 ((M (rLed c) 0) + am)) (rLed c) 1 = (M (rLed c) 1) from (wr_othj (by decide)))) dX2_tellTruce_66 ?_
              refine lv_iload_n hx hy dX2_tellTruce_69 rfl (lv_at hl 2 rfl) ?_
              refine lv_isub hx hy dX2_tellTruce_70 ?_
              refine p_f C h (hb 23 (by decide)) (lt_Led hc) (celF_Led hc) rfl in_X2_tellTruce_X2 tyX2_ok nmX2 1 (by decide) (by decide +kernel) rfl (v := .int ((M (rLed c) 1) - am)) (x := ((M (rLed c) 1) - am)) rfl rfl (fun _ => Nat.le_of_ble_eq_true rfl) (fun _ => rfl) dX2_tellTruce_71 (fun H locs h => ?_)
              exact e_void C h dX2_tellTruce_74 (by first | contradiction | exact ⟨rfl, by simp [tTru, tT1, eq_true c_3, eq_true c_12, eq_true c_26, eq_false c_49, eq_false c_55, eq_true c_61]⟩) (by decide) (by decide)
      · skip
        refine lv_iload_n hx hy dX2_tellTruce_29 rfl (lv_at hl 1 rfl) ?_
        refine lv_bipush (v := (nI 112)) hx hy dX2_tellTruce_30 (by decide) ?_
        refine i_ne hx hy (tgt := 48) dX2_tellTruce_32 (by decide) (fun c_32 => ?_) (fun c_32 => ?_)
        · skip
          refine lv_iload_n hx hy dX2_tellTruce_48 rfl (lv_at hl 3 rfl) ?_
          refine z_eq hx hy (tgt := 74) dX2_tellTruce_49 (by decide) (fun c_49 => ?_) (fun c_49 => ?_)
          · skip
            exact e_void C h dX2_tellTruce_74 (by first | contradiction | exact ⟨rfl, by simp [tTru, tT1, eq_true c_3, eq_true c_12, eq_false c_26, eq_false c_32, eq_true c_49]⟩) (by decide) (by decide)
          · skip
            refine lv_iload_n hx hy dX2_tellTruce_52 rfl (lv_at hl 1 rfl) ?_
            refine lv_bipush (v := (nI 100)) hx hy dX2_tellTruce_53 (by decide) ?_
            refine i_eq hx hy (tgt := 64) dX2_tellTruce_55 (by decide) (fun c_55 => ?_) (fun c_55 => ?_)
            · skip
              refine lv_aload_n hx hy dX2_tellTruce_64 rfl (lv_at hl 0 rfl) ?_
              refine lv_dup hx hy dX2_tellTruce_65 rfl ?_
              refine g_f C h (hb 23 (by decide)) (lo_Led hc) (celF_Led hc) rfl in_X2_tellTruce_X2 1 (by decide) (by decide +kernel) (v := .int (M (rLed c) 1)) (congrArg (fun z => some (Value.int z)) (show (wr M (rLed c) 0 ((M (rLed c) 0) + am)) (rLed c) 1 = (M (rLed c) 1) from (wr_othj (by decide)))) dX2_tellTruce_66 ?_
              refine lv_iload_n hx hy dX2_tellTruce_69 rfl (lv_at hl 2 rfl) ?_
              refine lv_isub hx hy dX2_tellTruce_70 ?_
              refine p_f C h (hb 23 (by decide)) (lt_Led hc) (celF_Led hc) rfl in_X2_tellTruce_X2 tyX2_ok nmX2 1 (by decide) (by decide +kernel) rfl (v := .int ((M (rLed c) 1) - am)) (x := ((M (rLed c) 1) - am)) rfl rfl (fun _ => Nat.le_of_ble_eq_true rfl) (fun _ => rfl) dX2_tellTruce_71 (fun H locs h => ?_)
              exact e_void C h dX2_tellTruce_74 (by first | contradiction | exact ⟨rfl, by simp [tTru, tT1, eq_true c_3, eq_true c_12, eq_false c_26, eq_false c_32, eq_false c_49, eq_true c_55]⟩) (by decide) (by decide)
            · skip
              refine lv_iload_n hx hy dX2_tellTruce_58 rfl (lv_at hl 1 rfl) ?_
              refine lv_bipush (v := (nI 97)) hx hy dX2_tellTruce_59 (by decide) ?_
              refine i_ne hx hy (tgt := 74) dX2_tellTruce_61 (by decide) (fun c_61 => ?_) (fun c_61 => ?_)
              · skip
                exact e_void C h dX2_tellTruce_74 (by first | contradiction | exact ⟨rfl, by simp [tTru, tT1, eq_true c_3, eq_true c_12, eq_false c_26, eq_false c_32, eq_false c_49, eq_false c_55, eq_false c_61]⟩) (by decide) (by decide)
              · skip
                refine lv_aload_n hx hy dX2_tellTruce_64 rfl (lv_at hl 0 rfl) ?_
                refine lv_dup hx hy dX2_tellTruce_65 rfl ?_
                refine g_f C h (hb 23 (by decide)) (lo_Led hc) (celF_Led hc) rfl in_X2_tellTruce_X2 1 (by decide) (by decide +kernel) (v := .int (M (rLed c) 1)) (congrArg (fun z => some (Value.int z)) (show (wr M (rLed c) 0 ((M (rLed c) 0) + am)) (rLed c) 1 = (M (rLed c) 1) from (wr_othj (by decide)))) dX2_tellTruce_66 ?_
                refine lv_iload_n hx hy dX2_tellTruce_69 rfl (lv_at hl 2 rfl) ?_
                refine lv_isub hx hy dX2_tellTruce_70 ?_
                refine p_f C h (hb 23 (by decide)) (lt_Led hc) (celF_Led hc) rfl in_X2_tellTruce_X2 tyX2_ok nmX2 1 (by decide) (by decide +kernel) rfl (v := .int ((M (rLed c) 1) - am)) (x := ((M (rLed c) 1) - am)) rfl rfl (fun _ => Nat.le_of_ble_eq_true rfl) (fun _ => rfl) dX2_tellTruce_71 (fun H locs h => ?_)
                exact e_void C h dX2_tellTruce_74 (by first | contradiction | exact ⟨rfl, by simp [tTru, tT1, eq_true c_3, eq_true c_12, eq_false c_26, eq_false c_32, eq_false c_49, eq_false c_55, eq_true c_61]⟩) (by decide) (by decide)
        · skip
          refine lv_aload_n hx hy dX2_tellTruce_35 rfl (lv_at hl 0 rfl) ?_
          refine lv_dup hx hy dX2_tellTruce_36 rfl ?_
          refine g_f C h (hb 23 (by decide)) (lo_Led hc) (celF_Led hc) rfl in_X2_tellTruce_X2 1 (by decide) (by decide +kernel) (v := .int (M (rLed c) 1)) (congrArg (fun z => some (Value.int z)) (show (wr M (rLed c) 0 ((M (rLed c) 0) + am)) (rLed c) 1 = (M (rLed c) 1) from (wr_othj (by decide)))) dX2_tellTruce_37 ?_
          refine lv_iload_n hx hy dX2_tellTruce_40 rfl (lv_at hl 2 rfl) ?_
          refine lv_iadd hx hy dX2_tellTruce_41 ?_
          refine p_f C h (hb 23 (by decide)) (lt_Led hc) (celF_Led hc) rfl in_X2_tellTruce_X2 tyX2_ok nmX2 1 (by decide) (by decide +kernel) rfl (v := .int ((M (rLed c) 1) + am)) (x := ((M (rLed c) 1) + am)) rfl rfl (fun _ => Nat.le_of_ble_eq_true rfl) (fun _ => rfl) dX2_tellTruce_42 (fun H locs h => ?_)
          refine lv_goto (tgt := 74) hx hy dX2_tellTruce_45 (by decide) ?_
          exact e_void C h dX2_tellTruce_74 (by first | contradiction | exact ⟨rfl, by simp [tTru, tT1, eq_true c_3, eq_true c_12, eq_false c_26, eq_true c_32]⟩) (by decide) (by decide)
    · skip
      refine lv_iload_n hx hy dX2_tellTruce_15 rfl (lv_at hl 2 rfl) ?_
      refine lv_ineg hx hy dX2_tellTruce_16 ?_
      refine lv_goto (tgt := 21) hx hy dX2_tellTruce_17 (by decide) ?_
      refine lv_iadd hx hy dX2_tellTruce_21 ?_
      refine p_f C h (hb 23 (by decide)) (lt_Led hc) (celF_Led hc) rfl in_X2_tellTruce_X2 tyX2_ok nmX2 0 (by decide) (by decide +kernel) rfl (v := .int ((M (rLed c) 0) + (-am))) (x := ((M (rLed c) 0) + (-am))) rfl rfl (fun _ => Nat.le_of_ble_eq_true rfl) (fun _ => rfl) dX2_tellTruce_22 (fun H locs h => ?_)
      refine lv_iload_n hx hy dX2_tellTruce_25 rfl (lv_at hl 3 rfl) ?_
      refine z_eq hx hy (tgt := 48) dX2_tellTruce_26 (by decide) (fun c_26 => ?_) (fun c_26 => ?_)
      · skip
        refine lv_iload_n hx hy dX2_tellTruce_48 rfl (lv_at hl 3 rfl) ?_
        refine z_eq hx hy (tgt := 74) dX2_tellTruce_49 (by decide) (fun c_49 => ?_) (fun c_49 => ?_)
        · skip
          exact e_void C h dX2_tellTruce_74 (by first | contradiction | exact ⟨rfl, by simp [tTru, tT1, eq_true c_3, eq_false c_12, eq_true c_26, eq_true c_49]⟩) (by decide) (by decide)
        · skip
          refine lv_iload_n hx hy dX2_tellTruce_52 rfl (lv_at hl 1 rfl) ?_
          refine lv_bipush (v := (nI 100)) hx hy dX2_tellTruce_53 (by decide) ?_
          refine i_eq hx hy (tgt := 64) dX2_tellTruce_55 (by decide) (fun c_55 => ?_) (fun c_55 => ?_)
          · skip
            refine lv_aload_n hx hy dX2_tellTruce_64 rfl (lv_at hl 0 rfl) ?_
            refine lv_dup hx hy dX2_tellTruce_65 rfl ?_
            refine g_f C h (hb 23 (by decide)) (lo_Led hc) (celF_Led hc) rfl in_X2_tellTruce_X2 1 (by decide) (by decide +kernel) (v := .int (M (rLed c) 1)) (congrArg (fun z => some (Value.int z)) (show (wr M (rLed c) 0 ((M (rLed c) 0) + (-am))) (rLed c) 1 = (M (rLed c) 1) from (wr_othj (by decide)))) dX2_tellTruce_66 ?_
            refine lv_iload_n hx hy dX2_tellTruce_69 rfl (lv_at hl 2 rfl) ?_
            refine lv_isub hx hy dX2_tellTruce_70 ?_
            refine p_f C h (hb 23 (by decide)) (lt_Led hc) (celF_Led hc) rfl in_X2_tellTruce_X2 tyX2_ok nmX2 1 (by decide) (by decide +kernel) rfl (v := .int ((M (rLed c) 1) - am)) (x := ((M (rLed c) 1) - am)) rfl rfl (fun _ => Nat.le_of_ble_eq_true rfl) (fun _ => rfl) dX2_tellTruce_71 (fun H locs h => ?_)
            exact e_void C h dX2_tellTruce_74 (by first | contradiction | exact ⟨rfl, by simp [tTru, tT1, eq_true c_3, eq_false c_12, eq_true c_26, eq_false c_49, eq_true c_55]⟩) (by decide) (by decide)
          · skip
            refine lv_iload_n hx hy dX2_tellTruce_58 rfl (lv_at hl 1 rfl) ?_
            refine lv_bipush (v := (nI 97)) hx hy dX2_tellTruce_59 (by decide) ?_
            refine i_ne hx hy (tgt := 74) dX2_tellTruce_61 (by decide) (fun c_61 => ?_) (fun c_61 => ?_)
            · skip
              exact e_void C h dX2_tellTruce_74 (by first | contradiction | exact ⟨rfl, by simp [tTru, tT1, eq_true c_3, eq_false c_12, eq_true c_26, eq_false c_49, eq_false c_55, eq_false c_61]⟩) (by decide) (by decide)
            · skip
              refine lv_aload_n hx hy dX2_tellTruce_64 rfl (lv_at hl 0 rfl) ?_
              refine lv_dup hx hy dX2_tellTruce_65 rfl ?_
              refine g_f C h (hb 23 (by decide)) (lo_Led hc) (celF_Led hc) rfl in_X2_tellTruce_X2 1 (by decide) (by decide +kernel) (v := .int (M (rLed c) 1)) (congrArg (fun z => some (Value.int z)) (show (wr M (rLed c) 0 ((M (rLed c) 0) + (-am))) (rLed c) 1 = (M (rLed c) 1) from (wr_othj (by decide)))) dX2_tellTruce_66 ?_
              refine lv_iload_n hx hy dX2_tellTruce_69 rfl (lv_at hl 2 rfl) ?_
              refine lv_isub hx hy dX2_tellTruce_70 ?_
              refine p_f C h (hb 23 (by decide)) (lt_Led hc) (celF_Led hc) rfl in_X2_tellTruce_X2 tyX2_ok nmX2 1 (by decide) (by decide +kernel) rfl (v := .int ((M (rLed c) 1) - am)) (x := ((M (rLed c) 1) - am)) rfl rfl (fun _ => Nat.le_of_ble_eq_true rfl) (fun _ => rfl) dX2_tellTruce_71 (fun H locs h => ?_)
              exact e_void C h dX2_tellTruce_74 (by first | contradiction | exact ⟨rfl, by simp [tTru, tT1, eq_true c_3, eq_false c_12, eq_true c_26, eq_false c_49, eq_false c_55, eq_true c_61]⟩) (by decide) (by decide)
      · skip
        refine lv_iload_n hx hy dX2_tellTruce_29 rfl (lv_at hl 1 rfl) ?_
        refine lv_bipush (v := (nI 112)) hx hy dX2_tellTruce_30 (by decide) ?_
        refine i_ne hx hy (tgt := 48) dX2_tellTruce_32 (by decide) (fun c_32 => ?_) (fun c_32 => ?_)
        · skip
          refine lv_iload_n hx hy dX2_tellTruce_48 rfl (lv_at hl 3 rfl) ?_
          refine z_eq hx hy (tgt := 74) dX2_tellTruce_49 (by decide) (fun c_49 => ?_) (fun c_49 => ?_)
          · skip
            exact e_void C h dX2_tellTruce_74 (by first | contradiction | exact ⟨rfl, by simp [tTru, tT1, eq_true c_3, eq_false c_12, eq_false c_26, eq_false c_32, eq_true c_49]⟩) (by decide) (by decide)
          · skip
            refine lv_iload_n hx hy dX2_tellTruce_52 rfl (lv_at hl 1 rfl) ?_
            refine lv_bipush (v := (nI 100)) hx hy dX2_tellTruce_53 (by decide) ?_
            refine i_eq hx hy (tgt := 64) dX2_tellTruce_55 (by decide) (fun c_55 => ?_) (fun c_55 => ?_)
            · skip
              refine lv_aload_n hx hy dX2_tellTruce_64 rfl (lv_at hl 0 rfl) ?_
              refine lv_dup hx hy dX2_tellTruce_65 rfl ?_
              refine g_f C h (hb 23 (by decide)) (lo_Led hc) (celF_Led hc) rfl in_X2_tellTruce_X2 1 (by decide) (by decide +kernel) (v := .int (M (rLed c) 1)) (congrArg (fun z => some (Value.int z)) (show (wr M (rLed c) 0 ((M (rLed c) 0) + (-am))) (rLed c) 1 = (M (rLed c) 1) from (wr_othj (by decide)))) dX2_tellTruce_66 ?_
              refine lv_iload_n hx hy dX2_tellTruce_69 rfl (lv_at hl 2 rfl) ?_
              refine lv_isub hx hy dX2_tellTruce_70 ?_
              refine p_f C h (hb 23 (by decide)) (lt_Led hc) (celF_Led hc) rfl in_X2_tellTruce_X2 tyX2_ok nmX2 1 (by decide) (by decide +kernel) rfl (v := .int ((M (rLed c) 1) - am)) (x := ((M (rLed c) 1) - am)) rfl rfl (fun _ => Nat.le_of_ble_eq_true rfl) (fun _ => rfl) dX2_tellTruce_71 (fun H locs h => ?_)
              exact e_void C h dX2_tellTruce_74 (by first | contradiction | exact ⟨rfl, by simp [tTru, tT1, eq_true c_3, eq_false c_12, eq_false c_26, eq_false c_32, eq_false c_49, eq_true c_55]⟩) (by decide) (by decide)
            · skip
              refine lv_iload_n hx hy dX2_tellTruce_58 rfl (lv_at hl 1 rfl) ?_
              refine lv_bipush (v := (nI 97)) hx hy dX2_tellTruce_59 (by decide) ?_
              refine i_ne hx hy (tgt := 74) dX2_tellTruce_61 (by decide) (fun c_61 => ?_) (fun c_61 => ?_)
              · skip
                exact e_void C h dX2_tellTruce_74 (by first | contradiction | exact ⟨rfl, by simp [tTru, tT1, eq_true c_3, eq_false c_12, eq_false c_26, eq_false c_32, eq_false c_49, eq_false c_55, eq_false c_61]⟩) (by decide) (by decide)
              · skip
                refine lv_aload_n hx hy dX2_tellTruce_64 rfl (lv_at hl 0 rfl) ?_
                refine lv_dup hx hy dX2_tellTruce_65 rfl ?_
                refine g_f C h (hb 23 (by decide)) (lo_Led hc) (celF_Led hc) rfl in_X2_tellTruce_X2 1 (by decide) (by decide +kernel) (v := .int (M (rLed c) 1)) (congrArg (fun z => some (Value.int z)) (show (wr M (rLed c) 0 ((M (rLed c) 0) + (-am))) (rLed c) 1 = (M (rLed c) 1) from (wr_othj (by decide)))) dX2_tellTruce_66 ?_
                refine lv_iload_n hx hy dX2_tellTruce_69 rfl (lv_at hl 2 rfl) ?_
                refine lv_isub hx hy dX2_tellTruce_70 ?_
                refine p_f C h (hb 23 (by decide)) (lt_Led hc) (celF_Led hc) rfl in_X2_tellTruce_X2 tyX2_ok nmX2 1 (by decide) (by decide +kernel) rfl (v := .int ((M (rLed c) 1) - am)) (x := ((M (rLed c) 1) - am)) rfl rfl (fun _ => Nat.le_of_ble_eq_true rfl) (fun _ => rfl) dX2_tellTruce_71 (fun H locs h => ?_)
                exact e_void C h dX2_tellTruce_74 (by first | contradiction | exact ⟨rfl, by simp [tTru, tT1, eq_true c_3, eq_false c_12, eq_false c_26, eq_false c_32, eq_false c_49, eq_false c_55, eq_true c_61]⟩) (by decide) (by decide)
        · skip
          refine lv_aload_n hx hy dX2_tellTruce_35 rfl (lv_at hl 0 rfl) ?_
          refine lv_dup hx hy dX2_tellTruce_36 rfl ?_
          refine g_f C h (hb 23 (by decide)) (lo_Led hc) (celF_Led hc) rfl in_X2_tellTruce_X2 1 (by decide) (by decide +kernel) (v := .int (M (rLed c) 1)) (congrArg (fun z => some (Value.int z)) (show (wr M (rLed c) 0 ((M (rLed c) 0) + (-am))) (rLed c) 1 = (M (rLed c) 1) from (wr_othj (by decide)))) dX2_tellTruce_37 ?_
          refine lv_iload_n hx hy dX2_tellTruce_40 rfl (lv_at hl 2 rfl) ?_
          refine lv_iadd hx hy dX2_tellTruce_41 ?_
          refine p_f C h (hb 23 (by decide)) (lt_Led hc) (celF_Led hc) rfl in_X2_tellTruce_X2 tyX2_ok nmX2 1 (by decide) (by decide +kernel) rfl (v := .int ((M (rLed c) 1) + am)) (x := ((M (rLed c) 1) + am)) rfl rfl (fun _ => Nat.le_of_ble_eq_true rfl) (fun _ => rfl) dX2_tellTruce_42 (fun H locs h => ?_)
          refine lv_goto (tgt := 74) hx hy dX2_tellTruce_45 (by decide) ?_
          exact e_void C h dX2_tellTruce_74 (by first | contradiction | exact ⟨rfl, by simp [tTru, tT1, eq_true c_3, eq_false c_12, eq_false c_26, eq_true c_32]⟩) (by decide) (by decide)

set_option maxRecDepth 20000 in
theorem in_X2_tell_X2 : ∀ x ∈ wsX20, x ∈ wsX2_tell := by decide +kernel
set_option maxRecDepth 20000 in
theorem in_X2_tell_X3 : ∀ x ∈ wsX30, x ∈ wsX2_tell := by decide +kernel
set_option maxRecDepth 100000 in
set_option maxHeartbeats 4000000 in
/-- Ledger.tell -/
theorem c_X2_tell (l : Launch) {G : va_G} {V : wV} {rs : List Nat} (c : Nat) (hc : c < 2) (hb : bC c rs) (M R : wM) (o : wO) (sz : Nat) (hs : sz ≤ 60) (hsz : M (rRow c) 0 = nI sz) (hlo : okL M c sz) (gb : Int32) : CT l G V rs yX2_tell wsX2_tell 2 43 0 0 [.ref (V.1 (rLed c)), .ref (V.1 (rRow c)), .int gb] (M, R, o) (fun v u => v = none ∧ u = (tN M c gb (rCnt M c sz), R, o)) (fun _ _ => False) := by
  refine ct_of (cc := cX2_tell) (maxL := 6) (ret := none) (by decide) rfl (Nat.le_of_ble_eq_true rfl) ?_
  intro p e s m below meth cd ls C h X hT hl
  have hx := C.1
  have hy := C.2.1
  have hl : lv_has ls 6 [(0, .ref (V.1 (rLed c))), (1, .ref (V.1 (rRow c))), (2, .int gb)] := hl
  have hq : rCnt M c sz ≤ sz := lead_le _ _
  refine lv_aload_n hx hy dX2_tell_0 rfl (lv_at hl 0 rfl) ?_
  refine lv_iload_n hx hy dX2_tell_1 rfl (lv_at hl 2 rfl) ?_
  refine p_f C h (hb 23 (by decide)) (lt_Led hc) (celF_Led hc) rfl in_X2_tell_X2 tyX2_ok nmX2 0 (by decide) (by decide +kernel) rfl (v := .int gb) (x := gb) rfl rfl (fun _ => Nat.le_of_ble_eq_true rfl) (fun _ => rfl) dX2_tell_2 (fun H locs h => ?_)
  refine lv_aload_n hx hy dX2_tell_5 rfl (lv_at hl 0 rfl) ?_
  refine lv_iconst (v := (nI 0)) hx hy dX2_tell_6 (by decide) ?_
  refine p_f C h (hb 23 (by decide)) (lt_Led hc) (celF_Led hc) rfl in_X2_tell_X2 tyX2_ok nmX2 1 (by decide) (by decide +kernel) rfl (v := .int (nI 0)) (x := (nI 0)) rfl rfl (fun _ => Nat.le_of_ble_eq_true rfl) (fun _ => rfl) dX2_tell_7 (fun H locs h => ?_)
  refine lv_iconst (v := (nI 0)) hx hy dX2_tell_10 (by decide) ?_
  refine lv_istore_n (lv' := [(3, .int (nI 0)), (0, .ref (V.1 (rLed c))), (1, .ref (V.1 (rRow c))), (2, .int gb)]) hx hy dX2_tell_11 rfl hl (by decide) rfl (fun ls hl => ?_)
  have L_12 : ∀ (n_12 k : Nat), n_12 + k = 4 → ∀ (H : Heap) (locs : List Loc), HH G V rs (clrN (wr (wr M (rLed c) 0 gb) (rLed c) 1 (nI 0)) (rPu c) k, R, o) s H locs → ∀ ls : Array Slot, lv_has ls 6 [(3, .int (nI k)), (0, .ref (V.1 (rLed c))), (1, .ref (V.1 (rRow c))), (2, .int gb)] → W p l e { frames := 2, cells := 0, slots := 0, locals := 43 } s m [.ref (V.1 (rLed c)), .ref (V.1 (rRow c)), .int gb].toArray below meth cd H locs 0 0 (QM G V rs below [.ref (V.1 (rLed c)), .ref (V.1 (rRow c)), .int gb].toArray s 0 0 (fun v u => v = none ∧ u = (tN M c gb (rCnt M c sz), R, o)) (fun _ _ => False)) (F0 m 12 ls []) := by
    intro n_12
    induction n_12 with
    | zero =>
      intro k hk_12 H locs h ls hl
      have hz_12 : k = 4 := by omega
      try rw [hz_12] at h
      try rw [hz_12] at hl
      refine lv_iload_n hx hy dX2_tell_12 rfl (lv_at hl 0 rfl) ?_
      refine lv_iconst (v := (nI 4)) hx hy dX2_tell_13 (by decide) ?_
      refine n_ge hx hy (by decide) (by decide) (tgt := 30) dX2_tell_14 (by decide) (fun c_14 => ?_) (fun c_14 => ?_)
      · skip
        refine lv_aload_n hx hy dX2_tell_30 rfl (lv_at hl 2 rfl) ?_
        refine n_go0 C h (n_V (As := []) (rest := []) C h X (hb 16 (by decide)) ((lo_Row hc).trans ((celF_Row hc) _)) rfl (c_X3_countingSize l c hc hb (tBase M c gb) R o sz hs ((congrFun (tBase_ne (by simp only [rLed, rRow]; omega) (by simp only [rPu, rRow]; omega)) _).trans hsz) ) (cwV 0 C.2.2.2.2.1 gX2_tell_X3_countingSize rfl rfl rfl (by decide +kernel) ⟨Nat.le_of_ble_eq_true rfl, Nat.le_of_ble_eq_true rfl⟩) rfl hl.1 rfl (Nat.le_of_ble_eq_true rfl) dX2_tell_31 ⟨by decide, by decide⟩) (fun _ _ z => z) (fun v_31 u_31 H locs hpo h => ?_)
        obtain ⟨rfl, rfl⟩ := hpo
        refine lv_topn (show nI (rCnt (tBase M c gb) c sz) = nI (rCnt M c sz) from by rw [rCnt_eq (tBase_ne (by simp only [rCo, rLed]; omega) (by simp only [rCo, rPu]; omega)) (tBase_ne (by simp only [rLe, rLed]; omega) (by simp only [rLe, rPu]; omega))]) ?_
        refine lv_istore_n (lv' := [(3, .int (nI (rCnt M c sz))), (0, .ref (V.1 (rLed c))), (1, .ref (V.1 (rRow c))), (2, .int gb)]) hx hy dX2_tell_34 rfl hl (by decide) rfl (fun ls hl => ?_)
        refine lv_iconst (v := (nI 0)) hx hy dX2_tell_35 (by decide) ?_
        refine lv_istore (lv' := [(4, .int (nI 0)), (3, .int (nI (rCnt M c sz))), (0, .ref (V.1 (rLed c))), (1, .ref (V.1 (rRow c))), (2, .int gb)]) hx hy dX2_tell_36 hl (by decide) rfl (fun ls hl => ?_)
        have L_38 : ∀ (n_38 k_2 : Nat), n_38 + k_2 = (rCnt M c sz) → ∀ (H : Heap) (locs : List Loc), HH G V rs (tN M c gb k_2, R, o) s H locs → ∀ ls : Array Slot, lv_has ls 6 [(4, .int (nI k_2)), (3, .int (nI (rCnt M c sz))), (0, .ref (V.1 (rLed c))), (1, .ref (V.1 (rRow c))), (2, .int gb)] → W p l e { frames := 2, cells := 0, slots := 0, locals := 43 } s m [.ref (V.1 (rLed c)), .ref (V.1 (rRow c)), .int gb].toArray below meth cd H locs 0 0 (QM G V rs below [.ref (V.1 (rLed c)), .ref (V.1 (rRow c)), .int gb].toArray s 0 0 (fun v u => v = none ∧ u = (tN M c gb (rCnt M c sz), R, o)) (fun _ _ => False)) (F0 m 38 ls []) := by
          intro n_38
          induction n_38 with
          | zero =>
            intro k_2 hk_38 H locs h ls hl
            have hz_38 : k_2 = (rCnt M c sz) := by omega
            try rw [hz_38] at h
            try rw [hz_38] at hl
            refine lv_iload hx hy dX2_tell_38 (lv_at hl 0 rfl) ?_
            refine lv_iload_n hx hy dX2_tell_40 rfl (lv_at hl 1 rfl) ?_
            refine n_ge hx hy (by omega) (by omega) (tgt := 123) dX2_tell_41 (by decide) (fun c_41 => ?_) (fun c_41 => ?_)
            · skip
              exact e_void C h dX2_tell_123 (⟨rfl, rfl⟩) (by decide) (by decide)
            · skip
              exact absurd c_41 (by omega)
          | succ n_38 ih_38 =>
            intro k_2 hk_38 H locs h ls hl
            have hz_38 : k_2 < (rCnt M c sz) := by omega
            refine lv_iload hx hy dX2_tell_38 (lv_at hl 0 rfl) ?_
            refine lv_iload_n hx hy dX2_tell_40 rfl (lv_at hl 1 rfl) ?_
            refine n_ge hx hy (by omega) (by omega) (tgt := 123) dX2_tell_41 (by decide) (fun c_41 => ?_) (fun c_41 => ?_)
            · skip
              exact absurd c_41 (by omega)
            · skip
              refine lv_aload_n hx hy dX2_tell_44 rfl (lv_at hl 3 rfl) ?_
              refine g_f C h (hb 16 (by decide)) (lo_Row hc) (celF_Row hc) rfl in_X2_tell_X3 1 (by decide) (by decide +kernel) (v := .ref (V.1 (rLe c))) rfl dX2_tell_45 ?_
              refine lv_iload hx hy dX2_tell_48 (lv_at hl 0 rfl) ?_
              refine g_c C h (hb 17 (by decide)) (n := 60) (k := k_2) (lo_Le hc) (celF_Le hc) (by omega) (by decide) (v := (M (rLe c) k_2)) (show (tN M c gb k_2) (rLe c) k_2 = (M (rLe c) k_2) from (congrFun (tN_ne (by simp only [rLe, rLed]; omega) (by simp only [rLe, rPu]; omega)) _)) dX2_tell_50 ?_
              refine lv_istore (lv' := [(5, .int (M (rLe c) k_2)), (4, .int (nI k_2)), (3, .int (nI (rCnt M c sz))), (0, .ref (V.1 (rLed c))), (1, .ref (V.1 (rRow c))), (2, .int gb)]) hx hy dX2_tell_51 hl (by decide) rfl (fun ls hl => ?_)
              refine lv_iload hx hy dX2_tell_53 (lv_at hl 0 rfl) ?_
              refine lv_bipush (v := (nI 105)) hx hy dX2_tell_55 (by decide) ?_
              refine i_eq hx hy (tgt := 74) dX2_tell_57 (by decide) (fun c_57 => ?_) (fun c_57 => ?_)
              · skip
                refine lv_aload_n hx hy dX2_tell_74 rfl (lv_at hl 3 rfl) ?_
                refine lv_iload hx hy dX2_tell_75 (lv_at hl 0 rfl) ?_
                refine lv_aload_n hx hy dX2_tell_77 rfl (lv_at hl 4 rfl) ?_
                refine g_f C h (hb 16 (by decide)) (lo_Row hc) (celF_Row hc) rfl in_X2_tell_X3 2 (by decide) (by decide +kernel) (v := .ref (V.1 (rAm c))) rfl dX2_tell_78 ?_
                refine lv_iload hx hy dX2_tell_81 (lv_at hl 1 rfl) ?_
                refine g_i C h (hb 18 (by decide)) (n := 60) (k := k_2) (lo_Am hc) (celF_Am hc) (by omega) (by decide) (v := (M (rAm c) k_2)) (show (tN M c gb k_2) (rAm c) k_2 = (M (rAm c) k_2) from (congrFun (tN_ne (by simp only [rAm, rLed]; omega) (by simp only [rAm, rPu]; omega)) _)) dX2_tell_83 ?_
                refine lv_aload_n hx hy dX2_tell_84 rfl (lv_at hl 4 rfl) ?_
                refine g_f C h (hb 16 (by decide)) (lo_Row hc) (celF_Row hc) rfl in_X2_tell_X3 3 (by decide) (by decide +kernel) (v := .ref (V.1 (rLo c))) rfl dX2_tell_85 ?_
                refine lv_iload hx hy dX2_tell_88 (lv_at hl 1 rfl) ?_
                refine g_i C h (hb 19 (by decide)) (n := 60) (k := k_2) (lo_Lo hc) (celF_Lo hc) (by omega) (by decide) (v := (M (rLo c) k_2)) (show (tN M c gb k_2) (rLo c) k_2 = (M (rLo c) k_2) from (congrFun (tN_ne (by simp only [rLed, rLo]; omega) (by simp only [rLo, rPu]; omega)) _)) dX2_tell_90 ?_
                have ho := hlo k_2 (by omega) (by simp [isOrd, eq_true c_14, eq_false (Nat.not_lt.mpr c_14), eq_true c_41, eq_false (Nat.not_le.mpr c_41), eq_true c_57])
                refine lv_topn ho.2 ?_
                refine n_go0 C h (n_V (As := [.int (M (rLe c) k_2), .int (M (rAm c) k_2), .int (nI ((M (rLo c) k_2).toNatClampNeg))]) (rest := []) C h X (hb 23 (by decide)) ((lo_Led hc).trans ((celF_Led hc) _)) rfl (c_X2_tellOrder l c hc hb (tN M c gb k_2) R o (M (rLe c) k_2) (M (rAm c) k_2) ((M (rLo c) k_2).toNatClampNeg) ho.1) (cwV 3 C.2.2.2.2.1 gX2_tell_X2_tellOrder rfl rfl rfl (by decide +kernel) ⟨Nat.le_of_ble_eq_true rfl, Nat.le_of_ble_eq_true rfl⟩) rfl hl.1 rfl (Nat.le_of_ble_eq_true rfl) dX2_tell_91 ⟨by decide, by decide⟩) (fun _ _ z => z) (fun v_91 u_91 H locs hpo h => ?_)
                obtain ⟨rfl, rfl⟩ := hpo
                refine lv_goto (tgt := 117) hx hy dX2_tell_94 (by decide) ?_
                refine lv_iinc (v := (nI (k_2 + 1))) (lv' := [(4, .int (nI (k_2 + 1))), (5, .int (M (rLe c) k_2)), (3, .int (nI (rCnt M c sz))), (0, .ref (V.1 (rLed c))), (1, .ref (V.1 (rRow c))), (2, .int gb)]) hx hy dX2_tell_117 hl (k := 1) rfl (nI_1 _) (by decide) rfl (fun ls hl => ?_)
                refine lv_goto (tgt := 38) hx hy dX2_tell_120 (by decide) ?_
                exact ih_38 (k_2 + 1) (by omega) _ _ (by rw [show ((tN M c gb (k_2 + 1), R, o) : wW) = (tOrd (tN M c gb k_2) c (M (rLe c) k_2) (M (rAm c) k_2) ((M (rLo c) k_2).toNatClampNeg), R, o) from by simp [tN, tStep, isOrd, eq_true c_14, eq_false (Nat.not_lt.mpr c_14), eq_true c_41, eq_false (Nat.not_le.mpr c_41), eq_true c_57]]; exact h) _ (by have hl := lv_sub hl [0, 2, 3, 4, 5] (l' := [(4, .int (nI (k_2 + 1))), (3, .int (nI (rCnt M c sz))), (0, .ref (V.1 (rLed c))), (1, .ref (V.1 (rRow c))), (2, .int gb)]) rfl; rw [show (.int (nI (k_2 + 1)) : Value) = .int (nI (k_2 + 1)) from rfl] at hl; exact hl)
              · skip
                refine lv_iload hx hy dX2_tell_60 (lv_at hl 0 rfl) ?_
                refine lv_bipush (v := (nI 111)) hx hy dX2_tell_62 (by decide) ?_
                refine i_eq hx hy (tgt := 74) dX2_tell_64 (by decide) (fun c_64 => ?_) (fun c_64 => ?_)
                · skip
                  refine lv_aload_n hx hy dX2_tell_74 rfl (lv_at hl 3 rfl) ?_
                  refine lv_iload hx hy dX2_tell_75 (lv_at hl 0 rfl) ?_
                  refine lv_aload_n hx hy dX2_tell_77 rfl (lv_at hl 4 rfl) ?_
                  refine g_f C h (hb 16 (by decide)) (lo_Row hc) (celF_Row hc) rfl in_X2_tell_X3 2 (by decide) (by decide +kernel) (v := .ref (V.1 (rAm c))) rfl dX2_tell_78 ?_
                  refine lv_iload hx hy dX2_tell_81 (lv_at hl 1 rfl) ?_
                  refine g_i C h (hb 18 (by decide)) (n := 60) (k := k_2) (lo_Am hc) (celF_Am hc) (by omega) (by decide) (v := (M (rAm c) k_2)) (show (tN M c gb k_2) (rAm c) k_2 = (M (rAm c) k_2) from (congrFun (tN_ne (by simp only [rAm, rLed]; omega) (by simp only [rAm, rPu]; omega)) _)) dX2_tell_83 ?_
                  refine lv_aload_n hx hy dX2_tell_84 rfl (lv_at hl 4 rfl) ?_
                  refine g_f C h (hb 16 (by decide)) (lo_Row hc) (celF_Row hc) rfl in_X2_tell_X3 3 (by decide) (by decide +kernel) (v := .ref (V.1 (rLo c))) rfl dX2_tell_85 ?_
                  refine lv_iload hx hy dX2_tell_88 (lv_at hl 1 rfl) ?_
                  refine g_i C h (hb 19 (by decide)) (n := 60) (k := k_2) (lo_Lo hc) (celF_Lo hc) (by omega) (by decide) (v := (M (rLo c) k_2)) (show (tN M c gb k_2) (rLo c) k_2 = (M (rLo c) k_2) from (congrFun (tN_ne (by simp only [rLed, rLo]; omega) (by simp only [rLo, rPu]; omega)) _)) dX2_tell_90 ?_
                  have ho := hlo k_2 (by omega) (by simp [isOrd, eq_true c_14, eq_false (Nat.not_lt.mpr c_14), eq_true c_41, eq_false (Nat.not_le.mpr c_41), eq_false c_57, eq_true c_64])
                  refine lv_topn ho.2 ?_
                  refine n_go0 C h (n_V (As := [.int (M (rLe c) k_2), .int (M (rAm c) k_2), .int (nI ((M (rLo c) k_2).toNatClampNeg))]) (rest := []) C h X (hb 23 (by decide)) ((lo_Led hc).trans ((celF_Led hc) _)) rfl (c_X2_tellOrder l c hc hb (tN M c gb k_2) R o (M (rLe c) k_2) (M (rAm c) k_2) ((M (rLo c) k_2).toNatClampNeg) ho.1) (cwV 3 C.2.2.2.2.1 gX2_tell_X2_tellOrder rfl rfl rfl (by decide +kernel) ⟨Nat.le_of_ble_eq_true rfl, Nat.le_of_ble_eq_true rfl⟩) rfl hl.1 rfl (Nat.le_of_ble_eq_true rfl) dX2_tell_91 ⟨by decide, by decide⟩) (fun _ _ z => z) (fun v_91 u_91 H locs hpo h => ?_)
                  obtain ⟨rfl, rfl⟩ := hpo
                  refine lv_goto (tgt := 117) hx hy dX2_tell_94 (by decide) ?_
                  refine lv_iinc (v := (nI (k_2 + 1))) (lv' := [(4, .int (nI (k_2 + 1))), (5, .int (M (rLe c) k_2)), (3, .int (nI (rCnt M c sz))), (0, .ref (V.1 (rLed c))), (1, .ref (V.1 (rRow c))), (2, .int gb)]) hx hy dX2_tell_117 hl (k := 1) rfl (nI_1 _) (by decide) rfl (fun ls hl => ?_)
                  refine lv_goto (tgt := 38) hx hy dX2_tell_120 (by decide) ?_
                  exact ih_38 (k_2 + 1) (by omega) _ _ (by rw [show ((tN M c gb (k_2 + 1), R, o) : wW) = (tOrd (tN M c gb k_2) c (M (rLe c) k_2) (M (rAm c) k_2) ((M (rLo c) k_2).toNatClampNeg), R, o) from by simp [tN, tStep, isOrd, eq_true c_14, eq_false (Nat.not_lt.mpr c_14), eq_true c_41, eq_false (Nat.not_le.mpr c_41), eq_false c_57, eq_true c_64]]; exact h) _ (by have hl := lv_sub hl [0, 2, 3, 4, 5] (l' := [(4, .int (nI (k_2 + 1))), (3, .int (nI (rCnt M c sz))), (0, .ref (V.1 (rLed c))), (1, .ref (V.1 (rRow c))), (2, .int gb)]) rfl; rw [show (.int (nI (k_2 + 1)) : Value) = .int (nI (k_2 + 1)) from rfl] at hl; exact hl)
                · skip
                  refine lv_iload hx hy dX2_tell_67 (lv_at hl 0 rfl) ?_
                  refine lv_bipush (v := (nI 114)) hx hy dX2_tell_69 (by decide) ?_
                  refine i_ne hx hy (tgt := 97) dX2_tell_71 (by decide) (fun c_71 => ?_) (fun c_71 => ?_)
                  · skip
                    refine lv_aload_n hx hy dX2_tell_97 rfl (lv_at hl 3 rfl) ?_
                    refine lv_iload hx hy dX2_tell_98 (lv_at hl 0 rfl) ?_
                    refine lv_aload_n hx hy dX2_tell_100 rfl (lv_at hl 4 rfl) ?_
                    refine g_f C h (hb 16 (by decide)) (lo_Row hc) (celF_Row hc) rfl in_X2_tell_X3 2 (by decide) (by decide +kernel) (v := .ref (V.1 (rAm c))) rfl dX2_tell_101 ?_
                    refine lv_iload hx hy dX2_tell_104 (lv_at hl 1 rfl) ?_
                    refine g_i C h (hb 18 (by decide)) (n := 60) (k := k_2) (lo_Am hc) (celF_Am hc) (by omega) (by decide) (v := (M (rAm c) k_2)) (show (tN M c gb k_2) (rAm c) k_2 = (M (rAm c) k_2) from (congrFun (tN_ne (by simp only [rAm, rLed]; omega) (by simp only [rAm, rPu]; omega)) _)) dX2_tell_106 ?_
                    refine lv_aload_n hx hy dX2_tell_107 rfl (lv_at hl 4 rfl) ?_
                    refine g_f C h (hb 16 (by decide)) (lo_Row hc) (celF_Row hc) rfl in_X2_tell_X3 5 (by decide) (by decide +kernel) (v := .ref (V.1 (rFh c))) rfl dX2_tell_108 ?_
                    refine lv_iload hx hy dX2_tell_111 (lv_at hl 1 rfl) ?_
                    refine g_z C h (hb 21 (by decide)) (n := 60) (k := k_2) (lo_Fh hc) (celF_Fh hc) (by omega) (by decide) (v := (M (rFh c) k_2)) (show (tN M c gb k_2) (rFh c) k_2 = (M (rFh c) k_2) from (congrFun (tN_ne (by simp only [rFh, rLed]; omega) (by simp only [rFh, rPu]; omega)) _)) dX2_tell_113 ?_
                    refine n_go0 C h (n_V (As := [.int (M (rLe c) k_2), .int (M (rAm c) k_2), .int (M (rFh c) k_2)]) (rest := []) C h X (hb 23 (by decide)) ((lo_Led hc).trans ((celF_Led hc) _)) rfl (c_X2_tellTruce l c hc hb (tN M c gb k_2) R o (M (rLe c) k_2) (M (rAm c) k_2) (M (rFh c) k_2)) (cwV 3 C.2.2.2.2.1 gX2_tell_X2_tellTruce rfl rfl rfl (by decide +kernel) ⟨Nat.le_of_ble_eq_true rfl, Nat.le_of_ble_eq_true rfl⟩) rfl hl.1 rfl (Nat.le_of_ble_eq_true rfl) dX2_tell_114 ⟨by decide, by decide⟩) (fun _ _ z => z) (fun v_114 u_114 H locs hpo h => ?_)
                    obtain ⟨rfl, rfl⟩ := hpo
                    refine lv_iinc (v := (nI (k_2 + 1))) (lv' := [(4, .int (nI (k_2 + 1))), (5, .int (M (rLe c) k_2)), (3, .int (nI (rCnt M c sz))), (0, .ref (V.1 (rLed c))), (1, .ref (V.1 (rRow c))), (2, .int gb)]) hx hy dX2_tell_117 hl (k := 1) rfl (nI_1 _) (by decide) rfl (fun ls hl => ?_)
                    refine lv_goto (tgt := 38) hx hy dX2_tell_120 (by decide) ?_
                    exact ih_38 (k_2 + 1) (by omega) _ _ (by rw [show ((tN M c gb (k_2 + 1), R, o) : wW) = (tTru (tN M c gb k_2) c (M (rLe c) k_2) (M (rAm c) k_2) (M (rFh c) k_2), R, o) from by simp [tN, tStep, isOrd, eq_true c_14, eq_false (Nat.not_lt.mpr c_14), eq_true c_41, eq_false (Nat.not_le.mpr c_41), eq_false c_57, eq_false c_64, eq_false c_71]]; exact h) _ (by have hl := lv_sub hl [0, 2, 3, 4, 5] (l' := [(4, .int (nI (k_2 + 1))), (3, .int (nI (rCnt M c sz))), (0, .ref (V.1 (rLed c))), (1, .ref (V.1 (rRow c))), (2, .int gb)]) rfl; rw [show (.int (nI (k_2 + 1)) : Value) = .int (nI (k_2 + 1)) from rfl] at hl; exact hl)
                  · skip
                    refine lv_aload_n hx hy dX2_tell_74 rfl (lv_at hl 3 rfl) ?_
                    refine lv_iload hx hy dX2_tell_75 (lv_at hl 0 rfl) ?_
                    refine lv_aload_n hx hy dX2_tell_77 rfl (lv_at hl 4 rfl) ?_
                    refine g_f C h (hb 16 (by decide)) (lo_Row hc) (celF_Row hc) rfl in_X2_tell_X3 2 (by decide) (by decide +kernel) (v := .ref (V.1 (rAm c))) rfl dX2_tell_78 ?_
                    refine lv_iload hx hy dX2_tell_81 (lv_at hl 1 rfl) ?_
                    refine g_i C h (hb 18 (by decide)) (n := 60) (k := k_2) (lo_Am hc) (celF_Am hc) (by omega) (by decide) (v := (M (rAm c) k_2)) (show (tN M c gb k_2) (rAm c) k_2 = (M (rAm c) k_2) from (congrFun (tN_ne (by simp only [rAm, rLed]; omega) (by simp only [rAm, rPu]; omega)) _)) dX2_tell_83 ?_
                    refine lv_aload_n hx hy dX2_tell_84 rfl (lv_at hl 4 rfl) ?_
                    refine g_f C h (hb 16 (by decide)) (lo_Row hc) (celF_Row hc) rfl in_X2_tell_X3 3 (by decide) (by decide +kernel) (v := .ref (V.1 (rLo c))) rfl dX2_tell_85 ?_
                    refine lv_iload hx hy dX2_tell_88 (lv_at hl 1 rfl) ?_
                    refine g_i C h (hb 19 (by decide)) (n := 60) (k := k_2) (lo_Lo hc) (celF_Lo hc) (by omega) (by decide) (v := (M (rLo c) k_2)) (show (tN M c gb k_2) (rLo c) k_2 = (M (rLo c) k_2) from (congrFun (tN_ne (by simp only [rLed, rLo]; omega) (by simp only [rLo, rPu]; omega)) _)) dX2_tell_90 ?_
                    have ho := hlo k_2 (by omega) (by simp [isOrd, eq_true c_14, eq_false (Nat.not_lt.mpr c_14), eq_true c_41, eq_false (Nat.not_le.mpr c_41), eq_false c_57, eq_false c_64, eq_true c_71])
                    refine lv_topn ho.2 ?_
                    refine n_go0 C h (n_V (As := [.int (M (rLe c) k_2), .int (M (rAm c) k_2), .int (nI ((M (rLo c) k_2).toNatClampNeg))]) (rest := []) C h X (hb 23 (by decide)) ((lo_Led hc).trans ((celF_Led hc) _)) rfl (c_X2_tellOrder l c hc hb (tN M c gb k_2) R o (M (rLe c) k_2) (M (rAm c) k_2) ((M (rLo c) k_2).toNatClampNeg) ho.1) (cwV 3 C.2.2.2.2.1 gX2_tell_X2_tellOrder rfl rfl rfl (by decide +kernel) ⟨Nat.le_of_ble_eq_true rfl, Nat.le_of_ble_eq_true rfl⟩) rfl hl.1 rfl (Nat.le_of_ble_eq_true rfl) dX2_tell_91 ⟨by decide, by decide⟩) (fun _ _ z => z) (fun v_91 u_91 H locs hpo h => ?_)
                    obtain ⟨rfl, rfl⟩ := hpo
                    refine lv_goto (tgt := 117) hx hy dX2_tell_94 (by decide) ?_
                    refine lv_iinc (v := (nI (k_2 + 1))) (lv' := [(4, .int (nI (k_2 + 1))), (5, .int (M (rLe c) k_2)), (3, .int (nI (rCnt M c sz))), (0, .ref (V.1 (rLed c))), (1, .ref (V.1 (rRow c))), (2, .int gb)]) hx hy dX2_tell_117 hl (k := 1) rfl (nI_1 _) (by decide) rfl (fun ls hl => ?_)
                    refine lv_goto (tgt := 38) hx hy dX2_tell_120 (by decide) ?_
                    exact ih_38 (k_2 + 1) (by omega) _ _ (by rw [show ((tN M c gb (k_2 + 1), R, o) : wW) = (tOrd (tN M c gb k_2) c (M (rLe c) k_2) (M (rAm c) k_2) ((M (rLo c) k_2).toNatClampNeg), R, o) from by simp [tN, tStep, isOrd, eq_true c_14, eq_false (Nat.not_lt.mpr c_14), eq_true c_41, eq_false (Nat.not_le.mpr c_41), eq_false c_57, eq_false c_64, eq_true c_71]]; exact h) _ (by have hl := lv_sub hl [0, 2, 3, 4, 5] (l' := [(4, .int (nI (k_2 + 1))), (3, .int (nI (rCnt M c sz))), (0, .ref (V.1 (rLed c))), (1, .ref (V.1 (rRow c))), (2, .int gb)]) rfl; rw [show (.int (nI (k_2 + 1)) : Value) = .int (nI (k_2 + 1)) from rfl] at hl; exact hl)
        exact L_38 ((rCnt M c sz)) 0 (by omega) _ _ (by rw [show (tN M c gb 0, R, o) = (tBase M c gb, R, o) from rfl]; exact h) _ (lv_sub hl [0, 1, 2, 3, 4] rfl)
      · skip
        exact absurd c_14 (by omega)
    | succ n_12 ih_12 =>
      intro k hk_12 H locs h ls hl
      have hz_12 : k < 4 := by omega
      refine lv_iload_n hx hy dX2_tell_12 rfl (lv_at hl 0 rfl) ?_
      refine lv_iconst (v := (nI 4)) hx hy dX2_tell_13 (by decide) ?_
      refine n_ge hx hy (by omega) (by decide) (tgt := 30) dX2_tell_14 (by decide) (fun c_14 => ?_) (fun c_14 => ?_)
      · skip
        exact absurd c_14 (by omega)
      · skip
        refine lv_aload_n hx hy dX2_tell_17 rfl (lv_at hl 1 rfl) ?_
        refine g_f C h (hb 23 (by decide)) (lo_Led hc) (celF_Led hc) rfl in_X2_tell_X2 2 (by decide) (by decide +kernel) (v := .ref (V.1 (rPu c))) rfl dX2_tell_18 ?_
        refine lv_iload_n hx hy dX2_tell_21 rfl (lv_at hl 0 rfl) ?_
        refine lv_iconst (v := (nI 0)) hx hy dX2_tell_22 (by decide) ?_
        refine s_i C h (hb 24 (by decide)) (lt_Pu hc) (n := 4) (k := k) (celF_Pu hc) (by omega) (by decide) (x := (nI 0)) dX2_tell_23 (fun H locs h => ?_)
        refine lv_iinc (v := (nI (k + 1))) (lv' := [(3, .int (nI (k + 1))), (0, .ref (V.1 (rLed c))), (1, .ref (V.1 (rRow c))), (2, .int gb)]) hx hy dX2_tell_24 hl (k := 0) rfl (nI_1 _) (by decide) rfl (fun ls hl => ?_)
        refine lv_goto (tgt := 12) hx hy dX2_tell_27 (by decide) ?_
        exact ih_12 (k + 1) (by omega) _ _ (by rw [show ((clrN (wr (wr M (rLed c) 0 gb) (rLed c) 1 (nI 0)) (rPu c) (k + 1), R, o) : wW) = (wr (clrN (wr (wr M (rLed c) 0 gb) (rLed c) 1 (nI 0)) (rPu c) k) (rPu c) k (nI 0), R, o) from rfl]; exact h) _ (by have hl := lv_sub hl [0, 1, 2, 3] (l' := [(3, .int (nI (k + 1))), (0, .ref (V.1 (rLed c))), (1, .ref (V.1 (rRow c))), (2, .int gb)]) rfl; rw [show (.int (nI (k + 1)) : Value) = .int (nI (k + 1)) from rfl] at hl; exact hl)
  exact L_12 (4) 0 (by omega) _ _ (by rw [show (clrN (wr (wr M (rLed c) 0 gb) (rLed c) 1 (nI 0)) (rPu c) 0, R, o) = (wr (wr M (rLed c) 0 gb) (rLed c) 1 (nI 0), R, o) from rfl]; exact h) _ (lv_sub hl [0, 1, 2, 3] rfl)

set_option maxRecDepth 20000 in
theorem in_X2_sum_X2 : ∀ x ∈ wsX20, x ∈ wsX2_sum := by decide +kernel
set_option maxRecDepth 100000 in
set_option maxHeartbeats 4000000 in
/-- Ledger.sum -/
theorem c_X2_sum (l : Launch) {G : va_G} {V : wV} {rs : List Nat} (c : Nat) (hc : c < 2) (hb : bC c rs) (M R : wM) (o : wO) : CT l G V rs yX2_sum wsX2_sum 0 0 0 0 [.ref (V.1 (rLed c))] (M, R, o) (fun v u => v = some (.int (lsum M c 4)) ∧ u = (M, R, o)) (fun _ _ => False) := by
  refine ct_of (cc := cX2_sum) (maxL := 3) (ret := (some .int)) (by decide) rfl (Nat.le_of_ble_eq_true rfl) ?_
  intro p e s m below meth cd ls C h X hT hl
  have hx := C.1
  have hy := C.2.1
  have hl : lv_has ls 3 [(0, .ref (V.1 (rLed c)))] := hl
  refine lv_aload_n hx hy dX2_sum_0 rfl (lv_at hl 0 rfl) ?_
  refine g_f C h (hb 23 (by decide)) (lo_Led hc) (celF_Led hc) rfl in_X2_sum_X2 0 (by decide) (by decide +kernel) (v := .int (M (rLed c) 0)) rfl dX2_sum_1 ?_
  refine lv_istore_n (lv' := [(1, .int (M (rLed c) 0)), (0, .ref (V.1 (rLed c)))]) hx hy dX2_sum_4 rfl hl (by decide) rfl (fun ls hl => ?_)
  refine lv_iconst (v := (nI 0)) hx hy dX2_sum_5 (by decide) ?_
  refine lv_istore_n (lv' := [(2, .int (nI 0)), (1, .int (M (rLed c) 0)), (0, .ref (V.1 (rLed c)))]) hx hy dX2_sum_6 rfl hl (by decide) rfl (fun ls hl => ?_)
  have L_7 : ∀ (n_7 k : Nat), n_7 + k = 4 → ∀ (H : Heap) (locs : List Loc), HH G V rs (M, R, o) s H locs → ∀ ls : Array Slot, lv_has ls 3 [(2, .int (nI k)), (1, .int (lsum M c k)), (0, .ref (V.1 (rLed c)))] → W p l e { frames := 0, cells := 0, slots := 0, locals := 0 } s m [.ref (V.1 (rLed c))].toArray below meth cd H locs 0 0 (QM G V rs below [.ref (V.1 (rLed c))].toArray s 0 0 (fun v u => v = some (.int (lsum M c 4)) ∧ u = (M, R, o)) (fun _ _ => False)) (F0 m 7 ls []) := by
    intro n_7
    induction n_7 with
    | zero =>
      intro k hk_7 H locs h ls hl
      have hz_7 : k = 4 := by omega
      try rw [hz_7] at h
      try rw [hz_7] at hl
      refine lv_iload_n hx hy dX2_sum_7 rfl (lv_at hl 0 rfl) ?_
      refine lv_iconst (v := (nI 4)) hx hy dX2_sum_8 (by decide) ?_
      refine n_ge hx hy (by decide) (by decide) (tgt := 27) dX2_sum_9 (by decide) (fun c_9 => ?_) (fun c_9 => ?_)
      · skip
        refine lv_iload_n hx hy dX2_sum_27 rfl (lv_at hl 1 rfl) ?_
        exact e_int C h rfl dX2_sum_28 (⟨rfl, rfl⟩) (by decide) (by decide)
      · skip
        exact absurd c_9 (by omega)
    | succ n_7 ih_7 =>
      intro k hk_7 H locs h ls hl
      have hz_7 : k < 4 := by omega
      refine lv_iload_n hx hy dX2_sum_7 rfl (lv_at hl 0 rfl) ?_
      refine lv_iconst (v := (nI 4)) hx hy dX2_sum_8 (by decide) ?_
      refine n_ge hx hy (by omega) (by decide) (tgt := 27) dX2_sum_9 (by decide) (fun c_9 => ?_) (fun c_9 => ?_)
      · skip
        exact absurd c_9 (by omega)
      · skip
        refine lv_iload_n hx hy dX2_sum_12 rfl (lv_at hl 1 rfl) ?_
        refine lv_aload_n hx hy dX2_sum_13 rfl (lv_at hl 2 rfl) ?_
        refine g_f C h (hb 23 (by decide)) (lo_Led hc) (celF_Led hc) rfl in_X2_sum_X2 2 (by decide) (by decide +kernel) (v := .ref (V.1 (rPu c))) rfl dX2_sum_14 ?_
        refine lv_iload_n hx hy dX2_sum_17 rfl (lv_at hl 0 rfl) ?_
        refine g_i C h (hb 24 (by decide)) (n := 4) (k := k) (lo_Pu hc) (celF_Pu hc) (by omega) (by decide) (v := (M (rPu c) k)) rfl dX2_sum_18 ?_
        refine lv_iadd hx hy dX2_sum_19 ?_
        refine lv_istore_n (lv' := [(1, .int ((lsum M c k) + (M (rPu c) k))), (2, .int (nI k)), (0, .ref (V.1 (rLed c)))]) hx hy dX2_sum_20 rfl hl (by decide) rfl (fun ls hl => ?_)
        refine lv_iinc (v := (nI (k + 1))) (lv' := [(2, .int (nI (k + 1))), (1, .int ((lsum M c k) + (M (rPu c) k))), (0, .ref (V.1 (rLed c)))]) hx hy dX2_sum_21 hl (k := 1) rfl (nI_1 _) (by decide) rfl (fun ls hl => ?_)
        refine lv_goto (tgt := 7) hx hy dX2_sum_24 (by decide) ?_
        exact ih_7 (k + 1) (by omega) _ _ h _ (by have hl := lv_sub hl [0, 1, 2] (l' := [(2, .int (nI (k + 1))), (1, .int ((lsum M c k) + (M (rPu c) k))), (0, .ref (V.1 (rLed c)))]) rfl; rw [show (.int (nI (k + 1)) : Value) = .int (nI (k + 1)) from rfl] at hl; rw [show (.int ((lsum M c k) + (M (rPu c) k)) : Value) = .int (lsum M c (k + 1)) from rfl] at hl; exact hl)
  exact L_7 (4) 0 (by omega) _ _ h _ (by have hl := lv_sub hl [0, 1, 2] (l' := [(2, .int (nI 0)), (1, .int (M (rLed c) 0)), (0, .ref (V.1 (rLed c)))]) rfl; rw [show (.int (M (rLed c) 0) : Value) = .int (lsum M c 0) from rfl] at hl; exact hl)

set_option maxRecDepth 20000 in
theorem in_X2_isInBounds_X2 : ∀ x ∈ wsX20, x ∈ wsX2_isInBounds := by decide +kernel
set_option maxRecDepth 100000 in
set_option maxHeartbeats 4000000 in
/-- Ledger.isInBounds -/
theorem c_X2_isInBounds (l : Launch) {G : va_G} {V : wV} {rs : List Nat} (c : Nat) (hc : c < 2) (hb : bC c rs) (M R : wM) (o : wO) : CT l G V rs yX2_isInBounds wsX2_isInBounds 0 0 0 0 [.ref (V.1 (rLed c))] (M, R, o) (fun v u => v = some (.int (b2i (inB M c))) ∧ u = (M, R, o)) (fun _ _ => False) := by
  refine ct_of (cc := cX2_isInBounds) (maxL := 2) (ret := (some .boolean)) (by decide) rfl (Nat.le_of_ble_eq_true rfl) ?_
  intro p e s m below meth cd ls C h X hT hl
  have hx := C.1
  have hy := C.2.1
  have hl : lv_has ls 2 [(0, .ref (V.1 (rLed c)))] := hl
  refine lv_iconst (v := (nI 0)) hx hy dX2_isInBounds_0 (by decide) ?_
  refine lv_istore_n (lv' := [(1, .int (nI 0)), (0, .ref (V.1 (rLed c)))]) hx hy dX2_isInBounds_1 rfl hl (by decide) rfl (fun ls hl => ?_)
  have L_2 : ∀ (n_2 k : Nat), n_2 + k = 4 → (∀ j, j < k → (fun k => decide (0 ≤ M (rPu c) k)) j = true) → ∀ (H : Heap) (locs : List Loc), HH G V rs (M, R, o) s H locs → ∀ ls : Array Slot, lv_has ls 2 [(1, .int (nI k)), (0, .ref (V.1 (rLed c)))] → W p l e { frames := 0, cells := 0, slots := 0, locals := 0 } s m [.ref (V.1 (rLed c))].toArray below meth cd H locs 0 0 (QM G V rs below [.ref (V.1 (rLed c))].toArray s 0 0 (fun v u => v = some (.int (b2i (inB M c))) ∧ u = (M, R, o)) (fun _ _ => False)) (F0 m 2 ls []) := by
    intro n_2
    induction n_2 with
    | zero =>
      intro k hk_2 hx2_0 H locs h ls hl
      have hz_2 : k = 4 := by omega
      try rw [hz_2] at h
      try rw [hz_2] at hl
      try rw [hz_2] at hx2_0
      refine lv_iload_n hx hy dX2_isInBounds_2 rfl (lv_at hl 0 rfl) ?_
      refine lv_iconst (v := (nI 4)) hx hy dX2_isInBounds_3 (by decide) ?_
      refine n_ge hx hy (by decide) (by decide) (tgt := 24) dX2_isInBounds_4 (by decide) (fun c_4 => ?_) (fun c_4 => ?_)
      · skip
        refine lv_aload_n hx hy dX2_isInBounds_24 rfl (lv_at hl 1 rfl) ?_
        refine g_f C h (hb 23 (by decide)) (lo_Led hc) (celF_Led hc) rfl in_X2_isInBounds_X2 1 (by decide) (by decide +kernel) (v := .int (M (rLed c) 1)) rfl dX2_isInBounds_25 ?_
        refine z_lt hx hy (tgt := 46) dX2_isInBounds_28 (by decide) (fun c_28 => ?_) (fun c_28 => ?_)
        · skip
          refine lv_iconst (v := (nI 0)) hx hy dX2_isInBounds_46 (by decide) ?_
          exact e_int C h (by decide) dX2_isInBounds_47 (⟨by have h8 : decide (lead (fun k => decide (0 ≤ M (rPu c) k)) 4 = 4) = true := decide_eq_true (lead_all hx2_0); simp [inB, b2i, h8, eq_true c_4, eq_false (Nat.not_lt.mpr c_4), eq_true c_28, eq_false (Int32.not_le.mpr c_28)], rfl⟩) (by decide) (by decide)
        · skip
          refine lv_aload_n hx hy dX2_isInBounds_31 rfl (lv_at hl 1 rfl) ?_
          refine g_f C h (hb 23 (by decide)) (lo_Led hc) (celF_Led hc) rfl in_X2_isInBounds_X2 0 (by decide) (by decide +kernel) (v := .int (M (rLed c) 0)) rfl dX2_isInBounds_32 ?_
          refine lv_aload_n hx hy dX2_isInBounds_35 rfl (lv_at hl 1 rfl) ?_
          refine g_f C h (hb 23 (by decide)) (lo_Led hc) (celF_Led hc) rfl in_X2_isInBounds_X2 1 (by decide) (by decide +kernel) (v := .int (M (rLed c) 1)) rfl dX2_isInBounds_36 ?_
          refine i_lt hx hy (tgt := 46) dX2_isInBounds_39 (by decide) (fun c_39 => ?_) (fun c_39 => ?_)
          · skip
            refine lv_iconst (v := (nI 0)) hx hy dX2_isInBounds_46 (by decide) ?_
            exact e_int C h (by decide) dX2_isInBounds_47 (⟨by have h8 : decide (lead (fun k => decide (0 ≤ M (rPu c) k)) 4 = 4) = true := decide_eq_true (lead_all hx2_0); simp [inB, b2i, h8, eq_true c_4, eq_false (Nat.not_lt.mpr c_4), eq_true c_28, eq_false (Int32.not_lt.mpr c_28), eq_true c_39, eq_false (Int32.not_le.mpr c_39)], rfl⟩) (by decide) (by decide)
          · skip
            refine lv_iconst (v := (nI 1)) hx hy dX2_isInBounds_42 (by decide) ?_
            refine lv_goto (tgt := 47) hx hy dX2_isInBounds_43 (by decide) ?_
            exact e_int C h (by decide) dX2_isInBounds_47 (⟨by have h8 : decide (lead (fun k => decide (0 ≤ M (rPu c) k)) 4 = 4) = true := decide_eq_true (lead_all hx2_0); simp [inB, b2i, h8, eq_true c_4, eq_false (Nat.not_lt.mpr c_4), eq_true c_28, eq_false (Int32.not_lt.mpr c_28), eq_true c_39, eq_false (Int32.not_lt.mpr c_39)], rfl⟩) (by decide) (by decide)
      · skip
        exact absurd c_4 (by omega)
    | succ n_2 ih_2 =>
      intro k hk_2 hx2_0 H locs h ls hl
      have hz_2 : k < 4 := by omega
      refine lv_iload_n hx hy dX2_isInBounds_2 rfl (lv_at hl 0 rfl) ?_
      refine lv_iconst (v := (nI 4)) hx hy dX2_isInBounds_3 (by decide) ?_
      refine n_ge hx hy (by omega) (by decide) (tgt := 24) dX2_isInBounds_4 (by decide) (fun c_4 => ?_) (fun c_4 => ?_)
      · skip
        exact absurd c_4 (by omega)
      · skip
        refine lv_aload_n hx hy dX2_isInBounds_7 rfl (lv_at hl 1 rfl) ?_
        refine g_f C h (hb 23 (by decide)) (lo_Led hc) (celF_Led hc) rfl in_X2_isInBounds_X2 2 (by decide) (by decide +kernel) (v := .ref (V.1 (rPu c))) rfl dX2_isInBounds_8 ?_
        refine lv_iload_n hx hy dX2_isInBounds_11 rfl (lv_at hl 0 rfl) ?_
        refine g_i C h (hb 24 (by decide)) (n := 4) (k := k) (lo_Pu hc) (celF_Pu hc) (by omega) (by decide) (v := (M (rPu c) k)) rfl dX2_isInBounds_12 ?_
        refine z_ge hx hy (tgt := 18) dX2_isInBounds_13 (by decide) (fun c_13 => ?_) (fun c_13 => ?_)
        · skip
          refine lv_iinc (v := (nI (k + 1))) (lv' := [(1, .int (nI (k + 1))), (0, .ref (V.1 (rLed c)))]) hx hy dX2_isInBounds_18 hl (k := 0) rfl (nI_1 _) (by decide) rfl (fun ls hl => ?_)
          refine lv_goto (tgt := 2) hx hy dX2_isInBounds_21 (by decide) ?_
          exact ih_2 (k + 1) (by omega) (ext_lt hx2_0 (by simp [eq_true c_4, eq_false (Nat.not_le.mpr c_4), eq_true c_13, eq_false (Int32.not_lt.mpr c_13)])) _ _ h _ (by have hl := lv_sub hl [0, 1] (l' := [(1, .int (nI (k + 1))), (0, .ref (V.1 (rLed c)))]) rfl; rw [show (.int (nI (k + 1)) : Value) = .int (nI (k + 1)) from rfl] at hl; exact hl)
        · skip
          refine lv_iconst (v := (nI 0)) hx hy dX2_isInBounds_16 (by decide) ?_
          exact e_int C h (by decide) dX2_isInBounds_17 (⟨by have h9 := lead_at (p := (fun k => decide (0 ≤ M (rPu c) k))) (n := 4) (Nat.le_of_lt hz_2) hx2_0 (by simp [eq_true c_4, eq_false (Nat.not_le.mpr c_4), eq_true c_13, eq_false (Int32.not_le.mpr c_13)]); have h8 : decide (lead (fun k => decide (0 ≤ M (rPu c) k)) 4 = 4) = false := decide_eq_false (by omega); simp only [inB, b2i, h8]; rfl, rfl⟩) (by decide) (by decide)
  exact L_2 (4) 0 (by omega) (fun j hj => absurd hj (Nat.not_lt_zero j)) _ _ h _ (lv_sub hl [0, 1] rfl)

set_option maxRecDepth 20000 in
theorem in_X0_raiseWalls_X0 : ∀ x ∈ wsX00, x ∈ wsX0_raiseWalls := by decide +kernel
set_option maxRecDepth 20000 in
theorem in_X0_raiseWalls_X3 : ∀ x ∈ wsX30, x ∈ wsX0_raiseWalls := by decide +kernel
set_option maxRecDepth 100000 in
set_option maxHeartbeats 4000000 in
/-- Castle.raiseWalls -/
theorem c_X0_raiseWalls (l : Launch) {G : va_G} {V : wV} {rs : List Nat} (c : Nat) (hc : c < 2) (hb : bC c rs) (M R : wM) (o : wO) (tw gd : Int32) : CT l G V rs yX0_raiseWalls wsX0_raiseWalls 1 21 0 0 [.ref (V.1 (rCas c)), .int tw, .int gd] (M, R, o) (fun v u => v = none ∧ u = (cRaise M c tw gd, R, o)) (fun _ _ => False) := by
  refine ct_of (cc := cX0_raiseWalls) (maxL := 4) (ret := none) (by decide) rfl (Nat.le_of_ble_eq_true rfl) ?_
  intro p e s m below meth cd ls C h X hT hl
  have hx := C.1
  have hy := C.2.1
  have hl : lv_has ls 4 [(0, .ref (V.1 (rCas c))), (1, .int tw), (2, .int gd)] := hl
  refine lv_aload_n hx hy dX0_raiseWalls_0 rfl (lv_at hl 0 rfl) ?_
  refine lv_iload_n hx hy dX0_raiseWalls_1 rfl (lv_at hl 1 rfl) ?_
  refine p_f C h (hb 0 (by decide)) (lt_Cas hc) (celF_Cas hc) rfl in_X0_raiseWalls_X0 tyX0_ok nmX0 0 (by decide) (by decide +kernel) rfl (v := .int tw) (x := tw) rfl rfl (fun _ => Nat.le_of_ble_eq_true rfl) (fun _ => rfl) dX0_raiseWalls_2 (fun H locs h => ?_)
  refine lv_aload_n hx hy dX0_raiseWalls_5 rfl (lv_at hl 0 rfl) ?_
  refine lv_iload_n hx hy dX0_raiseWalls_6 rfl (lv_at hl 2 rfl) ?_
  refine p_f C h (hb 0 (by decide)) (lt_Cas hc) (celF_Cas hc) rfl in_X0_raiseWalls_X0 tyX0_ok nmX0 1 (by decide) (by decide +kernel) rfl (v := .int gd) (x := gd) rfl rfl (fun _ => Nat.le_of_ble_eq_true rfl) (fun _ => rfl) dX0_raiseWalls_7 (fun H locs h => ?_)
  refine lv_aload_n hx hy dX0_raiseWalls_10 rfl (lv_at hl 0 rfl) ?_
  refine lv_dup hx hy dX0_raiseWalls_11 rfl ?_
  refine g_f C h (hb 0 (by decide)) (lo_Cas hc) (celF_Cas hc) rfl in_X0_raiseWalls_X0 2 (by decide) (by decide +kernel) (v := .int (M (rCas c) 2)) (congrArg (fun z => some (Value.int z)) (show (wr (wr M (rCas c) 0 tw) (rCas c) 1 gd) (rCas c) 2 = (M (rCas c) 2) from ((wr_othj (by decide)).trans (wr_othj (by decide))))) dX0_raiseWalls_12 ?_
  refine lv_iconst (v := (nI 1)) hx hy dX0_raiseWalls_15 (by decide) ?_
  refine lv_iadd hx hy dX0_raiseWalls_16 ?_
  refine p_f C h (hb 0 (by decide)) (lt_Cas hc) (celF_Cas hc) rfl in_X0_raiseWalls_X0 tyX0_ok nmX0 2 (by decide) (by decide +kernel) rfl (v := .int ((M (rCas c) 2) + (nI 1))) (x := ((M (rCas c) 2) + (nI 1))) rfl rfl (fun _ => Nat.le_of_ble_eq_true rfl) (fun _ => rfl) dX0_raiseWalls_17 (fun H locs h => ?_)
  refine lv_aload_n hx hy dX0_raiseWalls_20 rfl (lv_at hl 0 rfl) ?_
  refine lv_iconst (v := (nI 1)) hx hy dX0_raiseWalls_21 (by decide) ?_
  refine lv_iload_n hx hy dX0_raiseWalls_22 rfl (lv_at hl 1 rfl) ?_
  refine lv_ishl hx hy dX0_raiseWalls_23 ?_
  refine lv_iconst (v := (nI 1)) hx hy dX0_raiseWalls_24 (by decide) ?_
  refine lv_isub hx hy dX0_raiseWalls_25 ?_
  refine p_f C h (hb 0 (by decide)) (lt_Cas hc) (celF_Cas hc) rfl in_X0_raiseWalls_X0 tyX0_ok nmX0 3 (by decide) (by decide +kernel) rfl (v := .int (((nI 1) <<< (tw &&& 31)) - (nI 1))) (x := (((nI 1) <<< (tw &&& 31)) - (nI 1))) rfl rfl (fun _ => Nat.le_of_ble_eq_true rfl) (fun _ => rfl) dX0_raiseWalls_26 (fun H locs h => ?_)
  refine lv_iconst (v := (nI 0)) hx hy dX0_raiseWalls_29 (by decide) ?_
  refine lv_istore_n (lv' := [(3, .int (nI 0)), (0, .ref (V.1 (rCas c))), (1, .int tw), (2, .int gd)]) hx hy dX0_raiseWalls_30 rfl hl (by decide) rfl (fun ls hl => ?_)
  have L_31 : ∀ (n_31 k : Nat), n_31 + k = 7 → ∀ (H : Heap) (locs : List Loc), HH G V rs (clrN (rwB M c tw gd) (rWt c) k, R, o) s H locs → ∀ ls : Array Slot, lv_has ls 4 [(3, .int (nI k)), (0, .ref (V.1 (rCas c))), (1, .int tw), (2, .int gd)] → W p l e { frames := 1, cells := 0, slots := 0, locals := 21 } s m [.ref (V.1 (rCas c)), .int tw, .int gd].toArray below meth cd H locs 0 0 (QM G V rs below [.ref (V.1 (rCas c)), .int tw, .int gd].toArray s 0 0 (fun v u => v = none ∧ u = (cRaise M c tw gd, R, o)) (fun _ _ => False)) (F0 m 31 ls []) := by
    intro n_31
    induction n_31 with
    | zero =>
      intro k hk_31 H locs h ls hl
      have hz_31 : k = 7 := by omega
      try rw [hz_31] at h
      try rw [hz_31] at hl
      refine lv_iload_n hx hy dX0_raiseWalls_31 rfl (lv_at hl 0 rfl) ?_
      refine lv_bipush (v := (nI 7)) hx hy dX0_raiseWalls_32 (by decide) ?_
      refine n_ge hx hy (by decide) (by decide) (tgt := 50) dX0_raiseWalls_34 (by decide) (fun c_34 => ?_) (fun c_34 => ?_)
      · skip
        refine lv_iconst (v := (nI 0)) hx hy dX0_raiseWalls_50 (by decide) ?_
        refine lv_istore_n (lv' := [(3, .int (nI 0)), (0, .ref (V.1 (rCas c))), (1, .int tw), (2, .int gd)]) hx hy dX0_raiseWalls_51 rfl hl (by decide) rfl (fun ls hl => ?_)
        have L_52 : ∀ (n_52 k_2 : Nat), n_52 + k_2 = 4 → ∀ (H : Heap) (locs : List Loc), HH G V rs (clrN (clrN (rwB M c tw gd) (rWt c) 7) (rCt c) k_2, R, o) s H locs → ∀ ls : Array Slot, lv_has ls 4 [(3, .int (nI k_2)), (0, .ref (V.1 (rCas c))), (1, .int tw), (2, .int gd)] → W p l e { frames := 1, cells := 0, slots := 0, locals := 21 } s m [.ref (V.1 (rCas c)), .int tw, .int gd].toArray below meth cd H locs 0 0 (QM G V rs below [.ref (V.1 (rCas c)), .int tw, .int gd].toArray s 0 0 (fun v u => v = none ∧ u = (cRaise M c tw gd, R, o)) (fun _ _ => False)) (F0 m 52 ls []) := by
          intro n_52
          induction n_52 with
          | zero =>
            intro k_2 hk_52 H locs h ls hl
            have hz_52 : k_2 = 4 := by omega
            try rw [hz_52] at h
            try rw [hz_52] at hl
            refine lv_iload_n hx hy dX0_raiseWalls_52 rfl (lv_at hl 0 rfl) ?_
            refine lv_iconst (v := (nI 4)) hx hy dX0_raiseWalls_53 (by decide) ?_
            refine n_ge hx hy (by decide) (by decide) (tgt := 70) dX0_raiseWalls_54 (by decide) (fun c_54 => ?_) (fun c_54 => ?_)
            · skip
              refine lv_iconst (v := (nI 0)) hx hy dX0_raiseWalls_70 (by decide) ?_
              refine lv_istore_n (lv' := [(3, .int (nI 0)), (0, .ref (V.1 (rCas c))), (1, .int tw), (2, .int gd)]) hx hy dX0_raiseWalls_71 rfl hl (by decide) rfl (fun ls hl => ?_)
              have L_72 : ∀ (n_72 k_3 : Nat), n_72 + k_3 = 3 → ∀ (H : Heap) (locs : List Loc), HH G V rs (gcN (clrN (clrN (rwB M c tw gd) (rWt c) 7) (rCt c) 4) c k_3, R, o) s H locs → ∀ ls : Array Slot, lv_has ls 4 [(3, .int (nI k_3)), (0, .ref (V.1 (rCas c))), (1, .int tw), (2, .int gd)] → W p l e { frames := 1, cells := 0, slots := 0, locals := 21 } s m [.ref (V.1 (rCas c)), .int tw, .int gd].toArray below meth cd H locs 0 0 (QM G V rs below [.ref (V.1 (rCas c)), .int tw, .int gd].toArray s 0 0 (fun v u => v = none ∧ u = (cRaise M c tw gd, R, o)) (fun _ _ => False)) (F0 m 72 ls []) := by
                intro n_72
                induction n_72 with
                | zero =>
                  intro k_3 hk_72 H locs h ls hl
                  have hz_72 : k_3 = 3 := by omega
                  try rw [hz_72] at h
                  try rw [hz_72] at hl
                  refine lv_iload_n hx hy dX0_raiseWalls_72 rfl (lv_at hl 0 rfl) ?_
                  refine lv_iconst (v := (nI 3)) hx hy dX0_raiseWalls_73 (by decide) ?_
                  refine n_ge hx hy (by decide) (by decide) (tgt := 92) dX0_raiseWalls_74 (by decide) (fun c_74 => ?_) (fun c_74 => ?_)
                  · skip
                    refine lv_aload_n hx hy dX0_raiseWalls_92 rfl (lv_at hl 1 rfl) ?_
                    refine g_f C h (hb 0 (by decide)) (lo_Cas hc) (celF_Cas hc) rfl in_X0_raiseWalls_X0 7 (by decide) (by decide +kernel) (v := .ref (V.1 (rRow c))) rfl dX0_raiseWalls_93 ?_
                    refine lv_iconst (v := (nI 0)) hx hy dX0_raiseWalls_96 (by decide) ?_
                    refine p_f C h (hb 16 (by decide)) (lt_Row hc) (celF_Row hc) rfl in_X0_raiseWalls_X3 tyX3_ok nmX3 0 (by decide) (by decide +kernel) rfl (v := .int (nI 0)) (x := (nI 0)) rfl rfl (fun _ => Nat.le_of_ble_eq_true rfl) (fun _ => rfl) dX0_raiseWalls_97 (fun H locs h => ?_)
                    exact e_void C h dX0_raiseWalls_100 (⟨rfl, rfl⟩) (by decide) (by decide)
                  · skip
                    exact absurd c_74 (by omega)
                | succ n_72 ih_72 =>
                  intro k_3 hk_72 H locs h ls hl
                  have hz_72 : k_3 < 3 := by omega
                  refine lv_iload_n hx hy dX0_raiseWalls_72 rfl (lv_at hl 0 rfl) ?_
                  refine lv_iconst (v := (nI 3)) hx hy dX0_raiseWalls_73 (by decide) ?_
                  refine n_ge hx hy (by omega) (by decide) (tgt := 92) dX0_raiseWalls_74 (by decide) (fun c_74 => ?_) (fun c_74 => ?_)
                  · skip
                    exact absurd c_74 (by omega)
                  · skip
                    refine lv_aload_n hx hy dX0_raiseWalls_77 rfl (lv_at hl 1 rfl) ?_
                    refine g_f C h (hb 0 (by decide)) (lo_Cas hc) (celF_Cas hc) rfl in_X0_raiseWalls_X0 6 (by decide) (by decide +kernel) (v := .ref (V.1 (rGs c))) rfl dX0_raiseWalls_78 ?_
                    refine lv_iload_n hx hy dX0_raiseWalls_81 rfl (lv_at hl 0 rfl) ?_
                    refine g_a C h (hb 3 (by decide)) 3 (n := 3) (k := k_3) (lo_Gs hc) ((celF_Gs hc) _) rfl (by omega) (by decide) (a := V.1 (rGate c k_3)) rfl dX0_raiseWalls_82 ?_
                    refine n_go0 C h (n_V (As := []) (rest := []) C h X (hb (4 + 4 * k_3) (by omega)) ((lo_Gate hc (by omega)).trans ((celF_Gate hc (by omega)) _)) rfl (c_X1_clear l c k_3 hc (by omega) hb (gcN (clrN (clrN (rwB M c tw gd) (rWt c) 7) (rCt c) 4) c k_3) R o ) (cwV 0 C.2.2.2.2.1 gX0_raiseWalls_X1_clear rfl rfl rfl (by decide +kernel) ⟨Nat.le_of_ble_eq_true rfl, Nat.le_of_ble_eq_true rfl⟩) rfl hl.1 rfl (Nat.le_of_ble_eq_true rfl) dX0_raiseWalls_83 ⟨by decide, by decide⟩) (fun _ _ z => z) (fun v_83 u_83 H locs hpo h => ?_)
                    obtain ⟨rfl, rfl⟩ := hpo
                    refine lv_iinc (v := (nI (k_3 + 1))) (lv' := [(3, .int (nI (k_3 + 1))), (0, .ref (V.1 (rCas c))), (1, .int tw), (2, .int gd)]) hx hy dX0_raiseWalls_86 hl (k := 0) rfl (nI_1 _) (by decide) rfl (fun ls hl => ?_)
                    refine lv_goto (tgt := 72) hx hy dX0_raiseWalls_89 (by decide) ?_
                    exact ih_72 (k_3 + 1) (by omega) _ _ (by rw [show ((gcN (clrN (clrN (rwB M c tw gd) (rWt c) 7) (rCt c) 4) c (k_3 + 1), R, o) : wW) = (gClear (gcN (clrN (clrN (rwB M c tw gd) (rWt c) 7) (rCt c) 4) c k_3) c k_3, R, o) from rfl]; exact h) _ (by have hl := lv_sub hl [0, 1, 2, 3] (l' := [(3, .int (nI (k_3 + 1))), (0, .ref (V.1 (rCas c))), (1, .int tw), (2, .int gd)]) rfl; rw [show (.int (nI (k_3 + 1)) : Value) = .int (nI (k_3 + 1)) from rfl] at hl; exact hl)
              exact L_72 (3) 0 (by omega) _ _ (by rw [show (gcN (clrN (clrN (rwB M c tw gd) (rWt c) 7) (rCt c) 4) c 0, R, o) = (clrN (clrN (rwB M c tw gd) (rWt c) 7) (rCt c) 4, R, o) from rfl]; exact h) _ (lv_sub hl [0, 1, 2, 3] rfl)
            · skip
              exact absurd c_54 (by omega)
          | succ n_52 ih_52 =>
            intro k_2 hk_52 H locs h ls hl
            have hz_52 : k_2 < 4 := by omega
            refine lv_iload_n hx hy dX0_raiseWalls_52 rfl (lv_at hl 0 rfl) ?_
            refine lv_iconst (v := (nI 4)) hx hy dX0_raiseWalls_53 (by decide) ?_
            refine n_ge hx hy (by omega) (by decide) (tgt := 70) dX0_raiseWalls_54 (by decide) (fun c_54 => ?_) (fun c_54 => ?_)
            · skip
              exact absurd c_54 (by omega)
            · skip
              refine lv_aload_n hx hy dX0_raiseWalls_57 rfl (lv_at hl 1 rfl) ?_
              refine g_f C h (hb 0 (by decide)) (lo_Cas hc) (celF_Cas hc) rfl in_X0_raiseWalls_X0 5 (by decide) (by decide +kernel) (v := .ref (V.1 (rCt c))) rfl dX0_raiseWalls_58 ?_
              refine lv_iload_n hx hy dX0_raiseWalls_61 rfl (lv_at hl 0 rfl) ?_
              refine lv_iconst (v := (nI 0)) hx hy dX0_raiseWalls_62 (by decide) ?_
              refine s_i C h (hb 2 (by decide)) (lt_Ct hc) (n := 4) (k := k_2) (celF_Ct hc) (by omega) (by decide) (x := (nI 0)) dX0_raiseWalls_63 (fun H locs h => ?_)
              refine lv_iinc (v := (nI (k_2 + 1))) (lv' := [(3, .int (nI (k_2 + 1))), (0, .ref (V.1 (rCas c))), (1, .int tw), (2, .int gd)]) hx hy dX0_raiseWalls_64 hl (k := 0) rfl (nI_1 _) (by decide) rfl (fun ls hl => ?_)
              refine lv_goto (tgt := 52) hx hy dX0_raiseWalls_67 (by decide) ?_
              exact ih_52 (k_2 + 1) (by omega) _ _ (by rw [show ((clrN (clrN (rwB M c tw gd) (rWt c) 7) (rCt c) (k_2 + 1), R, o) : wW) = (wr (clrN (clrN (rwB M c tw gd) (rWt c) 7) (rCt c) k_2) (rCt c) k_2 (nI 0), R, o) from rfl]; exact h) _ (by have hl := lv_sub hl [0, 1, 2, 3] (l' := [(3, .int (nI (k_2 + 1))), (0, .ref (V.1 (rCas c))), (1, .int tw), (2, .int gd)]) rfl; rw [show (.int (nI (k_2 + 1)) : Value) = .int (nI (k_2 + 1)) from rfl] at hl; exact hl)
        exact L_52 (4) 0 (by omega) _ _ (by rw [show (clrN (clrN (rwB M c tw gd) (rWt c) 7) (rCt c) 0, R, o) = (clrN (rwB M c tw gd) (rWt c) 7, R, o) from rfl]; exact h) _ (lv_sub hl [0, 1, 2, 3] rfl)
      · skip
        exact absurd c_34 (by omega)
    | succ n_31 ih_31 =>
      intro k hk_31 H locs h ls hl
      have hz_31 : k < 7 := by omega
      refine lv_iload_n hx hy dX0_raiseWalls_31 rfl (lv_at hl 0 rfl) ?_
      refine lv_bipush (v := (nI 7)) hx hy dX0_raiseWalls_32 (by decide) ?_
      refine n_ge hx hy (by omega) (by decide) (tgt := 50) dX0_raiseWalls_34 (by decide) (fun c_34 => ?_) (fun c_34 => ?_)
      · skip
        exact absurd c_34 (by omega)
      · skip
        refine lv_aload_n hx hy dX0_raiseWalls_37 rfl (lv_at hl 1 rfl) ?_
        refine g_f C h (hb 0 (by decide)) (lo_Cas hc) (celF_Cas hc) rfl in_X0_raiseWalls_X0 4 (by decide) (by decide +kernel) (v := .ref (V.1 (rWt c))) rfl dX0_raiseWalls_38 ?_
        refine lv_iload_n hx hy dX0_raiseWalls_41 rfl (lv_at hl 0 rfl) ?_
        refine lv_iconst (v := (nI 0)) hx hy dX0_raiseWalls_42 (by decide) ?_
        refine s_i C h (hb 1 (by decide)) (lt_Wt hc) (n := 7) (k := k) (celF_Wt hc) (by omega) (by decide) (x := (nI 0)) dX0_raiseWalls_43 (fun H locs h => ?_)
        refine lv_iinc (v := (nI (k + 1))) (lv' := [(3, .int (nI (k + 1))), (0, .ref (V.1 (rCas c))), (1, .int tw), (2, .int gd)]) hx hy dX0_raiseWalls_44 hl (k := 0) rfl (nI_1 _) (by decide) rfl (fun ls hl => ?_)
        refine lv_goto (tgt := 31) hx hy dX0_raiseWalls_47 (by decide) ?_
        exact ih_31 (k + 1) (by omega) _ _ (by rw [show ((clrN (rwB M c tw gd) (rWt c) (k + 1), R, o) : wW) = (wr (clrN (rwB M c tw gd) (rWt c) k) (rWt c) k (nI 0), R, o) from rfl]; exact h) _ (by have hl := lv_sub hl [0, 1, 2, 3] (l' := [(3, .int (nI (k + 1))), (0, .ref (V.1 (rCas c))), (1, .int tw), (2, .int gd)]) rfl; rw [show (.int (nI (k + 1)) : Value) = .int (nI (k + 1)) from rfl] at hl; exact hl)
  exact L_31 (7) 0 (by omega) _ _ (by rw [show (clrN (rwB M c tw gd) (rWt c) 0, R, o) = (rwB M c tw gd, R, o) from rfl]; exact h) _ (lv_sub hl [0, 1, 2, 3] rfl)

set_option maxRecDepth 20000 in
theorem in_X0_isQuorum_X0 : ∀ x ∈ wsX00, x ∈ wsX0_isQuorum := by decide +kernel
set_option maxRecDepth 100000 in
set_option maxHeartbeats 4000000 in
/-- Castle.isQuorum -/
theorem c_X0_isQuorum (l : Launch) {G : va_G} {V : wV} {rs : List Nat} (c : Nat) (hc : c < 2) (hb : bC c rs) (M R : wM) (o : wO) (x : Int32) : CT l G V rs yX0_isQuorum wsX0_isQuorum 1 20 0 0 [.ref (V.1 (rCas c)), .int x] (M, R, o) (fun v u => v = some (.int (b2i (qrm M c x))) ∧ u = (M, R, o)) (fun _ _ => False) := by
  refine ct_of (cc := cX0_isQuorum) (maxL := 2) (ret := (some .boolean)) (by decide) rfl (Nat.le_of_ble_eq_true rfl) ?_
  intro p e s m below meth cd ls C h X hT hl
  have hx := C.1
  have hy := C.2.1
  have hl : lv_has ls 2 [(0, .ref (V.1 (rCas c))), (1, .int x)] := hl
  refine lv_iconst (v := (nI 2)) hx hy dX0_isQuorum_0 (by decide) ?_
  refine lv_iload_n hx hy dX0_isQuorum_1 rfl (lv_at hl 1 rfl) ?_
  refine n_go0 C h (n_S (As := [.int x]) (rest := [.int (nI 2)]) C h X (c_J6_bitCount_0f7a4 l M R o x) (va_cwS 1 C.2.2.2.2.1 gX0_isQuorum_J6_bitCount_0f7a4 rfl rfl rfl (by decide +kernel) ⟨Nat.le_of_ble_eq_true rfl, Nat.le_of_ble_eq_true rfl⟩) rfl hl.1 rfl (Nat.le_of_ble_eq_true rfl) dX0_isQuorum_2 ⟨by decide, by decide⟩) (fun _ _ z => z) (fun v_2 u_2 H locs hpo h => ?_)
  obtain ⟨rfl, rfl⟩ := hpo
  refine lv_imul hx hy dX0_isQuorum_5 ?_
  refine lv_aload_n hx hy dX0_isQuorum_6 rfl (lv_at hl 0 rfl) ?_
  refine g_f C h (hb 0 (by decide)) (lo_Cas hc) (celF_Cas hc) rfl in_X0_isQuorum_X0 0 (by decide) (by decide +kernel) (v := .int (M (rCas c) 0)) rfl dX0_isQuorum_7 ?_
  refine i_le hx hy (tgt := 17) dX0_isQuorum_10 (by decide) (fun c_10 => ?_) (fun c_10 => ?_)
  · skip
    refine lv_iconst (v := (nI 0)) hx hy dX0_isQuorum_17 (by decide) ?_
    exact e_int C h (by decide) dX0_isQuorum_18 (⟨by simp [qrm, b2i, eq_true c_10, eq_false (Int32.not_lt.mpr c_10)], rfl⟩) (by decide) (by decide)
  · skip
    refine lv_iconst (v := (nI 1)) hx hy dX0_isQuorum_13 (by decide) ?_
    refine lv_goto (tgt := 18) hx hy dX0_isQuorum_14 (by decide) ?_
    exact e_int C h (by decide) dX0_isQuorum_18 (⟨by simp [qrm, b2i, eq_true c_10, eq_false (Int32.not_le.mpr c_10)], rfl⟩) (by decide) (by decide)

set_option maxRecDepth 20000 in
theorem in_X0_isUp_X0 : ∀ x ∈ wsX00, x ∈ wsX0_isUp := by decide +kernel
set_option maxRecDepth 100000 in
set_option maxHeartbeats 4000000 in
/-- Castle.isUp -/
theorem c_X0_isUp (l : Launch) {G : va_G} {V : wV} {rs : List Nat} (c : Nat) (hc : c < 2) (hb : bC c rs) (M R : wM) (o : wO) (t : Nat) (ht : t < 7) : CT l G V rs yX0_isUp wsX0_isUp 1 21 0 0 [.ref (V.1 (rCas c)), .int (nI t)] (M, R, o) (fun v u => v = some (.int (b2i (hasB (M (rCas c) 3) t))) ∧ u = (M, R, o)) (fun _ _ => False) := by
  refine ct_of (cc := cX0_isUp) (maxL := 2) (ret := (some .boolean)) (by decide) rfl (Nat.le_of_ble_eq_true rfl) ?_
  intro p e s m below meth cd ls C h X hT hl
  have hx := C.1
  have hy := C.2.1
  have hl : lv_has ls 2 [(0, .ref (V.1 (rCas c))), (1, .int (nI t))] := hl
  refine lv_aload_n hx hy dX0_isUp_0 rfl (lv_at hl 0 rfl) ?_
  refine g_f C h (hb 0 (by decide)) (lo_Cas hc) (celF_Cas hc) rfl in_X0_isUp_X0 3 (by decide) (by decide +kernel) (v := .int (M (rCas c) 3)) rfl dX0_isUp_1 ?_
  refine lv_iload_n hx hy dX0_isUp_4 rfl (lv_at hl 1 rfl) ?_
  refine n_go0 C h (n_N (As := [.int (M (rCas c) 3), .int (nI t)]) (rest := []) 2 C h X (c_X6_contains l M R o (M (rCas c) 3) t) gX0_isUp_X6_contains_n64 rfl (by decide +kernel) (by decide +kernel) (by decide) (by decide +kernel) ⟨Nat.le_of_ble_eq_true rfl, Nat.le_of_ble_eq_true rfl⟩ rfl hl.1 rfl (Nat.le_of_ble_eq_true rfl) dX0_isUp_5 ⟨by decide, by decide⟩) (fun _ _ z => z) (fun v_5 u_5 H locs hpo h => ?_)
  obtain ⟨rfl, rfl⟩ := hpo
  exact e_int C h (b2i_nar _) dX0_isUp_8 (⟨rfl, rfl⟩) (by decide) (by decide)

set_option maxRecDepth 20000 in
theorem in_X0_isWaiting_X0 : ∀ x ∈ wsX00, x ∈ wsX0_isWaiting := by decide +kernel
set_option maxRecDepth 100000 in
set_option maxHeartbeats 4000000 in
/-- Castle.isWaiting -/
theorem c_X0_isWaiting (l : Launch) {G : va_G} {V : wV} {rs : List Nat} (c : Nat) (hc : c < 2) (hb : bC c rs) (M R : wM) (o : wO) (t : Nat) (ht : t < 7) (now : Int32) : CT l G V rs yX0_isWaiting wsX0_isWaiting 0 0 0 0 [.ref (V.1 (rCas c)), .int (nI t), .int now] (M, R, o) (fun v u => v = some (.int (b2i (cWait M c t now))) ∧ u = (M, R, o)) (fun _ _ => False) := by
  refine ct_of (cc := cX0_isWaiting) (maxL := 3) (ret := (some .boolean)) (by decide) rfl (Nat.le_of_ble_eq_true rfl) ?_
  intro p e s m below meth cd ls C h X hT hl
  have hx := C.1
  have hy := C.2.1
  have hl : lv_has ls 3 [(0, .ref (V.1 (rCas c))), (1, .int (nI t)), (2, .int now)] := hl
  refine lv_iload_n hx hy dX0_isWaiting_0 rfl (lv_at hl 2 rfl) ?_
  refine lv_aload_n hx hy dX0_isWaiting_1 rfl (lv_at hl 0 rfl) ?_
  refine g_f C h (hb 0 (by decide)) (lo_Cas hc) (celF_Cas hc) rfl in_X0_isWaiting_X0 4 (by decide) (by decide +kernel) (v := .ref (V.1 (rWt c))) rfl dX0_isWaiting_2 ?_
  refine lv_iload_n hx hy dX0_isWaiting_5 rfl (lv_at hl 1 rfl) ?_
  refine g_i C h (hb 1 (by decide)) (n := 7) (k := t) (lo_Wt hc) (celF_Wt hc) (by omega) (by decide) (v := (M (rWt c) t)) rfl dX0_isWaiting_6 ?_
  refine i_ge hx hy (tgt := 14) dX0_isWaiting_7 (by decide) (fun c_7 => ?_) (fun c_7 => ?_)
  · skip
    refine lv_iconst (v := (nI 0)) hx hy dX0_isWaiting_14 (by decide) ?_
    exact e_int C h (by decide) dX0_isWaiting_15 (⟨by simp [cWait, b2i, eq_true c_7, eq_false (Int32.not_lt.mpr c_7)], rfl⟩) (by decide) (by decide)
  · skip
    refine lv_iconst (v := (nI 1)) hx hy dX0_isWaiting_10 (by decide) ?_
    refine lv_goto (tgt := 15) hx hy dX0_isWaiting_11 (by decide) ?_
    exact e_int C h (by decide) dX0_isWaiting_15 (⟨by simp [cWait, b2i, eq_true c_7, eq_false (Int32.not_le.mpr c_7)], rfl⟩) (by decide) (by decide)

set_option maxRecDepth 20000 in
theorem in_X0_bringDown_X0 : ∀ x ∈ wsX00, x ∈ wsX0_bringDown := by decide +kernel
set_option maxRecDepth 20000 in
theorem in_X0_bringDown_X1 : ∀ x ∈ wsX10, x ∈ wsX0_bringDown := by decide +kernel
set_option maxRecDepth 100000 in
set_option maxHeartbeats 4000000 in
/-- Castle.bringDown -/
theorem c_X0_bringDown (l : Launch) {G : va_G} {V : wV} {rs : List Nat} (c : Nat) (hc : c < 2) (hb : bC c rs) (M R : wM) (o : wO) (t : Nat) (ht : t < 7) : CT l G V rs yX0_bringDown wsX0_bringDown 0 0 0 0 [.ref (V.1 (rCas c)), .int (nI t)] (M, R, o) (fun v u => v = none ∧ u = (dnN M c t 3, R, o)) (fun _ _ => False) := by
  refine ct_of (cc := cX0_bringDown) (maxL := 3) (ret := none) (by decide) rfl (Nat.le_of_ble_eq_true rfl) ?_
  intro p e s m below meth cd ls C h X hT hl
  have hx := C.1
  have hy := C.2.1
  have hl : lv_has ls 3 [(0, .ref (V.1 (rCas c))), (1, .int (nI t))] := hl
  refine lv_aload_n hx hy dX0_bringDown_0 rfl (lv_at hl 0 rfl) ?_
  refine lv_dup hx hy dX0_bringDown_1 rfl ?_
  refine g_f C h (hb 0 (by decide)) (lo_Cas hc) (celF_Cas hc) rfl in_X0_bringDown_X0 3 (by decide) (by decide +kernel) (v := .int (M (rCas c) 3)) rfl dX0_bringDown_2 ?_
  refine lv_iconst (v := (nI 1)) hx hy dX0_bringDown_5 (by decide) ?_
  refine lv_iload_n hx hy dX0_bringDown_6 rfl (lv_at hl 1 rfl) ?_
  refine lv_ishl hx hy dX0_bringDown_7 ?_
  refine lv_iconst (v := (-1)) hx hy dX0_bringDown_8 (by decide) ?_
  refine lv_ixor hx hy dX0_bringDown_9 ?_
  refine lv_iand hx hy dX0_bringDown_10 ?_
  refine p_f C h (hb 0 (by decide)) (lt_Cas hc) (celF_Cas hc) rfl in_X0_bringDown_X0 tyX0_ok nmX0 3 (by decide) (by decide +kernel) rfl (v := .int ((M (rCas c) 3) &&& (((nI 1) <<< ((nI t) &&& 31)) ^^^ (-1)))) (x := ((M (rCas c) 3) &&& (((nI 1) <<< ((nI t) &&& 31)) ^^^ (-1)))) rfl rfl (fun _ => Nat.le_of_ble_eq_true rfl) (fun _ => rfl) dX0_bringDown_11 (fun H locs h => ?_)
  refine lv_iconst (v := (nI 0)) hx hy dX0_bringDown_14 (by decide) ?_
  refine lv_istore_n (lv' := [(2, .int (nI 0)), (0, .ref (V.1 (rCas c))), (1, .int (nI t))]) hx hy dX0_bringDown_15 rfl hl (by decide) rfl (fun ls hl => ?_)
  have L_16 : ∀ (n_16 k : Nat), n_16 + k = 3 → ∀ (H : Heap) (locs : List Loc), HH G V rs (dnN M c t k, R, o) s H locs → ∀ ls : Array Slot, lv_has ls 3 [(2, .int (nI k)), (0, .ref (V.1 (rCas c))), (1, .int (nI t))] → W p l e { frames := 0, cells := 0, slots := 0, locals := 0 } s m [.ref (V.1 (rCas c)), .int (nI t)].toArray below meth cd H locs 0 0 (QM G V rs below [.ref (V.1 (rCas c)), .int (nI t)].toArray s 0 0 (fun v u => v = none ∧ u = (dnN M c t 3, R, o)) (fun _ _ => False)) (F0 m 16 ls []) := by
    intro n_16
    induction n_16 with
    | zero =>
      intro k hk_16 H locs h ls hl
      have hz_16 : k = 3 := by omega
      try rw [hz_16] at h
      try rw [hz_16] at hl
      refine lv_iload_n hx hy dX0_bringDown_16 rfl (lv_at hl 0 rfl) ?_
      refine lv_iconst (v := (nI 3)) hx hy dX0_bringDown_17 (by decide) ?_
      refine n_ge hx hy (by decide) (by decide) (tgt := 39) dX0_bringDown_18 (by decide) (fun c_18 => ?_) (fun c_18 => ?_)
      · skip
        exact e_void C h dX0_bringDown_39 (⟨rfl, rfl⟩) (by decide) (by decide)
      · skip
        exact absurd c_18 (by omega)
    | succ n_16 ih_16 =>
      intro k hk_16 H locs h ls hl
      have hz_16 : k < 3 := by omega
      refine lv_iload_n hx hy dX0_bringDown_16 rfl (lv_at hl 0 rfl) ?_
      refine lv_iconst (v := (nI 3)) hx hy dX0_bringDown_17 (by decide) ?_
      refine n_ge hx hy (by omega) (by decide) (tgt := 39) dX0_bringDown_18 (by decide) (fun c_18 => ?_) (fun c_18 => ?_)
      · skip
        exact absurd c_18 (by omega)
      · skip
        refine lv_aload_n hx hy dX0_bringDown_21 rfl (lv_at hl 1 rfl) ?_
        refine g_f C h (hb 0 (by decide)) (lo_Cas hc) (celF_Cas hc) rfl in_X0_bringDown_X0 6 (by decide) (by decide +kernel) (v := .ref (V.1 (rGs c))) rfl dX0_bringDown_22 ?_
        refine lv_iload_n hx hy dX0_bringDown_25 rfl (lv_at hl 0 rfl) ?_
        refine g_a C h (hb 3 (by decide)) 3 (n := 3) (k := k) (lo_Gs hc) ((celF_Gs hc) _) rfl (by omega) (by decide) (a := V.1 (rGate c k)) rfl dX0_bringDown_26 ?_
        refine g_f C h (hb (4 + 4 * k) (by omega)) (lo_Gate hc (by omega)) (celF_Gate hc (by omega)) rfl in_X0_bringDown_X1 1 (by decide) (by decide +kernel) (v := .ref (V.1 (rVT c k))) rfl dX0_bringDown_27 ?_
        refine lv_iload_n hx hy dX0_bringDown_30 rfl (lv_at hl 2 rfl) ?_
        refine lv_iconst (v := (nI 0)) hx hy dX0_bringDown_31 (by decide) ?_
        refine s_i C h (hb (6 + 4 * k) (by omega)) (lt_VT hc (by omega)) (n := 7) (k := t) (celF_VT hc (by omega)) (by omega) (by decide) (x := (nI 0)) dX0_bringDown_32 (fun H locs h => ?_)
        refine lv_iinc (v := (nI (k + 1))) (lv' := [(2, .int (nI (k + 1))), (0, .ref (V.1 (rCas c))), (1, .int (nI t))]) hx hy dX0_bringDown_33 hl (k := 0) rfl (nI_1 _) (by decide) rfl (fun ls hl => ?_)
        refine lv_goto (tgt := 16) hx hy dX0_bringDown_36 (by decide) ?_
        exact ih_16 (k + 1) (by omega) _ _ (by rw [show ((dnN M c t (k + 1), R, o) : wW) = (wr (dnN M c t k) (rVT c k) t (nI 0), R, o) from rfl]; exact h) _ (by have hl := lv_sub hl [0, 1, 2] (l' := [(2, .int (nI (k + 1))), (0, .ref (V.1 (rCas c))), (1, .int (nI t))]) rfl; rw [show (.int (nI (k + 1)) : Value) = .int (nI (k + 1)) from rfl] at hl; exact hl)
  exact L_16 (3) 0 (by omega) _ _ (by rw [show (dnN M c t 0, R, o) = (wr M (rCas c) 3 ((M (rCas c) 3) &&& (((nI 1) <<< ((nI t) &&& 31)) ^^^ (-1))), R, o) from rfl]; exact h) _ (lv_sub hl [0, 1, 2] rfl)

set_option maxRecDepth 20000 in
theorem in_X0_bringUp_X0 : ∀ x ∈ wsX00, x ∈ wsX0_bringUp := by decide +kernel
set_option maxRecDepth 100000 in
set_option maxHeartbeats 4000000 in
/-- Castle.bringUp -/
theorem c_X0_bringUp (l : Launch) {G : va_G} {V : wV} {rs : List Nat} (c : Nat) (hc : c < 2) (hb : bC c rs) (M R : wM) (o : wO) (t : Nat) (ht : t < 7) (wt : Int32) : CT l G V rs yX0_bringUp wsX0_bringUp 0 0 0 0 [.ref (V.1 (rCas c)), .int (nI t), .int wt] (M, R, o) (fun v u => v = none ∧ u = (cUp M c t wt, R, o)) (fun _ _ => False) := by
  refine ct_of (cc := cX0_bringUp) (maxL := 3) (ret := none) (by decide) rfl (Nat.le_of_ble_eq_true rfl) ?_
  intro p e s m below meth cd ls C h X hT hl
  have hx := C.1
  have hy := C.2.1
  have hl : lv_has ls 3 [(0, .ref (V.1 (rCas c))), (1, .int (nI t)), (2, .int wt)] := hl
  refine lv_aload_n hx hy dX0_bringUp_0 rfl (lv_at hl 0 rfl) ?_
  refine lv_dup hx hy dX0_bringUp_1 rfl ?_
  refine g_f C h (hb 0 (by decide)) (lo_Cas hc) (celF_Cas hc) rfl in_X0_bringUp_X0 3 (by decide) (by decide +kernel) (v := .int (M (rCas c) 3)) rfl dX0_bringUp_2 ?_
  refine lv_iconst (v := (nI 1)) hx hy dX0_bringUp_5 (by decide) ?_
  refine lv_iload_n hx hy dX0_bringUp_6 rfl (lv_at hl 1 rfl) ?_
  refine lv_ishl hx hy dX0_bringUp_7 ?_
  refine lv_ior hx hy dX0_bringUp_8 ?_
  refine p_f C h (hb 0 (by decide)) (lt_Cas hc) (celF_Cas hc) rfl in_X0_bringUp_X0 tyX0_ok nmX0 3 (by decide) (by decide +kernel) rfl (v := .int ((M (rCas c) 3) ||| ((nI 1) <<< ((nI t) &&& 31)))) (x := ((M (rCas c) 3) ||| ((nI 1) <<< ((nI t) &&& 31)))) rfl rfl (fun _ => Nat.le_of_ble_eq_true rfl) (fun _ => rfl) dX0_bringUp_9 (fun H locs h => ?_)
  refine lv_aload_n hx hy dX0_bringUp_12 rfl (lv_at hl 0 rfl) ?_
  refine g_f C h (hb 0 (by decide)) (lo_Cas hc) (celF_Cas hc) rfl in_X0_bringUp_X0 4 (by decide) (by decide +kernel) (v := .ref (V.1 (rWt c))) rfl dX0_bringUp_13 ?_
  refine lv_iload_n hx hy dX0_bringUp_16 rfl (lv_at hl 1 rfl) ?_
  refine lv_iload_n hx hy dX0_bringUp_17 rfl (lv_at hl 2 rfl) ?_
  refine s_i C h (hb 1 (by decide)) (lt_Wt hc) (n := 7) (k := t) (celF_Wt hc) (by omega) (by decide) (x := wt) dX0_bringUp_18 (fun H locs h => ?_)
  exact e_void C h dX0_bringUp_19 (⟨rfl, rfl⟩) (by decide) (by decide)

set_option maxRecDepth 20000 in
theorem in_X0_setCut_X0 : ∀ x ∈ wsX00, x ∈ wsX0_setCut := by decide +kernel
set_option maxRecDepth 100000 in
set_option maxHeartbeats 4000000 in
/-- Castle.setCut -/
theorem c_X0_setCut (l : Launch) {G : va_G} {V : wV} {rs : List Nat} (c : Nat) (hc : c < 2) (hb : bC c rs) (M R : wM) (o : wO) (t : Nat) (ht : t < 7) (lo : Nat) (hlo : lo < 4) (is : Bool) : CT l G V rs yX0_setCut wsX0_setCut 1 21 0 0 [.ref (V.1 (rCas c)), .int (nI t), .int (nI lo), .int (b2i is)] (M, R, o) (fun v u => v = some (.int (b2i (hasB (M (rCt c) lo) t))) ∧ u = (cCut M c t lo is, R, o)) (fun _ _ => False) := by
  refine ct_of (cc := cX0_setCut) (maxL := 5) (ret := (some .boolean)) (by decide) rfl (Nat.le_of_ble_eq_true rfl) ?_
  intro p e s m below meth cd ls C h X hT hl
  have hx := C.1
  have hy := C.2.1
  have hl : lv_has ls 5 [(0, .ref (V.1 (rCas c))), (1, .int (nI t)), (2, .int (nI lo)), (3, .int (b2i is))] := hl
  refine lv_aload_n hx hy dX0_setCut_0 rfl (lv_at hl 0 rfl) ?_
  refine g_f C h (hb 0 (by decide)) (lo_Cas hc) (celF_Cas hc) rfl in_X0_setCut_X0 5 (by decide) (by decide +kernel) (v := .ref (V.1 (rCt c))) rfl dX0_setCut_1 ?_
  refine lv_iload_n hx hy dX0_setCut_4 rfl (lv_at hl 2 rfl) ?_
  refine g_i C h (hb 2 (by decide)) (n := 4) (k := lo) (lo_Ct hc) (celF_Ct hc) (by omega) (by decide) (v := (M (rCt c) lo)) rfl dX0_setCut_5 ?_
  refine lv_iload_n hx hy dX0_setCut_6 rfl (lv_at hl 1 rfl) ?_
  refine n_go0 C h (n_N (As := [.int (M (rCt c) lo), .int (nI t)]) (rest := []) 2 C h X (c_X6_contains l M R o (M (rCt c) lo) t) gX0_setCut_X6_contains_n64 rfl (by decide +kernel) (by decide +kernel) (by decide) (by decide +kernel) ⟨Nat.le_of_ble_eq_true rfl, Nat.le_of_ble_eq_true rfl⟩ rfl hl.1 rfl (Nat.le_of_ble_eq_true rfl) dX0_setCut_7 ⟨by decide, by decide⟩) (fun _ _ z => z) (fun v_7 u_7 H locs hpo h => ?_)
  obtain ⟨rfl, rfl⟩ := hpo
  refine lv_istore (lv' := [(4, .int (b2i (hasB (M (rCt c) lo) t))), (0, .ref (V.1 (rCas c))), (1, .int (nI t)), (2, .int (nI lo)), (3, .int (b2i is))]) hx hy dX0_setCut_10 hl (by decide) rfl (fun ls hl => ?_)
  refine lv_iload hx hy dX0_setCut_12 (lv_at hl 0 rfl) ?_
  refine lv_iload_n hx hy dX0_setCut_14 rfl (lv_at hl 4 rfl) ?_
  refine bb_eq hx hy (tgt := 30) dX0_setCut_15 (by decide) (fun c_15 => ?_) (fun c_15 => ?_)
  · skip
    refine lv_iload hx hy dX0_setCut_30 (lv_at hl 0 rfl) ?_
    exact e_int C h (b2i_nar _) dX0_setCut_32 (⟨rfl, by simp [cCut, eq_true c_15]⟩) (by decide) (by decide)
  · skip
    refine lv_aload_n hx hy dX0_setCut_18 rfl (lv_at hl 1 rfl) ?_
    refine g_f C h (hb 0 (by decide)) (lo_Cas hc) (celF_Cas hc) rfl in_X0_setCut_X0 5 (by decide) (by decide +kernel) (v := .ref (V.1 (rCt c))) rfl dX0_setCut_19 ?_
    refine lv_iload_n hx hy dX0_setCut_22 rfl (lv_at hl 3 rfl) ?_
    refine lv_dup2_11 hx hy dX0_setCut_23 rfl rfl ?_
    refine g_i C h (hb 2 (by decide)) (n := 4) (k := lo) (lo_Ct hc) (celF_Ct hc) (by omega) (by decide) (v := (M (rCt c) lo)) rfl dX0_setCut_24 ?_
    refine lv_iconst (v := (nI 1)) hx hy dX0_setCut_25 (by decide) ?_
    refine lv_iload_n hx hy dX0_setCut_26 rfl (lv_at hl 2 rfl) ?_
    refine lv_ishl hx hy dX0_setCut_27 ?_
    refine lv_ixor hx hy dX0_setCut_28 ?_
    refine s_i C h (hb 2 (by decide)) (lt_Ct hc) (n := 4) (k := lo) (celF_Ct hc) (by omega) (by decide) (x := ((M (rCt c) lo) ^^^ ((nI 1) <<< ((nI t) &&& 31)))) dX0_setCut_29 (fun H locs h => ?_)
    refine lv_iload hx hy dX0_setCut_30 (lv_at hl 0 rfl) ?_
    exact e_int C h (b2i_nar _) dX0_setCut_32 (⟨rfl, by simp [cCut, eq_false c_15]⟩) (by decide) (by decide)

set_option maxRecDepth 20000 in
theorem in_X0_towersNear_X0 : ∀ x ∈ wsX00, x ∈ wsX0_towersNear := by decide +kernel
set_option maxRecDepth 100000 in
set_option maxHeartbeats 4000000 in
/-- Castle.towersNear -/
theorem c_X0_towersNear (l : Launch) {G : va_G} {V : wV} {rs : List Nat} (c : Nat) (hc : c < 2) (hb : bC c rs) (M R : wM) (o : wO) (lo : Nat) (hlo : lo < 4) : CT l G V rs yX0_towersNear wsX0_towersNear 0 0 0 0 [.ref (V.1 (rCas c)), .int (nI lo)] (M, R, o) (fun v u => v = some (.int (nearI M c lo)) ∧ u = (M, R, o)) (fun _ _ => False) := by
  refine ct_of (cc := cX0_towersNear) (maxL := 2) (ret := (some .int)) (by decide) rfl (Nat.le_of_ble_eq_true rfl) ?_
  intro p e s m below meth cd ls C h X hT hl
  have hx := C.1
  have hy := C.2.1
  have hl : lv_has ls 2 [(0, .ref (V.1 (rCas c))), (1, .int (nI lo))] := hl
  refine lv_aload_n hx hy dX0_towersNear_0 rfl (lv_at hl 0 rfl) ?_
  refine g_f C h (hb 0 (by decide)) (lo_Cas hc) (celF_Cas hc) rfl in_X0_towersNear_X0 3 (by decide) (by decide +kernel) (v := .int (M (rCas c) 3)) rfl dX0_towersNear_1 ?_
  refine lv_aload_n hx hy dX0_towersNear_4 rfl (lv_at hl 0 rfl) ?_
  refine g_f C h (hb 0 (by decide)) (lo_Cas hc) (celF_Cas hc) rfl in_X0_towersNear_X0 5 (by decide) (by decide +kernel) (v := .ref (V.1 (rCt c))) rfl dX0_towersNear_5 ?_
  refine lv_iload_n hx hy dX0_towersNear_8 rfl (lv_at hl 1 rfl) ?_
  refine g_i C h (hb 2 (by decide)) (n := 4) (k := lo) (lo_Ct hc) (celF_Ct hc) (by omega) (by decide) (v := (M (rCt c) lo)) rfl dX0_towersNear_9 ?_
  refine lv_iconst (v := (-1)) hx hy dX0_towersNear_10 (by decide) ?_
  refine lv_ixor hx hy dX0_towersNear_11 ?_
  refine lv_iand hx hy dX0_towersNear_12 ?_
  exact e_int C h rfl dX0_towersNear_13 (⟨rfl, rfl⟩) (by decide) (by decide)

set_option maxRecDepth 20000 in
theorem in_X0_votersFor_X0 : ∀ x ∈ wsX00, x ∈ wsX0_votersFor := by decide +kernel
set_option maxRecDepth 100000 in
set_option maxHeartbeats 4000000 in
/-- Castle.votersFor -/
theorem c_X0_votersFor (l : Launch) {G : va_G} {V : wV} {rs : List Nat} (c : Nat) (hc : c < 2) (hb : bC c rs) (M R : wM) (o : wO) (tc : Nat) (htc : tc ≤ 7) (htm : M (rCas c) 0 = nI tc) (lo : Nat) (hlo : lo < 4) (g : Nat) (hg : g < 3) (now : Int32) : CT l G V rs yX0_votersFor wsX0_votersFor 2 45 0 0 [.ref (V.1 (rCas c)), .int (nI lo), .int (nI g), .int now] (M, R, o) (fun v u => v = some (.int (voN M c g lo now tc)) ∧ u = (M, R, o)) (fun _ _ => False) := by
  refine ct_of (cc := cX0_votersFor) (maxL := 6) (ret := (some .int)) (by decide) rfl (Nat.le_of_ble_eq_true rfl) ?_
  intro p e s m below meth cd ls C h X hT hl
  have hx := C.1
  have hy := C.2.1
  have hl : lv_has ls 6 [(0, .ref (V.1 (rCas c))), (1, .int (nI lo)), (2, .int (nI g)), (3, .int now)] := hl
  refine lv_aload_n hx hy dX0_votersFor_0 rfl (lv_at hl 0 rfl) ?_
  refine lv_iload_n hx hy dX0_votersFor_1 rfl (lv_at hl 1 rfl) ?_
  refine n_go0 C h (n_V (As := [.int (nI lo)]) (rest := []) C h X (hb 0 (by decide)) ((lo_Cas hc).trans ((celF_Cas hc) _)) rfl (c_X0_towersNear l c hc hb M R o lo hlo) (cwV 1 C.2.2.2.2.1 gX0_votersFor_X0_towersNear rfl rfl rfl (by decide +kernel) ⟨Nat.le_of_ble_eq_true rfl, Nat.le_of_ble_eq_true rfl⟩) rfl hl.1 rfl (Nat.le_of_ble_eq_true rfl) dX0_votersFor_2 ⟨by decide, by decide⟩) (fun _ _ z => z) (fun v_2 u_2 H locs hpo h => ?_)
  obtain ⟨rfl, rfl⟩ := hpo
  refine lv_istore (lv' := [(4, .int (nearI M c lo)), (0, .ref (V.1 (rCas c))), (1, .int (nI lo)), (2, .int (nI g)), (3, .int now)]) hx hy dX0_votersFor_5 hl (by decide) rfl (fun ls hl => ?_)
  refine lv_iconst (v := (nI 0)) hx hy dX0_votersFor_7 (by decide) ?_
  refine lv_istore (lv' := [(5, .int (nI 0)), (4, .int (nearI M c lo)), (0, .ref (V.1 (rCas c))), (1, .int (nI lo)), (2, .int (nI g)), (3, .int now)]) hx hy dX0_votersFor_8 hl (by decide) rfl (fun ls hl => ?_)
  have L_10 : ∀ (n_10 k : Nat), n_10 + k = tc → ∀ (H : Heap) (locs : List Loc), HH G V rs (M, R, o) s H locs → ∀ ls : Array Slot, lv_has ls 6 [(5, .int (nI k)), (4, .int (voN M c g lo now k)), (0, .ref (V.1 (rCas c))), (1, .int (nI lo)), (2, .int (nI g)), (3, .int now)] → W p l e { frames := 2, cells := 0, slots := 0, locals := 45 } s m [.ref (V.1 (rCas c)), .int (nI lo), .int (nI g), .int now].toArray below meth cd H locs 0 0 (QM G V rs below [.ref (V.1 (rCas c)), .int (nI lo), .int (nI g), .int now].toArray s 0 0 (fun v u => v = some (.int (voN M c g lo now tc)) ∧ u = (M, R, o)) (fun _ _ => False)) (F0 m 10 ls []) := by
    intro n_10
    induction n_10 with
    | zero =>
      intro k hk_10 H locs h ls hl
      have hz_10 : k = tc := by omega
      try rw [hz_10] at h
      try rw [hz_10] at hl
      refine lv_iload hx hy dX0_votersFor_10 (lv_at hl 0 rfl) ?_
      refine lv_aload_n hx hy dX0_votersFor_12 rfl (lv_at hl 2 rfl) ?_
      refine g_f C h (hb 0 (by decide)) (lo_Cas hc) (celF_Cas hc) rfl in_X0_votersFor_X0 0 (by decide) (by decide +kernel) (v := .int (nI tc)) (congrArg (fun z => some (Value.int z)) (show M (rCas c) 0 = (nI tc) from htm)) dX0_votersFor_13 ?_
      refine n_ge hx hy (by omega) (by omega) (tgt := 62) dX0_votersFor_16 (by decide) (fun c_16 => ?_) (fun c_16 => ?_)
      · skip
        refine lv_iload hx hy dX0_votersFor_62 (lv_at hl 1 rfl) ?_
        exact e_int C h rfl dX0_votersFor_64 (⟨rfl, rfl⟩) (by decide) (by decide)
      · skip
        exact absurd c_16 (by omega)
    | succ n_10 ih_10 =>
      intro k hk_10 H locs h ls hl
      have hz_10 : k < tc := by omega
      refine lv_iload hx hy dX0_votersFor_10 (lv_at hl 0 rfl) ?_
      refine lv_aload_n hx hy dX0_votersFor_12 rfl (lv_at hl 2 rfl) ?_
      refine g_f C h (hb 0 (by decide)) (lo_Cas hc) (celF_Cas hc) rfl in_X0_votersFor_X0 0 (by decide) (by decide +kernel) (v := .int (nI tc)) (congrArg (fun z => some (Value.int z)) (show M (rCas c) 0 = (nI tc) from htm)) dX0_votersFor_13 ?_
      refine n_ge hx hy (by omega) (by omega) (tgt := 62) dX0_votersFor_16 (by decide) (fun c_16 => ?_) (fun c_16 => ?_)
      · skip
        exact absurd c_16 (by omega)
      · skip
        refine lv_aload_n hx hy dX0_votersFor_19 rfl (lv_at hl 2 rfl) ?_
        refine lv_iload hx hy dX0_votersFor_20 (lv_at hl 0 rfl) ?_
        refine lv_iload_n hx hy dX0_votersFor_22 rfl (lv_at hl 5 rfl) ?_
        refine n_go0 C h (n_V (As := [.int (nI k), .int now]) (rest := []) C h X (hb 0 (by decide)) ((lo_Cas hc).trans ((celF_Cas hc) _)) rfl (c_X0_isWaiting l c hc hb M R o k (by omega) now) (cwV 2 C.2.2.2.2.1 gX0_votersFor_X0_isWaiting rfl rfl rfl (by decide +kernel) ⟨Nat.le_of_ble_eq_true rfl, Nat.le_of_ble_eq_true rfl⟩) rfl hl.1 rfl (Nat.le_of_ble_eq_true rfl) dX0_votersFor_23 ⟨by decide, by decide⟩) (fun _ _ z => z) (fun v_23 u_23 H locs hpo h => ?_)
        obtain ⟨rfl, rfl⟩ := hpo
        refine b_ne hx hy (tgt := 45) dX0_votersFor_26 (by decide) (fun c_26 => ?_) (fun c_26 => ?_)
        · skip
          refine lv_iload hx hy dX0_votersFor_45 (lv_at hl 1 rfl) ?_
          refine lv_iconst (v := (nI 1)) hx hy dX0_votersFor_47 (by decide) ?_
          refine lv_iload hx hy dX0_votersFor_48 (lv_at hl 0 rfl) ?_
          refine lv_ishl hx hy dX0_votersFor_50 ?_
          refine lv_iconst (v := (-1)) hx hy dX0_votersFor_51 (by decide) ?_
          refine lv_ixor hx hy dX0_votersFor_52 ?_
          refine lv_iand hx hy dX0_votersFor_53 ?_
          refine lv_istore (lv' := [(4, .int ((voN M c g lo now k) &&& (((nI 1) <<< ((nI k) &&& 31)) ^^^ (-1)))), (5, .int (nI k)), (0, .ref (V.1 (rCas c))), (1, .int (nI lo)), (2, .int (nI g)), (3, .int now)]) hx hy dX0_votersFor_54 hl (by decide) rfl (fun ls hl => ?_)
          refine lv_iinc (v := (nI (k + 1))) (lv' := [(5, .int (nI (k + 1))), (4, .int ((voN M c g lo now k) &&& (((nI 1) <<< ((nI k) &&& 31)) ^^^ (-1)))), (0, .ref (V.1 (rCas c))), (1, .int (nI lo)), (2, .int (nI g)), (3, .int now)]) hx hy dX0_votersFor_56 hl (k := 1) rfl (nI_1 _) (by decide) rfl (fun ls hl => ?_)
          refine lv_goto (tgt := 10) hx hy dX0_votersFor_59 (by decide) ?_
          exact ih_10 (k + 1) (by omega) _ _ h _ (by have hl := lv_sub hl [0, 1, 2, 3, 4, 5] (l' := [(5, .int (nI (k + 1))), (4, .int ((voN M c g lo now k) &&& (((nI 1) <<< ((nI k) &&& 31)) ^^^ (-1)))), (0, .ref (V.1 (rCas c))), (1, .int (nI lo)), (2, .int (nI g)), (3, .int now)]) rfl; rw [show (.int (nI (k + 1)) : Value) = .int (nI (k + 1)) from rfl] at hl; rw [show (.int ((voN M c g lo now k) &&& (((nI 1) <<< ((nI k) &&& 31)) ^^^ (-1))) : Value) = .int (voN M c g lo now (k + 1)) from by simp [voN, clB, eq_true c_16, eq_false (Nat.not_le.mpr c_16), c_26]] at hl; exact hl)
        · skip
          refine lv_aload_n hx hy dX0_votersFor_29 rfl (lv_at hl 2 rfl) ?_
          refine g_f C h (hb 0 (by decide)) (lo_Cas hc) (celF_Cas hc) rfl in_X0_votersFor_X0 6 (by decide) (by decide +kernel) (v := .ref (V.1 (rGs c))) rfl dX0_votersFor_30 ?_
          refine lv_iload_n hx hy dX0_votersFor_33 rfl (lv_at hl 4 rfl) ?_
          refine g_a C h (hb 3 (by decide)) 3 (n := 3) (k := g) (lo_Gs hc) ((celF_Gs hc) _) rfl (by omega) (by decide) (a := V.1 (rGate c g)) rfl dX0_votersFor_34 ?_
          refine lv_iload hx hy dX0_votersFor_35 (lv_at hl 0 rfl) ?_
          refine lv_iload_n hx hy dX0_votersFor_37 rfl (lv_at hl 3 rfl) ?_
          refine lv_iload_n hx hy dX0_votersFor_38 rfl (lv_at hl 5 rfl) ?_
          refine n_go0 C h (n_V (As := [.int (nI k), .int (nI lo), .int now]) (rest := []) C h X (hb (4 + 4 * g) (by omega)) ((lo_Gate hc hg).trans ((celF_Gate hc hg) _)) rfl (c_X1_isVoteOfAnother l c g hc hg hb M R o k (by omega) (nI lo) now) (cwV 3 C.2.2.2.2.1 gX0_votersFor_X1_isVoteOfAnother rfl rfl rfl (by decide +kernel) ⟨Nat.le_of_ble_eq_true rfl, Nat.le_of_ble_eq_true rfl⟩) rfl hl.1 rfl (Nat.le_of_ble_eq_true rfl) dX0_votersFor_39 ⟨by decide, by decide⟩) (fun _ _ z => z) (fun v_39 u_39 H locs hpo h => ?_)
          obtain ⟨rfl, rfl⟩ := hpo
          refine b_eq hx hy (tgt := 56) dX0_votersFor_42 (by decide) (fun c_42 => ?_) (fun c_42 => ?_)
          · skip
            refine lv_iinc (v := (nI (k + 1))) (lv' := [(5, .int (nI (k + 1))), (4, .int (voN M c g lo now k)), (0, .ref (V.1 (rCas c))), (1, .int (nI lo)), (2, .int (nI g)), (3, .int now)]) hx hy dX0_votersFor_56 hl (k := 0) rfl (nI_1 _) (by decide) rfl (fun ls hl => ?_)
            refine lv_goto (tgt := 10) hx hy dX0_votersFor_59 (by decide) ?_
            exact ih_10 (k + 1) (by omega) _ _ h _ (by have hl := lv_sub hl [0, 1, 2, 3, 4, 5] (l' := [(5, .int (nI (k + 1))), (4, .int (voN M c g lo now k)), (0, .ref (V.1 (rCas c))), (1, .int (nI lo)), (2, .int (nI g)), (3, .int now)]) rfl; rw [show (.int (nI (k + 1)) : Value) = .int (nI (k + 1)) from rfl] at hl; rw [show (.int (voN M c g lo now k) : Value) = .int (voN M c g lo now (k + 1)) from by simp [voN, clB, eq_true c_16, eq_false (Nat.not_le.mpr c_16), c_26, c_42]] at hl; exact hl)
          · skip
            refine lv_iload hx hy dX0_votersFor_45 (lv_at hl 1 rfl) ?_
            refine lv_iconst (v := (nI 1)) hx hy dX0_votersFor_47 (by decide) ?_
            refine lv_iload hx hy dX0_votersFor_48 (lv_at hl 0 rfl) ?_
            refine lv_ishl hx hy dX0_votersFor_50 ?_
            refine lv_iconst (v := (-1)) hx hy dX0_votersFor_51 (by decide) ?_
            refine lv_ixor hx hy dX0_votersFor_52 ?_
            refine lv_iand hx hy dX0_votersFor_53 ?_
            refine lv_istore (lv' := [(4, .int ((voN M c g lo now k) &&& (((nI 1) <<< ((nI k) &&& 31)) ^^^ (-1)))), (5, .int (nI k)), (0, .ref (V.1 (rCas c))), (1, .int (nI lo)), (2, .int (nI g)), (3, .int now)]) hx hy dX0_votersFor_54 hl (by decide) rfl (fun ls hl => ?_)
            refine lv_iinc (v := (nI (k + 1))) (lv' := [(5, .int (nI (k + 1))), (4, .int ((voN M c g lo now k) &&& (((nI 1) <<< ((nI k) &&& 31)) ^^^ (-1)))), (0, .ref (V.1 (rCas c))), (1, .int (nI lo)), (2, .int (nI g)), (3, .int now)]) hx hy dX0_votersFor_56 hl (k := 1) rfl (nI_1 _) (by decide) rfl (fun ls hl => ?_)
            refine lv_goto (tgt := 10) hx hy dX0_votersFor_59 (by decide) ?_
            exact ih_10 (k + 1) (by omega) _ _ h _ (by have hl := lv_sub hl [0, 1, 2, 3, 4, 5] (l' := [(5, .int (nI (k + 1))), (4, .int ((voN M c g lo now k) &&& (((nI 1) <<< ((nI k) &&& 31)) ^^^ (-1)))), (0, .ref (V.1 (rCas c))), (1, .int (nI lo)), (2, .int (nI g)), (3, .int now)]) rfl; rw [show (.int (nI (k + 1)) : Value) = .int (nI (k + 1)) from rfl] at hl; rw [show (.int ((voN M c g lo now k) &&& (((nI 1) <<< ((nI k) &&& 31)) ^^^ (-1))) : Value) = .int (voN M c g lo now (k + 1)) from by simp [voN, clB, eq_true c_16, eq_false (Nat.not_le.mpr c_16), c_26, c_42]] at hl; exact hl)
  exact L_10 (tc) 0 (by omega) _ _ h _ (by have hl := lv_sub hl [0, 1, 2, 3, 4, 5] (l' := [(5, .int (nI 0)), (4, .int (nearI M c lo)), (0, .ref (V.1 (rCas c))), (1, .int (nI lo)), (2, .int (nI g)), (3, .int now)]) rfl; rw [show (.int (nearI M c lo) : Value) = .int (voN M c g lo now 0) from rfl] at hl; exact hl)

set_option maxRecDepth 20000 in
theorem in_X0_spreadEntry_X0 : ∀ x ∈ wsX00, x ∈ wsX0_spreadEntry := by decide +kernel
set_option maxRecDepth 20000 in
theorem in_X0_spreadEntry_X3 : ∀ x ∈ wsX30, x ∈ wsX0_spreadEntry := by decide +kernel
set_option maxRecDepth 100000 in
set_option maxHeartbeats 4000000 in
/-- Castle.spreadEntry -/
theorem c_X0_spreadEntry (l : Launch) {G : va_G} {V : wV} {rs : List Nat} (c : Nat) (hc : c < 2) (hb : bC c rs) (M R : wM) (o : wO) (k : Nat) (hk : k < 60) (tw : Int32) : CT l G V rs yX0_spreadEntry wsX0_spreadEntry 2 41 0 0 [.ref (V.1 (rCas c)), .int (nI k), .int tw] (M, R, o) (fun v u => v = some (.int (seG M c k tw)) ∧ u = (seM M c k tw, R, o)) (fun _ _ => False) := by
  refine ct_of (cc := cX0_spreadEntry) (maxL := 4) (ret := (some .int)) (by decide) rfl (Nat.le_of_ble_eq_true rfl) ?_
  intro p e s m below meth cd ls C h X hT hl
  have hx := C.1
  have hy := C.2.1
  have hl : lv_has ls 4 [(0, .ref (V.1 (rCas c))), (1, .int (nI k)), (2, .int tw)] := hl
  refine lv_iload_n hx hy dX0_spreadEntry_0 rfl (lv_at hl 2 rfl) ?_
  refine lv_aload_n hx hy dX0_spreadEntry_1 rfl (lv_at hl 0 rfl) ?_
  refine g_f C h (hb 0 (by decide)) (lo_Cas hc) (celF_Cas hc) rfl in_X0_spreadEntry_X0 7 (by decide) (by decide +kernel) (v := .ref (V.1 (rRow c))) rfl dX0_spreadEntry_2 ?_
  refine g_f C h (hb 16 (by decide)) (lo_Row hc) (celF_Row hc) rfl in_X0_spreadEntry_X3 4 (by decide) (by decide +kernel) (v := .ref (V.1 (rHo c))) rfl dX0_spreadEntry_5 ?_
  refine lv_iload_n hx hy dX0_spreadEntry_8 rfl (lv_at hl 1 rfl) ?_
  refine g_i C h (hb 20 (by decide)) (n := 60) (k := k) (lo_Ho hc) (celF_Ho hc) (by omega) (by decide) (v := (M (rHo c) k)) rfl dX0_spreadEntry_9 ?_
  refine lv_iconst (v := (-1)) hx hy dX0_spreadEntry_10 (by decide) ?_
  refine lv_ixor hx hy dX0_spreadEntry_11 ?_
  refine lv_iand hx hy dX0_spreadEntry_12 ?_
  refine n_go0 C h (n_S (As := [.int (tw &&& ((M (rHo c) k) ^^^ (-1)))]) (rest := []) C h X (c_J6_bitCount_0f7a4 l M R o (tw &&& ((M (rHo c) k) ^^^ (-1)))) (va_cwS 1 C.2.2.2.2.1 gX0_spreadEntry_J6_bitCount_0f7a4 rfl rfl rfl (by decide +kernel) ⟨Nat.le_of_ble_eq_true rfl, Nat.le_of_ble_eq_true rfl⟩) rfl hl.1 rfl (Nat.le_of_ble_eq_true rfl) dX0_spreadEntry_13 ⟨by decide, by decide⟩) (fun _ _ z => z) (fun v_13 u_13 H locs hpo h => ?_)
  obtain ⟨rfl, rfl⟩ := hpo
  refine lv_istore_n (lv' := [(3, .int (bcI (tw &&& ((M (rHo c) k) ^^^ (-1))))), (0, .ref (V.1 (rCas c))), (1, .int (nI k)), (2, .int tw)]) hx hy dX0_spreadEntry_16 rfl hl (by decide) rfl (fun ls hl => ?_)
  refine lv_aload_n hx hy dX0_spreadEntry_17 rfl (lv_at hl 1 rfl) ?_
  refine g_f C h (hb 0 (by decide)) (lo_Cas hc) (celF_Cas hc) rfl in_X0_spreadEntry_X0 7 (by decide) (by decide +kernel) (v := .ref (V.1 (rRow c))) rfl dX0_spreadEntry_18 ?_
  refine g_f C h (hb 16 (by decide)) (lo_Row hc) (celF_Row hc) rfl in_X0_spreadEntry_X3 4 (by decide) (by decide +kernel) (v := .ref (V.1 (rHo c))) rfl dX0_spreadEntry_21 ?_
  refine lv_iload_n hx hy dX0_spreadEntry_24 rfl (lv_at hl 2 rfl) ?_
  refine lv_dup2_11 hx hy dX0_spreadEntry_25 rfl rfl ?_
  refine g_i C h (hb 20 (by decide)) (n := 60) (k := k) (lo_Ho hc) (celF_Ho hc) (by omega) (by decide) (v := (M (rHo c) k)) rfl dX0_spreadEntry_26 ?_
  refine lv_iload_n hx hy dX0_spreadEntry_27 rfl (lv_at hl 3 rfl) ?_
  refine lv_ior hx hy dX0_spreadEntry_28 ?_
  refine s_i C h (hb 20 (by decide)) (lt_Ho hc) (n := 60) (k := k) (celF_Ho hc) (by omega) (by decide) (x := ((M (rHo c) k) ||| tw)) dX0_spreadEntry_29 (fun H locs h => ?_)
  refine lv_aload_n hx hy dX0_spreadEntry_30 rfl (lv_at hl 1 rfl) ?_
  refine lv_aload_n hx hy dX0_spreadEntry_31 rfl (lv_at hl 1 rfl) ?_
  refine g_f C h (hb 0 (by decide)) (lo_Cas hc) (celF_Cas hc) rfl in_X0_spreadEntry_X0 7 (by decide) (by decide +kernel) (v := .ref (V.1 (rRow c))) rfl dX0_spreadEntry_32 ?_
  refine g_f C h (hb 16 (by decide)) (lo_Row hc) (celF_Row hc) rfl in_X0_spreadEntry_X3 4 (by decide) (by decide +kernel) (v := .ref (V.1 (rHo c))) rfl dX0_spreadEntry_35 ?_
  refine lv_iload_n hx hy dX0_spreadEntry_38 rfl (lv_at hl 2 rfl) ?_
  refine g_i C h (hb 20 (by decide)) (n := 60) (k := k) (lo_Ho hc) (celF_Ho hc) (by omega) (by decide) (v := ((M (rHo c) k) ||| tw)) (show (wr M (rHo c) k ((M (rHo c) k) ||| tw)) (rHo c) k = ((M (rHo c) k) ||| tw) from (wr_same _ _ _ _)) dX0_spreadEntry_39 ?_
  refine n_go0 C h (n_V (As := [.int ((M (rHo c) k) ||| tw)]) (rest := []) C h X (hb 0 (by decide)) ((lo_Cas hc).trans ((celF_Cas hc) _)) rfl (c_X0_isQuorum l c hc hb (wr M (rHo c) k ((M (rHo c) k) ||| tw)) R o ((M (rHo c) k) ||| tw)) (cwV 1 C.2.2.2.2.1 gX0_spreadEntry_X0_isQuorum rfl rfl rfl (by decide +kernel) ⟨Nat.le_of_ble_eq_true rfl, Nat.le_of_ble_eq_true rfl⟩) rfl hl.1 rfl (Nat.le_of_ble_eq_true rfl) dX0_spreadEntry_40 ⟨by decide, by decide⟩) (fun _ _ z => z) (fun v_40 u_40 H locs hpo h => ?_)
  obtain ⟨rfl, rfl⟩ := hpo
  refine b_eq hx hy (tgt := 56) dX0_spreadEntry_43 (by decide) (fun c_43 => ?_) (fun c_43 => ?_)
  · skip
    refine lv_iload_n hx hy dX0_spreadEntry_56 rfl (lv_at hl 0 rfl) ?_
    exact e_int C h rfl dX0_spreadEntry_57 (⟨rfl, by simp [seM, c_43]⟩) (by decide) (by decide)
  · skip
    refine lv_aload_n hx hy dX0_spreadEntry_46 rfl (lv_at hl 1 rfl) ?_
    refine g_f C h (hb 0 (by decide)) (lo_Cas hc) (celF_Cas hc) rfl in_X0_spreadEntry_X0 7 (by decide) (by decide +kernel) (v := .ref (V.1 (rRow c))) rfl dX0_spreadEntry_47 ?_
    refine g_f C h (hb 16 (by decide)) (lo_Row hc) (celF_Row hc) rfl in_X0_spreadEntry_X3 6 (by decide) (by decide +kernel) (v := .ref (V.1 (rCo c))) rfl dX0_spreadEntry_50 ?_
    refine lv_iload_n hx hy dX0_spreadEntry_53 rfl (lv_at hl 2 rfl) ?_
    refine lv_iconst (v := (nI 1)) hx hy dX0_spreadEntry_54 (by decide) ?_
    refine s_z C h (hb 22 (by decide)) (lt_Co hc) (n := 60) (k := k) (celF_Co hc) (by omega) (by decide) (x := (nI 1)) (by decide) dX0_spreadEntry_55 (fun H locs h => ?_)
    refine lv_iload_n hx hy dX0_spreadEntry_56 rfl (lv_at hl 0 rfl) ?_
    exact e_int C h rfl dX0_spreadEntry_57 (⟨rfl, by simp [seM, c_43]⟩) (by decide) (by decide)

set_option maxRecDepth 20000 in
theorem in_X0_writeEntry_X0 : ∀ x ∈ wsX00, x ∈ wsX0_writeEntry := by decide +kernel
set_option maxRecDepth 20000 in
theorem in_X0_writeEntry_X3 : ∀ x ∈ wsX30, x ∈ wsX0_writeEntry := by decide +kernel
set_option maxRecDepth 100000 in
set_option maxHeartbeats 4000000 in
/-- Castle.writeEntry -/
theorem c_X0_writeEntry (l : Launch) {G : va_G} {V : wV} {rs : List Nat} (c : Nat) (hc : c < 2) (hb : bC c rs) (M R : wM) (o : wO) (sz : Nat) (hs : sz < 60) (hsz : M (rRow c) 0 = nI sz) (le am : Int32) (hle : vp_nar .char le = le) (lo tw : Int32) : CT l G V rs yX0_writeEntry wsX0_writeEntry 3 64 0 0 [.ref (V.1 (rCas c)), .int le, .int am, .int lo, .int tw] (M, R, o) (fun v u => v = some (.int (nI sz)) ∧ u = (cWrite M c sz le am lo tw, R, o)) (fun _ _ => False) := by
  refine ct_of (cc := cX0_writeEntry) (maxL := 6) (ret := (some .int)) (by decide) rfl (Nat.le_of_ble_eq_true rfl) ?_
  intro p e s m below meth cd ls C h X hT hl
  have hx := C.1
  have hy := C.2.1
  have hl : lv_has ls 6 [(0, .ref (V.1 (rCas c))), (1, .int le), (2, .int am), (3, .int lo), (4, .int tw)] := hl
  refine lv_aload_n hx hy dX0_writeEntry_0 rfl (lv_at hl 0 rfl) ?_
  refine g_f C h (hb 0 (by decide)) (lo_Cas hc) (celF_Cas hc) rfl in_X0_writeEntry_X0 7 (by decide) (by decide +kernel) (v := .ref (V.1 (rRow c))) rfl dX0_writeEntry_1 ?_
  refine lv_iload_n hx hy dX0_writeEntry_4 rfl (lv_at hl 1 rfl) ?_
  refine lv_iload_n hx hy dX0_writeEntry_5 rfl (lv_at hl 2 rfl) ?_
  refine n_go0 C h (n_V (As := [.int le, .int am]) (rest := []) C h X (hb 16 (by decide)) ((lo_Row hc).trans ((celF_Row hc) _)) rfl (c_X3_append l c hc hb M R o sz hs hsz le am hle) (cwV 2 C.2.2.2.2.1 gX0_writeEntry_X3_append rfl rfl rfl (by decide +kernel) ⟨Nat.le_of_ble_eq_true rfl, Nat.le_of_ble_eq_true rfl⟩) rfl hl.1 rfl (Nat.le_of_ble_eq_true rfl) dX0_writeEntry_6 ⟨by decide, by decide⟩) (fun _ _ z => z) (fun v_6 u_6 H locs hpo h => ?_)
  obtain ⟨rfl, rfl⟩ := hpo
  refine lv_istore (lv' := [(5, .int (nI sz)), (0, .ref (V.1 (rCas c))), (1, .int le), (2, .int am), (3, .int lo), (4, .int tw)]) hx hy dX0_writeEntry_9 hl (by decide) rfl (fun ls hl => ?_)
  refine lv_aload_n hx hy dX0_writeEntry_11 rfl (lv_at hl 1 rfl) ?_
  refine g_f C h (hb 0 (by decide)) (lo_Cas hc) (celF_Cas hc) rfl in_X0_writeEntry_X0 7 (by decide) (by decide +kernel) (v := .ref (V.1 (rRow c))) rfl dX0_writeEntry_12 ?_
  refine g_f C h (hb 16 (by decide)) (lo_Row hc) (celF_Row hc) rfl in_X0_writeEntry_X3 3 (by decide) (by decide +kernel) (v := .ref (V.1 (rLo c))) rfl dX0_writeEntry_15 ?_
  refine lv_iload hx hy dX0_writeEntry_18 (lv_at hl 0 rfl) ?_
  refine lv_iload_n hx hy dX0_writeEntry_20 rfl (lv_at hl 4 rfl) ?_
  refine s_i C h (hb 19 (by decide)) (lt_Lo hc) (n := 60) (k := sz) (celF_Lo hc) (by omega) (by decide) (x := lo) dX0_writeEntry_21 (fun H locs h => ?_)
  refine lv_aload_n hx hy dX0_writeEntry_22 rfl (lv_at hl 1 rfl) ?_
  refine lv_iload hx hy dX0_writeEntry_23 (lv_at hl 0 rfl) ?_
  refine lv_iload hx hy dX0_writeEntry_25 (lv_at hl 5 rfl) ?_
  refine n_go0 C h (n_V (As := [.int (nI sz), .int tw]) (rest := []) C h X (hb 0 (by decide)) ((lo_Cas hc).trans ((celF_Cas hc) _)) rfl (c_X0_spreadEntry l c hc hb (wr (rApp M c sz le am) (rLo c) sz lo) R o sz (by omega) tw) (cwV 2 C.2.2.2.2.1 gX0_writeEntry_X0_spreadEntry rfl rfl rfl (by decide +kernel) ⟨Nat.le_of_ble_eq_true rfl, Nat.le_of_ble_eq_true rfl⟩) rfl hl.1 rfl (Nat.le_of_ble_eq_true rfl) dX0_writeEntry_27 ⟨by decide, by decide⟩) (fun _ _ z => z) (fun v_27 u_27 H locs hpo h => ?_)
  obtain ⟨rfl, rfl⟩ := hpo
  refine lv_pop hx hy dX0_writeEntry_30 rfl ?_
  refine lv_iload hx hy dX0_writeEntry_31 (lv_at hl 0 rfl) ?_
  exact e_int C h rfl dX0_writeEntry_33 (⟨rfl, rfl⟩) (by decide) (by decide)

set_option maxRecDepth 20000 in
theorem in_X0_writeTruceEntry_X0 : ∀ x ∈ wsX00, x ∈ wsX0_writeTruceEntry := by decide +kernel
set_option maxRecDepth 20000 in
theorem in_X0_writeTruceEntry_X3 : ∀ x ∈ wsX30, x ∈ wsX0_writeTruceEntry := by decide +kernel
set_option maxRecDepth 100000 in
set_option maxHeartbeats 4000000 in
/-- Castle.writeTruceEntry -/
theorem c_X0_writeTruceEntry (l : Launch) {G : va_G} {V : wV} {rs : List Nat} (c : Nat) (hc : c < 2) (hb : bC c rs) (M R : wM) (o : wO) (sz : Nat) (hs : sz < 60) (hsz : M (rRow c) 0 = nI sz) (le am : Int32) (hle : vp_nar .char le = le) (fh : Bool) (tw : Int32) : CT l G V rs yX0_writeTruceEntry wsX0_writeTruceEntry 3 64 0 0 [.ref (V.1 (rCas c)), .int le, .int am, .int (b2i fh), .int tw] (M, R, o) (fun v u => v = some (.int (nI sz)) ∧ u = (cWriteT M c sz le am fh tw, R, o)) (fun _ _ => False) := by
  refine ct_of (cc := cX0_writeTruceEntry) (maxL := 6) (ret := (some .int)) (by decide) rfl (Nat.le_of_ble_eq_true rfl) ?_
  intro p e s m below meth cd ls C h X hT hl
  have hx := C.1
  have hy := C.2.1
  have hl : lv_has ls 6 [(0, .ref (V.1 (rCas c))), (1, .int le), (2, .int am), (3, .int (b2i fh)), (4, .int tw)] := hl
  refine lv_aload_n hx hy dX0_writeTruceEntry_0 rfl (lv_at hl 0 rfl) ?_
  refine g_f C h (hb 0 (by decide)) (lo_Cas hc) (celF_Cas hc) rfl in_X0_writeTruceEntry_X0 7 (by decide) (by decide +kernel) (v := .ref (V.1 (rRow c))) rfl dX0_writeTruceEntry_1 ?_
  refine lv_iload_n hx hy dX0_writeTruceEntry_4 rfl (lv_at hl 1 rfl) ?_
  refine lv_iload_n hx hy dX0_writeTruceEntry_5 rfl (lv_at hl 2 rfl) ?_
  refine n_go0 C h (n_V (As := [.int le, .int am]) (rest := []) C h X (hb 16 (by decide)) ((lo_Row hc).trans ((celF_Row hc) _)) rfl (c_X3_append l c hc hb M R o sz hs hsz le am hle) (cwV 2 C.2.2.2.2.1 gX0_writeTruceEntry_X3_append rfl rfl rfl (by decide +kernel) ⟨Nat.le_of_ble_eq_true rfl, Nat.le_of_ble_eq_true rfl⟩) rfl hl.1 rfl (Nat.le_of_ble_eq_true rfl) dX0_writeTruceEntry_6 ⟨by decide, by decide⟩) (fun _ _ z => z) (fun v_6 u_6 H locs hpo h => ?_)
  obtain ⟨rfl, rfl⟩ := hpo
  refine lv_istore (lv' := [(5, .int (nI sz)), (0, .ref (V.1 (rCas c))), (1, .int le), (2, .int am), (3, .int (b2i fh)), (4, .int tw)]) hx hy dX0_writeTruceEntry_9 hl (by decide) rfl (fun ls hl => ?_)
  refine lv_aload_n hx hy dX0_writeTruceEntry_11 rfl (lv_at hl 1 rfl) ?_
  refine g_f C h (hb 0 (by decide)) (lo_Cas hc) (celF_Cas hc) rfl in_X0_writeTruceEntry_X0 7 (by decide) (by decide +kernel) (v := .ref (V.1 (rRow c))) rfl dX0_writeTruceEntry_12 ?_
  refine g_f C h (hb 16 (by decide)) (lo_Row hc) (celF_Row hc) rfl in_X0_writeTruceEntry_X3 5 (by decide) (by decide +kernel) (v := .ref (V.1 (rFh c))) rfl dX0_writeTruceEntry_15 ?_
  refine lv_iload hx hy dX0_writeTruceEntry_18 (lv_at hl 0 rfl) ?_
  refine lv_iload_n hx hy dX0_writeTruceEntry_20 rfl (lv_at hl 4 rfl) ?_
  refine s_z C h (hb 21 (by decide)) (lt_Fh hc) (n := 60) (k := sz) (celF_Fh hc) (by omega) (by decide) (x := (b2i fh)) (b2i_vnar _) dX0_writeTruceEntry_21 (fun H locs h => ?_)
  refine lv_aload_n hx hy dX0_writeTruceEntry_22 rfl (lv_at hl 1 rfl) ?_
  refine lv_iload hx hy dX0_writeTruceEntry_23 (lv_at hl 0 rfl) ?_
  refine lv_iload hx hy dX0_writeTruceEntry_25 (lv_at hl 5 rfl) ?_
  refine n_go0 C h (n_V (As := [.int (nI sz), .int tw]) (rest := []) C h X (hb 0 (by decide)) ((lo_Cas hc).trans ((celF_Cas hc) _)) rfl (c_X0_spreadEntry l c hc hb (wr (rApp M c sz le am) (rFh c) sz (b2i fh)) R o sz (by omega) tw) (cwV 2 C.2.2.2.2.1 gX0_writeTruceEntry_X0_spreadEntry rfl rfl rfl (by decide +kernel) ⟨Nat.le_of_ble_eq_true rfl, Nat.le_of_ble_eq_true rfl⟩) rfl hl.1 rfl (Nat.le_of_ble_eq_true rfl) dX0_writeTruceEntry_27 ⟨by decide, by decide⟩) (fun _ _ z => z) (fun v_27 u_27 H locs hpo h => ?_)
  obtain ⟨rfl, rfl⟩ := hpo
  refine lv_pop hx hy dX0_writeTruceEntry_30 rfl ?_
  refine lv_iload hx hy dX0_writeTruceEntry_31 (lv_at hl 0 rfl) ?_
  exact e_int C h rfl dX0_writeTruceEntry_33 (⟨rfl, rfl⟩) (by decide) (by decide)

set_option maxRecDepth 20000 in
theorem in_X0_spreadEntries_X0 : ∀ x ∈ wsX00, x ∈ wsX0_spreadEntries := by decide +kernel
set_option maxRecDepth 20000 in
theorem in_X0_spreadEntries_X3 : ∀ x ∈ wsX30, x ∈ wsX0_spreadEntries := by decide +kernel
set_option maxRecDepth 100000 in
set_option maxHeartbeats 4000000 in
/-- Castle.spreadEntries -/
theorem c_X0_spreadEntries (l : Launch) {G : va_G} {V : wV} {rs : List Nat} (c : Nat) (hc : c < 2) (hb : bC c rs) (M R : wM) (o : wO) (sz : Nat) (hs : sz ≤ 60) (hsz : M (rRow c) 0 = nI sz) : CT l G V rs yX0_spreadEntries wsX0_spreadEntries 3 64 0 0 [.ref (V.1 (rCas c))] (M, R, o) (fun v u => v = some (.int (spG M c sz)) ∧ u = (spN M c sz, R, o)) (fun _ _ => False) := by
  refine ct_of (cc := cX0_spreadEntries) (maxL := 3) (ret := (some .int)) (by decide) rfl (Nat.le_of_ble_eq_true rfl) ?_
  intro p e s m below meth cd ls C h X hT hl
  have hx := C.1
  have hy := C.2.1
  have hl : lv_has ls 3 [(0, .ref (V.1 (rCas c)))] := hl
  refine lv_iconst (v := (nI 0)) hx hy dX0_spreadEntries_0 (by decide) ?_
  refine lv_istore_n (lv' := [(1, .int (nI 0)), (0, .ref (V.1 (rCas c)))]) hx hy dX0_spreadEntries_1 rfl hl (by decide) rfl (fun ls hl => ?_)
  refine lv_iconst (v := (nI 0)) hx hy dX0_spreadEntries_2 (by decide) ?_
  refine lv_istore_n (lv' := [(2, .int (nI 0)), (1, .int (nI 0)), (0, .ref (V.1 (rCas c)))]) hx hy dX0_spreadEntries_3 rfl hl (by decide) rfl (fun ls hl => ?_)
  have L_4 : ∀ (n_4 k : Nat), n_4 + k = sz → ∀ (H : Heap) (locs : List Loc), HH G V rs (spN M c k, R, o) s H locs → ∀ ls : Array Slot, lv_has ls 3 [(2, .int (nI k)), (1, .int (spG M c k)), (0, .ref (V.1 (rCas c)))] → W p l e { frames := 3, cells := 0, slots := 0, locals := 64 } s m [.ref (V.1 (rCas c))].toArray below meth cd H locs 0 0 (QM G V rs below [.ref (V.1 (rCas c))].toArray s 0 0 (fun v u => v = some (.int (spG M c sz)) ∧ u = (spN M c sz, R, o)) (fun _ _ => False)) (F0 m 4 ls []) := by
    intro n_4
    induction n_4 with
    | zero =>
      intro k hk_4 H locs h ls hl
      have hz_4 : k = sz := by omega
      try rw [hz_4] at h
      try rw [hz_4] at hl
      refine lv_iload_n hx hy dX0_spreadEntries_4 rfl (lv_at hl 0 rfl) ?_
      refine lv_aload_n hx hy dX0_spreadEntries_5 rfl (lv_at hl 2 rfl) ?_
      refine g_f C h (hb 0 (by decide)) (lo_Cas hc) (celF_Cas hc) rfl in_X0_spreadEntries_X0 7 (by decide) (by decide +kernel) (v := .ref (V.1 (rRow c))) rfl dX0_spreadEntries_6 ?_
      refine g_f C h (hb 16 (by decide)) (lo_Row hc) (celF_Row hc) rfl in_X0_spreadEntries_X3 0 (by decide) (by decide +kernel) (v := .int (nI sz)) (congrArg (fun z => some (Value.int z)) (show (spN M c sz) (rRow c) 0 = (nI sz) from ((congrFun (spN_ne (by simp only [rHo, rRow]; omega) (by simp only [rCo, rRow]; omega)) _).trans hsz))) dX0_spreadEntries_9 ?_
      refine n_ge hx hy (by omega) (by omega) (tgt := 50) dX0_spreadEntries_12 (by decide) (fun c_12 => ?_) (fun c_12 => ?_)
      · skip
        refine lv_iload_n hx hy dX0_spreadEntries_50 rfl (lv_at hl 1 rfl) ?_
        exact e_int C h rfl dX0_spreadEntries_51 (⟨rfl, rfl⟩) (by decide) (by decide)
      · skip
        exact absurd c_12 (by omega)
    | succ n_4 ih_4 =>
      intro k hk_4 H locs h ls hl
      have hz_4 : k < sz := by omega
      refine lv_iload_n hx hy dX0_spreadEntries_4 rfl (lv_at hl 0 rfl) ?_
      refine lv_aload_n hx hy dX0_spreadEntries_5 rfl (lv_at hl 2 rfl) ?_
      refine g_f C h (hb 0 (by decide)) (lo_Cas hc) (celF_Cas hc) rfl in_X0_spreadEntries_X0 7 (by decide) (by decide +kernel) (v := .ref (V.1 (rRow c))) rfl dX0_spreadEntries_6 ?_
      refine g_f C h (hb 16 (by decide)) (lo_Row hc) (celF_Row hc) rfl in_X0_spreadEntries_X3 0 (by decide) (by decide +kernel) (v := .int (nI sz)) (congrArg (fun z => some (Value.int z)) (show (spN M c k) (rRow c) 0 = (nI sz) from ((congrFun (spN_ne (by simp only [rHo, rRow]; omega) (by simp only [rCo, rRow]; omega)) _).trans hsz))) dX0_spreadEntries_9 ?_
      refine n_ge hx hy (by omega) (by omega) (tgt := 50) dX0_spreadEntries_12 (by decide) (fun c_12 => ?_) (fun c_12 => ?_)
      · skip
        exact absurd c_12 (by omega)
      · skip
        refine lv_aload_n hx hy dX0_spreadEntries_15 rfl (lv_at hl 2 rfl) ?_
        refine g_f C h (hb 0 (by decide)) (lo_Cas hc) (celF_Cas hc) rfl in_X0_spreadEntries_X0 7 (by decide) (by decide +kernel) (v := .ref (V.1 (rRow c))) rfl dX0_spreadEntries_16 ?_
        refine g_f C h (hb 16 (by decide)) (lo_Row hc) (celF_Row hc) rfl in_X0_spreadEntries_X3 4 (by decide) (by decide +kernel) (v := .ref (V.1 (rHo c))) rfl dX0_spreadEntries_19 ?_
        refine lv_iload_n hx hy dX0_spreadEntries_22 rfl (lv_at hl 0 rfl) ?_
        refine g_i C h (hb 20 (by decide)) (n := 60) (k := k) (lo_Ho hc) (celF_Ho hc) (by omega) (by decide) (v := ((spN M c k) (rHo c) k)) rfl dX0_spreadEntries_23 ?_
        refine lv_aload_n hx hy dX0_spreadEntries_24 rfl (lv_at hl 2 rfl) ?_
        refine g_f C h (hb 0 (by decide)) (lo_Cas hc) (celF_Cas hc) rfl in_X0_spreadEntries_X0 3 (by decide) (by decide +kernel) (v := .int (M (rCas c) 3)) (congrArg (fun z => some (Value.int z)) (show (spN M c k) (rCas c) 3 = (M (rCas c) 3) from (congrFun (spN_ne (by simp only [rCas, rHo]; omega) (by simp only [rCas, rCo]; omega)) _))) dX0_spreadEntries_25 ?_
        refine lv_iand hx hy dX0_spreadEntries_28 ?_
        refine z_eq hx hy (tgt := 44) dX0_spreadEntries_29 (by decide) (fun c_29 => ?_) (fun c_29 => ?_)
        · skip
          refine lv_iinc (v := (nI (k + 1))) (lv' := [(2, .int (nI (k + 1))), (1, .int (spG M c k)), (0, .ref (V.1 (rCas c)))]) hx hy dX0_spreadEntries_44 hl (k := 0) rfl (nI_1 _) (by decide) rfl (fun ls hl => ?_)
          refine lv_goto (tgt := 4) hx hy dX0_spreadEntries_47 (by decide) ?_
          exact ih_4 (k + 1) (by omega) _ _ (by rw [show ((spN M c (k + 1), R, o) : wW) = (spN M c k, R, o) from by simp [spN, eq_true c_12, eq_false (Nat.not_le.mpr c_12), eq_true c_29]]; exact h) _ (by have hl := lv_sub hl [0, 1, 2] (l' := [(2, .int (nI (k + 1))), (1, .int (spG M c k)), (0, .ref (V.1 (rCas c)))]) rfl; rw [show (.int (nI (k + 1)) : Value) = .int (nI (k + 1)) from rfl] at hl; rw [show (.int (spG M c k) : Value) = .int (spG M c (k + 1)) from by simp [spG, eq_true c_12, eq_false (Nat.not_le.mpr c_12), eq_true c_29]] at hl; exact hl)
        · skip
          refine lv_iload_n hx hy dX0_spreadEntries_32 rfl (lv_at hl 1 rfl) ?_
          refine lv_aload_n hx hy dX0_spreadEntries_33 rfl (lv_at hl 2 rfl) ?_
          refine lv_iload_n hx hy dX0_spreadEntries_34 rfl (lv_at hl 0 rfl) ?_
          refine lv_aload_n hx hy dX0_spreadEntries_35 rfl (lv_at hl 2 rfl) ?_
          refine g_f C h (hb 0 (by decide)) (lo_Cas hc) (celF_Cas hc) rfl in_X0_spreadEntries_X0 3 (by decide) (by decide +kernel) (v := .int (M (rCas c) 3)) (congrArg (fun z => some (Value.int z)) (show (spN M c k) (rCas c) 3 = (M (rCas c) 3) from (congrFun (spN_ne (by simp only [rCas, rHo]; omega) (by simp only [rCas, rCo]; omega)) _))) dX0_spreadEntries_36 ?_
          refine n_go0 C h (n_V (As := [.int (nI k), .int (M (rCas c) 3)]) (rest := [.int (spG M c k)]) C h X (hb 0 (by decide)) ((lo_Cas hc).trans ((celF_Cas hc) _)) rfl (c_X0_spreadEntry l c hc hb (spN M c k) R o k (by omega) (M (rCas c) 3)) (cwV 2 C.2.2.2.2.1 gX0_spreadEntries_X0_spreadEntry rfl rfl rfl (by decide +kernel) ⟨Nat.le_of_ble_eq_true rfl, Nat.le_of_ble_eq_true rfl⟩) rfl hl.1 rfl (Nat.le_of_ble_eq_true rfl) dX0_spreadEntries_39 ⟨by decide, by decide⟩) (fun _ _ z => z) (fun v_39 u_39 H locs hpo h => ?_)
          obtain ⟨rfl, rfl⟩ := hpo
          refine lv_iadd hx hy dX0_spreadEntries_42 ?_
          refine lv_istore_n (lv' := [(1, .int ((spG M c k) + (seG (spN M c k) c k (M (rCas c) 3)))), (2, .int (nI k)), (0, .ref (V.1 (rCas c)))]) hx hy dX0_spreadEntries_43 rfl hl (by decide) rfl (fun ls hl => ?_)
          refine lv_iinc (v := (nI (k + 1))) (lv' := [(2, .int (nI (k + 1))), (1, .int ((spG M c k) + (seG (spN M c k) c k (M (rCas c) 3)))), (0, .ref (V.1 (rCas c)))]) hx hy dX0_spreadEntries_44 hl (k := 1) rfl (nI_1 _) (by decide) rfl (fun ls hl => ?_)
          refine lv_goto (tgt := 4) hx hy dX0_spreadEntries_47 (by decide) ?_
          exact ih_4 (k + 1) (by omega) _ _ (by rw [show ((spN M c (k + 1), R, o) : wW) = (seM (spN M c k) c k (M (rCas c) 3), R, o) from by simp [spN, eq_true c_12, eq_false (Nat.not_le.mpr c_12), eq_false c_29]]; exact h) _ (by have hl := lv_sub hl [0, 1, 2] (l' := [(2, .int (nI (k + 1))), (1, .int ((spG M c k) + (seG (spN M c k) c k (M (rCas c) 3)))), (0, .ref (V.1 (rCas c)))]) rfl; rw [show (.int (nI (k + 1)) : Value) = .int (nI (k + 1)) from rfl] at hl; rw [show (.int ((spG M c k) + (seG (spN M c k) c k (M (rCas c) 3))) : Value) = .int (spG M c (k + 1)) from by simp [spG, eq_true c_12, eq_false (Nat.not_le.mpr c_12), eq_false c_29]] at hl; exact hl)
  exact L_4 (sz) 0 (by omega) _ _ (by rw [show (spN M c 0, R, o) = (M, R, o) from rfl]; exact h) _ (by have hl := lv_sub hl [0, 1, 2] (l' := [(2, .int (nI 0)), (1, .int (nI 0)), (0, .ref (V.1 (rCas c)))]) rfl; rw [show (.int (nI 0) : Value) = .int (spG M c 0) from rfl] at hl; exact hl)

set_option maxRecDepth 20000 in
theorem in_X0_tellLedger_X0 : ∀ x ∈ wsX00, x ∈ wsX0_tellLedger := by decide +kernel
set_option maxRecDepth 100000 in
set_option maxHeartbeats 4000000 in
/-- Castle.tellLedger -/
theorem c_X0_tellLedger (l : Launch) {G : va_G} {V : wV} {rs : List Nat} (c : Nat) (hc : c < 2) (hb : bC c rs) (M R : wM) (o : wO) (sz : Nat) (hs : sz ≤ 60) (hsz : M (rRow c) 0 = nI sz) (hlo : okL M c sz) : CT l G V rs yX0_tellLedger wsX0_tellLedger 3 68 0 0 [.ref (V.1 (rCas c))] (M, R, o) (fun v u => v = some (.ref (V.1 (rLed c))) ∧ u = (telM M c sz, R, o)) (fun _ _ => False) := by
  refine ct_of (cc := cX0_tellLedger) (maxL := 1) (ret := (some (.object "Castlequorum$Ledger"))) (by decide) rfl (Nat.le_of_ble_eq_true rfl) ?_
  intro p e s m below meth cd ls C h X hT hl
  have hx := C.1
  have hy := C.2.1
  have hl : lv_has ls 1 [(0, .ref (V.1 (rCas c)))] := hl
  refine lv_aload_n hx hy dX0_tellLedger_0 rfl (lv_at hl 0 rfl) ?_
  refine g_f C h (hb 0 (by decide)) (lo_Cas hc) (celF_Cas hc) rfl in_X0_tellLedger_X0 8 (by decide) (by decide +kernel) (v := .ref (V.1 (rLed c))) rfl dX0_tellLedger_1 ?_
  refine lv_aload_n hx hy dX0_tellLedger_4 rfl (lv_at hl 0 rfl) ?_
  refine g_f C h (hb 0 (by decide)) (lo_Cas hc) (celF_Cas hc) rfl in_X0_tellLedger_X0 7 (by decide) (by decide +kernel) (v := .ref (V.1 (rRow c))) rfl dX0_tellLedger_5 ?_
  refine lv_aload_n hx hy dX0_tellLedger_8 rfl (lv_at hl 0 rfl) ?_
  refine g_f C h (hb 0 (by decide)) (lo_Cas hc) (celF_Cas hc) rfl in_X0_tellLedger_X0 1 (by decide) (by decide +kernel) (v := .int (M (rCas c) 1)) rfl dX0_tellLedger_9 ?_
  refine n_go0 C h (n_V (As := [.ref (V.1 (rRow c)), .int (M (rCas c) 1)]) (rest := []) C h X (hb 23 (by decide)) ((lo_Led hc).trans ((celF_Led hc) _)) rfl (c_X2_tell l c hc hb M R o sz hs hsz hlo (M (rCas c) 1)) (cwV 2 C.2.2.2.2.1 gX0_tellLedger_X2_tell rfl rfl rfl (by decide +kernel) ⟨Nat.le_of_ble_eq_true rfl, Nat.le_of_ble_eq_true rfl⟩) rfl hl.1 rfl (Nat.le_of_ble_eq_true rfl) dX0_tellLedger_12 ⟨by decide, by decide⟩) (fun _ _ z => z) (fun v_12 u_12 H locs hpo h => ?_)
  obtain ⟨rfl, rfl⟩ := hpo
  refine lv_aload_n hx hy dX0_tellLedger_15 rfl (lv_at hl 0 rfl) ?_
  refine g_f C h (hb 0 (by decide)) (lo_Cas hc) (celF_Cas hc) rfl in_X0_tellLedger_X0 8 (by decide) (by decide +kernel) (v := .ref (V.1 (rLed c))) rfl dX0_tellLedger_16 ?_
  exact e_ref C h (Or.inl ⟨_, rfl⟩) dX0_tellLedger_19 (⟨rfl, rfl⟩) (by decide) (by decide)

set_option maxRecDepth 20000 in
theorem in_X0_addTo_X0 : ∀ x ∈ wsX00, x ∈ wsX0_addTo := by decide +kernel
set_option maxRecDepth 20000 in
theorem in_X0_addTo_X2 : ∀ x ∈ wsX20, x ∈ wsX0_addTo := by decide +kernel
set_option maxRecDepth 100000 in
set_option maxHeartbeats 4000000 in
/-- Castle.addTo -/
theorem c_X0_addTo (l : Launch) {G : va_G} {V : wV} {rs : List Nat} (c : Nat) (hc : c < 2) (hb : bC c rs) (M R : wM) (o : wO) (sz : Nat) (hs : sz ≤ 60) (hsz : M (rRow c) 0 = nI sz) (hlo : okL M c sz) (s0 : Int64) : CT l G V rs yX0_addTo wsX0_addTo 4 88 0 0 [.ref (V.1 (rCas c)), .long s0] (M, R, o) (fun v u => v = some (.long (adN (telM M c sz) c s0 4)) ∧ u = (telM M c sz, R, o)) (fun _ _ => False) := by
  refine ct_of (cc := cX0_addTo) (maxL := 6) (ret := (some .long)) (by decide) rfl (Nat.le_of_ble_eq_true rfl) ?_
  intro p e s m below meth cd ls C h X hT hl
  have hx := C.1
  have hy := C.2.1
  have hl : lv_has ls 6 [(0, .ref (V.1 (rCas c))), (1, .long s0)] := hl
  refine lv_aload_n hx hy dX0_addTo_0 rfl (lv_at hl 0 rfl) ?_
  refine n_go0 C h (n_V (As := []) (rest := []) C h X (hb 0 (by decide)) ((lo_Cas hc).trans ((celF_Cas hc) _)) rfl (c_X0_tellLedger l c hc hb M R o sz hs hsz hlo ) (cwV 0 C.2.2.2.2.1 gX0_addTo_X0_tellLedger rfl rfl rfl (by decide +kernel) ⟨Nat.le_of_ble_eq_true rfl, Nat.le_of_ble_eq_true rfl⟩) rfl hl.1 rfl (Nat.le_of_ble_eq_true rfl) dX0_addTo_1 ⟨by decide, by decide⟩) (fun _ _ z => z) (fun v_1 u_1 H locs hpo h => ?_)
  obtain ⟨rfl, rfl⟩ := hpo
  refine lv_pop hx hy dX0_addTo_4 rfl ?_
  refine lv_ldc2 (v := 31) hx hy C.2.2.2.1 (C.2.2.2.2.1 (.constantLong RX0 114 31) (by decide +kernel)) dX0_addTo_5 ?_
  refine lv_lload_n hx hy dX0_addTo_8 rfl (lv_at hl 1 rfl) ?_
  refine lv_lmul hx hy dX0_addTo_9 ?_
  refine lv_aload_n hx hy dX0_addTo_10 rfl (lv_at hl 0 rfl) ?_
  refine g_f C h (hb 0 (by decide)) (lo_Cas hc) (celF_Cas hc) rfl in_X0_addTo_X0 8 (by decide) (by decide +kernel) (v := .ref (V.1 (rLed c))) rfl dX0_addTo_11 ?_
  refine g_f C h (hb 23 (by decide)) (lo_Led hc) (celF_Led hc) rfl in_X0_addTo_X2 0 (by decide) (by decide +kernel) (v := .int ((telM M c sz) (rLed c) 0)) rfl dX0_addTo_14 ?_
  refine lv_i2l hx hy dX0_addTo_17 rfl ?_
  refine lv_ladd hx hy dX0_addTo_18 ?_
  refine lv_lstore_n (lv' := [(3, .long ((31 * s0) + (((telM M c sz) (rLed c) 0).toInt64))), (0, .ref (V.1 (rCas c))), (1, .long s0)]) hx hy dX0_addTo_19 rfl hl (by decide) rfl (fun ls hl => ?_)
  refine lv_iconst (v := (nI 0)) hx hy dX0_addTo_20 (by decide) ?_
  refine lv_istore (lv' := [(5, .int (nI 0)), (3, .long ((31 * s0) + (((telM M c sz) (rLed c) 0).toInt64))), (0, .ref (V.1 (rCas c))), (1, .long s0)]) hx hy dX0_addTo_21 hl (by decide) rfl (fun ls hl => ?_)
  have L_23 : ∀ (n_23 k : Nat), n_23 + k = 4 → ∀ (H : Heap) (locs : List Loc), HH G V rs (telM M c sz, R, o) s H locs → ∀ ls : Array Slot, lv_has ls 6 [(5, .int (nI k)), (3, .long (adN (telM M c sz) c s0 k)), (0, .ref (V.1 (rCas c))), (1, .long s0)] → W p l e { frames := 4, cells := 0, slots := 0, locals := 88 } s m [.ref (V.1 (rCas c)), .long s0].toArray below meth cd H locs 0 0 (QM G V rs below [.ref (V.1 (rCas c)), .long s0].toArray s 0 0 (fun v u => v = some (.long (adN (telM M c sz) c s0 4)) ∧ u = (telM M c sz, R, o)) (fun _ _ => False)) (F0 m 23 ls []) := by
    intro n_23
    induction n_23 with
    | zero =>
      intro k hk_23 H locs h ls hl
      have hz_23 : k = 4 := by omega
      try rw [hz_23] at h
      try rw [hz_23] at hl
      refine lv_iload hx hy dX0_addTo_23 (lv_at hl 0 rfl) ?_
      refine lv_iconst (v := (nI 4)) hx hy dX0_addTo_25 (by decide) ?_
      refine n_ge hx hy (by decide) (by decide) (tgt := 53) dX0_addTo_26 (by decide) (fun c_26 => ?_) (fun c_26 => ?_)
      · skip
        refine lv_lload_n hx hy dX0_addTo_53 rfl (lv_at hl 1 rfl) ?_
        exact e_long C h dX0_addTo_54 (⟨rfl, rfl⟩) (by decide) (by decide)
      · skip
        exact absurd c_26 (by omega)
    | succ n_23 ih_23 =>
      intro k hk_23 H locs h ls hl
      have hz_23 : k < 4 := by omega
      refine lv_iload hx hy dX0_addTo_23 (lv_at hl 0 rfl) ?_
      refine lv_iconst (v := (nI 4)) hx hy dX0_addTo_25 (by decide) ?_
      refine n_ge hx hy (by omega) (by decide) (tgt := 53) dX0_addTo_26 (by decide) (fun c_26 => ?_) (fun c_26 => ?_)
      · skip
        exact absurd c_26 (by omega)
      · skip
        refine lv_ldc2 (v := 31) hx hy C.2.2.2.1 (C.2.2.2.2.1 (.constantLong RX0 114 31) (by decide +kernel)) dX0_addTo_29 ?_
        refine lv_lload_n hx hy dX0_addTo_32 rfl (lv_at hl 1 rfl) ?_
        refine lv_lmul hx hy dX0_addTo_33 ?_
        refine lv_aload_n hx hy dX0_addTo_34 rfl (lv_at hl 2 rfl) ?_
        refine g_f C h (hb 0 (by decide)) (lo_Cas hc) (celF_Cas hc) rfl in_X0_addTo_X0 8 (by decide) (by decide +kernel) (v := .ref (V.1 (rLed c))) rfl dX0_addTo_35 ?_
        refine g_f C h (hb 23 (by decide)) (lo_Led hc) (celF_Led hc) rfl in_X0_addTo_X2 2 (by decide) (by decide +kernel) (v := .ref (V.1 (rPu c))) rfl dX0_addTo_38 ?_
        refine lv_iload hx hy dX0_addTo_41 (lv_at hl 0 rfl) ?_
        refine g_i C h (hb 24 (by decide)) (n := 4) (k := k) (lo_Pu hc) (celF_Pu hc) (by omega) (by decide) (v := ((telM M c sz) (rPu c) k)) rfl dX0_addTo_43 ?_
        refine lv_i2l hx hy dX0_addTo_44 rfl ?_
        refine lv_ladd hx hy dX0_addTo_45 ?_
        refine lv_lstore_n (lv' := [(3, .long ((31 * (adN (telM M c sz) c s0 k)) + (((telM M c sz) (rPu c) k).toInt64))), (5, .int (nI k)), (0, .ref (V.1 (rCas c))), (1, .long s0)]) hx hy dX0_addTo_46 rfl hl (by decide) rfl (fun ls hl => ?_)
        refine lv_iinc (v := (nI (k + 1))) (lv' := [(5, .int (nI (k + 1))), (3, .long ((31 * (adN (telM M c sz) c s0 k)) + (((telM M c sz) (rPu c) k).toInt64))), (0, .ref (V.1 (rCas c))), (1, .long s0)]) hx hy dX0_addTo_47 hl (k := 1) rfl (nI_1 _) (by decide) rfl (fun ls hl => ?_)
        refine lv_goto (tgt := 23) hx hy dX0_addTo_50 (by decide) ?_
        exact ih_23 (k + 1) (by omega) _ _ h _ (by have hl := lv_sub hl [0, 1, 2, 3] (l' := [(5, .int (nI (k + 1))), (3, .long ((31 * (adN (telM M c sz) c s0 k)) + (((telM M c sz) (rPu c) k).toInt64))), (0, .ref (V.1 (rCas c))), (1, .long s0)]) rfl; rw [show (.int (nI (k + 1)) : Value) = .int (nI (k + 1)) from rfl] at hl; rw [show (.long ((31 * (adN (telM M c sz) c s0 k)) + (((telM M c sz) (rPu c) k).toInt64)) : Value) = .long (adN (telM M c sz) c s0 (k + 1)) from rfl] at hl; exact hl)
  exact L_23 (4) 0 (by omega) _ _ h _ (by have hl := lv_sub hl [0, 1, 2, 3] (l' := [(5, .int (nI 0)), (3, .long ((31 * s0) + (((telM M c sz) (rLed c) 0).toInt64))), (0, .ref (V.1 (rCas c))), (1, .long s0)]) rfl; rw [show (.long ((31 * s0) + (((telM M c sz) (rLed c) 0).toInt64)) : Value) = .long (adN (telM M c sz) c s0 0) from rfl] at hl; exact hl)

set_option maxRecDepth 20000 in
theorem in_X0_isSoundAt_X0 : ∀ x ∈ wsX00, x ∈ wsX0_isSoundAt := by decide +kernel
set_option maxRecDepth 100000 in
set_option maxHeartbeats 4000000 in
/-- Castle.isSoundAt -/
theorem c_X0_isSoundAt (l : Launch) {G : va_G} {V : wV} {rs : List Nat} (c : Nat) (hc : c < 2) (hb : bC c rs) (M R : wM) (o : wO) (sz : Nat) (hs : sz ≤ 60) (hsz : M (rRow c) 0 = nI sz) (hlo : okL M c sz) (now : Int32) : CT l G V rs yX0_isSoundAt wsX0_isSoundAt 4 88 0 0 [.ref (V.1 (rCas c)), .int now] (M, R, o) (fun v u => v = some (.int (b2i (cSnd M c sz now))) ∧ u = (cSndM M c sz now, R, o)) (fun _ _ => False) := by
  refine ct_of (cc := cX0_isSoundAt) (maxL := 3) (ret := (some .boolean)) (by decide) rfl (Nat.le_of_ble_eq_true rfl) ?_
  intro p e s m below meth cd ls C h X hT hl
  have hx := C.1
  have hy := C.2.1
  have hl : lv_has ls 3 [(0, .ref (V.1 (rCas c))), (1, .int now)] := hl
  refine lv_iconst (v := (nI 0)) hx hy dX0_isSoundAt_0 (by decide) ?_
  refine lv_istore_n (lv' := [(2, .int (nI 0)), (0, .ref (V.1 (rCas c))), (1, .int now)]) hx hy dX0_isSoundAt_1 rfl hl (by decide) rfl (fun ls hl => ?_)
  have L_2 : ∀ (n_2 k : Nat), n_2 + k = 3 → (∀ j, j < k → (fun j => decide (cntB (fun lo => gOpen M c j lo now) 4 ≤ 1)) j = true) → ∀ (H : Heap) (locs : List Loc), HH G V rs (M, R, o) s H locs → ∀ ls : Array Slot, lv_has ls 3 [(2, .int (nI k)), (0, .ref (V.1 (rCas c))), (1, .int now)] → W p l e { frames := 4, cells := 0, slots := 0, locals := 88 } s m [.ref (V.1 (rCas c)), .int now].toArray below meth cd H locs 0 0 (QM G V rs below [.ref (V.1 (rCas c)), .int now].toArray s 0 0 (fun v u => v = some (.int (b2i (cSnd M c sz now))) ∧ u = (cSndM M c sz now, R, o)) (fun _ _ => False)) (F0 m 2 ls []) := by
    intro n_2
    induction n_2 with
    | zero =>
      intro k hk_2 hx2_0 H locs h ls hl
      have hz_2 : k = 3 := by omega
      try rw [hz_2] at h
      try rw [hz_2] at hl
      try rw [hz_2] at hx2_0
      have hcb := cntB_le (fun lo => gOpen M c 3 lo now) 4
      refine lv_iload_n hx hy dX0_isSoundAt_2 rfl (lv_at hl 0 rfl) ?_
      refine lv_iconst (v := (nI 3)) hx hy dX0_isSoundAt_3 (by decide) ?_
      refine n_ge hx hy (by decide) (by decide) (tgt := 29) dX0_isSoundAt_4 (by decide) (fun c_4 => ?_) (fun c_4 => ?_)
      · skip
        refine lv_aload_n hx hy dX0_isSoundAt_29 rfl (lv_at hl 1 rfl) ?_
        refine n_go0 C h (n_V (As := []) (rest := []) C h X (hb 0 (by decide)) ((lo_Cas hc).trans ((celF_Cas hc) _)) rfl (c_X0_tellLedger l c hc hb M R o sz hs hsz hlo ) (cwV 0 C.2.2.2.2.1 gX0_isSoundAt_X0_tellLedger rfl rfl rfl (by decide +kernel) ⟨Nat.le_of_ble_eq_true rfl, Nat.le_of_ble_eq_true rfl⟩) rfl hl.1 rfl (Nat.le_of_ble_eq_true rfl) dX0_isSoundAt_30 ⟨by decide, by decide⟩) (fun _ _ z => z) (fun v_30 u_30 H locs hpo h => ?_)
        obtain ⟨rfl, rfl⟩ := hpo
        refine lv_pop hx hy dX0_isSoundAt_33 rfl ?_
        refine lv_aload_n hx hy dX0_isSoundAt_34 rfl (lv_at hl 1 rfl) ?_
        refine g_f C h (hb 0 (by decide)) (lo_Cas hc) (celF_Cas hc) rfl in_X0_isSoundAt_X0 8 (by decide) (by decide +kernel) (v := .ref (V.1 (rLed c))) rfl dX0_isSoundAt_35 ?_
        refine n_go0 C h (n_V (As := []) (rest := []) C h X (hb 23 (by decide)) ((lo_Led hc).trans ((celF_Led hc) _)) rfl (c_X2_isInBounds l c hc hb (telM M c sz) R o ) (cwV 0 C.2.2.2.2.1 gX0_isSoundAt_X2_isInBounds rfl rfl rfl (by decide +kernel) ⟨Nat.le_of_ble_eq_true rfl, Nat.le_of_ble_eq_true rfl⟩) rfl hl.1 rfl (Nat.le_of_ble_eq_true rfl) dX0_isSoundAt_38 ⟨by decide, by decide⟩) (fun _ _ z => z) (fun v_38 u_38 H locs hpo h => ?_)
        obtain ⟨rfl, rfl⟩ := hpo
        refine b_eq hx hy (tgt := 70) dX0_isSoundAt_41 (by decide) (fun c_41 => ?_) (fun c_41 => ?_)
        · skip
          refine lv_iconst (v := (nI 0)) hx hy dX0_isSoundAt_70 (by decide) ?_
          exact e_int C h (by decide) dX0_isSoundAt_71 (by have h8 : sndG M c now = true := decide_eq_true (lead_all hx2_0); exact ⟨by simp [cSnd, b2i, h8, eq_true c_4, eq_false (Nat.not_lt.mpr c_4), c_41], by simp only [cSndM, h8]; rfl⟩) (by decide) (by decide)
        · skip
          refine lv_aload_n hx hy dX0_isSoundAt_44 rfl (lv_at hl 1 rfl) ?_
          refine g_f C h (hb 0 (by decide)) (lo_Cas hc) (celF_Cas hc) rfl in_X0_isSoundAt_X0 8 (by decide) (by decide +kernel) (v := .ref (V.1 (rLed c))) rfl dX0_isSoundAt_45 ?_
          refine n_go0 C h (n_V (As := []) (rest := []) C h X (hb 23 (by decide)) ((lo_Led hc).trans ((celF_Led hc) _)) rfl (c_X2_sum l c hc hb (telM M c sz) R o ) (cwV 0 C.2.2.2.2.1 gX0_isSoundAt_X2_sum rfl rfl rfl (by decide +kernel) ⟨Nat.le_of_ble_eq_true rfl, Nat.le_of_ble_eq_true rfl⟩) rfl hl.1 rfl (Nat.le_of_ble_eq_true rfl) dX0_isSoundAt_48 ⟨by decide, by decide⟩) (fun _ _ z => z) (fun v_48 u_48 H locs hpo h => ?_)
          obtain ⟨rfl, rfl⟩ := hpo
          refine lv_aload_n hx hy dX0_isSoundAt_51 rfl (lv_at hl 1 rfl) ?_
          refine g_f C h (hb 0 (by decide)) (lo_Cas hc) (celF_Cas hc) rfl in_X0_isSoundAt_X0 1 (by decide) (by decide +kernel) (v := .int (M (rCas c) 1)) (congrArg (fun z => some (Value.int z)) (show (telM M c sz) (rCas c) 1 = (M (rCas c) 1) from (congrFun (telM_ne (by simp only [rCas, rLed]; omega) (by simp only [rCas, rPu]; omega)) _))) dX0_isSoundAt_52 ?_
          refine lv_aload_n hx hy dX0_isSoundAt_55 rfl (lv_at hl 1 rfl) ?_
          refine g_f C h (hb 0 (by decide)) (lo_Cas hc) (celF_Cas hc) rfl in_X0_isSoundAt_X0 7 (by decide) (by decide +kernel) (v := .ref (V.1 (rRow c))) rfl dX0_isSoundAt_56 ?_
          refine n_go0 C h (n_V (As := []) (rest := [.int (M (rCas c) 1), .int (lsum (telM M c sz) c 4)]) C h X (hb 16 (by decide)) ((lo_Row hc).trans ((celF_Row hc) _)) rfl (c_X3_movedByTruces l c hc hb (telM M c sz) R o sz hs ((congrFun (telM_ne (by simp only [rLed, rRow]; omega) (by simp only [rPu, rRow]; omega)) _).trans hsz) ) (cwV 0 C.2.2.2.2.1 gX0_isSoundAt_X3_movedByTruces rfl rfl rfl (by decide +kernel) ⟨Nat.le_of_ble_eq_true rfl, Nat.le_of_ble_eq_true rfl⟩) rfl hl.1 rfl (Nat.le_of_ble_eq_true rfl) dX0_isSoundAt_59 ⟨by decide, by decide⟩) (fun _ _ z => z) (fun v_59 u_59 H locs hpo h => ?_)
          obtain ⟨rfl, rfl⟩ := hpo
          refine lv_iadd hx hy dX0_isSoundAt_62 ?_
          refine i_ne hx hy (tgt := 70) dX0_isSoundAt_63 (by decide) (fun c_63 => ?_) (fun c_63 => ?_)
          · skip
            refine lv_iconst (v := (nI 0)) hx hy dX0_isSoundAt_70 (by decide) ?_
            exact e_int C h (by decide) dX0_isSoundAt_71 (by have h8 : sndG M c now = true := decide_eq_true (lead_all hx2_0); exact ⟨by simp [cSnd, b2i, h8, eq_true c_4, eq_false (Nat.not_lt.mpr c_4), c_41, eq_false c_63], by simp only [cSndM, h8]; rfl⟩) (by decide) (by decide)
          · skip
            refine lv_iconst (v := (nI 1)) hx hy dX0_isSoundAt_66 (by decide) ?_
            refine lv_goto (tgt := 71) hx hy dX0_isSoundAt_67 (by decide) ?_
            exact e_int C h (by decide) dX0_isSoundAt_71 (by have h8 : sndG M c now = true := decide_eq_true (lead_all hx2_0); exact ⟨by simp [cSnd, b2i, h8, eq_true c_4, eq_false (Nat.not_lt.mpr c_4), c_41, eq_true c_63], by simp only [cSndM, h8]; rfl⟩) (by decide) (by decide)
      · skip
        exact absurd c_4 (by omega)
    | succ n_2 ih_2 =>
      intro k hk_2 hx2_0 H locs h ls hl
      have hz_2 : k < 3 := by omega
      have hcb := cntB_le (fun lo => gOpen M c k lo now) 4
      refine lv_iload_n hx hy dX0_isSoundAt_2 rfl (lv_at hl 0 rfl) ?_
      refine lv_iconst (v := (nI 3)) hx hy dX0_isSoundAt_3 (by decide) ?_
      refine n_ge hx hy (by omega) (by decide) (tgt := 29) dX0_isSoundAt_4 (by decide) (fun c_4 => ?_) (fun c_4 => ?_)
      · skip
        exact absurd c_4 (by omega)
      · skip
        refine lv_aload_n hx hy dX0_isSoundAt_7 rfl (lv_at hl 1 rfl) ?_
        refine g_f C h (hb 0 (by decide)) (lo_Cas hc) (celF_Cas hc) rfl in_X0_isSoundAt_X0 6 (by decide) (by decide +kernel) (v := .ref (V.1 (rGs c))) rfl dX0_isSoundAt_8 ?_
        refine lv_iload_n hx hy dX0_isSoundAt_11 rfl (lv_at hl 0 rfl) ?_
        refine g_a C h (hb 3 (by decide)) 3 (n := 3) (k := k) (lo_Gs hc) ((celF_Gs hc) _) rfl (by omega) (by decide) (a := V.1 (rGate c k)) rfl dX0_isSoundAt_12 ?_
        refine lv_iload_n hx hy dX0_isSoundAt_13 rfl (lv_at hl 2 rfl) ?_
        refine n_go0 C h (n_V (As := [.int now]) (rest := []) C h X (hb (4 + 4 * k) (by omega)) ((lo_Gate hc (by omega)).trans ((celF_Gate hc (by omega)) _)) rfl (c_X1_openCount l c k hc (by omega) hb M R o now) (cwV 1 C.2.2.2.2.1 gX0_isSoundAt_X1_openCount rfl rfl rfl (by decide +kernel) ⟨Nat.le_of_ble_eq_true rfl, Nat.le_of_ble_eq_true rfl⟩) rfl hl.1 rfl (Nat.le_of_ble_eq_true rfl) dX0_isSoundAt_14 ⟨by decide, by decide⟩) (fun _ _ z => z) (fun v_14 u_14 H locs hpo h => ?_)
        obtain ⟨rfl, rfl⟩ := hpo
        refine lv_iconst (v := (nI 1)) hx hy dX0_isSoundAt_17 (by decide) ?_
        refine n_le hx hy (by omega) (by decide) (tgt := 23) dX0_isSoundAt_18 (by decide) (fun c_18 => ?_) (fun c_18 => ?_)
        · skip
          refine lv_iinc (v := (nI (k + 1))) (lv' := [(2, .int (nI (k + 1))), (0, .ref (V.1 (rCas c))), (1, .int now)]) hx hy dX0_isSoundAt_23 hl (k := 0) rfl (nI_1 _) (by decide) rfl (fun ls hl => ?_)
          refine lv_goto (tgt := 2) hx hy dX0_isSoundAt_26 (by decide) ?_
          exact ih_2 (k + 1) (by omega) (ext_lt hx2_0 (by simp [eq_true c_4, eq_false (Nat.not_le.mpr c_4), eq_true c_18, eq_false (Nat.not_lt.mpr c_18)])) _ _ h _ (by have hl := lv_sub hl [0, 1, 2] (l' := [(2, .int (nI (k + 1))), (0, .ref (V.1 (rCas c))), (1, .int now)]) rfl; rw [show (.int (nI (k + 1)) : Value) = .int (nI (k + 1)) from rfl] at hl; exact hl)
        · skip
          refine lv_iconst (v := (nI 0)) hx hy dX0_isSoundAt_21 (by decide) ?_
          exact e_int C h (by decide) dX0_isSoundAt_22 (by have h9 := lead_at (p := (fun j => decide (cntB (fun lo => gOpen M c j lo now) 4 ≤ 1))) (n := 3) (Nat.le_of_lt hz_2) hx2_0 (by simp [eq_true c_4, eq_false (Nat.not_le.mpr c_4), eq_true c_18, eq_false (Nat.not_le.mpr c_18)]); have h8 : sndG M c now = false := decide_eq_false (by omega); exact ⟨by simp only [cSnd, b2i, h8]; rfl, by simp only [cSndM, h8]; rfl⟩) (by decide) (by decide)
  exact L_2 (3) 0 (by omega) (fun j hj => absurd hj (Nat.not_lt_zero j)) _ _ h _ (lv_sub hl [0, 1, 2] rfl)

