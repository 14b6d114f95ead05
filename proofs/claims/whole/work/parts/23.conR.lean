set_option maxRecDepth 100000 in
set_option maxHeartbeats 4000000 in
/-- isIn -/
theorem c_X7_isIn (l : Launch) {G : va_G} {V : wV} {rs : List Nat} (M R : wM) (o : wO) (x y z : Int32) : CT l G V rs yX7_isIn wsX7_isIn 0 0 0 0 [.int x, .int y, .int z] (M, R, o) (fun v u => v = some (.int (b2i (vI x y z))) ∧ u = (M, R, o)) (fun _ _ => False) := by
  refine ct_of (cc := cX7_isIn) (maxL := 3) (ret := (some .boolean)) (by decide) rfl (Nat.le_of_ble_eq_true rfl) ?_
  intro p e s m below meth cd ls C h X hT hl
  have hx := C.1
  have hy := C.2.1
  have hl : lv_has ls 3 [(0, .int x), (1, .int y), (2, .int z)] := hl
  refine lv_iload_n hx hy dX7_isIn_0 rfl (lv_at hl 0 rfl) ?_
  refine lv_iload_n hx hy dX7_isIn_1 rfl (lv_at hl 1 rfl) ?_
  refine i_lt hx hy (tgt := 14) dX7_isIn_2 (by decide) (fun c_2 => ?_) (fun c_2 => ?_)
  · skip
    refine lv_iconst (v := (nI 0)) hx hy dX7_isIn_14 (by decide) ?_
    exact e_int C h (by decide) dX7_isIn_15 (⟨by simp [vI, b2i, eq_true c_2, eq_false (Int32.not_le.mpr c_2)], rfl⟩) (by decide) (by decide)
  · skip
    refine lv_iload_n hx hy dX7_isIn_5 rfl (lv_at hl 0 rfl) ?_
    refine lv_iload_n hx hy dX7_isIn_6 rfl (lv_at hl 2 rfl) ?_
    refine i_gt hx hy (tgt := 14) dX7_isIn_7 (by decide) (fun c_7 => ?_) (fun c_7 => ?_)
    · skip
      refine lv_iconst (v := (nI 0)) hx hy dX7_isIn_14 (by decide) ?_
      exact e_int C h (by decide) dX7_isIn_15 (⟨by simp [vI, b2i, eq_true c_2, eq_false (Int32.not_lt.mpr c_2), eq_true c_7, eq_false (Int32.not_le.mpr c_7)], rfl⟩) (by decide) (by decide)
    · skip
      refine lv_iconst (v := (nI 1)) hx hy dX7_isIn_10 (by decide) ?_
      refine lv_goto (tgt := 15) hx hy dX7_isIn_11 (by decide) ?_
      exact e_int C h (by decide) dX7_isIn_15 (⟨by simp [vI, b2i, eq_true c_2, eq_false (Int32.not_lt.mpr c_2), eq_true c_7, eq_false (Int32.not_lt.mpr c_7)], rfl⟩) (by decide) (by decide)

set_option maxRecDepth 100000 in
set_option maxHeartbeats 4000000 in
/-- isCastle -/
theorem c_X7_isCastle (l : Launch) {G : va_G} {V : wV} {rs : List Nat} (M R : wM) (o : wO) (x : Int32) : CT l G V rs yX7_isCastle wsX7_isCastle 0 0 0 0 [.int x] (M, R, o) (fun v u => v = some (.int (b2i (vIn x 2))) ∧ u = (M, R, o)) (fun _ _ => False) := by
  refine ct_of (cc := cX7_isCastle) (maxL := 1) (ret := (some .boolean)) (by decide) rfl (Nat.le_of_ble_eq_true rfl) ?_
  intro p e s m below meth cd ls C h X hT hl
  have hx := C.1
  have hy := C.2.1
  have hl : lv_has ls 1 [(0, .int x)] := hl
  refine lv_iload_n hx hy dX7_isCastle_0 rfl (lv_at hl 0 rfl) ?_
  refine z_eq hx hy (tgt := 9) dX7_isCastle_1 (by decide) (fun c_1 => ?_) (fun c_1 => ?_)
  · skip
    refine lv_iconst (v := (nI 1)) hx hy dX7_isCastle_9 (by decide) ?_
    refine lv_goto (tgt := 14) hx hy dX7_isCastle_10 (by decide) ?_
    exact e_int C h (by decide) dX7_isCastle_14 (⟨by rw [← isC_vIn, show nI 0 = (0 : Int32) from rfl]; simp [b2i, eq_true c_1]; try rfl, rfl⟩) (by decide) (by decide)
  · skip
    refine lv_iload_n hx hy dX7_isCastle_4 rfl (lv_at hl 0 rfl) ?_
    refine lv_iconst (v := (nI 1)) hx hy dX7_isCastle_5 (by decide) ?_
    refine i_ne hx hy (tgt := 13) dX7_isCastle_6 (by decide) (fun c_6 => ?_) (fun c_6 => ?_)
    · skip
      refine lv_iconst (v := (nI 0)) hx hy dX7_isCastle_13 (by decide) ?_
      exact e_int C h (by decide) dX7_isCastle_14 (⟨by rw [← isC_vIn, show nI 0 = (0 : Int32) from rfl]; simp [b2i, eq_false c_1, eq_false c_6]; try rfl, rfl⟩) (by decide) (by decide)
    · skip
      refine lv_iconst (v := (nI 1)) hx hy dX7_isCastle_9 (by decide) ?_
      refine lv_goto (tgt := 14) hx hy dX7_isCastle_10 (by decide) ?_
      exact e_int C h (by decide) dX7_isCastle_14 (⟨by rw [← isC_vIn, show nI 0 = (0 : Int32) from rfl]; simp [b2i, eq_false c_1, eq_true c_6]; try rfl, rfl⟩) (by decide) (by decide)

set_option maxRecDepth 100000 in
set_option maxHeartbeats 4000000 in
/-- X7_isLord -/
theorem c_X7_isLord (l : Launch) {G : va_G} {V : wV} {rs : List Nat} (M R : wM) (o : wO) (x : Int32) : CT l G V rs yX7_isLord wsX7_isLord 1 22 0 0 [.int x] (M, R, o) (fun v u => v = some (.int (b2i (vIn x 4))) ∧ u = (M, R, o)) (fun _ _ => False) := by
  refine ct_of (cc := cX7_isLord) (maxL := 1) (ret := (some .boolean)) (by decide) rfl (Nat.le_of_ble_eq_true rfl) ?_
  intro p e s m below meth cd ls C h X hT hl
  have hx := C.1
  have hy := C.2.1
  have hl : lv_has ls 1 [(0, .int x)] := hl
  refine lv_iload_n hx hy dX7_isLord_0 rfl (lv_at hl 0 rfl) ?_
  refine lv_iconst (v := (nI 0)) hx hy dX7_isLord_1 (by decide) ?_
  refine lv_iconst (v := (nI 3)) hx hy dX7_isLord_2 (by decide) ?_
  refine n_go0 C h (n_S (As := [.int x, .int (nI 0), .int (nI 3)]) (rest := []) C h X (c_X7_isIn l M R o x (nI 0) (nI 3)) (va_cwS 3 C.2.2.2.2.1 gX7_isLord_X7_isIn rfl rfl rfl (by decide +kernel) ⟨Nat.le_of_ble_eq_true rfl, Nat.le_of_ble_eq_true rfl⟩) rfl hl.1 rfl (Nat.le_of_ble_eq_true rfl) dX7_isLord_3 ⟨by decide, by decide⟩) (fun _ _ z => z) (fun v_3 u_3 H locs hpo h => ?_)
  obtain ⟨rfl, rfl⟩ := hpo
  refine lv_topE (show (.int (b2i (vI x (nI 0) (nI 3))) : Value) = .int (b2i (vIn x 4)) from by rw [vI_vIn (n := 4) (by decide) (by decide)]) ?_
  exact e_int C h (b2i_nar _) dX7_isLord_6 (⟨rfl, rfl⟩) (by decide) (by decide)

set_option maxRecDepth 100000 in
set_option maxHeartbeats 4000000 in
/-- X7_isGate -/
theorem c_X7_isGate (l : Launch) {G : va_G} {V : wV} {rs : List Nat} (M R : wM) (o : wO) (x : Int32) : CT l G V rs yX7_isGate wsX7_isGate 1 22 0 0 [.int x] (M, R, o) (fun v u => v = some (.int (b2i (vIn x 3))) ∧ u = (M, R, o)) (fun _ _ => False) := by
  refine ct_of (cc := cX7_isGate) (maxL := 1) (ret := (some .boolean)) (by decide) rfl (Nat.le_of_ble_eq_true rfl) ?_
  intro p e s m below meth cd ls C h X hT hl
  have hx := C.1
  have hy := C.2.1
  have hl : lv_has ls 1 [(0, .int x)] := hl
  refine lv_iload_n hx hy dX7_isGate_0 rfl (lv_at hl 0 rfl) ?_
  refine lv_iconst (v := (nI 0)) hx hy dX7_isGate_1 (by decide) ?_
  refine lv_iconst (v := (nI 2)) hx hy dX7_isGate_2 (by decide) ?_
  refine n_go0 C h (n_S (As := [.int x, .int (nI 0), .int (nI 2)]) (rest := []) C h X (c_X7_isIn l M R o x (nI 0) (nI 2)) (va_cwS 3 C.2.2.2.2.1 gX7_isGate_X7_isIn rfl rfl rfl (by decide +kernel) ⟨Nat.le_of_ble_eq_true rfl, Nat.le_of_ble_eq_true rfl⟩) rfl hl.1 rfl (Nat.le_of_ble_eq_true rfl) dX7_isGate_3 ⟨by decide, by decide⟩) (fun _ _ z => z) (fun v_3 u_3 H locs hpo h => ?_)
  obtain ⟨rfl, rfl⟩ := hpo
  refine lv_topE (show (.int (b2i (vI x (nI 0) (nI 2))) : Value) = .int (b2i (vIn x 3)) from by rw [vI_vIn (n := 3) (by decide) (by decide)]) ?_
  exact e_int C h (b2i_nar _) dX7_isGate_6 (⟨rfl, rfl⟩) (by decide) (by decide)

set_option maxRecDepth 100000 in
set_option maxHeartbeats 4000000 in
/-- ones -/
theorem c_X7_ones (l : Launch) {G : va_G} {V : wV} {rs : List Nat} (M R : wM) (o : wO) (x : Int32) : CT l G V rs yX7_ones wsX7_ones 0 0 0 0 [.int x] (M, R, o) (fun v u => v = some (.int (onI x)) ∧ u = (M, R, o)) (fun _ _ => False) := by
  refine ct_of (cc := cX7_ones) (maxL := 3) (ret := (some .int)) (by decide) rfl (Nat.le_of_ble_eq_true rfl) ?_
  intro p e s m below meth cd ls C h X hT hl
  have hx := C.1
  have hy := C.2.1
  have hl : lv_has ls 3 [(0, .int x)] := hl
  refine lv_iconst (v := (nI 0)) hx hy dX7_ones_0 (by decide) ?_
  refine lv_istore_n (lv' := [(1, .int (nI 0)), (0, .int x)]) hx hy dX7_ones_1 rfl hl (by decide) rfl (fun ls hl => ?_)
  refine lv_iconst (v := (nI 0)) hx hy dX7_ones_2 (by decide) ?_
  refine lv_istore_n (lv' := [(2, .int (nI 0)), (1, .int (nI 0)), (0, .int x)]) hx hy dX7_ones_3 rfl hl (by decide) rfl (fun ls hl => ?_)
  have L_4 : ∀ (n_4 k : Nat), n_4 + k = 7 → ∀ (H : Heap) (locs : List Loc), HH G V rs (M, R, o) s H locs → ∀ ls : Array Slot, lv_has ls 3 [(2, .int (nI k)), (1, .int (onN x k)), (0, .int x)] → W p l e { frames := 0, cells := 0, slots := 0, locals := 0 } s m [.int x].toArray below meth cd H locs 0 0 (QM G V rs below [.int x].toArray s 0 0 (fun v u => v = some (.int (onI x)) ∧ u = (M, R, o)) (fun _ _ => False)) (F0 m 4 ls []) := by
    intro n_4
    induction n_4 with
    | zero =>
      intro k hk_4 H locs h ls hl
      have hz_4 : k = 7 := by omega
      try rw [hz_4] at h
      try rw [hz_4] at hl
      refine lv_iload_n hx hy dX7_ones_4 rfl (lv_at hl 0 rfl) ?_
      refine lv_bipush (v := (nI 7)) hx hy dX7_ones_5 (by decide) ?_
      refine n_ge hx hy (by decide) (by decide) (tgt := 24) dX7_ones_7 (by decide) (fun c_7 => ?_) (fun c_7 => ?_)
      · skip
        refine lv_iload_n hx hy dX7_ones_24 rfl (lv_at hl 1 rfl) ?_
        exact e_int C h rfl dX7_ones_25 (⟨rfl, rfl⟩) (by decide) (by decide)
      · skip
        exact absurd c_7 (by omega)
    | succ n_4 ih_4 =>
      intro k hk_4 H locs h ls hl
      have hz_4 : k < 7 := by omega
      refine lv_iload_n hx hy dX7_ones_4 rfl (lv_at hl 0 rfl) ?_
      refine lv_bipush (v := (nI 7)) hx hy dX7_ones_5 (by decide) ?_
      refine n_ge hx hy (by omega) (by decide) (tgt := 24) dX7_ones_7 (by decide) (fun c_7 => ?_) (fun c_7 => ?_)
      · skip
        exact absurd c_7 (by omega)
      · skip
        refine lv_iload_n hx hy dX7_ones_10 rfl (lv_at hl 1 rfl) ?_
        refine lv_iload_n hx hy dX7_ones_11 rfl (lv_at hl 2 rfl) ?_
        refine lv_iload_n hx hy dX7_ones_12 rfl (lv_at hl 0 rfl) ?_
        refine lv_ishr hx hy dX7_ones_13 ?_
        refine lv_iconst (v := (nI 1)) hx hy dX7_ones_14 (by decide) ?_
        refine lv_iand hx hy dX7_ones_15 ?_
        refine lv_iadd hx hy dX7_ones_16 ?_
        refine lv_istore_n (lv' := [(1, .int ((onN x k) + ((x >>> ((nI k) &&& 31)) &&& (nI 1)))), (2, .int (nI k)), (0, .int x)]) hx hy dX7_ones_17 rfl hl (by decide) rfl (fun ls hl => ?_)
        refine lv_iinc (v := (nI (k + 1))) (lv' := [(2, .int (nI (k + 1))), (1, .int ((onN x k) + ((x >>> ((nI k) &&& 31)) &&& (nI 1)))), (0, .int x)]) hx hy dX7_ones_18 hl (k := 1) rfl (nI_1 _) (by decide) rfl (fun ls hl => ?_)
        refine lv_goto (tgt := 4) hx hy dX7_ones_21 (by decide) ?_
        exact ih_4 (k + 1) (by omega) _ _ h _ (by have hl := lv_sub hl [0, 1, 2] (l' := [(2, .int (nI (k + 1))), (1, .int ((onN x k) + ((x >>> ((nI k) &&& 31)) &&& (nI 1)))), (0, .int x)]) rfl; rw [show (.int (nI (k + 1)) : Value) = .int (nI (k + 1)) from rfl] at hl; rw [show (.int ((onN x k) + ((x >>> ((nI k) &&& 31)) &&& (nI 1))) : Value) = .int (onN x (k + 1)) from rfl] at hl; exact hl)
  exact L_4 (7) 0 (by omega) _ _ h _ (by have hl := lv_sub hl [0, 1, 2] (l' := [(2, .int (nI 0)), (1, .int (nI 0)), (0, .int x)]) rfl; rw [show (.int (nI 0) : Value) = .int (onN x 0) from rfl] at hl; exact hl)

set_option maxRecDepth 20000 in
theorem in_X7_no_X7 : ∀ x ∈ wsX70, x ∈ wsX7_no := by decide +kernel
set_option maxRecDepth 100000 in
set_option maxHeartbeats 4000000 in
/-- the reference: no -/
theorem c_X7_no (l : Launch) {G : va_G} {V : wV} {rs : List Nat} (hr : bR rs) (M R : wM) (o : wO) (is : Bool) (pl : Int32) : CT l G V rs yX7_no wsX7_no 0 0 0 0 [.ref (V.1 rMod), .int (b2i is), .int pl] (M, R, o) (fun v u => v = some (.int (b2i (!is))) ∧ u = (M, wr R rMod 19 (noV is pl), o)) (fun _ _ => False) := by
  refine ct_of (cc := cX7_no) (maxL := 3) (ret := (some .boolean)) (by decide) rfl (Nat.le_of_ble_eq_true rfl) ?_
  intro p e s m below meth cd ls C h X hT hl
  have hx := C.1
  have hy := C.2.1
  have hl : lv_has ls 3 [(0, .ref (V.1 rMod)), (1, .int (b2i is)), (2, .int pl)] := hl
  refine lv_aload_n hx hy dX7_no_0 rfl (lv_at hl 0 rfl) ?_
  refine lv_iload_n hx hy dX7_no_1 rfl (lv_at hl 1 rfl) ?_
  refine b_eq hx hy (tgt := 9) dX7_no_2 (by decide) (fun c_2 => ?_) (fun c_2 => ?_)
  · skip
    refine lv_iload_n hx hy dX7_no_9 rfl (lv_at hl 2 rfl) ?_
    refine p_fR C h (hr 100 (by decide)) (by decide) celF_Mod rfl in_X7_no_X7 tyX7_ok nmX7 19 (by decide) (by decide +kernel) rfl (v := .int pl) (x := pl) rfl rfl (fun _ => Nat.le_of_ble_eq_true rfl) (fun _ => rfl) dX7_no_10 (fun H locs h => ?_)
    refine lv_iload_n hx hy dX7_no_13 rfl (lv_at hl 1 rfl) ?_
    refine b_ne hx hy (tgt := 21) dX7_no_14 (by decide) (fun c_14 => ?_) (fun c_14 => ?_)
    · skip
      refine lv_iconst (v := (nI 0)) hx hy dX7_no_21 (by decide) ?_
      exact e_int C h (by decide) dX7_no_22 (by cases is <;> simp_all [noV, b2i]) (by decide) (by decide)
    · skip
      refine lv_iconst (v := (nI 1)) hx hy dX7_no_17 (by decide) ?_
      refine lv_goto (tgt := 22) hx hy dX7_no_18 (by decide) ?_
      exact e_int C h (by decide) dX7_no_22 (by cases is <;> simp_all [noV, b2i]) (by decide) (by decide)
  · skip
    refine lv_iconst (v := (nI 0)) hx hy dX7_no_5 (by decide) ?_
    refine lv_goto (tgt := 10) hx hy dX7_no_6 (by decide) ?_
    refine p_fR C h (hr 100 (by decide)) (by decide) celF_Mod rfl in_X7_no_X7 tyX7_ok nmX7 19 (by decide) (by decide +kernel) rfl (v := .int (nI 0)) (x := (nI 0)) rfl rfl (fun _ => Nat.le_of_ble_eq_true rfl) (fun _ => rfl) dX7_no_10 (fun H locs h => ?_)
    refine lv_iload_n hx hy dX7_no_13 rfl (lv_at hl 1 rfl) ?_
    refine b_ne hx hy (tgt := 21) dX7_no_14 (by decide) (fun c_14 => ?_) (fun c_14 => ?_)
    · skip
      refine lv_iconst (v := (nI 0)) hx hy dX7_no_21 (by decide) ?_
      exact e_int C h (by decide) dX7_no_22 (by cases is <;> simp_all [noV, b2i]) (by decide) (by decide)
    · skip
      refine lv_iconst (v := (nI 1)) hx hy dX7_no_17 (by decide) ?_
      refine lv_goto (tgt := 22) hx hy dX7_no_18 (by decide) ?_
      exact e_int C h (by decide) dX7_no_22 (by cases is <;> simp_all [noV, b2i]) (by decide) (by decide)

set_option maxRecDepth 20000 in
theorem in_X7_thrown_X7 : ∀ x ∈ wsX70, x ∈ wsX7_thrown := by decide +kernel
set_option maxRecDepth 100000 in
set_option maxHeartbeats 4000000 in
/-- the reference: thrown -/
theorem c_X7_thrown (l : Launch) {G : va_G} {V : wV} {rs : List Nat} (hr : bR rs) (M R : wM) (o : wO) : CT l G V rs yX7_thrown wsX7_thrown 0 0 0 0 [.ref (V.1 rMod)] (M, R, o) (fun v u => v = some (.int (R rMod 19)) ∧ u = (M, R, o)) (fun _ _ => False) := by
  refine ct_of (cc := cX7_thrown) (maxL := 1) (ret := (some .int)) (by decide) rfl (Nat.le_of_ble_eq_true rfl) ?_
  intro p e s m below meth cd ls C h X hT hl
  have hx := C.1
  have hy := C.2.1
  have hl : lv_has ls 1 [(0, .ref (V.1 rMod))] := hl
  refine lv_aload_n hx hy dX7_thrown_0 rfl (lv_at hl 0 rfl) ?_
  refine g_f C h (hr 100 (by decide)) (cel_hi (by decide)) celF_Mod rfl in_X7_thrown_X7 19 (by decide) (by decide +kernel) (v := .int (R rMod 19)) rfl dX7_thrown_1 ?_
  exact e_int C h rfl dX7_thrown_4 (⟨rfl, rfl⟩) (by decide) (by decide)

set_option maxRecDepth 20000 in
theorem in_X7_isTower_X7 : ∀ x ∈ wsX70, x ∈ wsX7_isTower := by decide +kernel
set_option maxRecDepth 100000 in
set_option maxHeartbeats 4000000 in
/-- the reference: isTower -/
theorem c_X7_isTower (l : Launch) {G : va_G} {V : wV} {rs : List Nat} (hr : bR rs) (M R : wM) (o : wO) (hmn : ∀ c, c < 2 → R 101 c = nI (mnN R c) ∧ mnN R c ≤ 7) (ca to : Int32) : CT l G V rs yX7_isTower wsX7_isTower 1 22 0 0 [.ref (V.1 rMod), .int ca, .int to] (M, R, o) (fun v u => v = some (.int (b2i (isT R ca to))) ∧ u = (M, R, o)) (fun _ _ => False) := by
  refine ct_of (cc := cX7_isTower) (maxL := 3) (ret := (some .boolean)) (by decide) rfl (Nat.le_of_ble_eq_true rfl) ?_
  intro p e s m below meth cd ls C h X hT hl
  have hx := C.1
  have hy := C.2.1
  have hl : lv_has ls 3 [(0, .ref (V.1 rMod)), (1, .int ca), (2, .int to)] := hl
  refine lv_iload_n hx hy dX7_isTower_0 rfl (lv_at hl 1 rfl) ?_
  refine n_go0 C h (n_S (As := [.int ca]) (rest := []) C h X (c_X7_isCastle l M R o ca) (va_cwS 1 C.2.2.2.2.1 gX7_isTower_X7_isCastle rfl rfl rfl (by decide +kernel) ⟨Nat.le_of_ble_eq_true rfl, Nat.le_of_ble_eq_true rfl⟩) rfl hl.1 rfl (Nat.le_of_ble_eq_true rfl) dX7_isTower_1 ⟨by decide, by decide⟩) (fun _ _ z => z) (fun v_1 u_1 H locs hpo h => ?_)
  obtain ⟨rfl, rfl⟩ := hpo
  refine b_eq hx hy (tgt := 27) dX7_isTower_4 (by decide) (fun c_4 => ?_) (fun c_4 => ?_)
  · skip
    refine lv_iconst (v := (nI 0)) hx hy dX7_isTower_27 (by decide) ?_
    exact e_int C h (by decide) dX7_isTower_28 (⟨by simp [isT, b2i, c_4], rfl⟩) (by decide) (by decide)
  · skip
    obtain ⟨c, hc, rfl⟩ := vIn_ok' c_4 (by decide)
    have hv_c : vIn (nI c) 2 = true := vIn_nI hc (by decide)
    have hi_c : cI (nI c) = c := nI_clamp (by omega)
    have hmn9 := (hmn c hc).2
    refine lv_iload_n hx hy dX7_isTower_7 rfl (lv_at hl 2 rfl) ?_
    refine lv_iconst (v := (nI 0)) hx hy dX7_isTower_8 (by decide) ?_
    refine lv_aload_n hx hy dX7_isTower_9 rfl (lv_at hl 0 rfl) ?_
    refine g_f C h (hr 100 (by decide)) (cel_hi (by decide)) celF_Mod rfl in_X7_isTower_X7 0 (by decide) (by decide +kernel) (v := .ref (V.1 101)) rfl dX7_isTower_10 ?_
    refine lv_iload_n hx hy dX7_isTower_13 rfl (lv_at hl 1 rfl) ?_
    refine g_i C h (hr 101 (by decide)) (n := 2) (k := c) (cel_hi (by decide)) (fun _ => rfl) (by omega) (by decide) (v := (nI (mnN R c))) (show R 101 c = (nI (mnN R c)) from (hmn c hc).1) dX7_isTower_14 ?_
    refine lv_iconst (v := (nI 1)) hx hy dX7_isTower_15 (by decide) ?_
    refine lv_isub hx hy dX7_isTower_16 ?_
    refine n_go0 C h (n_S (As := [.int to, .int (nI 0), .int ((nI (mnN R c)) - (nI 1))]) (rest := []) C h X (c_X7_isIn l M R o to (nI 0) ((nI (mnN R c)) - (nI 1))) (va_cwS 3 C.2.2.2.2.1 gX7_isTower_X7_isIn rfl rfl rfl (by decide +kernel) ⟨Nat.le_of_ble_eq_true rfl, Nat.le_of_ble_eq_true rfl⟩) rfl hl.1 rfl (Nat.le_of_ble_eq_true rfl) dX7_isTower_17 ⟨by decide, by decide⟩) (fun _ _ z => z) (fun v_17 u_17 H locs hpo h => ?_)
    obtain ⟨rfl, rfl⟩ := hpo
    refine lv_topE (show (.int (b2i (vI to (nI 0) ((nI (mnN R c)) - (nI 1)))) : Value) = .int (b2i (vIn to (mnN R c))) from by rw [vI_sub (by omega)]) ?_
    refine b_eq hx hy (tgt := 27) dX7_isTower_20 (by decide) (fun c_20 => ?_) (fun c_20 => ?_)
    · skip
      refine lv_iconst (v := (nI 0)) hx hy dX7_isTower_27 (by decide) ?_
      exact e_int C h (by decide) dX7_isTower_28 (⟨by simp [isT, b2i, hi_c, hv_c, c_4, c_20], rfl⟩) (by decide) (by decide)
    · skip
      obtain ⟨t, ht, rfl⟩ := vIn_ok' c_20 (by omega)
      have hv_t : vIn (nI t) (mnN R c) = true := vIn_nI ht (by omega)
      have hi_t : cI (nI t) = t := nI_clamp (by omega)
      refine lv_iconst (v := (nI 1)) hx hy dX7_isTower_23 (by decide) ?_
      refine lv_goto (tgt := 28) hx hy dX7_isTower_24 (by decide) ?_
      exact e_int C h (by decide) dX7_isTower_28 (⟨by simp [isT, b2i, hi_c, hv_c, hi_t, hv_t, c_4, c_20], rfl⟩) (by decide) (by decide)

set_option maxRecDepth 20000 in
theorem in_X7_isEntry_X7 : ∀ x ∈ wsX70, x ∈ wsX7_isEntry := by decide +kernel
set_option maxRecDepth 100000 in
set_option maxHeartbeats 4000000 in
/-- the reference: isEntry -/
theorem c_X7_isEntry (l : Launch) {G : va_G} {V : wV} {rs : List Nat} (hr : bR rs) (M R : wM) (o : wO) (hwn : ∀ c, c < 2 → R 103 c = nI (wrN R c) ∧ wrN R c ≤ 60) (ca en0 : Int32) : CT l G V rs yX7_isEntry wsX7_isEntry 1 22 0 0 [.ref (V.1 rMod), .int ca, .int en0] (M, R, o) (fun v u => v = some (.int (b2i (isE R ca en0))) ∧ u = (M, R, o)) (fun _ _ => False) := by
  refine ct_of (cc := cX7_isEntry) (maxL := 3) (ret := (some .boolean)) (by decide) rfl (Nat.le_of_ble_eq_true rfl) ?_
  intro p e s m below meth cd ls C h X hT hl
  have hx := C.1
  have hy := C.2.1
  have hl : lv_has ls 3 [(0, .ref (V.1 rMod)), (1, .int ca), (2, .int en0)] := hl
  refine lv_iload_n hx hy dX7_isEntry_0 rfl (lv_at hl 1 rfl) ?_
  refine n_go0 C h (n_S (As := [.int ca]) (rest := []) C h X (c_X7_isCastle l M R o ca) (va_cwS 1 C.2.2.2.2.1 gX7_isEntry_X7_isCastle rfl rfl rfl (by decide +kernel) ⟨Nat.le_of_ble_eq_true rfl, Nat.le_of_ble_eq_true rfl⟩) rfl hl.1 rfl (Nat.le_of_ble_eq_true rfl) dX7_isEntry_1 ⟨by decide, by decide⟩) (fun _ _ z => z) (fun v_1 u_1 H locs hpo h => ?_)
  obtain ⟨rfl, rfl⟩ := hpo
  refine b_eq hx hy (tgt := 27) dX7_isEntry_4 (by decide) (fun c_4 => ?_) (fun c_4 => ?_)
  · skip
    refine lv_iconst (v := (nI 0)) hx hy dX7_isEntry_27 (by decide) ?_
    exact e_int C h (by decide) dX7_isEntry_28 (⟨by simp [isE, b2i, c_4], rfl⟩) (by decide) (by decide)
  · skip
    obtain ⟨c, hc, rfl⟩ := vIn_ok' c_4 (by decide)
    have hv_c : vIn (nI c) 2 = true := vIn_nI hc (by decide)
    have hi_c : cI (nI c) = c := nI_clamp (by omega)
    have hwn9 := (hwn c hc).2
    refine lv_iload_n hx hy dX7_isEntry_7 rfl (lv_at hl 2 rfl) ?_
    refine lv_iconst (v := (nI 0)) hx hy dX7_isEntry_8 (by decide) ?_
    refine lv_aload_n hx hy dX7_isEntry_9 rfl (lv_at hl 0 rfl) ?_
    refine g_f C h (hr 100 (by decide)) (cel_hi (by decide)) celF_Mod rfl in_X7_isEntry_X7 2 (by decide) (by decide +kernel) (v := .ref (V.1 103)) rfl dX7_isEntry_10 ?_
    refine lv_iload_n hx hy dX7_isEntry_13 rfl (lv_at hl 1 rfl) ?_
    refine g_i C h (hr 103 (by decide)) (n := 2) (k := c) (cel_hi (by decide)) (fun _ => rfl) (by omega) (by decide) (v := (nI (wrN R c))) (show R 103 c = (nI (wrN R c)) from (hwn c hc).1) dX7_isEntry_14 ?_
    refine lv_iconst (v := (nI 1)) hx hy dX7_isEntry_15 (by decide) ?_
    refine lv_isub hx hy dX7_isEntry_16 ?_
    refine n_go0 C h (n_S (As := [.int en0, .int (nI 0), .int ((nI (wrN R c)) - (nI 1))]) (rest := []) C h X (c_X7_isIn l M R o en0 (nI 0) ((nI (wrN R c)) - (nI 1))) (va_cwS 3 C.2.2.2.2.1 gX7_isEntry_X7_isIn rfl rfl rfl (by decide +kernel) ⟨Nat.le_of_ble_eq_true rfl, Nat.le_of_ble_eq_true rfl⟩) rfl hl.1 rfl (Nat.le_of_ble_eq_true rfl) dX7_isEntry_17 ⟨by decide, by decide⟩) (fun _ _ z => z) (fun v_17 u_17 H locs hpo h => ?_)
    obtain ⟨rfl, rfl⟩ := hpo
    refine lv_topE (show (.int (b2i (vI en0 (nI 0) ((nI (wrN R c)) - (nI 1)))) : Value) = .int (b2i (vIn en0 (wrN R c))) from by rw [vI_sub (by omega)]) ?_
    refine b_eq hx hy (tgt := 27) dX7_isEntry_20 (by decide) (fun c_20 => ?_) (fun c_20 => ?_)
    · skip
      refine lv_iconst (v := (nI 0)) hx hy dX7_isEntry_27 (by decide) ?_
      exact e_int C h (by decide) dX7_isEntry_28 (⟨by simp [isE, b2i, hi_c, hv_c, c_4, c_20], rfl⟩) (by decide) (by decide)
    · skip
      obtain ⟨en, hen, rfl⟩ := vIn_ok' c_20 (by omega)
      have hv_en : vIn (nI en) (wrN R c) = true := vIn_nI hen (by omega)
      have hi_en : cI (nI en) = en := nI_clamp (by omega)
      refine lv_iconst (v := (nI 1)) hx hy dX7_isEntry_23 (by decide) ?_
      refine lv_goto (tgt := 28) hx hy dX7_isEntry_24 (by decide) ?_
      exact e_int C h (by decide) dX7_isEntry_28 (⟨by simp [isE, b2i, hi_c, hv_c, hi_en, hv_en, c_4, c_20], rfl⟩) (by decide) (by decide)

set_option maxRecDepth 20000 in
theorem in_X7_raise_X7 : ∀ x ∈ wsX70, x ∈ wsX7_raise := by decide +kernel
set_option maxRecDepth 100000 in
set_option maxHeartbeats 4000000 in
/-- the reference: raise -/
theorem c_X7_raise (l : Launch) {G : va_G} {V : wV} {rs : List Nat} (hr : bR rs) (M R : wM) (o : wO) (c : Nat) (hc : c < 2) (sn : Nat) (hsi2 : sn ≤ 20) (hsn : R rMod 16 = nI sn) (hi wi : Int32) : CT l G V rs yX7_raise wsX7_raise 0 0 0 0 [.ref (V.1 rMod), .int (nI c), .int hi, .int wi] (M, R, o) (fun v u => v = none ∧ u = (M, raS R c hi wi sn, o)) (fun _ _ => False) := by
  refine ct_of (cc := cX7_raise) (maxL := 6) (ret := none) (by decide) rfl (Nat.le_of_ble_eq_true rfl) ?_
  intro p e s m below meth cd ls C h X hT hl
  have hx := C.1
  have hy := C.2.1
  have hl : lv_has ls 6 [(0, .ref (V.1 rMod)), (1, .int (nI c)), (2, .int hi), (3, .int wi)] := hl
  refine lv_aload_n hx hy dX7_raise_0 rfl (lv_at hl 0 rfl) ?_
  refine g_f C h (hr 100 (by decide)) (cel_hi (by decide)) celF_Mod rfl in_X7_raise_X7 0 (by decide) (by decide +kernel) (v := .ref (V.1 101)) rfl dX7_raise_1 ?_
  refine lv_iload_n hx hy dX7_raise_4 rfl (lv_at hl 1 rfl) ?_
  refine lv_iload_n hx hy dX7_raise_5 rfl (lv_at hl 2 rfl) ?_
  refine s_iR C h (hr 101 (by decide)) (by decide) (n := 2) (k := c) (fun _ => rfl) (by omega) (by decide) (x := hi) dX7_raise_6 (fun H locs h => ?_)
  refine lv_aload_n hx hy dX7_raise_7 rfl (lv_at hl 0 rfl) ?_
  refine g_f C h (hr 100 (by decide)) (cel_hi (by decide)) celF_Mod rfl in_X7_raise_X7 1 (by decide) (by decide +kernel) (v := .ref (V.1 102)) rfl dX7_raise_8 ?_
  refine lv_iload_n hx hy dX7_raise_11 rfl (lv_at hl 1 rfl) ?_
  refine lv_iload_n hx hy dX7_raise_12 rfl (lv_at hl 3 rfl) ?_
  refine s_iR C h (hr 102 (by decide)) (by decide) (n := 2) (k := c) (fun _ => rfl) (by omega) (by decide) (x := wi) dX7_raise_13 (fun H locs h => ?_)
  refine lv_aload_n hx hy dX7_raise_14 rfl (lv_at hl 0 rfl) ?_
  refine g_f C h (hr 100 (by decide)) (cel_hi (by decide)) celF_Mod rfl in_X7_raise_X7 2 (by decide) (by decide +kernel) (v := .ref (V.1 103)) rfl dX7_raise_15 ?_
  refine lv_iload_n hx hy dX7_raise_18 rfl (lv_at hl 1 rfl) ?_
  refine lv_iconst (v := (nI 0)) hx hy dX7_raise_19 (by decide) ?_
  refine s_iR C h (hr 103 (by decide)) (by decide) (n := 2) (k := c) (fun _ => rfl) (by omega) (by decide) (x := (nI 0)) dX7_raise_20 (fun H locs h => ?_)
  refine lv_iconst (v := (nI 0)) hx hy dX7_raise_21 (by decide) ?_
  refine lv_istore (lv' := [(4, .int (nI 0)), (0, .ref (V.1 rMod)), (1, .int (nI c)), (2, .int hi), (3, .int wi)]) hx hy dX7_raise_22 hl (by decide) rfl (fun ls hl => ?_)
  have L_24 : ∀ (n_24 t : Nat), n_24 + t = 7 → ∀ (H : Heap) (locs : List Loc), HH G V rs (M, raT R c hi wi t, o) s H locs → ∀ ls : Array Slot, lv_has ls 6 [(4, .int (nI t)), (0, .ref (V.1 rMod)), (1, .int (nI c)), (2, .int hi), (3, .int wi)] → W p l e { frames := 0, cells := 0, slots := 0, locals := 0 } s m [.ref (V.1 rMod), .int (nI c), .int hi, .int wi].toArray below meth cd H locs 0 0 (QM G V rs below [.ref (V.1 rMod), .int (nI c), .int hi, .int wi].toArray s 0 0 (fun v u => v = none ∧ u = (M, raS R c hi wi sn, o)) (fun _ _ => False)) (F0 m 24 ls []) := by
    intro n_24
    induction n_24 with
    | zero =>
      intro t hk_24 H locs h ls hl
      have hz_24 : t = 7 := by omega
      try rw [hz_24] at h
      try rw [hz_24] at hl
      refine lv_iload hx hy dX7_raise_24 (lv_at hl 0 rfl) ?_
      refine lv_bipush (v := (nI 7)) hx hy dX7_raise_26 (by decide) ?_
      refine n_ge hx hy (by decide) (by decide) (tgt := 129) dX7_raise_28 (by decide) (fun c_28 => ?_) (fun c_28 => ?_)
      · skip
        refine lv_iconst (v := (nI 0)) hx hy dX7_raise_129 (by decide) ?_
        refine lv_istore (lv' := [(4, .int (nI 0)), (0, .ref (V.1 rMod)), (1, .int (nI c)), (2, .int hi), (3, .int wi)]) hx hy dX7_raise_130 hl (by decide) rfl (fun ls hl => ?_)
        have L_132 : ∀ (n_132 j : Nat), n_132 + j = 12 → ∀ (H : Heap) (locs : List Loc), HH G V rs (M, raL R c hi wi j, o) s H locs → ∀ ls : Array Slot, lv_has ls 6 [(4, .int (nI j)), (0, .ref (V.1 rMod)), (1, .int (nI c)), (2, .int hi), (3, .int wi)] → W p l e { frames := 0, cells := 0, slots := 0, locals := 0 } s m [.ref (V.1 rMod), .int (nI c), .int hi, .int wi].toArray below meth cd H locs 0 0 (QM G V rs below [.ref (V.1 rMod), .int (nI c), .int hi, .int wi].toArray s 0 0 (fun v u => v = none ∧ u = (M, raS R c hi wi sn, o)) (fun _ _ => False)) (F0 m 132 ls []) := by
          intro n_132
          induction n_132 with
          | zero =>
            intro j hk_132 H locs h ls hl
            have hz_132 : j = 12 := by omega
            try rw [hz_132] at h
            try rw [hz_132] at hl
            refine lv_iload hx hy dX7_raise_132 (lv_at hl 0 rfl) ?_
            refine lv_bipush (v := (nI 12)) hx hy dX7_raise_134 (by decide) ?_
            refine n_ge hx hy (by decide) (by decide) (tgt := 159) dX7_raise_136 (by decide) (fun c_136 => ?_) (fun c_136 => ?_)
            · skip
              refine lv_iconst (v := (nI 0)) hx hy dX7_raise_159 (by decide) ?_
              refine lv_istore (lv' := [(4, .int (nI 0)), (0, .ref (V.1 rMod)), (1, .int (nI c)), (2, .int hi), (3, .int wi)]) hx hy dX7_raise_160 hl (by decide) rfl (fun ls hl => ?_)
              have L_162 : ∀ (n_162 k : Nat), n_162 + k = sn → ∀ (H : Heap) (locs : List Loc), HH G V rs (M, raS R c hi wi k, o) s H locs → ∀ ls : Array Slot, lv_has ls 6 [(4, .int (nI k)), (0, .ref (V.1 rMod)), (1, .int (nI c)), (2, .int hi), (3, .int wi)] → W p l e { frames := 0, cells := 0, slots := 0, locals := 0 } s m [.ref (V.1 rMod), .int (nI c), .int hi, .int wi].toArray below meth cd H locs 0 0 (QM G V rs below [.ref (V.1 rMod), .int (nI c), .int hi, .int wi].toArray s 0 0 (fun v u => v = none ∧ u = (M, raS R c hi wi sn, o)) (fun _ _ => False)) (F0 m 162 ls []) := by
                intro n_162
                induction n_162 with
                | zero =>
                  intro k hk_162 H locs h ls hl
                  have hz_162 : k = sn := by omega
                  try rw [hz_162] at h
                  try rw [hz_162] at hl
                  refine lv_iload hx hy dX7_raise_162 (lv_at hl 0 rfl) ?_
                  refine lv_aload_n hx hy dX7_raise_164 rfl (lv_at hl 1 rfl) ?_
                  refine g_f C h (hr 100 (by decide)) (cel_hi (by decide)) celF_Mod rfl in_X7_raise_X7 16 (by decide) (by decide +kernel) (v := .int (nI sn)) (congrArg (fun z => some (Value.int z)) (show (raS R c hi wi sn) rMod 16 = (nI sn) from ((congrFun (raS_ne (by decide) (by decide) (by decide) (by decide) (by decide) (by decide) (by decide) (by decide) (by decide)) _).trans hsn))) dX7_raise_165 ?_
                  refine n_ge hx hy (by omega) (by omega) (tgt := 210) dX7_raise_168 (by decide) (fun c_168 => ?_) (fun c_168 => ?_)
                  · skip
                    exact e_void C h dX7_raise_210 (⟨rfl, rfl⟩) (by decide) (by decide)
                  · skip
                    exact absurd c_168 (by omega)
                | succ n_162 ih_162 =>
                  intro k hk_162 H locs h ls hl
                  have hz_162 : k < sn := by omega
                  refine lv_iload hx hy dX7_raise_162 (lv_at hl 0 rfl) ?_
                  refine lv_aload_n hx hy dX7_raise_164 rfl (lv_at hl 1 rfl) ?_
                  refine g_f C h (hr 100 (by decide)) (cel_hi (by decide)) celF_Mod rfl in_X7_raise_X7 16 (by decide) (by decide +kernel) (v := .int (nI sn)) (congrArg (fun z => some (Value.int z)) (show (raS R c hi wi k) rMod 16 = (nI sn) from ((congrFun (raS_ne (by decide) (by decide) (by decide) (by decide) (by decide) (by decide) (by decide) (by decide) (by decide)) _).trans hsn))) dX7_raise_165 ?_
                  refine n_ge hx hy (by omega) (by omega) (tgt := 210) dX7_raise_168 (by decide) (fun c_168 => ?_) (fun c_168 => ?_)
                  · skip
                    exact absurd c_168 (by omega)
                  · skip
                    refine lv_aload_n hx hy dX7_raise_171 rfl (lv_at hl 1 rfl) ?_
                    refine g_f C h (hr 100 (by decide)) (cel_hi (by decide)) celF_Mod rfl in_X7_raise_X7 25 (by decide) (by decide +kernel) (v := .ref (V.1 126)) rfl dX7_raise_172 ?_
                    refine lv_iload hx hy dX7_raise_175 (lv_at hl 0 rfl) ?_
                    refine lv_aload_n hx hy dX7_raise_177 rfl (lv_at hl 1 rfl) ?_
                    refine g_f C h (hr 100 (by decide)) (cel_hi (by decide)) celF_Mod rfl in_X7_raise_X7 25 (by decide) (by decide +kernel) (v := .ref (V.1 126)) rfl dX7_raise_178 ?_
                    refine lv_iload hx hy dX7_raise_181 (lv_at hl 0 rfl) ?_
                    refine g_z C h (hr 126 (by decide)) (n := 20) (k := k) (cel_hi (by decide)) (fun _ => rfl) (by omega) (by decide) (v := ((raS R c hi wi k) 126 k)) rfl dX7_raise_183 ?_
                    refine z_ne hx hy (tgt := 198) dX7_raise_184 (by decide) (fun c_184 => ?_) (fun c_184 => ?_)
                    · skip
                      refine lv_iconst (v := (nI 1)) hx hy dX7_raise_198 (by decide) ?_
                      refine lv_goto (tgt := 203) hx hy dX7_raise_199 (by decide) ?_
                      refine s_zR C h (hr 126 (by decide)) (by decide) (n := 20) (k := k) (fun _ => rfl) (by omega) (by decide) (x := (nI 1)) (by decide) dX7_raise_203 (fun H locs h => ?_)
                      refine lv_iinc (v := (nI (k + 1))) (lv' := [(4, .int (nI (k + 1))), (0, .ref (V.1 rMod)), (1, .int (nI c)), (2, .int hi), (3, .int wi)]) hx hy dX7_raise_204 hl (k := 0) rfl (nI_1 _) (by decide) rfl (fun ls hl => ?_)
                      refine lv_goto (tgt := 162) hx hy dX7_raise_207 (by decide) ?_
                      exact ih_162 (k + 1) (by omega) _ _ (by rw [show ((M, raS R c hi wi (k + 1), o) : wW) = (M, wr (raS R c hi wi k) 126 k (nI 1), o) from by simp [raS, eq_true c_28, eq_false (Nat.not_lt.mpr c_28), eq_true c_136, eq_false (Nat.not_lt.mpr c_136), eq_true c_168, eq_false (Nat.not_le.mpr c_168), eq_false c_184]]; exact h) _ (by have hl := lv_sub hl [0, 1, 2, 3, 4] (l' := [(4, .int (nI (k + 1))), (0, .ref (V.1 rMod)), (1, .int (nI c)), (2, .int hi), (3, .int wi)]) rfl; rw [show (.int (nI (k + 1)) : Value) = .int (nI (k + 1)) from rfl] at hl; exact hl)
                    · skip
                      refine lv_aload_n hx hy dX7_raise_187 rfl (lv_at hl 1 rfl) ?_
                      refine g_f C h (hr 100 (by decide)) (cel_hi (by decide)) celF_Mod rfl in_X7_raise_X7 21 (by decide) (by decide +kernel) (v := .ref (V.1 122)) rfl dX7_raise_188 ?_
                      refine lv_iload hx hy dX7_raise_191 (lv_at hl 0 rfl) ?_
                      refine g_i C h (hr 122 (by decide)) (n := 20) (k := k) (cel_hi (by decide)) (fun _ => rfl) (by omega) (by decide) (v := (R 122 k)) (show (raS R c hi wi k) 122 k = (R 122 k) from (congrFun (raS_ne (by decide) (by decide) (by decide) (by decide) (by decide) (by decide) (by decide) (by decide) (by decide)) _)) dX7_raise_193 ?_
                      refine lv_iload_n hx hy dX7_raise_194 rfl (lv_at hl 2 rfl) ?_
                      refine i_ne hx hy (tgt := 202) dX7_raise_195 (by decide) (fun c_195 => ?_) (fun c_195 => ?_)
                      · skip
                        refine lv_iconst (v := (nI 0)) hx hy dX7_raise_202 (by decide) ?_
                        refine s_zR C h (hr 126 (by decide)) (by decide) (n := 20) (k := k) (fun _ => rfl) (by omega) (by decide) (x := (nI 0)) (by decide) dX7_raise_203 (fun H locs h => ?_)
                        refine lv_iinc (v := (nI (k + 1))) (lv' := [(4, .int (nI (k + 1))), (0, .ref (V.1 rMod)), (1, .int (nI c)), (2, .int hi), (3, .int wi)]) hx hy dX7_raise_204 hl (k := 0) rfl (nI_1 _) (by decide) rfl (fun ls hl => ?_)
                        refine lv_goto (tgt := 162) hx hy dX7_raise_207 (by decide) ?_
                        exact ih_162 (k + 1) (by omega) _ _ (by rw [show ((M, raS R c hi wi (k + 1), o) : wW) = (M, wr (raS R c hi wi k) 126 k (nI 0), o) from by simp [raS, eq_true c_28, eq_false (Nat.not_lt.mpr c_28), eq_true c_136, eq_false (Nat.not_lt.mpr c_136), eq_true c_168, eq_false (Nat.not_le.mpr c_168), eq_true c_184, eq_false c_195]]; exact h) _ (by have hl := lv_sub hl [0, 1, 2, 3, 4] (l' := [(4, .int (nI (k + 1))), (0, .ref (V.1 rMod)), (1, .int (nI c)), (2, .int hi), (3, .int wi)]) rfl; rw [show (.int (nI (k + 1)) : Value) = .int (nI (k + 1)) from rfl] at hl; exact hl)
                      · skip
                        refine lv_iconst (v := (nI 1)) hx hy dX7_raise_198 (by decide) ?_
                        refine lv_goto (tgt := 203) hx hy dX7_raise_199 (by decide) ?_
                        refine s_zR C h (hr 126 (by decide)) (by decide) (n := 20) (k := k) (fun _ => rfl) (by omega) (by decide) (x := (nI 1)) (by decide) dX7_raise_203 (fun H locs h => ?_)
                        refine lv_iinc (v := (nI (k + 1))) (lv' := [(4, .int (nI (k + 1))), (0, .ref (V.1 rMod)), (1, .int (nI c)), (2, .int hi), (3, .int wi)]) hx hy dX7_raise_204 hl (k := 0) rfl (nI_1 _) (by decide) rfl (fun ls hl => ?_)
                        refine lv_goto (tgt := 162) hx hy dX7_raise_207 (by decide) ?_
                        exact ih_162 (k + 1) (by omega) _ _ (by rw [show ((M, raS R c hi wi (k + 1), o) : wW) = (M, wr (raS R c hi wi k) 126 k (nI 1), o) from by simp [raS, eq_true c_28, eq_false (Nat.not_lt.mpr c_28), eq_true c_136, eq_false (Nat.not_lt.mpr c_136), eq_true c_168, eq_false (Nat.not_le.mpr c_168), eq_true c_184, eq_true c_195]]; exact h) _ (by have hl := lv_sub hl [0, 1, 2, 3, 4] (l' := [(4, .int (nI (k + 1))), (0, .ref (V.1 rMod)), (1, .int (nI c)), (2, .int hi), (3, .int wi)]) rfl; rw [show (.int (nI (k + 1)) : Value) = .int (nI (k + 1)) from rfl] at hl; exact hl)
              exact L_162 (sn) 0 (by omega) _ _ (by rw [show (M, raS R c hi wi 0, o) = (M, raL R c hi wi 12, o) from rfl]; exact h) _ (lv_sub hl [0, 1, 2, 3, 4] rfl)
            · skip
              exact absurd c_136 (by omega)
          | succ n_132 ih_132 =>
            intro j hk_132 H locs h ls hl
            have hz_132 : j < 12 := by omega
            refine lv_iload hx hy dX7_raise_132 (lv_at hl 0 rfl) ?_
            refine lv_bipush (v := (nI 12)) hx hy dX7_raise_134 (by decide) ?_
            refine n_ge hx hy (by omega) (by decide) (tgt := 159) dX7_raise_136 (by decide) (fun c_136 => ?_) (fun c_136 => ?_)
            · skip
              exact absurd c_136 (by omega)
            · skip
              refine lv_aload_n hx hy dX7_raise_139 rfl (lv_at hl 1 rfl) ?_
              refine g_f C h (hr 100 (by decide)) (cel_hi (by decide)) celF_Mod rfl in_X7_raise_X7 9 (by decide) (by decide +kernel) (v := .ref (V.1 110)) rfl dX7_raise_140 ?_
              refine lv_iload_n hx hy dX7_raise_143 rfl (lv_at hl 2 rfl) ?_
              refine lv_iconst (v := (nI 4)) hx hy dX7_raise_144 (by decide) ?_
              refine lv_imul hx hy dX7_raise_145 ?_
              refine lv_topn (pk_mul _ _) ?_
              refine lv_iconst (v := (nI 3)) hx hy dX7_raise_146 (by decide) ?_
              refine lv_imul hx hy dX7_raise_147 ?_
              refine lv_topn (pk_mul _ _) ?_
              refine lv_iload hx hy dX7_raise_148 (lv_at hl 0 rfl) ?_
              refine lv_iadd hx hy dX7_raise_150 ?_
              refine lv_topn (nI_add _ _) ?_
              refine lv_iconst (v := (nI 0)) hx hy dX7_raise_151 (by decide) ?_
              refine s_iR C h (hr 110 (by decide)) (by decide) (n := 24) (k := (((c * 4) * 3) + j)) (fun _ => rfl) (by omega) (by decide) (x := (nI 0)) dX7_raise_152 (fun H locs h => ?_)
              refine lv_iinc (v := (nI (j + 1))) (lv' := [(4, .int (nI (j + 1))), (0, .ref (V.1 rMod)), (1, .int (nI c)), (2, .int hi), (3, .int wi)]) hx hy dX7_raise_153 hl (k := 0) rfl (nI_1 _) (by decide) rfl (fun ls hl => ?_)
              refine lv_goto (tgt := 132) hx hy dX7_raise_156 (by decide) ?_
              exact ih_132 (j + 1) (by omega) _ _ (by rw [show ((M, raL R c hi wi (j + 1), o) : wW) = (M, wr (raL R c hi wi j) 110 (((c * 4) * 3) + j) (nI 0), o) from rfl]; exact h) _ (by have hl := lv_sub hl [0, 1, 2, 3, 4] (l' := [(4, .int (nI (j + 1))), (0, .ref (V.1 rMod)), (1, .int (nI c)), (2, .int hi), (3, .int wi)]) rfl; rw [show (.int (nI (j + 1)) : Value) = .int (nI (j + 1)) from rfl] at hl; exact hl)
        exact L_132 (12) 0 (by omega) _ _ (by rw [show (M, raL R c hi wi 0, o) = (M, raT R c hi wi 7, o) from rfl]; exact h) _ (lv_sub hl [0, 1, 2, 3, 4] rfl)
      · skip
        exact absurd c_28 (by omega)
    | succ n_24 ih_24 =>
      intro t hk_24 H locs h ls hl
      have hz_24 : t < 7 := by omega
      refine lv_iload hx hy dX7_raise_24 (lv_at hl 0 rfl) ?_
      refine lv_bipush (v := (nI 7)) hx hy dX7_raise_26 (by decide) ?_
      refine n_ge hx hy (by omega) (by decide) (tgt := 129) dX7_raise_28 (by decide) (fun c_28 => ?_) (fun c_28 => ?_)
      · skip
        exact absurd c_28 (by omega)
      · skip
        refine lv_aload_n hx hy dX7_raise_31 rfl (lv_at hl 1 rfl) ?_
        refine g_f C h (hr 100 (by decide)) (cel_hi (by decide)) celF_Mod rfl in_X7_raise_X7 3 (by decide) (by decide +kernel) (v := .ref (V.1 104)) rfl dX7_raise_32 ?_
        refine lv_iload_n hx hy dX7_raise_35 rfl (lv_at hl 2 rfl) ?_
        refine lv_bipush (v := (nI 7)) hx hy dX7_raise_36 (by decide) ?_
        refine lv_imul hx hy dX7_raise_38 ?_
        refine lv_topn (pk_mul _ _) ?_
        refine lv_iload hx hy dX7_raise_39 (lv_at hl 0 rfl) ?_
        refine lv_iadd hx hy dX7_raise_41 ?_
        refine lv_topn (nI_add _ _) ?_
        refine lv_iconst (v := (nI 1)) hx hy dX7_raise_42 (by decide) ?_
        refine s_zR C h (hr 104 (by decide)) (by decide) (n := 14) (k := ((c * 7) + t)) (fun _ => rfl) (by omega) (by decide) (x := (nI 1)) (by decide) dX7_raise_43 (fun H locs h => ?_)
        refine lv_aload_n hx hy dX7_raise_44 rfl (lv_at hl 1 rfl) ?_
        refine g_f C h (hr 100 (by decide)) (cel_hi (by decide)) celF_Mod rfl in_X7_raise_X7 4 (by decide) (by decide +kernel) (v := .ref (V.1 105)) rfl dX7_raise_45 ?_
        refine lv_iload_n hx hy dX7_raise_48 rfl (lv_at hl 2 rfl) ?_
        refine lv_bipush (v := (nI 7)) hx hy dX7_raise_49 (by decide) ?_
        refine lv_imul hx hy dX7_raise_51 ?_
        refine lv_topn (pk_mul _ _) ?_
        refine lv_iload hx hy dX7_raise_52 (lv_at hl 0 rfl) ?_
        refine lv_iadd hx hy dX7_raise_54 ?_
        refine lv_topn (nI_add _ _) ?_
        refine lv_iconst (v := (nI 0)) hx hy dX7_raise_55 (by decide) ?_
        refine s_zR C h (hr 105 (by decide)) (by decide) (n := 14) (k := ((c * 7) + t)) (fun _ => rfl) (by omega) (by decide) (x := (nI 0)) (by decide) dX7_raise_56 (fun H locs h => ?_)
        refine lv_iconst (v := (nI 0)) hx hy dX7_raise_57 (by decide) ?_
        refine lv_istore (lv' := [(5, .int (nI 0)), (4, .int (nI t)), (0, .ref (V.1 rMod)), (1, .int (nI c)), (2, .int hi), (3, .int wi)]) hx hy dX7_raise_58 hl (by decide) rfl (fun ls hl => ?_)
        have L_60 : ∀ (n_60 j : Nat), n_60 + j = 4 → ∀ (H : Heap) (locs : List Loc), HH G V rs (M, zgN (raT R c hi wi t) c t j, o) s H locs → ∀ ls : Array Slot, lv_has ls 6 [(5, .int (nI j)), (4, .int (nI t)), (0, .ref (V.1 rMod)), (1, .int (nI c)), (2, .int hi), (3, .int wi)] → W p l e { frames := 0, cells := 0, slots := 0, locals := 0 } s m [.ref (V.1 rMod), .int (nI c), .int hi, .int wi].toArray below meth cd H locs 0 0 (QM G V rs below [.ref (V.1 rMod), .int (nI c), .int hi, .int wi].toArray s 0 0 (fun v u => v = none ∧ u = (M, raS R c hi wi sn, o)) (fun _ _ => False)) (F0 m 60 ls []) := by
          intro n_60
          induction n_60 with
          | zero =>
            intro j hk_60 H locs h ls hl
            have hz_60 : j = 4 := by omega
            try rw [hz_60] at h
            try rw [hz_60] at hl
            refine lv_iload hx hy dX7_raise_60 (lv_at hl 0 rfl) ?_
            refine lv_iconst (v := (nI 4)) hx hy dX7_raise_62 (by decide) ?_
            refine n_ge hx hy (by decide) (by decide) (tgt := 90) dX7_raise_63 (by decide) (fun c_63 => ?_) (fun c_63 => ?_)
            · skip
              refine lv_iconst (v := (nI 0)) hx hy dX7_raise_90 (by decide) ?_
              refine lv_istore (lv' := [(5, .int (nI 0)), (4, .int (nI t)), (0, .ref (V.1 rMod)), (1, .int (nI c)), (2, .int hi), (3, .int wi)]) hx hy dX7_raise_91 hl (by decide) rfl (fun ls hl => ?_)
              have L_93 : ∀ (n_93 j_2 : Nat), n_93 + j_2 = 3 → ∀ (H : Heap) (locs : List Loc), HH G V rs (M, ztN (raT R c hi wi t) c t j_2, o) s H locs → ∀ ls : Array Slot, lv_has ls 6 [(5, .int (nI j_2)), (4, .int (nI t)), (0, .ref (V.1 rMod)), (1, .int (nI c)), (2, .int hi), (3, .int wi)] → W p l e { frames := 0, cells := 0, slots := 0, locals := 0 } s m [.ref (V.1 rMod), .int (nI c), .int hi, .int wi].toArray below meth cd H locs 0 0 (QM G V rs below [.ref (V.1 rMod), .int (nI c), .int hi, .int wi].toArray s 0 0 (fun v u => v = none ∧ u = (M, raS R c hi wi sn, o)) (fun _ _ => False)) (F0 m 93 ls []) := by
                intro n_93
                induction n_93 with
                | zero =>
                  intro j_2 hk_93 H locs h ls hl
                  have hz_93 : j_2 = 3 := by omega
                  try rw [hz_93] at h
                  try rw [hz_93] at hl
                  refine lv_iload hx hy dX7_raise_93 (lv_at hl 0 rfl) ?_
                  refine lv_iconst (v := (nI 3)) hx hy dX7_raise_95 (by decide) ?_
                  refine n_ge hx hy (by decide) (by decide) (tgt := 123) dX7_raise_96 (by decide) (fun c_96 => ?_) (fun c_96 => ?_)
                  · skip
                    refine lv_iinc (v := (nI (t + 1))) (lv' := [(4, .int (nI (t + 1))), (5, .int (nI 3)), (0, .ref (V.1 rMod)), (1, .int (nI c)), (2, .int hi), (3, .int wi)]) hx hy dX7_raise_123 hl (k := 1) rfl (nI_1 _) (by decide) rfl (fun ls hl => ?_)
                    refine lv_goto (tgt := 24) hx hy dX7_raise_126 (by decide) ?_
                    exact ih_24 (t + 1) (by omega) _ _ (by rw [show ((M, raT R c hi wi (t + 1), o) : wW) = (M, ztN (raT R c hi wi t) c t 3, o) from rfl]; exact h) _ (by have hl := lv_sub hl [0, 2, 3, 4, 5] (l' := [(4, .int (nI (t + 1))), (0, .ref (V.1 rMod)), (1, .int (nI c)), (2, .int hi), (3, .int wi)]) rfl; rw [show (.int (nI (t + 1)) : Value) = .int (nI (t + 1)) from rfl] at hl; exact hl)
                  · skip
                    exact absurd c_96 (by omega)
                | succ n_93 ih_93 =>
                  intro j_2 hk_93 H locs h ls hl
                  have hz_93 : j_2 < 3 := by omega
                  refine lv_iload hx hy dX7_raise_93 (lv_at hl 0 rfl) ?_
                  refine lv_iconst (v := (nI 3)) hx hy dX7_raise_95 (by decide) ?_
                  refine n_ge hx hy (by omega) (by decide) (tgt := 123) dX7_raise_96 (by decide) (fun c_96 => ?_) (fun c_96 => ?_)
                  · skip
                    exact absurd c_96 (by omega)
                  · skip
                    refine lv_aload_n hx hy dX7_raise_99 rfl (lv_at hl 2 rfl) ?_
                    refine g_f C h (hr 100 (by decide)) (cel_hi (by decide)) celF_Mod rfl in_X7_raise_X7 8 (by decide) (by decide +kernel) (v := .ref (V.1 109)) rfl dX7_raise_100 ?_
                    refine lv_iload_n hx hy dX7_raise_103 rfl (lv_at hl 3 rfl) ?_
                    refine lv_bipush (v := (nI 7)) hx hy dX7_raise_104 (by decide) ?_
                    refine lv_imul hx hy dX7_raise_106 ?_
                    refine lv_topn (pk_mul _ _) ?_
                    refine lv_iload hx hy dX7_raise_107 (lv_at hl 1 rfl) ?_
                    refine lv_iadd hx hy dX7_raise_109 ?_
                    refine lv_topn (nI_add _ _) ?_
                    refine lv_iconst (v := (nI 3)) hx hy dX7_raise_110 (by decide) ?_
                    refine lv_imul hx hy dX7_raise_111 ?_
                    refine lv_topn (pk_mul _ _) ?_
                    refine lv_iload hx hy dX7_raise_112 (lv_at hl 0 rfl) ?_
                    refine lv_iadd hx hy dX7_raise_114 ?_
                    refine lv_topn (nI_add _ _) ?_
                    refine lv_iconst (v := (nI 0)) hx hy dX7_raise_115 (by decide) ?_
                    refine s_iR C h (hr 109 (by decide)) (by decide) (n := 42) (k := ((((c * 7) + t) * 3) + j_2)) (fun _ => rfl) (by omega) (by decide) (x := (nI 0)) dX7_raise_116 (fun H locs h => ?_)
                    refine lv_iinc (v := (nI (j_2 + 1))) (lv' := [(5, .int (nI (j_2 + 1))), (4, .int (nI t)), (0, .ref (V.1 rMod)), (1, .int (nI c)), (2, .int hi), (3, .int wi)]) hx hy dX7_raise_117 hl (k := 0) rfl (nI_1 _) (by decide) rfl (fun ls hl => ?_)
                    refine lv_goto (tgt := 93) hx hy dX7_raise_120 (by decide) ?_
                    exact ih_93 (j_2 + 1) (by omega) _ _ (by rw [show ((M, ztN (raT R c hi wi t) c t (j_2 + 1), o) : wW) = (M, wr (ztN (raT R c hi wi t) c t j_2) 109 ((((c * 7) + t) * 3) + j_2) (nI 0), o) from rfl]; exact h) _ (by have hl := lv_sub hl [0, 1, 2, 3, 4, 5] (l' := [(5, .int (nI (j_2 + 1))), (4, .int (nI t)), (0, .ref (V.1 rMod)), (1, .int (nI c)), (2, .int hi), (3, .int wi)]) rfl; rw [show (.int (nI (j_2 + 1)) : Value) = .int (nI (j_2 + 1)) from rfl] at hl; exact hl)
              exact L_93 (3) 0 (by omega) _ _ (by rw [show (M, ztN (raT R c hi wi t) c t 0, o) = (M, zgN (raT R c hi wi t) c t 4, o) from rfl]; exact h) _ (lv_sub hl [0, 1, 2, 3, 4, 5] rfl)
            · skip
              exact absurd c_63 (by omega)
          | succ n_60 ih_60 =>
            intro j hk_60 H locs h ls hl
            have hz_60 : j < 4 := by omega
            refine lv_iload hx hy dX7_raise_60 (lv_at hl 0 rfl) ?_
            refine lv_iconst (v := (nI 4)) hx hy dX7_raise_62 (by decide) ?_
            refine n_ge hx hy (by omega) (by decide) (tgt := 90) dX7_raise_63 (by decide) (fun c_63 => ?_) (fun c_63 => ?_)
            · skip
              exact absurd c_63 (by omega)
            · skip
              refine lv_aload_n hx hy dX7_raise_66 rfl (lv_at hl 2 rfl) ?_
              refine g_f C h (hr 100 (by decide)) (cel_hi (by decide)) celF_Mod rfl in_X7_raise_X7 6 (by decide) (by decide +kernel) (v := .ref (V.1 107)) rfl dX7_raise_67 ?_
              refine lv_iload_n hx hy dX7_raise_70 rfl (lv_at hl 3 rfl) ?_
              refine lv_bipush (v := (nI 7)) hx hy dX7_raise_71 (by decide) ?_
              refine lv_imul hx hy dX7_raise_73 ?_
              refine lv_topn (pk_mul _ _) ?_
              refine lv_iload hx hy dX7_raise_74 (lv_at hl 1 rfl) ?_
              refine lv_iadd hx hy dX7_raise_76 ?_
              refine lv_topn (nI_add _ _) ?_
              refine lv_iconst (v := (nI 4)) hx hy dX7_raise_77 (by decide) ?_
              refine lv_imul hx hy dX7_raise_78 ?_
              refine lv_topn (pk_mul _ _) ?_
              refine lv_iload hx hy dX7_raise_79 (lv_at hl 0 rfl) ?_
              refine lv_iadd hx hy dX7_raise_81 ?_
              refine lv_topn (nI_add _ _) ?_
              refine lv_iconst (v := (nI 0)) hx hy dX7_raise_82 (by decide) ?_
              refine s_zR C h (hr 107 (by decide)) (by decide) (n := 56) (k := ((((c * 7) + t) * 4) + j)) (fun _ => rfl) (by omega) (by decide) (x := (nI 0)) (by decide) dX7_raise_83 (fun H locs h => ?_)
              refine lv_iinc (v := (nI (j + 1))) (lv' := [(5, .int (nI (j + 1))), (4, .int (nI t)), (0, .ref (V.1 rMod)), (1, .int (nI c)), (2, .int hi), (3, .int wi)]) hx hy dX7_raise_84 hl (k := 0) rfl (nI_1 _) (by decide) rfl (fun ls hl => ?_)
              refine lv_goto (tgt := 60) hx hy dX7_raise_87 (by decide) ?_
              exact ih_60 (j + 1) (by omega) _ _ (by rw [show ((M, zgN (raT R c hi wi t) c t (j + 1), o) : wW) = (M, wr (zgN (raT R c hi wi t) c t j) 107 ((((c * 7) + t) * 4) + j) (nI 0), o) from rfl]; exact h) _ (by have hl := lv_sub hl [0, 1, 2, 3, 4, 5] (l' := [(5, .int (nI (j + 1))), (4, .int (nI t)), (0, .ref (V.1 rMod)), (1, .int (nI c)), (2, .int hi), (3, .int wi)]) rfl; rw [show (.int (nI (j + 1)) : Value) = .int (nI (j + 1)) from rfl] at hl; exact hl)
        exact L_60 (4) 0 (by omega) _ _ (by rw [show (M, zgN (raT R c hi wi t) c t 0, o) = (M, wr (wr (raT R c hi wi t) 104 ((c * 7) + t) (nI 1)) 105 ((c * 7) + t) (nI 0), o) from rfl]; exact h) _ (lv_sub hl [0, 1, 2, 3, 4, 5] rfl)
  exact L_24 (7) 0 (by omega) _ _ (by rw [show (M, raT R c hi wi 0, o) = (M, raA R c hi wi, o) from rfl]; exact h) _ (lv_sub hl [0, 1, 2, 3, 4] rfl)

set_option maxRecDepth 20000 in
theorem in_X7_prepared_X7 : ∀ x ∈ wsX70, x ∈ wsX7_prepared := by decide +kernel
set_option maxRecDepth 100000 in
set_option maxHeartbeats 4000000 in
/-- the reference: prepared -/
theorem c_X7_prepared (l : Launch) {G : va_G} {V : wV} {rs : List Nat} (hr : bR rs) (M R : wM) (o : wO) (c : Nat) (hc : c < 2) (tn : Nat) (htr8 : tn ≤ 8) (htn : R rMod 17 = nI tn) : CT l G V rs yX7_prepared wsX7_prepared 0 0 0 0 [.ref (V.1 rMod), .int (nI c)] (M, R, o) (fun v u => v = some (.int (prN R c tn)) ∧ u = (M, R, o)) (fun _ _ => False) := by
  refine ct_of (cc := cX7_prepared) (maxL := 4) (ret := (some .int)) (by decide) rfl (Nat.le_of_ble_eq_true rfl) ?_
  intro p e s m below meth cd ls C h X hT hl
  have hx := C.1
  have hy := C.2.1
  have hl : lv_has ls 4 [(0, .ref (V.1 rMod)), (1, .int (nI c))] := hl
  refine lv_iconst (v := (-1)) hx hy dX7_prepared_0 (by decide) ?_
  refine lv_istore_n (lv' := [(2, .int (-1)), (0, .ref (V.1 rMod)), (1, .int (nI c))]) hx hy dX7_prepared_1 rfl hl (by decide) rfl (fun ls hl => ?_)
  refine lv_iconst (v := (nI 0)) hx hy dX7_prepared_2 (by decide) ?_
  refine lv_istore_n (lv' := [(3, .int (nI 0)), (2, .int (-1)), (0, .ref (V.1 rMod)), (1, .int (nI c))]) hx hy dX7_prepared_3 rfl hl (by decide) rfl (fun ls hl => ?_)
  have L_4 : ∀ (n_4 k : Nat), n_4 + k = tn → ∀ (H : Heap) (locs : List Loc), HH G V rs (M, R, o) s H locs → ∀ ls : Array Slot, lv_has ls 4 [(3, .int (nI k)), (2, .int (prN R c k)), (0, .ref (V.1 rMod)), (1, .int (nI c))] → W p l e { frames := 0, cells := 0, slots := 0, locals := 0 } s m [.ref (V.1 rMod), .int (nI c)].toArray below meth cd H locs 0 0 (QM G V rs below [.ref (V.1 rMod), .int (nI c)].toArray s 0 0 (fun v u => v = some (.int (prN R c tn)) ∧ u = (M, R, o)) (fun _ _ => False)) (F0 m 4 ls []) := by
    intro n_4
    induction n_4 with
    | zero =>
      intro k hk_4 H locs h ls hl
      have hz_4 : k = tn := by omega
      try rw [hz_4] at h
      try rw [hz_4] at hl
      refine lv_iload_n hx hy dX7_prepared_4 rfl (lv_at hl 0 rfl) ?_
      refine lv_aload_n hx hy dX7_prepared_5 rfl (lv_at hl 2 rfl) ?_
      refine g_f C h (hr 100 (by decide)) (cel_hi (by decide)) celF_Mod rfl in_X7_prepared_X7 17 (by decide) (by decide +kernel) (v := .int (nI tn)) (congrArg (fun z => some (Value.int z)) (show R rMod 17 = (nI tn) from htn)) dX7_prepared_6 ?_
      refine n_ge hx hy (by omega) (by omega) (tgt := 39) dX7_prepared_9 (by decide) (fun c_9 => ?_) (fun c_9 => ?_)
      · skip
        refine lv_iload_n hx hy dX7_prepared_39 rfl (lv_at hl 1 rfl) ?_
        exact e_int C h rfl dX7_prepared_40 (⟨rfl, rfl⟩) (by decide) (by decide)
      · skip
        exact absurd c_9 (by omega)
    | succ n_4 ih_4 =>
      intro k hk_4 H locs h ls hl
      have hz_4 : k < tn := by omega
      refine lv_iload_n hx hy dX7_prepared_4 rfl (lv_at hl 0 rfl) ?_
      refine lv_aload_n hx hy dX7_prepared_5 rfl (lv_at hl 2 rfl) ?_
      refine g_f C h (hr 100 (by decide)) (cel_hi (by decide)) celF_Mod rfl in_X7_prepared_X7 17 (by decide) (by decide +kernel) (v := .int (nI tn)) (congrArg (fun z => some (Value.int z)) (show R rMod 17 = (nI tn) from htn)) dX7_prepared_6 ?_
      refine n_ge hx hy (by omega) (by omega) (tgt := 39) dX7_prepared_9 (by decide) (fun c_9 => ?_) (fun c_9 => ?_)
      · skip
        exact absurd c_9 (by omega)
      · skip
        refine lv_aload_n hx hy dX7_prepared_12 rfl (lv_at hl 2 rfl) ?_
        refine g_f C h (hr 100 (by decide)) (cel_hi (by decide)) celF_Mod rfl in_X7_prepared_X7 29 (by decide) (by decide +kernel) (v := .ref (V.1 130)) rfl dX7_prepared_13 ?_
        refine lv_iconst (v := (nI 2)) hx hy dX7_prepared_16 (by decide) ?_
        refine lv_iload_n hx hy dX7_prepared_17 rfl (lv_at hl 0 rfl) ?_
        refine lv_imul hx hy dX7_prepared_18 ?_
        refine lv_topn (pk_mul _ _) ?_
        refine lv_iload_n hx hy dX7_prepared_19 rfl (lv_at hl 3 rfl) ?_
        refine lv_iadd hx hy dX7_prepared_20 ?_
        refine lv_topn (nI_add _ _) ?_
        refine g_c C h (hr 130 (by decide)) (n := 16) (k := ((2 * k) + c)) (cel_hi (by decide)) (fun _ => rfl) (by omega) (by decide) (v := (R 130 ((2 * k) + c))) rfl dX7_prepared_21 ?_
        refine lv_bipush (v := (nI 112)) hx hy dX7_prepared_22 (by decide) ?_
        refine i_ne hx hy (tgt := 31) dX7_prepared_24 (by decide) (fun c_24 => ?_) (fun c_24 => ?_)
        · skip
          refine lv_iload_n hx hy dX7_prepared_31 rfl (lv_at hl 1 rfl) ?_
          refine lv_istore_n (lv' := [(2, .int (prN R c k)), (3, .int (nI k)), (0, .ref (V.1 rMod)), (1, .int (nI c))]) hx hy dX7_prepared_32 rfl hl (by decide) rfl (fun ls hl => ?_)
          refine lv_iinc (v := (nI (k + 1))) (lv' := [(3, .int (nI (k + 1))), (2, .int (prN R c k)), (0, .ref (V.1 rMod)), (1, .int (nI c))]) hx hy dX7_prepared_33 hl (k := 1) rfl (nI_1 _) (by decide) rfl (fun ls hl => ?_)
          refine lv_goto (tgt := 4) hx hy dX7_prepared_36 (by decide) ?_
          exact ih_4 (k + 1) (by omega) _ _ h _ (by have hl := lv_sub hl [0, 1, 2, 3] (l' := [(3, .int (nI (k + 1))), (2, .int (prN R c k)), (0, .ref (V.1 rMod)), (1, .int (nI c))]) rfl; rw [show (.int (nI (k + 1)) : Value) = .int (nI (k + 1)) from rfl] at hl; rw [show (.int (prN R c k) : Value) = .int (prN R c (k + 1)) from by simp [prN, eq_true c_9, eq_false (Nat.not_le.mpr c_9), eq_false c_24]] at hl; exact hl)
        · skip
          refine lv_iload_n hx hy dX7_prepared_27 rfl (lv_at hl 0 rfl) ?_
          refine lv_goto (tgt := 32) hx hy dX7_prepared_28 (by decide) ?_
          refine lv_istore_n (lv' := [(2, .int (nI k)), (3, .int (nI k)), (0, .ref (V.1 rMod)), (1, .int (nI c))]) hx hy dX7_prepared_32 rfl hl (by decide) rfl (fun ls hl => ?_)
          refine lv_iinc (v := (nI (k + 1))) (lv' := [(3, .int (nI (k + 1))), (2, .int (nI k)), (0, .ref (V.1 rMod)), (1, .int (nI c))]) hx hy dX7_prepared_33 hl (k := 1) rfl (nI_1 _) (by decide) rfl (fun ls hl => ?_)
          refine lv_goto (tgt := 4) hx hy dX7_prepared_36 (by decide) ?_
          exact ih_4 (k + 1) (by omega) _ _ h _ (by have hl := lv_sub hl [0, 1, 2, 3] (l' := [(3, .int (nI (k + 1))), (2, .int (nI k)), (0, .ref (V.1 rMod)), (1, .int (nI c))]) rfl; rw [show (.int (nI (k + 1)) : Value) = .int (nI (k + 1)) from rfl] at hl; rw [show (.int (nI k) : Value) = .int (prN R c (k + 1)) from by simp [prN, eq_true c_9, eq_false (Nat.not_le.mpr c_9), eq_true c_24]] at hl; exact hl)
  exact L_4 (tn) 0 (by omega) _ _ h _ (by have hl := lv_sub hl [0, 1, 2, 3] (l' := [(3, .int (nI 0)), (2, .int (-1)), (0, .ref (V.1 rMod)), (1, .int (nI c))]) rfl; rw [show (.int (-1) : Value) = .int (prN R c 0) from rfl] at hl; exact hl)

set_option maxRecDepth 20000 in
theorem in_X7_downs_X7 : ∀ x ∈ wsX70, x ∈ wsX7_downs := by decide +kernel
set_option maxRecDepth 100000 in
set_option maxHeartbeats 4000000 in
/-- the reference: downs -/
theorem c_X7_downs (l : Launch) {G : va_G} {V : wV} {rs : List Nat} (hr : bR rs) (M R : wM) (o : wO) (c : Nat) (hc : c < 2) (t : Nat) (ht : t < 7) (hbz : narrow .boolean (.int (R 104 (c * 7 + t))) = .int (R 104 (c * 7 + t))) : CT l G V rs yX7_downs wsX7_downs 0 0 0 0 [.ref (V.1 rMod), .int (nI c), .int (nI t)] (M, R, o) (fun v u => v = some (.int (R 104 (c * 7 + t))) ∧ u = (M, dwN R c t 3, o)) (fun _ _ => False) := by
  refine ct_of (cc := cX7_downs) (maxL := 5) (ret := (some .boolean)) (by decide) rfl (Nat.le_of_ble_eq_true rfl) ?_
  intro p e s m below meth cd ls C h X hT hl
  have hx := C.1
  have hy := C.2.1
  have hl : lv_has ls 5 [(0, .ref (V.1 rMod)), (1, .int (nI c)), (2, .int (nI t))] := hl
  refine lv_aload_n hx hy dX7_downs_0 rfl (lv_at hl 0 rfl) ?_
  refine g_f C h (hr 100 (by decide)) (cel_hi (by decide)) celF_Mod rfl in_X7_downs_X7 3 (by decide) (by decide +kernel) (v := .ref (V.1 104)) rfl dX7_downs_1 ?_
  refine lv_iload_n hx hy dX7_downs_4 rfl (lv_at hl 1 rfl) ?_
  refine lv_bipush (v := (nI 7)) hx hy dX7_downs_5 (by decide) ?_
  refine lv_imul hx hy dX7_downs_7 ?_
  refine lv_topn (pk_mul _ _) ?_
  refine lv_iload_n hx hy dX7_downs_8 rfl (lv_at hl 2 rfl) ?_
  refine lv_iadd hx hy dX7_downs_9 ?_
  refine lv_topn (nI_add _ _) ?_
  refine g_z C h (hr 104 (by decide)) (n := 14) (k := ((c * 7) + t)) (cel_hi (by decide)) (fun _ => rfl) (by omega) (by decide) (v := (R 104 ((c * 7) + t))) rfl dX7_downs_10 ?_
  refine lv_istore_n (lv' := [(3, .int (R 104 ((c * 7) + t))), (0, .ref (V.1 rMod)), (1, .int (nI c)), (2, .int (nI t))]) hx hy dX7_downs_11 rfl hl (by decide) rfl (fun ls hl => ?_)
  refine lv_aload_n hx hy dX7_downs_12 rfl (lv_at hl 1 rfl) ?_
  refine g_f C h (hr 100 (by decide)) (cel_hi (by decide)) celF_Mod rfl in_X7_downs_X7 3 (by decide) (by decide +kernel) (v := .ref (V.1 104)) rfl dX7_downs_13 ?_
  refine lv_iload_n hx hy dX7_downs_16 rfl (lv_at hl 2 rfl) ?_
  refine lv_bipush (v := (nI 7)) hx hy dX7_downs_17 (by decide) ?_
  refine lv_imul hx hy dX7_downs_19 ?_
  refine lv_topn (pk_mul _ _) ?_
  refine lv_iload_n hx hy dX7_downs_20 rfl (lv_at hl 3 rfl) ?_
  refine lv_iadd hx hy dX7_downs_21 ?_
  refine lv_topn (nI_add _ _) ?_
  refine lv_iconst (v := (nI 0)) hx hy dX7_downs_22 (by decide) ?_
  refine s_zR C h (hr 104 (by decide)) (by decide) (n := 14) (k := ((c * 7) + t)) (fun _ => rfl) (by omega) (by decide) (x := (nI 0)) (by decide) dX7_downs_23 (fun H locs h => ?_)
  refine lv_aload_n hx hy dX7_downs_24 rfl (lv_at hl 1 rfl) ?_
  refine g_f C h (hr 100 (by decide)) (cel_hi (by decide)) celF_Mod rfl in_X7_downs_X7 4 (by decide) (by decide +kernel) (v := .ref (V.1 105)) rfl dX7_downs_25 ?_
  refine lv_iload_n hx hy dX7_downs_28 rfl (lv_at hl 2 rfl) ?_
  refine lv_bipush (v := (nI 7)) hx hy dX7_downs_29 (by decide) ?_
  refine lv_imul hx hy dX7_downs_31 ?_
  refine lv_topn (pk_mul _ _) ?_
  refine lv_iload_n hx hy dX7_downs_32 rfl (lv_at hl 3 rfl) ?_
  refine lv_iadd hx hy dX7_downs_33 ?_
  refine lv_topn (nI_add _ _) ?_
  refine lv_iconst (v := (nI 0)) hx hy dX7_downs_34 (by decide) ?_
  refine s_zR C h (hr 105 (by decide)) (by decide) (n := 14) (k := ((c * 7) + t)) (fun _ => rfl) (by omega) (by decide) (x := (nI 0)) (by decide) dX7_downs_35 (fun H locs h => ?_)
  refine lv_iconst (v := (nI 0)) hx hy dX7_downs_36 (by decide) ?_
  refine lv_istore (lv' := [(4, .int (nI 0)), (3, .int (R 104 ((c * 7) + t))), (0, .ref (V.1 rMod)), (1, .int (nI c)), (2, .int (nI t))]) hx hy dX7_downs_37 hl (by decide) rfl (fun ls hl => ?_)
  have L_39 : ∀ (n_39 j : Nat), n_39 + j = 3 → ∀ (H : Heap) (locs : List Loc), HH G V rs (M, dwN R c t j, o) s H locs → ∀ ls : Array Slot, lv_has ls 5 [(4, .int (nI j)), (3, .int (R 104 ((c * 7) + t))), (0, .ref (V.1 rMod)), (1, .int (nI c)), (2, .int (nI t))] → W p l e { frames := 0, cells := 0, slots := 0, locals := 0 } s m [.ref (V.1 rMod), .int (nI c), .int (nI t)].toArray below meth cd H locs 0 0 (QM G V rs below [.ref (V.1 rMod), .int (nI c), .int (nI t)].toArray s 0 0 (fun v u => v = some (.int (R 104 (c * 7 + t))) ∧ u = (M, dwN R c t 3, o)) (fun _ _ => False)) (F0 m 39 ls []) := by
    intro n_39
    induction n_39 with
    | zero =>
      intro j hk_39 H locs h ls hl
      have hz_39 : j = 3 := by omega
      try rw [hz_39] at h
      try rw [hz_39] at hl
      refine lv_iload hx hy dX7_downs_39 (lv_at hl 0 rfl) ?_
      refine lv_iconst (v := (nI 3)) hx hy dX7_downs_41 (by decide) ?_
      refine n_ge hx hy (by decide) (by decide) (tgt := 68) dX7_downs_42 (by decide) (fun c_42 => ?_) (fun c_42 => ?_)
      · skip
        refine lv_iload_n hx hy dX7_downs_68 rfl (lv_at hl 1 rfl) ?_
        exact e_int C h (hbz) dX7_downs_69 (⟨rfl, rfl⟩) (by decide) (by decide)
      · skip
        exact absurd c_42 (by omega)
    | succ n_39 ih_39 =>
      intro j hk_39 H locs h ls hl
      have hz_39 : j < 3 := by omega
      refine lv_iload hx hy dX7_downs_39 (lv_at hl 0 rfl) ?_
      refine lv_iconst (v := (nI 3)) hx hy dX7_downs_41 (by decide) ?_
      refine n_ge hx hy (by omega) (by decide) (tgt := 68) dX7_downs_42 (by decide) (fun c_42 => ?_) (fun c_42 => ?_)
      · skip
        exact absurd c_42 (by omega)
      · skip
        refine lv_aload_n hx hy dX7_downs_45 rfl (lv_at hl 2 rfl) ?_
        refine g_f C h (hr 100 (by decide)) (cel_hi (by decide)) celF_Mod rfl in_X7_downs_X7 8 (by decide) (by decide +kernel) (v := .ref (V.1 109)) rfl dX7_downs_46 ?_
        refine lv_iload_n hx hy dX7_downs_49 rfl (lv_at hl 3 rfl) ?_
        refine lv_bipush (v := (nI 7)) hx hy dX7_downs_50 (by decide) ?_
        refine lv_imul hx hy dX7_downs_52 ?_
        refine lv_topn (pk_mul _ _) ?_
        refine lv_iload_n hx hy dX7_downs_53 rfl (lv_at hl 4 rfl) ?_
        refine lv_iadd hx hy dX7_downs_54 ?_
        refine lv_topn (nI_add _ _) ?_
        refine lv_iconst (v := (nI 3)) hx hy dX7_downs_55 (by decide) ?_
        refine lv_imul hx hy dX7_downs_56 ?_
        refine lv_topn (pk_mul _ _) ?_
        refine lv_iload hx hy dX7_downs_57 (lv_at hl 0 rfl) ?_
        refine lv_iadd hx hy dX7_downs_59 ?_
        refine lv_topn (nI_add _ _) ?_
        refine lv_iconst (v := (nI 0)) hx hy dX7_downs_60 (by decide) ?_
        refine s_iR C h (hr 109 (by decide)) (by decide) (n := 42) (k := ((((c * 7) + t) * 3) + j)) (fun _ => rfl) (by omega) (by decide) (x := (nI 0)) dX7_downs_61 (fun H locs h => ?_)
        refine lv_iinc (v := (nI (j + 1))) (lv' := [(4, .int (nI (j + 1))), (3, .int (R 104 ((c * 7) + t))), (0, .ref (V.1 rMod)), (1, .int (nI c)), (2, .int (nI t))]) hx hy dX7_downs_62 hl (k := 0) rfl (nI_1 _) (by decide) rfl (fun ls hl => ?_)
        refine lv_goto (tgt := 39) hx hy dX7_downs_65 (by decide) ?_
        exact ih_39 (j + 1) (by omega) _ _ (by rw [show ((M, dwN R c t (j + 1), o) : wW) = (M, wr (dwN R c t j) 109 ((((c * 7) + t) * 3) + j) (nI 0), o) from rfl]; exact h) _ (by have hl := lv_sub hl [0, 1, 2, 3, 4] (l' := [(4, .int (nI (j + 1))), (3, .int (R 104 ((c * 7) + t))), (0, .ref (V.1 rMod)), (1, .int (nI c)), (2, .int (nI t))]) rfl; rw [show (.int (nI (j + 1)) : Value) = .int (nI (j + 1)) from rfl] at hl; exact hl)
  exact L_39 (3) 0 (by omega) _ _ (by rw [show (M, dwN R c t 0, o) = (M, wr (wr R 104 ((c * 7) + t) (nI 0)) 105 ((c * 7) + t) (nI 0), o) from rfl]; exact h) _ (lv_sub hl [0, 1, 2, 3, 4] rfl)

set_option maxRecDepth 20000 in
theorem in_X7_reach_X7 : ∀ x ∈ wsX70, x ∈ wsX7_reach := by decide +kernel
set_option maxRecDepth 100000 in
set_option maxHeartbeats 4000000 in
/-- the reference: reach -/
theorem c_X7_reach (l : Launch) {G : va_G} {V : wV} {rs : List Nat} (hr : bR rs) (M R : wM) (o : wO) (c : Nat) (hc : c < 2) (mn : Nat) (hm7 : mn ≤ 7) (hmn : R 101 c = nI mn) (lo : Nat) (hlo : lo < 4) : CT l G V rs yX7_reach wsX7_reach 0 0 0 0 [.ref (V.1 rMod), .int (nI c), .int (nI lo)] (M, R, o) (fun v u => v = some (.int (rcN R c lo mn)) ∧ u = (M, R, o)) (fun _ _ => False) := by
  refine ct_of (cc := cX7_reach) (maxL := 5) (ret := (some .int)) (by decide) rfl (Nat.le_of_ble_eq_true rfl) ?_
  intro p e s m below meth cd ls C h X hT hl
  have hx := C.1
  have hy := C.2.1
  have hl : lv_has ls 5 [(0, .ref (V.1 rMod)), (1, .int (nI c)), (2, .int (nI lo))] := hl
  refine lv_iconst (v := (nI 0)) hx hy dX7_reach_0 (by decide) ?_
  refine lv_istore_n (lv' := [(3, .int (nI 0)), (0, .ref (V.1 rMod)), (1, .int (nI c)), (2, .int (nI lo))]) hx hy dX7_reach_1 rfl hl (by decide) rfl (fun ls hl => ?_)
  refine lv_iconst (v := (nI 0)) hx hy dX7_reach_2 (by decide) ?_
  refine lv_istore (lv' := [(4, .int (nI 0)), (3, .int (nI 0)), (0, .ref (V.1 rMod)), (1, .int (nI c)), (2, .int (nI lo))]) hx hy dX7_reach_3 hl (by decide) rfl (fun ls hl => ?_)
  have L_5 : ∀ (n_5 t : Nat), n_5 + t = mn → ∀ (H : Heap) (locs : List Loc), HH G V rs (M, R, o) s H locs → ∀ ls : Array Slot, lv_has ls 5 [(4, .int (nI t)), (3, .int (rcN R c lo t)), (0, .ref (V.1 rMod)), (1, .int (nI c)), (2, .int (nI lo))] → W p l e { frames := 0, cells := 0, slots := 0, locals := 0 } s m [.ref (V.1 rMod), .int (nI c), .int (nI lo)].toArray below meth cd H locs 0 0 (QM G V rs below [.ref (V.1 rMod), .int (nI c), .int (nI lo)].toArray s 0 0 (fun v u => v = some (.int (rcN R c lo mn)) ∧ u = (M, R, o)) (fun _ _ => False)) (F0 m 5 ls []) := by
    intro n_5
    induction n_5 with
    | zero =>
      intro t hk_5 H locs h ls hl
      have hz_5 : t = mn := by omega
      try rw [hz_5] at h
      try rw [hz_5] at hl
      refine lv_iload hx hy dX7_reach_5 (lv_at hl 0 rfl) ?_
      refine lv_aload_n hx hy dX7_reach_7 rfl (lv_at hl 2 rfl) ?_
      refine g_f C h (hr 100 (by decide)) (cel_hi (by decide)) celF_Mod rfl in_X7_reach_X7 0 (by decide) (by decide +kernel) (v := .ref (V.1 101)) rfl dX7_reach_8 ?_
      refine lv_iload_n hx hy dX7_reach_11 rfl (lv_at hl 3 rfl) ?_
      refine g_i C h (hr 101 (by decide)) (n := 2) (k := c) (cel_hi (by decide)) (fun _ => rfl) (by omega) (by decide) (v := (nI mn)) (show R 101 c = (nI mn) from hmn) dX7_reach_12 ?_
      refine n_ge hx hy (by omega) (by omega) (tgt := 71) dX7_reach_13 (by decide) (fun c_13 => ?_) (fun c_13 => ?_)
      · skip
        refine lv_iload_n hx hy dX7_reach_71 rfl (lv_at hl 1 rfl) ?_
        exact e_int C h rfl dX7_reach_72 (⟨rfl, rfl⟩) (by decide) (by decide)
      · skip
        exact absurd c_13 (by omega)
    | succ n_5 ih_5 =>
      intro t hk_5 H locs h ls hl
      have hz_5 : t < mn := by omega
      refine lv_iload hx hy dX7_reach_5 (lv_at hl 0 rfl) ?_
      refine lv_aload_n hx hy dX7_reach_7 rfl (lv_at hl 2 rfl) ?_
      refine g_f C h (hr 100 (by decide)) (cel_hi (by decide)) celF_Mod rfl in_X7_reach_X7 0 (by decide) (by decide +kernel) (v := .ref (V.1 101)) rfl dX7_reach_8 ?_
      refine lv_iload_n hx hy dX7_reach_11 rfl (lv_at hl 3 rfl) ?_
      refine g_i C h (hr 101 (by decide)) (n := 2) (k := c) (cel_hi (by decide)) (fun _ => rfl) (by omega) (by decide) (v := (nI mn)) (show R 101 c = (nI mn) from hmn) dX7_reach_12 ?_
      refine n_ge hx hy (by omega) (by omega) (tgt := 71) dX7_reach_13 (by decide) (fun c_13 => ?_) (fun c_13 => ?_)
      · skip
        exact absurd c_13 (by omega)
      · skip
        refine lv_iload_n hx hy dX7_reach_16 rfl (lv_at hl 1 rfl) ?_
        refine lv_aload_n hx hy dX7_reach_17 rfl (lv_at hl 2 rfl) ?_
        refine g_f C h (hr 100 (by decide)) (cel_hi (by decide)) celF_Mod rfl in_X7_reach_X7 3 (by decide) (by decide +kernel) (v := .ref (V.1 104)) rfl dX7_reach_18 ?_
        refine lv_iload_n hx hy dX7_reach_21 rfl (lv_at hl 3 rfl) ?_
        refine lv_bipush (v := (nI 7)) hx hy dX7_reach_22 (by decide) ?_
        refine lv_imul hx hy dX7_reach_24 ?_
        refine lv_topn (pk_mul _ _) ?_
        refine lv_iload hx hy dX7_reach_25 (lv_at hl 0 rfl) ?_
        refine lv_iadd hx hy dX7_reach_27 ?_
        refine lv_topn (nI_add _ _) ?_
        refine g_z C h (hr 104 (by decide)) (n := 14) (k := ((c * 7) + t)) (cel_hi (by decide)) (fun _ => rfl) (by omega) (by decide) (v := (R 104 ((c * 7) + t))) rfl dX7_reach_28 ?_
        refine z_eq hx hy (tgt := 62) dX7_reach_29 (by decide) (fun c_29 => ?_) (fun c_29 => ?_)
        · skip
          refine lv_iconst (v := (nI 0)) hx hy dX7_reach_62 (by decide) ?_
          refine lv_ior hx hy dX7_reach_63 ?_
          refine lv_istore_n (lv' := [(3, .int ((rcN R c lo t) ||| (nI 0))), (4, .int (nI t)), (0, .ref (V.1 rMod)), (1, .int (nI c)), (2, .int (nI lo))]) hx hy dX7_reach_64 rfl hl (by decide) rfl (fun ls hl => ?_)
          refine lv_iinc (v := (nI (t + 1))) (lv' := [(4, .int (nI (t + 1))), (3, .int ((rcN R c lo t) ||| (nI 0))), (0, .ref (V.1 rMod)), (1, .int (nI c)), (2, .int (nI lo))]) hx hy dX7_reach_65 hl (k := 1) rfl (nI_1 _) (by decide) rfl (fun ls hl => ?_)
          refine lv_goto (tgt := 5) hx hy dX7_reach_68 (by decide) ?_
          exact ih_5 (t + 1) (by omega) _ _ h _ (by have hl := lv_sub hl [0, 1, 2, 3, 4] (l' := [(4, .int (nI (t + 1))), (3, .int ((rcN R c lo t) ||| (nI 0))), (0, .ref (V.1 rMod)), (1, .int (nI c)), (2, .int (nI lo))]) rfl; rw [show (.int (nI (t + 1)) : Value) = .int (nI (t + 1)) from rfl] at hl; rw [show (.int ((rcN R c lo t) ||| (nI 0)) : Value) = .int (rcN R c lo (t + 1)) from by simp [rcN, eq_true c_13, eq_false (Nat.not_le.mpr c_13), eq_true c_29]] at hl; exact hl)
        · skip
          refine lv_iload_n hx hy dX7_reach_32 rfl (lv_at hl 4 rfl) ?_
          refine nz_lt hx hy (by omega) (tgt := 55) dX7_reach_33 (by decide) ?_
          refine lv_aload_n hx hy dX7_reach_36 rfl (lv_at hl 2 rfl) ?_
          refine g_f C h (hr 100 (by decide)) (cel_hi (by decide)) celF_Mod rfl in_X7_reach_X7 6 (by decide) (by decide +kernel) (v := .ref (V.1 107)) rfl dX7_reach_37 ?_
          refine lv_iload_n hx hy dX7_reach_40 rfl (lv_at hl 3 rfl) ?_
          refine lv_bipush (v := (nI 7)) hx hy dX7_reach_41 (by decide) ?_
          refine lv_imul hx hy dX7_reach_43 ?_
          refine lv_topn (pk_mul _ _) ?_
          refine lv_iload hx hy dX7_reach_44 (lv_at hl 0 rfl) ?_
          refine lv_iadd hx hy dX7_reach_46 ?_
          refine lv_topn (nI_add _ _) ?_
          refine lv_iconst (v := (nI 4)) hx hy dX7_reach_47 (by decide) ?_
          refine lv_imul hx hy dX7_reach_48 ?_
          refine lv_topn (pk_mul _ _) ?_
          refine lv_iload_n hx hy dX7_reach_49 rfl (lv_at hl 4 rfl) ?_
          refine lv_iadd hx hy dX7_reach_50 ?_
          refine lv_topn (nI_add _ _) ?_
          refine g_z C h (hr 107 (by decide)) (n := 56) (k := ((((c * 7) + t) * 4) + lo)) (cel_hi (by decide)) (fun _ => rfl) (by omega) (by decide) (v := (R 107 ((((c * 7) + t) * 4) + lo))) rfl dX7_reach_51 ?_
          refine z_ne hx hy (tgt := 62) dX7_reach_52 (by decide) (fun c_52 => ?_) (fun c_52 => ?_)
          · skip
            refine lv_iconst (v := (nI 0)) hx hy dX7_reach_62 (by decide) ?_
            refine lv_ior hx hy dX7_reach_63 ?_
            refine lv_istore_n (lv' := [(3, .int ((rcN R c lo t) ||| (nI 0))), (4, .int (nI t)), (0, .ref (V.1 rMod)), (1, .int (nI c)), (2, .int (nI lo))]) hx hy dX7_reach_64 rfl hl (by decide) rfl (fun ls hl => ?_)
            refine lv_iinc (v := (nI (t + 1))) (lv' := [(4, .int (nI (t + 1))), (3, .int ((rcN R c lo t) ||| (nI 0))), (0, .ref (V.1 rMod)), (1, .int (nI c)), (2, .int (nI lo))]) hx hy dX7_reach_65 hl (k := 1) rfl (nI_1 _) (by decide) rfl (fun ls hl => ?_)
            refine lv_goto (tgt := 5) hx hy dX7_reach_68 (by decide) ?_
            exact ih_5 (t + 1) (by omega) _ _ h _ (by have hl := lv_sub hl [0, 1, 2, 3, 4] (l' := [(4, .int (nI (t + 1))), (3, .int ((rcN R c lo t) ||| (nI 0))), (0, .ref (V.1 rMod)), (1, .int (nI c)), (2, .int (nI lo))]) rfl; rw [show (.int (nI (t + 1)) : Value) = .int (nI (t + 1)) from rfl] at hl; rw [show (.int ((rcN R c lo t) ||| (nI 0)) : Value) = .int (rcN R c lo (t + 1)) from by simp [rcN, eq_true c_13, eq_false (Nat.not_le.mpr c_13), eq_false c_29, eq_false c_52]] at hl; exact hl)
          · skip
            refine lv_iconst (v := (nI 1)) hx hy dX7_reach_55 (by decide) ?_
            refine lv_iload hx hy dX7_reach_56 (lv_at hl 0 rfl) ?_
            refine lv_ishl hx hy dX7_reach_58 ?_
            refine lv_goto (tgt := 63) hx hy dX7_reach_59 (by decide) ?_
            refine lv_ior hx hy dX7_reach_63 ?_
            refine lv_istore_n (lv' := [(3, .int ((rcN R c lo t) ||| ((nI 1) <<< ((nI t) &&& 31)))), (4, .int (nI t)), (0, .ref (V.1 rMod)), (1, .int (nI c)), (2, .int (nI lo))]) hx hy dX7_reach_64 rfl hl (by decide) rfl (fun ls hl => ?_)
            refine lv_iinc (v := (nI (t + 1))) (lv' := [(4, .int (nI (t + 1))), (3, .int ((rcN R c lo t) ||| ((nI 1) <<< ((nI t) &&& 31)))), (0, .ref (V.1 rMod)), (1, .int (nI c)), (2, .int (nI lo))]) hx hy dX7_reach_65 hl (k := 1) rfl (nI_1 _) (by decide) rfl (fun ls hl => ?_)
            refine lv_goto (tgt := 5) hx hy dX7_reach_68 (by decide) ?_
            exact ih_5 (t + 1) (by omega) _ _ h _ (by have hl := lv_sub hl [0, 1, 2, 3, 4] (l' := [(4, .int (nI (t + 1))), (3, .int ((rcN R c lo t) ||| ((nI 1) <<< ((nI t) &&& 31)))), (0, .ref (V.1 rMod)), (1, .int (nI c)), (2, .int (nI lo))]) rfl; rw [show (.int (nI (t + 1)) : Value) = .int (nI (t + 1)) from rfl] at hl; rw [show (.int ((rcN R c lo t) ||| ((nI 1) <<< ((nI t) &&& 31))) : Value) = .int (rcN R c lo (t + 1)) from by simp [rcN, eq_true c_13, eq_false (Nat.not_le.mpr c_13), eq_false c_29, eq_true c_52]] at hl; exact hl)
  exact L_5 (mn) 0 (by omega) _ _ h _ (by have hl := lv_sub hl [0, 1, 2, 3, 4] (l' := [(4, .int (nI 0)), (3, .int (nI 0)), (0, .ref (V.1 rMod)), (1, .int (nI c)), (2, .int (nI lo))]) rfl; rw [show (.int (nI 0) : Value) = .int (rcN R c lo 0) from rfl] at hl; exact hl)

set_option maxRecDepth 20000 in
theorem in_X7_reachU_X7 : ∀ x ∈ wsX70, x ∈ wsX7_reach := by decide +kernel
set_option maxRecDepth 100000 in
set_option maxHeartbeats 4000000 in
/-- the reference: reachU -/
theorem c_X7_reachU (l : Launch) {G : va_G} {V : wV} {rs : List Nat} (hr : bR rs) (M R : wM) (o : wO) (c : Nat) (hc : c < 2) (mn : Nat) (hm7 : mn ≤ 7) (hmn : R 101 c = nI mn) : CT l G V rs yX7_reach wsX7_reach 0 0 0 0 [.ref (V.1 rMod), .int (nI c), .int (-1)] (M, R, o) (fun v u => v = some (.int (rcU R c mn)) ∧ u = (M, R, o)) (fun _ _ => False) := by
  refine ct_of (cc := cX7_reach) (maxL := 5) (ret := (some .int)) (by decide) rfl (Nat.le_of_ble_eq_true rfl) ?_
  intro p e s m below meth cd ls C h X hT hl
  have hx := C.1
  have hy := C.2.1
  have hl : lv_has ls 5 [(0, .ref (V.1 rMod)), (1, .int (nI c)), (2, .int (-1))] := hl
  refine lv_iconst (v := (nI 0)) hx hy dX7_reach_0 (by decide) ?_
  refine lv_istore_n (lv' := [(3, .int (nI 0)), (0, .ref (V.1 rMod)), (1, .int (nI c)), (2, .int (-1))]) hx hy dX7_reach_1 rfl hl (by decide) rfl (fun ls hl => ?_)
  refine lv_iconst (v := (nI 0)) hx hy dX7_reach_2 (by decide) ?_
  refine lv_istore (lv' := [(4, .int (nI 0)), (3, .int (nI 0)), (0, .ref (V.1 rMod)), (1, .int (nI c)), (2, .int (-1))]) hx hy dX7_reach_3 hl (by decide) rfl (fun ls hl => ?_)
  have L_5 : ∀ (n_5 t : Nat), n_5 + t = mn → ∀ (H : Heap) (locs : List Loc), HH G V rs (M, R, o) s H locs → ∀ ls : Array Slot, lv_has ls 5 [(4, .int (nI t)), (3, .int (rcU R c t)), (0, .ref (V.1 rMod)), (1, .int (nI c)), (2, .int (-1))] → W p l e { frames := 0, cells := 0, slots := 0, locals := 0 } s m [.ref (V.1 rMod), .int (nI c), .int (-1)].toArray below meth cd H locs 0 0 (QM G V rs below [.ref (V.1 rMod), .int (nI c), .int (-1)].toArray s 0 0 (fun v u => v = some (.int (rcU R c mn)) ∧ u = (M, R, o)) (fun _ _ => False)) (F0 m 5 ls []) := by
    intro n_5
    induction n_5 with
    | zero =>
      intro t hk_5 H locs h ls hl
      have hz_5 : t = mn := by omega
      try rw [hz_5] at h
      try rw [hz_5] at hl
      refine lv_iload hx hy dX7_reach_5 (lv_at hl 0 rfl) ?_
      refine lv_aload_n hx hy dX7_reach_7 rfl (lv_at hl 2 rfl) ?_
      refine g_f C h (hr 100 (by decide)) (cel_hi (by decide)) celF_Mod rfl in_X7_reachU_X7 0 (by decide) (by decide +kernel) (v := .ref (V.1 101)) rfl dX7_reach_8 ?_
      refine lv_iload_n hx hy dX7_reach_11 rfl (lv_at hl 3 rfl) ?_
      refine g_i C h (hr 101 (by decide)) (n := 2) (k := c) (cel_hi (by decide)) (fun _ => rfl) (by omega) (by decide) (v := (nI mn)) (show R 101 c = (nI mn) from hmn) dX7_reach_12 ?_
      refine n_ge hx hy (by omega) (by omega) (tgt := 71) dX7_reach_13 (by decide) (fun c_13 => ?_) (fun c_13 => ?_)
      · skip
        refine lv_iload_n hx hy dX7_reach_71 rfl (lv_at hl 1 rfl) ?_
        exact e_int C h rfl dX7_reach_72 (⟨rfl, rfl⟩) (by decide) (by decide)
      · skip
        exact absurd c_13 (by omega)
    | succ n_5 ih_5 =>
      intro t hk_5 H locs h ls hl
      have hz_5 : t < mn := by omega
      refine lv_iload hx hy dX7_reach_5 (lv_at hl 0 rfl) ?_
      refine lv_aload_n hx hy dX7_reach_7 rfl (lv_at hl 2 rfl) ?_
      refine g_f C h (hr 100 (by decide)) (cel_hi (by decide)) celF_Mod rfl in_X7_reachU_X7 0 (by decide) (by decide +kernel) (v := .ref (V.1 101)) rfl dX7_reach_8 ?_
      refine lv_iload_n hx hy dX7_reach_11 rfl (lv_at hl 3 rfl) ?_
      refine g_i C h (hr 101 (by decide)) (n := 2) (k := c) (cel_hi (by decide)) (fun _ => rfl) (by omega) (by decide) (v := (nI mn)) (show R 101 c = (nI mn) from hmn) dX7_reach_12 ?_
      refine n_ge hx hy (by omega) (by omega) (tgt := 71) dX7_reach_13 (by decide) (fun c_13 => ?_) (fun c_13 => ?_)
      · skip
        exact absurd c_13 (by omega)
      · skip
        refine lv_iload_n hx hy dX7_reach_16 rfl (lv_at hl 1 rfl) ?_
        refine lv_aload_n hx hy dX7_reach_17 rfl (lv_at hl 2 rfl) ?_
        refine g_f C h (hr 100 (by decide)) (cel_hi (by decide)) celF_Mod rfl in_X7_reachU_X7 3 (by decide) (by decide +kernel) (v := .ref (V.1 104)) rfl dX7_reach_18 ?_
        refine lv_iload_n hx hy dX7_reach_21 rfl (lv_at hl 3 rfl) ?_
        refine lv_bipush (v := (nI 7)) hx hy dX7_reach_22 (by decide) ?_
        refine lv_imul hx hy dX7_reach_24 ?_
        refine lv_topn (pk_mul _ _) ?_
        refine lv_iload hx hy dX7_reach_25 (lv_at hl 0 rfl) ?_
        refine lv_iadd hx hy dX7_reach_27 ?_
        refine lv_topn (nI_add _ _) ?_
        refine g_z C h (hr 104 (by decide)) (n := 14) (k := ((c * 7) + t)) (cel_hi (by decide)) (fun _ => rfl) (by omega) (by decide) (v := (R 104 ((c * 7) + t))) rfl dX7_reach_28 ?_
        refine z_eq hx hy (tgt := 62) dX7_reach_29 (by decide) (fun c_29 => ?_) (fun c_29 => ?_)
        · skip
          refine lv_iconst (v := (nI 0)) hx hy dX7_reach_62 (by decide) ?_
          refine lv_ior hx hy dX7_reach_63 ?_
          refine lv_istore_n (lv' := [(3, .int ((rcU R c t) ||| (nI 0))), (4, .int (nI t)), (0, .ref (V.1 rMod)), (1, .int (nI c)), (2, .int (-1))]) hx hy dX7_reach_64 rfl hl (by decide) rfl (fun ls hl => ?_)
          refine lv_iinc (v := (nI (t + 1))) (lv' := [(4, .int (nI (t + 1))), (3, .int ((rcU R c t) ||| (nI 0))), (0, .ref (V.1 rMod)), (1, .int (nI c)), (2, .int (-1))]) hx hy dX7_reach_65 hl (k := 1) rfl (nI_1 _) (by decide) rfl (fun ls hl => ?_)
          refine lv_goto (tgt := 5) hx hy dX7_reach_68 (by decide) ?_
          exact ih_5 (t + 1) (by omega) _ _ h _ (by have hl := lv_sub hl [0, 1, 2, 3, 4] (l' := [(4, .int (nI (t + 1))), (3, .int ((rcU R c t) ||| (nI 0))), (0, .ref (V.1 rMod)), (1, .int (nI c)), (2, .int (-1))]) rfl; rw [show (.int (nI (t + 1)) : Value) = .int (nI (t + 1)) from rfl] at hl; rw [show (.int ((rcU R c t) ||| (nI 0)) : Value) = .int (rcU R c (t + 1)) from by simp [rcU, eq_true c_13, eq_false (Nat.not_le.mpr c_13), eq_true c_29]] at hl; exact hl)
        · skip
          refine lv_iload_n hx hy dX7_reach_32 rfl (lv_at hl 4 rfl) ?_
          refine z_lt hx hy (tgt := 55) dX7_reach_33 (by decide) (fun c_33 => ?_) (fun c_33 => ?_)
          · skip
            refine lv_iconst (v := (nI 1)) hx hy dX7_reach_55 (by decide) ?_
            refine lv_iload hx hy dX7_reach_56 (lv_at hl 0 rfl) ?_
            refine lv_ishl hx hy dX7_reach_58 ?_
            refine lv_goto (tgt := 63) hx hy dX7_reach_59 (by decide) ?_
            refine lv_ior hx hy dX7_reach_63 ?_
            refine lv_istore_n (lv' := [(3, .int ((rcU R c t) ||| ((nI 1) <<< ((nI t) &&& 31)))), (4, .int (nI t)), (0, .ref (V.1 rMod)), (1, .int (nI c)), (2, .int (-1))]) hx hy dX7_reach_64 rfl hl (by decide) rfl (fun ls hl => ?_)
            refine lv_iinc (v := (nI (t + 1))) (lv' := [(4, .int (nI (t + 1))), (3, .int ((rcU R c t) ||| ((nI 1) <<< ((nI t) &&& 31)))), (0, .ref (V.1 rMod)), (1, .int (nI c)), (2, .int (-1))]) hx hy dX7_reach_65 hl (k := 1) rfl (nI_1 _) (by decide) rfl (fun ls hl => ?_)
            refine lv_goto (tgt := 5) hx hy dX7_reach_68 (by decide) ?_
            exact ih_5 (t + 1) (by omega) _ _ h _ (by have hl := lv_sub hl [0, 1, 2, 3, 4] (l' := [(4, .int (nI (t + 1))), (3, .int ((rcU R c t) ||| ((nI 1) <<< ((nI t) &&& 31)))), (0, .ref (V.1 rMod)), (1, .int (nI c)), (2, .int (-1))]) rfl; rw [show (.int (nI (t + 1)) : Value) = .int (nI (t + 1)) from rfl] at hl; rw [show (.int ((rcU R c t) ||| ((nI 1) <<< ((nI t) &&& 31))) : Value) = .int (rcU R c (t + 1)) from by simp [rcU, eq_true c_13, eq_false (Nat.not_le.mpr c_13), eq_false c_29, eq_true c_33, eq_false (Int32.not_le.mpr c_33)]] at hl; exact hl)
          · skip
            exact absurd c_33 (by decide)
  exact L_5 (mn) 0 (by omega) _ _ h _ (by have hl := lv_sub hl [0, 1, 2, 3, 4] (l' := [(4, .int (nI 0)), (3, .int (nI 0)), (0, .ref (V.1 rMod)), (1, .int (nI c)), (2, .int (-1))]) rfl; rw [show (.int (nI 0) : Value) = .int (rcU R c 0) from rfl] at hl; exact hl)

set_option maxRecDepth 20000 in
theorem in_X7_quorum_X7 : ∀ x ∈ wsX70, x ∈ wsX7_quorum := by decide +kernel
set_option maxRecDepth 100000 in
set_option maxHeartbeats 4000000 in
/-- the reference: quorum -/
theorem c_X7_quorum (l : Launch) {G : va_G} {V : wV} {rs : List Nat} (hr : bR rs) (M R : wM) (o : wO) (c : Nat) (hc : c < 2) (x : Int32) : CT l G V rs yX7_quorum wsX7_quorum 1 22 0 0 [.ref (V.1 rMod), .int (nI c), .int x] (M, R, o) (fun v u => v = some (.int (b2i (mQ R c x))) ∧ u = (M, R, o)) (fun _ _ => False) := by
  refine ct_of (cc := cX7_quorum) (maxL := 3) (ret := (some .boolean)) (by decide) rfl (Nat.le_of_ble_eq_true rfl) ?_
  intro p e s m below meth cd ls C h X hT hl
  have hx := C.1
  have hy := C.2.1
  have hl : lv_has ls 3 [(0, .ref (V.1 rMod)), (1, .int (nI c)), (2, .int x)] := hl
  refine lv_iconst (v := (nI 2)) hx hy dX7_quorum_0 (by decide) ?_
  refine lv_iload_n hx hy dX7_quorum_1 rfl (lv_at hl 2 rfl) ?_
  refine n_go0 C h (n_S (As := [.int x]) (rest := [.int (nI 2)]) C h X (c_X7_ones l M R o x) (va_cwS 1 C.2.2.2.2.1 gX7_quorum_X7_ones rfl rfl rfl (by decide +kernel) ⟨Nat.le_of_ble_eq_true rfl, Nat.le_of_ble_eq_true rfl⟩) rfl hl.1 rfl (Nat.le_of_ble_eq_true rfl) dX7_quorum_2 ⟨by decide, by decide⟩) (fun _ _ z => z) (fun v_2 u_2 H locs hpo h => ?_)
  obtain ⟨rfl, rfl⟩ := hpo
  refine lv_imul hx hy dX7_quorum_5 ?_
  refine lv_aload_n hx hy dX7_quorum_6 rfl (lv_at hl 0 rfl) ?_
  refine g_f C h (hr 100 (by decide)) (cel_hi (by decide)) celF_Mod rfl in_X7_quorum_X7 0 (by decide) (by decide +kernel) (v := .ref (V.1 101)) rfl dX7_quorum_7 ?_
  refine lv_iload_n hx hy dX7_quorum_10 rfl (lv_at hl 1 rfl) ?_
  refine g_i C h (hr 101 (by decide)) (n := 2) (k := c) (cel_hi (by decide)) (fun _ => rfl) (by omega) (by decide) (v := (R 101 c)) rfl dX7_quorum_11 ?_
  refine i_le hx hy (tgt := 19) dX7_quorum_12 (by decide) (fun c_12 => ?_) (fun c_12 => ?_)
  · skip
    refine lv_iconst (v := (nI 0)) hx hy dX7_quorum_19 (by decide) ?_
    exact e_int C h (by decide) dX7_quorum_20 (⟨by simp [mQ, b2i, eq_true c_12, eq_false (Int32.not_lt.mpr c_12)], rfl⟩) (by decide) (by decide)
  · skip
    refine lv_iconst (v := (nI 1)) hx hy dX7_quorum_15 (by decide) ?_
    refine lv_goto (tgt := 20) hx hy dX7_quorum_16 (by decide) ?_
    exact e_int C h (by decide) dX7_quorum_20 (⟨by simp [mQ, b2i, eq_true c_12, eq_false (Int32.not_le.mpr c_12)], rfl⟩) (by decide) (by decide)

set_option maxRecDepth 20000 in
theorem in_X7_rests_X7 : ∀ x ∈ wsX70, x ∈ wsX7_rests := by decide +kernel
set_option maxRecDepth 100000 in
set_option maxHeartbeats 4000000 in
/-- the reference: rests -/
theorem c_X7_rests (l : Launch) {G : va_G} {V : wV} {rs : List Nat} (hr : bR rs) (M R : wM) (o : wO) (c : Nat) (hc : c < 2) (t : Nat) (ht : t < 7) : CT l G V rs yX7_rests wsX7_rests 0 0 0 0 [.ref (V.1 rMod), .int (nI c), .int (nI t)] (M, R, o) (fun v u => v = some (.int (b2i (mRest R c t))) ∧ u = (M, R, o)) (fun _ _ => False) := by
  refine ct_of (cc := cX7_rests) (maxL := 3) (ret := (some .boolean)) (by decide) rfl (Nat.le_of_ble_eq_true rfl) ?_
  intro p e s m below meth cd ls C h X hT hl
  have hx := C.1
  have hy := C.2.1
  have hl : lv_has ls 3 [(0, .ref (V.1 rMod)), (1, .int (nI c)), (2, .int (nI t))] := hl
  refine lv_aload_n hx hy dX7_rests_0 rfl (lv_at hl 0 rfl) ?_
  refine g_f C h (hr 100 (by decide)) (cel_hi (by decide)) celF_Mod rfl in_X7_rests_X7 4 (by decide) (by decide +kernel) (v := .ref (V.1 105)) rfl dX7_rests_1 ?_
  refine lv_iload_n hx hy dX7_rests_4 rfl (lv_at hl 1 rfl) ?_
  refine lv_bipush (v := (nI 7)) hx hy dX7_rests_5 (by decide) ?_
  refine lv_imul hx hy dX7_rests_7 ?_
  refine lv_topn (pk_mul _ _) ?_
  refine lv_iload_n hx hy dX7_rests_8 rfl (lv_at hl 2 rfl) ?_
  refine lv_iadd hx hy dX7_rests_9 ?_
  refine lv_topn (nI_add _ _) ?_
  refine g_z C h (hr 105 (by decide)) (n := 14) (k := ((c * 7) + t)) (cel_hi (by decide)) (fun _ => rfl) (by omega) (by decide) (v := (R 105 ((c * 7) + t))) rfl dX7_rests_10 ?_
  refine z_eq hx hy (tgt := 39) dX7_rests_11 (by decide) (fun c_11 => ?_) (fun c_11 => ?_)
  · skip
    refine lv_iconst (v := (nI 0)) hx hy dX7_rests_39 (by decide) ?_
    exact e_int C h (by decide) dX7_rests_40 (⟨by simp [mRest, b2i, eq_true c_11], rfl⟩) (by decide) (by decide)
  · skip
    refine lv_aload_n hx hy dX7_rests_14 rfl (lv_at hl 0 rfl) ?_
    refine g_f C h (hr 100 (by decide)) (cel_hi (by decide)) celF_Mod rfl in_X7_rests_X7 18 (by decide) (by decide +kernel) (v := .int (R rMod 18)) rfl dX7_rests_15 ?_
    refine lv_aload_n hx hy dX7_rests_18 rfl (lv_at hl 0 rfl) ?_
    refine g_f C h (hr 100 (by decide)) (cel_hi (by decide)) celF_Mod rfl in_X7_rests_X7 5 (by decide) (by decide +kernel) (v := .ref (V.1 106)) rfl dX7_rests_19 ?_
    refine lv_iload_n hx hy dX7_rests_22 rfl (lv_at hl 1 rfl) ?_
    refine lv_bipush (v := (nI 7)) hx hy dX7_rests_23 (by decide) ?_
    refine lv_imul hx hy dX7_rests_25 ?_
    refine lv_topn (pk_mul _ _) ?_
    refine lv_iload_n hx hy dX7_rests_26 rfl (lv_at hl 2 rfl) ?_
    refine lv_iadd hx hy dX7_rests_27 ?_
    refine lv_topn (nI_add _ _) ?_
    refine g_i C h (hr 106 (by decide)) (n := 14) (k := ((c * 7) + t)) (cel_hi (by decide)) (fun _ => rfl) (by omega) (by decide) (v := (R 106 ((c * 7) + t))) rfl dX7_rests_28 ?_
    refine lv_bipush (v := (nI 20)) hx hy dX7_rests_29 (by decide) ?_
    refine lv_iadd hx hy dX7_rests_31 ?_
    refine i_ge hx hy (tgt := 39) dX7_rests_32 (by decide) (fun c_32 => ?_) (fun c_32 => ?_)
    · skip
      refine lv_iconst (v := (nI 0)) hx hy dX7_rests_39 (by decide) ?_
      exact e_int C h (by decide) dX7_rests_40 (⟨by simp [mRest, b2i, eq_false c_11, eq_true c_32, eq_false (Int32.not_lt.mpr c_32)], rfl⟩) (by decide) (by decide)
    · skip
      refine lv_iconst (v := (nI 1)) hx hy dX7_rests_35 (by decide) ?_
      refine lv_goto (tgt := 40) hx hy dX7_rests_36 (by decide) ?_
      exact e_int C h (by decide) dX7_rests_40 (⟨by simp [mRest, b2i, eq_false c_11, eq_true c_32, eq_false (Int32.not_le.mpr c_32)], rfl⟩) (by decide) (by decide)

set_option maxRecDepth 20000 in
theorem in_X7_votes_X7 : ∀ x ∈ wsX70, x ∈ wsX7_votes := by decide +kernel
set_option maxRecDepth 100000 in
set_option maxHeartbeats 4000000 in
/-- the reference: votes -/
theorem c_X7_votes (l : Launch) {G : va_G} {V : wV} {rs : List Nat} (hr : bR rs) (M R : wM) (o : wO) (c : Nat) (hc : c < 2) (t : Nat) (ht : t < 7) (g : Nat) (hg : g < 3) : CT l G V rs yX7_votes wsX7_votes 0 0 0 0 [.ref (V.1 rMod), .int (nI c), .int (nI t), .int (nI g)] (M, R, o) (fun v u => v = some (.int (b2i (mVote R c t g))) ∧ u = (M, R, o)) (fun _ _ => False) := by
  refine ct_of (cc := cX7_votes) (maxL := 4) (ret := (some .boolean)) (by decide) rfl (Nat.le_of_ble_eq_true rfl) ?_
  intro p e s m below meth cd ls C h X hT hl
  have hx := C.1
  have hy := C.2.1
  have hl : lv_has ls 4 [(0, .ref (V.1 rMod)), (1, .int (nI c)), (2, .int (nI t)), (3, .int (nI g))] := hl
  refine lv_aload_n hx hy dX7_votes_0 rfl (lv_at hl 0 rfl) ?_
  refine g_f C h (hr 100 (by decide)) (cel_hi (by decide)) celF_Mod rfl in_X7_votes_X7 8 (by decide) (by decide +kernel) (v := .ref (V.1 109)) rfl dX7_votes_1 ?_
  refine lv_iload_n hx hy dX7_votes_4 rfl (lv_at hl 1 rfl) ?_
  refine lv_bipush (v := (nI 7)) hx hy dX7_votes_5 (by decide) ?_
  refine lv_imul hx hy dX7_votes_7 ?_
  refine lv_topn (pk_mul _ _) ?_
  refine lv_iload_n hx hy dX7_votes_8 rfl (lv_at hl 2 rfl) ?_
  refine lv_iadd hx hy dX7_votes_9 ?_
  refine lv_topn (nI_add _ _) ?_
  refine lv_iconst (v := (nI 3)) hx hy dX7_votes_10 (by decide) ?_
  refine lv_imul hx hy dX7_votes_11 ?_
  refine lv_topn (pk_mul _ _) ?_
  refine lv_iload_n hx hy dX7_votes_12 rfl (lv_at hl 3 rfl) ?_
  refine lv_iadd hx hy dX7_votes_13 ?_
  refine lv_topn (nI_add _ _) ?_
  refine g_i C h (hr 109 (by decide)) (n := 42) (k := ((((c * 7) + t) * 3) + g)) (cel_hi (by decide)) (fun _ => rfl) (by omega) (by decide) (v := (R 109 ((((c * 7) + t) * 3) + g))) rfl dX7_votes_14 ?_
  refine lv_aload_n hx hy dX7_votes_15 rfl (lv_at hl 0 rfl) ?_
  refine g_f C h (hr 100 (by decide)) (cel_hi (by decide)) celF_Mod rfl in_X7_votes_X7 18 (by decide) (by decide +kernel) (v := .int (R rMod 18)) rfl dX7_votes_16 ?_
  refine i_le hx hy (tgt := 26) dX7_votes_19 (by decide) (fun c_19 => ?_) (fun c_19 => ?_)
  · skip
    refine lv_iconst (v := (nI 0)) hx hy dX7_votes_26 (by decide) ?_
    exact e_int C h (by decide) dX7_votes_27 (⟨by simp [mVote, b2i, eq_true c_19, eq_false (Int32.not_lt.mpr c_19)], rfl⟩) (by decide) (by decide)
  · skip
    refine lv_iconst (v := (nI 1)) hx hy dX7_votes_22 (by decide) ?_
    refine lv_goto (tgt := 27) hx hy dX7_votes_23 (by decide) ?_
    exact e_int C h (by decide) dX7_votes_27 (⟨by simp [mVote, b2i, eq_true c_19, eq_false (Int32.not_le.mpr c_19)], rfl⟩) (by decide) (by decide)

set_option maxRecDepth 20000 in
theorem in_X7_opens_X7 : ∀ x ∈ wsX70, x ∈ wsX7_opens := by decide +kernel
set_option maxRecDepth 100000 in
set_option maxHeartbeats 4000000 in
/-- the reference: opens -/
theorem c_X7_opens (l : Launch) {G : va_G} {V : wV} {rs : List Nat} (hr : bR rs) (M R : wM) (o : wO) (c : Nat) (hc : c < 2) (g : Nat) (hg : g < 3) (lo : Nat) (hlo : lo < 4) : CT l G V rs yX7_opens wsX7_opens 0 0 0 0 [.ref (V.1 rMod), .int (nI c), .int (nI g), .int (nI lo)] (M, R, o) (fun v u => v = some (.int (b2i (mOpen R c g lo))) ∧ u = (M, R, o)) (fun _ _ => False) := by
  refine ct_of (cc := cX7_opens) (maxL := 4) (ret := (some .boolean)) (by decide) rfl (Nat.le_of_ble_eq_true rfl) ?_
  intro p e s m below meth cd ls C h X hT hl
  have hx := C.1
  have hy := C.2.1
  have hl : lv_has ls 4 [(0, .ref (V.1 rMod)), (1, .int (nI c)), (2, .int (nI g)), (3, .int (nI lo))] := hl
  refine lv_aload_n hx hy dX7_opens_0 rfl (lv_at hl 0 rfl) ?_
  refine g_f C h (hr 100 (by decide)) (cel_hi (by decide)) celF_Mod rfl in_X7_opens_X7 9 (by decide) (by decide +kernel) (v := .ref (V.1 110)) rfl dX7_opens_1 ?_
  refine lv_iload_n hx hy dX7_opens_4 rfl (lv_at hl 1 rfl) ?_
  refine lv_iconst (v := (nI 4)) hx hy dX7_opens_5 (by decide) ?_
  refine lv_imul hx hy dX7_opens_6 ?_
  refine lv_topn (pk_mul _ _) ?_
  refine lv_iload_n hx hy dX7_opens_7 rfl (lv_at hl 3 rfl) ?_
  refine lv_iadd hx hy dX7_opens_8 ?_
  refine lv_topn (nI_add _ _) ?_
  refine lv_iconst (v := (nI 3)) hx hy dX7_opens_9 (by decide) ?_
  refine lv_imul hx hy dX7_opens_10 ?_
  refine lv_topn (pk_mul _ _) ?_
  refine lv_iload_n hx hy dX7_opens_11 rfl (lv_at hl 2 rfl) ?_
  refine lv_iadd hx hy dX7_opens_12 ?_
  refine lv_topn (nI_add _ _) ?_
  refine g_i C h (hr 110 (by decide)) (n := 24) (k := ((((c * 4) + lo) * 3) + g)) (cel_hi (by decide)) (fun _ => rfl) (by omega) (by decide) (v := (R 110 ((((c * 4) + lo) * 3) + g))) rfl dX7_opens_13 ?_
  refine lv_aload_n hx hy dX7_opens_14 rfl (lv_at hl 0 rfl) ?_
  refine g_f C h (hr 100 (by decide)) (cel_hi (by decide)) celF_Mod rfl in_X7_opens_X7 18 (by decide) (by decide +kernel) (v := .int (R rMod 18)) rfl dX7_opens_15 ?_
  refine i_le hx hy (tgt := 25) dX7_opens_18 (by decide) (fun c_18 => ?_) (fun c_18 => ?_)
  · skip
    refine lv_iconst (v := (nI 0)) hx hy dX7_opens_25 (by decide) ?_
    exact e_int C h (by decide) dX7_opens_26 (⟨by simp [mOpen, b2i, eq_true c_18, eq_false (Int32.not_lt.mpr c_18)], rfl⟩) (by decide) (by decide)
  · skip
    refine lv_iconst (v := (nI 1)) hx hy dX7_opens_21 (by decide) ?_
    refine lv_goto (tgt := 26) hx hy dX7_opens_22 (by decide) ?_
    exact e_int C h (by decide) dX7_opens_26 (⟨by simp [mOpen, b2i, eq_true c_18, eq_false (Int32.not_le.mpr c_18)], rfl⟩) (by decide) (by decide)

set_option maxRecDepth 20000 in
theorem in_X7_commits_X7 : ∀ x ∈ wsX70, x ∈ wsX7_commits := by decide +kernel
set_option maxRecDepth 100000 in
set_option maxHeartbeats 4000000 in
/-- the reference: commits -/
theorem c_X7_commits (l : Launch) {G : va_G} {V : wV} {rs : List Nat} (hr : bR rs) (M R : wM) (o : wO) (c : Nat) (hc : c < 2) (w : Nat) (hw6 : w ≤ 60) (hw : R 103 c = nI w) : CT l G V rs yX7_commits wsX7_commits 2 44 0 0 [.ref (V.1 rMod), .int (nI c)] (M, R, o) (fun v u => v = none ∧ u = (M, cmN R c w, o)) (fun _ _ => False) := by
  refine ct_of (cc := cX7_commits) (maxL := 3) (ret := none) (by decide) rfl (Nat.le_of_ble_eq_true rfl) ?_
  intro p e s m below meth cd ls C h X hT hl
  have hx := C.1
  have hy := C.2.1
  have hl : lv_has ls 3 [(0, .ref (V.1 rMod)), (1, .int (nI c))] := hl
  refine lv_iconst (v := (nI 0)) hx hy dX7_commits_0 (by decide) ?_
  refine lv_istore_n (lv' := [(2, .int (nI 0)), (0, .ref (V.1 rMod)), (1, .int (nI c))]) hx hy dX7_commits_1 rfl hl (by decide) rfl (fun ls hl => ?_)
  have L_2 : ∀ (n_2 k : Nat), n_2 + k = w → ∀ (H : Heap) (locs : List Loc), HH G V rs (M, cmN R c k, o) s H locs → ∀ ls : Array Slot, lv_has ls 3 [(2, .int (nI k)), (0, .ref (V.1 rMod)), (1, .int (nI c))] → W p l e { frames := 2, cells := 0, slots := 0, locals := 44 } s m [.ref (V.1 rMod), .int (nI c)].toArray below meth cd H locs 0 0 (QM G V rs below [.ref (V.1 rMod), .int (nI c)].toArray s 0 0 (fun v u => v = none ∧ u = (M, cmN R c w, o)) (fun _ _ => False)) (F0 m 2 ls []) := by
    intro n_2
    induction n_2 with
    | zero =>
      intro k hk_2 H locs h ls hl
      have hz_2 : k = w := by omega
      try rw [hz_2] at h
      try rw [hz_2] at hl
      refine lv_iload_n hx hy dX7_commits_2 rfl (lv_at hl 0 rfl) ?_
      refine lv_aload_n hx hy dX7_commits_3 rfl (lv_at hl 1 rfl) ?_
      refine g_f C h (hr 100 (by decide)) (cel_hi (by decide)) celF_Mod rfl in_X7_commits_X7 2 (by decide) (by decide +kernel) (v := .ref (V.1 103)) rfl dX7_commits_4 ?_
      refine lv_iload_n hx hy dX7_commits_7 rfl (lv_at hl 2 rfl) ?_
      refine g_i C h (hr 103 (by decide)) (n := 2) (k := c) (cel_hi (by decide)) (fun _ => rfl) (by omega) (by decide) (v := (nI w)) (show (cmN R c w) 103 c = (nI w) from ((congrFun (cmN_ne (by decide)) _).trans hw)) dX7_commits_8 ?_
      refine n_ge hx hy (by omega) (by omega) (tgt := 67) dX7_commits_9 (by decide) (fun c_9 => ?_) (fun c_9 => ?_)
      · skip
        exact e_void C h dX7_commits_67 (⟨rfl, rfl⟩) (by decide) (by decide)
      · skip
        exact absurd c_9 (by omega)
    | succ n_2 ih_2 =>
      intro k hk_2 H locs h ls hl
      have hz_2 : k < w := by omega
      refine lv_iload_n hx hy dX7_commits_2 rfl (lv_at hl 0 rfl) ?_
      refine lv_aload_n hx hy dX7_commits_3 rfl (lv_at hl 1 rfl) ?_
      refine g_f C h (hr 100 (by decide)) (cel_hi (by decide)) celF_Mod rfl in_X7_commits_X7 2 (by decide) (by decide +kernel) (v := .ref (V.1 103)) rfl dX7_commits_4 ?_
      refine lv_iload_n hx hy dX7_commits_7 rfl (lv_at hl 2 rfl) ?_
      refine g_i C h (hr 103 (by decide)) (n := 2) (k := c) (cel_hi (by decide)) (fun _ => rfl) (by omega) (by decide) (v := (nI w)) (show (cmN R c k) 103 c = (nI w) from ((congrFun (cmN_ne (by decide)) _).trans hw)) dX7_commits_8 ?_
      refine n_ge hx hy (by omega) (by omega) (tgt := 67) dX7_commits_9 (by decide) (fun c_9 => ?_) (fun c_9 => ?_)
      · skip
        exact absurd c_9 (by omega)
      · skip
        refine lv_aload_n hx hy dX7_commits_12 rfl (lv_at hl 1 rfl) ?_
        refine g_f C h (hr 100 (by decide)) (cel_hi (by decide)) celF_Mod rfl in_X7_commits_X7 15 (by decide) (by decide +kernel) (v := .ref (V.1 116)) rfl dX7_commits_13 ?_
        refine lv_iload_n hx hy dX7_commits_16 rfl (lv_at hl 2 rfl) ?_
        refine lv_bipush (v := (nI 60)) hx hy dX7_commits_17 (by decide) ?_
        refine lv_imul hx hy dX7_commits_19 ?_
        refine lv_topn (pk_mul _ _) ?_
        refine lv_iload_n hx hy dX7_commits_20 rfl (lv_at hl 0 rfl) ?_
        refine lv_iadd hx hy dX7_commits_21 ?_
        refine lv_topn (nI_add _ _) ?_
        refine lv_aload_n hx hy dX7_commits_22 rfl (lv_at hl 1 rfl) ?_
        refine g_f C h (hr 100 (by decide)) (cel_hi (by decide)) celF_Mod rfl in_X7_commits_X7 15 (by decide) (by decide +kernel) (v := .ref (V.1 116)) rfl dX7_commits_23 ?_
        refine lv_iload_n hx hy dX7_commits_26 rfl (lv_at hl 2 rfl) ?_
        refine lv_bipush (v := (nI 60)) hx hy dX7_commits_27 (by decide) ?_
        refine lv_imul hx hy dX7_commits_29 ?_
        refine lv_topn (pk_mul _ _) ?_
        refine lv_iload_n hx hy dX7_commits_30 rfl (lv_at hl 0 rfl) ?_
        refine lv_iadd hx hy dX7_commits_31 ?_
        refine lv_topn (nI_add _ _) ?_
        refine g_z C h (hr 116 (by decide)) (n := 120) (k := ((c * 60) + k)) (cel_hi (by decide)) (fun _ => rfl) (by omega) (by decide) (v := ((cmN R c k) 116 ((c * 60) + k))) rfl dX7_commits_32 ?_
        refine z_ne hx hy (tgt := 55) dX7_commits_33 (by decide) (fun c_33 => ?_) (fun c_33 => ?_)
        · skip
          refine lv_iconst (v := (nI 1)) hx hy dX7_commits_55 (by decide) ?_
          refine lv_goto (tgt := 60) hx hy dX7_commits_56 (by decide) ?_
          refine s_zR C h (hr 116 (by decide)) (by decide) (n := 120) (k := ((c * 60) + k)) (fun _ => rfl) (by omega) (by decide) (x := (nI 1)) (by decide) dX7_commits_60 (fun H locs h => ?_)
          refine lv_iinc (v := (nI (k + 1))) (lv' := [(2, .int (nI (k + 1))), (0, .ref (V.1 rMod)), (1, .int (nI c))]) hx hy dX7_commits_61 hl (k := 0) rfl (nI_1 _) (by decide) rfl (fun ls hl => ?_)
          refine lv_goto (tgt := 2) hx hy dX7_commits_64 (by decide) ?_
          exact ih_2 (k + 1) (by omega) _ _ (by rw [show ((M, cmN R c (k + 1), o) : wW) = (M, wr (cmN R c k) 116 ((c * 60) + k) (nI 1), o) from by simp [cmN, b2i, eq_true c_9, eq_false (Nat.not_le.mpr c_9), eq_false c_33]]; exact h) _ (by have hl := lv_sub hl [0, 1, 2] (l' := [(2, .int (nI (k + 1))), (0, .ref (V.1 rMod)), (1, .int (nI c))]) rfl; rw [show (.int (nI (k + 1)) : Value) = .int (nI (k + 1)) from rfl] at hl; exact hl)
        · skip
          refine lv_aload_n hx hy dX7_commits_36 rfl (lv_at hl 1 rfl) ?_
          refine lv_iload_n hx hy dX7_commits_37 rfl (lv_at hl 2 rfl) ?_
          refine lv_aload_n hx hy dX7_commits_38 rfl (lv_at hl 1 rfl) ?_
          refine g_f C h (hr 100 (by decide)) (cel_hi (by decide)) celF_Mod rfl in_X7_commits_X7 14 (by decide) (by decide +kernel) (v := .ref (V.1 115)) rfl dX7_commits_39 ?_
          refine lv_iload_n hx hy dX7_commits_42 rfl (lv_at hl 2 rfl) ?_
          refine lv_bipush (v := (nI 60)) hx hy dX7_commits_43 (by decide) ?_
          refine lv_imul hx hy dX7_commits_45 ?_
          refine lv_topn (pk_mul _ _) ?_
          refine lv_iload_n hx hy dX7_commits_46 rfl (lv_at hl 0 rfl) ?_
          refine lv_iadd hx hy dX7_commits_47 ?_
          refine lv_topn (nI_add _ _) ?_
          refine g_i C h (hr 115 (by decide)) (n := 120) (k := ((c * 60) + k)) (cel_hi (by decide)) (fun _ => rfl) (by omega) (by decide) (v := (R 115 ((c * 60) + k))) (show (cmN R c k) 115 ((c * 60) + k) = (R 115 ((c * 60) + k)) from (congrFun (cmN_ne (by decide)) _)) dX7_commits_48 ?_
          refine n_go0 C h (n_V (As := [.int (nI c), .int (R 115 ((c * 60) + k))]) (rest := [.int (nI ((c * 60) + k)), .ref (V.1 116)]) C h X (hr 100 (by decide)) ((cel_hi (by decide)).trans (celF_Mod _)) rfl (c_X7_quorum l hr M (cmN R c k) o c hc (R 115 ((c * 60) + k))) (cwV 2 C.2.2.2.2.1 gX7_commits_X7_quorum rfl rfl rfl (by decide +kernel) ⟨Nat.le_of_ble_eq_true rfl, Nat.le_of_ble_eq_true rfl⟩) rfl hl.1 rfl (Nat.le_of_ble_eq_true rfl) dX7_commits_49 ⟨by decide, by decide⟩) (fun _ _ z => z) (fun v_49 u_49 H locs hpo h => ?_)
          obtain ⟨rfl, rfl⟩ := hpo
          refine b_eq hx hy (tgt := 59) dX7_commits_52 (by decide) (fun c_52 => ?_) (fun c_52 => ?_)
          · skip
            refine lv_iconst (v := (nI 0)) hx hy dX7_commits_59 (by decide) ?_
            refine s_zR C h (hr 116 (by decide)) (by decide) (n := 120) (k := ((c * 60) + k)) (fun _ => rfl) (by omega) (by decide) (x := (nI 0)) (by decide) dX7_commits_60 (fun H locs h => ?_)
            refine lv_iinc (v := (nI (k + 1))) (lv' := [(2, .int (nI (k + 1))), (0, .ref (V.1 rMod)), (1, .int (nI c))]) hx hy dX7_commits_61 hl (k := 0) rfl (nI_1 _) (by decide) rfl (fun ls hl => ?_)
            refine lv_goto (tgt := 2) hx hy dX7_commits_64 (by decide) ?_
            exact ih_2 (k + 1) (by omega) _ _ (by rw [show ((M, cmN R c (k + 1), o) : wW) = (M, wr (cmN R c k) 116 ((c * 60) + k) (nI 0), o) from by have h9 := c_52; rw [mQ_cm] at h9; simp [cmN, b2i, h9, eq_true c_9, eq_false (Nat.not_le.mpr c_9), eq_true c_33, c_52]]; exact h) _ (by have hl := lv_sub hl [0, 1, 2] (l' := [(2, .int (nI (k + 1))), (0, .ref (V.1 rMod)), (1, .int (nI c))]) rfl; rw [show (.int (nI (k + 1)) : Value) = .int (nI (k + 1)) from rfl] at hl; exact hl)
          · skip
            refine lv_iconst (v := (nI 1)) hx hy dX7_commits_55 (by decide) ?_
            refine lv_goto (tgt := 60) hx hy dX7_commits_56 (by decide) ?_
            refine s_zR C h (hr 116 (by decide)) (by decide) (n := 120) (k := ((c * 60) + k)) (fun _ => rfl) (by omega) (by decide) (x := (nI 1)) (by decide) dX7_commits_60 (fun H locs h => ?_)
            refine lv_iinc (v := (nI (k + 1))) (lv' := [(2, .int (nI (k + 1))), (0, .ref (V.1 rMod)), (1, .int (nI c))]) hx hy dX7_commits_61 hl (k := 0) rfl (nI_1 _) (by decide) rfl (fun ls hl => ?_)
            refine lv_goto (tgt := 2) hx hy dX7_commits_64 (by decide) ?_
            exact ih_2 (k + 1) (by omega) _ _ (by rw [show ((M, cmN R c (k + 1), o) : wW) = (M, wr (cmN R c k) 116 ((c * 60) + k) (nI 1), o) from by have h9 := c_52; rw [mQ_cm] at h9; simp [cmN, b2i, h9, eq_true c_9, eq_false (Nat.not_le.mpr c_9), eq_true c_33, c_52]]; exact h) _ (by have hl := lv_sub hl [0, 1, 2] (l' := [(2, .int (nI (k + 1))), (0, .ref (V.1 rMod)), (1, .int (nI c))]) rfl; rw [show (.int (nI (k + 1)) : Value) = .int (nI (k + 1)) from rfl] at hl; exact hl)
  exact L_2 (w) 0 (by omega) _ _ (by rw [show (M, cmN R c 0, o) = (M, R, o) from rfl]; exact h) _ (lv_sub hl [0, 1, 2] rfl)

