set_option maxRecDepth 20000 in
theorem at_X6_requireCastle_9 : ∀ w ∈ (vx_atS RX6 342 "java/lang/IndexOutOfBoundsException" ["java/lang/RuntimeException", "java/lang/Exception"]).filter goodWord, w ∈ wsX6_requireCastle := by decide +kernel
set_option maxRecDepth 100000 in
set_option maxHeartbeats 4000000 in
/-- X6_requireCastle -/
theorem c_X6_requireCastle (l : Launch) {G : va_G} {V : wV} {rs : List Nat} (hl9 : l.stackTraces = false) (M R : wM) (o : wO) (x : Int32) : CT l G V rs yX6_requireCastle wsX6_requireCastle 6 90 1 6 [.int x] (M, R, o) (fun v u => u = (M, R, o) ∧ v = none ∧ ∃ c, c < 2 ∧ x = nI c) (fun E u => E = eIOE ∧ vIn x 2 = false ∧ u = (M, R, o)) := by
  refine ct_of (cc := cX6_requireCastle) (maxL := 1) (ret := none) (by decide) rfl (Nat.le_of_ble_eq_true rfl) ?_
  intro p e s m below meth cd ls C h X hT hl
  have hx := C.1
  have hy := C.2.1
  have hl : lv_has ls 1 [(0, .int x)] := hl
  refine lv_iload_n hx hy dX6_requireCastle_0 rfl (lv_at hl 0 rfl) ?_
  refine z_lt hx hy (tgt := 9) dX6_requireCastle_1 (by decide) (fun c_1 => ?_) (fun c_1 => ?_)
  · skip
    exact t_wide (ic := 342) (ik := 338) (is := 340) (cls := "java/lang/IndexOutOfBoundsException") (text := tx_340) C h X hT hl9 (by decide) (by decide) (by decide) hl.1 (by decide +kernel) (by decide +kernel) at_X6_requireCastle_9 bad_IOE good_IOE_338 dX6_requireCastle_9 dX6_requireCastle_12 dX6_requireCastle_13 dX6_requireCastle_16 dX6_requireCastle_19 (by decide) (by decide) (by decide) (by decide) (by decide) (by decide) (⟨rfl, by simp [vIn, eq_true c_1, eq_false (Int32.not_le.mpr c_1)], rfl⟩)
  · skip
    refine lv_iload_n hx hy dX6_requireCastle_4 rfl (lv_at hl 0 rfl) ?_
    refine lv_iconst (v := (nI 2)) hx hy dX6_requireCastle_5 (by decide) ?_
    refine i_lt hx hy (tgt := 20) dX6_requireCastle_6 (by decide) (fun c_6 => ?_) (fun c_6 => ?_)
    · skip
      exact e_void C h dX6_requireCastle_20 (⟨rfl, rfl, vIn_ok c_1 c_6 (by decide)⟩) (by decide) (by decide)
    · skip
      exact t_wide (ic := 342) (ik := 338) (is := 340) (cls := "java/lang/IndexOutOfBoundsException") (text := tx_340) C h X hT hl9 (by decide) (by decide) (by decide) hl.1 (by decide +kernel) (by decide +kernel) at_X6_requireCastle_9 bad_IOE good_IOE_338 dX6_requireCastle_9 dX6_requireCastle_12 dX6_requireCastle_13 dX6_requireCastle_16 dX6_requireCastle_19 (by decide) (by decide) (by decide) (by decide) (by decide) (by decide) (⟨rfl, by simp [vIn, eq_true c_1, eq_false (Int32.not_lt.mpr c_1), eq_true c_6, eq_false (Int32.not_lt.mpr c_6)], rfl⟩)

set_option maxRecDepth 20000 in
theorem at_X6_requireGate_9 : ∀ w ∈ (vx_atS RX6 342 "java/lang/IndexOutOfBoundsException" ["java/lang/RuntimeException", "java/lang/Exception"]).filter goodWord, w ∈ wsX6_requireGate := by decide +kernel
set_option maxRecDepth 100000 in
set_option maxHeartbeats 4000000 in
/-- X6_requireGate -/
theorem c_X6_requireGate (l : Launch) {G : va_G} {V : wV} {rs : List Nat} (hl9 : l.stackTraces = false) (M R : wM) (o : wO) (x : Int32) : CT l G V rs yX6_requireGate wsX6_requireGate 6 90 1 6 [.int x] (M, R, o) (fun v u => u = (M, R, o) ∧ v = none ∧ ∃ c, c < 3 ∧ x = nI c) (fun E u => E = eIOE ∧ vIn x 3 = false ∧ u = (M, R, o)) := by
  refine ct_of (cc := cX6_requireGate) (maxL := 1) (ret := none) (by decide) rfl (Nat.le_of_ble_eq_true rfl) ?_
  intro p e s m below meth cd ls C h X hT hl
  have hx := C.1
  have hy := C.2.1
  have hl : lv_has ls 1 [(0, .int x)] := hl
  refine lv_iload_n hx hy dX6_requireGate_0 rfl (lv_at hl 0 rfl) ?_
  refine z_lt hx hy (tgt := 9) dX6_requireGate_1 (by decide) (fun c_1 => ?_) (fun c_1 => ?_)
  · skip
    exact t_wide (ic := 342) (ik := 338) (is := 345) (cls := "java/lang/IndexOutOfBoundsException") (text := tx_345) C h X hT hl9 (by decide) (by decide) (by decide) hl.1 (by decide +kernel) (by decide +kernel) at_X6_requireGate_9 bad_IOE good_IOE_338 dX6_requireGate_9 dX6_requireGate_12 dX6_requireGate_13 dX6_requireGate_16 dX6_requireGate_19 (by decide) (by decide) (by decide) (by decide) (by decide) (by decide) (⟨rfl, by simp [vIn, eq_true c_1, eq_false (Int32.not_le.mpr c_1)], rfl⟩)
  · skip
    refine lv_iload_n hx hy dX6_requireGate_4 rfl (lv_at hl 0 rfl) ?_
    refine lv_iconst (v := (nI 3)) hx hy dX6_requireGate_5 (by decide) ?_
    refine i_lt hx hy (tgt := 20) dX6_requireGate_6 (by decide) (fun c_6 => ?_) (fun c_6 => ?_)
    · skip
      exact e_void C h dX6_requireGate_20 (⟨rfl, rfl, vIn_ok c_1 c_6 (by decide)⟩) (by decide) (by decide)
    · skip
      exact t_wide (ic := 342) (ik := 338) (is := 345) (cls := "java/lang/IndexOutOfBoundsException") (text := tx_345) C h X hT hl9 (by decide) (by decide) (by decide) hl.1 (by decide +kernel) (by decide +kernel) at_X6_requireGate_9 bad_IOE good_IOE_338 dX6_requireGate_9 dX6_requireGate_12 dX6_requireGate_13 dX6_requireGate_16 dX6_requireGate_19 (by decide) (by decide) (by decide) (by decide) (by decide) (by decide) (⟨rfl, by simp [vIn, eq_true c_1, eq_false (Int32.not_lt.mpr c_1), eq_true c_6, eq_false (Int32.not_lt.mpr c_6)], rfl⟩)

set_option maxRecDepth 20000 in
theorem at_X6_requireLord_9 : ∀ w ∈ (vx_atS RX6 342 "java/lang/IndexOutOfBoundsException" ["java/lang/RuntimeException", "java/lang/Exception"]).filter goodWord, w ∈ wsX6_requireLord := by decide +kernel
set_option maxRecDepth 100000 in
set_option maxHeartbeats 4000000 in
/-- X6_requireLord -/
theorem c_X6_requireLord (l : Launch) {G : va_G} {V : wV} {rs : List Nat} (hl9 : l.stackTraces = false) (M R : wM) (o : wO) (x : Int32) : CT l G V rs yX6_requireLord wsX6_requireLord 6 90 1 6 [.int x] (M, R, o) (fun v u => u = (M, R, o) ∧ v = none ∧ ∃ c, c < 4 ∧ x = nI c) (fun E u => E = eIOE ∧ vIn x 4 = false ∧ u = (M, R, o)) := by
  refine ct_of (cc := cX6_requireLord) (maxL := 1) (ret := none) (by decide) rfl (Nat.le_of_ble_eq_true rfl) ?_
  intro p e s m below meth cd ls C h X hT hl
  have hx := C.1
  have hy := C.2.1
  have hl : lv_has ls 1 [(0, .int x)] := hl
  refine lv_iload_n hx hy dX6_requireLord_0 rfl (lv_at hl 0 rfl) ?_
  refine z_lt hx hy (tgt := 9) dX6_requireLord_1 (by decide) (fun c_1 => ?_) (fun c_1 => ?_)
  · skip
    exact t_wide (ic := 342) (ik := 338) (is := 347) (cls := "java/lang/IndexOutOfBoundsException") (text := tx_347) C h X hT hl9 (by decide) (by decide) (by decide) hl.1 (by decide +kernel) (by decide +kernel) at_X6_requireLord_9 bad_IOE good_IOE_338 dX6_requireLord_9 dX6_requireLord_12 dX6_requireLord_13 dX6_requireLord_16 dX6_requireLord_19 (by decide) (by decide) (by decide) (by decide) (by decide) (by decide) (⟨rfl, by simp [vIn, eq_true c_1, eq_false (Int32.not_le.mpr c_1)], rfl⟩)
  · skip
    refine lv_iload_n hx hy dX6_requireLord_4 rfl (lv_at hl 0 rfl) ?_
    refine lv_iconst (v := (nI 4)) hx hy dX6_requireLord_5 (by decide) ?_
    refine i_lt hx hy (tgt := 20) dX6_requireLord_6 (by decide) (fun c_6 => ?_) (fun c_6 => ?_)
    · skip
      exact e_void C h dX6_requireLord_20 (⟨rfl, rfl, vIn_ok c_1 c_6 (by decide)⟩) (by decide) (by decide)
    · skip
      exact t_wide (ic := 342) (ik := 338) (is := 347) (cls := "java/lang/IndexOutOfBoundsException") (text := tx_347) C h X hT hl9 (by decide) (by decide) (by decide) hl.1 (by decide +kernel) (by decide +kernel) at_X6_requireLord_9 bad_IOE good_IOE_338 dX6_requireLord_9 dX6_requireLord_12 dX6_requireLord_13 dX6_requireLord_16 dX6_requireLord_19 (by decide) (by decide) (by decide) (by decide) (by decide) (by decide) (⟨rfl, by simp [vIn, eq_true c_1, eq_false (Int32.not_lt.mpr c_1), eq_true c_6, eq_false (Int32.not_lt.mpr c_6)], rfl⟩)

set_option maxRecDepth 20000 in
theorem at_X6_requireTower_12 : ∀ w ∈ (vx_atS RX6 342 "java/lang/IndexOutOfBoundsException" ["java/lang/RuntimeException", "java/lang/Exception"]).filter goodWord, w ∈ wsX6_requireTower := by decide +kernel
set_option maxRecDepth 20000 in
theorem in_X6_requireTower_X0 : ∀ x ∈ wsX00, x ∈ wsX6_requireTower := by decide +kernel
set_option maxRecDepth 100000 in
set_option maxHeartbeats 4000000 in
/-- requireTower -/
theorem c_X6_requireTower (l : Launch) {G : va_G} {V : wV} {rs : List Nat} (hl9 : l.stackTraces = false) (c : Nat) (hc : c < 2) (hb : bC c rs) (M R : wM) (o : wO) (tc : Nat) (htc : tc ≤ 7) (htm : M (rCas c) 0 = nI tc) (x : Int32) : CT l G V rs yX6_requireTower wsX6_requireTower 6 90 1 6 [.ref (V.1 (rCas c)), .int x] (M, R, o) (fun v u => u = (M, R, o) ∧ v = none ∧ ∃ t, t < tc ∧ x = nI t) (fun E u => E = eIOE ∧ vIn x tc = false ∧ u = (M, R, o)) := by
  refine ct_of (cc := cX6_requireTower) (maxL := 2) (ret := none) (by decide) rfl (Nat.le_of_ble_eq_true rfl) ?_
  intro p e s m below meth cd ls C h X hT hl
  have hx := C.1
  have hy := C.2.1
  have hl : lv_has ls 2 [(0, .ref (V.1 (rCas c))), (1, .int x)] := hl
  refine lv_iload_n hx hy dX6_requireTower_0 rfl (lv_at hl 1 rfl) ?_
  refine z_lt hx hy (tgt := 12) dX6_requireTower_1 (by decide) (fun c_1 => ?_) (fun c_1 => ?_)
  · skip
    exact t_wide (ic := 342) (ik := 338) (is := 343) (cls := "java/lang/IndexOutOfBoundsException") (text := tx_343) C h X hT hl9 (by decide) (by decide) (by decide) hl.1 (by decide +kernel) (by decide +kernel) at_X6_requireTower_12 bad_IOE good_IOE_338 dX6_requireTower_12 dX6_requireTower_15 dX6_requireTower_16 dX6_requireTower_19 dX6_requireTower_22 (by decide) (by decide) (by decide) (by decide) (by decide) (by decide) (⟨rfl, by simp [vIn, eq_true c_1, eq_false (Int32.not_le.mpr c_1)], rfl⟩)
  · skip
    refine lv_iload_n hx hy dX6_requireTower_4 rfl (lv_at hl 1 rfl) ?_
    refine lv_aload_n hx hy dX6_requireTower_5 rfl (lv_at hl 0 rfl) ?_
    refine g_f C h (hb 0 (by decide)) (lo_Cas hc) (celF_Cas hc) rfl in_X6_requireTower_X0 0 (by decide) (by decide +kernel) (v := .int (nI tc)) (congrArg (fun z => some (Value.int z)) (show M (rCas c) 0 = (nI tc) from htm)) dX6_requireTower_6 ?_
    refine i_lt hx hy (tgt := 23) dX6_requireTower_9 (by decide) (fun c_9 => ?_) (fun c_9 => ?_)
    · skip
      exact e_void C h dX6_requireTower_23 (⟨rfl, rfl, vIn_ok c_1 c_9 (by omega)⟩) (by decide) (by decide)
    · skip
      exact t_wide (ic := 342) (ik := 338) (is := 343) (cls := "java/lang/IndexOutOfBoundsException") (text := tx_343) C h X hT hl9 (by decide) (by decide) (by decide) hl.1 (by decide +kernel) (by decide +kernel) at_X6_requireTower_12 bad_IOE good_IOE_338 dX6_requireTower_12 dX6_requireTower_15 dX6_requireTower_16 dX6_requireTower_19 dX6_requireTower_22 (by decide) (by decide) (by decide) (by decide) (by decide) (by decide) (⟨rfl, by simp [vIn, eq_true c_1, eq_false (Int32.not_lt.mpr c_1), eq_true c_9, eq_false (Int32.not_lt.mpr c_9)], rfl⟩)

set_option maxRecDepth 20000 in
theorem at_X6_requireAmount_12 : ∀ w ∈ (vx_atS RX6 51 "java/lang/IllegalArgumentException" ["java/lang/RuntimeException", "java/lang/Exception"]).filter goodWord, w ∈ wsX6_requireAmount := by decide +kernel
set_option maxRecDepth 100000 in
set_option maxHeartbeats 4000000 in
/-- requireAmount -/
theorem c_X6_requireAmount (l : Launch) {G : va_G} {V : wV} {rs : List Nat} (hl9 : l.stackTraces = false) (M R : wM) (o : wO) (x : Int32) : CT l G V rs yX6_requireAmount wsX6_requireAmount 6 90 1 6 [.int x] (M, R, o) (fun v u => u = (M, R, o) ∧ v = none ∧ vAm x = true) (fun E u => E = eIAE ∧ vAm x = false ∧ u = (M, R, o)) := by
  refine ct_of (cc := cX6_requireAmount) (maxL := 1) (ret := none) (by decide) rfl (Nat.le_of_ble_eq_true rfl) ?_
  intro p e s m below meth cd ls C h X hT hl
  have hx := C.1
  have hy := C.2.1
  have hl : lv_has ls 1 [(0, .int x)] := hl
  refine lv_iload_n hx hy dX6_requireAmount_0 rfl (lv_at hl 0 rfl) ?_
  refine lv_iconst (v := (nI 1)) hx hy dX6_requireAmount_1 (by decide) ?_
  refine i_lt hx hy (tgt := 12) dX6_requireAmount_2 (by decide) (fun c_2 => ?_) (fun c_2 => ?_)
  · skip
    exact t_wide (ic := 51) (ik := 47) (is := 349) (cls := "java/lang/IllegalArgumentException") (text := tx_349) C h X hT hl9 (by decide) (by decide) (by decide) hl.1 (by decide +kernel) (by decide +kernel) at_X6_requireAmount_12 bad_IAE good_IAE_47 dX6_requireAmount_12 dX6_requireAmount_15 dX6_requireAmount_16 dX6_requireAmount_19 dX6_requireAmount_22 (by decide) (by decide) (by decide) (by decide) (by decide) (by decide) (⟨rfl, by simp [vAm, eq_true c_2, eq_false (Int32.not_le.mpr c_2)], rfl⟩)
  · skip
    refine lv_iload_n hx hy dX6_requireAmount_5 rfl (lv_at hl 0 rfl) ?_
    refine lv_sipush (v := (nI 999)) hx hy dX6_requireAmount_6 (by decide) ?_
    refine i_le hx hy (tgt := 23) dX6_requireAmount_9 (by decide) (fun c_9 => ?_) (fun c_9 => ?_)
    · skip
      exact e_void C h dX6_requireAmount_23 (⟨rfl, rfl, by simp [vAm, eq_true c_2, eq_false (Int32.not_lt.mpr c_2), eq_true c_9, eq_false (Int32.not_lt.mpr c_9)]⟩) (by decide) (by decide)
    · skip
      exact t_wide (ic := 51) (ik := 47) (is := 349) (cls := "java/lang/IllegalArgumentException") (text := tx_349) C h X hT hl9 (by decide) (by decide) (by decide) hl.1 (by decide +kernel) (by decide +kernel) at_X6_requireAmount_12 bad_IAE good_IAE_47 dX6_requireAmount_12 dX6_requireAmount_15 dX6_requireAmount_16 dX6_requireAmount_19 dX6_requireAmount_22 (by decide) (by decide) (by decide) (by decide) (by decide) (by decide) (⟨rfl, by simp [vAm, eq_true c_2, eq_false (Int32.not_lt.mpr c_2), eq_true c_9, eq_false (Int32.not_le.mpr c_9)], rfl⟩)

set_option maxRecDepth 20000 in
theorem in_X6_requireRoom_X0 : ∀ x ∈ wsX00, x ∈ wsX6_requireRoom := by decide +kernel
set_option maxRecDepth 20000 in
theorem in_X6_requireRoom_X3 : ∀ x ∈ wsX30, x ∈ wsX6_requireRoom := by decide +kernel
set_option maxRecDepth 20000 in
theorem at_X6_requireRoom_12 : ∀ w ∈ (vx_atS RX6 236 "java/lang/IllegalStateException" ["java/lang/RuntimeException", "java/lang/Exception"]).filter goodWord, w ∈ wsX6_requireRoom := by decide +kernel
set_option maxRecDepth 100000 in
set_option maxHeartbeats 4000000 in
/-- requireRoom -/
theorem c_X6_requireRoom (l : Launch) {G : va_G} {V : wV} {rs : List Nat} (hl9 : l.stackTraces = false) (c : Nat) (hc : c < 2) (hb : bC c rs) (M R : wM) (o : wO) (sz : Nat) (hs : sz ≤ 60) (hsz : M (rRow c) 0 = nI sz) : CT l G V rs yX6_requireRoom wsX6_requireRoom 6 90 1 6 [.ref (V.1 (rCas c))] (M, R, o) (fun v u => u = (M, R, o) ∧ v = none ∧ sz < 60) (fun E u => E = eISE ∧ 60 ≤ sz ∧ u = (M, R, o)) := by
  refine ct_of (cc := cX6_requireRoom) (maxL := 1) (ret := none) (by decide) rfl (Nat.le_of_ble_eq_true rfl) ?_
  intro p e s m below meth cd ls C h X hT hl
  have hx := C.1
  have hy := C.2.1
  have hl : lv_has ls 1 [(0, .ref (V.1 (rCas c)))] := hl
  refine lv_aload_n hx hy dX6_requireRoom_0 rfl (lv_at hl 0 rfl) ?_
  refine g_f C h (hb 0 (by decide)) (lo_Cas hc) (celF_Cas hc) rfl in_X6_requireRoom_X0 7 (by decide) (by decide +kernel) (v := .ref (V.1 (rRow c))) rfl dX6_requireRoom_1 ?_
  refine g_f C h (hb 16 (by decide)) (lo_Row hc) (celF_Row hc) rfl in_X6_requireRoom_X3 0 (by decide) (by decide +kernel) (v := .int (nI sz)) (congrArg (fun z => some (Value.int z)) (show M (rRow c) 0 = (nI sz) from hsz)) dX6_requireRoom_4 ?_
  refine lv_bipush (v := (nI 60)) hx hy dX6_requireRoom_7 (by decide) ?_
  refine n_lt hx hy (by omega) (by decide) (tgt := 23) dX6_requireRoom_9 (by decide) (fun c_9 => ?_) (fun c_9 => ?_)
  · skip
    exact e_void C h dX6_requireRoom_23 (⟨rfl, rfl, c_9⟩) (by decide) (by decide)
  · skip
    exact t_wide (ic := 236) (ik := 232) (is := 351) (cls := "java/lang/IllegalStateException") (text := tx_351) C h X hT hl9 (by decide) (by decide) (by decide) hl.1 (by decide +kernel) (by decide +kernel) at_X6_requireRoom_12 bad_ISE good_ISE_232 dX6_requireRoom_12 dX6_requireRoom_15 dX6_requireRoom_16 dX6_requireRoom_19 dX6_requireRoom_22 (by decide) (by decide) (by decide) (by decide) (by decide) (by decide) (⟨rfl, c_9, rfl⟩)

set_option maxRecDepth 20000 in
theorem in_X6_castleAt_X6 : ∀ x ∈ wsX60, x ∈ wsX6_castleAt := by decide +kernel
set_option maxRecDepth 100000 in
set_option maxHeartbeats 4000000 in
/-- castleAt -/
theorem c_X6_castleAt (l : Launch) {G : va_G} {V : wV} {rs : List Nat} (hl9 : l.stackTraces = false) (ha : bA rs) (M R : wM) (o : wO) (x : Int32) : CT l G V rs yX6_castleAt wsX6_castleAt 7 110 1 6 [.ref (V.1 rMain), .int x] (M, R, o) (fun v u => u = (M, R, o) ∧ ∃ c, c < 2 ∧ x = nI c ∧ v = some (.ref (V.1 (rCas c)))) (fun E u => E = eIOE ∧ vC x = false ∧ u = (M, R, o)) := by
  refine ct_of (cc := cX6_castleAt) (maxL := 2) (ret := (some (.object "Castlequorum$Castle"))) (by decide) rfl (Nat.le_of_ble_eq_true rfl) ?_
  intro p e s m below meth cd ls C h X hT hl
  have hx := C.1
  have hy := C.2.1
  have hl : lv_has ls 2 [(0, .ref (V.1 rMain)), (1, .int x)] := hl
  refine lv_iload_n hx hy dX6_castleAt_0 rfl (lv_at hl 1 rfl) ?_
  refine n_go C h hT (n_S (As := [.int x]) (rest := []) C h X (c_X6_requireCastle l hl9 M R o x) (va_cwS 1 C.2.2.2.2.1 gX6_castleAt_X6_requireCastle rfl rfl rfl (by decide +kernel) ⟨Nat.le_of_ble_eq_true rfl, Nat.le_of_ble_eq_true rfl⟩) rfl hl.1 rfl (Nat.le_of_ble_eq_true rfl) dX6_castleAt_1 ⟨by decide, by decide⟩) (fun E u hE => hE) (by decide) (by decide) (fun v_1 u_1 H locs hpo h => ?_)
  obtain ⟨rfl, rfl, c, hc, rfl⟩ := hpo
  have hv_c : vIn (nI c) 2 = true := vIn_nI hc (by decide)
  have hi_c : cI (nI c) = c := cI_nI hc (by decide)
  have hc_c : vC (nI c) = true := hv_c
  refine lv_iload_n hx hy dX6_castleAt_4 rfl (lv_at hl 1 rfl) ?_
  refine nz_ne hx hy (by omega) (tgt := 15) dX6_castleAt_5 (by decide) (fun c_5 => ?_) (fun c_5 => ?_)
  · skip
    refine lv_aload_n hx hy dX6_castleAt_15 rfl (lv_at hl 0 rfl) ?_
    refine g_f C h (ha.2 60 (by decide) (by decide)) lo_Main celF_Main rfl in_X6_castleAt_X6 1 (by decide) (by decide +kernel) (v := .ref (V.1 (rCas 1))) rfl dX6_castleAt_16 ?_
    exact e_ref C h (Or.inl ⟨_, rfl⟩) dX6_castleAt_19 (⟨rfl, 1, by decide, by rw [show c = 1 from by omega], rfl⟩) (by decide) (by decide)
  · skip
    refine lv_aload_n hx hy dX6_castleAt_8 rfl (lv_at hl 0 rfl) ?_
    refine g_f C h (ha.2 60 (by decide) (by decide)) lo_Main celF_Main rfl in_X6_castleAt_X6 0 (by decide) (by decide +kernel) (v := .ref (V.1 (rCas 0))) rfl dX6_castleAt_9 ?_
    refine lv_goto (tgt := 19) hx hy dX6_castleAt_12 (by decide) ?_
    exact e_ref C h (Or.inl ⟨_, rfl⟩) dX6_castleAt_19 (⟨rfl, 0, by decide, by rw [show c = 0 from by omega], rfl⟩) (by decide) (by decide)

set_option maxRecDepth 20000 in
theorem in_X4_isTooOld_X4 : ∀ x ∈ wsX40, x ∈ wsX4_isTooOld := by decide +kernel
set_option maxRecDepth 20000 in
theorem in_X4_isTooOld_X0 : ∀ x ∈ wsX00, x ∈ wsX4_isTooOld := by decide +kernel
set_option maxRecDepth 100000 in
set_option maxHeartbeats 4000000 in
/-- Sight.isTooOld -/
theorem c_X4_isTooOld (l : Launch) {G : va_G} {V : wV} {rs : List Nat} (k : Nat) (hk : k < 20) (ha : bA rs) (M R : wM) (o : wO) (pq : Nat) (hp : pq < 2) (hpl : M (rSi k) 0 = nI pq) (now : Int32) : CT l G V rs yX4_isTooOld wsX4_isTooOld 0 0 0 0 [.ref (V.1 (rSi k)), .int now] (M, R, o) (fun v u => v = some (.int (b2i (sOld M k pq now))) ∧ u = (M, R, o)) (fun _ _ => False) := by
  refine ct_of (cc := cX4_isTooOld) (maxL := 2) (ret := (some .boolean)) (by decide) rfl (Nat.le_of_ble_eq_true rfl) ?_
  intro p e s m below meth cd ls C h X hT hl
  have hx := C.1
  have hy := C.2.1
  have hl : lv_has ls 2 [(0, .ref (V.1 (rSi k))), (1, .int now)] := hl
  refine lv_iload_n hx hy dX4_isTooOld_0 rfl (lv_at hl 1 rfl) ?_
  refine lv_aload_n hx hy dX4_isTooOld_1 rfl (lv_at hl 0 rfl) ?_
  refine g_f C h (ha.2 (64 + k) (by omega) (by omega)) (lo_Si hk) (celF_Si hk) rfl in_X4_isTooOld_X4 2 (by decide) (by decide +kernel) (v := .int (M (rSi k) 2)) rfl dX4_isTooOld_2 ?_
  refine lv_bipush (v := (nI 10)) hx hy dX4_isTooOld_5 (by decide) ?_
  refine lv_iadd hx hy dX4_isTooOld_7 ?_
  refine i_ge hx hy (tgt := 25) dX4_isTooOld_8 (by decide) (fun c_8 => ?_) (fun c_8 => ?_)
  · skip
    refine lv_iconst (v := (nI 1)) hx hy dX4_isTooOld_25 (by decide) ?_
    refine lv_goto (tgt := 30) hx hy dX4_isTooOld_26 (by decide) ?_
    exact e_int C h (by decide) dX4_isTooOld_30 (⟨by simp [sOld, b2i, eq_true c_8, eq_false (Int32.not_lt.mpr c_8)], rfl⟩) (by decide) (by decide)
  · skip
    refine lv_aload_n hx hy dX4_isTooOld_11 rfl (lv_at hl 0 rfl) ?_
    refine g_f C h (ha.2 (64 + k) (by omega) (by omega)) (lo_Si hk) (celF_Si hk) rfl in_X4_isTooOld_X4 0 (by decide) (by decide +kernel) (v := .ref (V.1 (rCas pq))) (congrArg some (plv_at hp hpl)) dX4_isTooOld_12 ?_
    refine g_f C h ((ha.1 pq hp) 0 (by decide)) (lo_Cas hp) (celF_Cas hp) rfl in_X4_isTooOld_X0 2 (by decide) (by decide +kernel) (v := .int (M (rCas pq) 2)) rfl dX4_isTooOld_15 ?_
    refine lv_aload_n hx hy dX4_isTooOld_18 rfl (lv_at hl 0 rfl) ?_
    refine g_f C h (ha.2 (64 + k) (by omega) (by omega)) (lo_Si hk) (celF_Si hk) rfl in_X4_isTooOld_X4 3 (by decide) (by decide +kernel) (v := .int (M (rSi k) 3)) rfl dX4_isTooOld_19 ?_
    refine i_eq hx hy (tgt := 29) dX4_isTooOld_22 (by decide) (fun c_22 => ?_) (fun c_22 => ?_)
    · skip
      refine lv_iconst (v := (nI 0)) hx hy dX4_isTooOld_29 (by decide) ?_
      exact e_int C h (by decide) dX4_isTooOld_30 (⟨by simp [sOld, b2i, eq_true c_8, eq_false (Int32.not_le.mpr c_8), eq_true c_22], rfl⟩) (by decide) (by decide)
    · skip
      refine lv_iconst (v := (nI 1)) hx hy dX4_isTooOld_25 (by decide) ?_
      refine lv_goto (tgt := 30) hx hy dX4_isTooOld_26 (by decide) ?_
      exact e_int C h (by decide) dX4_isTooOld_30 (⟨by simp [sOld, b2i, eq_true c_8, eq_false (Int32.not_le.mpr c_8), eq_false c_22], rfl⟩) (by decide) (by decide)

set_option maxRecDepth 20000 in
theorem in_X4_look_X4 : ∀ x ∈ wsX40, x ∈ wsX4_look := by decide +kernel
set_option maxRecDepth 20000 in
theorem in_X4_look_X0 : ∀ x ∈ wsX00, x ∈ wsX4_look := by decide +kernel
set_option maxRecDepth 100000 in
set_option maxHeartbeats 4000000 in
/-- Sight.look -/
theorem c_X4_look (l : Launch) {G : va_G} {V : wV} {rs : List Nat} (k : Nat) (hk : k < 20) (ha : bA rs) (M R : wM) (o : wO) (c : Nat) (hc : c < 2) (sz : Nat) (hs : sz ≤ 60) (hsz : M (rRow c) 0 = nI sz) (hlo9 : okL M c sz) (lo : Nat) (hlo : lo < 4) (now : Int32) : CT l G V rs yX4_look wsX4_look 4 88 0 0 [.ref (V.1 (rSi k)), .ref (V.1 (rCas c)), .int (nI lo), .int now] (M, R, o) (fun v u => v = none ∧ u = (sLook M k c lo sz now, R, o)) (fun _ _ => False) := by
  refine ct_of (cc := cX4_look) (maxL := 4) (ret := none) (by decide) rfl (Nat.le_of_ble_eq_true rfl) ?_
  intro p e s m below meth cd ls C h X hT hl
  have hx := C.1
  have hy := C.2.1
  have hl : lv_has ls 4 [(0, .ref (V.1 (rSi k))), (1, .ref (V.1 (rCas c))), (2, .int (nI lo)), (3, .int now)] := hl
  refine lv_aload_n hx hy dX4_look_0 rfl (lv_at hl 0 rfl) ?_
  refine lv_aload_n hx hy dX4_look_1 rfl (lv_at hl 1 rfl) ?_
  refine p_f C h (ha.2 (64 + k) (by omega) (by omega)) (lt_Si hk) (celF_Si hk) rfl in_X4_look_X4 tyX4_ok nmX4 0 (by decide) (by decide +kernel) rfl (v := .ref (V.1 (rCas c))) (x := nI c) rfl rfl (fun _ => Nat.le_of_ble_eq_true rfl) (fun f => by rcases (show c = 0 ∨ c = 1 by omega) with rfl | rfl <;> rfl) dX4_look_2 (fun H locs h => ?_)
  refine lv_aload_n hx hy dX4_look_5 rfl (lv_at hl 0 rfl) ?_
  refine lv_iload_n hx hy dX4_look_6 rfl (lv_at hl 2 rfl) ?_
  refine p_f C h (ha.2 (64 + k) (by omega) (by omega)) (lt_Si hk) (celF_Si hk) rfl in_X4_look_X4 tyX4_ok nmX4 1 (by decide) (by decide +kernel) rfl (v := .int (nI lo)) (x := (nI lo)) rfl rfl (fun _ => Nat.le_of_ble_eq_true rfl) (fun _ => rfl) dX4_look_7 (fun H locs h => ?_)
  refine lv_aload_n hx hy dX4_look_10 rfl (lv_at hl 0 rfl) ?_
  refine lv_iload_n hx hy dX4_look_11 rfl (lv_at hl 3 rfl) ?_
  refine p_f C h (ha.2 (64 + k) (by omega) (by omega)) (lt_Si hk) (celF_Si hk) rfl in_X4_look_X4 tyX4_ok nmX4 2 (by decide) (by decide +kernel) rfl (v := .int now) (x := now) rfl rfl (fun _ => Nat.le_of_ble_eq_true rfl) (fun _ => rfl) dX4_look_12 (fun H locs h => ?_)
  refine lv_aload_n hx hy dX4_look_15 rfl (lv_at hl 0 rfl) ?_
  refine lv_aload_n hx hy dX4_look_16 rfl (lv_at hl 1 rfl) ?_
  refine g_f C h ((ha.1 c hc) 0 (by decide)) (lo_Cas hc) (celF_Cas hc) rfl in_X4_look_X0 2 (by decide) (by decide +kernel) (v := .int (M (rCas c) 2)) (congrArg (fun z => some (Value.int z)) (show (wr (wr (wr M (rSi k) 0 (nI c)) (rSi k) 1 (nI lo)) (rSi k) 2 now) (rCas c) 2 = (M (rCas c) 2) from ((wr_othr (by simp only [rCas, rSi]; omega)).trans ((wr_othr (by simp only [rCas, rSi]; omega)).trans (wr_othr (by simp only [rCas, rSi]; omega)))))) dX4_look_17 ?_
  refine p_f C h (ha.2 (64 + k) (by omega) (by omega)) (lt_Si hk) (celF_Si hk) rfl in_X4_look_X4 tyX4_ok nmX4 3 (by decide) (by decide +kernel) rfl (v := .int (M (rCas c) 2)) (x := (M (rCas c) 2)) rfl rfl (fun _ => Nat.le_of_ble_eq_true rfl) (fun _ => rfl) dX4_look_20 (fun H locs h => ?_)
  refine lv_aload_n hx hy dX4_look_23 rfl (lv_at hl 0 rfl) ?_
  refine lv_aload_n hx hy dX4_look_24 rfl (lv_at hl 1 rfl) ?_
  refine g_f C h ((ha.1 c hc) 0 (by decide)) (lo_Cas hc) (celF_Cas hc) rfl in_X4_look_X0 7 (by decide) (by decide +kernel) (v := .ref (V.1 (rRow c))) rfl dX4_look_25 ?_
  refine n_go0 C h (n_V (As := []) (rest := [.ref (V.1 (rSi k))]) C h X ((ha.1 c hc) 16 (by decide)) ((lo_Row hc).trans ((celF_Row hc) _)) rfl (c_X3_countingSize l c hc (ha.1 c hc) (lk4 M k c lo now) R o sz hs ((congrFun (lk4_ne (by simp only [rRow, rSi]; omega)) _).trans hsz) ) (cwV 0 C.2.2.2.2.1 gX4_look_X3_countingSize rfl rfl rfl (by decide +kernel) ⟨Nat.le_of_ble_eq_true rfl, Nat.le_of_ble_eq_true rfl⟩) rfl hl.1 rfl (Nat.le_of_ble_eq_true rfl) dX4_look_28 ⟨by decide, by decide⟩) (fun _ _ z => z) (fun v_28 u_28 H locs hpo h => ?_)
  obtain ⟨rfl, rfl⟩ := hpo
  refine p_f C h (ha.2 (64 + k) (by omega) (by omega)) (lt_Si hk) (celF_Si hk) rfl in_X4_look_X4 tyX4_ok nmX4 4 (by decide) (by decide +kernel) rfl (v := .int (nI (rCnt (lk4 M k c lo now) c sz))) (x := (nI (rCnt (lk4 M k c lo now) c sz))) rfl rfl (fun _ => Nat.le_of_ble_eq_true rfl) (fun _ => rfl) dX4_look_31 (fun H locs h => ?_)
  refine lv_aload_n hx hy dX4_look_34 rfl (lv_at hl 0 rfl) ?_
  refine lv_aload_n hx hy dX4_look_35 rfl (lv_at hl 1 rfl) ?_
  refine n_go0 C h (n_V (As := []) (rest := [.ref (V.1 (rSi k))]) C h X ((ha.1 c hc) 0 (by decide)) ((lo_Cas hc).trans ((celF_Cas hc) _)) rfl (c_X0_tellLedger l c hc (ha.1 c hc) (lk5 M k c lo sz now) R o sz hs ((congrFun (lk5_ne (by simp only [rRow, rSi]; omega)) _).trans hsz) (okL_eq (lk5_ne (by simp only [rLe, rSi]; omega)) (lk5_ne (by simp only [rLo, rSi]; omega)) hlo9) ) (cwV 0 C.2.2.2.2.1 gX4_look_X0_tellLedger rfl rfl rfl (by decide +kernel) ⟨Nat.le_of_ble_eq_true rfl, Nat.le_of_ble_eq_true rfl⟩) rfl hl.1 rfl (Nat.le_of_ble_eq_true rfl) dX4_look_36 ⟨by decide, by decide⟩) (fun _ _ z => z) (fun v_36 u_36 H locs hpo h => ?_)
  obtain ⟨rfl, rfl⟩ := hpo
  refine n_go0 C h (n_V (As := []) (rest := [.ref (V.1 (rSi k))]) C h X ((ha.1 c hc) 23 (by decide)) ((lo_Led hc).trans ((celF_Led hc) _)) rfl (c_X2_freeGold l c hc (ha.1 c hc) (telM (lk5 M k c lo sz now) c sz) R o ) (cwV 0 C.2.2.2.2.1 gX4_look_X2_freeGold rfl rfl rfl (by decide +kernel) ⟨Nat.le_of_ble_eq_true rfl, Nat.le_of_ble_eq_true rfl⟩) rfl hl.1 rfl (Nat.le_of_ble_eq_true rfl) dX4_look_39 ⟨by decide, by decide⟩) (fun _ _ z => z) (fun v_39 u_39 H locs hpo h => ?_)
  obtain ⟨rfl, rfl⟩ := hpo
  refine p_f C h (ha.2 (64 + k) (by omega) (by omega)) (lt_Si hk) (celF_Si hk) rfl in_X4_look_X4 tyX4_ok nmX4 5 (by decide) (by decide +kernel) rfl (v := .int (lFree (telM (lk5 M k c lo sz now) c sz) c)) (x := (lFree (telM (lk5 M k c lo sz now) c sz) c)) rfl rfl (fun _ => Nat.le_of_ble_eq_true rfl) (fun _ => rfl) dX4_look_42 (fun H locs h => ?_)
  exact e_void C h dX4_look_45 (⟨rfl, rfl⟩) (by decide) (by decide)

set_option maxRecDepth 20000 in
theorem in_X5_begin_X5 : ∀ x ∈ wsX50, x ∈ wsX5_begin := by decide +kernel
set_option maxRecDepth 100000 in
set_option maxHeartbeats 4000000 in
/-- Truce.begin -/
theorem c_X5_begin (l : Launch) {G : va_G} {V : wV} {rs : List Nat} (k : Nat) (hk : k < 8) (ha : bA rs) (M R : wM) (o : wO) (fr am : Int32) : CT l G V rs yX5_begin wsX5_begin 0 0 0 0 [.ref (V.1 (rTr k)), .int fr, .int am] (M, R, o) (fun v u => v = none ∧ u = (bgN M k fr am 2, R, o)) (fun _ _ => False) := by
  refine ct_of (cc := cX5_begin) (maxL := 4) (ret := none) (by decide) rfl (Nat.le_of_ble_eq_true rfl) ?_
  intro p e s m below meth cd ls C h X hT hl
  have hx := C.1
  have hy := C.2.1
  have hl : lv_has ls 4 [(0, .ref (V.1 (rTr k))), (1, .int fr), (2, .int am)] := hl
  refine lv_aload_n hx hy dX5_begin_0 rfl (lv_at hl 0 rfl) ?_
  refine lv_iload_n hx hy dX5_begin_1 rfl (lv_at hl 1 rfl) ?_
  refine p_f C h (ha.2 (84 + 2 * k) (by omega) (by omega)) (lt_Tr hk) (celF_Tr hk) rfl in_X5_begin_X5 tyX5_ok nmX5 0 (by decide) (by decide +kernel) rfl (v := .int fr) (x := fr) rfl rfl (fun _ => Nat.le_of_ble_eq_true rfl) (fun _ => rfl) dX5_begin_2 (fun H locs h => ?_)
  refine lv_aload_n hx hy dX5_begin_5 rfl (lv_at hl 0 rfl) ?_
  refine lv_iload_n hx hy dX5_begin_6 rfl (lv_at hl 2 rfl) ?_
  refine p_f C h (ha.2 (84 + 2 * k) (by omega) (by omega)) (lt_Tr hk) (celF_Tr hk) rfl in_X5_begin_X5 tyX5_ok nmX5 1 (by decide) (by decide +kernel) rfl (v := .int am) (x := am) rfl rfl (fun _ => Nat.le_of_ble_eq_true rfl) (fun _ => rfl) dX5_begin_7 (fun H locs h => ?_)
  refine lv_aload_n hx hy dX5_begin_10 rfl (lv_at hl 0 rfl) ?_
  refine lv_bipush (v := (nI 45)) hx hy dX5_begin_11 (by decide) ?_
  refine p_f C h (ha.2 (84 + 2 * k) (by omega) (by omega)) (lt_Tr hk) (celF_Tr hk) rfl in_X5_begin_X5 tyX5_ok nmX5 2 (by decide) (by decide +kernel) rfl (v := .int (nI 45)) (x := (nI 45)) (by decide) (by decide) (fun _ => Nat.le_of_ble_eq_true rfl) (fun _ => rfl) dX5_begin_13 (fun H locs h => ?_)
  refine lv_iconst (v := (nI 0)) hx hy dX5_begin_16 (by decide) ?_
  refine lv_istore_n (lv' := [(3, .int (nI 0)), (0, .ref (V.1 (rTr k))), (1, .int fr), (2, .int am)]) hx hy dX5_begin_17 rfl hl (by decide) rfl (fun ls hl => ?_)
  have L_18 : ∀ (n_18 j : Nat), n_18 + j = 2 → ∀ (H : Heap) (locs : List Loc), HH G V rs (bgN M k fr am j, R, o) s H locs → ∀ ls : Array Slot, lv_has ls 4 [(3, .int (nI j)), (0, .ref (V.1 (rTr k))), (1, .int fr), (2, .int am)] → W p l e { frames := 0, cells := 0, slots := 0, locals := 0 } s m [.ref (V.1 (rTr k)), .int fr, .int am].toArray below meth cd H locs 0 0 (QM G V rs below [.ref (V.1 (rTr k)), .int fr, .int am].toArray s 0 0 (fun v u => v = none ∧ u = (bgN M k fr am 2, R, o)) (fun _ _ => False)) (F0 m 18 ls []) := by
    intro n_18
    induction n_18 with
    | zero =>
      intro j hk_18 H locs h ls hl
      have hz_18 : j = 2 := by omega
      try rw [hz_18] at h
      try rw [hz_18] at hl
      refine lv_iload_n hx hy dX5_begin_18 rfl (lv_at hl 0 rfl) ?_
      refine lv_iconst (v := (nI 2)) hx hy dX5_begin_19 (by decide) ?_
      refine n_ge hx hy (by decide) (by decide) (tgt := 37) dX5_begin_20 (by decide) (fun c_20 => ?_) (fun c_20 => ?_)
      · skip
        exact e_void C h dX5_begin_37 (⟨rfl, rfl⟩) (by decide) (by decide)
      · skip
        exact absurd c_20 (by omega)
    | succ n_18 ih_18 =>
      intro j hk_18 H locs h ls hl
      have hz_18 : j < 2 := by omega
      refine lv_iload_n hx hy dX5_begin_18 rfl (lv_at hl 0 rfl) ?_
      refine lv_iconst (v := (nI 2)) hx hy dX5_begin_19 (by decide) ?_
      refine n_ge hx hy (by omega) (by decide) (tgt := 37) dX5_begin_20 (by decide) (fun c_20 => ?_) (fun c_20 => ?_)
      · skip
        exact absurd c_20 (by omega)
      · skip
        refine lv_aload_n hx hy dX5_begin_23 rfl (lv_at hl 1 rfl) ?_
        refine g_f C h (ha.2 (84 + 2 * k) (by omega) (by omega)) (lo_Tr hk) (celF_Tr hk) rfl in_X5_begin_X5 3 (by decide) (by decide +kernel) (v := .ref (V.1 (rSt k))) rfl dX5_begin_24 ?_
        refine lv_iload_n hx hy dX5_begin_27 rfl (lv_at hl 0 rfl) ?_
        refine lv_bipush (v := (nI 45)) hx hy dX5_begin_28 (by decide) ?_
        refine s_c C h (ha.2 (85 + 2 * k) (by omega) (by omega)) (lt_St hk) (n := 2) (k := j) (celF_St hk) (by omega) (by decide) (x := (nI 45)) (by decide) dX5_begin_30 (fun H locs h => ?_)
        refine lv_iinc (v := (nI (j + 1))) (lv' := [(3, .int (nI (j + 1))), (0, .ref (V.1 (rTr k))), (1, .int fr), (2, .int am)]) hx hy dX5_begin_31 hl (k := 0) rfl (nI_1 _) (by decide) rfl (fun ls hl => ?_)
        refine lv_goto (tgt := 18) hx hy dX5_begin_34 (by decide) ?_
        exact ih_18 (j + 1) (by omega) _ _ (by rw [show ((bgN M k fr am (j + 1), R, o) : wW) = (wr (bgN M k fr am j) (rSt k) j (nI 45), R, o) from rfl]; exact h) _ (by have hl := lv_sub hl [0, 1, 2, 3] (l' := [(3, .int (nI (j + 1))), (0, .ref (V.1 (rTr k))), (1, .int fr), (2, .int am)]) rfl; rw [show (.int (nI (j + 1)) : Value) = .int (nI (j + 1)) from rfl] at hl; exact hl)
  exact L_18 (2) 0 (by omega) _ _ (by rw [show (bgN M k fr am 0, R, o) = (wr (wr (wr M (rTr k) 0 fr) (rTr k) 1 am) (rTr k) 2 (nI 45), R, o) from rfl]; exact h) _ (lv_sub hl [0, 1, 2, 3] rfl)

set_option maxRecDepth 20000 in
theorem in_X5_isDecided_X5 : ∀ x ∈ wsX50, x ∈ wsX5_isDecided := by decide +kernel
set_option maxRecDepth 100000 in
set_option maxHeartbeats 4000000 in
/-- Truce.isDecided -/
theorem c_X5_isDecided (l : Launch) {G : va_G} {V : wV} {rs : List Nat} (k : Nat) (hk : k < 8) (ha : bA rs) (M R : wM) (o : wO) : CT l G V rs yX5_isDecided wsX5_isDecided 0 0 0 0 [.ref (V.1 (rTr k))] (M, R, o) (fun v u => v = some (.int (b2i (tDec M k))) ∧ u = (M, R, o)) (fun _ _ => False) := by
  refine ct_of (cc := cX5_isDecided) (maxL := 1) (ret := (some .boolean)) (by decide) rfl (Nat.le_of_ble_eq_true rfl) ?_
  intro p e s m below meth cd ls C h X hT hl
  have hx := C.1
  have hy := C.2.1
  have hl : lv_has ls 1 [(0, .ref (V.1 (rTr k)))] := hl
  refine lv_aload_n hx hy dX5_isDecided_0 rfl (lv_at hl 0 rfl) ?_
  refine g_f C h (ha.2 (84 + 2 * k) (by omega) (by omega)) (lo_Tr hk) (celF_Tr hk) rfl in_X5_isDecided_X5 2 (by decide) (by decide +kernel) (v := .int (M (rTr k) 2)) rfl dX5_isDecided_1 ?_
  refine lv_bipush (v := (nI 45)) hx hy dX5_isDecided_4 (by decide) ?_
  refine i_eq hx hy (tgt := 13) dX5_isDecided_6 (by decide) (fun c_6 => ?_) (fun c_6 => ?_)
  · skip
    refine lv_iconst (v := (nI 0)) hx hy dX5_isDecided_13 (by decide) ?_
    exact e_int C h (by decide) dX5_isDecided_14 (⟨by simp [tDec, b2i, eq_true c_6], rfl⟩) (by decide) (by decide)
  · skip
    refine lv_iconst (v := (nI 1)) hx hy dX5_isDecided_9 (by decide) ?_
    refine lv_goto (tgt := 14) hx hy dX5_isDecided_10 (by decide) ?_
    exact e_int C h (by decide) dX5_isDecided_14 (⟨by simp [tDec, b2i, eq_false c_6], rfl⟩) (by decide) (by decide)

set_option maxRecDepth 20000 in
theorem in_X5_preparedCount_X5 : ∀ x ∈ wsX50, x ∈ wsX5_preparedCount := by decide +kernel
set_option maxRecDepth 100000 in
set_option maxHeartbeats 4000000 in
/-- Truce.preparedCount -/
theorem c_X5_preparedCount (l : Launch) {G : va_G} {V : wV} {rs : List Nat} (k : Nat) (hk : k < 8) (ha : bA rs) (M R : wM) (o : wO) : CT l G V rs yX5_preparedCount wsX5_preparedCount 0 0 0 0 [.ref (V.1 (rTr k))] (M, R, o) (fun v u => v = some (.int (nI (tPre M k))) ∧ u = (M, R, o)) (fun _ _ => False) := by
  refine ct_of (cc := cX5_preparedCount) (maxL := 3) (ret := (some .int)) (by decide) rfl (Nat.le_of_ble_eq_true rfl) ?_
  intro p e s m below meth cd ls C h X hT hl
  have hx := C.1
  have hy := C.2.1
  have hl : lv_has ls 3 [(0, .ref (V.1 (rTr k)))] := hl
  refine lv_iconst (v := (nI 0)) hx hy dX5_preparedCount_0 (by decide) ?_
  refine lv_istore_n (lv' := [(1, .int (nI 0)), (0, .ref (V.1 (rTr k)))]) hx hy dX5_preparedCount_1 rfl hl (by decide) rfl (fun ls hl => ?_)
  refine lv_iconst (v := (nI 0)) hx hy dX5_preparedCount_2 (by decide) ?_
  refine lv_istore_n (lv' := [(2, .int (nI 0)), (1, .int (nI 0)), (0, .ref (V.1 (rTr k)))]) hx hy dX5_preparedCount_3 rfl hl (by decide) rfl (fun ls hl => ?_)
  have L_4 : ∀ (n_4 j : Nat), n_4 + j = 2 → ∀ (H : Heap) (locs : List Loc), HH G V rs (M, R, o) s H locs → ∀ ls : Array Slot, lv_has ls 3 [(2, .int (nI j)), (1, .int (nI (cntB (fun j => decide (M (rSt k) j = nI 112)) j))), (0, .ref (V.1 (rTr k)))] → W p l e { frames := 0, cells := 0, slots := 0, locals := 0 } s m [.ref (V.1 (rTr k))].toArray below meth cd H locs 0 0 (QM G V rs below [.ref (V.1 (rTr k))].toArray s 0 0 (fun v u => v = some (.int (nI (tPre M k))) ∧ u = (M, R, o)) (fun _ _ => False)) (F0 m 4 ls []) := by
    intro n_4
    induction n_4 with
    | zero =>
      intro j hk_4 H locs h ls hl
      have hz_4 : j = 2 := by omega
      try rw [hz_4] at h
      try rw [hz_4] at hl
      refine lv_iload_n hx hy dX5_preparedCount_4 rfl (lv_at hl 0 rfl) ?_
      refine lv_iconst (v := (nI 2)) hx hy dX5_preparedCount_5 (by decide) ?_
      refine n_ge hx hy (by decide) (by decide) (tgt := 29) dX5_preparedCount_6 (by decide) (fun c_6 => ?_) (fun c_6 => ?_)
      · skip
        refine lv_iload_n hx hy dX5_preparedCount_29 rfl (lv_at hl 1 rfl) ?_
        exact e_int C h rfl dX5_preparedCount_30 (⟨rfl, rfl⟩) (by decide) (by decide)
      · skip
        exact absurd c_6 (by omega)
    | succ n_4 ih_4 =>
      intro j hk_4 H locs h ls hl
      have hz_4 : j < 2 := by omega
      refine lv_iload_n hx hy dX5_preparedCount_4 rfl (lv_at hl 0 rfl) ?_
      refine lv_iconst (v := (nI 2)) hx hy dX5_preparedCount_5 (by decide) ?_
      refine n_ge hx hy (by omega) (by decide) (tgt := 29) dX5_preparedCount_6 (by decide) (fun c_6 => ?_) (fun c_6 => ?_)
      · skip
        exact absurd c_6 (by omega)
      · skip
        refine lv_aload_n hx hy dX5_preparedCount_9 rfl (lv_at hl 2 rfl) ?_
        refine g_f C h (ha.2 (84 + 2 * k) (by omega) (by omega)) (lo_Tr hk) (celF_Tr hk) rfl in_X5_preparedCount_X5 3 (by decide) (by decide +kernel) (v := .ref (V.1 (rSt k))) rfl dX5_preparedCount_10 ?_
        refine lv_iload_n hx hy dX5_preparedCount_13 rfl (lv_at hl 0 rfl) ?_
        refine g_c C h (ha.2 (85 + 2 * k) (by omega) (by omega)) (n := 2) (k := j) (lo_St hk) (celF_St hk) (by omega) (by decide) (v := (M (rSt k) j)) rfl dX5_preparedCount_14 ?_
        refine lv_bipush (v := (nI 112)) hx hy dX5_preparedCount_15 (by decide) ?_
        refine i_ne hx hy (tgt := 23) dX5_preparedCount_17 (by decide) (fun c_17 => ?_) (fun c_17 => ?_)
        · skip
          refine lv_iinc (v := (nI (j + 1))) (lv' := [(2, .int (nI (j + 1))), (1, .int (nI (cntB (fun j => decide (M (rSt k) j = nI 112)) j))), (0, .ref (V.1 (rTr k)))]) hx hy dX5_preparedCount_23 hl (k := 0) rfl (nI_1 _) (by decide) rfl (fun ls hl => ?_)
          refine lv_goto (tgt := 4) hx hy dX5_preparedCount_26 (by decide) ?_
          exact ih_4 (j + 1) (by omega) _ _ h _ (by have hl := lv_sub hl [0, 1, 2] (l' := [(2, .int (nI (j + 1))), (1, .int (nI (cntB (fun j => decide (M (rSt k) j = nI 112)) j))), (0, .ref (V.1 (rTr k)))]) rfl; rw [show (.int (nI (j + 1)) : Value) = .int (nI (j + 1)) from rfl] at hl; rw [show (.int (nI (cntB (fun j => decide (M (rSt k) j = nI 112)) j)) : Value) = .int (nI (cntB (fun j => decide (M (rSt k) j = nI 112)) (j + 1))) from by simp [cntB, eq_true c_6, eq_false (Nat.not_le.mpr c_6), eq_false c_17]] at hl; exact hl)
        · skip
          refine lv_iinc (v := (nI ((cntB (fun j => decide (M (rSt k) j = nI 112)) j) + 1))) (lv' := [(1, .int (nI ((cntB (fun j => decide (M (rSt k) j = nI 112)) j) + 1))), (2, .int (nI j)), (0, .ref (V.1 (rTr k)))]) hx hy dX5_preparedCount_20 hl (k := 1) rfl (nI_1 _) (by decide) rfl (fun ls hl => ?_)
          refine lv_iinc (v := (nI (j + 1))) (lv' := [(2, .int (nI (j + 1))), (1, .int (nI ((cntB (fun j => decide (M (rSt k) j = nI 112)) j) + 1))), (0, .ref (V.1 (rTr k)))]) hx hy dX5_preparedCount_23 hl (k := 1) rfl (nI_1 _) (by decide) rfl (fun ls hl => ?_)
          refine lv_goto (tgt := 4) hx hy dX5_preparedCount_26 (by decide) ?_
          exact ih_4 (j + 1) (by omega) _ _ h _ (by have hl := lv_sub hl [0, 1, 2] (l' := [(2, .int (nI (j + 1))), (1, .int (nI ((cntB (fun j => decide (M (rSt k) j = nI 112)) j) + 1))), (0, .ref (V.1 (rTr k)))]) rfl; rw [show (.int (nI (j + 1)) : Value) = .int (nI (j + 1)) from rfl] at hl; rw [show (.int (nI ((cntB (fun j => decide (M (rSt k) j = nI 112)) j) + 1)) : Value) = .int (nI (cntB (fun j => decide (M (rSt k) j = nI 112)) (j + 1))) from by simp [cntB, eq_true c_6, eq_false (Nat.not_le.mpr c_6), eq_true c_17]] at hl; exact hl)
  exact L_4 (2) 0 (by omega) _ _ h _ (by have hl := lv_sub hl [0, 1, 2] (l' := [(2, .int (nI 0)), (1, .int (nI 0)), (0, .ref (V.1 (rTr k)))]) rfl; rw [show (.int (nI 0) : Value) = .int (nI (cntB (fun j => decide (M (rSt k) j = nI 112)) 0)) from rfl] at hl; exact hl)

set_option maxRecDepth 20000 in
theorem in_X6_gateWithVote_X0 : ∀ x ∈ wsX00, x ∈ wsX6_gateWithVote := by decide +kernel
set_option maxRecDepth 20000 in
theorem in_X6_gateWithVote_X6 : ∀ x ∈ wsX60, x ∈ wsX6_gateWithVote := by decide +kernel
set_option maxRecDepth 20000 in
theorem at_X6_gateWithVote_39 : ∀ w ∈ (nx_atS RX6 145 "java/util/NoSuchElementException" ["java/lang/RuntimeException", "java/lang/Exception"]).filter goodWord, w ∈ wsX6_gateWithVote := by decide +kernel
set_option maxRecDepth 100000 in
set_option maxHeartbeats 4000000 in
/-- X6_gateWithVote -/
theorem c_X6_gateWithVote (l : Launch) {G : va_G} {V : wV} {rs : List Nat} (hl9 : l.stackTraces = false) (ha : bA rs) (M R : wM) (o : wO) (iv : IV M) (ca to ga : Int32) : CT l G V rs yX6_gateWithVote wsX6_gateWithVote 8 131 4 24 [.ref (V.1 rMain), .int ca, .int to, .int ga] (M, R, o) (fun v u => u = (M, R, o) ∧ ∃ c t g, c < 2 ∧ t < tcN M c ∧ g < 3 ∧ ca = nI c ∧ to = nI t ∧ ga = nI g ∧ gHeld M c g t (nowM M) = true ∧ v = some (.ref (V.1 (rGate c g)))) (fun E u => XE [eIOE, eNSE] (kVote M ca to ga) E ∧ u = (M, R, o)) := by
  refine ct_of (cc := cX6_gateWithVote) (maxL := 6) (ret := (some (.object "Castlequorum$Gate"))) (by decide) rfl (Nat.le_of_ble_eq_true rfl) ?_
  intro p e s m below meth cd ls C h X hT hl
  have hx := C.1
  have hy := C.2.1
  have hl : lv_has ls 6 [(0, .ref (V.1 rMain)), (1, .int ca), (2, .int to), (3, .int ga)] := hl
  have hsc := iv.2.1.2
  have htn := iv.2.2.1.2
  refine lv_aload_n hx hy dX6_gateWithVote_0 rfl (lv_at hl 0 rfl) ?_
  refine lv_iload_n hx hy dX6_gateWithVote_1 rfl (lv_at hl 1 rfl) ?_
  refine n_go C h hT (n_V (As := [.int ca]) (rest := []) C h X (ha.2 60 (by decide) (by decide)) (lo_Main.trans (celF_Main _)) rfl (c_X6_castleAt l hl9 ha M R o ca) (cwV 1 C.2.2.2.2.1 gX6_gateWithVote_X6_castleAt rfl rfl rfl (by decide +kernel) ⟨Nat.le_of_ble_eq_true rfl, Nat.le_of_ble_eq_true rfl⟩) rfl hl.1 rfl (Nat.le_of_ble_eq_true rfl) dX6_gateWithVote_2 ⟨by decide, by decide⟩) (fun E u hE => ⟨XE_of (k := 1) (by simp [kTow, kEnt, kVote, kBuild, kWait, kCut, vG3, kLease, kGive, kG3, kOpen, kCL, kC, kOrd, kHas, kScout, kRead, kRaid, kTruce, vP3, kPrep, kDec, kSet, kTC, hE.2.1]) (by decide) (by rw [hE.1]; rfl), hE.2.2⟩) (by decide) (by decide) (fun v_2 u_2 H locs hpo h => ?_)
  obtain ⟨rfl, c, hc, rfl, rfl⟩ := hpo
  have hv_c : vIn (nI c) 2 = true := vIn_nI hc (by decide)
  have hi_c : cI (nI c) = c := cI_nI hc (by decide)
  have hc_c : vC (nI c) = true := hv_c
  refine lv_astore (lv' := [(4, .ref (V.1 (rCas c))), (0, .ref (V.1 rMain)), (1, .int (nI c)), (2, .int to), (3, .int ga)]) hx hy dX6_gateWithVote_5 hl (by decide) rfl (fun ls hl => ?_)
  refine lv_aload hx hy dX6_gateWithVote_7 (lv_at hl 0 rfl) ?_
  refine lv_iload_n hx hy dX6_gateWithVote_9 rfl (lv_at hl 3 rfl) ?_
  refine n_go C h hT (n_S (As := [.ref (V.1 (rCas c)), .int to]) (rest := []) C h X (c_X6_requireTower l hl9 c hc (ha.1 c hc) M R o (tcN M c) (iv.1 c hc).2.1 (iv.1 c hc).1 to) (va_cwS 2 C.2.2.2.2.1 gX6_gateWithVote_X6_requireTower rfl rfl rfl (by decide +kernel) ⟨Nat.le_of_ble_eq_true rfl, Nat.le_of_ble_eq_true rfl⟩) rfl hl.1 rfl (Nat.le_of_ble_eq_true rfl) dX6_gateWithVote_10 ⟨by decide, by decide⟩) (fun E u hE => ⟨XE_of (k := 1) (by simp [kTow, kEnt, kVote, kBuild, kWait, kCut, vG3, kLease, kGive, kG3, kOpen, kCL, kC, kOrd, kHas, kScout, kRead, kRaid, kTruce, vP3, kPrep, kDec, kSet, kTC, hE.2.1, hi_c, hv_c, hc_c]) (by decide) (by rw [hE.1]; rfl), hE.2.2⟩) (by decide) (by decide) (fun v_10 u_10 H locs hpo h => ?_)
  have htc7 := (iv.1 c hc).2.1
  obtain ⟨rfl, rfl, t, ht, rfl⟩ := hpo
  have hv_t : vIn (nI t) (tcN M c) = true := vIn_nI ht (by omega)
  have hi_t : cI (nI t) = t := cI_nI ht (by omega)
  have ht7 : t < 7 := by omega
  refine lv_iload_n hx hy dX6_gateWithVote_13 rfl (lv_at hl 4 rfl) ?_
  refine n_go C h hT (n_S (As := [.int ga]) (rest := []) C h X (c_X6_requireGate l hl9 M R o ga) (va_cwS 1 C.2.2.2.2.1 gX6_gateWithVote_X6_requireGate rfl rfl rfl (by decide +kernel) ⟨Nat.le_of_ble_eq_true rfl, Nat.le_of_ble_eq_true rfl⟩) rfl hl.1 rfl (Nat.le_of_ble_eq_true rfl) dX6_gateWithVote_14 ⟨by decide, by decide⟩) (fun E u hE => ⟨XE_of (k := 1) (by simp [kTow, kEnt, kVote, kBuild, kWait, kCut, vG3, kLease, kGive, kG3, kOpen, kCL, kC, kOrd, kHas, kScout, kRead, kRaid, kTruce, vP3, kPrep, kDec, kSet, kTC, hE.2.1, hi_c, hv_c, hc_c, hi_t, hv_t]) (by decide) (by rw [hE.1]; rfl), hE.2.2⟩) (by decide) (by decide) (fun v_14 u_14 H locs hpo h => ?_)
  obtain ⟨rfl, rfl, g, hg, rfl⟩ := hpo
  have hv_g : vIn (nI g) 3 = true := vIn_nI hg (by decide)
  have hi_g : cI (nI g) = g := cI_nI hg (by decide)
  refine lv_aload hx hy dX6_gateWithVote_17 (lv_at hl 0 rfl) ?_
  refine g_f C h ((ha.1 c hc) 0 (by decide)) (lo_Cas hc) (celF_Cas hc) rfl in_X6_gateWithVote_X0 6 (by decide) (by decide +kernel) (v := .ref (V.1 (rGs c))) rfl dX6_gateWithVote_19 ?_
  refine lv_iload_n hx hy dX6_gateWithVote_22 rfl (lv_at hl 4 rfl) ?_
  refine g_a C h ((ha.1 c hc) 3 (by decide)) 3 (n := 3) (k := g) (lo_Gs hc) ((celF_Gs hc) _) rfl (by omega) (by decide) (a := V.1 (rGate c g)) rfl dX6_gateWithVote_23 ?_
  refine lv_astore (lv' := [(5, .ref (V.1 (rGate c g))), (4, .ref (V.1 (rCas c))), (0, .ref (V.1 rMain)), (1, .int (nI c)), (2, .int (nI t)), (3, .int (nI g))]) hx hy dX6_gateWithVote_24 hl (by decide) rfl (fun ls hl => ?_)
  refine lv_aload hx hy dX6_gateWithVote_26 (lv_at hl 0 rfl) ?_
  refine lv_iload_n hx hy dX6_gateWithVote_28 rfl (lv_at hl 4 rfl) ?_
  refine lv_aload_n hx hy dX6_gateWithVote_29 rfl (lv_at hl 2 rfl) ?_
  refine g_f C h (ha.2 60 (by decide) (by decide)) lo_Main celF_Main rfl in_X6_gateWithVote_X6 7 (by decide) (by decide +kernel) (v := .int (M rMain 7)) rfl dX6_gateWithVote_30 ?_
  refine n_go0 C h (n_V (As := [.int (nI t), .int (M rMain 7)]) (rest := []) C h X ((ha.1 c hc) (4 + 4 * g) (by omega)) ((lo_Gate hc hg).trans ((celF_Gate hc hg) _)) rfl (c_X1_isVoteHeld l c g hc hg (ha.1 c hc) M R o t ht7 (M rMain 7)) (cwV 2 C.2.2.2.2.1 gX6_gateWithVote_X1_isVoteHeld rfl rfl rfl (by decide +kernel) ⟨Nat.le_of_ble_eq_true rfl, Nat.le_of_ble_eq_true rfl⟩) rfl hl.1 rfl (Nat.le_of_ble_eq_true rfl) dX6_gateWithVote_33 ⟨by decide, by decide⟩) (fun _ _ z => z) (fun v_33 u_33 H locs hpo h => ?_)
  obtain ⟨rfl, rfl⟩ := hpo
  refine b_ne hx hy (tgt := 50) dX6_gateWithVote_36 (by decide) (fun c_36 => ?_) (fun c_36 => ?_)
  · skip
    refine lv_aload hx hy dX6_gateWithVote_50 (lv_at hl 0 rfl) ?_
    exact e_ref C h (Or.inl ⟨_, rfl⟩) dX6_gateWithVote_52 (⟨rfl, c, t, g, hc, ht, hg, rfl, rfl, rfl, c_36, rfl⟩) (by decide) (by decide)
  · skip
    exact t_wideN (ic := 145) (ik := 141) (is := 356) (cls := "java/util/NoSuchElementException") (text := tx_356) C h X hT hl9 (by decide) (by decide) (by decide) hl.1 (by decide +kernel) (by decide +kernel) at_X6_gateWithVote_39 bad_NSE good_NSE_141 dX6_gateWithVote_39 dX6_gateWithVote_42 dX6_gateWithVote_43 dX6_gateWithVote_46 dX6_gateWithVote_49 (by decide) (by decide) (by decide) (by decide) (by decide) (by decide) (⟨XE_of (k := 2) (by simp [kVote, hi_c, hv_c, hc_c, hi_t, hv_t, hi_g, hv_g, c_36]) (by decide) rfl, rfl⟩)

set_option maxRecDepth 20000 in
theorem in_X6_rowWithEntry_X0 : ∀ x ∈ wsX00, x ∈ wsX6_rowWithEntry := by decide +kernel
set_option maxRecDepth 20000 in
theorem at_X6_rowWithEntry_21 : ∀ w ∈ (vx_atS RX6 342 "java/lang/IndexOutOfBoundsException" ["java/lang/RuntimeException", "java/lang/Exception"]).filter goodWord, w ∈ wsX6_rowWithEntry := by decide +kernel
set_option maxRecDepth 20000 in
theorem in_X6_rowWithEntry_X3 : ∀ x ∈ wsX30, x ∈ wsX6_rowWithEntry := by decide +kernel
set_option maxRecDepth 100000 in
set_option maxHeartbeats 4000000 in
/-- X6_rowWithEntry -/
theorem c_X6_rowWithEntry (l : Launch) {G : va_G} {V : wV} {rs : List Nat} (hl9 : l.stackTraces = false) (ha : bA rs) (M R : wM) (o : wO) (iv : IV M) (ca en0 : Int32) : CT l G V rs yX6_rowWithEntry wsX6_rowWithEntry 8 131 2 12 [.ref (V.1 rMain), .int ca, .int en0] (M, R, o) (fun v u => u = (M, R, o) ∧ ∃ c en, c < 2 ∧ en < szN M c ∧ ca = nI c ∧ en0 = nI en ∧ v = some (.ref (V.1 (rRow c)))) (fun E u => E = eIOE ∧ (vC ca && vIn en0 (szN M (cI ca))) = false ∧ u = (M, R, o)) := by
  refine ct_of (cc := cX6_rowWithEntry) (maxL := 4) (ret := (some (.object "Castlequorum$Row"))) (by decide) rfl (Nat.le_of_ble_eq_true rfl) ?_
  intro p e s m below meth cd ls C h X hT hl
  have hx := C.1
  have hy := C.2.1
  have hl : lv_has ls 4 [(0, .ref (V.1 rMain)), (1, .int ca), (2, .int en0)] := hl
  have hsc := iv.2.1.2
  have htn := iv.2.2.1.2
  refine lv_aload_n hx hy dX6_rowWithEntry_0 rfl (lv_at hl 0 rfl) ?_
  refine lv_iload_n hx hy dX6_rowWithEntry_1 rfl (lv_at hl 1 rfl) ?_
  refine n_go C h hT (n_V (As := [.int ca]) (rest := []) C h X (ha.2 60 (by decide) (by decide)) (lo_Main.trans (celF_Main _)) rfl (c_X6_castleAt l hl9 ha M R o ca) (cwV 1 C.2.2.2.2.1 gX6_rowWithEntry_X6_castleAt rfl rfl rfl (by decide +kernel) ⟨Nat.le_of_ble_eq_true rfl, Nat.le_of_ble_eq_true rfl⟩) rfl hl.1 rfl (Nat.le_of_ble_eq_true rfl) dX6_rowWithEntry_2 ⟨by decide, by decide⟩) (fun E u hE => ⟨hE.1, by simp [kEnt, hE.2.1], hE.2.2⟩) (by decide) (by decide) (fun v_2 u_2 H locs hpo h => ?_)
  obtain ⟨rfl, c, hc, rfl, rfl⟩ := hpo
  have hv_c : vIn (nI c) 2 = true := vIn_nI hc (by decide)
  have hi_c : cI (nI c) = c := cI_nI hc (by decide)
  have hc_c : vC (nI c) = true := hv_c
  refine g_f C h ((ha.1 c hc) 0 (by decide)) (lo_Cas hc) (celF_Cas hc) rfl in_X6_rowWithEntry_X0 7 (by decide) (by decide +kernel) (v := .ref (V.1 (rRow c))) rfl dX6_rowWithEntry_5 ?_
  refine lv_astore_n (lv' := [(3, .ref (V.1 (rRow c))), (0, .ref (V.1 rMain)), (1, .int (nI c)), (2, .int en0)]) hx hy dX6_rowWithEntry_8 rfl hl (by decide) rfl (fun ls hl => ?_)
  refine lv_iload_n hx hy dX6_rowWithEntry_9 rfl (lv_at hl 3 rfl) ?_
  refine z_lt hx hy (tgt := 21) dX6_rowWithEntry_10 (by decide) (fun c_10 => ?_) (fun c_10 => ?_)
  · skip
    exact t_wide (ic := 342) (ik := 338) (is := 358) (cls := "java/lang/IndexOutOfBoundsException") (text := tx_358) C h X hT hl9 (by decide) (by decide) (by decide) hl.1 (by decide +kernel) (by decide +kernel) at_X6_rowWithEntry_21 bad_IOE good_IOE_338 dX6_rowWithEntry_21 dX6_rowWithEntry_24 dX6_rowWithEntry_25 dX6_rowWithEntry_28 dX6_rowWithEntry_31 (by decide) (by decide) (by decide) (by decide) (by decide) (by decide) (⟨rfl, by simp [vIn, hi_c, hv_c, hc_c, eq_true c_10, eq_false (Int32.not_le.mpr c_10)], rfl⟩)
  · skip
    refine lv_iload_n hx hy dX6_rowWithEntry_13 rfl (lv_at hl 3 rfl) ?_
    refine lv_aload_n hx hy dX6_rowWithEntry_14 rfl (lv_at hl 0 rfl) ?_
    refine g_f C h ((ha.1 c hc) 16 (by decide)) (lo_Row hc) (celF_Row hc) rfl in_X6_rowWithEntry_X3 0 (by decide) (by decide +kernel) (v := .int (nI (szN M c))) (congrArg (fun z => some (Value.int z)) (show M (rRow c) 0 = (nI (szN M c)) from (iv.1 c hc).2.2.1)) dX6_rowWithEntry_15 ?_
    refine i_lt hx hy (tgt := 32) dX6_rowWithEntry_18 (by decide) (fun c_18 => ?_) (fun c_18 => ?_)
    · skip
      refine lv_aload_n hx hy dX6_rowWithEntry_32 rfl (lv_at hl 0 rfl) ?_
      exact e_ref C h (Or.inl ⟨_, rfl⟩) dX6_rowWithEntry_33 (by obtain ⟨en, hen, rfl⟩ := vIn_ok c_10 c_18 (by have := (iv.1 c hc).2.2.2.1; omega); exact ⟨rfl, c, en, hc, hen, rfl, rfl, rfl⟩) (by decide) (by decide)
    · skip
      exact t_wide (ic := 342) (ik := 338) (is := 358) (cls := "java/lang/IndexOutOfBoundsException") (text := tx_358) C h X hT hl9 (by decide) (by decide) (by decide) hl.1 (by decide +kernel) (by decide +kernel) at_X6_rowWithEntry_21 bad_IOE good_IOE_338 dX6_rowWithEntry_21 dX6_rowWithEntry_24 dX6_rowWithEntry_25 dX6_rowWithEntry_28 dX6_rowWithEntry_31 (by decide) (by decide) (by decide) (by decide) (by decide) (by decide) (⟨rfl, by simp [vIn, hi_c, hv_c, hc_c, eq_true c_10, eq_false (Int32.not_lt.mpr c_10), eq_true c_18, eq_false (Int32.not_lt.mpr c_18)], rfl⟩)

set_option maxRecDepth 20000 in
theorem at_X6_sightAt_12 : ∀ w ∈ (vx_atS RX6 342 "java/lang/IndexOutOfBoundsException" ["java/lang/RuntimeException", "java/lang/Exception"]).filter goodWord, w ∈ wsX6_sightAt := by decide +kernel
set_option maxRecDepth 20000 in
theorem in_X6_sightAt_X6 : ∀ x ∈ wsX60, x ∈ wsX6_sightAt := by decide +kernel
set_option maxRecDepth 100000 in
set_option maxHeartbeats 4000000 in
/-- X6_sightAt -/
theorem c_X6_sightAt (l : Launch) {G : va_G} {V : wV} {rs : List Nat} (hl9 : l.stackTraces = false) (ha : bA rs) (M R : wM) (o : wO) (iv : IV M) (x : Int32) : CT l G V rs yX6_sightAt wsX6_sightAt 6 90 1 6 [.ref (V.1 rMain), .int x] (M, R, o) (fun v u => u = (M, R, o) ∧ ∃ k, k < scN M ∧ x = nI k ∧ v = some (.ref (V.1 (rSi k)))) (fun E u => E = eIOE ∧ vIn x (scN M) = false ∧ u = (M, R, o)) := by
  refine ct_of (cc := cX6_sightAt) (maxL := 2) (ret := (some (.object "Castlequorum$Sight"))) (by decide) rfl (Nat.le_of_ble_eq_true rfl) ?_
  intro p e s m below meth cd ls C h X hT hl
  have hx := C.1
  have hy := C.2.1
  have hl : lv_has ls 2 [(0, .ref (V.1 rMain)), (1, .int x)] := hl
  have hsc := iv.2.1.2
  have htn := iv.2.2.1.2
  refine lv_iload_n hx hy dX6_sightAt_0 rfl (lv_at hl 1 rfl) ?_
  refine z_lt hx hy (tgt := 12) dX6_sightAt_1 (by decide) (fun c_1 => ?_) (fun c_1 => ?_)
  · skip
    exact t_wide (ic := 342) (ik := 338) (is := 360) (cls := "java/lang/IndexOutOfBoundsException") (text := tx_360) C h X hT hl9 (by decide) (by decide) (by decide) hl.1 (by decide +kernel) (by decide +kernel) at_X6_sightAt_12 bad_IOE good_IOE_338 dX6_sightAt_12 dX6_sightAt_15 dX6_sightAt_16 dX6_sightAt_19 dX6_sightAt_22 (by decide) (by decide) (by decide) (by decide) (by decide) (by decide) (⟨rfl, by simp [vIn, eq_true c_1, eq_false (Int32.not_le.mpr c_1)], rfl⟩)
  · skip
    refine lv_iload_n hx hy dX6_sightAt_4 rfl (lv_at hl 1 rfl) ?_
    refine lv_aload_n hx hy dX6_sightAt_5 rfl (lv_at hl 0 rfl) ?_
    refine g_f C h (ha.2 60 (by decide) (by decide)) lo_Main celF_Main rfl in_X6_sightAt_X6 5 (by decide) (by decide +kernel) (v := .int (nI (scN M))) (congrArg (fun z => some (Value.int z)) (show M rMain 5 = (nI (scN M)) from iv.2.1.1)) dX6_sightAt_6 ?_
    refine i_lt hx hy (tgt := 23) dX6_sightAt_9 (by decide) (fun c_9 => ?_) (fun c_9 => ?_)
    · skip
      obtain ⟨k, hk, rfl⟩ := vIn_ok c_1 c_9 (by omega)
      refine lv_aload_n hx hy dX6_sightAt_23 rfl (lv_at hl 0 rfl) ?_
      refine g_f C h (ha.2 60 (by decide) (by decide)) lo_Main celF_Main rfl in_X6_sightAt_X6 2 (by decide) (by decide +kernel) (v := .ref (V.1 rSis)) rfl dX6_sightAt_24 ?_
      refine lv_iload_n hx hy dX6_sightAt_27 rfl (lv_at hl 1 rfl) ?_
      refine g_a C h (ha.2 61 (by decide) (by decide)) 4 (n := 20) (k := k) lo_Sis (celF_Sis _) rfl (by omega) (by decide) (a := V.1 (rSi k)) rfl dX6_sightAt_28 ?_
      exact e_ref C h (Or.inl ⟨_, rfl⟩) dX6_sightAt_29 (⟨rfl, k, hk, rfl, rfl⟩) (by decide) (by decide)
    · skip
      exact t_wide (ic := 342) (ik := 338) (is := 360) (cls := "java/lang/IndexOutOfBoundsException") (text := tx_360) C h X hT hl9 (by decide) (by decide) (by decide) hl.1 (by decide +kernel) (by decide +kernel) at_X6_sightAt_12 bad_IOE good_IOE_338 dX6_sightAt_12 dX6_sightAt_15 dX6_sightAt_16 dX6_sightAt_19 dX6_sightAt_22 (by decide) (by decide) (by decide) (by decide) (by decide) (by decide) (⟨rfl, by simp [vIn, eq_true c_1, eq_false (Int32.not_lt.mpr c_1), eq_true c_9, eq_false (Int32.not_lt.mpr c_9)], rfl⟩)

set_option maxRecDepth 20000 in
theorem at_X6_truceAt_12 : ∀ w ∈ (vx_atS RX6 342 "java/lang/IndexOutOfBoundsException" ["java/lang/RuntimeException", "java/lang/Exception"]).filter goodWord, w ∈ wsX6_truceAt := by decide +kernel
set_option maxRecDepth 20000 in
theorem in_X6_truceAt_X6 : ∀ x ∈ wsX60, x ∈ wsX6_truceAt := by decide +kernel
set_option maxRecDepth 100000 in
set_option maxHeartbeats 4000000 in
/-- X6_truceAt -/
theorem c_X6_truceAt (l : Launch) {G : va_G} {V : wV} {rs : List Nat} (hl9 : l.stackTraces = false) (ha : bA rs) (M R : wM) (o : wO) (iv : IV M) (x : Int32) : CT l G V rs yX6_truceAt wsX6_truceAt 6 90 1 6 [.ref (V.1 rMain), .int x] (M, R, o) (fun v u => u = (M, R, o) ∧ ∃ k, k < tnN M ∧ x = nI k ∧ v = some (.ref (V.1 (rTr k)))) (fun E u => E = eIOE ∧ vIn x (tnN M) = false ∧ u = (M, R, o)) := by
  refine ct_of (cc := cX6_truceAt) (maxL := 2) (ret := (some (.object "Castlequorum$Truce"))) (by decide) rfl (Nat.le_of_ble_eq_true rfl) ?_
  intro p e s m below meth cd ls C h X hT hl
  have hx := C.1
  have hy := C.2.1
  have hl : lv_has ls 2 [(0, .ref (V.1 rMain)), (1, .int x)] := hl
  have hsc := iv.2.1.2
  have htn := iv.2.2.1.2
  refine lv_iload_n hx hy dX6_truceAt_0 rfl (lv_at hl 1 rfl) ?_
  refine z_lt hx hy (tgt := 12) dX6_truceAt_1 (by decide) (fun c_1 => ?_) (fun c_1 => ?_)
  · skip
    exact t_wide (ic := 342) (ik := 338) (is := 362) (cls := "java/lang/IndexOutOfBoundsException") (text := tx_362) C h X hT hl9 (by decide) (by decide) (by decide) hl.1 (by decide +kernel) (by decide +kernel) at_X6_truceAt_12 bad_IOE good_IOE_338 dX6_truceAt_12 dX6_truceAt_15 dX6_truceAt_16 dX6_truceAt_19 dX6_truceAt_22 (by decide) (by decide) (by decide) (by decide) (by decide) (by decide) (⟨rfl, by simp [vIn, eq_true c_1, eq_false (Int32.not_le.mpr c_1)], rfl⟩)
  · skip
    refine lv_iload_n hx hy dX6_truceAt_4 rfl (lv_at hl 1 rfl) ?_
    refine lv_aload_n hx hy dX6_truceAt_5 rfl (lv_at hl 0 rfl) ?_
    refine g_f C h (ha.2 60 (by decide) (by decide)) lo_Main celF_Main rfl in_X6_truceAt_X6 6 (by decide) (by decide +kernel) (v := .int (nI (tnN M))) (congrArg (fun z => some (Value.int z)) (show M rMain 6 = (nI (tnN M)) from iv.2.2.1.1)) dX6_truceAt_6 ?_
    refine i_lt hx hy (tgt := 23) dX6_truceAt_9 (by decide) (fun c_9 => ?_) (fun c_9 => ?_)
    · skip
      obtain ⟨k, hk, rfl⟩ := vIn_ok c_1 c_9 (by omega)
      refine lv_aload_n hx hy dX6_truceAt_23 rfl (lv_at hl 0 rfl) ?_
      refine g_f C h (ha.2 60 (by decide) (by decide)) lo_Main celF_Main rfl in_X6_truceAt_X6 3 (by decide) (by decide +kernel) (v := .ref (V.1 rTrs)) rfl dX6_truceAt_24 ?_
      refine lv_iload_n hx hy dX6_truceAt_27 rfl (lv_at hl 1 rfl) ?_
      refine g_a C h (ha.2 62 (by decide) (by decide)) 5 (n := 8) (k := k) lo_Trs (celF_Trs _) rfl (by omega) (by decide) (a := V.1 (rTr k)) rfl dX6_truceAt_28 ?_
      exact e_ref C h (Or.inl ⟨_, rfl⟩) dX6_truceAt_29 (⟨rfl, k, hk, rfl, rfl⟩) (by decide) (by decide)
    · skip
      exact t_wide (ic := 342) (ik := 338) (is := 362) (cls := "java/lang/IndexOutOfBoundsException") (text := tx_362) C h X hT hl9 (by decide) (by decide) (by decide) hl.1 (by decide +kernel) (by decide +kernel) at_X6_truceAt_12 bad_IOE good_IOE_338 dX6_truceAt_12 dX6_truceAt_15 dX6_truceAt_16 dX6_truceAt_19 dX6_truceAt_22 (by decide) (by decide) (by decide) (by decide) (by decide) (by decide) (⟨rfl, by simp [vIn, eq_true c_1, eq_false (Int32.not_lt.mpr c_1), eq_true c_9, eq_false (Int32.not_lt.mpr c_9)], rfl⟩)

set_option maxRecDepth 20000 in
theorem in_X6_openTruceAt_X6 : ∀ x ∈ wsX60, x ∈ wsX6_openTruceAt := by decide +kernel
set_option maxRecDepth 20000 in
theorem in_X6_openTruceAt_X5 : ∀ x ∈ wsX50, x ∈ wsX6_openTruceAt := by decide +kernel
set_option maxRecDepth 100000 in
set_option maxHeartbeats 4000000 in
/-- openTruceAt -/
theorem c_X6_openTruceAt (l : Launch) {G : va_G} {V : wV} {rs : List Nat} (hl9 : l.stackTraces = false) (ha : bA rs) (M R : wM) (o : wO) (iv : IV M) (c : Nat) (hc : c < 2) : CT l G V rs yX6_openTruceAt wsX6_openTruceAt 0 0 0 0 [.ref (V.1 rMain), .int (nI c)] (M, R, o) (fun v u => v = some (.int (opT M c)) ∧ u = (M, R, o)) (fun _ _ => False) := by
  refine ct_of (cc := cX6_openTruceAt) (maxL := 3) (ret := (some .int)) (by decide) rfl (Nat.le_of_ble_eq_true rfl) ?_
  intro p e s m below meth cd ls C h X hT hl
  have hx := C.1
  have hy := C.2.1
  have hl : lv_has ls 3 [(0, .ref (V.1 rMain)), (1, .int (nI c))] := hl
  have hsc := iv.2.1.2
  have htn := iv.2.2.1.2
  refine lv_iconst (v := (nI 0)) hx hy dX6_openTruceAt_0 (by decide) ?_
  refine lv_istore_n (lv' := [(2, .int (nI 0)), (0, .ref (V.1 rMain)), (1, .int (nI c))]) hx hy dX6_openTruceAt_1 rfl hl (by decide) rfl (fun ls hl => ?_)
  have L_2 : ∀ (n_2 k : Nat), n_2 + k = (tnN M) → (∀ j, j < k → opP M c j = true) → ∀ (H : Heap) (locs : List Loc), HH G V rs (M, R, o) s H locs → ∀ ls : Array Slot, lv_has ls 3 [(2, .int (nI k)), (0, .ref (V.1 rMain)), (1, .int (nI c))] → W p l e { frames := 0, cells := 0, slots := 0, locals := 0 } s m [.ref (V.1 rMain), .int (nI c)].toArray below meth cd H locs 0 0 (QM G V rs below [.ref (V.1 rMain), .int (nI c)].toArray s 0 0 (fun v u => v = some (.int (opT M c)) ∧ u = (M, R, o)) (fun _ _ => False)) (F0 m 2 ls []) := by
    intro n_2
    induction n_2 with
    | zero =>
      intro k hk_2 hx2_0 H locs h ls hl
      have hz_2 : k = (tnN M) := by omega
      try rw [hz_2] at h
      try rw [hz_2] at hl
      try rw [hz_2] at hx2_0
      refine lv_iload_n hx hy dX6_openTruceAt_2 rfl (lv_at hl 0 rfl) ?_
      refine lv_aload_n hx hy dX6_openTruceAt_3 rfl (lv_at hl 1 rfl) ?_
      refine g_f C h (ha.2 60 (by decide) (by decide)) lo_Main celF_Main rfl in_X6_openTruceAt_X6 6 (by decide) (by decide +kernel) (v := .int (nI (tnN M))) (congrArg (fun z => some (Value.int z)) (show M rMain 6 = (nI (tnN M)) from iv.2.2.1.1)) dX6_openTruceAt_4 ?_
      refine n_ge hx hy (by omega) (by omega) (tgt := 34) dX6_openTruceAt_7 (by decide) (fun c_7 => ?_) (fun c_7 => ?_)
      · skip
        refine lv_iconst (v := (-1)) hx hy dX6_openTruceAt_34 (by decide) ?_
        exact e_int C h rfl dX6_openTruceAt_35 (⟨by have h9 := lead_all hx2_0; unfold opT opQ; rw [h9, if_neg (Nat.lt_irrefl _)], rfl⟩) (by decide) (by decide)
      · skip
        exact absurd c_7 (by omega)
    | succ n_2 ih_2 =>
      intro k hk_2 hx2_0 H locs h ls hl
      have hz_2 : k < (tnN M) := by omega
      refine lv_iload_n hx hy dX6_openTruceAt_2 rfl (lv_at hl 0 rfl) ?_
      refine lv_aload_n hx hy dX6_openTruceAt_3 rfl (lv_at hl 1 rfl) ?_
      refine g_f C h (ha.2 60 (by decide) (by decide)) lo_Main celF_Main rfl in_X6_openTruceAt_X6 6 (by decide) (by decide +kernel) (v := .int (nI (tnN M))) (congrArg (fun z => some (Value.int z)) (show M rMain 6 = (nI (tnN M)) from iv.2.2.1.1)) dX6_openTruceAt_4 ?_
      refine n_ge hx hy (by omega) (by omega) (tgt := 34) dX6_openTruceAt_7 (by decide) (fun c_7 => ?_) (fun c_7 => ?_)
      · skip
        exact absurd c_7 (by omega)
      · skip
        refine lv_aload_n hx hy dX6_openTruceAt_10 rfl (lv_at hl 1 rfl) ?_
        refine g_f C h (ha.2 60 (by decide) (by decide)) lo_Main celF_Main rfl in_X6_openTruceAt_X6 3 (by decide) (by decide +kernel) (v := .ref (V.1 rTrs)) rfl dX6_openTruceAt_11 ?_
        refine lv_iload_n hx hy dX6_openTruceAt_14 rfl (lv_at hl 0 rfl) ?_
        refine g_a C h (ha.2 62 (by decide) (by decide)) 5 (n := 8) (k := k) lo_Trs (celF_Trs _) rfl (by omega) (by decide) (a := V.1 (rTr k)) rfl dX6_openTruceAt_15 ?_
        refine g_f C h (ha.2 (84 + 2 * k) (by omega) (by omega)) (lo_Tr (by omega)) (celF_Tr (by omega)) rfl in_X6_openTruceAt_X5 3 (by decide) (by decide +kernel) (v := .ref (V.1 (rSt k))) rfl dX6_openTruceAt_16 ?_
        refine lv_iload_n hx hy dX6_openTruceAt_19 rfl (lv_at hl 2 rfl) ?_
        refine g_c C h (ha.2 (85 + 2 * k) (by omega) (by omega)) (n := 2) (k := c) (lo_St (by omega)) (celF_St (by omega)) (by omega) (by decide) (v := (M (rSt k) c)) rfl dX6_openTruceAt_20 ?_
        refine lv_bipush (v := (nI 112)) hx hy dX6_openTruceAt_21 (by decide) ?_
        refine i_ne hx hy (tgt := 28) dX6_openTruceAt_23 (by decide) (fun c_23 => ?_) (fun c_23 => ?_)
        · skip
          refine lv_iinc (v := (nI (k + 1))) (lv' := [(2, .int (nI (k + 1))), (0, .ref (V.1 rMain)), (1, .int (nI c))]) hx hy dX6_openTruceAt_28 hl (k := 0) rfl (nI_1 _) (by decide) rfl (fun ls hl => ?_)
          refine lv_goto (tgt := 2) hx hy dX6_openTruceAt_31 (by decide) ?_
          exact ih_2 (k + 1) (by omega) (ext_lt hx2_0 (by simp [opP, eq_true c_7, eq_false (Nat.not_le.mpr c_7), eq_false c_23])) _ _ h _ (by have hl := lv_sub hl [0, 1, 2] (l' := [(2, .int (nI (k + 1))), (0, .ref (V.1 rMain)), (1, .int (nI c))]) rfl; rw [show (.int (nI (k + 1)) : Value) = .int (nI (k + 1)) from rfl] at hl; exact hl)
        · skip
          refine lv_iload_n hx hy dX6_openTruceAt_26 rfl (lv_at hl 0 rfl) ?_
          exact e_int C h rfl dX6_openTruceAt_27 (⟨by have h9 := lead_at (p := opP M c) (Nat.le_of_lt hz_2) hx2_0 (by simp [opP, eq_true c_7, eq_false (Nat.not_le.mpr c_7), eq_true c_23]); unfold opT opQ; rw [h9, if_pos hz_2], rfl⟩) (by decide) (by decide)
  exact L_2 ((tnN M)) 0 (by omega) (fun j hj => absurd hj (Nat.not_lt_zero j)) _ _ h _ (lv_sub hl [0, 1, 2] rfl)

set_option maxRecDepth 20000 in
theorem in_X6_canPrepare_X0 : ∀ x ∈ wsX00, x ∈ wsX6_canPrepare := by decide +kernel
set_option maxRecDepth 20000 in
theorem in_X6_canPrepare_X5 : ∀ x ∈ wsX50, x ∈ wsX6_canPrepare := by decide +kernel
set_option maxRecDepth 100000 in
set_option maxHeartbeats 4000000 in
/-- canPrepare -/
theorem c_X6_canPrepare (l : Launch) {G : va_G} {V : wV} {rs : List Nat} (hl9 : l.stackTraces = false) (ha : bA rs) (M R : wM) (o : wO) (iv : IV M) (k : Nat) (hk : k < 8) (c : Nat) (hc : c < 2) (lo : Nat) (hlo : lo < 4) : CT l G V rs yX6_canPrepare wsX6_canPrepare 8 131 1 6 [.ref (V.1 rMain), .ref (V.1 (rTr k)), .int (nI c), .int (nI lo)] (M, R, o) (fun v u => v = some (.int (b2i (canP M k c lo))) ∧ u = (canM M k c lo, R, o)) (fun _ _ => False) := by
  refine ct_of (cc := cX6_canPrepare) (maxL := 5) (ret := (some .boolean)) (by decide) rfl (Nat.le_of_ble_eq_true rfl) ?_
  intro p e s m below meth cd ls C h X hT hl
  have hx := C.1
  have hy := C.2.1
  have hl : lv_has ls 5 [(0, .ref (V.1 rMain)), (1, .ref (V.1 (rTr k))), (2, .int (nI c)), (3, .int (nI lo))] := hl
  have hsc := iv.2.1.2
  have htn := iv.2.2.1.2
  refine lv_aload_n hx hy dX6_canPrepare_0 rfl (lv_at hl 0 rfl) ?_
  refine lv_iload_n hx hy dX6_canPrepare_1 rfl (lv_at hl 2 rfl) ?_
  refine n_go C h hT (n_V (As := [.int (nI c)]) (rest := []) C h X (ha.2 60 (by decide) (by decide)) (lo_Main.trans (celF_Main _)) rfl (c_X6_castleAt l hl9 ha M R o (nI c)) (cwV 1 C.2.2.2.2.1 gX6_canPrepare_X6_castleAt rfl rfl rfl (by decide +kernel) ⟨Nat.le_of_ble_eq_true rfl, Nat.le_of_ble_eq_true rfl⟩) rfl hl.1 rfl (Nat.le_of_ble_eq_true rfl) dX6_canPrepare_2 ⟨by decide, by decide⟩) (fun E u hE => absurd hE.2.1 (by simp [vC, vIn_nI hc (show 2 < 2 ^ 31 by decide)])) (by decide) (by decide) (fun v_2 u_2 H locs hpo h => ?_)
  obtain ⟨rfl, c9, hc9, he9, rfl⟩ := hpo
  obtain rfl := nI_inj2 hc hc9 (by decide) he9
  refine lv_astore (lv' := [(4, .ref (V.1 (rCas c))), (0, .ref (V.1 rMain)), (1, .ref (V.1 (rTr k))), (2, .int (nI c)), (3, .int (nI lo))]) hx hy dX6_canPrepare_5 hl (by decide) rfl (fun ls hl => ?_)
  refine lv_aload_n hx hy dX6_canPrepare_7 rfl (lv_at hl 2 rfl) ?_
  refine n_go0 C h (n_V (As := []) (rest := []) C h X (ha.2 (84 + 2 * k) (by omega) (by omega)) ((lo_Tr hk).trans ((celF_Tr hk) _)) rfl (c_X5_isDecided l k hk ha M R o ) (cwV 0 C.2.2.2.2.1 gX6_canPrepare_X5_isDecided rfl rfl rfl (by decide +kernel) ⟨Nat.le_of_ble_eq_true rfl, Nat.le_of_ble_eq_true rfl⟩) rfl hl.1 rfl (Nat.le_of_ble_eq_true rfl) dX6_canPrepare_8 ⟨by decide, by decide⟩) (fun _ _ z => z) (fun v_8 u_8 H locs hpo h => ?_)
  obtain ⟨rfl, rfl⟩ := hpo
  refine b_ne hx hy (tgt := 22) dX6_canPrepare_11 (by decide) (fun c_11 => ?_) (fun c_11 => ?_)
  · skip
    refine lv_iconst (v := (nI 0)) hx hy dX6_canPrepare_22 (by decide) ?_
    exact e_int C h (by decide) dX6_canPrepare_23 (⟨by simp [canP, cpB, b2i, c_11], by simp [canM, cpB, c_11]⟩) (by decide) (by decide)
  · skip
    refine lv_aload_n hx hy dX6_canPrepare_14 rfl (lv_at hl 1 rfl) ?_
    refine lv_iload_n hx hy dX6_canPrepare_15 rfl (lv_at hl 3 rfl) ?_
    refine n_go0 C h (n_V (As := [.int (nI c)]) (rest := []) C h X (ha.2 60 (by decide) (by decide)) (lo_Main.trans (celF_Main _)) rfl (c_X6_openTruceAt l hl9 ha M R o iv c hc) (cwV 1 C.2.2.2.2.1 gX6_canPrepare_X6_openTruceAt rfl rfl rfl (by decide +kernel) ⟨Nat.le_of_ble_eq_true rfl, Nat.le_of_ble_eq_true rfl⟩) rfl hl.1 rfl (Nat.le_of_ble_eq_true rfl) dX6_canPrepare_16 ⟨by decide, by decide⟩) (fun _ _ z => z) (fun v_16 u_16 H locs hpo h => ?_)
    obtain ⟨rfl, rfl⟩ := hpo
    refine z_lt hx hy (tgt := 24) dX6_canPrepare_19 (by decide) (fun c_19 => ?_) (fun c_19 => ?_)
    · skip
      refine lv_aload hx hy dX6_canPrepare_24 (lv_at hl 0 rfl) ?_
      refine lv_aload hx hy dX6_canPrepare_26 (lv_at hl 0 rfl) ?_
      refine lv_iload_n hx hy dX6_canPrepare_28 rfl (lv_at hl 4 rfl) ?_
      refine n_go0 C h (n_V (As := [.int (nI lo)]) (rest := [.ref (V.1 (rCas c))]) C h X ((ha.1 c hc) 0 (by decide)) ((lo_Cas hc).trans ((celF_Cas hc) _)) rfl (c_X0_towersNear l c hc (ha.1 c hc) M R o lo hlo) (cwV 1 C.2.2.2.2.1 gX6_canPrepare_X0_towersNear rfl rfl rfl (by decide +kernel) ⟨Nat.le_of_ble_eq_true rfl, Nat.le_of_ble_eq_true rfl⟩) rfl hl.1 rfl (Nat.le_of_ble_eq_true rfl) dX6_canPrepare_29 ⟨by decide, by decide⟩) (fun _ _ z => z) (fun v_29 u_29 H locs hpo h => ?_)
      obtain ⟨rfl, rfl⟩ := hpo
      refine n_go0 C h (n_V (As := [.int (nearI M c lo)]) (rest := []) C h X ((ha.1 c hc) 0 (by decide)) ((lo_Cas hc).trans ((celF_Cas hc) _)) rfl (c_X0_isQuorum l c hc (ha.1 c hc) M R o (nearI M c lo)) (cwV 1 C.2.2.2.2.1 gX6_canPrepare_X0_isQuorum rfl rfl rfl (by decide +kernel) ⟨Nat.le_of_ble_eq_true rfl, Nat.le_of_ble_eq_true rfl⟩) rfl hl.1 rfl (Nat.le_of_ble_eq_true rfl) dX6_canPrepare_32 ⟨by decide, by decide⟩) (fun _ _ z => z) (fun v_32 u_32 H locs hpo h => ?_)
      obtain ⟨rfl, rfl⟩ := hpo
      refine b_eq hx hy (tgt := 49) dX6_canPrepare_35 (by decide) (fun c_35 => ?_) (fun c_35 => ?_)
      · skip
        refine lv_iconst (v := (nI 0)) hx hy dX6_canPrepare_49 (by decide) ?_
        exact e_int C h (by decide) dX6_canPrepare_50 (⟨by simp [canP, cpB, b2i, c_11, eq_true c_19, eq_false (Int32.not_le.mpr c_19), c_35], by simp [canM, cpB, c_11, eq_true c_19, eq_false (Int32.not_le.mpr c_19), c_35]⟩) (by decide) (by decide)
      · skip
        refine lv_aload hx hy dX6_canPrepare_38 (lv_at hl 0 rfl) ?_
        refine g_f C h ((ha.1 c hc) 0 (by decide)) (lo_Cas hc) (celF_Cas hc) rfl in_X6_canPrepare_X0 7 (by decide) (by decide +kernel) (v := .ref (V.1 (rRow c))) rfl dX6_canPrepare_40 ?_
        refine n_go0 C h (n_V (As := []) (rest := []) C h X ((ha.1 c hc) 16 (by decide)) ((lo_Row hc).trans ((celF_Row hc) _)) rfl (c_X3_isHanging l c hc (ha.1 c hc) M R o (szN M c) (iv.1 c hc).2.2.2.1 (iv.1 c hc).2.2.1 ) (cwV 0 C.2.2.2.2.1 gX6_canPrepare_X3_isHanging rfl rfl rfl (by decide +kernel) ⟨Nat.le_of_ble_eq_true rfl, Nat.le_of_ble_eq_true rfl⟩) rfl hl.1 rfl (Nat.le_of_ble_eq_true rfl) dX6_canPrepare_43 ⟨by decide, by decide⟩) (fun _ _ z => z) (fun v_43 u_43 H locs hpo h => ?_)
        obtain ⟨rfl, rfl⟩ := hpo
        refine b_eq hx hy (tgt := 51) dX6_canPrepare_46 (by decide) (fun c_46 => ?_) (fun c_46 => ?_)
        · skip
          refine lv_aload_n hx hy dX6_canPrepare_51 rfl (lv_at hl 2 rfl) ?_
          refine g_f C h (ha.2 (84 + 2 * k) (by omega) (by omega)) (lo_Tr hk) (celF_Tr hk) rfl in_X6_canPrepare_X5 0 (by decide) (by decide +kernel) (v := .int (M (rTr k) 0)) rfl dX6_canPrepare_52 ?_
          refine lv_iload_n hx hy dX6_canPrepare_55 rfl (lv_at hl 3 rfl) ?_
          refine i_ne hx hy (tgt := 74) dX6_canPrepare_56 (by decide) (fun c_56 => ?_) (fun c_56 => ?_)
          · skip
            refine lv_iconst (v := (nI 1)) hx hy dX6_canPrepare_74 (by decide) ?_
            refine lv_goto (tgt := 79) hx hy dX6_canPrepare_75 (by decide) ?_
            exact e_int C h (by decide) dX6_canPrepare_79 (⟨by simp [canP, cpB, b2i, c_11, eq_true c_19, eq_false (Int32.not_le.mpr c_19), c_35, c_46, eq_false c_56], by simp [canM, cpB, c_11, eq_true c_19, eq_false (Int32.not_le.mpr c_19), c_35, c_46, eq_false c_56]⟩) (by decide) (by decide)
          · skip
            refine lv_aload hx hy dX6_canPrepare_59 (lv_at hl 0 rfl) ?_
            refine n_go0 C h (n_V (As := []) (rest := []) C h X ((ha.1 c hc) 0 (by decide)) ((lo_Cas hc).trans ((celF_Cas hc) _)) rfl (c_X0_tellLedger l c hc (ha.1 c hc) M R o (szN M c) (iv.1 c hc).2.2.2.1 (iv.1 c hc).2.2.1 (iv.1 c hc).2.2.2.2.1 ) (cwV 0 C.2.2.2.2.1 gX6_canPrepare_X0_tellLedger rfl rfl rfl (by decide +kernel) ⟨Nat.le_of_ble_eq_true rfl, Nat.le_of_ble_eq_true rfl⟩) rfl hl.1 rfl (Nat.le_of_ble_eq_true rfl) dX6_canPrepare_61 ⟨by decide, by decide⟩) (fun _ _ z => z) (fun v_61 u_61 H locs hpo h => ?_)
            obtain ⟨rfl, rfl⟩ := hpo
            refine n_go0 C h (n_V (As := []) (rest := []) C h X ((ha.1 c hc) 23 (by decide)) ((lo_Led hc).trans ((celF_Led hc) _)) rfl (c_X2_freeGold l c hc (ha.1 c hc) (telM M c (szN M c)) R o ) (cwV 0 C.2.2.2.2.1 gX6_canPrepare_X2_freeGold rfl rfl rfl (by decide +kernel) ⟨Nat.le_of_ble_eq_true rfl, Nat.le_of_ble_eq_true rfl⟩) rfl hl.1 rfl (Nat.le_of_ble_eq_true rfl) dX6_canPrepare_64 ⟨by decide, by decide⟩) (fun _ _ z => z) (fun v_64 u_64 H locs hpo h => ?_)
            obtain ⟨rfl, rfl⟩ := hpo
            refine lv_aload_n hx hy dX6_canPrepare_67 rfl (lv_at hl 2 rfl) ?_
            refine g_f C h (ha.2 (84 + 2 * k) (by omega) (by omega)) (lo_Tr hk) (celF_Tr hk) rfl in_X6_canPrepare_X5 1 (by decide) (by decide +kernel) (v := .int (M (rTr k) 1)) (congrArg (fun z => some (Value.int z)) (show (telM M c (szN M c)) (rTr k) 1 = (M (rTr k) 1) from (congrFun (telM_ne (by simp only [rLed, rTr]; omega) (by simp only [rPu, rTr]; omega)) _))) dX6_canPrepare_68 ?_
            refine i_lt hx hy (tgt := 78) dX6_canPrepare_71 (by decide) (fun c_71 => ?_) (fun c_71 => ?_)
            · skip
              refine lv_iconst (v := (nI 0)) hx hy dX6_canPrepare_78 (by decide) ?_
              exact e_int C h (by decide) dX6_canPrepare_79 (⟨by simp [canP, cpB, b2i, c_11, eq_true c_19, eq_false (Int32.not_le.mpr c_19), c_35, c_46, eq_true c_56, eq_true c_71, eq_false (Int32.not_le.mpr c_71)], by simp [canM, cpB, c_11, eq_true c_19, eq_false (Int32.not_le.mpr c_19), c_35, c_46, eq_true c_56, eq_true c_71, eq_false (Int32.not_le.mpr c_71)]⟩) (by decide) (by decide)
            · skip
              refine lv_iconst (v := (nI 1)) hx hy dX6_canPrepare_74 (by decide) ?_
              refine lv_goto (tgt := 79) hx hy dX6_canPrepare_75 (by decide) ?_
              exact e_int C h (by decide) dX6_canPrepare_79 (⟨by simp [canP, cpB, b2i, c_11, eq_true c_19, eq_false (Int32.not_le.mpr c_19), c_35, c_46, eq_true c_56, eq_true c_71, eq_false (Int32.not_lt.mpr c_71)], by simp [canM, cpB, c_11, eq_true c_19, eq_false (Int32.not_le.mpr c_19), c_35, c_46, eq_true c_56, eq_true c_71, eq_false (Int32.not_lt.mpr c_71)]⟩) (by decide) (by decide)
        · skip
          refine lv_iconst (v := (nI 0)) hx hy dX6_canPrepare_49 (by decide) ?_
          exact e_int C h (by decide) dX6_canPrepare_50 (⟨by simp [canP, cpB, b2i, c_11, eq_true c_19, eq_false (Int32.not_le.mpr c_19), c_35, c_46], by simp [canM, cpB, c_11, eq_true c_19, eq_false (Int32.not_le.mpr c_19), c_35, c_46]⟩) (by decide) (by decide)
    · skip
      refine lv_iconst (v := (nI 0)) hx hy dX6_canPrepare_22 (by decide) ?_
      exact e_int C h (by decide) dX6_canPrepare_23 (⟨by simp [canP, cpB, b2i, c_11, eq_true c_19, eq_false (Int32.not_lt.mpr c_19)], by simp [canM, cpB, c_11, eq_true c_19, eq_false (Int32.not_lt.mpr c_19)]⟩) (by decide) (by decide)

set_option maxRecDepth 20000 in
theorem in_X6_outcomeOfRaid_X4 : ∀ x ∈ wsX40, x ∈ wsX6_outcomeOfRaid := by decide +kernel
set_option maxRecDepth 20000 in
theorem in_X6_outcomeOfRaid_X6 : ∀ x ∈ wsX60, x ∈ wsX6_outcomeOfRaid := by decide +kernel
set_option maxRecDepth 20000 in
theorem in_X6_outcomeOfRaid_X0 : ∀ x ∈ wsX00, x ∈ wsX6_outcomeOfRaid := by decide +kernel
set_option maxRecDepth 100000 in
set_option maxHeartbeats 4000000 in
/-- outcomeOfRaid -/
theorem c_X6_outcomeOfRaid (l : Launch) {G : va_G} {V : wV} {rs : List Nat} (ha : bA rs) (M R : wM) (o : wO) (k : Nat) (hk : k < 20) (pq : Nat) (hp : pq < 2) (hpl : M (rSi k) 0 = nI pq) (lo : Nat) (hlo : lo < 4) (hlo1 : M (rSi k) 1 = nI lo) (g : Nat) (hg : g < 3) (sz : Nat) (hs : sz ≤ 60) (hsz : M (rRow pq) 0 = nI sz) : CT l G V rs yX6_outcomeOfRaid wsX6_outcomeOfRaid 2 41 0 0 [.ref (V.1 rMain), .ref (V.1 (rSi k)), .int (nI g)] (M, R, o) (fun v u => v = some (.int (orO M k pq lo g sz (nowM M))) ∧ u = (M, R, o)) (fun _ _ => False) := by
  refine ct_of (cc := cX6_outcomeOfRaid) (maxL := 4) (ret := (some .char)) (by decide) rfl (Nat.le_of_ble_eq_true rfl) ?_
  intro p e s m below meth cd ls C h X hT hl
  have hx := C.1
  have hy := C.2.1
  have hl : lv_has ls 4 [(0, .ref (V.1 rMain)), (1, .ref (V.1 (rSi k))), (2, .int (nI g))] := hl
  have hq : rCnt M pq sz ≤ sz := lead_le _ _
  refine lv_aload_n hx hy dX6_outcomeOfRaid_0 rfl (lv_at hl 1 rfl) ?_
  refine g_f C h (ha.2 (64 + k) (by omega) (by omega)) (lo_Si hk) (celF_Si hk) rfl in_X6_outcomeOfRaid_X4 0 (by decide) (by decide +kernel) (v := .ref (V.1 (rCas pq))) (congrArg some (plv_at hp hpl)) dX6_outcomeOfRaid_1 ?_
  refine lv_astore_n (lv' := [(3, .ref (V.1 (rCas pq))), (0, .ref (V.1 rMain)), (1, .ref (V.1 (rSi k))), (2, .int (nI g))]) hx hy dX6_outcomeOfRaid_4 rfl hl (by decide) rfl (fun ls hl => ?_)
  refine lv_aload_n hx hy dX6_outcomeOfRaid_5 rfl (lv_at hl 2 rfl) ?_
  refine lv_aload_n hx hy dX6_outcomeOfRaid_6 rfl (lv_at hl 1 rfl) ?_
  refine g_f C h (ha.2 60 (by decide) (by decide)) lo_Main celF_Main rfl in_X6_outcomeOfRaid_X6 7 (by decide) (by decide +kernel) (v := .int (M rMain 7)) rfl dX6_outcomeOfRaid_7 ?_
  refine n_go0 C h (n_V (As := [.int (M rMain 7)]) (rest := []) C h X (ha.2 (64 + k) (by omega) (by omega)) ((lo_Si hk).trans ((celF_Si hk) _)) rfl (c_X4_isTooOld l k hk ha M R o pq hp hpl (M rMain 7)) (cwV 1 C.2.2.2.2.1 gX6_outcomeOfRaid_X4_isTooOld rfl rfl rfl (by decide +kernel) ⟨Nat.le_of_ble_eq_true rfl, Nat.le_of_ble_eq_true rfl⟩) rfl hl.1 rfl (Nat.le_of_ble_eq_true rfl) dX6_outcomeOfRaid_10 ⟨by decide, by decide⟩) (fun _ _ z => z) (fun v_10 u_10 H locs hpo h => ?_)
  obtain ⟨rfl, rfl⟩ := hpo
  refine b_eq hx hy (tgt := 19) dX6_outcomeOfRaid_13 (by decide) (fun c_13 => ?_) (fun c_13 => ?_)
  · skip
    refine lv_aload_n hx hy dX6_outcomeOfRaid_19 rfl (lv_at hl 0 rfl) ?_
    refine g_f C h ((ha.1 pq hp) 0 (by decide)) (lo_Cas hp) (celF_Cas hp) rfl in_X6_outcomeOfRaid_X0 6 (by decide) (by decide +kernel) (v := .ref (V.1 (rGs pq))) rfl dX6_outcomeOfRaid_20 ?_
    refine lv_iload_n hx hy dX6_outcomeOfRaid_23 rfl (lv_at hl 3 rfl) ?_
    refine g_a C h ((ha.1 pq hp) 3 (by decide)) 3 (n := 3) (k := g) (lo_Gs hp) ((celF_Gs hp) _) rfl (by omega) (by decide) (a := V.1 (rGate pq g)) rfl dX6_outcomeOfRaid_24 ?_
    refine lv_aload_n hx hy dX6_outcomeOfRaid_25 rfl (lv_at hl 2 rfl) ?_
    refine g_f C h (ha.2 (64 + k) (by omega) (by omega)) (lo_Si hk) (celF_Si hk) rfl in_X6_outcomeOfRaid_X4 1 (by decide) (by decide +kernel) (v := .int (nI lo)) (congrArg (fun z => some (Value.int z)) (show M (rSi k) 1 = (nI lo) from hlo1)) dX6_outcomeOfRaid_26 ?_
    refine lv_aload_n hx hy dX6_outcomeOfRaid_29 rfl (lv_at hl 1 rfl) ?_
    refine g_f C h (ha.2 60 (by decide) (by decide)) lo_Main celF_Main rfl in_X6_outcomeOfRaid_X6 7 (by decide) (by decide +kernel) (v := .int (M rMain 7)) rfl dX6_outcomeOfRaid_30 ?_
    refine n_go0 C h (n_V (As := [.int (nI lo), .int (M rMain 7)]) (rest := []) C h X ((ha.1 pq hp) (4 + 4 * g) (by omega)) ((lo_Gate hp hg).trans ((celF_Gate hp hg) _)) rfl (c_X1_isOpenFor l pq g hp hg (ha.1 pq hp) M R o lo hlo (M rMain 7)) (cwV 2 C.2.2.2.2.1 gX6_outcomeOfRaid_X1_isOpenFor rfl rfl rfl (by decide +kernel) ⟨Nat.le_of_ble_eq_true rfl, Nat.le_of_ble_eq_true rfl⟩) rfl hl.1 rfl (Nat.le_of_ble_eq_true rfl) dX6_outcomeOfRaid_33 ⟨by decide, by decide⟩) (fun _ _ z => z) (fun v_33 u_33 H locs hpo h => ?_)
    obtain ⟨rfl, rfl⟩ := hpo
    refine b_ne hx hy (tgt := 42) dX6_outcomeOfRaid_36 (by decide) (fun c_36 => ?_) (fun c_36 => ?_)
    · skip
      refine lv_aload_n hx hy dX6_outcomeOfRaid_42 rfl (lv_at hl 0 rfl) ?_
      refine lv_aload_n hx hy dX6_outcomeOfRaid_43 rfl (lv_at hl 0 rfl) ?_
      refine lv_aload_n hx hy dX6_outcomeOfRaid_44 rfl (lv_at hl 2 rfl) ?_
      refine g_f C h (ha.2 (64 + k) (by omega) (by omega)) (lo_Si hk) (celF_Si hk) rfl in_X6_outcomeOfRaid_X4 1 (by decide) (by decide +kernel) (v := .int (nI lo)) (congrArg (fun z => some (Value.int z)) (show M (rSi k) 1 = (nI lo) from hlo1)) dX6_outcomeOfRaid_45 ?_
      refine n_go0 C h (n_V (As := [.int (nI lo)]) (rest := [.ref (V.1 (rCas pq))]) C h X ((ha.1 pq hp) 0 (by decide)) ((lo_Cas hp).trans ((celF_Cas hp) _)) rfl (c_X0_towersNear l pq hp (ha.1 pq hp) M R o lo hlo) (cwV 1 C.2.2.2.2.1 gX6_outcomeOfRaid_X0_towersNear rfl rfl rfl (by decide +kernel) ⟨Nat.le_of_ble_eq_true rfl, Nat.le_of_ble_eq_true rfl⟩) rfl hl.1 rfl (Nat.le_of_ble_eq_true rfl) dX6_outcomeOfRaid_48 ⟨by decide, by decide⟩) (fun _ _ z => z) (fun v_48 u_48 H locs hpo h => ?_)
      obtain ⟨rfl, rfl⟩ := hpo
      refine n_go0 C h (n_V (As := [.int (nearI M pq lo)]) (rest := []) C h X ((ha.1 pq hp) 0 (by decide)) ((lo_Cas hp).trans ((celF_Cas hp) _)) rfl (c_X0_isQuorum l pq hp (ha.1 pq hp) M R o (nearI M pq lo)) (cwV 1 C.2.2.2.2.1 gX6_outcomeOfRaid_X0_isQuorum rfl rfl rfl (by decide +kernel) ⟨Nat.le_of_ble_eq_true rfl, Nat.le_of_ble_eq_true rfl⟩) rfl hl.1 rfl (Nat.le_of_ble_eq_true rfl) dX6_outcomeOfRaid_51 ⟨by decide, by decide⟩) (fun _ _ z => z) (fun v_51 u_51 H locs hpo h => ?_)
      obtain ⟨rfl, rfl⟩ := hpo
      refine b_ne hx hy (tgt := 60) dX6_outcomeOfRaid_54 (by decide) (fun c_54 => ?_) (fun c_54 => ?_)
      · skip
        refine lv_aload_n hx hy dX6_outcomeOfRaid_60 rfl (lv_at hl 0 rfl) ?_
        refine g_f C h ((ha.1 pq hp) 0 (by decide)) (lo_Cas hp) (celF_Cas hp) rfl in_X6_outcomeOfRaid_X0 7 (by decide) (by decide +kernel) (v := .ref (V.1 (rRow pq))) rfl dX6_outcomeOfRaid_61 ?_
        refine n_go0 C h (n_V (As := []) (rest := []) C h X ((ha.1 pq hp) 16 (by decide)) ((lo_Row hp).trans ((celF_Row hp) _)) rfl (c_X3_countingSize l pq hp (ha.1 pq hp) M R o sz hs hsz ) (cwV 0 C.2.2.2.2.1 gX6_outcomeOfRaid_X3_countingSize rfl rfl rfl (by decide +kernel) ⟨Nat.le_of_ble_eq_true rfl, Nat.le_of_ble_eq_true rfl⟩) rfl hl.1 rfl (Nat.le_of_ble_eq_true rfl) dX6_outcomeOfRaid_64 ⟨by decide, by decide⟩) (fun _ _ z => z) (fun v_64 u_64 H locs hpo h => ?_)
        obtain ⟨rfl, rfl⟩ := hpo
        refine lv_aload_n hx hy dX6_outcomeOfRaid_67 rfl (lv_at hl 2 rfl) ?_
        refine g_f C h (ha.2 (64 + k) (by omega) (by omega)) (lo_Si hk) (celF_Si hk) rfl in_X6_outcomeOfRaid_X4 4 (by decide) (by decide +kernel) (v := .int (M (rSi k) 4)) rfl dX6_outcomeOfRaid_68 ?_
        refine i_ne hx hy (tgt := 84) dX6_outcomeOfRaid_71 (by decide) (fun c_71 => ?_) (fun c_71 => ?_)
        · skip
          refine lv_bipush (v := (nI 115)) hx hy dX6_outcomeOfRaid_84 (by decide) ?_
          exact e_int C h (by decide) dX6_outcomeOfRaid_86 (⟨by simp [orO, c_13, c_36, c_54, eq_false c_71], rfl⟩) (by decide) (by decide)
        · skip
          refine lv_aload_n hx hy dX6_outcomeOfRaid_74 rfl (lv_at hl 0 rfl) ?_
          refine g_f C h ((ha.1 pq hp) 0 (by decide)) (lo_Cas hp) (celF_Cas hp) rfl in_X6_outcomeOfRaid_X0 7 (by decide) (by decide +kernel) (v := .ref (V.1 (rRow pq))) rfl dX6_outcomeOfRaid_75 ?_
          refine n_go0 C h (n_V (As := []) (rest := []) C h X ((ha.1 pq hp) 16 (by decide)) ((lo_Row hp).trans ((celF_Row hp) _)) rfl (c_X3_isHanging l pq hp (ha.1 pq hp) M R o sz hs hsz ) (cwV 0 C.2.2.2.2.1 gX6_outcomeOfRaid_X3_isHanging rfl rfl rfl (by decide +kernel) ⟨Nat.le_of_ble_eq_true rfl, Nat.le_of_ble_eq_true rfl⟩) rfl hl.1 rfl (Nat.le_of_ble_eq_true rfl) dX6_outcomeOfRaid_78 ⟨by decide, by decide⟩) (fun _ _ z => z) (fun v_78 u_78 H locs hpo h => ?_)
          obtain ⟨rfl, rfl⟩ := hpo
          refine b_eq hx hy (tgt := 87) dX6_outcomeOfRaid_81 (by decide) (fun c_81 => ?_) (fun c_81 => ?_)
          · skip
            refine lv_bipush (v := (nI 119)) hx hy dX6_outcomeOfRaid_87 (by decide) ?_
            exact e_int C h (by decide) dX6_outcomeOfRaid_89 (⟨by simp [orO, c_13, c_36, c_54, eq_true c_71, c_81], rfl⟩) (by decide) (by decide)
          · skip
            refine lv_bipush (v := (nI 115)) hx hy dX6_outcomeOfRaid_84 (by decide) ?_
            exact e_int C h (by decide) dX6_outcomeOfRaid_86 (⟨by simp [orO, c_13, c_36, c_54, eq_true c_71, c_81], rfl⟩) (by decide) (by decide)
      · skip
        refine lv_bipush (v := (nI 113)) hx hy dX6_outcomeOfRaid_57 (by decide) ?_
        exact e_int C h (by decide) dX6_outcomeOfRaid_59 (⟨by simp [orO, c_13, c_36, c_54], rfl⟩) (by decide) (by decide)
    · skip
      refine lv_bipush (v := (nI 103)) hx hy dX6_outcomeOfRaid_39 (by decide) ?_
      exact e_int C h (by decide) dX6_outcomeOfRaid_41 (⟨by simp [orO, c_13, c_36], rfl⟩) (by decide) (by decide)
  · skip
    refine lv_bipush (v := (nI 111)) hx hy dX6_outcomeOfRaid_16 (by decide) ?_
    exact e_int C h (by decide) dX6_outcomeOfRaid_18 (⟨by simp [orO, c_13], rfl⟩) (by decide) (by decide)

