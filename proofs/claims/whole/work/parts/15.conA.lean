set_option maxRecDepth 100000 in
set_option maxHeartbeats 4000000 in
/-- contains(towers, tower): the bit -/
theorem c_X6_contains (l : Launch) {G : va_G} {V : wV} {rs : List Nat} (M R : wM) (o : wO) (x : Int32) (t : Nat) : CT l G V rs yX6_contains wsX6_contains 0 0 0 0 [.int x, .int (nI t)] (M, R, o) (fun v u => v = some (.int (b2i (hasB x t))) ∧ u = (M, R, o)) (fun _ _ => False) := by
  refine ct_of (cc := cX6_contains) (maxL := 2) (ret := (some .boolean)) (by decide) rfl (Nat.le_of_ble_eq_true rfl) ?_
  intro p e s m below meth cd ls C h X hT hl
  have hx := C.1
  have hy := C.2.1
  have hl : lv_has ls 2 [(0, .int x), (1, .int (nI t))] := hl
  refine lv_iload_n hx hy dX6_contains_0 rfl (lv_at hl 0 rfl) ?_
  refine lv_iconst (v := (nI 1)) hx hy dX6_contains_1 (by decide) ?_
  refine lv_iload_n hx hy dX6_contains_2 rfl (lv_at hl 1 rfl) ?_
  refine lv_ishl hx hy dX6_contains_3 ?_
  refine lv_iand hx hy dX6_contains_4 ?_
  refine z_eq hx hy (tgt := 12) dX6_contains_5 (by decide) (fun c_5 => ?_) (fun c_5 => ?_)
  · skip
    refine lv_iconst (v := (nI 0)) hx hy dX6_contains_12 (by decide) ?_
    exact e_int C h (by decide) dX6_contains_13 (⟨by simp [hasB, b2i, eq_true c_5], rfl⟩) (by decide) (by decide)
  · skip
    refine lv_iconst (v := (nI 1)) hx hy dX6_contains_8 (by decide) ?_
    refine lv_goto (tgt := 13) hx hy dX6_contains_9 (by decide) ?_
    exact e_int C h (by decide) dX6_contains_13 (⟨by simp [hasB, b2i, eq_false c_5], rfl⟩) (by decide) (by decide)

set_option maxRecDepth 100000 in
set_option maxHeartbeats 4000000 in
/-- Integer.bitCount -/
theorem c_J6_bitCount_0f7a4 (l : Launch) {G : va_G} {V : wV} {rs : List Nat} (M R : wM) (o : wO) (x : Int32) : CT l G V rs yJ6_bitCount_0f7a4 wsJ6_bitCount_0f7a4 0 0 0 0 [.int x] (M, R, o) (fun v u => v = some (.int (bcI x)) ∧ u = (M, R, o)) (fun _ _ => False) := by
  refine ct_of (cc := cJ6_bitCount_0f7a4) (maxL := 1) (ret := (some .int)) (by decide) rfl (Nat.le_of_ble_eq_true rfl) ?_
  intro p e s m below meth cd ls C h X hT hl
  have hx := C.1
  have hy := C.2.1
  have hl : lv_has ls 1 [(0, .int x)] := hl
  refine lv_iload_n hx hy dJ6_bitCount_0f7a4_0 rfl (lv_at hl 0 rfl) ?_
  refine lv_iload_n hx hy dJ6_bitCount_0f7a4_1 rfl (lv_at hl 0 rfl) ?_
  refine lv_iconst (v := (nI 1)) hx hy dJ6_bitCount_0f7a4_2 (by decide) ?_
  refine lv_iushr hx hy dJ6_bitCount_0f7a4_3 rfl ?_
  refine lv_ldcw (v := 1431655765) hx hy C.2.2.2.1 (C.2.2.2.2.1 (.constant RJ6 265 1431655765) (by decide +kernel)) dJ6_bitCount_0f7a4_4 ?_
  refine lv_iand hx hy dJ6_bitCount_0f7a4_7 ?_
  refine lv_isub hx hy dJ6_bitCount_0f7a4_8 ?_
  refine lv_topn (show _ = bc1 x from rfl) ?_
  refine lv_istore_n (lv' := [(0, .int (bc1 x))]) hx hy dJ6_bitCount_0f7a4_9 rfl hl (by decide) rfl (fun ls hl => ?_)
  refine lv_iload_n hx hy dJ6_bitCount_0f7a4_10 rfl (lv_at hl 0 rfl) ?_
  refine lv_ldcw (v := 858993459) hx hy C.2.2.2.1 (C.2.2.2.2.1 (.constant RJ6 266 858993459) (by decide +kernel)) dJ6_bitCount_0f7a4_11 ?_
  refine lv_iand hx hy dJ6_bitCount_0f7a4_14 ?_
  refine lv_iload_n hx hy dJ6_bitCount_0f7a4_15 rfl (lv_at hl 0 rfl) ?_
  refine lv_iconst (v := (nI 2)) hx hy dJ6_bitCount_0f7a4_16 (by decide) ?_
  refine lv_iushr hx hy dJ6_bitCount_0f7a4_17 rfl ?_
  refine lv_ldcw (v := 858993459) hx hy C.2.2.2.1 (C.2.2.2.2.1 (.constant RJ6 266 858993459) (by decide +kernel)) dJ6_bitCount_0f7a4_18 ?_
  refine lv_iand hx hy dJ6_bitCount_0f7a4_21 ?_
  refine lv_iadd hx hy dJ6_bitCount_0f7a4_22 ?_
  refine lv_topn (show _ = bc2 (bc1 x) from rfl) ?_
  refine lv_istore_n (lv' := [(0, .int (bc2 (bc1 x)))]) hx hy dJ6_bitCount_0f7a4_23 rfl hl (by decide) rfl (fun ls hl => ?_)
  refine lv_iload_n hx hy dJ6_bitCount_0f7a4_24 rfl (lv_at hl 0 rfl) ?_
  refine lv_iload_n hx hy dJ6_bitCount_0f7a4_25 rfl (lv_at hl 0 rfl) ?_
  refine lv_iconst (v := (nI 4)) hx hy dJ6_bitCount_0f7a4_26 (by decide) ?_
  refine lv_iushr hx hy dJ6_bitCount_0f7a4_27 rfl ?_
  refine lv_iadd hx hy dJ6_bitCount_0f7a4_28 ?_
  refine lv_ldcw (v := 252645135) hx hy C.2.2.2.1 (C.2.2.2.2.1 (.constant RJ6 267 252645135) (by decide +kernel)) dJ6_bitCount_0f7a4_29 ?_
  refine lv_iand hx hy dJ6_bitCount_0f7a4_32 ?_
  refine lv_topn (show _ = bc3 (bc2 (bc1 x)) from rfl) ?_
  refine lv_istore_n (lv' := [(0, .int (bc3 (bc2 (bc1 x))))]) hx hy dJ6_bitCount_0f7a4_33 rfl hl (by decide) rfl (fun ls hl => ?_)
  refine lv_iload_n hx hy dJ6_bitCount_0f7a4_34 rfl (lv_at hl 0 rfl) ?_
  refine lv_iload_n hx hy dJ6_bitCount_0f7a4_35 rfl (lv_at hl 0 rfl) ?_
  refine lv_bipush (v := (nI 8)) hx hy dJ6_bitCount_0f7a4_36 (by decide) ?_
  refine lv_iushr hx hy dJ6_bitCount_0f7a4_38 rfl ?_
  refine lv_iadd hx hy dJ6_bitCount_0f7a4_39 ?_
  refine lv_topn (show _ = bc4 (bc3 (bc2 (bc1 x))) from rfl) ?_
  refine lv_istore_n (lv' := [(0, .int (bc4 (bc3 (bc2 (bc1 x)))))]) hx hy dJ6_bitCount_0f7a4_40 rfl hl (by decide) rfl (fun ls hl => ?_)
  refine lv_iload_n hx hy dJ6_bitCount_0f7a4_41 rfl (lv_at hl 0 rfl) ?_
  refine lv_iload_n hx hy dJ6_bitCount_0f7a4_42 rfl (lv_at hl 0 rfl) ?_
  refine lv_bipush (v := (nI 16)) hx hy dJ6_bitCount_0f7a4_43 (by decide) ?_
  refine lv_iushr hx hy dJ6_bitCount_0f7a4_45 rfl ?_
  refine lv_iadd hx hy dJ6_bitCount_0f7a4_46 ?_
  refine lv_topn (show _ = bc5 (bc4 (bc3 (bc2 (bc1 x)))) from rfl) ?_
  refine lv_istore_n (lv' := [(0, .int (bc5 (bc4 (bc3 (bc2 (bc1 x))))))]) hx hy dJ6_bitCount_0f7a4_47 rfl hl (by decide) rfl (fun ls hl => ?_)
  refine lv_iload_n hx hy dJ6_bitCount_0f7a4_48 rfl (lv_at hl 0 rfl) ?_
  refine lv_bipush (v := (nI 63)) hx hy dJ6_bitCount_0f7a4_49 (by decide) ?_
  refine lv_iand hx hy dJ6_bitCount_0f7a4_51 ?_
  refine lv_topn (show _ = bcI x from rfl) ?_
  exact e_int C h rfl dJ6_bitCount_0f7a4_52 (⟨rfl, rfl⟩) (by decide) (by decide)

set_option maxRecDepth 20000 in
theorem in_X1_isOpenFor_X1 : ∀ x ∈ wsX10, x ∈ wsX1_isOpenFor := by decide +kernel
set_option maxRecDepth 100000 in
set_option maxHeartbeats 4000000 in
/-- Gate.isOpenFor: now is ahead of the lease -/
theorem c_X1_isOpenFor (l : Launch) {G : va_G} {V : wV} {rs : List Nat} (c g : Nat) (hc : c < 2) (hg : g < 3) (hb : bC c rs) (M R : wM) (o : wO) (lo : Nat) (hlo : lo < 4) (now : Int32) : CT l G V rs yX1_isOpenFor wsX1_isOpenFor 0 0 0 0 [.ref (V.1 (rGate c g)), .int (nI lo), .int now] (M, R, o) (fun v u => v = some (.int (b2i (gOpen M c g lo now))) ∧ u = (M, R, o)) (fun _ _ => False) := by
  refine ct_of (cc := cX1_isOpenFor) (maxL := 3) (ret := (some .boolean)) (by decide) rfl (Nat.le_of_ble_eq_true rfl) ?_
  intro p e s m below meth cd ls C h X hT hl
  have hx := C.1
  have hy := C.2.1
  have hl : lv_has ls 3 [(0, .ref (V.1 (rGate c g))), (1, .int (nI lo)), (2, .int now)] := hl
  refine lv_iload_n hx hy dX1_isOpenFor_0 rfl (lv_at hl 2 rfl) ?_
  refine lv_aload_n hx hy dX1_isOpenFor_1 rfl (lv_at hl 0 rfl) ?_
  refine g_f C h (hb (4 + 4 * g) (by omega)) (lo_Gate hc hg) (celF_Gate hc hg) rfl in_X1_isOpenFor_X1 2 (by decide) (by decide +kernel) (v := .ref (V.1 (rLT c g))) rfl dX1_isOpenFor_2 ?_
  refine lv_iload_n hx hy dX1_isOpenFor_5 rfl (lv_at hl 1 rfl) ?_
  refine g_i C h (hb (7 + 4 * g) (by omega)) (n := 4) (k := lo) (lo_LT hc hg) (celF_LT hc hg) (by omega) (by decide) (v := (M (rLT c g) lo)) rfl dX1_isOpenFor_6 ?_
  refine i_ge hx hy (tgt := 14) dX1_isOpenFor_7 (by decide) (fun c_7 => ?_) (fun c_7 => ?_)
  · skip
    refine lv_iconst (v := (nI 0)) hx hy dX1_isOpenFor_14 (by decide) ?_
    exact e_int C h (by decide) dX1_isOpenFor_15 (⟨by simp [gOpen, b2i, eq_true c_7, eq_false (Int32.not_lt.mpr c_7)], rfl⟩) (by decide) (by decide)
  · skip
    refine lv_iconst (v := (nI 1)) hx hy dX1_isOpenFor_10 (by decide) ?_
    refine lv_goto (tgt := 15) hx hy dX1_isOpenFor_11 (by decide) ?_
    exact e_int C h (by decide) dX1_isOpenFor_15 (⟨by simp [gOpen, b2i, eq_true c_7, eq_false (Int32.not_le.mpr c_7)], rfl⟩) (by decide) (by decide)

set_option maxRecDepth 100000 in
set_option maxHeartbeats 4000000 in
/-- Gate.openCount -/
theorem c_X1_openCount (l : Launch) {G : va_G} {V : wV} {rs : List Nat} (c g : Nat) (hc : c < 2) (hg : g < 3) (hb : bC c rs) (M R : wM) (o : wO) (now : Int32) : CT l G V rs yX1_openCount wsX1_openCount 1 22 0 0 [.ref (V.1 (rGate c g)), .int now] (M, R, o) (fun v u => v = some (.int (nI (cntB (fun j => gOpen M c g j now) 4))) ∧ u = (M, R, o)) (fun _ _ => False) := by
  refine ct_of (cc := cX1_openCount) (maxL := 4) (ret := (some .int)) (by decide) rfl (Nat.le_of_ble_eq_true rfl) ?_
  intro p e s m below meth cd ls C h X hT hl
  have hx := C.1
  have hy := C.2.1
  have hl : lv_has ls 4 [(0, .ref (V.1 (rGate c g))), (1, .int now)] := hl
  refine lv_iconst (v := (nI 0)) hx hy dX1_openCount_0 (by decide) ?_
  refine lv_istore_n (lv' := [(2, .int (nI 0)), (0, .ref (V.1 (rGate c g))), (1, .int now)]) hx hy dX1_openCount_1 rfl hl (by decide) rfl (fun ls hl => ?_)
  refine lv_iconst (v := (nI 0)) hx hy dX1_openCount_2 (by decide) ?_
  refine lv_istore_n (lv' := [(3, .int (nI 0)), (2, .int (nI 0)), (0, .ref (V.1 (rGate c g))), (1, .int now)]) hx hy dX1_openCount_3 rfl hl (by decide) rfl (fun ls hl => ?_)
  have L_4 : ∀ (n_4 k : Nat), n_4 + k = 4 → ∀ (H : Heap) (locs : List Loc), HH G V rs (M, R, o) s H locs → ∀ ls : Array Slot, lv_has ls 4 [(3, .int (nI k)), (2, .int (nI (cntB (fun j => gOpen M c g j now) k))), (0, .ref (V.1 (rGate c g))), (1, .int now)] → W p l e { frames := 1, cells := 0, slots := 0, locals := 22 } s m [.ref (V.1 (rGate c g)), .int now].toArray below meth cd H locs 0 0 (QM G V rs below [.ref (V.1 (rGate c g)), .int now].toArray s 0 0 (fun v u => v = some (.int (nI (cntB (fun j => gOpen M c g j now) 4))) ∧ u = (M, R, o)) (fun _ _ => False)) (F0 m 4 ls []) := by
    intro n_4
    induction n_4 with
    | zero =>
      intro k hk_4 H locs h ls hl
      have hz_4 : k = 4 := by omega
      try rw [hz_4] at h
      try rw [hz_4] at hl
      refine lv_iload_n hx hy dX1_openCount_4 rfl (lv_at hl 0 rfl) ?_
      refine lv_iconst (v := (nI 4)) hx hy dX1_openCount_5 (by decide) ?_
      refine n_ge hx hy (by decide) (by decide) (tgt := 27) dX1_openCount_6 (by decide) (fun c_6 => ?_) (fun c_6 => ?_)
      · skip
        refine lv_iload_n hx hy dX1_openCount_27 rfl (lv_at hl 1 rfl) ?_
        exact e_int C h rfl dX1_openCount_28 (⟨rfl, rfl⟩) (by decide) (by decide)
      · skip
        exact absurd c_6 (by omega)
    | succ n_4 ih_4 =>
      intro k hk_4 H locs h ls hl
      have hz_4 : k < 4 := by omega
      refine lv_iload_n hx hy dX1_openCount_4 rfl (lv_at hl 0 rfl) ?_
      refine lv_iconst (v := (nI 4)) hx hy dX1_openCount_5 (by decide) ?_
      refine n_ge hx hy (by omega) (by decide) (tgt := 27) dX1_openCount_6 (by decide) (fun c_6 => ?_) (fun c_6 => ?_)
      · skip
        exact absurd c_6 (by omega)
      · skip
        refine lv_aload_n hx hy dX1_openCount_9 rfl (lv_at hl 2 rfl) ?_
        refine lv_iload_n hx hy dX1_openCount_10 rfl (lv_at hl 0 rfl) ?_
        refine lv_iload_n hx hy dX1_openCount_11 rfl (lv_at hl 3 rfl) ?_
        refine n_go0 C h (n_V (As := [.int (nI k), .int now]) (rest := []) C h X (hb (4 + 4 * g) (by omega)) ((lo_Gate hc hg).trans ((celF_Gate hc hg) _)) rfl (c_X1_isOpenFor l c g hc hg hb M R o k (by omega) now) (cwV 2 C.2.2.2.2.1 gX1_openCount_X1_isOpenFor rfl rfl rfl (by decide +kernel) ⟨Nat.le_of_ble_eq_true rfl, Nat.le_of_ble_eq_true rfl⟩) rfl hl.1 rfl (Nat.le_of_ble_eq_true rfl) dX1_openCount_12 ⟨by decide, by decide⟩) (fun _ _ z => z) (fun v_12 u_12 H locs hpo h => ?_)
        obtain ⟨rfl, rfl⟩ := hpo
        refine b_eq hx hy (tgt := 21) dX1_openCount_15 (by decide) (fun c_15 => ?_) (fun c_15 => ?_)
        · skip
          refine lv_iinc (v := (nI (k + 1))) (lv' := [(3, .int (nI (k + 1))), (2, .int (nI (cntB (fun j => gOpen M c g j now) k))), (0, .ref (V.1 (rGate c g))), (1, .int now)]) hx hy dX1_openCount_21 hl (k := 0) rfl (nI_1 _) (by decide) rfl (fun ls hl => ?_)
          refine lv_goto (tgt := 4) hx hy dX1_openCount_24 (by decide) ?_
          exact ih_4 (k + 1) (by omega) _ _ h _ (by have hl := lv_sub hl [0, 1, 2, 3] (l' := [(3, .int (nI (k + 1))), (2, .int (nI (cntB (fun j => gOpen M c g j now) k))), (0, .ref (V.1 (rGate c g))), (1, .int now)]) rfl; rw [show (.int (nI (k + 1)) : Value) = .int (nI (k + 1)) from rfl] at hl; rw [show (.int (nI (cntB (fun j => gOpen M c g j now) k)) : Value) = .int (nI (cntB (fun j => gOpen M c g j now) (k + 1))) from by simp [cntB, eq_true c_6, eq_false (Nat.not_le.mpr c_6), c_15]] at hl; exact hl)
        · skip
          refine lv_iinc (v := (nI ((cntB (fun j => gOpen M c g j now) k) + 1))) (lv' := [(2, .int (nI ((cntB (fun j => gOpen M c g j now) k) + 1))), (3, .int (nI k)), (0, .ref (V.1 (rGate c g))), (1, .int now)]) hx hy dX1_openCount_18 hl (k := 1) rfl (nI_1 _) (by decide) rfl (fun ls hl => ?_)
          refine lv_iinc (v := (nI (k + 1))) (lv' := [(3, .int (nI (k + 1))), (2, .int (nI ((cntB (fun j => gOpen M c g j now) k) + 1))), (0, .ref (V.1 (rGate c g))), (1, .int now)]) hx hy dX1_openCount_21 hl (k := 1) rfl (nI_1 _) (by decide) rfl (fun ls hl => ?_)
          refine lv_goto (tgt := 4) hx hy dX1_openCount_24 (by decide) ?_
          exact ih_4 (k + 1) (by omega) _ _ h _ (by have hl := lv_sub hl [0, 1, 2, 3] (l' := [(3, .int (nI (k + 1))), (2, .int (nI ((cntB (fun j => gOpen M c g j now) k) + 1))), (0, .ref (V.1 (rGate c g))), (1, .int now)]) rfl; rw [show (.int (nI (k + 1)) : Value) = .int (nI (k + 1)) from rfl] at hl; rw [show (.int (nI ((cntB (fun j => gOpen M c g j now) k) + 1)) : Value) = .int (nI (cntB (fun j => gOpen M c g j now) (k + 1))) from by simp [cntB, eq_true c_6, eq_false (Nat.not_le.mpr c_6), c_15]] at hl; exact hl)
  exact L_4 (4) 0 (by omega) _ _ h _ (by have hl := lv_sub hl [0, 1, 2, 3] (l' := [(3, .int (nI 0)), (2, .int (nI 0)), (0, .ref (V.1 (rGate c g))), (1, .int now)]) rfl; rw [show (.int (nI 0) : Value) = .int (nI (cntB (fun j => gOpen M c g j now) 0)) from rfl] at hl; exact hl)

set_option maxRecDepth 20000 in
theorem in_X1_isVoteHeld_X1 : ∀ x ∈ wsX10, x ∈ wsX1_isVoteHeld := by decide +kernel
set_option maxRecDepth 100000 in
set_option maxHeartbeats 4000000 in
/-- Gate.isVoteHeld -/
theorem c_X1_isVoteHeld (l : Launch) {G : va_G} {V : wV} {rs : List Nat} (c g : Nat) (hc : c < 2) (hg : g < 3) (hb : bC c rs) (M R : wM) (o : wO) (t : Nat) (ht : t < 7) (now : Int32) : CT l G V rs yX1_isVoteHeld wsX1_isVoteHeld 0 0 0 0 [.ref (V.1 (rGate c g)), .int (nI t), .int now] (M, R, o) (fun v u => v = some (.int (b2i (gHeld M c g t now))) ∧ u = (M, R, o)) (fun _ _ => False) := by
  refine ct_of (cc := cX1_isVoteHeld) (maxL := 3) (ret := (some .boolean)) (by decide) rfl (Nat.le_of_ble_eq_true rfl) ?_
  intro p e s m below meth cd ls C h X hT hl
  have hx := C.1
  have hy := C.2.1
  have hl : lv_has ls 3 [(0, .ref (V.1 (rGate c g))), (1, .int (nI t)), (2, .int now)] := hl
  refine lv_iload_n hx hy dX1_isVoteHeld_0 rfl (lv_at hl 2 rfl) ?_
  refine lv_aload_n hx hy dX1_isVoteHeld_1 rfl (lv_at hl 0 rfl) ?_
  refine g_f C h (hb (4 + 4 * g) (by omega)) (lo_Gate hc hg) (celF_Gate hc hg) rfl in_X1_isVoteHeld_X1 1 (by decide) (by decide +kernel) (v := .ref (V.1 (rVT c g))) rfl dX1_isVoteHeld_2 ?_
  refine lv_iload_n hx hy dX1_isVoteHeld_5 rfl (lv_at hl 1 rfl) ?_
  refine g_i C h (hb (6 + 4 * g) (by omega)) (n := 7) (k := t) (lo_VT hc hg) (celF_VT hc hg) (by omega) (by decide) (v := (M (rVT c g) t)) rfl dX1_isVoteHeld_6 ?_
  refine i_ge hx hy (tgt := 14) dX1_isVoteHeld_7 (by decide) (fun c_7 => ?_) (fun c_7 => ?_)
  · skip
    refine lv_iconst (v := (nI 0)) hx hy dX1_isVoteHeld_14 (by decide) ?_
    exact e_int C h (by decide) dX1_isVoteHeld_15 (⟨by simp [gHeld, b2i, eq_true c_7, eq_false (Int32.not_lt.mpr c_7)], rfl⟩) (by decide) (by decide)
  · skip
    refine lv_iconst (v := (nI 1)) hx hy dX1_isVoteHeld_10 (by decide) ?_
    refine lv_goto (tgt := 15) hx hy dX1_isVoteHeld_11 (by decide) ?_
    exact e_int C h (by decide) dX1_isVoteHeld_15 (⟨by simp [gHeld, b2i, eq_true c_7, eq_false (Int32.not_le.mpr c_7)], rfl⟩) (by decide) (by decide)

set_option maxRecDepth 20000 in
theorem in_X1_isVoteOfAnother_X1 : ∀ x ∈ wsX10, x ∈ wsX1_isVoteOfAnother := by decide +kernel
set_option maxRecDepth 100000 in
set_option maxHeartbeats 4000000 in
/-- Gate.isVoteOfAnother -/
theorem c_X1_isVoteOfAnother (l : Launch) {G : va_G} {V : wV} {rs : List Nat} (c g : Nat) (hc : c < 2) (hg : g < 3) (hb : bC c rs) (M R : wM) (o : wO) (t : Nat) (ht : t < 7) (lord now : Int32) : CT l G V rs yX1_isVoteOfAnother wsX1_isVoteOfAnother 1 22 0 0 [.ref (V.1 (rGate c g)), .int (nI t), .int lord, .int now] (M, R, o) (fun v u => v = some (.int (b2i (gOther M c g t lord now))) ∧ u = (M, R, o)) (fun _ _ => False) := by
  refine ct_of (cc := cX1_isVoteOfAnother) (maxL := 4) (ret := (some .boolean)) (by decide) rfl (Nat.le_of_ble_eq_true rfl) ?_
  intro p e s m below meth cd ls C h X hT hl
  have hx := C.1
  have hy := C.2.1
  have hl : lv_has ls 4 [(0, .ref (V.1 (rGate c g))), (1, .int (nI t)), (2, .int lord), (3, .int now)] := hl
  refine lv_aload_n hx hy dX1_isVoteOfAnother_0 rfl (lv_at hl 0 rfl) ?_
  refine lv_iload_n hx hy dX1_isVoteOfAnother_1 rfl (lv_at hl 1 rfl) ?_
  refine lv_iload_n hx hy dX1_isVoteOfAnother_2 rfl (lv_at hl 3 rfl) ?_
  refine n_go0 C h (n_V (As := [.int (nI t), .int now]) (rest := []) C h X (hb (4 + 4 * g) (by omega)) ((lo_Gate hc hg).trans ((celF_Gate hc hg) _)) rfl (c_X1_isVoteHeld l c g hc hg hb M R o t ht now) (cwV 2 C.2.2.2.2.1 gX1_isVoteOfAnother_X1_isVoteHeld rfl rfl rfl (by decide +kernel) ⟨Nat.le_of_ble_eq_true rfl, Nat.le_of_ble_eq_true rfl⟩) rfl hl.1 rfl (Nat.le_of_ble_eq_true rfl) dX1_isVoteOfAnother_3 ⟨by decide, by decide⟩) (fun _ _ z => z) (fun v_3 u_3 H locs hpo h => ?_)
  obtain ⟨rfl, rfl⟩ := hpo
  refine b_eq hx hy (tgt := 23) dX1_isVoteOfAnother_6 (by decide) (fun c_6 => ?_) (fun c_6 => ?_)
  · skip
    refine lv_iconst (v := (nI 0)) hx hy dX1_isVoteOfAnother_23 (by decide) ?_
    exact e_int C h (by decide) dX1_isVoteOfAnother_24 (⟨by simp [gOther, b2i, c_6], rfl⟩) (by decide) (by decide)
  · skip
    refine lv_aload_n hx hy dX1_isVoteOfAnother_9 rfl (lv_at hl 0 rfl) ?_
    refine g_f C h (hb (4 + 4 * g) (by omega)) (lo_Gate hc hg) (celF_Gate hc hg) rfl in_X1_isVoteOfAnother_X1 0 (by decide) (by decide +kernel) (v := .ref (V.1 (rVL c g))) rfl dX1_isVoteOfAnother_10 ?_
    refine lv_iload_n hx hy dX1_isVoteOfAnother_13 rfl (lv_at hl 1 rfl) ?_
    refine g_i C h (hb (5 + 4 * g) (by omega)) (n := 7) (k := t) (lo_VL hc hg) (celF_VL hc hg) (by omega) (by decide) (v := (M (rVL c g) t)) rfl dX1_isVoteOfAnother_14 ?_
    refine lv_iload_n hx hy dX1_isVoteOfAnother_15 rfl (lv_at hl 2 rfl) ?_
    refine i_eq hx hy (tgt := 23) dX1_isVoteOfAnother_16 (by decide) (fun c_16 => ?_) (fun c_16 => ?_)
    · skip
      refine lv_iconst (v := (nI 0)) hx hy dX1_isVoteOfAnother_23 (by decide) ?_
      exact e_int C h (by decide) dX1_isVoteOfAnother_24 (⟨by simp [gOther, b2i, c_6, eq_true c_16], rfl⟩) (by decide) (by decide)
    · skip
      refine lv_iconst (v := (nI 1)) hx hy dX1_isVoteOfAnother_19 (by decide) ?_
      refine lv_goto (tgt := 24) hx hy dX1_isVoteOfAnother_20 (by decide) ?_
      exact e_int C h (by decide) dX1_isVoteOfAnother_24 (⟨by simp [gOther, b2i, c_6, eq_false c_16], rfl⟩) (by decide) (by decide)

set_option maxRecDepth 20000 in
theorem in_X1_clear_X1 : ∀ x ∈ wsX10, x ∈ wsX1_clear := by decide +kernel
set_option maxRecDepth 100000 in
set_option maxHeartbeats 4000000 in
/-- Gate.clear -/
theorem c_X1_clear (l : Launch) {G : va_G} {V : wV} {rs : List Nat} (c g : Nat) (hc : c < 2) (hg : g < 3) (hb : bC c rs) (M R : wM) (o : wO) : CT l G V rs yX1_clear wsX1_clear 0 0 0 0 [.ref (V.1 (rGate c g))] (M, R, o) (fun v u => v = none ∧ u = (gClear M c g, R, o)) (fun _ _ => False) := by
  refine ct_of (cc := cX1_clear) (maxL := 2) (ret := none) (by decide) rfl (Nat.le_of_ble_eq_true rfl) ?_
  intro p e s m below meth cd ls C h X hT hl
  have hx := C.1
  have hy := C.2.1
  have hl : lv_has ls 2 [(0, .ref (V.1 (rGate c g)))] := hl
  refine lv_iconst (v := (nI 0)) hx hy dX1_clear_0 (by decide) ?_
  refine lv_istore_n (lv' := [(1, .int (nI 0)), (0, .ref (V.1 (rGate c g)))]) hx hy dX1_clear_1 rfl hl (by decide) rfl (fun ls hl => ?_)
  have L_2 : ∀ (n_2 k : Nat), n_2 + k = 7 → ∀ (H : Heap) (locs : List Loc), HH G V rs (clrN M (rVT c g) k, R, o) s H locs → ∀ ls : Array Slot, lv_has ls 2 [(1, .int (nI k)), (0, .ref (V.1 (rGate c g)))] → W p l e { frames := 0, cells := 0, slots := 0, locals := 0 } s m [.ref (V.1 (rGate c g))].toArray below meth cd H locs 0 0 (QM G V rs below [.ref (V.1 (rGate c g))].toArray s 0 0 (fun v u => v = none ∧ u = (gClear M c g, R, o)) (fun _ _ => False)) (F0 m 2 ls []) := by
    intro n_2
    induction n_2 with
    | zero =>
      intro k hk_2 H locs h ls hl
      have hz_2 : k = 7 := by omega
      try rw [hz_2] at h
      try rw [hz_2] at hl
      refine lv_iload_n hx hy dX1_clear_2 rfl (lv_at hl 0 rfl) ?_
      refine lv_bipush (v := (nI 7)) hx hy dX1_clear_3 (by decide) ?_
      refine n_ge hx hy (by decide) (by decide) (tgt := 21) dX1_clear_5 (by decide) (fun c_5 => ?_) (fun c_5 => ?_)
      · skip
        refine lv_iconst (v := (nI 0)) hx hy dX1_clear_21 (by decide) ?_
        refine lv_istore_n (lv' := [(1, .int (nI 0)), (0, .ref (V.1 (rGate c g)))]) hx hy dX1_clear_22 rfl hl (by decide) rfl (fun ls hl => ?_)
        have L_23 : ∀ (n_23 k_2 : Nat), n_23 + k_2 = 4 → ∀ (H : Heap) (locs : List Loc), HH G V rs (clrN (clrN M (rVT c g) 7) (rLT c g) k_2, R, o) s H locs → ∀ ls : Array Slot, lv_has ls 2 [(1, .int (nI k_2)), (0, .ref (V.1 (rGate c g)))] → W p l e { frames := 0, cells := 0, slots := 0, locals := 0 } s m [.ref (V.1 (rGate c g))].toArray below meth cd H locs 0 0 (QM G V rs below [.ref (V.1 (rGate c g))].toArray s 0 0 (fun v u => v = none ∧ u = (gClear M c g, R, o)) (fun _ _ => False)) (F0 m 23 ls []) := by
          intro n_23
          induction n_23 with
          | zero =>
            intro k_2 hk_23 H locs h ls hl
            have hz_23 : k_2 = 4 := by omega
            try rw [hz_23] at h
            try rw [hz_23] at hl
            refine lv_iload_n hx hy dX1_clear_23 rfl (lv_at hl 0 rfl) ?_
            refine lv_iconst (v := (nI 4)) hx hy dX1_clear_24 (by decide) ?_
            refine n_ge hx hy (by decide) (by decide) (tgt := 41) dX1_clear_25 (by decide) (fun c_25 => ?_) (fun c_25 => ?_)
            · skip
              exact e_void C h dX1_clear_41 (⟨rfl, rfl⟩) (by decide) (by decide)
            · skip
              exact absurd c_25 (by omega)
          | succ n_23 ih_23 =>
            intro k_2 hk_23 H locs h ls hl
            have hz_23 : k_2 < 4 := by omega
            refine lv_iload_n hx hy dX1_clear_23 rfl (lv_at hl 0 rfl) ?_
            refine lv_iconst (v := (nI 4)) hx hy dX1_clear_24 (by decide) ?_
            refine n_ge hx hy (by omega) (by decide) (tgt := 41) dX1_clear_25 (by decide) (fun c_25 => ?_) (fun c_25 => ?_)
            · skip
              exact absurd c_25 (by omega)
            · skip
              refine lv_aload_n hx hy dX1_clear_28 rfl (lv_at hl 1 rfl) ?_
              refine g_f C h (hb (4 + 4 * g) (by omega)) (lo_Gate hc hg) (celF_Gate hc hg) rfl in_X1_clear_X1 2 (by decide) (by decide +kernel) (v := .ref (V.1 (rLT c g))) rfl dX1_clear_29 ?_
              refine lv_iload_n hx hy dX1_clear_32 rfl (lv_at hl 0 rfl) ?_
              refine lv_iconst (v := (nI 0)) hx hy dX1_clear_33 (by decide) ?_
              refine s_i C h (hb (7 + 4 * g) (by omega)) (lt_LT hc hg) (n := 4) (k := k_2) (celF_LT hc hg) (by omega) (by decide) (x := (nI 0)) dX1_clear_34 (fun H locs h => ?_)
              refine lv_iinc (v := (nI (k_2 + 1))) (lv' := [(1, .int (nI (k_2 + 1))), (0, .ref (V.1 (rGate c g)))]) hx hy dX1_clear_35 hl (k := 0) rfl (nI_1 _) (by decide) rfl (fun ls hl => ?_)
              refine lv_goto (tgt := 23) hx hy dX1_clear_38 (by decide) ?_
              exact ih_23 (k_2 + 1) (by omega) _ _ (by rw [show ((clrN (clrN M (rVT c g) 7) (rLT c g) (k_2 + 1), R, o) : wW) = (wr (clrN (clrN M (rVT c g) 7) (rLT c g) k_2) (rLT c g) k_2 (nI 0), R, o) from rfl]; exact h) _ (by have hl := lv_sub hl [0, 1] (l' := [(1, .int (nI (k_2 + 1))), (0, .ref (V.1 (rGate c g)))]) rfl; rw [show (.int (nI (k_2 + 1)) : Value) = .int (nI (k_2 + 1)) from rfl] at hl; exact hl)
        exact L_23 (4) 0 (by omega) _ _ (by rw [show (clrN (clrN M (rVT c g) 7) (rLT c g) 0, R, o) = (clrN M (rVT c g) 7, R, o) from rfl]; exact h) _ (lv_sub hl [0, 1] rfl)
      · skip
        exact absurd c_5 (by omega)
    | succ n_2 ih_2 =>
      intro k hk_2 H locs h ls hl
      have hz_2 : k < 7 := by omega
      refine lv_iload_n hx hy dX1_clear_2 rfl (lv_at hl 0 rfl) ?_
      refine lv_bipush (v := (nI 7)) hx hy dX1_clear_3 (by decide) ?_
      refine n_ge hx hy (by omega) (by decide) (tgt := 21) dX1_clear_5 (by decide) (fun c_5 => ?_) (fun c_5 => ?_)
      · skip
        exact absurd c_5 (by omega)
      · skip
        refine lv_aload_n hx hy dX1_clear_8 rfl (lv_at hl 1 rfl) ?_
        refine g_f C h (hb (4 + 4 * g) (by omega)) (lo_Gate hc hg) (celF_Gate hc hg) rfl in_X1_clear_X1 1 (by decide) (by decide +kernel) (v := .ref (V.1 (rVT c g))) rfl dX1_clear_9 ?_
        refine lv_iload_n hx hy dX1_clear_12 rfl (lv_at hl 0 rfl) ?_
        refine lv_iconst (v := (nI 0)) hx hy dX1_clear_13 (by decide) ?_
        refine s_i C h (hb (6 + 4 * g) (by omega)) (lt_VT hc hg) (n := 7) (k := k) (celF_VT hc hg) (by omega) (by decide) (x := (nI 0)) dX1_clear_14 (fun H locs h => ?_)
        refine lv_iinc (v := (nI (k + 1))) (lv' := [(1, .int (nI (k + 1))), (0, .ref (V.1 (rGate c g)))]) hx hy dX1_clear_15 hl (k := 0) rfl (nI_1 _) (by decide) rfl (fun ls hl => ?_)
        refine lv_goto (tgt := 2) hx hy dX1_clear_18 (by decide) ?_
        exact ih_2 (k + 1) (by omega) _ _ (by rw [show ((clrN M (rVT c g) (k + 1), R, o) : wW) = (wr (clrN M (rVT c g) k) (rVT c g) k (nI 0), R, o) from rfl]; exact h) _ (by have hl := lv_sub hl [0, 1] (l' := [(1, .int (nI (k + 1))), (0, .ref (V.1 (rGate c g)))]) rfl; rw [show (.int (nI (k + 1)) : Value) = .int (nI (k + 1)) from rfl] at hl; exact hl)
  exact L_2 (7) 0 (by omega) _ _ (by rw [show (clrN M (rVT c g) 0, R, o) = (M, R, o) from rfl]; exact h) _ (lv_sub hl [0, 1] rfl)

set_option maxRecDepth 20000 in
theorem in_X1_grant_X1 : ∀ x ∈ wsX10, x ∈ wsX1_grant := by decide +kernel
set_option maxRecDepth 100000 in
set_option maxHeartbeats 4000000 in
/-- Gate.grant -/
theorem c_X1_grant (l : Launch) {G : va_G} {V : wV} {rs : List Nat} (c g : Nat) (hc : c < 2) (hg : g < 3) (hb : bC c rs) (M R : wM) (o : wO) (lo : Nat) (hlo : lo < 4) (vs till : Int32) : CT l G V rs yX1_grant wsX1_grant 1 21 0 0 [.ref (V.1 (rGate c g)), .int (nI lo), .int vs, .int till] (M, R, o) (fun v u => v = some (.int (imax (M (rLT c g) lo) till)) ∧ u = (gGrant M c g lo vs till, R, o)) (fun _ _ => False) := by
  refine ct_of (cc := cX1_grant) (maxL := 5) (ret := (some .int)) (by decide) rfl (Nat.le_of_ble_eq_true rfl) ?_
  intro p e s m below meth cd ls C h X hT hl
  have hx := C.1
  have hy := C.2.1
  have hl : lv_has ls 5 [(0, .ref (V.1 (rGate c g))), (1, .int (nI lo)), (2, .int vs), (3, .int till)] := hl
  refine lv_iconst (v := (nI 0)) hx hy dX1_grant_0 (by decide) ?_
  refine lv_istore (lv' := [(4, .int (nI 0)), (0, .ref (V.1 (rGate c g))), (1, .int (nI lo)), (2, .int vs), (3, .int till)]) hx hy dX1_grant_1 hl (by decide) rfl (fun ls hl => ?_)
  have L_3 : ∀ (n_3 k : Nat), n_3 + k = 7 → ∀ (H : Heap) (locs : List Loc), HH G V rs (grN M c g (nI lo) vs till k, R, o) s H locs → ∀ ls : Array Slot, lv_has ls 5 [(4, .int (nI k)), (0, .ref (V.1 (rGate c g))), (1, .int (nI lo)), (2, .int vs), (3, .int till)] → W p l e { frames := 1, cells := 0, slots := 0, locals := 21 } s m [.ref (V.1 (rGate c g)), .int (nI lo), .int vs, .int till].toArray below meth cd H locs 0 0 (QM G V rs below [.ref (V.1 (rGate c g)), .int (nI lo), .int vs, .int till].toArray s 0 0 (fun v u => v = some (.int (imax (M (rLT c g) lo) till)) ∧ u = (gGrant M c g lo vs till, R, o)) (fun _ _ => False)) (F0 m 3 ls []) := by
    intro n_3
    induction n_3 with
    | zero =>
      intro k hk_3 H locs h ls hl
      have hz_3 : k = 7 := by omega
      try rw [hz_3] at h
      try rw [hz_3] at hl
      refine lv_iload hx hy dX1_grant_3 (lv_at hl 0 rfl) ?_
      refine lv_bipush (v := (nI 7)) hx hy dX1_grant_5 (by decide) ?_
      refine n_ge hx hy (by decide) (by decide) (tgt := 51) dX1_grant_7 (by decide) (fun c_7 => ?_) (fun c_7 => ?_)
      · skip
        refine lv_aload_n hx hy dX1_grant_51 rfl (lv_at hl 1 rfl) ?_
        refine g_f C h (hb (4 + 4 * g) (by omega)) (lo_Gate hc hg) (celF_Gate hc hg) rfl in_X1_grant_X1 2 (by decide) (by decide +kernel) (v := .ref (V.1 (rLT c g))) rfl dX1_grant_52 ?_
        refine lv_iload_n hx hy dX1_grant_55 rfl (lv_at hl 2 rfl) ?_
        refine lv_aload_n hx hy dX1_grant_56 rfl (lv_at hl 1 rfl) ?_
        refine g_f C h (hb (4 + 4 * g) (by omega)) (lo_Gate hc hg) (celF_Gate hc hg) rfl in_X1_grant_X1 2 (by decide) (by decide +kernel) (v := .ref (V.1 (rLT c g))) rfl dX1_grant_57 ?_
        refine lv_iload_n hx hy dX1_grant_60 rfl (lv_at hl 2 rfl) ?_
        refine g_i C h (hb (7 + 4 * g) (by omega)) (n := 4) (k := lo) (lo_LT hc hg) (celF_LT hc hg) (by omega) (by decide) (v := (M (rLT c g) lo)) (show (grN M c g (nI lo) vs till 7) (rLT c g) lo = (M (rLT c g) lo) from (congrFun (grN_ne (by simp only [rLT, rVL]; omega) (by simp only [rLT, rVT]; omega)) _)) dX1_grant_61 ?_
        refine lv_iload_n hx hy dX1_grant_62 rfl (lv_at hl 4 rfl) ?_
        refine va_mmax hx hy (C.2.2.1.trans hl.1.symm) C.2.2.2.1 (C.2.2.2.2.1 (.methodLink RX1 31 Lib.Math.max.name) (by decide +kernel)) (C.2.2.2.2.1 (.static Lib.Math.max.name) (by decide +kernel)) (C.2.2.2.2.1 (.initialized "java/lang/Math") (by decide +kernel)) (C.2.2.2.2.1 (.code Lib.Math.max.name Lib.Math.max.code 2 (some .int)) (by decide +kernel)) (by decide) (Nat.le_of_ble_eq_true rfl) (by decide) (by decide) dX1_grant_63 ?_
        refine lv_topn (show (if (M (rLT c g) lo) < till then till else (M (rLT c g) lo)) = imax (M (rLT c g) lo) till from rfl) ?_
        refine s_i C h (hb (7 + 4 * g) (by omega)) (lt_LT hc hg) (n := 4) (k := lo) (celF_LT hc hg) (by omega) (by decide) (x := (imax (M (rLT c g) lo) till)) dX1_grant_66 (fun H locs h => ?_)
        refine lv_aload_n hx hy dX1_grant_67 rfl (lv_at hl 1 rfl) ?_
        refine g_f C h (hb (4 + 4 * g) (by omega)) (lo_Gate hc hg) (celF_Gate hc hg) rfl in_X1_grant_X1 2 (by decide) (by decide +kernel) (v := .ref (V.1 (rLT c g))) rfl dX1_grant_68 ?_
        refine lv_iload_n hx hy dX1_grant_71 rfl (lv_at hl 2 rfl) ?_
        refine g_i C h (hb (7 + 4 * g) (by omega)) (n := 4) (k := lo) (lo_LT hc hg) (celF_LT hc hg) (by omega) (by decide) (v := (imax (M (rLT c g) lo) till)) (show (wr (grN M c g (nI lo) vs till 7) (rLT c g) lo (imax (M (rLT c g) lo) till)) (rLT c g) lo = (imax (M (rLT c g) lo) till) from (wr_same _ _ _ _)) dX1_grant_72 ?_
        exact e_int C h rfl dX1_grant_73 (⟨rfl, rfl⟩) (by decide) (by decide)
      · skip
        exact absurd c_7 (by omega)
    | succ n_3 ih_3 =>
      intro k hk_3 H locs h ls hl
      have hz_3 : k < 7 := by omega
      refine lv_iload hx hy dX1_grant_3 (lv_at hl 0 rfl) ?_
      refine lv_bipush (v := (nI 7)) hx hy dX1_grant_5 (by decide) ?_
      refine n_ge hx hy (by omega) (by decide) (tgt := 51) dX1_grant_7 (by decide) (fun c_7 => ?_) (fun c_7 => ?_)
      · skip
        exact absurd c_7 (by omega)
      · skip
        refine lv_iload_n hx hy dX1_grant_10 rfl (lv_at hl 3 rfl) ?_
        refine lv_iload hx hy dX1_grant_11 (lv_at hl 0 rfl) ?_
        refine n_go0 C h (n_N (As := [.int vs, .int (nI k)]) (rest := []) 2 C h X (c_X6_contains l (grN M c g (nI lo) vs till k) R o vs k) gX1_grant_X6_contains_n28 rfl (by decide +kernel) (by decide +kernel) (by decide) (by decide +kernel) ⟨Nat.le_of_ble_eq_true rfl, Nat.le_of_ble_eq_true rfl⟩ rfl hl.1 rfl (Nat.le_of_ble_eq_true rfl) dX1_grant_13 ⟨by decide, by decide⟩) (fun _ _ z => z) (fun v_13 u_13 H locs hpo h => ?_)
        obtain ⟨rfl, rfl⟩ := hpo
        refine b_eq hx hy (tgt := 45) dX1_grant_16 (by decide) (fun c_16 => ?_) (fun c_16 => ?_)
        · skip
          refine lv_iinc (v := (nI (k + 1))) (lv' := [(4, .int (nI (k + 1))), (0, .ref (V.1 (rGate c g))), (1, .int (nI lo)), (2, .int vs), (3, .int till)]) hx hy dX1_grant_45 hl (k := 0) rfl (nI_1 _) (by decide) rfl (fun ls hl => ?_)
          refine lv_goto (tgt := 3) hx hy dX1_grant_48 (by decide) ?_
          exact ih_3 (k + 1) (by omega) _ _ (by rw [show ((grN M c g (nI lo) vs till (k + 1), R, o) : wW) = (grN M c g (nI lo) vs till k, R, o) from by simp [grN, eq_true c_7, eq_false (Nat.not_le.mpr c_7), c_16]]; exact h) _ (by have hl := lv_sub hl [0, 1, 2, 3, 4] (l' := [(4, .int (nI (k + 1))), (0, .ref (V.1 (rGate c g))), (1, .int (nI lo)), (2, .int vs), (3, .int till)]) rfl; rw [show (.int (nI (k + 1)) : Value) = .int (nI (k + 1)) from rfl] at hl; exact hl)
        · skip
          refine lv_aload_n hx hy dX1_grant_19 rfl (lv_at hl 1 rfl) ?_
          refine g_f C h (hb (4 + 4 * g) (by omega)) (lo_Gate hc hg) (celF_Gate hc hg) rfl in_X1_grant_X1 0 (by decide) (by decide +kernel) (v := .ref (V.1 (rVL c g))) rfl dX1_grant_20 ?_
          refine lv_iload hx hy dX1_grant_23 (lv_at hl 0 rfl) ?_
          refine lv_iload_n hx hy dX1_grant_25 rfl (lv_at hl 2 rfl) ?_
          refine s_i C h (hb (5 + 4 * g) (by omega)) (lt_VL hc hg) (n := 7) (k := k) (celF_VL hc hg) (by omega) (by decide) (x := (nI lo)) dX1_grant_26 (fun H locs h => ?_)
          refine lv_aload_n hx hy dX1_grant_27 rfl (lv_at hl 1 rfl) ?_
          refine g_f C h (hb (4 + 4 * g) (by omega)) (lo_Gate hc hg) (celF_Gate hc hg) rfl in_X1_grant_X1 1 (by decide) (by decide +kernel) (v := .ref (V.1 (rVT c g))) rfl dX1_grant_28 ?_
          refine lv_iload hx hy dX1_grant_31 (lv_at hl 0 rfl) ?_
          refine lv_aload_n hx hy dX1_grant_33 rfl (lv_at hl 1 rfl) ?_
          refine g_f C h (hb (4 + 4 * g) (by omega)) (lo_Gate hc hg) (celF_Gate hc hg) rfl in_X1_grant_X1 1 (by decide) (by decide +kernel) (v := .ref (V.1 (rVT c g))) rfl dX1_grant_34 ?_
          refine lv_iload hx hy dX1_grant_37 (lv_at hl 0 rfl) ?_
          refine g_i C h (hb (6 + 4 * g) (by omega)) (n := 7) (k := k) (lo_VT hc hg) (celF_VT hc hg) (by omega) (by decide) (v := ((grN M c g (nI lo) vs till k) (rVT c g) k)) (show (wr (grN M c g (nI lo) vs till k) (rVL c g) k (nI lo)) (rVT c g) k = ((grN M c g (nI lo) vs till k) (rVT c g) k) from (wr_othr (by simp only [rVL, rVT]; omega))) dX1_grant_39 ?_
          refine lv_iload_n hx hy dX1_grant_40 rfl (lv_at hl 4 rfl) ?_
          refine va_mmax hx hy (C.2.2.1.trans hl.1.symm) C.2.2.2.1 (C.2.2.2.2.1 (.methodLink RX1 31 Lib.Math.max.name) (by decide +kernel)) (C.2.2.2.2.1 (.static Lib.Math.max.name) (by decide +kernel)) (C.2.2.2.2.1 (.initialized "java/lang/Math") (by decide +kernel)) (C.2.2.2.2.1 (.code Lib.Math.max.name Lib.Math.max.code 2 (some .int)) (by decide +kernel)) (by decide) (Nat.le_of_ble_eq_true rfl) (by decide) (by decide) dX1_grant_41 ?_
          refine lv_topn (show (if ((grN M c g (nI lo) vs till k) (rVT c g) k) < till then till else ((grN M c g (nI lo) vs till k) (rVT c g) k)) = imax ((grN M c g (nI lo) vs till k) (rVT c g) k) till from rfl) ?_
          refine s_i C h (hb (6 + 4 * g) (by omega)) (lt_VT hc hg) (n := 7) (k := k) (celF_VT hc hg) (by omega) (by decide) (x := (imax ((grN M c g (nI lo) vs till k) (rVT c g) k) till)) dX1_grant_44 (fun H locs h => ?_)
          refine lv_iinc (v := (nI (k + 1))) (lv' := [(4, .int (nI (k + 1))), (0, .ref (V.1 (rGate c g))), (1, .int (nI lo)), (2, .int vs), (3, .int till)]) hx hy dX1_grant_45 hl (k := 0) rfl (nI_1 _) (by decide) rfl (fun ls hl => ?_)
          refine lv_goto (tgt := 3) hx hy dX1_grant_48 (by decide) ?_
          exact ih_3 (k + 1) (by omega) _ _ (by rw [show ((grN M c g (nI lo) vs till (k + 1), R, o) : wW) = (wr (wr (grN M c g (nI lo) vs till k) (rVL c g) k (nI lo)) (rVT c g) k (imax ((grN M c g (nI lo) vs till k) (rVT c g) k) till), R, o) from by simp [grN, eq_true c_7, eq_false (Nat.not_le.mpr c_7), c_16]]; exact h) _ (by have hl := lv_sub hl [0, 1, 2, 3, 4] (l' := [(4, .int (nI (k + 1))), (0, .ref (V.1 (rGate c g))), (1, .int (nI lo)), (2, .int vs), (3, .int till)]) rfl; rw [show (.int (nI (k + 1)) : Value) = .int (nI (k + 1)) from rfl] at hl; exact hl)
  exact L_3 (7) 0 (by omega) _ _ (by rw [show (grN M c g (nI lo) vs till 0, R, o) = (M, R, o) from rfl]; exact h) _ (lv_sub hl [0, 1, 2, 3, 4] rfl)

set_option maxRecDepth 20000 in
theorem in_X1_endLease_X1 : ∀ x ∈ wsX10, x ∈ wsX1_endLease := by decide +kernel
set_option maxRecDepth 100000 in
set_option maxHeartbeats 4000000 in
/-- Gate.endLease -/
theorem c_X1_endLease (l : Launch) {G : va_G} {V : wV} {rs : List Nat} (c g : Nat) (hc : c < 2) (hg : g < 3) (hb : bC c rs) (M R : wM) (o : wO) (lo : Nat) (hlo : lo < 4) (nr now : Int32) : CT l G V rs yX1_endLease wsX1_endLease 1 22 0 0 [.ref (V.1 (rGate c g)), .int (nI lo), .int nr, .int now] (M, R, o) (fun v u => v = some (.int (nI (enC M c g (nI lo) nr now 7))) ∧ u = (gEnd M c g lo nr now, R, o)) (fun _ _ => False) := by
  refine ct_of (cc := cX1_endLease) (maxL := 6) (ret := (some .int)) (by decide) rfl (Nat.le_of_ble_eq_true rfl) ?_
  intro p e s m below meth cd ls C h X hT hl
  have hx := C.1
  have hy := C.2.1
  have hl : lv_has ls 6 [(0, .ref (V.1 (rGate c g))), (1, .int (nI lo)), (2, .int nr), (3, .int now)] := hl
  refine lv_iconst (v := (nI 0)) hx hy dX1_endLease_0 (by decide) ?_
  refine lv_istore (lv' := [(4, .int (nI 0)), (0, .ref (V.1 (rGate c g))), (1, .int (nI lo)), (2, .int nr), (3, .int now)]) hx hy dX1_endLease_1 hl (by decide) rfl (fun ls hl => ?_)
  refine lv_iconst (v := (nI 0)) hx hy dX1_endLease_3 (by decide) ?_
  refine lv_istore (lv' := [(5, .int (nI 0)), (4, .int (nI 0)), (0, .ref (V.1 (rGate c g))), (1, .int (nI lo)), (2, .int nr), (3, .int now)]) hx hy dX1_endLease_4 hl (by decide) rfl (fun ls hl => ?_)
  have L_6 : ∀ (n_6 k : Nat), n_6 + k = 7 → ∀ (H : Heap) (locs : List Loc), HH G V rs (enN M c g (nI lo) nr now k, R, o) s H locs → ∀ ls : Array Slot, lv_has ls 6 [(5, .int (nI k)), (4, .int (nI (enC M c g (nI lo) nr now k))), (0, .ref (V.1 (rGate c g))), (1, .int (nI lo)), (2, .int nr), (3, .int now)] → W p l e { frames := 1, cells := 0, slots := 0, locals := 22 } s m [.ref (V.1 (rGate c g)), .int (nI lo), .int nr, .int now].toArray below meth cd H locs 0 0 (QM G V rs below [.ref (V.1 (rGate c g)), .int (nI lo), .int nr, .int now].toArray s 0 0 (fun v u => v = some (.int (nI (enC M c g (nI lo) nr now 7))) ∧ u = (gEnd M c g lo nr now, R, o)) (fun _ _ => False)) (F0 m 6 ls []) := by
    intro n_6
    induction n_6 with
    | zero =>
      intro k hk_6 H locs h ls hl
      have hz_6 : k = 7 := by omega
      try rw [hz_6] at h
      try rw [hz_6] at hl
      refine lv_iload hx hy dX1_endLease_6 (lv_at hl 0 rfl) ?_
      refine lv_bipush (v := (nI 7)) hx hy dX1_endLease_8 (by decide) ?_
      refine n_ge hx hy (by decide) (by decide) (tgt := 60) dX1_endLease_10 (by decide) (fun c_10 => ?_) (fun c_10 => ?_)
      · skip
        refine lv_aload_n hx hy dX1_endLease_60 rfl (lv_at hl 2 rfl) ?_
        refine g_f C h (hb (4 + 4 * g) (by omega)) (lo_Gate hc hg) (celF_Gate hc hg) rfl in_X1_endLease_X1 2 (by decide) (by decide +kernel) (v := .ref (V.1 (rLT c g))) rfl dX1_endLease_61 ?_
        refine lv_iload_n hx hy dX1_endLease_64 rfl (lv_at hl 3 rfl) ?_
        refine lv_iconst (v := (nI 0)) hx hy dX1_endLease_65 (by decide) ?_
        refine s_i C h (hb (7 + 4 * g) (by omega)) (lt_LT hc hg) (n := 4) (k := lo) (celF_LT hc hg) (by omega) (by decide) (x := (nI 0)) dX1_endLease_66 (fun H locs h => ?_)
        refine lv_iload hx hy dX1_endLease_67 (lv_at hl 1 rfl) ?_
        exact e_int C h rfl dX1_endLease_69 (⟨rfl, rfl⟩) (by decide) (by decide)
      · skip
        exact absurd c_10 (by omega)
    | succ n_6 ih_6 =>
      intro k hk_6 H locs h ls hl
      have hz_6 : k < 7 := by omega
      refine lv_iload hx hy dX1_endLease_6 (lv_at hl 0 rfl) ?_
      refine lv_bipush (v := (nI 7)) hx hy dX1_endLease_8 (by decide) ?_
      refine n_ge hx hy (by omega) (by decide) (tgt := 60) dX1_endLease_10 (by decide) (fun c_10 => ?_) (fun c_10 => ?_)
      · skip
        exact absurd c_10 (by omega)
      · skip
        refine lv_iload_n hx hy dX1_endLease_13 rfl (lv_at hl 4 rfl) ?_
        refine lv_iload hx hy dX1_endLease_14 (lv_at hl 0 rfl) ?_
        refine n_go0 C h (n_N (As := [.int nr, .int (nI k)]) (rest := []) 2 C h X (c_X6_contains l (enN M c g (nI lo) nr now k) R o nr k) gX1_endLease_X6_contains_n28 rfl (by decide +kernel) (by decide +kernel) (by decide) (by decide +kernel) ⟨Nat.le_of_ble_eq_true rfl, Nat.le_of_ble_eq_true rfl⟩ rfl hl.1 rfl (Nat.le_of_ble_eq_true rfl) dX1_endLease_16 ⟨by decide, by decide⟩) (fun _ _ z => z) (fun v_16 u_16 H locs hpo h => ?_)
        obtain ⟨rfl, rfl⟩ := hpo
        refine b_eq hx hy (tgt := 54) dX1_endLease_19 (by decide) (fun c_19 => ?_) (fun c_19 => ?_)
        · skip
          refine lv_iinc (v := (nI (k + 1))) (lv' := [(5, .int (nI (k + 1))), (4, .int (nI (enC M c g (nI lo) nr now k))), (0, .ref (V.1 (rGate c g))), (1, .int (nI lo)), (2, .int nr), (3, .int now)]) hx hy dX1_endLease_54 hl (k := 0) rfl (nI_1 _) (by decide) rfl (fun ls hl => ?_)
          refine lv_goto (tgt := 6) hx hy dX1_endLease_57 (by decide) ?_
          exact ih_6 (k + 1) (by omega) _ _ (by rw [show ((enN M c g (nI lo) nr now (k + 1), R, o) : wW) = (enN M c g (nI lo) nr now k, R, o) from by simp [enN, enP, eq_true c_10, eq_false (Nat.not_le.mpr c_10), c_19]]; exact h) _ (by have hl := lv_sub hl [0, 1, 2, 3, 4, 5] (l' := [(5, .int (nI (k + 1))), (4, .int (nI (enC M c g (nI lo) nr now k))), (0, .ref (V.1 (rGate c g))), (1, .int (nI lo)), (2, .int nr), (3, .int now)]) rfl; rw [show (.int (nI (k + 1)) : Value) = .int (nI (k + 1)) from rfl] at hl; rw [show (.int (nI (enC M c g (nI lo) nr now k)) : Value) = .int (nI (enC M c g (nI lo) nr now (k + 1))) from by simp [enC, enP, eq_true c_10, eq_false (Nat.not_le.mpr c_10), c_19]] at hl; exact hl)
        · skip
          refine lv_aload_n hx hy dX1_endLease_22 rfl (lv_at hl 2 rfl) ?_
          refine lv_iload hx hy dX1_endLease_23 (lv_at hl 0 rfl) ?_
          refine lv_iload_n hx hy dX1_endLease_25 rfl (lv_at hl 5 rfl) ?_
          refine n_go0 C h (n_V (As := [.int (nI k), .int now]) (rest := []) C h X (hb (4 + 4 * g) (by omega)) ((lo_Gate hc hg).trans ((celF_Gate hc hg) _)) rfl (c_X1_isVoteHeld l c g hc hg hb (enN M c g (nI lo) nr now k) R o k (by omega) now) (cwV 2 C.2.2.2.2.1 gX1_endLease_X1_isVoteHeld rfl rfl rfl (by decide +kernel) ⟨Nat.le_of_ble_eq_true rfl, Nat.le_of_ble_eq_true rfl⟩) rfl hl.1 rfl (Nat.le_of_ble_eq_true rfl) dX1_endLease_26 ⟨by decide, by decide⟩) (fun _ _ z => z) (fun v_26 u_26 H locs hpo h => ?_)
          obtain ⟨rfl, rfl⟩ := hpo
          refine b_eq hx hy (tgt := 54) dX1_endLease_29 (by decide) (fun c_29 => ?_) (fun c_29 => ?_)
          · skip
            refine lv_iinc (v := (nI (k + 1))) (lv' := [(5, .int (nI (k + 1))), (4, .int (nI (enC M c g (nI lo) nr now k))), (0, .ref (V.1 (rGate c g))), (1, .int (nI lo)), (2, .int nr), (3, .int now)]) hx hy dX1_endLease_54 hl (k := 0) rfl (nI_1 _) (by decide) rfl (fun ls hl => ?_)
            refine lv_goto (tgt := 6) hx hy dX1_endLease_57 (by decide) ?_
            exact ih_6 (k + 1) (by omega) _ _ (by rw [show ((enN M c g (nI lo) nr now (k + 1), R, o) : wW) = (enN M c g (nI lo) nr now k, R, o) from by simp [enN, enP, eq_true c_10, eq_false (Nat.not_le.mpr c_10), c_19, c_29]]; exact h) _ (by have hl := lv_sub hl [0, 1, 2, 3, 4, 5] (l' := [(5, .int (nI (k + 1))), (4, .int (nI (enC M c g (nI lo) nr now k))), (0, .ref (V.1 (rGate c g))), (1, .int (nI lo)), (2, .int nr), (3, .int now)]) rfl; rw [show (.int (nI (k + 1)) : Value) = .int (nI (k + 1)) from rfl] at hl; rw [show (.int (nI (enC M c g (nI lo) nr now k)) : Value) = .int (nI (enC M c g (nI lo) nr now (k + 1))) from by simp [enC, enP, eq_true c_10, eq_false (Nat.not_le.mpr c_10), c_19, c_29]] at hl; exact hl)
          · skip
            refine lv_aload_n hx hy dX1_endLease_32 rfl (lv_at hl 2 rfl) ?_
            refine g_f C h (hb (4 + 4 * g) (by omega)) (lo_Gate hc hg) (celF_Gate hc hg) rfl in_X1_endLease_X1 0 (by decide) (by decide +kernel) (v := .ref (V.1 (rVL c g))) rfl dX1_endLease_33 ?_
            refine lv_iload hx hy dX1_endLease_36 (lv_at hl 0 rfl) ?_
            refine g_i C h (hb (5 + 4 * g) (by omega)) (n := 7) (k := k) (lo_VL hc hg) (celF_VL hc hg) (by omega) (by decide) (v := ((enN M c g (nI lo) nr now k) (rVL c g) k)) rfl dX1_endLease_38 ?_
            refine lv_iload_n hx hy dX1_endLease_39 rfl (lv_at hl 3 rfl) ?_
            refine i_ne hx hy (tgt := 54) dX1_endLease_40 (by decide) (fun c_40 => ?_) (fun c_40 => ?_)
            · skip
              refine lv_iinc (v := (nI (k + 1))) (lv' := [(5, .int (nI (k + 1))), (4, .int (nI (enC M c g (nI lo) nr now k))), (0, .ref (V.1 (rGate c g))), (1, .int (nI lo)), (2, .int nr), (3, .int now)]) hx hy dX1_endLease_54 hl (k := 0) rfl (nI_1 _) (by decide) rfl (fun ls hl => ?_)
              refine lv_goto (tgt := 6) hx hy dX1_endLease_57 (by decide) ?_
              exact ih_6 (k + 1) (by omega) _ _ (by rw [show ((enN M c g (nI lo) nr now (k + 1), R, o) : wW) = (enN M c g (nI lo) nr now k, R, o) from by simp [enN, enP, eq_true c_10, eq_false (Nat.not_le.mpr c_10), c_19, c_29, eq_false c_40]]; exact h) _ (by have hl := lv_sub hl [0, 1, 2, 3, 4, 5] (l' := [(5, .int (nI (k + 1))), (4, .int (nI (enC M c g (nI lo) nr now k))), (0, .ref (V.1 (rGate c g))), (1, .int (nI lo)), (2, .int nr), (3, .int now)]) rfl; rw [show (.int (nI (k + 1)) : Value) = .int (nI (k + 1)) from rfl] at hl; rw [show (.int (nI (enC M c g (nI lo) nr now k)) : Value) = .int (nI (enC M c g (nI lo) nr now (k + 1))) from by simp [enC, enP, eq_true c_10, eq_false (Nat.not_le.mpr c_10), c_19, c_29, eq_false c_40]] at hl; exact hl)
            · skip
              refine lv_aload_n hx hy dX1_endLease_43 rfl (lv_at hl 2 rfl) ?_
              refine g_f C h (hb (4 + 4 * g) (by omega)) (lo_Gate hc hg) (celF_Gate hc hg) rfl in_X1_endLease_X1 1 (by decide) (by decide +kernel) (v := .ref (V.1 (rVT c g))) rfl dX1_endLease_44 ?_
              refine lv_iload hx hy dX1_endLease_47 (lv_at hl 0 rfl) ?_
              refine lv_iconst (v := (nI 0)) hx hy dX1_endLease_49 (by decide) ?_
              refine s_i C h (hb (6 + 4 * g) (by omega)) (lt_VT hc hg) (n := 7) (k := k) (celF_VT hc hg) (by omega) (by decide) (x := (nI 0)) dX1_endLease_50 (fun H locs h => ?_)
              refine lv_iinc (v := (nI ((enC M c g (nI lo) nr now k) + 1))) (lv' := [(4, .int (nI ((enC M c g (nI lo) nr now k) + 1))), (5, .int (nI k)), (0, .ref (V.1 (rGate c g))), (1, .int (nI lo)), (2, .int nr), (3, .int now)]) hx hy dX1_endLease_51 hl (k := 1) rfl (nI_1 _) (by decide) rfl (fun ls hl => ?_)
              refine lv_iinc (v := (nI (k + 1))) (lv' := [(5, .int (nI (k + 1))), (4, .int (nI ((enC M c g (nI lo) nr now k) + 1))), (0, .ref (V.1 (rGate c g))), (1, .int (nI lo)), (2, .int nr), (3, .int now)]) hx hy dX1_endLease_54 hl (k := 1) rfl (nI_1 _) (by decide) rfl (fun ls hl => ?_)
              refine lv_goto (tgt := 6) hx hy dX1_endLease_57 (by decide) ?_
              exact ih_6 (k + 1) (by omega) _ _ (by rw [show ((enN M c g (nI lo) nr now (k + 1), R, o) : wW) = (wr (enN M c g (nI lo) nr now k) (rVT c g) k (nI 0), R, o) from by simp [enN, enP, eq_true c_10, eq_false (Nat.not_le.mpr c_10), c_19, c_29, eq_true c_40]]; exact h) _ (by have hl := lv_sub hl [0, 1, 2, 3, 4, 5] (l' := [(5, .int (nI (k + 1))), (4, .int (nI ((enC M c g (nI lo) nr now k) + 1))), (0, .ref (V.1 (rGate c g))), (1, .int (nI lo)), (2, .int nr), (3, .int now)]) rfl; rw [show (.int (nI (k + 1)) : Value) = .int (nI (k + 1)) from rfl] at hl; rw [show (.int (nI ((enC M c g (nI lo) nr now k) + 1)) : Value) = .int (nI (enC M c g (nI lo) nr now (k + 1))) from by simp [enC, enP, eq_true c_10, eq_false (Nat.not_le.mpr c_10), c_19, c_29, eq_true c_40]] at hl; exact hl)
  exact L_6 (7) 0 (by omega) _ _ (by rw [show (enN M c g (nI lo) nr now 0, R, o) = (M, R, o) from rfl]; exact h) _ (by have hl := lv_sub hl [0, 1, 2, 3, 4, 5] (l' := [(5, .int (nI 0)), (4, .int (nI 0)), (0, .ref (V.1 (rGate c g))), (1, .int (nI lo)), (2, .int nr), (3, .int now)]) rfl; rw [show (.int (nI 0) : Value) = .int (nI (enC M c g (nI lo) nr now 0)) from rfl] at hl; exact hl)

set_option maxRecDepth 20000 in
theorem in_X3_countingSize_X3 : ∀ x ∈ wsX30, x ∈ wsX3_countingSize := by decide +kernel
set_option maxRecDepth 100000 in
set_option maxHeartbeats 4000000 in
/-- Row.countingSize -/
theorem c_X3_countingSize (l : Launch) {G : va_G} {V : wV} {rs : List Nat} (c : Nat) (hc : c < 2) (hb : bC c rs) (M R : wM) (o : wO) (sz : Nat) (hs : sz ≤ 60) (hsz : M (rRow c) 0 = nI sz) : CT l G V rs yX3_countingSize wsX3_countingSize 0 0 0 0 [.ref (V.1 (rRow c))] (M, R, o) (fun v u => v = some (.int (nI (rCnt M c sz))) ∧ u = (M, R, o)) (fun _ _ => False) := by
  refine ct_of (cc := cX3_countingSize) (maxL := 2) (ret := (some .int)) (by decide) rfl (Nat.le_of_ble_eq_true rfl) ?_
  intro p e s m below meth cd ls C h X hT hl
  have hx := C.1
  have hy := C.2.1
  have hl : lv_has ls 2 [(0, .ref (V.1 (rRow c)))] := hl
  refine lv_iconst (v := (nI 0)) hx hy dX3_countingSize_0 (by decide) ?_
  refine lv_istore_n (lv' := [(1, .int (nI 0)), (0, .ref (V.1 (rRow c)))]) hx hy dX3_countingSize_1 rfl hl (by decide) rfl (fun ls hl => ?_)
  have L_2 : ∀ (n_2 k : Nat), n_2 + k = sz → (∀ j, j < k → cnts M c j = true) → ∀ (H : Heap) (locs : List Loc), HH G V rs (M, R, o) s H locs → ∀ ls : Array Slot, lv_has ls 2 [(1, .int (nI k)), (0, .ref (V.1 (rRow c)))] → W p l e { frames := 0, cells := 0, slots := 0, locals := 0 } s m [.ref (V.1 (rRow c))].toArray below meth cd H locs 0 0 (QM G V rs below [.ref (V.1 (rRow c))].toArray s 0 0 (fun v u => v = some (.int (nI (rCnt M c sz))) ∧ u = (M, R, o)) (fun _ _ => False)) (F0 m 2 ls []) := by
    intro n_2
    induction n_2 with
    | zero =>
      intro k hk_2 hx2_0 H locs h ls hl
      have hz_2 : k = sz := by omega
      try rw [hz_2] at h
      try rw [hz_2] at hl
      try rw [hz_2] at hx2_0
      refine lv_iload_n hx hy dX3_countingSize_2 rfl (lv_at hl 0 rfl) ?_
      refine lv_aload_n hx hy dX3_countingSize_3 rfl (lv_at hl 1 rfl) ?_
      refine g_f C h (hb 16 (by decide)) (lo_Row hc) (celF_Row hc) rfl in_X3_countingSize_X3 0 (by decide) (by decide +kernel) (v := .int (nI sz)) (congrArg (fun z => some (Value.int z)) (show M (rRow c) 0 = (nI sz) from hsz)) dX3_countingSize_4 ?_
      refine n_ge hx hy (by omega) (by omega) (tgt := 36) dX3_countingSize_7 (by decide) (fun c_7 => ?_) (fun c_7 => ?_)
      · skip
        refine lv_iload_n hx hy dX3_countingSize_36 rfl (lv_at hl 0 rfl) ?_
        exact e_int C h rfl dX3_countingSize_37 (⟨by rw [rCnt, lead_all hx2_0], rfl⟩) (by decide) (by decide)
      · skip
        exact absurd c_7 (by omega)
    | succ n_2 ih_2 =>
      intro k hk_2 hx2_0 H locs h ls hl
      have hz_2 : k < sz := by omega
      refine lv_iload_n hx hy dX3_countingSize_2 rfl (lv_at hl 0 rfl) ?_
      refine lv_aload_n hx hy dX3_countingSize_3 rfl (lv_at hl 1 rfl) ?_
      refine g_f C h (hb 16 (by decide)) (lo_Row hc) (celF_Row hc) rfl in_X3_countingSize_X3 0 (by decide) (by decide +kernel) (v := .int (nI sz)) (congrArg (fun z => some (Value.int z)) (show M (rRow c) 0 = (nI sz) from hsz)) dX3_countingSize_4 ?_
      refine n_ge hx hy (by omega) (by omega) (tgt := 36) dX3_countingSize_7 (by decide) (fun c_7 => ?_) (fun c_7 => ?_)
      · skip
        exact absurd c_7 (by omega)
      · skip
        refine lv_aload_n hx hy dX3_countingSize_10 rfl (lv_at hl 1 rfl) ?_
        refine g_f C h (hb 16 (by decide)) (lo_Row hc) (celF_Row hc) rfl in_X3_countingSize_X3 6 (by decide) (by decide +kernel) (v := .ref (V.1 (rCo c))) rfl dX3_countingSize_11 ?_
        refine lv_iload_n hx hy dX3_countingSize_14 rfl (lv_at hl 0 rfl) ?_
        refine g_z C h (hb 22 (by decide)) (n := 60) (k := k) (lo_Co hc) (celF_Co hc) (by omega) (by decide) (v := (M (rCo c) k)) rfl dX3_countingSize_15 ?_
        refine z_ne hx hy (tgt := 30) dX3_countingSize_16 (by decide) (fun c_16 => ?_) (fun c_16 => ?_)
        · skip
          refine lv_iinc (v := (nI (k + 1))) (lv' := [(1, .int (nI (k + 1))), (0, .ref (V.1 (rRow c)))]) hx hy dX3_countingSize_30 hl (k := 0) rfl (nI_1 _) (by decide) rfl (fun ls hl => ?_)
          refine lv_goto (tgt := 2) hx hy dX3_countingSize_33 (by decide) ?_
          exact ih_2 (k + 1) (by omega) (ext_lt hx2_0 (by simp [cnts, eq_true c_7, eq_false (Nat.not_le.mpr c_7), eq_false c_16])) _ _ h _ (by have hl := lv_sub hl [0, 1] (l' := [(1, .int (nI (k + 1))), (0, .ref (V.1 (rRow c)))]) rfl; rw [show (.int (nI (k + 1)) : Value) = .int (nI (k + 1)) from rfl] at hl; exact hl)
        · skip
          refine lv_aload_n hx hy dX3_countingSize_19 rfl (lv_at hl 1 rfl) ?_
          refine g_f C h (hb 16 (by decide)) (lo_Row hc) (celF_Row hc) rfl in_X3_countingSize_X3 1 (by decide) (by decide +kernel) (v := .ref (V.1 (rLe c))) rfl dX3_countingSize_20 ?_
          refine lv_iload_n hx hy dX3_countingSize_23 rfl (lv_at hl 0 rfl) ?_
          refine g_c C h (hb 17 (by decide)) (n := 60) (k := k) (lo_Le hc) (celF_Le hc) (by omega) (by decide) (v := (M (rLe c) k)) rfl dX3_countingSize_24 ?_
          refine lv_bipush (v := (nI 45)) hx hy dX3_countingSize_25 (by decide) ?_
          refine i_ne hx hy (tgt := 36) dX3_countingSize_27 (by decide) (fun c_27 => ?_) (fun c_27 => ?_)
          · skip
            refine lv_iload_n hx hy dX3_countingSize_36 rfl (lv_at hl 0 rfl) ?_
            exact e_int C h rfl dX3_countingSize_37 (⟨by rw [rCnt, lead_at (Nat.le_of_lt hz_2) hx2_0 (by simp [cnts, eq_true c_7, eq_false (Nat.not_le.mpr c_7), eq_true c_16, eq_false c_27])], rfl⟩) (by decide) (by decide)
          · skip
            refine lv_iinc (v := (nI (k + 1))) (lv' := [(1, .int (nI (k + 1))), (0, .ref (V.1 (rRow c)))]) hx hy dX3_countingSize_30 hl (k := 0) rfl (nI_1 _) (by decide) rfl (fun ls hl => ?_)
            refine lv_goto (tgt := 2) hx hy dX3_countingSize_33 (by decide) ?_
            exact ih_2 (k + 1) (by omega) (ext_lt hx2_0 (by simp [cnts, eq_true c_7, eq_false (Nat.not_le.mpr c_7), eq_true c_16, eq_true c_27])) _ _ h _ (by have hl := lv_sub hl [0, 1] (l' := [(1, .int (nI (k + 1))), (0, .ref (V.1 (rRow c)))]) rfl; rw [show (.int (nI (k + 1)) : Value) = .int (nI (k + 1)) from rfl] at hl; exact hl)
  exact L_2 (sz) 0 (by omega) (fun j hj => absurd hj (Nat.not_lt_zero j)) _ _ h _ (lv_sub hl [0, 1] rfl)

set_option maxRecDepth 20000 in
theorem in_X3_isHanging_X3 : ∀ x ∈ wsX30, x ∈ wsX3_isHanging := by decide +kernel
set_option maxRecDepth 100000 in
set_option maxHeartbeats 4000000 in
/-- Row.isHanging -/
theorem c_X3_isHanging (l : Launch) {G : va_G} {V : wV} {rs : List Nat} (c : Nat) (hc : c < 2) (hb : bC c rs) (M R : wM) (o : wO) (sz : Nat) (hs : sz ≤ 60) (hsz : M (rRow c) 0 = nI sz) : CT l G V rs yX3_isHanging wsX3_isHanging 1 21 0 0 [.ref (V.1 (rRow c))] (M, R, o) (fun v u => v = some (.int (b2i (rHang M c sz))) ∧ u = (M, R, o)) (fun _ _ => False) := by
  refine ct_of (cc := cX3_isHanging) (maxL := 1) (ret := (some .boolean)) (by decide) rfl (Nat.le_of_ble_eq_true rfl) ?_
  intro p e s m below meth cd ls C h X hT hl
  have hx := C.1
  have hy := C.2.1
  have hl : lv_has ls 1 [(0, .ref (V.1 (rRow c)))] := hl
  have hq : rCnt M c sz ≤ sz := lead_le _ _
  refine lv_aload_n hx hy dX3_isHanging_0 rfl (lv_at hl 0 rfl) ?_
  refine n_go0 C h (n_V (As := []) (rest := []) C h X (hb 16 (by decide)) ((lo_Row hc).trans ((celF_Row hc) _)) rfl (c_X3_countingSize l c hc hb M R o sz hs hsz ) (cwV 0 C.2.2.2.2.1 gX3_isHanging_X3_countingSize rfl rfl rfl (by decide +kernel) ⟨Nat.le_of_ble_eq_true rfl, Nat.le_of_ble_eq_true rfl⟩) rfl hl.1 rfl (Nat.le_of_ble_eq_true rfl) dX3_isHanging_1 ⟨by decide, by decide⟩) (fun _ _ z => z) (fun v_1 u_1 H locs hpo h => ?_)
  obtain ⟨rfl, rfl⟩ := hpo
  refine lv_aload_n hx hy dX3_isHanging_4 rfl (lv_at hl 0 rfl) ?_
  refine g_f C h (hb 16 (by decide)) (lo_Row hc) (celF_Row hc) rfl in_X3_isHanging_X3 0 (by decide) (by decide +kernel) (v := .int (nI sz)) (congrArg (fun z => some (Value.int z)) (show M (rRow c) 0 = (nI sz) from hsz)) dX3_isHanging_5 ?_
  refine n_ge hx hy (by omega) (by omega) (tgt := 15) dX3_isHanging_8 (by decide) (fun c_8 => ?_) (fun c_8 => ?_)
  · skip
    refine lv_iconst (v := (nI 0)) hx hy dX3_isHanging_15 (by decide) ?_
    exact e_int C h (by decide) dX3_isHanging_16 (⟨by simp [rHang, b2i, eq_true c_8, eq_false (Nat.not_lt.mpr c_8)], rfl⟩) (by decide) (by decide)
  · skip
    refine lv_iconst (v := (nI 1)) hx hy dX3_isHanging_11 (by decide) ?_
    refine lv_goto (tgt := 16) hx hy dX3_isHanging_12 (by decide) ?_
    exact e_int C h (by decide) dX3_isHanging_16 (⟨by simp [rHang, b2i, eq_true c_8, eq_false (Nat.not_le.mpr c_8)], rfl⟩) (by decide) (by decide)

set_option maxRecDepth 20000 in
theorem in_X3_append_X3 : ∀ x ∈ wsX30, x ∈ wsX3_append := by decide +kernel
set_option maxRecDepth 100000 in
set_option maxHeartbeats 4000000 in
/-- Row.append -/
theorem c_X3_append (l : Launch) {G : va_G} {V : wV} {rs : List Nat} (c : Nat) (hc : c < 2) (hb : bC c rs) (M R : wM) (o : wO) (sz : Nat) (hs : sz < 60) (hsz : M (rRow c) 0 = nI sz) (le am : Int32) (hle : vp_nar .char le = le) : CT l G V rs yX3_append wsX3_append 0 0 0 0 [.ref (V.1 (rRow c)), .int le, .int am] (M, R, o) (fun v u => v = some (.int (nI sz)) ∧ u = (rApp M c sz le am, R, o)) (fun _ _ => False) := by
  refine ct_of (cc := cX3_append) (maxL := 4) (ret := (some .int)) (by decide) rfl (Nat.le_of_ble_eq_true rfl) ?_
  intro p e s m below meth cd ls C h X hT hl
  have hx := C.1
  have hy := C.2.1
  have hl : lv_has ls 4 [(0, .ref (V.1 (rRow c))), (1, .int le), (2, .int am)] := hl
  refine lv_aload_n hx hy dX3_append_0 rfl (lv_at hl 0 rfl) ?_
  refine lv_dup hx hy dX3_append_1 rfl ?_
  refine g_f C h (hb 16 (by decide)) (lo_Row hc) (celF_Row hc) rfl in_X3_append_X3 0 (by decide) (by decide +kernel) (v := .int (nI sz)) (congrArg (fun z => some (Value.int z)) (show M (rRow c) 0 = (nI sz) from hsz)) dX3_append_2 ?_
  refine lv_dup_x1 hx hy dX3_append_5 rfl rfl ?_
  refine lv_iconst (v := (nI 1)) hx hy dX3_append_6 (by decide) ?_
  refine lv_iadd hx hy dX3_append_7 ?_
  refine lv_topn (nI_add _ _) ?_
  refine p_f C h (hb 16 (by decide)) (lt_Row hc) (celF_Row hc) rfl in_X3_append_X3 tyX3_ok nmX3 0 (by decide) (by decide +kernel) rfl (v := .int (nI (sz + 1))) (x := (nI (sz + 1))) rfl rfl (fun _ => Nat.le_of_ble_eq_true rfl) (fun _ => rfl) dX3_append_8 (fun H locs h => ?_)
  refine lv_istore_n (lv' := [(3, .int (nI sz)), (0, .ref (V.1 (rRow c))), (1, .int le), (2, .int am)]) hx hy dX3_append_11 rfl hl (by decide) rfl (fun ls hl => ?_)
  refine lv_aload_n hx hy dX3_append_12 rfl (lv_at hl 1 rfl) ?_
  refine g_f C h (hb 16 (by decide)) (lo_Row hc) (celF_Row hc) rfl in_X3_append_X3 1 (by decide) (by decide +kernel) (v := .ref (V.1 (rLe c))) rfl dX3_append_13 ?_
  refine lv_iload_n hx hy dX3_append_16 rfl (lv_at hl 0 rfl) ?_
  refine lv_iload_n hx hy dX3_append_17 rfl (lv_at hl 2 rfl) ?_
  refine s_c C h (hb 17 (by decide)) (lt_Le hc) (n := 60) (k := sz) (celF_Le hc) (by omega) (by decide) (x := le) hle dX3_append_18 (fun H locs h => ?_)
  refine lv_aload_n hx hy dX3_append_19 rfl (lv_at hl 1 rfl) ?_
  refine g_f C h (hb 16 (by decide)) (lo_Row hc) (celF_Row hc) rfl in_X3_append_X3 2 (by decide) (by decide +kernel) (v := .ref (V.1 (rAm c))) rfl dX3_append_20 ?_
  refine lv_iload_n hx hy dX3_append_23 rfl (lv_at hl 0 rfl) ?_
  refine lv_iload_n hx hy dX3_append_24 rfl (lv_at hl 3 rfl) ?_
  refine s_i C h (hb 18 (by decide)) (lt_Am hc) (n := 60) (k := sz) (celF_Am hc) (by omega) (by decide) (x := am) dX3_append_25 (fun H locs h => ?_)
  refine lv_aload_n hx hy dX3_append_26 rfl (lv_at hl 1 rfl) ?_
  refine g_f C h (hb 16 (by decide)) (lo_Row hc) (celF_Row hc) rfl in_X3_append_X3 4 (by decide) (by decide +kernel) (v := .ref (V.1 (rHo c))) rfl dX3_append_27 ?_
  refine lv_iload_n hx hy dX3_append_30 rfl (lv_at hl 0 rfl) ?_
  refine lv_iconst (v := (nI 0)) hx hy dX3_append_31 (by decide) ?_
  refine s_i C h (hb 20 (by decide)) (lt_Ho hc) (n := 60) (k := sz) (celF_Ho hc) (by omega) (by decide) (x := (nI 0)) dX3_append_32 (fun H locs h => ?_)
  refine lv_aload_n hx hy dX3_append_33 rfl (lv_at hl 1 rfl) ?_
  refine g_f C h (hb 16 (by decide)) (lo_Row hc) (celF_Row hc) rfl in_X3_append_X3 6 (by decide) (by decide +kernel) (v := .ref (V.1 (rCo c))) rfl dX3_append_34 ?_
  refine lv_iload_n hx hy dX3_append_37 rfl (lv_at hl 0 rfl) ?_
  refine lv_iconst (v := (nI 0)) hx hy dX3_append_38 (by decide) ?_
  refine s_z C h (hb 22 (by decide)) (lt_Co hc) (n := 60) (k := sz) (celF_Co hc) (by omega) (by decide) (x := (nI 0)) (by decide) dX3_append_39 (fun H locs h => ?_)
  refine lv_iload_n hx hy dX3_append_40 rfl (lv_at hl 0 rfl) ?_
  exact e_int C h rfl dX3_append_41 (⟨rfl, rfl⟩) (by decide) (by decide)

set_option maxRecDepth 20000 in
theorem in_X3_strikeLost_X3 : ∀ x ∈ wsX30, x ∈ wsX3_strikeLost := by decide +kernel
set_option maxRecDepth 100000 in
set_option maxHeartbeats 4000000 in
/-- Row.strikeLost -/
theorem c_X3_strikeLost (l : Launch) {G : va_G} {V : wV} {rs : List Nat} (c : Nat) (hc : c < 2) (hb : bC c rs) (M R : wM) (o : wO) (sz : Nat) (hs : sz ≤ 60) (hsz : M (rRow c) 0 = nI sz) : CT l G V rs yX3_strikeLost wsX3_strikeLost 1 21 0 0 [.ref (V.1 (rRow c))] (M, R, o) (fun v u => v = some (.int (nI (rStruck M c sz))) ∧ u = (rStrike M c sz, R, o)) (fun _ _ => False) := by
  refine ct_of (cc := cX3_strikeLost) (maxL := 3) (ret := (some .int)) (by decide) rfl (Nat.le_of_ble_eq_true rfl) ?_
  intro p e s m below meth cd ls C h X hT hl
  have hx := C.1
  have hy := C.2.1
  have hl : lv_has ls 3 [(0, .ref (V.1 (rRow c)))] := hl
  have hq : rCnt M c sz ≤ sz := lead_le _ _
  refine lv_iconst (v := (nI 0)) hx hy dX3_strikeLost_0 (by decide) ?_
  refine lv_istore_n (lv' := [(1, .int (nI 0)), (0, .ref (V.1 (rRow c)))]) hx hy dX3_strikeLost_1 rfl hl (by decide) rfl (fun ls hl => ?_)
  refine lv_aload_n hx hy dX3_strikeLost_2 rfl (lv_at hl 1 rfl) ?_
  refine n_go0 C h (n_V (As := []) (rest := []) C h X (hb 16 (by decide)) ((lo_Row hc).trans ((celF_Row hc) _)) rfl (c_X3_countingSize l c hc hb M R o sz hs hsz ) (cwV 0 C.2.2.2.2.1 gX3_strikeLost_X3_countingSize rfl rfl rfl (by decide +kernel) ⟨Nat.le_of_ble_eq_true rfl, Nat.le_of_ble_eq_true rfl⟩) rfl hl.1 rfl (Nat.le_of_ble_eq_true rfl) dX3_strikeLost_3 ⟨by decide, by decide⟩) (fun _ _ z => z) (fun v_3 u_3 H locs hpo h => ?_)
  obtain ⟨rfl, rfl⟩ := hpo
  refine lv_istore_n (lv' := [(2, .int (nI (rCnt M c sz))), (1, .int (nI 0)), (0, .ref (V.1 (rRow c)))]) hx hy dX3_strikeLost_6 rfl hl (by decide) rfl (fun ls hl => ?_)
  have L_7 : ∀ (n_7 i : Nat), n_7 + i = (sz - rCnt M c sz) → ∀ (H : Heap) (locs : List Loc), HH G V rs (stN M c (rCnt M c sz) i, R, o) s H locs → ∀ ls : Array Slot, lv_has ls 3 [(2, .int (nI (rCnt M c sz + i))), (1, .int (nI (stC M c (rCnt M c sz) i))), (0, .ref (V.1 (rRow c)))] → W p l e { frames := 1, cells := 0, slots := 0, locals := 21 } s m [.ref (V.1 (rRow c))].toArray below meth cd H locs 0 0 (QM G V rs below [.ref (V.1 (rRow c))].toArray s 0 0 (fun v u => v = some (.int (nI (rStruck M c sz))) ∧ u = (rStrike M c sz, R, o)) (fun _ _ => False)) (F0 m 7 ls []) := by
    intro n_7
    induction n_7 with
    | zero =>
      intro i hk_7 H locs h ls hl
      have hz_7 : i = (sz - rCnt M c sz) := by omega
      try rw [hz_7] at h
      try rw [hz_7] at hl
      refine lv_iload_n hx hy dX3_strikeLost_7 rfl (lv_at hl 0 rfl) ?_
      refine lv_aload_n hx hy dX3_strikeLost_8 rfl (lv_at hl 2 rfl) ?_
      refine g_f C h (hb 16 (by decide)) (lo_Row hc) (celF_Row hc) rfl in_X3_strikeLost_X3 0 (by decide) (by decide +kernel) (v := .int (nI sz)) (congrArg (fun z => some (Value.int z)) (show (stN M c (rCnt M c sz) (sz - rCnt M c sz)) (rRow c) 0 = (nI sz) from ((congrFun (stN_ne (by simp only [rLe, rRow]; omega)) _).trans hsz))) dX3_strikeLost_9 ?_
      refine n_ge hx hy (by omega) (by omega) (tgt := 52) dX3_strikeLost_12 (by decide) (fun c_12 => ?_) (fun c_12 => ?_)
      · skip
        refine lv_iload_n hx hy dX3_strikeLost_52 rfl (lv_at hl 1 rfl) ?_
        exact e_int C h rfl dX3_strikeLost_53 (⟨rfl, rfl⟩) (by decide) (by decide)
      · skip
        exact absurd c_12 (by omega)
    | succ n_7 ih_7 =>
      intro i hk_7 H locs h ls hl
      have hz_7 : i < (sz - rCnt M c sz) := by omega
      refine lv_iload_n hx hy dX3_strikeLost_7 rfl (lv_at hl 0 rfl) ?_
      refine lv_aload_n hx hy dX3_strikeLost_8 rfl (lv_at hl 2 rfl) ?_
      refine g_f C h (hb 16 (by decide)) (lo_Row hc) (celF_Row hc) rfl in_X3_strikeLost_X3 0 (by decide) (by decide +kernel) (v := .int (nI sz)) (congrArg (fun z => some (Value.int z)) (show (stN M c (rCnt M c sz) i) (rRow c) 0 = (nI sz) from ((congrFun (stN_ne (by simp only [rLe, rRow]; omega)) _).trans hsz))) dX3_strikeLost_9 ?_
      refine n_ge hx hy (by omega) (by omega) (tgt := 52) dX3_strikeLost_12 (by decide) (fun c_12 => ?_) (fun c_12 => ?_)
      · skip
        exact absurd c_12 (by omega)
      · skip
        refine lv_aload_n hx hy dX3_strikeLost_15 rfl (lv_at hl 2 rfl) ?_
        refine g_f C h (hb 16 (by decide)) (lo_Row hc) (celF_Row hc) rfl in_X3_strikeLost_X3 4 (by decide) (by decide +kernel) (v := .ref (V.1 (rHo c))) rfl dX3_strikeLost_16 ?_
        refine lv_iload_n hx hy dX3_strikeLost_19 rfl (lv_at hl 0 rfl) ?_
        refine g_i C h (hb 20 (by decide)) (n := 60) (k := (rCnt M c sz + i)) (lo_Ho hc) (celF_Ho hc) (by omega) (by decide) (v := ((stN M c (rCnt M c sz) i) (rHo c) (rCnt M c sz + i))) rfl dX3_strikeLost_20 ?_
        refine z_ne hx hy (tgt := 46) dX3_strikeLost_21 (by decide) (fun c_21 => ?_) (fun c_21 => ?_)
        · skip
          refine lv_iinc (v := (nI ((rCnt M c sz + i) + 1))) (lv' := [(2, .int (nI ((rCnt M c sz + i) + 1))), (1, .int (nI (stC M c (rCnt M c sz) i))), (0, .ref (V.1 (rRow c)))]) hx hy dX3_strikeLost_46 hl (k := 0) rfl (nI_1 _) (by decide) rfl (fun ls hl => ?_)
          refine lv_goto (tgt := 7) hx hy dX3_strikeLost_49 (by decide) ?_
          exact ih_7 (i + 1) (by omega) _ _ (by rw [show ((stN M c (rCnt M c sz) (i + 1), R, o) : wW) = (stN M c (rCnt M c sz) i, R, o) from by simp [stN, stP, eq_true c_12, eq_false (Nat.not_le.mpr c_12), eq_false c_21]]; exact h) _ (by have hl := lv_sub hl [0, 1, 2] (l' := [(2, .int (nI ((rCnt M c sz + i) + 1))), (1, .int (nI (stC M c (rCnt M c sz) i))), (0, .ref (V.1 (rRow c)))]) rfl; rw [show (.int (nI ((rCnt M c sz + i) + 1)) : Value) = .int (nI (rCnt M c sz + (i + 1))) from rfl] at hl; rw [show (.int (nI (stC M c (rCnt M c sz) i)) : Value) = .int (nI (stC M c (rCnt M c sz) (i + 1))) from by simp [stC, stP, eq_true c_12, eq_false (Nat.not_le.mpr c_12), eq_false c_21]] at hl; exact hl)
        · skip
          refine lv_aload_n hx hy dX3_strikeLost_24 rfl (lv_at hl 2 rfl) ?_
          refine g_f C h (hb 16 (by decide)) (lo_Row hc) (celF_Row hc) rfl in_X3_strikeLost_X3 1 (by decide) (by decide +kernel) (v := .ref (V.1 (rLe c))) rfl dX3_strikeLost_25 ?_
          refine lv_iload_n hx hy dX3_strikeLost_28 rfl (lv_at hl 0 rfl) ?_
          refine g_c C h (hb 17 (by decide)) (n := 60) (k := (rCnt M c sz + i)) (lo_Le hc) (celF_Le hc) (by omega) (by decide) (v := ((stN M c (rCnt M c sz) i) (rLe c) (rCnt M c sz + i))) rfl dX3_strikeLost_29 ?_
          refine lv_bipush (v := (nI 45)) hx hy dX3_strikeLost_30 (by decide) ?_
          refine i_eq hx hy (tgt := 46) dX3_strikeLost_32 (by decide) (fun c_32 => ?_) (fun c_32 => ?_)
          · skip
            refine lv_iinc (v := (nI ((rCnt M c sz + i) + 1))) (lv' := [(2, .int (nI ((rCnt M c sz + i) + 1))), (1, .int (nI (stC M c (rCnt M c sz) i))), (0, .ref (V.1 (rRow c)))]) hx hy dX3_strikeLost_46 hl (k := 0) rfl (nI_1 _) (by decide) rfl (fun ls hl => ?_)
            refine lv_goto (tgt := 7) hx hy dX3_strikeLost_49 (by decide) ?_
            exact ih_7 (i + 1) (by omega) _ _ (by rw [show ((stN M c (rCnt M c sz) (i + 1), R, o) : wW) = (stN M c (rCnt M c sz) i, R, o) from by simp [stN, stP, eq_true c_12, eq_false (Nat.not_le.mpr c_12), eq_true c_21, eq_true c_32]]; exact h) _ (by have hl := lv_sub hl [0, 1, 2] (l' := [(2, .int (nI ((rCnt M c sz + i) + 1))), (1, .int (nI (stC M c (rCnt M c sz) i))), (0, .ref (V.1 (rRow c)))]) rfl; rw [show (.int (nI ((rCnt M c sz + i) + 1)) : Value) = .int (nI (rCnt M c sz + (i + 1))) from rfl] at hl; rw [show (.int (nI (stC M c (rCnt M c sz) i)) : Value) = .int (nI (stC M c (rCnt M c sz) (i + 1))) from by simp [stC, stP, eq_true c_12, eq_false (Nat.not_le.mpr c_12), eq_true c_21, eq_true c_32]] at hl; exact hl)
          · skip
            refine lv_aload_n hx hy dX3_strikeLost_35 rfl (lv_at hl 2 rfl) ?_
            refine g_f C h (hb 16 (by decide)) (lo_Row hc) (celF_Row hc) rfl in_X3_strikeLost_X3 1 (by decide) (by decide +kernel) (v := .ref (V.1 (rLe c))) rfl dX3_strikeLost_36 ?_
            refine lv_iload_n hx hy dX3_strikeLost_39 rfl (lv_at hl 0 rfl) ?_
            refine lv_bipush (v := (nI 45)) hx hy dX3_strikeLost_40 (by decide) ?_
            refine s_c C h (hb 17 (by decide)) (lt_Le hc) (n := 60) (k := (rCnt M c sz + i)) (celF_Le hc) (by omega) (by decide) (x := (nI 45)) (by decide) dX3_strikeLost_42 (fun H locs h => ?_)
            refine lv_iinc (v := (nI ((stC M c (rCnt M c sz) i) + 1))) (lv' := [(1, .int (nI ((stC M c (rCnt M c sz) i) + 1))), (2, .int (nI (rCnt M c sz + i))), (0, .ref (V.1 (rRow c)))]) hx hy dX3_strikeLost_43 hl (k := 1) rfl (nI_1 _) (by decide) rfl (fun ls hl => ?_)
            refine lv_iinc (v := (nI ((rCnt M c sz + i) + 1))) (lv' := [(2, .int (nI ((rCnt M c sz + i) + 1))), (1, .int (nI ((stC M c (rCnt M c sz) i) + 1))), (0, .ref (V.1 (rRow c)))]) hx hy dX3_strikeLost_46 hl (k := 1) rfl (nI_1 _) (by decide) rfl (fun ls hl => ?_)
            refine lv_goto (tgt := 7) hx hy dX3_strikeLost_49 (by decide) ?_
            exact ih_7 (i + 1) (by omega) _ _ (by rw [show ((stN M c (rCnt M c sz) (i + 1), R, o) : wW) = (wr (stN M c (rCnt M c sz) i) (rLe c) (rCnt M c sz + i) (nI 45), R, o) from by simp [stN, stP, eq_true c_12, eq_false (Nat.not_le.mpr c_12), eq_true c_21, eq_false c_32]]; exact h) _ (by have hl := lv_sub hl [0, 1, 2] (l' := [(2, .int (nI ((rCnt M c sz + i) + 1))), (1, .int (nI ((stC M c (rCnt M c sz) i) + 1))), (0, .ref (V.1 (rRow c)))]) rfl; rw [show (.int (nI ((rCnt M c sz + i) + 1)) : Value) = .int (nI (rCnt M c sz + (i + 1))) from rfl] at hl; rw [show (.int (nI ((stC M c (rCnt M c sz) i) + 1)) : Value) = .int (nI (stC M c (rCnt M c sz) (i + 1))) from by simp [stC, stP, eq_true c_12, eq_false (Nat.not_le.mpr c_12), eq_true c_21, eq_false c_32]] at hl; exact hl)
  exact L_7 ((sz - rCnt M c sz)) 0 (by omega) _ _ (by rw [show (stN M c (rCnt M c sz) 0, R, o) = (M, R, o) from rfl]; exact h) _ (by have hl := lv_sub hl [0, 1, 2] (l' := [(2, .int (nI (rCnt M c sz))), (1, .int (nI 0)), (0, .ref (V.1 (rRow c)))]) rfl; rw [show (.int (nI (rCnt M c sz)) : Value) = .int (nI (rCnt M c sz + 0)) from rfl] at hl; rw [show (.int (nI 0) : Value) = .int (nI (stC M c (rCnt M c sz) 0)) from rfl] at hl; exact hl)

set_option maxRecDepth 20000 in
theorem in_X3_dropAllOf_X3 : ∀ x ∈ wsX30, x ∈ wsX3_dropAllOf := by decide +kernel
set_option maxRecDepth 100000 in
set_option maxHeartbeats 4000000 in
/-- Row.dropAllOf -/
theorem c_X3_dropAllOf (l : Launch) {G : va_G} {V : wV} {rs : List Nat} (c : Nat) (hc : c < 2) (hb : bC c rs) (M R : wM) (o : wO) (sz : Nat) (hs : sz ≤ 60) (hsz : M (rRow c) 0 = nI sz) (t : Nat) (ht : t < 7) : CT l G V rs yX3_dropAllOf wsX3_dropAllOf 1 21 0 0 [.ref (V.1 (rRow c)), .int (nI t)] (M, R, o) (fun v u => v = some (.int (nI (drC M c t sz))) ∧ u = (drN M c t sz, R, o)) (fun _ _ => False) := by
  refine ct_of (cc := cX3_dropAllOf) (maxL := 4) (ret := (some .int)) (by decide) rfl (Nat.le_of_ble_eq_true rfl) ?_
  intro p e s m below meth cd ls C h X hT hl
  have hx := C.1
  have hy := C.2.1
  have hl : lv_has ls 4 [(0, .ref (V.1 (rRow c))), (1, .int (nI t))] := hl
  refine lv_iconst (v := (nI 0)) hx hy dX3_dropAllOf_0 (by decide) ?_
  refine lv_istore_n (lv' := [(2, .int (nI 0)), (0, .ref (V.1 (rRow c))), (1, .int (nI t))]) hx hy dX3_dropAllOf_1 rfl hl (by decide) rfl (fun ls hl => ?_)
  refine lv_iconst (v := (nI 0)) hx hy dX3_dropAllOf_2 (by decide) ?_
  refine lv_istore_n (lv' := [(3, .int (nI 0)), (2, .int (nI 0)), (0, .ref (V.1 (rRow c))), (1, .int (nI t))]) hx hy dX3_dropAllOf_3 rfl hl (by decide) rfl (fun ls hl => ?_)
  have L_4 : ∀ (n_4 k : Nat), n_4 + k = sz → ∀ (H : Heap) (locs : List Loc), HH G V rs (drN M c t k, R, o) s H locs → ∀ ls : Array Slot, lv_has ls 4 [(3, .int (nI k)), (2, .int (nI (drC M c t k))), (0, .ref (V.1 (rRow c))), (1, .int (nI t))] → W p l e { frames := 1, cells := 0, slots := 0, locals := 21 } s m [.ref (V.1 (rRow c)), .int (nI t)].toArray below meth cd H locs 0 0 (QM G V rs below [.ref (V.1 (rRow c)), .int (nI t)].toArray s 0 0 (fun v u => v = some (.int (nI (drC M c t sz))) ∧ u = (drN M c t sz, R, o)) (fun _ _ => False)) (F0 m 4 ls []) := by
    intro n_4
    induction n_4 with
    | zero =>
      intro k hk_4 H locs h ls hl
      have hz_4 : k = sz := by omega
      try rw [hz_4] at h
      try rw [hz_4] at hl
      refine lv_iload_n hx hy dX3_dropAllOf_4 rfl (lv_at hl 0 rfl) ?_
      refine lv_aload_n hx hy dX3_dropAllOf_5 rfl (lv_at hl 2 rfl) ?_
      refine g_f C h (hb 16 (by decide)) (lo_Row hc) (celF_Row hc) rfl in_X3_dropAllOf_X3 0 (by decide) (by decide +kernel) (v := .int (nI sz)) (congrArg (fun z => some (Value.int z)) (show (drN M c t sz) (rRow c) 0 = (nI sz) from ((congrFun (drN_ne (by simp only [rHo, rRow]; omega)) _).trans hsz))) dX3_dropAllOf_6 ?_
      refine n_ge hx hy (by omega) (by omega) (tgt := 48) dX3_dropAllOf_9 (by decide) (fun c_9 => ?_) (fun c_9 => ?_)
      · skip
        refine lv_iload_n hx hy dX3_dropAllOf_48 rfl (lv_at hl 1 rfl) ?_
        exact e_int C h rfl dX3_dropAllOf_49 (⟨rfl, rfl⟩) (by decide) (by decide)
      · skip
        exact absurd c_9 (by omega)
    | succ n_4 ih_4 =>
      intro k hk_4 H locs h ls hl
      have hz_4 : k < sz := by omega
      refine lv_iload_n hx hy dX3_dropAllOf_4 rfl (lv_at hl 0 rfl) ?_
      refine lv_aload_n hx hy dX3_dropAllOf_5 rfl (lv_at hl 2 rfl) ?_
      refine g_f C h (hb 16 (by decide)) (lo_Row hc) (celF_Row hc) rfl in_X3_dropAllOf_X3 0 (by decide) (by decide +kernel) (v := .int (nI sz)) (congrArg (fun z => some (Value.int z)) (show (drN M c t k) (rRow c) 0 = (nI sz) from ((congrFun (drN_ne (by simp only [rHo, rRow]; omega)) _).trans hsz))) dX3_dropAllOf_6 ?_
      refine n_ge hx hy (by omega) (by omega) (tgt := 48) dX3_dropAllOf_9 (by decide) (fun c_9 => ?_) (fun c_9 => ?_)
      · skip
        exact absurd c_9 (by omega)
      · skip
        refine lv_aload_n hx hy dX3_dropAllOf_12 rfl (lv_at hl 2 rfl) ?_
        refine g_f C h (hb 16 (by decide)) (lo_Row hc) (celF_Row hc) rfl in_X3_dropAllOf_X3 4 (by decide) (by decide +kernel) (v := .ref (V.1 (rHo c))) rfl dX3_dropAllOf_13 ?_
        refine lv_iload_n hx hy dX3_dropAllOf_16 rfl (lv_at hl 0 rfl) ?_
        refine g_i C h (hb 20 (by decide)) (n := 60) (k := k) (lo_Ho hc) (celF_Ho hc) (by omega) (by decide) (v := ((drN M c t k) (rHo c) k)) rfl dX3_dropAllOf_17 ?_
        refine lv_iload_n hx hy dX3_dropAllOf_18 rfl (lv_at hl 3 rfl) ?_
        refine n_go0 C h (n_N (As := [.int ((drN M c t k) (rHo c) k), .int (nI t)]) (rest := []) 2 C h X (c_X6_contains l (drN M c t k) R o ((drN M c t k) (rHo c) k) t) gX3_dropAllOf_X6_contains_n40 rfl (by decide +kernel) (by decide +kernel) (by decide) (by decide +kernel) ⟨Nat.le_of_ble_eq_true rfl, Nat.le_of_ble_eq_true rfl⟩ rfl hl.1 rfl (Nat.le_of_ble_eq_true rfl) dX3_dropAllOf_19 ⟨by decide, by decide⟩) (fun _ _ z => z) (fun v_19 u_19 H locs hpo h => ?_)
        obtain ⟨rfl, rfl⟩ := hpo
        refine b_eq hx hy (tgt := 42) dX3_dropAllOf_22 (by decide) (fun c_22 => ?_) (fun c_22 => ?_)
        · skip
          refine lv_iinc (v := (nI (k + 1))) (lv' := [(3, .int (nI (k + 1))), (2, .int (nI (drC M c t k))), (0, .ref (V.1 (rRow c))), (1, .int (nI t))]) hx hy dX3_dropAllOf_42 hl (k := 0) rfl (nI_1 _) (by decide) rfl (fun ls hl => ?_)
          refine lv_goto (tgt := 4) hx hy dX3_dropAllOf_45 (by decide) ?_
          exact ih_4 (k + 1) (by omega) _ _ (by rw [show ((drN M c t (k + 1), R, o) : wW) = (drN M c t k, R, o) from by simp [drN, clB, eq_true c_9, eq_false (Nat.not_le.mpr c_9), c_22]]; exact h) _ (by have hl := lv_sub hl [0, 1, 2, 3] (l' := [(3, .int (nI (k + 1))), (2, .int (nI (drC M c t k))), (0, .ref (V.1 (rRow c))), (1, .int (nI t))]) rfl; rw [show (.int (nI (k + 1)) : Value) = .int (nI (k + 1)) from rfl] at hl; rw [show (.int (nI (drC M c t k)) : Value) = .int (nI (drC M c t (k + 1))) from by simp [drC, eq_true c_9, eq_false (Nat.not_le.mpr c_9), c_22]] at hl; exact hl)
        · skip
          refine lv_aload_n hx hy dX3_dropAllOf_25 rfl (lv_at hl 2 rfl) ?_
          refine g_f C h (hb 16 (by decide)) (lo_Row hc) (celF_Row hc) rfl in_X3_dropAllOf_X3 4 (by decide) (by decide +kernel) (v := .ref (V.1 (rHo c))) rfl dX3_dropAllOf_26 ?_
          refine lv_iload_n hx hy dX3_dropAllOf_29 rfl (lv_at hl 0 rfl) ?_
          refine lv_dup2_11 hx hy dX3_dropAllOf_30 rfl rfl ?_
          refine g_i C h (hb 20 (by decide)) (n := 60) (k := k) (lo_Ho hc) (celF_Ho hc) (by omega) (by decide) (v := ((drN M c t k) (rHo c) k)) rfl dX3_dropAllOf_31 ?_
          refine lv_iconst (v := (nI 1)) hx hy dX3_dropAllOf_32 (by decide) ?_
          refine lv_iload_n hx hy dX3_dropAllOf_33 rfl (lv_at hl 3 rfl) ?_
          refine lv_ishl hx hy dX3_dropAllOf_34 ?_
          refine lv_iconst (v := (-1)) hx hy dX3_dropAllOf_35 (by decide) ?_
          refine lv_ixor hx hy dX3_dropAllOf_36 ?_
          refine lv_iand hx hy dX3_dropAllOf_37 ?_
          refine s_i C h (hb 20 (by decide)) (lt_Ho hc) (n := 60) (k := k) (celF_Ho hc) (by omega) (by decide) (x := (((drN M c t k) (rHo c) k) &&& (((nI 1) <<< ((nI t) &&& 31)) ^^^ (-1)))) dX3_dropAllOf_38 (fun H locs h => ?_)
          refine lv_iinc (v := (nI ((drC M c t k) + 1))) (lv' := [(2, .int (nI ((drC M c t k) + 1))), (3, .int (nI k)), (0, .ref (V.1 (rRow c))), (1, .int (nI t))]) hx hy dX3_dropAllOf_39 hl (k := 1) rfl (nI_1 _) (by decide) rfl (fun ls hl => ?_)
          refine lv_iinc (v := (nI (k + 1))) (lv' := [(3, .int (nI (k + 1))), (2, .int (nI ((drC M c t k) + 1))), (0, .ref (V.1 (rRow c))), (1, .int (nI t))]) hx hy dX3_dropAllOf_42 hl (k := 1) rfl (nI_1 _) (by decide) rfl (fun ls hl => ?_)
          refine lv_goto (tgt := 4) hx hy dX3_dropAllOf_45 (by decide) ?_
          exact ih_4 (k + 1) (by omega) _ _ (by rw [show ((drN M c t (k + 1), R, o) : wW) = (wr (drN M c t k) (rHo c) k (((drN M c t k) (rHo c) k) &&& (((nI 1) <<< ((nI t) &&& 31)) ^^^ (-1))), R, o) from by simp [drN, clB, eq_true c_9, eq_false (Nat.not_le.mpr c_9), c_22]]; exact h) _ (by have hl := lv_sub hl [0, 1, 2, 3] (l' := [(3, .int (nI (k + 1))), (2, .int (nI ((drC M c t k) + 1))), (0, .ref (V.1 (rRow c))), (1, .int (nI t))]) rfl; rw [show (.int (nI (k + 1)) : Value) = .int (nI (k + 1)) from rfl] at hl; rw [show (.int (nI ((drC M c t k) + 1)) : Value) = .int (nI (drC M c t (k + 1))) from by simp [drC, eq_true c_9, eq_false (Nat.not_le.mpr c_9), c_22]] at hl; exact hl)
  exact L_4 (sz) 0 (by omega) _ _ (by rw [show (drN M c t 0, R, o) = (M, R, o) from rfl]; exact h) _ (by have hl := lv_sub hl [0, 1, 2, 3] (l' := [(3, .int (nI 0)), (2, .int (nI 0)), (0, .ref (V.1 (rRow c))), (1, .int (nI t))]) rfl; rw [show (.int (nI 0) : Value) = .int (nI (drC M c t 0)) from rfl] at hl; exact hl)

set_option maxRecDepth 20000 in
theorem in_X3_heldCount_X3 : ∀ x ∈ wsX30, x ∈ wsX3_heldCount := by decide +kernel
set_option maxRecDepth 100000 in
set_option maxHeartbeats 4000000 in
/-- Row.heldCount -/
theorem c_X3_heldCount (l : Launch) {G : va_G} {V : wV} {rs : List Nat} (c : Nat) (hc : c < 2) (hb : bC c rs) (M R : wM) (o : wO) (sz : Nat) (hs : sz ≤ 60) (hsz : M (rRow c) 0 = nI sz) : CT l G V rs yX3_heldCount wsX3_heldCount 1 20 0 0 [.ref (V.1 (rRow c))] (M, R, o) (fun v u => v = some (.int (hcN M c sz)) ∧ u = (M, R, o)) (fun _ _ => False) := by
  refine ct_of (cc := cX3_heldCount) (maxL := 3) (ret := (some .int)) (by decide) rfl (Nat.le_of_ble_eq_true rfl) ?_
  intro p e s m below meth cd ls C h X hT hl
  have hx := C.1
  have hy := C.2.1
  have hl : lv_has ls 3 [(0, .ref (V.1 (rRow c)))] := hl
  refine lv_iconst (v := (nI 0)) hx hy dX3_heldCount_0 (by decide) ?_
  refine lv_istore_n (lv' := [(1, .int (nI 0)), (0, .ref (V.1 (rRow c)))]) hx hy dX3_heldCount_1 rfl hl (by decide) rfl (fun ls hl => ?_)
  refine lv_iconst (v := (nI 0)) hx hy dX3_heldCount_2 (by decide) ?_
  refine lv_istore_n (lv' := [(2, .int (nI 0)), (1, .int (nI 0)), (0, .ref (V.1 (rRow c)))]) hx hy dX3_heldCount_3 rfl hl (by decide) rfl (fun ls hl => ?_)
  have L_4 : ∀ (n_4 k : Nat), n_4 + k = sz → ∀ (H : Heap) (locs : List Loc), HH G V rs (M, R, o) s H locs → ∀ ls : Array Slot, lv_has ls 3 [(2, .int (nI k)), (1, .int (hcN M c k)), (0, .ref (V.1 (rRow c)))] → W p l e { frames := 1, cells := 0, slots := 0, locals := 20 } s m [.ref (V.1 (rRow c))].toArray below meth cd H locs 0 0 (QM G V rs below [.ref (V.1 (rRow c))].toArray s 0 0 (fun v u => v = some (.int (hcN M c sz)) ∧ u = (M, R, o)) (fun _ _ => False)) (F0 m 4 ls []) := by
    intro n_4
    induction n_4 with
    | zero =>
      intro k hk_4 H locs h ls hl
      have hz_4 : k = sz := by omega
      try rw [hz_4] at h
      try rw [hz_4] at hl
      refine lv_iload_n hx hy dX3_heldCount_4 rfl (lv_at hl 0 rfl) ?_
      refine lv_aload_n hx hy dX3_heldCount_5 rfl (lv_at hl 2 rfl) ?_
      refine g_f C h (hb 16 (by decide)) (lo_Row hc) (celF_Row hc) rfl in_X3_heldCount_X3 0 (by decide) (by decide +kernel) (v := .int (nI sz)) (congrArg (fun z => some (Value.int z)) (show M (rRow c) 0 = (nI sz) from hsz)) dX3_heldCount_6 ?_
      refine n_ge hx hy (by omega) (by omega) (tgt := 30) dX3_heldCount_9 (by decide) (fun c_9 => ?_) (fun c_9 => ?_)
      · skip
        refine lv_iload_n hx hy dX3_heldCount_30 rfl (lv_at hl 1 rfl) ?_
        exact e_int C h rfl dX3_heldCount_31 (⟨rfl, rfl⟩) (by decide) (by decide)
      · skip
        exact absurd c_9 (by omega)
    | succ n_4 ih_4 =>
      intro k hk_4 H locs h ls hl
      have hz_4 : k < sz := by omega
      refine lv_iload_n hx hy dX3_heldCount_4 rfl (lv_at hl 0 rfl) ?_
      refine lv_aload_n hx hy dX3_heldCount_5 rfl (lv_at hl 2 rfl) ?_
      refine g_f C h (hb 16 (by decide)) (lo_Row hc) (celF_Row hc) rfl in_X3_heldCount_X3 0 (by decide) (by decide +kernel) (v := .int (nI sz)) (congrArg (fun z => some (Value.int z)) (show M (rRow c) 0 = (nI sz) from hsz)) dX3_heldCount_6 ?_
      refine n_ge hx hy (by omega) (by omega) (tgt := 30) dX3_heldCount_9 (by decide) (fun c_9 => ?_) (fun c_9 => ?_)
      · skip
        exact absurd c_9 (by omega)
      · skip
        refine lv_iload_n hx hy dX3_heldCount_12 rfl (lv_at hl 1 rfl) ?_
        refine lv_aload_n hx hy dX3_heldCount_13 rfl (lv_at hl 2 rfl) ?_
        refine g_f C h (hb 16 (by decide)) (lo_Row hc) (celF_Row hc) rfl in_X3_heldCount_X3 4 (by decide) (by decide +kernel) (v := .ref (V.1 (rHo c))) rfl dX3_heldCount_14 ?_
        refine lv_iload_n hx hy dX3_heldCount_17 rfl (lv_at hl 0 rfl) ?_
        refine g_i C h (hb 20 (by decide)) (n := 60) (k := k) (lo_Ho hc) (celF_Ho hc) (by omega) (by decide) (v := (M (rHo c) k)) rfl dX3_heldCount_18 ?_
        refine n_go0 C h (n_S (As := [.int (M (rHo c) k)]) (rest := [.int (hcN M c k)]) C h X (c_J6_bitCount_0f7a4 l M R o (M (rHo c) k)) (va_cwS 1 C.2.2.2.2.1 gX3_heldCount_J6_bitCount_0f7a4 rfl rfl rfl (by decide +kernel) ⟨Nat.le_of_ble_eq_true rfl, Nat.le_of_ble_eq_true rfl⟩) rfl hl.1 rfl (Nat.le_of_ble_eq_true rfl) dX3_heldCount_19 ⟨by decide, by decide⟩) (fun _ _ z => z) (fun v_19 u_19 H locs hpo h => ?_)
        obtain ⟨rfl, rfl⟩ := hpo
        refine lv_iadd hx hy dX3_heldCount_22 ?_
        refine lv_istore_n (lv' := [(1, .int ((hcN M c k) + (bcI (M (rHo c) k)))), (2, .int (nI k)), (0, .ref (V.1 (rRow c)))]) hx hy dX3_heldCount_23 rfl hl (by decide) rfl (fun ls hl => ?_)
        refine lv_iinc (v := (nI (k + 1))) (lv' := [(2, .int (nI (k + 1))), (1, .int ((hcN M c k) + (bcI (M (rHo c) k)))), (0, .ref (V.1 (rRow c)))]) hx hy dX3_heldCount_24 hl (k := 1) rfl (nI_1 _) (by decide) rfl (fun ls hl => ?_)
        refine lv_goto (tgt := 4) hx hy dX3_heldCount_27 (by decide) ?_
        exact ih_4 (k + 1) (by omega) _ _ h _ (by have hl := lv_sub hl [0, 1, 2] (l' := [(2, .int (nI (k + 1))), (1, .int ((hcN M c k) + (bcI (M (rHo c) k)))), (0, .ref (V.1 (rRow c)))]) rfl; rw [show (.int (nI (k + 1)) : Value) = .int (nI (k + 1)) from rfl] at hl; rw [show (.int ((hcN M c k) + (bcI (M (rHo c) k))) : Value) = .int (hcN M c (k + 1)) from rfl] at hl; exact hl)
  exact L_4 (sz) 0 (by omega) _ _ h _ (by have hl := lv_sub hl [0, 1, 2] (l' := [(2, .int (nI 0)), (1, .int (nI 0)), (0, .ref (V.1 (rRow c)))]) rfl; rw [show (.int (nI 0) : Value) = .int (hcN M c 0) from rfl] at hl; exact hl)

set_option maxRecDepth 20000 in
theorem in_X3_movedByTruces_X3 : ∀ x ∈ wsX30, x ∈ wsX3_movedByTruces := by decide +kernel
set_option maxRecDepth 100000 in
set_option maxHeartbeats 4000000 in
/-- Row.movedByTruces -/
theorem c_X3_movedByTruces (l : Launch) {G : va_G} {V : wV} {rs : List Nat} (c : Nat) (hc : c < 2) (hb : bC c rs) (M R : wM) (o : wO) (sz : Nat) (hs : sz ≤ 60) (hsz : M (rRow c) 0 = nI sz) : CT l G V rs yX3_movedByTruces wsX3_movedByTruces 1 21 0 0 [.ref (V.1 (rRow c))] (M, R, o) (fun v u => v = some (.int (mvN M c (rCnt M c sz))) ∧ u = (M, R, o)) (fun _ _ => False) := by
  refine ct_of (cc := cX3_movedByTruces) (maxL := 4) (ret := (some .int)) (by decide) rfl (Nat.le_of_ble_eq_true rfl) ?_
  intro p e s m below meth cd ls C h X hT hl
  have hx := C.1
  have hy := C.2.1
  have hl : lv_has ls 4 [(0, .ref (V.1 (rRow c)))] := hl
  have hq : rCnt M c sz ≤ sz := lead_le _ _
  refine lv_iconst (v := (nI 0)) hx hy dX3_movedByTruces_0 (by decide) ?_
  refine lv_istore_n (lv' := [(1, .int (nI 0)), (0, .ref (V.1 (rRow c)))]) hx hy dX3_movedByTruces_1 rfl hl (by decide) rfl (fun ls hl => ?_)
  refine lv_aload_n hx hy dX3_movedByTruces_2 rfl (lv_at hl 1 rfl) ?_
  refine n_go0 C h (n_V (As := []) (rest := []) C h X (hb 16 (by decide)) ((lo_Row hc).trans ((celF_Row hc) _)) rfl (c_X3_countingSize l c hc hb M R o sz hs hsz ) (cwV 0 C.2.2.2.2.1 gX3_movedByTruces_X3_countingSize rfl rfl rfl (by decide +kernel) ⟨Nat.le_of_ble_eq_true rfl, Nat.le_of_ble_eq_true rfl⟩) rfl hl.1 rfl (Nat.le_of_ble_eq_true rfl) dX3_movedByTruces_3 ⟨by decide, by decide⟩) (fun _ _ z => z) (fun v_3 u_3 H locs hpo h => ?_)
  obtain ⟨rfl, rfl⟩ := hpo
  refine lv_istore_n (lv' := [(2, .int (nI (rCnt M c sz))), (1, .int (nI 0)), (0, .ref (V.1 (rRow c)))]) hx hy dX3_movedByTruces_6 rfl hl (by decide) rfl (fun ls hl => ?_)
  refine lv_iconst (v := (nI 0)) hx hy dX3_movedByTruces_7 (by decide) ?_
  refine lv_istore_n (lv' := [(3, .int (nI 0)), (2, .int (nI (rCnt M c sz))), (1, .int (nI 0)), (0, .ref (V.1 (rRow c)))]) hx hy dX3_movedByTruces_8 rfl hl (by decide) rfl (fun ls hl => ?_)
  have L_9 : ∀ (n_9 k : Nat), n_9 + k = (rCnt M c sz) → ∀ (H : Heap) (locs : List Loc), HH G V rs (M, R, o) s H locs → ∀ ls : Array Slot, lv_has ls 4 [(3, .int (nI k)), (2, .int (nI (rCnt M c sz))), (1, .int (mvN M c k)), (0, .ref (V.1 (rRow c)))] → W p l e { frames := 1, cells := 0, slots := 0, locals := 21 } s m [.ref (V.1 (rRow c))].toArray below meth cd H locs 0 0 (QM G V rs below [.ref (V.1 (rRow c))].toArray s 0 0 (fun v u => v = some (.int (mvN M c (rCnt M c sz))) ∧ u = (M, R, o)) (fun _ _ => False)) (F0 m 9 ls []) := by
    intro n_9
    induction n_9 with
    | zero =>
      intro k hk_9 H locs h ls hl
      have hz_9 : k = (rCnt M c sz) := by omega
      try rw [hz_9] at h
      try rw [hz_9] at hl
      refine lv_iload_n hx hy dX3_movedByTruces_9 rfl (lv_at hl 0 rfl) ?_
      refine lv_iload_n hx hy dX3_movedByTruces_10 rfl (lv_at hl 1 rfl) ?_
      refine n_ge hx hy (by omega) (by omega) (tgt := 59) dX3_movedByTruces_11 (by decide) (fun c_11 => ?_) (fun c_11 => ?_)
      · skip
        refine lv_iload_n hx hy dX3_movedByTruces_59 rfl (lv_at hl 2 rfl) ?_
        exact e_int C h rfl dX3_movedByTruces_60 (⟨rfl, rfl⟩) (by decide) (by decide)
      · skip
        exact absurd c_11 (by omega)
    | succ n_9 ih_9 =>
      intro k hk_9 H locs h ls hl
      have hz_9 : k < (rCnt M c sz) := by omega
      refine lv_iload_n hx hy dX3_movedByTruces_9 rfl (lv_at hl 0 rfl) ?_
      refine lv_iload_n hx hy dX3_movedByTruces_10 rfl (lv_at hl 1 rfl) ?_
      refine n_ge hx hy (by omega) (by omega) (tgt := 59) dX3_movedByTruces_11 (by decide) (fun c_11 => ?_) (fun c_11 => ?_)
      · skip
        exact absurd c_11 (by omega)
      · skip
        refine lv_aload_n hx hy dX3_movedByTruces_14 rfl (lv_at hl 3 rfl) ?_
        refine g_f C h (hb 16 (by decide)) (lo_Row hc) (celF_Row hc) rfl in_X3_movedByTruces_X3 1 (by decide) (by decide +kernel) (v := .ref (V.1 (rLe c))) rfl dX3_movedByTruces_15 ?_
        refine lv_iload_n hx hy dX3_movedByTruces_18 rfl (lv_at hl 0 rfl) ?_
        refine g_c C h (hb 17 (by decide)) (n := 60) (k := k) (lo_Le hc) (celF_Le hc) (by omega) (by decide) (v := (M (rLe c) k)) rfl dX3_movedByTruces_19 ?_
        refine lv_bipush (v := (nI 100)) hx hy dX3_movedByTruces_20 (by decide) ?_
        refine i_ne hx hy (tgt := 53) dX3_movedByTruces_22 (by decide) (fun c_22 => ?_) (fun c_22 => ?_)
        · skip
          refine lv_iinc (v := (nI (k + 1))) (lv' := [(3, .int (nI (k + 1))), (2, .int (nI (rCnt M c sz))), (1, .int (mvN M c k)), (0, .ref (V.1 (rRow c)))]) hx hy dX3_movedByTruces_53 hl (k := 0) rfl (nI_1 _) (by decide) rfl (fun ls hl => ?_)
          refine lv_goto (tgt := 9) hx hy dX3_movedByTruces_56 (by decide) ?_
          exact ih_9 (k + 1) (by omega) _ _ h _ (by have hl := lv_sub hl [0, 1, 2, 3] (l' := [(3, .int (nI (k + 1))), (2, .int (nI (rCnt M c sz))), (1, .int (mvN M c k)), (0, .ref (V.1 (rRow c)))]) rfl; rw [show (.int (nI (k + 1)) : Value) = .int (nI (k + 1)) from rfl] at hl; rw [show (.int (mvN M c k) : Value) = .int (mvN M c (k + 1)) from by simp [mvN, eq_true c_11, eq_false (Nat.not_le.mpr c_11), eq_false c_22]] at hl; exact hl)
        · skip
          refine lv_iload_n hx hy dX3_movedByTruces_25 rfl (lv_at hl 2 rfl) ?_
          refine lv_aload_n hx hy dX3_movedByTruces_26 rfl (lv_at hl 3 rfl) ?_
          refine g_f C h (hb 16 (by decide)) (lo_Row hc) (celF_Row hc) rfl in_X3_movedByTruces_X3 5 (by decide) (by decide +kernel) (v := .ref (V.1 (rFh c))) rfl dX3_movedByTruces_27 ?_
          refine lv_iload_n hx hy dX3_movedByTruces_30 rfl (lv_at hl 0 rfl) ?_
          refine g_z C h (hb 21 (by decide)) (n := 60) (k := k) (lo_Fh hc) (celF_Fh hc) (by omega) (by decide) (v := (M (rFh c) k)) rfl dX3_movedByTruces_31 ?_
          refine z_eq hx hy (tgt := 45) dX3_movedByTruces_32 (by decide) (fun c_32 => ?_) (fun c_32 => ?_)
          · skip
            refine lv_aload_n hx hy dX3_movedByTruces_45 rfl (lv_at hl 3 rfl) ?_
            refine g_f C h (hb 16 (by decide)) (lo_Row hc) (celF_Row hc) rfl in_X3_movedByTruces_X3 2 (by decide) (by decide +kernel) (v := .ref (V.1 (rAm c))) rfl dX3_movedByTruces_46 ?_
            refine lv_iload_n hx hy dX3_movedByTruces_49 rfl (lv_at hl 0 rfl) ?_
            refine g_i C h (hb 18 (by decide)) (n := 60) (k := k) (lo_Am hc) (celF_Am hc) (by omega) (by decide) (v := (M (rAm c) k)) rfl dX3_movedByTruces_50 ?_
            refine lv_iadd hx hy dX3_movedByTruces_51 ?_
            refine lv_istore_n (lv' := [(1, .int ((mvN M c k) + (M (rAm c) k))), (3, .int (nI k)), (2, .int (nI (rCnt M c sz))), (0, .ref (V.1 (rRow c)))]) hx hy dX3_movedByTruces_52 rfl hl (by decide) rfl (fun ls hl => ?_)
            refine lv_iinc (v := (nI (k + 1))) (lv' := [(3, .int (nI (k + 1))), (1, .int ((mvN M c k) + (M (rAm c) k))), (2, .int (nI (rCnt M c sz))), (0, .ref (V.1 (rRow c)))]) hx hy dX3_movedByTruces_53 hl (k := 1) rfl (nI_1 _) (by decide) rfl (fun ls hl => ?_)
            refine lv_goto (tgt := 9) hx hy dX3_movedByTruces_56 (by decide) ?_
            exact ih_9 (k + 1) (by omega) _ _ h _ (by have hl := lv_sub hl [0, 2, 1, 3] (l' := [(3, .int (nI (k + 1))), (2, .int (nI (rCnt M c sz))), (1, .int ((mvN M c k) + (M (rAm c) k))), (0, .ref (V.1 (rRow c)))]) rfl; rw [show (.int (nI (k + 1)) : Value) = .int (nI (k + 1)) from rfl] at hl; rw [show (.int ((mvN M c k) + (M (rAm c) k)) : Value) = .int (mvN M c (k + 1)) from by simp [mvN, eq_true c_11, eq_false (Nat.not_le.mpr c_11), eq_true c_22, eq_true c_32]] at hl; exact hl)
          · skip
            refine lv_aload_n hx hy dX3_movedByTruces_35 rfl (lv_at hl 3 rfl) ?_
            refine g_f C h (hb 16 (by decide)) (lo_Row hc) (celF_Row hc) rfl in_X3_movedByTruces_X3 2 (by decide) (by decide +kernel) (v := .ref (V.1 (rAm c))) rfl dX3_movedByTruces_36 ?_
            refine lv_iload_n hx hy dX3_movedByTruces_39 rfl (lv_at hl 0 rfl) ?_
            refine g_i C h (hb 18 (by decide)) (n := 60) (k := k) (lo_Am hc) (celF_Am hc) (by omega) (by decide) (v := (M (rAm c) k)) rfl dX3_movedByTruces_40 ?_
            refine lv_ineg hx hy dX3_movedByTruces_41 ?_
            refine lv_goto (tgt := 51) hx hy dX3_movedByTruces_42 (by decide) ?_
            refine lv_iadd hx hy dX3_movedByTruces_51 ?_
            refine lv_istore_n (lv' := [(1, .int ((mvN M c k) + (-(M (rAm c) k)))), (3, .int (nI k)), (2, .int (nI (rCnt M c sz))), (0, .ref (V.1 (rRow c)))]) hx hy dX3_movedByTruces_52 rfl hl (by decide) rfl (fun ls hl => ?_)
            refine lv_iinc (v := (nI (k + 1))) (lv' := [(3, .int (nI (k + 1))), (1, .int ((mvN M c k) + (-(M (rAm c) k)))), (2, .int (nI (rCnt M c sz))), (0, .ref (V.1 (rRow c)))]) hx hy dX3_movedByTruces_53 hl (k := 1) rfl (nI_1 _) (by decide) rfl (fun ls hl => ?_)
            refine lv_goto (tgt := 9) hx hy dX3_movedByTruces_56 (by decide) ?_
            exact ih_9 (k + 1) (by omega) _ _ h _ (by have hl := lv_sub hl [0, 2, 1, 3] (l' := [(3, .int (nI (k + 1))), (2, .int (nI (rCnt M c sz))), (1, .int ((mvN M c k) + (-(M (rAm c) k)))), (0, .ref (V.1 (rRow c)))]) rfl; rw [show (.int (nI (k + 1)) : Value) = .int (nI (k + 1)) from rfl] at hl; rw [show (.int ((mvN M c k) + (-(M (rAm c) k))) : Value) = .int (mvN M c (k + 1)) from by simp [mvN, eq_true c_11, eq_false (Nat.not_le.mpr c_11), eq_true c_22, eq_false c_32]] at hl; exact hl)
  exact L_9 ((rCnt M c sz)) 0 (by omega) _ _ h _ (by have hl := lv_sub hl [0, 1, 2, 3] (l' := [(3, .int (nI 0)), (2, .int (nI (rCnt M c sz))), (1, .int (nI 0)), (0, .ref (V.1 (rRow c)))]) rfl; rw [show (.int (nI 0) : Value) = .int (mvN M c 0) from rfl] at hl; exact hl)

