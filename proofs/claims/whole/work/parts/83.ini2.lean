/-! CONSTRUCTORS that make arrays alone -/
abbrev z0 : Nat → Int32 := fun _ => 0
set_option maxRecDepth 100000 in
theorem inI1 : ∀ w ∈ u_ws RX1 TX1 3, w ∈ wsX1_init := fun w h => List.mem_cons_of_mem _ (List.mem_append_right _ h)
set_option maxRecDepth 100000 in
theorem inI2 : ∀ w ∈ u_ws RX2 TX2 3, w ∈ wsX2_init := fun w h => List.mem_cons_of_mem _ (List.mem_append_right _ h)
set_option maxRecDepth 100000 in
theorem inI3 : ∀ w ∈ u_ws RX3 TX3 7, w ∈ wsX3_init := fun w h => List.mem_cons_of_mem _ (List.mem_append_right _ h)
set_option maxRecDepth 100000 in
theorem inI4 : ∀ w ∈ u_ws RX4 TX4 6, w ∈ wsX4_init := fun w h => List.mem_cons_of_mem _ (List.mem_append_right _ h)
set_option maxRecDepth 100000 in
theorem inI5 : ∀ w ∈ u_ws RX5 TX5 4, w ∈ wsX5_init := fun w h => List.mem_cons_of_mem _ (List.mem_append_right _ h)
def res1 (V : wV) (a : Nat) (f : Nat → Nat) : va_W := [(a, .inr (1, [.ref (f 1), .ref (f 2), .ref (f 3)])), (f 1, .inl (V.2 0, 7, .inl z0)), (f 2, .inl (V.2 0, 7, .inl z0)), (f 3, .inl (V.2 0, 4, .inl z0))]
set_option maxRecDepth 100000 in
set_option maxHeartbeats 4000000 in
theorem i_X1 (l : Launch) {G : va_G} {V : wV} (sz0 a : Nat) : CI l G V yX1_init wsX1_init 1 12 3 18 sz0 a (.inr (1, [.null, .null, .null])) (res1 V a) := by
  refine ci_of (cc := cX1_init) (maxL := 1) (by decide) rfl rfl (by decide) ?_
  intro p e s m below meth c ls C hin2 h X ha hA hl
  have hx := C.1
  have hb := C.2.1
  have hsz : ls.size = 1 := hl.1
  refine lv_aload_n hx hb dX1_init_0 rfl (lv_at hl 0 rfl) ?_
  refine W.objInit hx hb C.2.2.2.1 (C.2.2.2.2.1 (.methodLink RX1 3 objectInit) (by decide +kernel)) (C.2.2.2.2.1 (.instanceMethod objectInit) (by decide +kernel)) (C.2.2.2.2.1 _ (List.mem_of_getElem? (i := 3) rfl)) rfl (by rw [C.2.2.1]; exact hl.1) rfl dX1_init_1 (Nat.le_of_ble_eq_true rfl) (Nat.le_of_ble_eq_true rfl) ?_
  refine W.eq (g2 := F0 m 4 ls []) rfl ?_
  refine lv_aload_n hx hb dX1_init_4 rfl (lv_at hl 0 rfl) ?_
  refine lv_bipush (v := 7) hx hb dX1_init_5 (by decide) ?_
  refine k_newa C h 0 rfl (fun _ z => by cases z) (ty := .int) rfl (by decide +kernel) 7 (7, .inl z0) (fun _ => rfl) (by decide) (by decide) (by decide) (by decide) (by decide) dX1_init_7 (fun q7 H h => ?_)
  refine k_putF C hin2 h rfl inI1 tyX1 tyX1_ok nmX1 0 (by decide) (by decide +kernel) rfl rfl (v := .ref q7) rfl rfl (Nat.le_of_ble_eq_true rfl) dX1_init_9 (fun H locs h => ?_)
  have h : CL G ([(a, .inr (1, [.ref q7, .null, .null])), (q7, .inl (V.2 0, 7, .inl z0))]) s _ H locs := h
  refine lv_aload_n hx hb dX1_init_12 rfl (lv_at hl 0 rfl) ?_
  refine lv_bipush (v := 7) hx hb dX1_init_13 (by decide) ?_
  refine k_newa C h 0 rfl (fun _ z => by cases z) (ty := .int) rfl (by decide +kernel) 7 (7, .inl z0) (fun _ => rfl) (by decide) (by decide) (by decide) (by decide) (by decide) dX1_init_15 (fun q15 H h => ?_)
  refine k_putF C hin2 h rfl inI1 tyX1 tyX1_ok nmX1 1 (by decide) (by decide +kernel) rfl rfl (v := .ref q15) rfl rfl (Nat.le_of_ble_eq_true rfl) dX1_init_17 (fun H locs h => ?_)
  have h : CL G ([(a, .inr (1, [.ref q7, .ref q15, .null])), (q7, .inl (V.2 0, 7, .inl z0)), (q15, .inl (V.2 0, 7, .inl z0))]) s _ H locs := h
  refine lv_aload_n hx hb dX1_init_20 rfl (lv_at hl 0 rfl) ?_
  refine lv_iconst (v := 4) hx hb dX1_init_21 (by decide) ?_
  refine k_newa C h 0 rfl (fun _ z => by cases z) (ty := .int) rfl (by decide +kernel) 4 (4, .inl z0) (fun _ => rfl) (by decide) (by decide) (by decide) (by decide) (by decide) dX1_init_22 (fun q22 H h => ?_)
  refine k_putF C hin2 h rfl inI1 tyX1 tyX1_ok nmX1 2 (by decide) (by decide +kernel) rfl rfl (v := .ref q22) rfl rfl (Nat.le_of_ble_eq_true rfl) dX1_init_24 (fun H locs h => ?_)
  have h : CL G ([(a, .inr (1, [.ref q7, .ref q15, .ref q22])), (q7, .inl (V.2 0, 7, .inl z0)), (q15, .inl (V.2 0, 7, .inl z0)), (q22, .inl (V.2 0, 4, .inl z0))]) s _ H locs := h
  exact k_end C (fun j => match j with | 1 => q7 | 2 => q15 | 3 => q22 | _ => 0) h rfl dX1_init_27 (by decide) (by decide)
def res2 (V : wV) (a : Nat) (f : Nat → Nat) : va_W := [(a, .inr (2, [.int 0, .int 0, .ref (f 1)])), (f 1, .inl (V.2 0, 4, .inl z0))]
set_option maxRecDepth 100000 in
set_option maxHeartbeats 4000000 in
theorem i_X2 (l : Launch) {G : va_G} {V : wV} (sz0 a : Nat) : CI l G V yX2_init wsX2_init 1 12 1 4 sz0 a (.inr (2, [.int 0, .int 0, .null])) (res2 V a) := by
  refine ci_of (cc := cX2_init) (maxL := 1) (by decide) rfl rfl (by decide) ?_
  intro p e s m below meth c ls C hin2 h X ha hA hl
  have hx := C.1
  have hb := C.2.1
  have hsz : ls.size = 1 := hl.1
  refine lv_aload_n hx hb dX2_init_0 rfl (lv_at hl 0 rfl) ?_
  refine W.objInit hx hb C.2.2.2.1 (C.2.2.2.2.1 (.methodLink RX2 3 objectInit) (by decide +kernel)) (C.2.2.2.2.1 (.instanceMethod objectInit) (by decide +kernel)) (C.2.2.2.2.1 _ (List.mem_of_getElem? (i := 3) rfl)) rfl (by rw [C.2.2.1]; exact hl.1) rfl dX2_init_1 (Nat.le_of_ble_eq_true rfl) (Nat.le_of_ble_eq_true rfl) ?_
  refine W.eq (g2 := F0 m 4 ls []) rfl ?_
  refine lv_aload_n hx hb dX2_init_4 rfl (lv_at hl 0 rfl) ?_
  refine lv_iconst (v := 4) hx hb dX2_init_5 (by decide) ?_
  refine k_newa C h 0 rfl (fun _ z => by cases z) (ty := .int) rfl (by decide +kernel) 4 (4, .inl z0) (fun _ => rfl) (by decide) (by decide) (by decide) (by decide) (by decide) dX2_init_6 (fun q6 H h => ?_)
  refine k_putF C hin2 h rfl inI2 tyX2 tyX2_ok nmX2 2 (by decide) (by decide +kernel) rfl rfl (v := .ref q6) rfl rfl (Nat.le_of_ble_eq_true rfl) dX2_init_8 (fun H locs h => ?_)
  have h : CL G ([(a, .inr (2, [.int 0, .int 0, .ref q6])), (q6, .inl (V.2 0, 4, .inl z0))]) s _ H locs := h
  exact k_end C (fun j => match j with | 1 => q6 | _ => 0) h rfl dX2_init_11 (by decide) (by decide)
def res3 (V : wV) (a : Nat) (f : Nat → Nat) : va_W := [(a, .inr (3, [.int 0, .ref (f 1), .ref (f 2), .ref (f 3), .ref (f 4), .ref (f 5), .ref (f 6)])), (f 1, .inl (V.2 1, 60, .inl z0)), (f 2, .inl (V.2 0, 60, .inl z0)), (f 3, .inl (V.2 0, 60, .inl z0)), (f 4, .inl (V.2 0, 60, .inl z0)), (f 5, .inl (V.2 2, 60, .inl z0)), (f 6, .inl (V.2 2, 60, .inl z0))]
set_option maxRecDepth 100000 in
set_option maxHeartbeats 4000000 in
theorem i_X3 (l : Launch) {G : va_G} {V : wV} (sz0 a : Nat) : CI l G V yX3_init wsX3_init 1 12 6 360 sz0 a (.inr (3, [.int 0, .null, .null, .null, .null, .null, .null])) (res3 V a) := by
  refine ci_of (cc := cX3_init) (maxL := 1) (by decide) rfl rfl (by decide) ?_
  intro p e s m below meth c ls C hin2 h X ha hA hl
  have hx := C.1
  have hb := C.2.1
  have hsz : ls.size = 1 := hl.1
  refine lv_aload_n hx hb dX3_init_0 rfl (lv_at hl 0 rfl) ?_
  refine W.objInit hx hb C.2.2.2.1 (C.2.2.2.2.1 (.methodLink RX3 3 objectInit) (by decide +kernel)) (C.2.2.2.2.1 (.instanceMethod objectInit) (by decide +kernel)) (C.2.2.2.2.1 _ (List.mem_of_getElem? (i := 3) rfl)) rfl (by rw [C.2.2.1]; exact hl.1) rfl dX3_init_1 (Nat.le_of_ble_eq_true rfl) (Nat.le_of_ble_eq_true rfl) ?_
  refine W.eq (g2 := F0 m 4 ls []) rfl ?_
  refine lv_aload_n hx hb dX3_init_4 rfl (lv_at hl 0 rfl) ?_
  refine lv_bipush (v := 60) hx hb dX3_init_5 (by decide) ?_
  refine k_newa C h 1 rfl (fun _ z => by cases z) (ty := .char) rfl (by decide +kernel) 60 (60, .inl z0) (fun _ => rfl) (by decide) (by decide) (by decide) (by decide) (by decide) dX3_init_7 (fun q7 H h => ?_)
  refine k_putF C hin2 h rfl inI3 tyX3 tyX3_ok nmX3 1 (by decide) (by decide +kernel) rfl rfl (v := .ref q7) rfl rfl (Nat.le_of_ble_eq_true rfl) dX3_init_9 (fun H locs h => ?_)
  have h : CL G ([(a, .inr (3, [.int 0, .ref q7, .null, .null, .null, .null, .null])), (q7, .inl (V.2 1, 60, .inl z0))]) s _ H locs := h
  refine lv_aload_n hx hb dX3_init_12 rfl (lv_at hl 0 rfl) ?_
  refine lv_bipush (v := 60) hx hb dX3_init_13 (by decide) ?_
  refine k_newa C h 0 rfl (fun _ z => by cases z) (ty := .int) rfl (by decide +kernel) 60 (60, .inl z0) (fun _ => rfl) (by decide) (by decide) (by decide) (by decide) (by decide) dX3_init_15 (fun q15 H h => ?_)
  refine k_putF C hin2 h rfl inI3 tyX3 tyX3_ok nmX3 2 (by decide) (by decide +kernel) rfl rfl (v := .ref q15) rfl rfl (Nat.le_of_ble_eq_true rfl) dX3_init_17 (fun H locs h => ?_)
  have h : CL G ([(a, .inr (3, [.int 0, .ref q7, .ref q15, .null, .null, .null, .null])), (q7, .inl (V.2 1, 60, .inl z0)), (q15, .inl (V.2 0, 60, .inl z0))]) s _ H locs := h
  refine lv_aload_n hx hb dX3_init_20 rfl (lv_at hl 0 rfl) ?_
  refine lv_bipush (v := 60) hx hb dX3_init_21 (by decide) ?_
  refine k_newa C h 0 rfl (fun _ z => by cases z) (ty := .int) rfl (by decide +kernel) 60 (60, .inl z0) (fun _ => rfl) (by decide) (by decide) (by decide) (by decide) (by decide) dX3_init_23 (fun q23 H h => ?_)
  refine k_putF C hin2 h rfl inI3 tyX3 tyX3_ok nmX3 3 (by decide) (by decide +kernel) rfl rfl (v := .ref q23) rfl rfl (Nat.le_of_ble_eq_true rfl) dX3_init_25 (fun H locs h => ?_)
  have h : CL G ([(a, .inr (3, [.int 0, .ref q7, .ref q15, .ref q23, .null, .null, .null])), (q7, .inl (V.2 1, 60, .inl z0)), (q15, .inl (V.2 0, 60, .inl z0)), (q23, .inl (V.2 0, 60, .inl z0))]) s _ H locs := h
  refine lv_aload_n hx hb dX3_init_28 rfl (lv_at hl 0 rfl) ?_
  refine lv_bipush (v := 60) hx hb dX3_init_29 (by decide) ?_
  refine k_newa C h 0 rfl (fun _ z => by cases z) (ty := .int) rfl (by decide +kernel) 60 (60, .inl z0) (fun _ => rfl) (by decide) (by decide) (by decide) (by decide) (by decide) dX3_init_31 (fun q31 H h => ?_)
  refine k_putF C hin2 h rfl inI3 tyX3 tyX3_ok nmX3 4 (by decide) (by decide +kernel) rfl rfl (v := .ref q31) rfl rfl (Nat.le_of_ble_eq_true rfl) dX3_init_33 (fun H locs h => ?_)
  have h : CL G ([(a, .inr (3, [.int 0, .ref q7, .ref q15, .ref q23, .ref q31, .null, .null])), (q7, .inl (V.2 1, 60, .inl z0)), (q15, .inl (V.2 0, 60, .inl z0)), (q23, .inl (V.2 0, 60, .inl z0)), (q31, .inl (V.2 0, 60, .inl z0))]) s _ H locs := h
  refine lv_aload_n hx hb dX3_init_36 rfl (lv_at hl 0 rfl) ?_
  refine lv_bipush (v := 60) hx hb dX3_init_37 (by decide) ?_
  refine k_newa C h 2 rfl (fun _ z => by cases z) (ty := .boolean) rfl (by decide +kernel) 60 (60, .inl z0) (fun _ => rfl) (by decide) (by decide) (by decide) (by decide) (by decide) dX3_init_39 (fun q39 H h => ?_)
  refine k_putF C hin2 h rfl inI3 tyX3 tyX3_ok nmX3 5 (by decide) (by decide +kernel) rfl rfl (v := .ref q39) rfl rfl (Nat.le_of_ble_eq_true rfl) dX3_init_41 (fun H locs h => ?_)
  have h : CL G ([(a, .inr (3, [.int 0, .ref q7, .ref q15, .ref q23, .ref q31, .ref q39, .null])), (q7, .inl (V.2 1, 60, .inl z0)), (q15, .inl (V.2 0, 60, .inl z0)), (q23, .inl (V.2 0, 60, .inl z0)), (q31, .inl (V.2 0, 60, .inl z0)), (q39, .inl (V.2 2, 60, .inl z0))]) s _ H locs := h
  refine lv_aload_n hx hb dX3_init_44 rfl (lv_at hl 0 rfl) ?_
  refine lv_bipush (v := 60) hx hb dX3_init_45 (by decide) ?_
  refine k_newa C h 2 rfl (fun _ z => by cases z) (ty := .boolean) rfl (by decide +kernel) 60 (60, .inl z0) (fun _ => rfl) (by decide) (by decide) (by decide) (by decide) (by decide) dX3_init_47 (fun q47 H h => ?_)
  refine k_putF C hin2 h rfl inI3 tyX3 tyX3_ok nmX3 6 (by decide) (by decide +kernel) rfl rfl (v := .ref q47) rfl rfl (Nat.le_of_ble_eq_true rfl) dX3_init_49 (fun H locs h => ?_)
  have h : CL G ([(a, .inr (3, [.int 0, .ref q7, .ref q15, .ref q23, .ref q31, .ref q39, .ref q47])), (q7, .inl (V.2 1, 60, .inl z0)), (q15, .inl (V.2 0, 60, .inl z0)), (q23, .inl (V.2 0, 60, .inl z0)), (q31, .inl (V.2 0, 60, .inl z0)), (q39, .inl (V.2 2, 60, .inl z0)), (q47, .inl (V.2 2, 60, .inl z0))]) s _ H locs := h
  exact k_end C (fun j => match j with | 1 => q7 | 2 => q15 | 3 => q23 | 4 => q31 | 5 => q39 | 6 => q47 | _ => 0) h rfl dX3_init_52 (by decide) (by decide)
def res4 (V : wV) (b a : Nat) (f : Nat → Nat) : va_W := [(a, .inr (4, [.ref b, .int 0, .int 0, .int 0, .int 0, .int 0]))]
set_option maxRecDepth 100000 in
set_option maxHeartbeats 4000000 in
theorem i_X4 (l : Launch) {G : va_G} {V : wV} (sz0 a b : Nat) : CJ l G V [.ref b] yX4_init wsX4_init 1 12 0 0 sz0 a (.inr (4, [.null, .int 0, .int 0, .int 0, .int 0, .int 0])) (res4 V b a) := by
  refine cj_of (As := [.ref b]) (cc := cX4_init) (maxL := 2) (by decide) rfl rfl (Nat.le_of_ble_eq_true rfl) ?_
  intro p e s m below meth c ls C hin2 h X ha hA hl
  have hx := C.1
  have hb := C.2.1
  have hsz : ls.size = 2 := hl.1
  refine lv_aload_n hx hb dX4_init_0 rfl (lv_at hl 0 rfl) ?_
  refine W.objInit hx hb C.2.2.2.1 (C.2.2.2.2.1 (.methodLink RX4 3 objectInit) (by decide +kernel)) (C.2.2.2.2.1 (.instanceMethod objectInit) (by decide +kernel)) (C.2.2.2.2.1 _ (List.mem_of_getElem? (i := 3) rfl)) rfl (by rw [C.2.2.1]; exact hl.1) rfl dX4_init_1 (Nat.le_of_ble_eq_true rfl) (Nat.le_of_ble_eq_true rfl) ?_
  refine W.eq (g2 := F0 m 4 ls []) rfl ?_
  refine lv_aload_n hx hb dX4_init_4 rfl (lv_at hl 0 rfl) ?_
  refine lv_aload_n hx hb dX4_init_5 rfl (lv_at hl 1 rfl) ?_
  refine k_put C h rfl inI4 tyX4 tyX4_ok nmX4 0 (by decide) (by decide +kernel) rfl (v := .ref b) rfl rfl (Nat.le_of_ble_eq_true rfl) dX4_init_6 (fun H locs h => ?_)
  have h : CL G ([(a, .inr (4, [.ref b, .int 0, .int 0, .int 0, .int 0, .int 0]))]) s _ H locs := h
  exact k_end C (fun j => match j with  | _ => 0) h rfl dX4_init_9 (by decide) (by decide)
def res5 (V : wV) (a : Nat) (f : Nat → Nat) : va_W := [(a, .inr (5, [.int 0, .int 0, .int 0, .ref (f 1)])), (f 1, .inl (V.2 1, 2, .inl z0))]
set_option maxRecDepth 100000 in
set_option maxHeartbeats 4000000 in
theorem i_X5 (l : Launch) {G : va_G} {V : wV} (sz0 a : Nat) : CI l G V yX5_init wsX5_init 1 12 1 2 sz0 a (.inr (5, [.int 0, .int 0, .int 0, .null])) (res5 V a) := by
  refine ci_of (cc := cX5_init) (maxL := 1) (by decide) rfl rfl (by decide) ?_
  intro p e s m below meth c ls C hin2 h X ha hA hl
  have hx := C.1
  have hb := C.2.1
  have hsz : ls.size = 1 := hl.1
  refine lv_aload_n hx hb dX5_init_0 rfl (lv_at hl 0 rfl) ?_
  refine W.objInit hx hb C.2.2.2.1 (C.2.2.2.2.1 (.methodLink RX5 3 objectInit) (by decide +kernel)) (C.2.2.2.2.1 (.instanceMethod objectInit) (by decide +kernel)) (C.2.2.2.2.1 _ (List.mem_of_getElem? (i := 3) rfl)) rfl (by rw [C.2.2.1]; exact hl.1) rfl dX5_init_1 (Nat.le_of_ble_eq_true rfl) (Nat.le_of_ble_eq_true rfl) ?_
  refine W.eq (g2 := F0 m 4 ls []) rfl ?_
  refine lv_aload_n hx hb dX5_init_4 rfl (lv_at hl 0 rfl) ?_
  refine lv_iconst (v := 2) hx hb dX5_init_5 (by decide) ?_
  refine k_newa C h 1 rfl (fun _ z => by cases z) (ty := .char) rfl (by decide +kernel) 2 (2, .inl z0) (fun _ => rfl) (by decide) (by decide) (by decide) (by decide) (by decide) dX5_init_6 (fun q6 H h => ?_)
  refine k_putF C hin2 h rfl inI5 tyX5 tyX5_ok nmX5 3 (by decide) (by decide +kernel) rfl rfl (v := .ref q6) rfl rfl (Nat.le_of_ble_eq_true rfl) dX5_init_8 (fun H locs h => ?_)
  have h : CL G ([(a, .inr (5, [.int 0, .int 0, .int 0, .ref q6])), (q6, .inl (V.2 1, 2, .inl z0))]) s _ H locs := h
  exact k_end C (fun j => match j with | 1 => q6 | _ => 0) h rfl dX5_init_11 (by decide) (by decide)
