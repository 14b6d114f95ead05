/-! CONSTRUCTORS: cells that are as good as others, and Castle() -/
def ceq (e e' : va_E) : Prop := e = e' ∨ ∃ (cA : ClassId) (n : Nat) (f f' : Nat → Option Nat), e = .inl (cA, n, .inr (.inr (.inr (.inr f)))) ∧ e' = .inl (cA, n, .inr (.inr (.inr (.inr f')))) ∧ ∀ i, i < n → f i = f' i
def CE : va_W → va_W → Prop
  | [], [] => True
  | x :: xs, y :: ys => (x.1 = y.1 ∧ ceq x.2 y.2) ∧ CE xs ys
  | _, _ => False
theorem CE.cons {x y : Nat × va_E} {xs ys : va_W} (h1 : x.1 = y.1) (h2 : ceq x.2 y.2) (h : CE xs ys) : CE (x :: xs) (y :: ys) := ⟨⟨h1, h2⟩, h⟩
theorem CE.nil : CE [] [] := trivial
theorem CE.rf : ∀ xs : va_W, CE xs xs
  | [] => trivial
  | _ :: xs => ⟨⟨rfl, Or.inl rfl⟩, CE.rf xs⟩
theorem CE.app : ∀ {xs ys us vs : va_W}, CE xs ys → CE us vs → CE (xs ++ us) (ys ++ vs)
  | [], [], _, _, _, h => h
  | _ :: _, _ :: _, _, _, h1, h => ⟨h1.1, CE.app h1.2 h⟩
  | [], _ :: _, _, _, h, _ => h.elim
  | _ :: _, [], _, _, h, _ => h.elim
theorem CE.at : ∀ {xs ys : va_W}, CE xs ys → ∀ (k : Nat) (y : Nat × va_E), ys[k]? = some y → ∃ x, xs[k]? = some x ∧ x.1 = y.1 ∧ ceq x.2 y.2
  | [], [], _, k, y, h => by simp at h
  | x :: xs, y' :: ys, h, 0, y, h0 => by
    simp at h0
    subst h0
    exact ⟨x, rfl, h.1⟩
  | x :: xs, y' :: ys, h, k + 1, y, h0 => by
    obtain ⟨z, h1, h2⟩ := CE.at h.2 k y (by simpa using h0)
    exact ⟨z, by simpa using h1, h2⟩
  | [], _ :: _, h, _, _, _ => h.elim
  | _ :: _, [], h, _, _, _ => h.elim
theorem arrV_cong {cA : ClassId} {n : Nat} {f g : Nat → Value} (h : ∀ i, i < n → f i = g i) : arrV cA n f = arrV cA n g := by
  unfold arrV
  congr 1
  apply Array.ext_getElem?
  intro i
  simp only [Array.getElem?_ofFn]
  split
  · rw [h _ (by assumption)]
  · rfl
theorem CE.P {G : va_G} {cl : List vw_C} {xs ys : va_W} {H : Heap} (h : CE xs ys) (hP : va_P G cl xs H) : va_P G cl ys H := by
  intro k y hy
  obtain ⟨x, hx, h1, h2⟩ := h.at k y hy
  have := hP k x hx
  obtain ⟨ya, ye⟩ := y
  obtain ⟨xa, xe⟩ := x
  dsimp only at h1 h2
  subst h1
  rcases h2 with h2 | ⟨cA, n, f, f', rfl, rfl, h2⟩
  · rw [← h2]; exact this
  · show H[xa]? = some (arrV cA n (fun j => va_rf (f' j)))
    rw [← arrV_cong (f := fun j => va_rf (f j)) (fun i hi => by rw [h2 i hi])]
    exact this
theorem CE.D {xs ys : va_W} {A : Nat → Prop} (h : CE xs ys) (hD : va_D A xs) : va_D A ys := by
  refine ⟨fun i j x y hi hj hxy => ?_, fun k y hk => ?_⟩
  · obtain ⟨x', h1, h2, -⟩ := h.at i x hi
    obtain ⟨y', h3, h4, -⟩ := h.at j y hj
    exact hD.1 i j x' y' h1 h3 (h2.trans (hxy.trans h4.symm))
  · obtain ⟨x', h1, h2, -⟩ := h.at k y hk
    rw [← h2]
    exact hD.2 k x' h1
theorem CL.ce {G : va_G} {xs ys : va_W} {s : State} {A : Nat → Prop} {H : Heap} {locs : List Loc} (h : CL G xs s A H locs) (hc : CE xs ys) : CL G ys s A H locs := ⟨hc.P h.1, hc.D h.2.1, h.2.2.1, h.2.2.2⟩
theorem ceq_pf {cA : ClassId} {n : Nat} {f f' : Nat → Option Nat} (h : ∀ i, i < n → f i = f' i) : ceq (.inl (cA, n, .inr (.inr (.inr (.inr f))))) (.inl (cA, n, .inr (.inr (.inr (.inr f'))))) := Or.inr ⟨cA, n, f, f', rfl, rfl, h⟩
theorem pf_zero (qs : Nat → Nat) : pf 0 qs = fun _ => none := by
  funext j
  exact if_neg (by omega)
abbrev zM : wM := fun _ _ => 0
abbrev oz : wO := (fun _ => 0, fun _ => 0)
abbrev rsC0 : List Nat := [0, 1, 2, 3, 16, 17, 18, 19, 20, 21, 22, 23, 24, 4, 5, 6, 7, 8, 9, 10, 11, 12, 13, 14, 15]
abbrev rsC1 : List Nat := [30, 31, 32, 33, 46, 47, 48, 49, 50, 51, 52, 53, 54, 34, 35, 36, 37, 38, 39, 40, 41, 42, 43, 44, 45]
def res0 (V : wV) (a : Nat) (f : Nat → Nat) : va_W := wsr (fun j => if j = 0 then a else f j, V.2) rsC0 (zM, zM, oz)
set_option maxRecDepth 100000 in
theorem inI0_0 : ∀ w ∈ u_ws RX0 TX0 9, w ∈ wsX0_init := fun w h => List.mem_cons_of_mem _ (List.mem_append_left _ (List.mem_append_left _ (List.mem_append_left _ (List.mem_append_right _ h))))
set_option maxRecDepth 100000 in
theorem inI0_3 : ∀ w ∈ u_ws RX3 TX3 7, w ∈ wsX0_init := fun w h => List.mem_cons_of_mem _ (List.mem_append_left _ (List.mem_append_left _ (List.mem_append_right _ h)))
set_option maxRecDepth 100000 in
theorem inI0_2 : ∀ w ∈ u_ws RX2 TX2 3, w ∈ wsX0_init := fun w h => List.mem_cons_of_mem _ (List.mem_append_left _ (List.mem_append_right _ h))
set_option maxRecDepth 100000 in
theorem inI0_1 : ∀ w ∈ u_ws RX1 TX1 3, w ∈ wsX0_init := fun w h => List.mem_cons_of_mem _ (List.mem_append_right _ h)
set_option maxRecDepth 100000 in
set_option maxHeartbeats 4000000 in
theorem i_X0 (l : Launch) {G : va_G} {V : wV} (sz0 a : Nat) : CI l G V yX0_init wsX0_init 2 32 24 451 sz0 a (.inr (0, [.int 0, .int 0, .int 0, .int 0, .null, .null, .null, .null, .null])) (res0 V a) := by
  refine ci_of (cc := cX0_init) (maxL := 2) (by decide) rfl rfl (by decide) ?_
  intro p e s m below meth c ls C hin2 h X ha hA hl
  have hx := C.1
  have hb := C.2.1
  have hsz : ls.size = 2 := hl.1
  refine lv_aload_n hx hb dX0_init_0 rfl (lv_at hl 0 rfl) ?_
  refine W.objInit hx hb C.2.2.2.1 (C.2.2.2.2.1 (.methodLink RX0 3 objectInit) (by decide +kernel)) (C.2.2.2.2.1 (.instanceMethod objectInit) (by decide +kernel)) (C.2.2.2.2.1 _ (List.mem_of_getElem? (i := 3) rfl)) rfl (by rw [C.2.2.1]; exact hl.1) rfl dX0_init_1 (Nat.le_of_ble_eq_true rfl) (Nat.le_of_ble_eq_true rfl) ?_
  refine W.eq (g2 := F0 m 4 ls []) rfl ?_
  refine lv_aload_n hx hb dX0_init_4 rfl (lv_at hl 0 rfl) ?_
  refine lv_bipush (v := 7) hx hb dX0_init_5 (by decide) ?_
  refine k_newa C h 0 rfl (fun _ z => by cases z) (ty := .int) rfl (by decide +kernel) 7 (7, .inl z0) (fun _ => rfl) (by decide) (by decide) (by decide) (by decide) (by decide) dX0_init_7 (fun q7 H h => ?_)
  refine k_putF C hin2 h rfl inI0_0 tyX0 tyX0_ok nmX0 4 (by decide) (by decide +kernel) rfl rfl (v := .ref q7) rfl rfl (Nat.le_of_ble_eq_true rfl) dX0_init_9 (fun H locs h => ?_)
  have h : CL G ((a, .inr (0, [.int 0, .int 0, .int 0, .int 0, .ref q7, .null, .null, .null, .null])) :: [(q7, .inl (V.2 0, 7, .inl z0))]) s _ H locs := h
  refine lv_aload_n hx hb dX0_init_12 rfl (lv_at hl 0 rfl) ?_
  refine lv_iconst (v := 4) hx hb dX0_init_13 (by decide) ?_
  refine k_newa C h 0 rfl (fun _ z => by cases z) (ty := .int) rfl (by decide +kernel) 4 (4, .inl z0) (fun _ => rfl) (by decide) (by decide) (by decide) (by decide) (by decide) dX0_init_14 (fun q14 H h => ?_)
  refine k_putF C hin2 h rfl inI0_0 tyX0 tyX0_ok nmX0 5 (by decide) (by decide +kernel) rfl rfl (v := .ref q14) rfl rfl (Nat.le_of_ble_eq_true rfl) dX0_init_16 (fun H locs h => ?_)
  have h : CL G ((a, .inr (0, [.int 0, .int 0, .int 0, .int 0, .ref q7, .ref q14, .null, .null, .null])) :: [(q7, .inl (V.2 0, 7, .inl z0)), (q14, .inl (V.2 0, 4, .inl z0))]) s _ H locs := h
  refine lv_aload_n hx hb dX0_init_19 rfl (lv_at hl 0 rfl) ?_
  refine lv_iconst (v := 3) hx hb dX0_init_20 (by decide) ?_
  refine k_newq C h 3 rfl X.2.1.1 (by decide +kernel) 3 (by decide) (by decide) (by decide) (by decide) (by decide) dX0_init_21 (fun q21 H h => ?_)
  refine k_putF C hin2 h rfl inI0_0 tyX0 tyX0_ok nmX0 6 (by decide) (by decide +kernel) rfl rfl (v := .ref q21) rfl rfl (Nat.le_of_ble_eq_true rfl) dX0_init_24 (fun H locs h => ?_)
  have h : CL G ((a, .inr (0, [.int 0, .int 0, .int 0, .int 0, .ref q7, .ref q14, .ref q21, .null, .null])) :: [(q7, .inl (V.2 0, 7, .inl z0)), (q14, .inl (V.2 0, 4, .inl z0)), (q21, arq V 3 3 (fun _ => none))]) s _ H locs := h
  refine lv_aload_n hx hb dX0_init_27 rfl (lv_at hl 0 rfl) ?_
  refine k_mk C X hA h (ci := 3) rfl inI0_3 tyX3 tyX3_ok (ik := 24) (by decide +kernel) (by decide +kernel) (by decide +kernel) (fs := [.int 0, .null, .null, .null, .null, .null, .null]) (by decide) (fun q hq => i_X3 l sz0 q) (Or.inr ⟨"Castlequorum", va_cnB 0 C.2.2.2.2.1 gX0_init_X3_init_n26 rfl rfl rfl (X.2.1.2.2.2 _ (List.mem_of_getElem? (i := 0) rfl)) (C.2.2.2.2.1 (.initialized RX3) (by decide +kernel)) ⟨by decide, by decide, by decide +kernel⟩ ⟨Nat.le_of_ble_eq_true rfl, Nat.le_of_ble_eq_true rfl⟩, rfl, C.2.2.2.2.1 (.instanceMethod yX3_init) (by decide +kernel)⟩) hsz (Nat.le_of_ble_eq_true rfl) dX0_init_28 dX0_init_31 dX0_init_32 (by decide) (by decide) (fun q28 f28 H locs h => ?_)
  refine k_putF C hin2 h rfl inI0_0 tyX0 tyX0_ok nmX0 7 (by decide) (by decide +kernel) rfl rfl (v := .ref q28) rfl rfl (Nat.le_of_ble_eq_true rfl) dX0_init_35 (fun H locs h => ?_)
  have h : CL G ((a, .inr (0, [.int 0, .int 0, .int 0, .int 0, .ref q7, .ref q14, .ref q21, .ref q28, .null])) :: ([(q7, .inl (V.2 0, 7, .inl z0)), (q14, .inl (V.2 0, 4, .inl z0)), (q21, arq V 3 3 (fun _ => none))] ++ res3 V q28 f28)) s _ H locs := h
  refine lv_aload_n hx hb dX0_init_38 rfl (lv_at hl 0 rfl) ?_
  refine k_mk C X hA h (ci := 2) rfl inI0_2 tyX2 tyX2_ok (ik := 31) (by decide +kernel) (by decide +kernel) (by decide +kernel) (fs := [.int 0, .int 0, .null]) (by decide) (fun q hq => i_X2 l sz0 q) (Or.inr ⟨"Castlequorum", va_cnB 0 C.2.2.2.2.1 gX0_init_X2_init_n33 rfl rfl rfl (X.2.1.2.2.2 _ (List.mem_of_getElem? (i := 1) rfl)) (C.2.2.2.2.1 (.initialized RX2) (by decide +kernel)) ⟨by decide, by decide, by decide +kernel⟩ ⟨Nat.le_of_ble_eq_true rfl, Nat.le_of_ble_eq_true rfl⟩, rfl, C.2.2.2.2.1 (.instanceMethod yX2_init) (by decide +kernel)⟩) hsz (Nat.le_of_ble_eq_true rfl) dX0_init_39 dX0_init_42 dX0_init_43 (by decide) (by decide) (fun q39 f39 H locs h => ?_)
  refine k_putF C hin2 h rfl inI0_0 tyX0 tyX0_ok nmX0 8 (by decide) (by decide +kernel) rfl rfl (v := .ref q39) rfl rfl (Nat.le_of_ble_eq_true rfl) dX0_init_46 (fun H locs h => ?_)
  have h : CL G ((a, .inr (0, [.int 0, .int 0, .int 0, .int 0, .ref q7, .ref q14, .ref q21, .ref q28, .ref q39])) :: (([(q7, .inl (V.2 0, 7, .inl z0)), (q14, .inl (V.2 0, 4, .inl z0)), (q21, arq V 3 3 (fun _ => none))] ++ res3 V q28 f28) ++ res2 V q39 f39)) s _ H locs := h
  have h : CL G ((a, .inr (0, [.int 0, .int 0, .int 0, .int 0, .ref q7, .ref q14, .ref q21, .ref q28, .ref q39])) :: ([(q7, .inl (V.2 0, 7, .inl z0)), (q14, .inl (V.2 0, 4, .inl z0))] ++ (q21, arq V 3 3 (pf 0 (fun _ => 0))) :: ((res3 V q28 f28 ++ res2 V q39 f39) ++ itm (res1 V) 0 (fun _ => 0) (fun _ _ => 0)))) s (va_A [(a, .inr (0, [.int 0, .int 0, .int 0, .int 0, .null, .null, .null, .null, .null]))] s.heap.size) H locs := by rw [pf_zero]; simpa only [itm, List.range_zero, List.flatMap_nil, List.append_nil, List.cons_append, List.nil_append, List.append_assoc] using h
  refine lv_iconst (v := nI 0) hx hb dX0_init_49 (by decide) ?_
  refine lv_istore_n (lv' := [(1, .int (nI 0)), (0, .ref a)]) hx hb dX0_init_50 rfl hl (by decide) rfl (fun ls hl => ?_)
  refine W.eq (g2 := F0 m 51 ls []) rfl ?_
  refine k_loop C X hA 3 (by decide) (ci0 := 0) rfl inI0_0 6 (by decide) (by decide +kernel) rfl (t1 := [(q7, .inl (V.2 0, 7, .inl z0)), (q14, .inl (V.2 0, 4, .inl z0))]) (t2 := (res3 V q28 f28 ++ res2 V q39 f39)) 3 (ci := 1) rfl rfl inI0_1 tyX1 tyX1_ok (by decide +kernel) (by decide +kernel) (by decide +kernel) (fs1 := [.null, .null, .null]) (by decide) (fun q hq => i_X1 l sz0 q) (fun q f => ⟨_, List.mem_cons_self⟩) (Or.inr ⟨"Castlequorum", va_cnB 0 C.2.2.2.2.1 gX0_init_X1_init_n38 rfl rfl rfl (X.2.1.2.2.2 _ (List.mem_of_getElem? (i := 2) rfl)) (C.2.2.2.2.1 (.initialized RX1) (by decide +kernel)) ⟨by decide, by decide, by decide +kernel⟩ ⟨Nat.le_of_ble_eq_true rfl, Nat.le_of_ble_eq_true rfl⟩, rfl, C.2.2.2.2.1 (.instanceMethod yX1_init) (by decide +kernel)⟩) (by decide) (pcE := 75) dX0_init_51 (fun H locs ls rest cells slots k => lv_iconst hx hb dX0_init_52 (by decide) k) dX0_init_53 (by decide) dX0_init_56 dX0_init_57 dX0_init_60 dX0_init_61 dX0_init_64 dX0_init_65 dX0_init_68 dX0_init_69 dX0_init_72 (by decide) (c0 := 12) (s0 := 388) (by decide) (by decide) (fun qs FF H locs ls h hl => ?_) 3 0 rfl _ _ H locs ls h hl
  have h : CL G (res0 V a (fun j => match j with | 1 => q7 | 2 => q14 | 3 => q21 | 16 => q28 | 17 => f28 1 | 18 => f28 2 | 19 => f28 3 | 20 => f28 4 | 21 => f28 5 | 22 => f28 6 | 23 => q39 | 24 => f39 1 | 4 => qs 0 | 5 => FF 0 1 | 6 => FF 0 2 | 7 => FF 0 3 | 8 => qs 1 | 9 => FF 1 1 | 10 => FF 1 2 | 11 => FF 1 3 | 12 => qs 2 | 13 => FF 2 1 | 14 => FF 2 2 | 15 => FF 2 3 | _ => 0)) s _ H locs := h.ce (CE.cons rfl (Or.inl rfl) (CE.cons rfl (Or.inl rfl) (CE.cons rfl (Or.inl rfl) (CE.cons rfl (ceq_pf (fun i hi => by rcases (show i = 0 ∨ i = 1 ∨ i = 2 by omega) with rfl | rfl | rfl <;> rfl)) (CE.cons rfl (Or.inl rfl) (CE.cons rfl (Or.inl rfl) (CE.cons rfl (Or.inl rfl) (CE.cons rfl (Or.inl rfl) (CE.cons rfl (Or.inl rfl) (CE.cons rfl (Or.inl rfl) (CE.cons rfl (Or.inl rfl) (CE.cons rfl (Or.inl rfl) (CE.cons rfl (Or.inl rfl) (CE.cons rfl (Or.inl rfl) (CE.cons rfl (Or.inl rfl) (CE.cons rfl (Or.inl rfl) (CE.cons rfl (Or.inl rfl) (CE.cons rfl (Or.inl rfl) (CE.cons rfl (Or.inl rfl) (CE.cons rfl (Or.inl rfl) (CE.cons rfl (Or.inl rfl) (CE.cons rfl (Or.inl rfl) (CE.cons rfl (Or.inl rfl) (CE.cons rfl (Or.inl rfl) (CE.cons rfl (Or.inl rfl) (CE.nil))))))))))))))))))))))))))
  exact k_end C _ h rfl dX0_init_75 (by decide) (by decide)
