/-! CONSTRUCTORS: cells by their places; Castlequorum() -/
theorem ce_map {xs : List Nat} {g g' : Nat → Nat × va_E} (h : ∀ x ∈ xs, (g x).1 = (g' x).1 ∧ ceq (g x).2 (g' x).2) : CE (xs.map g) (xs.map g') := by
  induction xs with
  | nil => exact CE.nil
  | cons x xs ih => exact CE.cons (h x List.mem_cons_self).1 (h x List.mem_cons_self).2 (ih fun y hy => h y (List.mem_cons_of_mem _ hy))
theorem ce_flat {xs : List Nat} {g g' : Nat → va_W} (h : ∀ x ∈ xs, CE (g x) (g' x)) : CE (xs.flatMap g) (xs.flatMap g') := by
  induction xs with
  | nil => exact CE.nil
  | cons x xs ih =>
    rw [List.flatMap_cons, List.flatMap_cons]
    exact (h x List.mem_cons_self).app (ih fun y hy => h y (List.mem_cons_of_mem _ hy))
theorem wsr_app (V : wV) (xs ys : List Nat) (w : wW) : wsr V (xs ++ ys) w = wsr V xs w ++ wsr V ys w := List.map_append
theorem wsr_map (V : wV) (g : Nat → Nat) (xs : List Nat) (w : wW) : wsr V (xs.map g) w = xs.map (fun x => (V.1 (g x), cel V w (g x))) := by
  unfold wsr
  rw [List.map_map]
  rfl
theorem celC_cong {f1 f2 : Nat → Nat} {t : Nat → ClassId} {c0 c : Nat} (hV : ∀ j, j < 25 → f1 (30 * c0 + j) = f2 (30 * c + j)) (f : Nat → Int32) : ∀ j, j < 25 → ceq (celC (f1, t) c0 j f) (celC (f2, t) c j f) := by
  intro j hj
  have hG : ∀ g, g < 3 → celG (f1, t) c0 g 0 f = celG (f2, t) c g 0 f := fun g hg => by
    show (Sum.inr (1, [Value.ref (f1 (30 * c0 + (5 + 4 * g))), Value.ref (f1 (30 * c0 + (6 + 4 * g))), Value.ref (f1 (30 * c0 + (7 + 4 * g)))]) : va_E) = Sum.inr (1, [Value.ref (f2 (30 * c + (5 + 4 * g))), Value.ref (f2 (30 * c + (6 + 4 * g))), Value.ref (f2 (30 * c + (7 + 4 * g)))])
    rw [hV _ (by omega), hV _ (by omega), hV _ (by omega)]
  match j, hj with
  | 0, _ =>
    refine Or.inl ?_
    show (Sum.inr (0, [Value.int (f 0), Value.int (f 1), Value.int (f 2), Value.int (f 3), Value.ref (f1 (30 * c0 + 1)), Value.ref (f1 (30 * c0 + 2)), Value.ref (f1 (30 * c0 + 3)), Value.ref (f1 (30 * c0 + 16)), Value.ref (f1 (30 * c0 + 23))]) : va_E) = Sum.inr (0, [Value.int (f 0), Value.int (f 1), Value.int (f 2), Value.int (f 3), Value.ref (f2 (30 * c + 1)), Value.ref (f2 (30 * c + 2)), Value.ref (f2 (30 * c + 3)), Value.ref (f2 (30 * c + 16)), Value.ref (f2 (30 * c + 23))])
    rw [hV _ (by decide), hV _ (by decide), hV _ (by decide), hV _ (by decide), hV _ (by decide)]
  | 1, _ => exact Or.inl rfl
  | 2, _ => exact Or.inl rfl
  | 3, _ => exact ceq_pf (fun i hi => congrArg some (hV (4 + 4 * i) (by omega)))
  | 4, _ => exact Or.inl (hG 0 (by decide))
  | 5, _ => exact Or.inl rfl
  | 6, _ => exact Or.inl rfl
  | 7, _ => exact Or.inl rfl
  | 8, _ => exact Or.inl (hG 1 (by decide))
  | 9, _ => exact Or.inl rfl
  | 10, _ => exact Or.inl rfl
  | 11, _ => exact Or.inl rfl
  | 12, _ => exact Or.inl (hG 2 (by decide))
  | 13, _ => exact Or.inl rfl
  | 14, _ => exact Or.inl rfl
  | 15, _ => exact Or.inl rfl
  | 16, _ =>
    refine Or.inl ?_
    show (Sum.inr (3, [Value.int (f 0), Value.ref (f1 (30 * c0 + 17)), Value.ref (f1 (30 * c0 + 18)), Value.ref (f1 (30 * c0 + 19)), Value.ref (f1 (30 * c0 + 20)), Value.ref (f1 (30 * c0 + 21)), Value.ref (f1 (30 * c0 + 22))]) : va_E) = Sum.inr (3, [Value.int (f 0), Value.ref (f2 (30 * c + 17)), Value.ref (f2 (30 * c + 18)), Value.ref (f2 (30 * c + 19)), Value.ref (f2 (30 * c + 20)), Value.ref (f2 (30 * c + 21)), Value.ref (f2 (30 * c + 22))])
    rw [hV _ (by decide), hV _ (by decide), hV _ (by decide), hV _ (by decide), hV _ (by decide), hV _ (by decide)]
  | 17, _ => exact Or.inl rfl
  | 18, _ => exact Or.inl rfl
  | 19, _ => exact Or.inl rfl
  | 20, _ => exact Or.inl rfl
  | 21, _ => exact Or.inl rfl
  | 22, _ => exact Or.inl rfl
  | 23, _ =>
    refine Or.inl ?_
    show (Sum.inr (2, [Value.int (f 0), Value.int (f 1), Value.ref (f1 (30 * c0 + 24))]) : va_E) = Sum.inr (2, [Value.int (f 0), Value.int (f 1), Value.ref (f2 (30 * c + 24))])
    rw [hV _ (by decide)]
  | 24, _ => exact Or.inl rfl
  | n + 25, h => exact absurd h (by omega)
abbrev rsJ : List Nat := [0, 1, 2, 3, 16, 17, 18, 19, 20, 21, 22, 23, 24, 4, 5, 6, 7, 8, 9, 10, 11, 12, 13, 14, 15]
theorem rsJ_lt : ∀ j ∈ rsJ, j < 25 := by decide
abbrev rsC (c : Nat) : List Nat := rsJ.map (30 * c + ·)
theorem cel_C {V : wV} {w : wW} {c j : Nat} (hc : c < 2) (hj : j < 25) : cel V w (30 * c + j) = celC V c j (w.1 (30 * c + j)) := by
  rw [cel_lo (by omega)]
  unfold celF
  rw [if_pos (by omega), show (30 * c + j) / 30 = c by omega, show (30 * c + j) % 30 = j by omega]
theorem ce_castle {f1 f2 : Nat → Nat} {t : Nat → ClassId} {c0 c : Nat} (hc0 : c0 < 2) (hc : c < 2) {w w' : wW} (hV : ∀ j, j < 25 → f1 (30 * c0 + j) = f2 (30 * c + j)) (hw : ∀ j, j < 25 → w.1 (30 * c0 + j) = w'.1 (30 * c + j)) : CE (wsr (f1, t) (rsC c0) w) (wsr (f2, t) (rsC c) w') := by
  unfold rsC
  rw [wsr_map, wsr_map]
  refine ce_map fun j hj => ?_
  have hj := rsJ_lt j hj
  refine ⟨hV j hj, ?_⟩
  dsimp only
  rw [cel_C hc0 hj, cel_C hc hj, hw j hj]
  exact celC_cong hV _ j hj
abbrev sg0 : Nat → Int32 := fun _ => 0
theorem plv_0 (V : wV) : plv V 0 = .ref (V.1 (rCas 0)) := by unfold plv; rw [if_pos rfl]
/-- two castles as they are built -/
def M6 : wM := cRaise (cRaise zM 0 3 100) 1 3 100
/-- the class's memory to begin with -/
def mI : wM := fun r => if r < 60 then M6 r else if r < 64 then z0 else if r < 84 then sg0 else z0
abbrev rsCC : List Nat := rsC 0 ++ rsC 1
abbrev rsS : List Nat := (List.range 20).map (64 + ·)
abbrev rsT : List Nat := (List.range 8).flatMap (fun k => [84 + 2 * k, 85 + 2 * k])
abbrev rs6 : List Nat := 60 :: ((rsCC ++ 61 :: rsS) ++ 62 :: rsT) ++ [63]
theorem bC_CC : ∀ c, c < 2 → bC c rsCC := by
  have h : ∀ c, c < 2 → ∀ j, j < 25 → 30 * c + j ∈ rsCC := by decide +kernel
  exact h
def fCC (q5 : Nat) (f5 : Nat → Nat) (q16 : Nat) (f16 : Nat → Nat) : Nat → Nat := fun j => if j < 30 then (if j = 0 then q5 else f5 j) else (if j - 30 = 0 then q16 else f16 (j - 30))
theorem ce_two {V : wV} {q5 q16 : Nat} {f5 f16 : Nat → Nat} : CE (res0 V q5 f5 ++ res0 V q16 f16) (wsr (fCC q5 f5 q16 f16, V.2) rsCC (zM, zM, oz)) := by
  rw [wsr_app]
  refine CE.app ?_ ?_
  · refine ce_castle (c0 := 0) (c := 0) (by decide) (by decide) (fun j hj => ?_) (fun _ _ => rfl)
    show (if 30 * 0 + j = 0 then q5 else f5 (30 * 0 + j)) = fCC q5 f5 q16 f16 (30 * 0 + j)
    unfold fCC
    rw [if_pos (c := 30 * 0 + j < 30) (by omega)]
  · refine ce_castle (c0 := 0) (c := 1) (by decide) (by decide) (fun j hj => ?_) (fun _ _ => rfl)
    show (if 30 * 0 + j = 0 then q16 else f16 (30 * 0 + j)) = fCC q5 f5 q16 f16 (30 * 1 + j)
    unfold fCC
    rw [if_neg (c := 30 * 1 + j < 30) (by omega), show 30 * 1 + j - 30 = 30 * 0 + j by omega]
def f6 (a q49 q85 q120 : Nat) (f0 qsS qsP : Nat → Nat) (FP : Nat → Nat → Nat) : Nat → Nat := fun j => if j < 60 then f0 j else if j < 64 then (match j with | 60 => a | 61 => q49 | 62 => q85 | _ => q120) else if j < 84 then qsS (j - 64) else if (j - 84) % 2 = 0 then qsP ((j - 84) / 2) else FP ((j - 84) / 2) 1
def res6 (V : wV) (a : Nat) (f : Nat → Nat) : va_W := wsr (fun j => if j = 60 then a else f j, V.2) rs6 (mI, zM, oz)
theorem f6_60 {a q49 q85 q120 : Nat} {f0 qsS qsP : Nat → Nat} {FP : Nat → Nat → Nat} : (fun j => if j = 60 then a else f6 a q49 q85 q120 f0 qsS qsP FP j) = f6 a q49 q85 q120 f0 qsS qsP FP := by
  funext j
  by_cases h : j = 60
  · subst h; rfl
  · exact if_neg h
theorem cel_S {V : wV} {w : wW} {k : Nat} (hk : k < 20) : cel V w (64 + k) = celS V (w.1 (64 + k)) := by
  rw [cel_lo (by omega)]
  unfold celF
  rw [if_neg (by omega), if_neg (by omega), if_pos (by omega)]
theorem cel_T0 {V : wV} {w : wW} {k : Nat} (hk : k < 8) : cel V w (84 + 2 * k) = celT V k 0 (w.1 (84 + 2 * k)) := by
  rw [cel_lo (by omega)]
  unfold celF
  rw [if_neg (by omega), if_neg (by omega), if_neg (by omega), if_pos (by omega), show (84 + 2 * k - 84) / 2 = k by omega, show (84 + 2 * k - 84) % 2 = 0 by omega]
theorem cel_T1 {V : wV} {w : wW} {k : Nat} (hk : k < 8) : cel V w (85 + 2 * k) = celT V k 1 (w.1 (85 + 2 * k)) := by
  rw [cel_lo (by omega)]
  unfold celF
  rw [if_neg (by omega), if_neg (by omega), if_neg (by omega), if_pos (by omega), show (85 + 2 * k - 84) / 2 = k by omega, show (85 + 2 * k - 84) % 2 = 1 by omega]
theorem ce_six {V : wV} {a q49 q85 q120 : Nat} {f0 qsS qsP : Nat → Nat} {FS FP : Nat → Nat → Nat} : CE ((a, .inr (6, [.ref (f0 0), .ref (f0 30), .ref q49, .ref q85, .ref q120, .int 0, .int 0, .int 0])) :: (((wsr (f0, V.2) rsCC (M6, zM, oz) ++ (q49, arq V 4 20 (pf 20 qsS)) :: ([] ++ itm (res4 V (f0 0)) 20 qsS FS)) ++ (q85, arq V 5 8 (pf 8 qsP)) :: ([] ++ itm (res5 V) 8 qsP FP)) ++ [(q120, .inl (V.2 0, 4, .inl z0))])) (res6 V a (f6 a q49 q85 q120 f0 qsS qsP FP)) := by
  unfold res6
  rw [f6_60]
  obtain ⟨g, hg⟩ : ∃ z, z = f6 a q49 q85 q120 f0 qsS qsP FP := ⟨_, rfl⟩
  rw [← hg]
  have g0 : ∀ j, j < 60 → f0 j = g j := fun j hj => by rw [hg]; unfold f6; rw [if_pos hj]
  have gS : ∀ k, k < 20 → qsS k = g (64 + k) := fun k hk => by rw [hg]; unfold f6; rw [if_neg (by omega), if_neg (by omega), if_pos (by omega), show 64 + k - 64 = k by omega]
  have gP : ∀ k, k < 8 → qsP k = g (84 + 2 * k) := fun k hk => by rw [hg]; unfold f6; rw [if_neg (by omega), if_neg (by omega), if_neg (by omega), if_pos (by omega), show (84 + 2 * k - 84) / 2 = k by omega]
  have gF : ∀ k, k < 8 → FP k 1 = g (85 + 2 * k) := fun k hk => by rw [hg]; unfold f6; rw [if_neg (by omega), if_neg (by omega), if_neg (by omega), if_neg (by omega), show (85 + 2 * k - 84) / 2 = k by omega]
  have e60 : a = g 60 := by rw [hg]; rfl
  have e61 : q49 = g 61 := by rw [hg]; rfl
  have e62 : q85 = g 62 := by rw [hg]; rfl
  have e63 : q120 = g 63 := by rw [hg]; rfl
  have cS : CE (itm (res4 V (f0 0)) 20 qsS FS) (wsr (g, V.2) rsS (mI, zM, oz)) := by
    unfold rsS itm
    rw [wsr_map, show (fun k => res4 V (f0 0) (qsS k) (FS k)) = (fun k => [(qsS k, (Sum.inr (4, [Value.ref (f0 0), Value.int 0, Value.int 0, Value.int 0, Value.int 0, Value.int 0]) : va_E))]) from rfl, ← List.map_eq_flatMap]
    refine ce_map fun k hk => ?_
    have hk := List.mem_range.mp hk
    refine ⟨gS k hk, Or.inl ?_⟩
    dsimp only
    rw [cel_S hk]
    unfold celS
    rw [show ((mI, zM, oz) : wW).1 (64 + k) = sg0 by show mI (64 + k) = sg0; unfold mI; rw [if_neg (by omega), if_neg (by omega), if_pos (by omega)], show sg0 0 = 0 from rfl, plv_0, g0 0 (by decide)]
  have cT : CE (itm (res5 V) 8 qsP FP) (wsr (g, V.2) rsT (mI, zM, oz)) := by
    unfold rsT itm
    rw [show wsr (g, V.2) ((List.range 8).flatMap (fun k => [84 + 2 * k, 85 + 2 * k])) (mI, zM, oz) = (List.range 8).flatMap (fun k => [(g (84 + 2 * k), cel (g, V.2) (mI, zM, oz) (84 + 2 * k)), (g (85 + 2 * k), cel (g, V.2) (mI, zM, oz) (85 + 2 * k))]) by unfold wsr; rw [List.map_flatMap]; rfl]
    refine ce_flat fun k hk => ?_
    have hk := List.mem_range.mp hk
    have m0 : ((mI, zM, oz) : wW).1 (84 + 2 * k) = z0 := by show mI _ = _; unfold mI; rw [if_neg (by omega), if_neg (by omega), if_neg (by omega)]
    have m1 : ((mI, zM, oz) : wW).1 (85 + 2 * k) = z0 := by show mI _ = _; unfold mI; rw [if_neg (by omega), if_neg (by omega), if_neg (by omega)]
    rw [cel_T0 hk, cel_T1 hk, m0, m1]
    refine CE.cons (gP k hk) (Or.inl ?_) (CE.cons (gF k hk) (Or.inl rfl) CE.nil)
    show (Sum.inr (5, [Value.int 0, Value.int 0, Value.int 0, Value.ref (FP k 1)]) : va_E) = Sum.inr (5, [Value.int 0, Value.int 0, Value.int 0, Value.ref (g (85 + 2 * k))])
    rw [gF k hk]
  unfold rs6
  rw [List.cons_append, show wsr (g, V.2) (60 :: (((rsCC ++ 61 :: rsS) ++ 62 :: rsT) ++ [63])) (mI, zM, oz) = (g 60, cel (g, V.2) (mI, zM, oz) 60) :: wsr (g, V.2) (((rsCC ++ 61 :: rsS) ++ 62 :: rsT) ++ [63]) (mI, zM, oz) from rfl, wsr_app (g, V.2) _ [63], wsr_app (g, V.2) _ (62 :: rsT), wsr_app (g, V.2) rsCC (61 :: rsS)]
  refine CE.cons e60 (Or.inl ?_) (CE.app (CE.app (CE.app ?_ (CE.cons e61 (ceq_pf fun i hi => ?_) cS)) (CE.cons e62 (ceq_pf fun i hi => ?_) cT)) (CE.cons e63 (Or.inl rfl) CE.nil))
  · show (Sum.inr (6, [Value.ref (f0 0), Value.ref (f0 30), Value.ref q49, Value.ref q85, Value.ref q120, Value.int 0, Value.int 0, Value.int 0]) : va_E) = Sum.inr (6, [Value.ref (g 0), Value.ref (g 30), Value.ref (g 61), Value.ref (g 62), Value.ref (g 63), Value.int 0, Value.int 0, Value.int 0])
    rw [g0 0 (by decide), g0 30 (by decide), e61, e62, e63]
  · rw [wsr_app, wsr_app]
    refine CE.app (ce_castle (c0 := 0) (c := 0) (by decide) (by decide) (fun j hj => g0 _ (by omega)) (fun j hj => ?_)) (ce_castle (c0 := 1) (c := 1) (by decide) (by decide) (fun j hj => g0 _ (by omega)) (fun j hj => ?_))
    · show M6 _ = mI _
      unfold mI
      rw [if_pos (by omega)]
    · show M6 _ = mI _
      unfold mI
      rw [if_pos (by omega)]
  · show (if i < 20 then some (qsS i) else none) = some (g (64 + i))
    rw [if_pos hi, gS i hi]
  · show (if i < 8 then some (qsP i) else none) = some (g (84 + 2 * i))
    rw [if_pos hi, gP i hi]
set_option maxRecDepth 100000 in
theorem inI6_0 : ∀ w ∈ u_ws RX0 TX0 9, w ∈ wsX6_init := fun w h => List.mem_cons_of_mem _ (List.mem_append_left _ (List.mem_append_left _ (List.mem_append_left _ (List.mem_append_left _ (List.mem_append_left _ (List.mem_append_left _ (List.mem_append_right _ h)))))))
set_option maxRecDepth 100000 in
theorem inI6_6 : ∀ w ∈ u_ws RX6 TX6 8, w ∈ wsX6_init := fun w h => List.mem_cons_of_mem _ (List.mem_append_left _ (List.mem_append_left _ (List.mem_append_left _ (List.mem_append_left _ (List.mem_append_left _ (List.mem_append_right _ h))))))
set_option maxRecDepth 100000 in
theorem inI6_4 : ∀ w ∈ u_ws RX4 TX4 6, w ∈ wsX6_init := fun w h => List.mem_cons_of_mem _ (List.mem_append_left _ (List.mem_append_left _ (List.mem_append_left _ (List.mem_append_left _ (List.mem_append_right _ h)))))
set_option maxRecDepth 100000 in
theorem inI6_5 : ∀ w ∈ u_ws RX5 TX5 4, w ∈ wsX6_init := fun w h => List.mem_cons_of_mem _ (List.mem_append_left _ (List.mem_append_left _ (List.mem_append_left _ (List.mem_append_right _ h))))
set_option maxRecDepth 100000 in
theorem inI6_3 : ∀ w ∈ u_ws RX3 TX3 7, w ∈ wsX6_init := fun w h => List.mem_cons_of_mem _ (List.mem_append_left _ (List.mem_append_left _ (List.mem_append_right _ h)))
set_option maxRecDepth 100000 in
theorem inI6_2 : ∀ w ∈ u_ws RX2 TX2 3, w ∈ wsX6_init := fun w h => List.mem_cons_of_mem _ (List.mem_append_left _ (List.mem_append_right _ h))
set_option maxRecDepth 100000 in
theorem inI6_1 : ∀ w ∈ u_ws RX1 TX1 3, w ∈ wsX6_init := fun w h => List.mem_cons_of_mem _ (List.mem_append_right _ h)
set_option maxRecDepth 100000 in
set_option maxHeartbeats 4000000 in
theorem i_X6 (l : Launch) {G : va_G} {V : wV} (sz0 a : Nat) : CI l G V yX6_init wsX6_init 3 60 89 1120 sz0 a (.inr (6, [.null, .null, .null, .null, .null, .int 0, .int 0, .int 0])) (res6 V a) := by
  refine ci_of (cc := cX6_init) (maxL := 2) (by decide) rfl rfl (by decide) ?_
  intro p e s m below meth c ls C hin2 h X ha hA hl
  have hx := C.1
  have hb := C.2.1
  have hsz : ls.size = 2 := hl.1
  refine lv_aload_n hx hb dX6_init_0 rfl (lv_at hl 0 rfl) ?_
  refine W.objInit hx hb C.2.2.2.1 (C.2.2.2.2.1 (.methodLink RX6 1 objectInit) (by decide +kernel)) (C.2.2.2.2.1 (.instanceMethod objectInit) (by decide +kernel)) (C.2.2.2.2.1 _ (List.mem_of_getElem? (i := 3) rfl)) rfl (by rw [C.2.2.1]; exact hl.1) rfl dX6_init_1 (Nat.le_of_ble_eq_true rfl) (Nat.le_of_ble_eq_true rfl) ?_
  refine W.eq (g2 := F0 m 4 ls []) rfl ?_
  refine lv_aload_n hx hb dX6_init_4 rfl (lv_at hl 0 rfl) ?_
  refine k_mk C X hA h (ci := 0) rfl inI6_0 tyX0 tyX0_ok (ik := 7) (by decide +kernel) (by decide +kernel) (by decide +kernel) (fs := [.int 0, .int 0, .int 0, .int 0, .null, .null, .null, .null, .null]) (by decide) (fun q hq => i_X0 l sz0 q) (Or.inl (cwI 0 C.2.2.2.2.1 gX6_init_X0_init rfl rfl rfl (C.2.2.2.2.1 (.initialized RX0) (by decide +kernel)) (C.2.2.2.2.1 (.methodLink RX6 9 yX0_init) (by decide +kernel)) (C.2.2.2.2.1 (.instanceMethod yX0_init) (by decide +kernel)) rfl ⟨by decide, by decide, by decide +kernel⟩ ⟨Nat.le_of_ble_eq_true rfl, Nat.le_of_ble_eq_true rfl⟩)) hsz (Nat.le_of_ble_eq_true rfl) dX6_init_5 dX6_init_8 dX6_init_9 (by decide) (by decide) (fun q5 f5 H locs h => ?_)
  refine k_putF C hin2 h rfl inI6_6 tyX6 tyX6_ok nmX6 0 (by decide) (by decide +kernel) rfl rfl (v := .ref q5) rfl rfl (Nat.le_of_ble_eq_true rfl) dX6_init_12 (fun H locs h => ?_)
  have h : CL G ((a, .inr (6, [.ref q5, .null, .null, .null, .null, .int 0, .int 0, .int 0])) :: ([] ++ res0 V q5 f5)) s _ H locs := h
  refine lv_aload_n hx hb dX6_init_15 rfl (lv_at hl 0 rfl) ?_
  refine k_mk C X hA h (ci := 0) rfl inI6_0 tyX0 tyX0_ok (ik := 7) (by decide +kernel) (by decide +kernel) (by decide +kernel) (fs := [.int 0, .int 0, .int 0, .int 0, .null, .null, .null, .null, .null]) (by decide) (fun q hq => i_X0 l sz0 q) (Or.inl (cwI 0 C.2.2.2.2.1 gX6_init_X0_init rfl rfl rfl (C.2.2.2.2.1 (.initialized RX0) (by decide +kernel)) (C.2.2.2.2.1 (.methodLink RX6 9 yX0_init) (by decide +kernel)) (C.2.2.2.2.1 (.instanceMethod yX0_init) (by decide +kernel)) rfl ⟨by decide, by decide, by decide +kernel⟩ ⟨Nat.le_of_ble_eq_true rfl, Nat.le_of_ble_eq_true rfl⟩)) hsz (Nat.le_of_ble_eq_true rfl) dX6_init_16 dX6_init_19 dX6_init_20 (by decide) (by decide) (fun q16 f16 H locs h => ?_)
  refine k_putF C hin2 h rfl inI6_6 tyX6 tyX6_ok nmX6 1 (by decide) (by decide +kernel) rfl rfl (v := .ref q16) rfl rfl (Nat.le_of_ble_eq_true rfl) dX6_init_23 (fun H locs h => ?_)
  have h : CL G ((a, .inr (6, [.ref q5, .ref q16, .null, .null, .null, .int 0, .int 0, .int 0])) :: (([] ++ res0 V q5 f5) ++ res0 V q16 f16)) s _ H locs := h
  have h : CL G ([(a, (.inr (6, [.ref q5, .ref q16, .null, .null, .null, .int 0, .int 0, .int 0]) : va_E))] ++ wsr (fCC q5 f5 q16 f16, V.2) rsCC (zM, zM, oz)) s (va_A [(a, .inr (6, [.null, .null, .null, .null, .null, .int 0, .int 0, .int 0]))] s.heap.size) H locs := CL.ce h (CE.app (CE.rf [(a, (.inr (6, [.ref q5, .ref q16, .null, .null, .null, .int 0, .int 0, .int 0]) : va_E))]) ce_two)
  refine lv_aload_n hx hb dX6_init_26 rfl (lv_at hl 0 rfl) ?_
  refine k_get (ws := wsr (fCC q5 f5 q16 f16, V.2) rsCC (zM, zM, oz)) C h rfl inI6_6 0 (by decide) (by decide +kernel) rfl dX6_init_27 ?_
  refine lv_iconst (v := 3) hx hb dX6_init_30 (by decide) ?_
  refine lv_bipush (v := 100) hx hb dX6_init_31 (by decide) ?_
  refine k_call (V0 := (fCC q5 f5 q16 f16, V.2)) (V := V) rfl C X hA (pre := [(a, (.inr (6, [.ref q5, .ref q16, .null, .null, .null, .int 0, .int 0, .int 0]) : va_E))]) (rs := rsCC) (w := (zM, zM, oz)) (w2 := (cRaise zM 0 3 100, zM, oz)) h (r := rCas 0) (by decide) ((lo_Cas (by decide)).trans ((celF_Cas (by decide)) _)) rfl (As := [.int 3, .int 100]) (rest := []) (c_X0_raiseWalls l 0 (by decide) (bC_CC 0 (by decide)) zM zM oz 3 100) (cwV 2 C.2.2.2.2.1 gX6_init_X0_raiseWalls rfl rfl rfl (by decide +kernel) ⟨Nat.le_of_ble_eq_true rfl, Nat.le_of_ble_eq_true rfl⟩) rfl hsz rfl (Nat.le_of_ble_eq_true rfl) dX6_init_33 ⟨by decide, by decide⟩ (fun H locs h => ?_)
  refine lv_aload_n hx hb dX6_init_36 rfl (lv_at hl 0 rfl) ?_
  refine k_get (ws := wsr (fCC q5 f5 q16 f16, V.2) rsCC ((cRaise zM 0 3 100), zM, oz)) C h rfl inI6_6 1 (by decide) (by decide +kernel) rfl dX6_init_37 ?_
  refine lv_iconst (v := 3) hx hb dX6_init_40 (by decide) ?_
  refine lv_bipush (v := 100) hx hb dX6_init_41 (by decide) ?_
  refine k_call (V0 := (fCC q5 f5 q16 f16, V.2)) (V := V) rfl C X hA (pre := [(a, (.inr (6, [.ref q5, .ref q16, .null, .null, .null, .int 0, .int 0, .int 0]) : va_E))]) (rs := rsCC) (w := ((cRaise zM 0 3 100), zM, oz)) (w2 := (M6, zM, oz)) h (r := rCas 1) (by decide) ((lo_Cas (by decide)).trans ((celF_Cas (by decide)) _)) rfl (As := [.int 3, .int 100]) (rest := []) (c_X0_raiseWalls l 1 (by decide) (bC_CC 1 (by decide)) (cRaise zM 0 3 100) zM oz 3 100) (cwV 2 C.2.2.2.2.1 gX6_init_X0_raiseWalls rfl rfl rfl (by decide +kernel) ⟨Nat.le_of_ble_eq_true rfl, Nat.le_of_ble_eq_true rfl⟩) rfl hsz rfl (Nat.le_of_ble_eq_true rfl) dX6_init_43 ⟨by decide, by decide⟩ (fun H locs h => ?_)
  have h : CL G ((a, .inr (6, [.ref q5, .ref q16, .null, .null, .null, .int 0, .int 0, .int 0])) :: wsr (fCC q5 f5 q16 f16, V.2) rsCC (M6, zM, oz)) s (va_A [(a, .inr (6, [.null, .null, .null, .null, .null, .int 0, .int 0, .int 0]))] s.heap.size) H locs := h
  refine lv_aload_n hx hb dX6_init_46 rfl (lv_at hl 0 rfl) ?_
  refine lv_bipush (v := 20) hx hb dX6_init_47 (by decide) ?_
  refine k_newq C h 4 rfl X.2.1.2.1 (by decide +kernel) 20 (by decide) (by decide) (by decide) (by decide) (by decide) dX6_init_49 (fun q49 H h => ?_)
  refine k_putF C hin2 h rfl inI6_6 tyX6 tyX6_ok nmX6 2 (by decide) (by decide +kernel) rfl rfl (v := .ref q49) rfl rfl (Nat.le_of_ble_eq_true rfl) dX6_init_52 (fun H locs h => ?_)
  have h : CL G ((a, .inr (6, [.ref q5, .ref q16, .ref q49, .null, .null, .int 0, .int 0, .int 0])) :: (wsr (fCC q5 f5 q16 f16, V.2) rsCC (M6, zM, oz) ++ [(q49, arq V 4 20 (fun _ => none))])) s _ H locs := h
  have h : CL G ((a, .inr (6, [.ref q5, .ref q16, .ref q49, .null, .null, .int 0, .int 0, .int 0])) :: (wsr (fCC q5 f5 q16 f16, V.2) rsCC (M6, zM, oz) ++ (q49, arq V 4 20 (pf 0 (fun _ => 0))) :: ([] ++ itm (res4 V q5) 0 (fun _ => 0) (fun _ _ => 0)))) s (va_A [(a, .inr (6, [.null, .null, .null, .null, .null, .int 0, .int 0, .int 0]))] s.heap.size) H locs := by rw [pf_zero]; exact h
  refine lv_iconst (v := nI 0) hx hb dX6_init_55 (by decide) ?_
  refine lv_istore_n (lv' := [(1, .int (nI 0)), (0, .ref a)]) hx hb dX6_init_56 rfl hl (by decide) rfl (fun ls hl => ?_)
  refine W.eq (g2 := F0 m 57 ls []) rfl ?_
  refine k_loopJ C X hA 20 (by decide) (ci0 := 6) rfl inI6_6 2 (by decide) (by decide +kernel) rfl 0 (by decide) (by decide +kernel) rfl (t1 := wsr (fCC q5 f5 q16 f16, V.2) rsCC (M6, zM, oz)) (t2 := []) 4 (ci := 4) rfl rfl inI6_4 tyX4 tyX4_ok (by decide +kernel) (by decide +kernel) (by decide +kernel) (fs1 := [.null, .int 0, .int 0, .int 0, .int 0, .int 0]) (by decide) (fun q hq => i_X4 l sz0 q q5) (fun q f => ⟨_, List.mem_cons_self⟩) (cwI 1 C.2.2.2.2.1 gX6_init_X4_init rfl rfl rfl (C.2.2.2.2.1 (.initialized RX4) (by decide +kernel)) (C.2.2.2.2.1 (.methodLink RX6 29 yX4_init) (by decide +kernel)) (C.2.2.2.2.1 (.instanceMethod yX4_init) (by decide +kernel)) rfl ⟨by decide, by decide, by decide +kernel⟩ ⟨Nat.le_of_ble_eq_true rfl, Nat.le_of_ble_eq_true rfl⟩) (by decide) (pcE := 86) dX6_init_57 (fun H locs ls rest cells slots k => lv_bipush hx hb dX6_init_58 (by decide) k) dX6_init_60 (by decide) dX6_init_63 dX6_init_64 dX6_init_67 dX6_init_68 dX6_init_71 dX6_init_72 dX6_init_73 dX6_init_76 dX6_init_79 dX6_init_80 dX6_init_83 (by decide) (c0 := 51) (s0 := 940) (by decide) (by decide) (fun qsS FFS H locs ls h hl => ?_) 20 0 rfl _ _ H locs ls h hl
  refine W.widen (k := 71) (n := 1060) (by decide) (by decide) ?_
  have hsz : ls.size = 2 := hl.1
  have h : CL G ((a, .inr (6, [.ref q5, .ref q16, .ref q49, .null, .null, .int 0, .int 0, .int 0])) :: (wsr (fCC q5 f5 q16 f16, V.2) rsCC (M6, zM, oz) ++ (q49, arq V 4 20 (pf 20 qsS)) :: ([] ++ itm (res4 V q5) 20 qsS FFS))) s (va_A [(a, .inr (6, [.null, .null, .null, .null, .null, .int 0, .int 0, .int 0]))] s.heap.size) H locs := h
  refine lv_aload_n hx hb dX6_init_86 rfl (lv_at hl 1 rfl) ?_
  refine lv_bipush (v := 8) hx hb dX6_init_87 (by decide) ?_
  refine k_newq C h 5 rfl X.2.1.2.2.1 (by decide +kernel) 8 (by decide) (by decide) (by decide) (by decide) (by decide) dX6_init_89 (fun q89 H h => ?_)
  refine k_putF C hin2 h rfl inI6_6 tyX6 tyX6_ok nmX6 3 (by decide) (by decide +kernel) rfl rfl (v := .ref q89) rfl rfl (Nat.le_of_ble_eq_true rfl) dX6_init_92 (fun H locs h => ?_)
  have h : CL G ((a, .inr (6, [.ref q5, .ref q16, .ref q49, .ref q89, .null, .int 0, .int 0, .int 0])) :: ((wsr (fCC q5 f5 q16 f16, V.2) rsCC (M6, zM, oz) ++ (q49, arq V 4 20 (pf 20 qsS)) :: ([] ++ itm (res4 V q5) 20 qsS FFS)) ++ [(q89, arq V 5 8 (fun _ => none))])) s _ H locs := h
  have h : CL G ((a, .inr (6, [.ref q5, .ref q16, .ref q49, .ref q89, .null, .int 0, .int 0, .int 0])) :: ((wsr (fCC q5 f5 q16 f16, V.2) rsCC (M6, zM, oz) ++ (q49, arq V 4 20 (pf 20 qsS)) :: ([] ++ itm (res4 V q5) 20 qsS FFS)) ++ (q89, arq V 5 8 (pf 0 (fun _ => 0))) :: ([] ++ itm (res5 V) 0 (fun _ => 0) (fun _ _ => 0)))) s (va_A [(a, .inr (6, [.null, .null, .null, .null, .null, .int 0, .int 0, .int 0]))] s.heap.size) H locs := by rw [pf_zero]; exact h
  refine lv_iconst (v := nI 0) hx hb dX6_init_95 (by decide) ?_
  refine lv_istore_n (lv' := [(1, .int (nI 0)), (0, .ref a)]) hx hb dX6_init_96 rfl hl (by decide) rfl (fun ls hl => ?_)
  refine W.eq (g2 := F0 m 97 ls []) rfl ?_
  refine k_loop C X hA 8 (by decide) (ci0 := 6) rfl inI6_6 3 (by decide) (by decide +kernel) rfl (t1 := (wsr (fCC q5 f5 q16 f16, V.2) rsCC (M6, zM, oz) ++ (q49, arq V 4 20 (pf 20 qsS)) :: ([] ++ itm (res4 V q5) 20 qsS FFS))) (t2 := []) 5 (ci := 5) rfl rfl inI6_5 tyX5 tyX5_ok (by decide +kernel) (by decide +kernel) (by decide +kernel) (fs1 := [.int 0, .int 0, .int 0, .null]) (by decide) (fun q hq => i_X5 l sz0 q) (fun q f => ⟨_, List.mem_cons_self⟩) (Or.inr ⟨"Castlequorum", va_cnB 0 C.2.2.2.2.1 gX6_init_X5_init_n38 rfl rfl rfl (X.2.1.2.2.2 _ (List.mem_of_getElem? (i := 3) rfl)) (C.2.2.2.2.1 (.initialized RX5) (by decide +kernel)) ⟨by decide, by decide, by decide +kernel⟩ ⟨Nat.le_of_ble_eq_true rfl, Nat.le_of_ble_eq_true rfl⟩, rfl, C.2.2.2.2.1 (.instanceMethod yX5_init) (by decide +kernel)⟩) (by decide) (pcE := 122) dX6_init_97 (fun H locs ls rest cells slots k => lv_bipush hx hb dX6_init_98 (by decide) k) dX6_init_100 (by decide) dX6_init_103 dX6_init_104 dX6_init_107 dX6_init_108 dX6_init_111 dX6_init_112 dX6_init_115 dX6_init_116 dX6_init_119 (by decide) (c0 := 72) (s0 := 1068) (by decide) (by decide) (fun qsP FFP H locs ls h hl => ?_) 8 0 rfl _ _ H locs ls h hl
  refine W.widen (k := 88) (n := 1116) (by decide) (by decide) ?_
  have hsz : ls.size = 2 := hl.1
  have h : CL G ((a, .inr (6, [.ref q5, .ref q16, .ref q49, .ref q89, .null, .int 0, .int 0, .int 0])) :: ((wsr (fCC q5 f5 q16 f16, V.2) rsCC (M6, zM, oz) ++ (q49, arq V 4 20 (pf 20 qsS)) :: ([] ++ itm (res4 V q5) 20 qsS FFS)) ++ (q89, arq V 5 8 (pf 8 qsP)) :: ([] ++ itm (res5 V) 8 qsP FFP))) s (va_A [(a, .inr (6, [.null, .null, .null, .null, .null, .int 0, .int 0, .int 0]))] s.heap.size) H locs := h
  refine lv_aload_n hx hb dX6_init_122 rfl (lv_at hl 1 rfl) ?_
  refine lv_iconst (v := 4) hx hb dX6_init_123 (by decide) ?_
  refine k_newa C h 0 rfl (fun _ z => by cases z) (ty := .int) rfl (by decide +kernel) 4 (4, .inl z0) (fun _ => rfl) (by decide) (by decide) (by decide) (by decide) (by decide) dX6_init_124 (fun q124 H h => ?_)
  refine k_putF C hin2 h rfl inI6_6 tyX6 tyX6_ok nmX6 4 (by decide) (by decide +kernel) rfl rfl (v := .ref q124) rfl rfl (Nat.le_of_ble_eq_true rfl) dX6_init_126 (fun H locs h => ?_)
  have h : CL G ((a, .inr (6, [.ref q5, .ref q16, .ref q49, .ref q89, .ref q124, .int 0, .int 0, .int 0])) :: (((wsr (fCC q5 f5 q16 f16, V.2) rsCC (M6, zM, oz) ++ (q49, arq V 4 20 (pf 20 qsS)) :: ([] ++ itm (res4 V q5) 20 qsS FFS)) ++ (q89, arq V 5 8 (pf 8 qsP)) :: ([] ++ itm (res5 V) 8 qsP FFP)) ++ [(q124, .inl (V.2 0, 4, .inl z0))])) s _ H locs := h
  have h : CL G (res6 V a (f6 a q49 q89 q124 (fCC q5 f5 q16 f16) qsS qsP FFP)) s (va_A [(a, .inr (6, [.null, .null, .null, .null, .null, .int 0, .int 0, .int 0]))] s.heap.size) H locs := CL.ce h ce_six
  exact k_end C _ h rfl dX6_init_129 (by decide) (by decide)
