/-! THE LAW'S START: what the tables say of classes, exceptions, strings; the two objects that it makes, and its loop -/
theorem kt_prim {args : Array Value} {s : State} {ty : FieldType} (h : (Cond.arrayClass ty).before args s = true) (ho : ∀ n, ty ≠ .object n) : ∃ cA, ArrOfT s cA ty ∧ va_RA s cA ty := by
  obtain ⟨c, k, comp, h1, h2, h3⟩ := Cond.arrayClass_spec h
  refine ⟨c, fun n z => ⟨(fun q e => by cases e), k, h2, comp, h3⟩, ?_⟩
  unfold va_RA
  cases ty with
  | object n => exact absurd rfl (ho n)
  | _ => exact h1
theorem kt_obj {s : State} {C : String} (h : va_AO C s) : ∃ cA, ArrOfT s cA (.object C) ∧ va_RA s cA (.object C) := by
  obtain ⟨comp, c, k, h1, h2, h3, h4, h5⟩ := Cond.arrayOver_spec h
  exact ⟨c, fun n z => ⟨(fun q e => by cases e), k, h3, comp, h4⟩, k, comp, h3, h4, h1, h5⟩
set_option maxRecDepth 20000 in
theorem xs_start {s : State} {b : Nat} (hts : ∀ w ∈ lw_tbl, w.before #[Value.ref b] s = true) (hn : (Jvm.Cond.and given_1 narrow_1).before #[Value.ref b] s = true) : XS s.heap.size s := by
  have hq := flat_of_before _ hn
  refine ⟨⟨vx_Zqof (hts _ (by decide +kernel)) (hts _ (by decide +kernel)) (hq _ (by decide +kernel)) (fun a h z => absurd h (Nat.not_lt.mpr z)), vx_Zqof (hts _ (by decide +kernel)) (hts _ (by decide +kernel)) (hq _ (by decide +kernel)) (fun a h z => absurd h (Nat.not_lt.mpr z)), ?_, ?_, ?_, ?_⟩, ⟨va_AO.of (hts (.arrayOver (.object RX1)) (by decide +kernel)), va_AO.of (hts (.arrayOver (.object RX4)) (by decide +kernel)), va_AO.of (hts (.arrayOver (.object RX5)) (by decide +kernel)), ?_⟩, Nat.le_refl _⟩
  · have h : ∀ q ∈ txs, Cond.stringRef RX6 q.1 q.2 ∈ lw_tbl := by decide +kernel
    intro q hq9
    have h1 := hts _ (h q hq9)
    have hcls : ∃ cur, s.vm.findClass RX6 = some cur := by
      have h2 := h1
      simp only [Cond.before, Cond.holds, Cond.value] at h2
      cases hc : s.vm.findClass RX6 with
      | none => rw [hc] at h2; cases h2
      | some cur => exact ⟨cur, rfl⟩
    obtain ⟨cur, hcur⟩ := hcls
    obtain ⟨k, cf, i, a, -, -, -, -, -, h6⟩ := Cond.stringRef_spec hcur h1
    exact ⟨a, vk_R.of h1 h6⟩
  · have h : ∀ E ∈ exs, Cond.castable E E ∈ lw_tbl := by decide +kernel
    exact fun E hE => va_Nw.of rfl (hts _ (h E hE))
  · have h : ∀ Y ∈ ups, Cond.declares (Bundle.initS Y) ∈ lw_tbl := by decide +kernel
    exact fun Y hY => va_Nw.of rfl (hts _ (h Y hY))
  · have h : ∀ q ∈ nst, Cond.methodLinkNest q.1 q.2 yX6_contains "Castlequorum" ∈ lw_tbl := by decide +kernel
    exact fun q hq9 => va_Nw.of rfl (hts _ (h q hq9))
  · have h : ∀ q ∈ nsc, Cond.methodLinkNest q.1 q.2.1 q.2.2 "Castlequorum" ∈ lw_tbl := by decide +kernel
    exact fun q hq9 => va_Nw.of rfl (hts _ (h q hq9))
set_option maxRecDepth 20000 in
theorem nc_start {s : State} {b : Nat} (hn : (Jvm.Cond.and given_1 narrow_1).before #[Value.ref b] s = true) : NC s := by
  have h : ∀ x ∈ exs, ∀ y ∈ exs, x ≠ y → Cond.not (.castable x y) ∈ flatC (Jvm.Cond.and given_1 narrow_1) := by decide +kernel
  exact fun x hx y hy hxy => va_Nc.of (flat_of_before _ hn _ (h x hx y hy hxy))
set_option maxRecDepth 20000 in
theorem k_start {s : State} {b : Nat} (hts : ∀ w ∈ lw_tbl, w.before #[Value.ref b] s = true) (X : XS s.heap.size s) : ∃ (G : va_G) (t : Nat → ClassId), va_K G vwCl (tysV (fun _ => 0, t)) s := by
  obtain ⟨c0, i0, k0⟩ := u_known (n := 9) hts (fun w h => wsL_law_in w (inlX0 w h)) (hts (.instantiable RX0 9) (by decide +kernel))
  obtain ⟨c1, i1, k1⟩ := u_known (n := 3) hts (fun w h => wsL_law_in w (inlX1 w h)) (hts (.instantiable RX1 3) (by decide +kernel))
  obtain ⟨c2, i2, k2⟩ := u_known (n := 3) hts (fun w h => wsL_law_in w (inlX2 w h)) (hts (.instantiable RX2 3) (by decide +kernel))
  obtain ⟨c3, i3, k3⟩ := u_known (n := 7) hts (fun w h => wsL_law_in w (inlX3 w h)) (hts (.instantiable RX3 7) (by decide +kernel))
  obtain ⟨c4, i4, k4⟩ := u_known (n := 6) hts (fun w h => wsL_law_in w (inlX4 w h)) (hts (.instantiable RX4 6) (by decide +kernel))
  obtain ⟨c5, i5, k5⟩ := u_known (n := 4) hts (fun w h => wsL_law_in w (inlX5 w h)) (hts (.instantiable RX5 4) (by decide +kernel))
  obtain ⟨c6, i6, k6⟩ := u_known (n := 8) hts (fun w h => wsL_law_in w (inlX6 w h)) (hts (.instantiable RX6 8) (by decide +kernel))
  obtain ⟨c7, i7, k7⟩ := u_known (n := 35) hts (fun w h => wsL_law_in w (inlX7 w h)) (hts (.instantiable RX7 35) (by decide +kernel))
  obtain ⟨t0, a0⟩ := kt_prim (hts (.arrayClass .int) (by decide +kernel)) (fun n z => by cases z)
  obtain ⟨t1, a1⟩ := kt_prim (hts (.arrayClass .char) (by decide +kernel)) (fun n z => by cases z)
  obtain ⟨t2, a2⟩ := kt_prim (hts (.arrayClass .boolean) (by decide +kernel)) (fun n z => by cases z)
  obtain ⟨t3, a3⟩ := kt_obj X.2.1.1
  obtain ⟨t4, a4⟩ := kt_obj X.2.1.2.1
  obtain ⟨t5, a5⟩ := kt_obj X.2.1.2.2.1
  obtain ⟨t6, a6⟩ := kt_prim (hts (.arrayClass .long) (by decide +kernel)) (fun n z => by cases z)
  obtain ⟨t7, a7⟩ := kt_prim (hts (.arrayClass .double) (by decide +kernel)) (fun n z => by cases z)
  refine ⟨(fun c => match c with | 0 => c0 | 1 => c1 | 2 => c2 | 3 => c3 | 4 => c4 | 5 => c5 | 6 => c6 | _ => c7, fun c => match c with | 0 => i0 | 1 => i1 | 2 => i2 | 3 => i3 | 4 => i4 | 5 => i5 | 6 => i6 | _ => i7), fun t => match t with | 0 => t0 | 1 => t1 | 2 => t2 | 3 => t3 | 4 => t4 | 5 => t5 | 6 => t6 | _ => t7, fun c q hc => ?_, fun k q hk => ?_⟩
  · match c, hc with
    | 0, hc => cases hc; exact k0
    | 1, hc => cases hc; exact k1
    | 2, hc => cases hc; exact k2
    | 3, hc => cases hc; exact k3
    | 4, hc => cases hc; exact k4
    | 5, hc => cases hc; exact k5
    | 6, hc => cases hc; exact k6
    | 7, hc => cases hc; exact k7
    | n + 8, hc => cases hc
  · match k, hk with
    | 0, hk => cases hk; exact a0
    | 1, hk => cases hk; exact a1
    | 2, hk => cases hk; exact a2
    | 3, hk => cases hk; exact a3
    | 4, hk => cases hk; exact a4
    | 5, hk => cases hk; exact a5
    | 6, hk => cases hk; exact a6
    | 7, hk => cases hk; exact a7
    | n + 8, hk => cases hk
/-- the class's cells by other addresses of the same roles -/
theorem ce_lo {f1 g : Nat → Nat} {t : Nat → ClassId} {w w' : wW} (hV : ∀ r, r < 100 → f1 r = g r) (hw : w.1 = w'.1) : CE (wsr (f1, t) rs6 w) (wsr (g, t) rs6 w') := by
  have hc : ∀ {r : Nat}, r < 100 → ∀ V : wV, cel V w' r = celF V w'.2.2 r (w.1 r) := fun h V => by rw [cel_lo h, hw]
  have cS : CE (wsr (f1, t) rsS w) (wsr (g, t) rsS w') := by
    unfold rsS
    rw [wsr_map, wsr_map]
    refine ce_map fun k hk => ?_
    have hk := List.mem_range.mp hk
    refine ⟨hV _ (by omega), Or.inl ?_⟩
    dsimp only
    rw [cel_S hk, cel_S hk, ← hw]
    have hp : ∀ x, plv (f1, t) x = plv (g, t) x := fun x => by
      unfold plv
      rw [show (f1, t).1 (rCas 0) = (g, t).1 (rCas 0) from hV 0 (by decide), show (f1, t).1 (rCas 1) = (g, t).1 (rCas 1) from hV 30 (by decide)]
    unfold celS
    rw [hp]
  have cT : CE (wsr (f1, t) rsT w) (wsr (g, t) rsT w') := by
    unfold rsT
    rw [show ∀ (V : wV) (w : wW), wsr V ((List.range 8).flatMap (fun k => [84 + 2 * k, 85 + 2 * k])) w = (List.range 8).flatMap (fun k => [(V.1 (84 + 2 * k), cel V w (84 + 2 * k)), (V.1 (85 + 2 * k), cel V w (85 + 2 * k))]) from fun V w => by unfold wsr; rw [List.map_flatMap]; rfl, show ∀ (V : wV) (w : wW), wsr V ((List.range 8).flatMap (fun k => [84 + 2 * k, 85 + 2 * k])) w = (List.range 8).flatMap (fun k => [(V.1 (84 + 2 * k), cel V w (84 + 2 * k)), (V.1 (85 + 2 * k), cel V w (85 + 2 * k))]) from fun V w => by unfold wsr; rw [List.map_flatMap]; rfl]
    refine ce_flat fun k hk => ?_
    have hk := List.mem_range.mp hk
    rw [cel_T0 hk, cel_T1 hk, cel_T0 hk, cel_T1 hk, ← hw]
    refine CE.cons (hV _ (by omega)) (Or.inl ?_) (CE.cons (hV _ (by omega)) (Or.inl rfl) CE.nil)
    show (Sum.inr (5, [Value.int (w.1 (84 + 2 * k) 0), Value.int (w.1 (84 + 2 * k) 1), Value.int (w.1 (84 + 2 * k) 2), Value.ref (f1 (85 + 2 * k))]) : va_E) = Sum.inr (5, [Value.int (w.1 (84 + 2 * k) 0), Value.int (w.1 (84 + 2 * k) 1), Value.int (w.1 (84 + 2 * k) 2), Value.ref (g (85 + 2 * k))])
    rw [hV _ (by omega)]
  unfold rs6
  rw [List.cons_append]
  have e : ∀ (V : wV) (w : wW), wsr V (60 :: (((rsCC ++ 61 :: rsS) ++ 62 :: rsT) ++ [63])) w = (V.1 60, cel V w 60) :: (((wsr V rsCC w ++ (V.1 61, cel V w 61) :: wsr V rsS w) ++ (V.1 62, cel V w 62) :: wsr V rsT w) ++ [(V.1 63, cel V w 63)]) := fun V w => by
    rw [show wsr V (60 :: (((rsCC ++ 61 :: rsS) ++ 62 :: rsT) ++ [63])) w = (V.1 60, cel V w 60) :: wsr V (((rsCC ++ 61 :: rsS) ++ 62 :: rsT) ++ [63]) w from rfl, wsr_app V _ [63], wsr_app V _ (62 :: rsT), wsr_app V rsCC (61 :: rsS)]
    rfl
  rw [e, e]
  refine CE.cons (hV _ (by decide)) (Or.inl ?_) (CE.app (CE.app (CE.app ?_ (CE.cons (hV _ (by decide)) ?_ cS)) (CE.cons (hV _ (by decide)) ?_ cT)) (CE.cons (hV _ (by decide)) (Or.inl ?_) CE.nil))
  · rw [hc (by decide), cel_lo (by decide)]
    show (Sum.inr (6, [Value.ref (f1 0), Value.ref (f1 30), Value.ref (f1 61), Value.ref (f1 62), Value.ref (f1 63), Value.int (w.1 60 5), Value.int (w.1 60 6), Value.int (w.1 60 7)]) : va_E) = Sum.inr (6, [Value.ref (g 0), Value.ref (g 30), Value.ref (g 61), Value.ref (g 62), Value.ref (g 63), Value.int (w.1 60 5), Value.int (w.1 60 6), Value.int (w.1 60 7)])
    rw [hV 0 (by decide), hV 30 (by decide), hV 61 (by decide), hV 62 (by decide), hV 63 (by decide)]
  · rw [wsr_app, wsr_app]
    exact CE.app (ce_castle (c0 := 0) (c := 0) (by decide) (by decide) (fun j hj => hV _ (by omega)) (fun j hj => by rw [hw])) (ce_castle (c0 := 1) (c := 1) (by decide) (by decide) (fun j hj => hV _ (by omega)) (fun j hj => by rw [hw]))
  · rw [hc (by decide), cel_lo (by decide)]
    exact ceq_pf fun i hi => congrArg some (hV (64 + i) (by omega))
  · rw [hc (by decide), cel_lo (by decide)]
    exact ceq_pf fun i hi => congrArg some (hV (84 + 2 * i) (by omega))
  · rw [hc (by decide), cel_lo (by decide)]
    rfl
def gV (q6 q7 qL qD : Nat) (f6 f7 : Nat → Nat) : Nat → Nat := fun r => if r < 100 then (if r = 60 then q6 else f6 r) else if r < 140 then (if r = 100 then q7 else f7 r) else if r = 140 then qL else qD
abbrev rsW : List Nat := (rs6 ++ rs7) ++ [140, 141]
set_option maxRecDepth 100000 in
theorem ce_hi {q6 q7 qL qD : Nat} {f6 f7 : Nat → Nat} {t : Nat → ClassId} : CE (wsr (fun j => if j = 100 then q7 else f7 j, t) rs7 (zM, R7, oz)) (wsr (gV q6 q7 qL qD f6 f7, t) rs7 (mI, R7, oz)) :=
  CE.cons rfl (Or.inl rfl) (CE.cons rfl (Or.inl rfl) (CE.cons rfl (Or.inl rfl) (CE.cons rfl (Or.inl rfl) (CE.cons rfl (Or.inl rfl) (CE.cons rfl (Or.inl rfl) (CE.cons rfl (Or.inl rfl) (CE.cons rfl (Or.inl rfl) (CE.cons rfl (Or.inl rfl) (CE.cons rfl (Or.inl rfl) (CE.cons rfl (Or.inl rfl) (CE.cons rfl (Or.inl rfl) (CE.cons rfl (Or.inl rfl) (CE.cons rfl (Or.inl rfl) (CE.cons rfl (Or.inl rfl) (CE.cons rfl (Or.inl rfl) (CE.cons rfl (Or.inl rfl) (CE.cons rfl (Or.inl rfl) (CE.cons rfl (Or.inl rfl) (CE.cons rfl (Or.inl rfl) (CE.cons rfl (Or.inl rfl) (CE.cons rfl (Or.inl rfl) (CE.cons rfl (Or.inl rfl) (CE.cons rfl (Or.inl rfl) (CE.cons rfl (Or.inl rfl) (CE.cons rfl (Or.inl rfl) (CE.cons rfl (Or.inl rfl) (CE.cons rfl (Or.inl rfl) (CE.cons rfl (Or.inl rfl) (CE.nil)))))))))))))))))))))))))))))
theorem ce_law {V : wV} {q6 q7 qL qD : Nat} {f6 f7 : Nat → Nat} : CE (((res6 V q6 f6 ++ res7 V q7 f7) ++ [(qL, .inl (V.2 6, 1, .inr (.inl (fun _ => 0))))]) ++ [(qD, .inl (V.2 7, 1, .inr (.inr (.inr (.inl (fun _ => 0))))))]) (wsr (gV q6 q7 qL qD f6 f7, V.2) rsW (mI, R7, oz)) := by
  unfold rsW
  rw [wsr_app, wsr_app, List.append_assoc]
  refine CE.app (CE.app (ce_lo (fun r hr => ?_) rfl) ce_hi) (CE.cons rfl (Or.inl rfl) (CE.cons rfl (Or.inl rfl) CE.nil))
  show (if r = 60 then q6 else f6 r) = gV q6 q7 qL qD f6 f7 r
  unfold gV
  rw [if_pos hr]
theorem bA_W : bA rsW := by
  have h1 : ∀ c, c < 2 → ∀ j, j < 25 → 30 * c + j ∈ rsW := by decide +kernel
  have h2 : ∀ j, j < 100 → 60 ≤ j → j ∈ rsW := by decide +kernel
  exact ⟨h1, fun j a b => h2 j b a⟩
theorem bR_W : bR rsW := by
  have h : ∀ j ∈ rolesR, j ∈ rsW := by decide +kernel
  exact h
theorem rsW_lt : ∀ r ∈ rsW, r < 142 := by decide +kernel
set_option maxRecDepth 100000 in
set_option maxHeartbeats 4000000 in
theorem law_walk {G : va_G} {t : Nat → ClassId} {p : Program} {l : Launch} {e : Env} {s : State} {m : MethodId} {b L : Nat} {xs : Nat → Int32} {below : List Frame} {meth : Method} {c : Code} {Q : State → Prop} {ls : Array Slot} (hl9 : l.stackTraces = false) (C : Cx G (fun _ => 0, t) p s m #[.ref b] meth c cL_law 9 RL wsL_law (some .boolean)) (X : XS s.heap.size s) (N : NC s) (hX : va_X b L xs s s.heap) (hb : b < s.heap.size) (hL : L ≤ 3072) (hl : lv_has ls 9 [(0, .ref b)])
    (hend : ∀ (H : Heap) (locs : List Loc) (ls : Array Slot) (cells slots : Nat), cells ≤ 601024 → slots ≤ 7293034 → (∀ q ∈ locs, s.heap.size ≤ q.base) → W p l e room_1 s m #[.ref b] below meth c H locs cells slots Q (F0 m 2928 ls [])) : W p l e room_1 s m #[.ref b] below meth c s.heap [] 0 0 Q (F0 m 0 ls []) := by
  have hx := C.1
  have hy := C.2.1
  have h : CL G [] s (fun q => s.heap.size ≤ q) s.heap [] := ⟨fun k q hk => by simp at hk, ⟨fun i j x y hi => by simp at hi, fun k q hk => by simp at hk⟩, va_S.rf, fun q hq => hq⟩
  refine k_mk C X (fun q z => z) h (ci := 6) rfl inlX6 tyX6 tyX6_ok (ik := 8) (by decide +kernel) (by decide +kernel) (by decide +kernel) (fs := [.null, .null, .null, .null, .null, .int 0, .int 0, .int 0]) (by decide) (fun q hq => i_X6 l s.heap.size q) (Or.inl (cwI 0 C.2.2.2.2.1 gL_law_X6_init rfl rfl rfl (C.2.2.2.2.1 (.initialized RX6) (by decide +kernel)) (C.2.2.2.2.1 (.methodLink RL 139 yX6_init) (by decide +kernel)) (C.2.2.2.2.1 (.instanceMethod yX6_init) (by decide +kernel)) rfl ⟨by decide, by decide, by decide +kernel⟩ ⟨by decide, by decide⟩)) hl.1 (Nat.le_of_ble_eq_true rfl) dL_law_0 dL_law_3 dL_law_4 (by decide) (by decide) (fun q6 f6 H locs h => ?_)
  refine lv_astore_n (lv' := [(1, .ref q6), (0, .ref b)]) hx hy dL_law_7 rfl hl (by decide) rfl (fun ls hl => ?_)
  refine k_mk C X (fun q z => z) h (ci := 7) rfl inlX7 tyX7 tyX7_ok (ik := 140) (by decide +kernel) (by decide +kernel) (by decide +kernel) (fs := [.null, .null, .null, .null, .null, .null, .null, .null, .null, .null, .null, .null, .null, .null, .null, .null, .int 0, .int 0, .int 0, .int 0, .null, .null, .null, .null, .null, .null, .null, .null, .null, .null, .null, .int 0, .int 0, .int 0, .null]) (by decide) (fun q hq => i_X7 l s.heap.size q) (Or.inl (cwI 0 C.2.2.2.2.1 gL_law_X7_init rfl rfl rfl (C.2.2.2.2.1 (.initialized RX7) (by decide +kernel)) (C.2.2.2.2.1 (.methodLink RL 142 yX7_init) (by decide +kernel)) (C.2.2.2.2.1 (.instanceMethod yX7_init) (by decide +kernel)) rfl ⟨by decide, by decide, by decide +kernel⟩ ⟨by decide, by decide⟩)) hl.1 (Nat.le_of_ble_eq_true rfl) dL_law_8 dL_law_11 dL_law_12 (by decide) (by decide) (fun q7 f7 H locs h => ?_)
  refine lv_astore_n (lv' := [(2, .ref q7), (1, .ref q6), (0, .ref b)]) hx hy dL_law_15 rfl hl (by decide) rfl (fun ls hl => ?_)
  refine lv_iconst (v := 1) hx hy dL_law_16 (by decide) ?_
  refine k_newa C h 6 rfl (fun _ z => by cases z) (ty := .long) rfl (by decide +kernel) 1 (1, .inr (.inl (fun _ => 0))) (fun _ => rfl) (by decide) (by decide) (by decide) (by decide) (by decide) dL_law_17 (fun qL H h => ?_)
  refine lv_astore_n (lv' := [(3, .ref qL), (2, .ref q7), (1, .ref q6), (0, .ref b)]) hx hy dL_law_19 rfl hl (by decide) rfl (fun ls hl => ?_)
  refine lv_iconst (v := 1) hx hy dL_law_20 (by decide) ?_
  refine k_newa C h 7 rfl (fun _ z => by cases z) (ty := .double) rfl (by decide +kernel) 1 (1, .inr (.inr (.inr (.inl (fun _ => 0))))) (fun _ => rfl) (by decide) (by decide) (by decide) (by decide) (by decide) dL_law_21 (fun qD H h => ?_)
  refine lv_astore (lv' := [(4, .ref qD), (3, .ref qL), (2, .ref q7), (1, .ref q6), (0, .ref b)]) hx hy dL_law_23 hl (by decide) rfl (fun ls hl => ?_)
  refine lv_iconst (v := nI 0) hx hy dL_law_25 (by decide) ?_
  refine lv_istore (lv' := [(5, .int (nI 0)), (4, .ref qD), (3, .ref qL), (2, .ref q7), (1, .ref q6), (0, .ref b)]) hx hy dL_law_26 hl (by decide) rfl (fun ls hl => ?_)
  have h : CL G (wsr (gV q6 q7 qL qD f6 f7, t) rsW (mI, R7, oz)) s (fun q => s.heap.size ≤ q) H locs := CL.ce h ce_law
  have hV : ∀ r ∈ rsW, s.heap.size ≤ gV q6 q7 qL qD f6 f7 r := fun r hr => by
    obtain ⟨k, -, hk⟩ := wsr_at (V := (gV q6 q7 qL qD f6 f7, t)) (w := (mI, R7, oz)) hr
    exact h.2.1.2 k _ hk
  have hH : HH G (gV q6 q7 qL qD f6 f7, t) rsW (mI, R7, oz) s H locs := ⟨h.1, va_D_adr h.2.1, h.2.2.1.1, fun q h1 h2 => h.2.2.1.2.1 q h1 (fun z => h2 (Or.inr z)), fun q hq => Or.inr (h.2.2.1.2.2 q hq)⟩
  have hLQ : LQ G (gV q6 q7 qL qD f6 f7, t) rsW p s m b L xs meth c := ⟨C, X.xx hV, N, hX, hb, fun z => by
    rcases z with ⟨r, hr, e⟩ | z
    · have := hV r hr
      rw [e] at hb
      exact absurd hb (Nat.not_lt.mpr this)
    · exact absurd hb (Nat.not_lt.mpr z), hL, bA_W, bR_W, by decide +kernel, by decide +kernel, rsW_lt⟩
  refine W.widen (k := 121 + 8 * 0) (n := 2265 + 48 * 0) (by decide) (by decide) ?_
  refine law_loop hl9 hLQ 121 2265 (by decide) (by decide) (fun M R o H locs n ls hn h => hend H locs ls _ _ (by omega) (by omega) (fun q hq => ?_)) 513 0 rfl (Nat.zero_le _) mI R7 oz H locs re_init inv_init hH ls ?_
  · rcases h.2.2.2.2 q hq with ⟨r, hr, e⟩ | z
    · rw [e]; exact hV r hr
    · exact z
  · exact lv_sub hl [5, 4, 3, 2, 1, 0] rfl
