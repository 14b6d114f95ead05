/-! the law's cases 34 to 38: time, checksum, upShare, meanEntries, isSound -/
theorem dc32_tb : ∀ p : Fin 8, ∀ t : Fin 8, 1 ≤ t.val → Op.cmpValue (FP.dcmp (FP.f2d (FP.fdiv (FP.i2f (nI p.val)) (FP.i2f (nI t.val)))) (FP.f2d (FP.fdiv (FP.i2f (nI p.val)) (FP.i2f (nI t.val))))) .l = 0 := by decide +kernel
theorem dc64_tb : ∀ p : Fin 421, ∀ t : Fin 8, 1 ≤ t.val → Op.cmpValue (FP.dcmp (FP.ddiv (FP.i2d (nI p.val)) (FP.i2d (nI t.val))) (FP.ddiv (FP.i2d (nI p.val)) (FP.i2d (nI t.val)))) .l = 0 := by decide +kernel
theorem Re.d32 {M R : wM} {n c : Nat} (h : Re M R n) (hc : c < 2) : Op.cmpValue (FP.dcmp (FP.f2d (FP.fdiv (FP.i2f (bcI (M (rCas c) 3))) (FP.i2f (nI (tcN M c))))) (FP.f2d (FP.fdiv (FP.i2f (bcI (M (rCas c) 3))) (FP.i2f (nI (tcN M c)))))) .l = 0 := by
  have h7 := pcB_le (hasB (M (rCas c) 3)) 7
  have t1 := (h.c hc).2.1
  have t7 := h.tc7 hc
  rw [(h.up hc).bc]
  exact dc32_tb ⟨pcB (hasB (M (rCas c) 3)) 7, by omega⟩ ⟨tcN M c, by omega⟩ t1
theorem Re.d64 {M R : wM} {n c : Nat} (h : Re M R n) (hc : c < 2) : Op.cmpValue (FP.dcmp (FP.ddiv (FP.i2d (hcN M c (szN M c))) (FP.i2d (nI (tcN M c)))) (FP.ddiv (FP.i2d (hcN M c (szN M c))) (FP.i2d (nI (tcN M c))))) .l = 0 := by
  have t1 := (h.c hc).2.1
  have t7 := h.tc7 hc
  have s60 := h.sz60 hc
  obtain ⟨s, s1, s2, -⟩ := h.hc9 hc (szN M c) (Nat.le_refl _)
  rw [s2]
  exact dc64_tb ⟨s, by omega⟩ ⟨tcN M c, by omega⟩ t1
section LawCases
variable {G : va_G} {V : wV} {rs : List Nat} {p : Program} {l : Launch} {e : Env} {s : State} {m : MethodId} {b L : Nat} {xs : Nat → Int32} {below : List Frame} {meth : Method} {c : Code} {Q : State → Prop} {M R : wM} {o : wO} {i n : Nat} {H : Heap} {locs : List Loc} {cells slots : Nat} {ls : Array Slot}
set_option maxRecDepth 100000 in
set_option maxHeartbeats 4000000 in
theorem law_c34 (hl9 : l.stackTraces = false) (X : LQ G V rs p s m b L xs meth c) (hi : i + 6 ≤ L) (hr : Re M R n) (hI : Inv M) (hn : n < 512) (h : HH G V rs (M, R, o) s H locs) (hc : cells + 8 ≤ room_1.cells) (hs : slots + 48 ≤ room_1.slots) (hl : lv_has ls 9 (L0 V b i))
    (kk : ∀ (M' R' : wM) (o' : wO) (H : Heap) (locs : List Loc), Re M' R' (n + 1) → Inv M' → HH G V rs (M', R', o') s H locs → ∀ ls : Array Slot, lv_has ls 9 (L0 V b i) → W p l e room_1 s m #[Value.ref b] below meth c H locs (cells + 8) (slots + 48) Q (F0 m 2922 ls [])) : W p l e room_1 s m #[Value.ref b] below meth c H locs cells slots Q (F0 m 2727 ls []) := by
  obtain ⟨C, hXX, hN, -, -, -, -, ha, hb, hOL, -, -⟩ := id X
  have hx := C.1
  have hy := C.2.1
  refine lv_aload_n hx hy dL_law_2727 rfl (lv_at hl 1 rfl) ?_
  refine n_go0 C h (n_V (As := []) (rest := []) C h hXX (ha.2 60 (by decide) (by decide)) (lo_Main.trans (celF_Main _)) rfl (c_X6_time l ha M R o hr.1) (cwV 0 C.2.2.2.2.1 gL_law_X6_time rfl rfl rfl (by decide +kernel) ⟨Nat.le_of_ble_eq_true rfl, Nat.le_of_ble_eq_true rfl⟩) rfl hl.1 rfl (Nat.le_of_ble_eq_true rfl) dL_law_2728 ⟨Nat.le_trans (by omega) hc, Nat.le_trans (by omega) hs⟩) (fun _ _ z => z) (fun v u H locs hpo h => ?_)
  obtain ⟨rfl, rfl⟩ := hpo
  refine lv_aload_n hx hy dL_law_2731 rfl (lv_at hl 2 rfl) ?_
  refine n_go0 C h (n_V (As := []) (rest := [.int (nowM M)]) C h hXX (hb 100 (by decide)) ((cel_hi (by decide)).trans (celF_Mod _)) rfl (c_X7_time l hb M R o) (cwV 0 C.2.2.2.2.1 gL_law_X7_time rfl rfl rfl (by decide +kernel) ⟨Nat.le_of_ble_eq_true rfl, Nat.le_of_ble_eq_true rfl⟩) rfl hl.1 rfl (Nat.le_of_ble_eq_true rfl) dL_law_2732 ⟨Nat.le_trans (by omega) hc, Nat.le_trans (by omega) hs⟩) (fun _ _ z => z) (fun v u H locs hpo h => ?_)
  obtain ⟨rfl, rfl⟩ := hpo
  refine lv_icmp_eq (tgt := 2922) hx hy dL_law_2735 (by decide) (fun _ => ?_) (fun z => absurd hr.now z)
  exact W.widen (k := cells + 8) (n := slots + 48) (by omega) (by omega) (kk M R o H locs (hr.mono (by omega)) hI h ls hl)
set_option maxRecDepth 100000 in
set_option maxHeartbeats 4000000 in
theorem law_c35 (hl9 : l.stackTraces = false) (X : LQ G V rs p s m b L xs meth c) (hi : i + 6 ≤ L) (hr : Re M R n) (hI : Inv M) (hn : n < 512) (h : HH G V rs (M, R, o) s H locs) (hc : cells + 8 ≤ room_1.cells) (hs : slots + 48 ≤ room_1.slots) (hl : lv_has ls 9 (L0 V b i))
    (kk : ∀ (M' R' : wM) (o' : wO) (H : Heap) (locs : List Loc), Re M' R' (n + 1) → Inv M' → HH G V rs (M', R', o') s H locs → ∀ ls : Array Slot, lv_has ls 9 (L0 V b i) → W p l e room_1 s m #[Value.ref b] below meth c H locs (cells + 8) (slots + 48) Q (F0 m 2922 ls [])) : W p l e room_1 s m #[Value.ref b] below meth c H locs cells slots Q (F0 m 2740 ls []) := by
  obtain ⟨C, hXX, hN, -, -, -, -, ha, hb, hOL, -, -⟩ := id X
  have hx := C.1
  have hy := C.2.1
  obtain ⟨e1, e2⟩ := op_checksum hr
  have hI2 : Inv (chkM M) := by
    have ra : Re (chkA M) R n := hr.onT (by decide)
    exact (hI.tel hr (c := 0) (s := szN M 0) (by decide)).tel ra (c := 1) (s := szN M 1) (by decide)
  refine lv_aload_n hx hy dL_law_2740 rfl (lv_at hl 1 rfl) ?_
  refine n_go0 C h (n_V (As := []) (rest := []) C h hXX (ha.2 60 (by decide) (by decide)) (lo_Main.trans (celF_Main _)) rfl (c_X6_checksum l ha M R o hr.1) (cwV 0 C.2.2.2.2.1 gL_law_X6_checksum rfl rfl rfl (by decide +kernel) ⟨Nat.le_of_ble_eq_true rfl, Nat.le_of_ble_eq_true rfl⟩) rfl hl.1 rfl (Nat.le_of_ble_eq_true rfl) dL_law_2741 ⟨Nat.le_trans (by omega) hc, Nat.le_trans (by omega) hs⟩) (fun _ _ z => z) (fun v u H locs hpo h => ?_)
  obtain ⟨rfl, rfl⟩ := hpo
  refine lv_aload_n hx hy dL_law_2744 rfl (lv_at hl 2 rfl) ?_
  refine n_go0 C h (n_V (As := []) (rest := [.long (chk M)]) C h hXX (hb 100 (by decide)) ((cel_hi (by decide)).trans (celF_Mod _)) rfl (c_X7_checksum l hb (chkM M) R o hr.2.1) (cwV 0 C.2.2.2.2.1 gL_law_X7_checksum rfl rfl rfl (by decide +kernel) ⟨Nat.le_of_ble_eq_true rfl, Nat.le_of_ble_eq_true rfl⟩) rfl hl.1 rfl (Nat.le_of_ble_eq_true rfl) dL_law_2745 ⟨Nat.le_trans (by omega) hc, Nat.le_trans (by omega) hs⟩) (fun _ _ z => z) (fun v u H locs hpo h => ?_)
  obtain ⟨rfl, rfl⟩ := hpo
  refine W.lcmp hx hy dL_law_2748 ?_
  rw [e1, lg_same]
  refine lv_if_eq (tgt := 2922) hx hy dL_law_2749 (by decide) (fun _ => ?_) (fun z => absurd rfl z)
  exact W.widen (k := cells + 8) (n := slots + 48) (by omega) (by omega) (kk _ _ o H locs (e2.mono (by omega)) hI2 h ls hl)
set_option maxRecDepth 100000 in
set_option maxHeartbeats 4000000 in
theorem law_c38 (hl9 : l.stackTraces = false) (X : LQ G V rs p s m b L xs meth c) (hi : i + 6 ≤ L) (hr : Re M R n) (hI : Inv M) (hn : n < 512) (h : HH G V rs (M, R, o) s H locs) (hc : cells + 8 ≤ room_1.cells) (hs : slots + 48 ≤ room_1.slots) (hl : lv_has ls 9 (L0 V b i))
    (kk : ∀ (M' R' : wM) (o' : wO) (H : Heap) (locs : List Loc), Re M' R' (n + 1) → Inv M' → HH G V rs (M', R', o') s H locs → ∀ ls : Array Slot, lv_has ls 9 (L0 V b i) → W p l e room_1 s m #[Value.ref b] below meth c H locs (cells + 8) (slots + 48) Q (F0 m 2922 ls [])) : W p l e room_1 s m #[Value.ref b] below meth c H locs cells slots Q (F0 m 2909 ls []) := by
  obtain ⟨C, hXX, hN, -, -, -, -, ha, hb, hOL, -, -⟩ := id X
  have hx := C.1
  have hy := C.2.1
  obtain ⟨e1, e2, e3⟩ := op_sound hr hI
  refine lv_aload_n hx hy dL_law_2909 rfl (lv_at hl 1 rfl) ?_
  refine n_go0 C h (n_V (As := []) (rest := []) C h hXX (ha.2 60 (by decide) (by decide)) (lo_Main.trans (celF_Main _)) rfl (c_X6_isSound l ha M R o hr.1) (cwV 0 C.2.2.2.2.1 gL_law_X6_isSound rfl rfl rfl (by decide +kernel) ⟨Nat.le_of_ble_eq_true rfl, Nat.le_of_ble_eq_true rfl⟩) rfl hl.1 rfl (Nat.le_of_ble_eq_true rfl) dL_law_2910 ⟨Nat.le_trans (by omega) hc, Nat.le_trans (by omega) hs⟩) (fun _ _ z => z) (fun v u H locs hpo h => ?_)
  obtain ⟨rfl, rfl⟩ := hpo
  refine lv_aload_n hx hy dL_law_2913 rfl (lv_at hl 2 rfl) ?_
  refine n_go0 C h (n_V (As := []) (rest := [.int (b2i (snd M))]) C h hXX (hb 100 (by decide)) ((cel_hi (by decide)).trans (celF_Mod _)) rfl (c_X7_isSound l hb (sndM M) R o) (cwV 0 C.2.2.2.2.1 gL_law_X7_isSound rfl rfl rfl (by decide +kernel) ⟨Nat.le_of_ble_eq_true rfl, Nat.le_of_ble_eq_true rfl⟩) rfl hl.1 rfl (Nat.le_of_ble_eq_true rfl) dL_law_2914 ⟨Nat.le_trans (by omega) hc, Nat.le_trans (by omega) hs⟩) (fun _ _ z => z) (fun v u H locs hpo h => ?_)
  obtain ⟨rfl, rfl⟩ := hpo
  refine lv_icmp_eq (tgt := 2922) hx hy dL_law_2917 (by decide) (fun _ => ?_) (fun z => absurd (by rw [e1]; rfl) z)
  exact W.widen (k := cells + 8) (n := slots + 48) (by omega) (by omega) (kk _ _ o H locs (e2.mono (by omega)) e3 h ls hl)
set_option maxRecDepth 100000 in
set_option maxHeartbeats 4000000 in
theorem law_c36 (hl9 : l.stackTraces = false) (X : LQ G V rs p s m b L xs meth c) (hi : i + 6 ≤ L) (hr : Re M R n) (hI : Inv M) (hn : n < 512) (h : HH G V rs (M, R, o) s H locs) (hc : cells + 8 ≤ room_1.cells) (hs : slots + 48 ≤ room_1.slots) (hl : lv_has ls 9 (L0 V b i))
    (kk : ∀ (M' R' : wM) (o' : wO) (H : Heap) (locs : List Loc), Re M' R' (n + 1) → Inv M' → HH G V rs (M', R', o') s H locs → ∀ ls : Array Slot, lv_has ls 9 (L0 V b i) → W p l e room_1 s m #[Value.ref b] below meth c H locs (cells + 8) (slots + 48) Q (F0 m 2922 ls [])) : W p l e room_1 s m #[Value.ref b] below meth c H locs cells slots Q (F0 m 2754 ls []) := by
  obtain ⟨C, hXX, hN, -, -, -, -, ha, hb, hOL, hOD, h142⟩ := id X
  have hx := C.1
  have hy := C.2.1
  have hok : kC (xs (i + 1)) = 0 → cI (xs (i + 1)) < 2 := fun hk => vIn_cI (ifk0 (by decide) hk).1 (by decide)
  refine lv_aload_n hx hy dL_law_2754 rfl (lv_at hl 1 rfl) ?_
  refine l_arg X h 1 hi (by decide) (lv_at hl 0 rfl) (lv_at hl 5 rfl) (by decide) dL_law_2755 dL_law_2756 dL_law_2758 dL_law_2759 dL_law_2760 ?_
  refine lv_aload hx hy dL_law_2761 (lv_at hl 4 rfl) ?_
  refine n_go0 C h (vx_runSX (As := [.ref (V.1 rMain), .int (xs (i + 1)), .ref (V.1 rOD)]) (rest := []) ⟨hx, hy, C.2.2.1, C.2.2.2.1, C.2.2.2.2.1⟩ (c_L_upShare l hl9 ha M R o hOD h142 hr.1 (xs (i + 1)) (fun c hc => (hr.n32 hc).1) (fun hk => (hr.n32 (hok hk)).2) H.size) (vx_cwSW 3 C.2.2.2.2.1 gL_law_L_upShare rfl rfl rfl (by decide +kernel) ⟨Nat.le_of_ble_eq_true rfl, Nat.le_of_ble_eq_true rfl⟩) ⟨BW_blind, fun U hU hW => ⟨rfl, B0_of C.2.2.2.2.2.1 h hXX hU hW, hN.to hW⟩⟩ rfl rfl hl.1 rfl (lv_room (Nat.le_of_ble_eq_true rfl)) dL_law_2763 ⟨Nat.le_trans (by omega) hc, Nat.le_trans (by omega) hs⟩) (fun _ _ z => z) (fun v u H locs hpo h => ?_)
  obtain ⟨rfl, rfl⟩ := hpo
  rw [ifT, ite_self] at h
  generalize ho9 : (if kC (xs (i + 1)) = 0 then (o.1, vf_upd o.2 0 (FP.f2d (FP.fdiv (FP.i2f (bcI (M (rCas (cI (xs (i + 1)))) 3))) (FP.i2f (nI (tcN M (cI (xs (i + 1))))))))) else o : wO) = o9 at h
  refine lv_istore (lv' := (6, .int (nI (kC (xs (i + 1))))) :: L0 V b i) hx hy dL_law_2766 hl (by decide) rfl (fun ls hl => ?_)
  refine lv_aload_n hx hy dL_law_2768 rfl (lv_at hl 3 rfl) ?_
  refine l_arg X h 1 hi (by decide) (lv_at hl 1 rfl) (lv_at hl 6 rfl) (by decide) dL_law_2769 dL_law_2770 dL_law_2772 dL_law_2773 dL_law_2774 ?_
  refine n_go0 C h (n_V (As := [.int (xs (i + 1))]) (rest := []) C h hXX (hb 100 (by decide)) ((cel_hi (by decide)).trans (celF_Mod _)) rfl (c_X7_upShare l hb _ R _ hr.2.1 (xs (i + 1)) (fun c hc => by rw [(hr.upE hc).1, (hr.upE hc).2]; exact (hr.n32 hc).1)) (cwV 1 C.2.2.2.2.1 gL_law_X7_upShare rfl rfl rfl (by decide +kernel) ⟨Nat.le_of_ble_eq_true rfl, Nat.le_of_ble_eq_true rfl⟩) rfl hl.1 rfl (Nat.le_of_ble_eq_true rfl) dL_law_2775 ⟨Nat.le_trans (by omega) hc, Nat.le_trans (by omega) hs⟩) (fun _ _ z => z) (fun v u H locs hpo h => ?_)
  obtain ⟨r, rfl, hval, rfl⟩ := hpo
  refine lv_fstore (lv' := (7, .float r) :: (6, .int (nI (kC (xs (i + 1))))) :: L0 V b i) hx hy dL_law_2778 hl (by decide) rfl (fun ls hl => ?_)
  have hR1 : Re M (thr R (kCR (xs (i + 1)))) (n + 1) := hr.onK.mono (by omega)
  refine l_thr X h (K := kC (xs (i + 1))) thr19 hl.1 (lv_at hl 4 rfl) (lv_at hl 1 rfl) (Nat.le_trans (by omega) hc) (Nat.le_trans (by omega) hs) dL_law_2780 dL_law_2781 dL_law_2784 dL_law_2786 (fun H locs h => ?_)
  have hend : ∀ (H : Heap) (locs : List Loc), HH G V rs (M, thr R (kCR (xs (i + 1))), o9) s H locs → W p l e room_1 s m #[Value.ref b] below meth c H locs (cells + 1 + 0) (slots + 6 + 0) Q (F0 m 2829 ls []) := fun H locs h => by
    refine lv_goto (tgt := 2922) hx hy dL_law_2829 (by decide) ?_
    exact W.widen (k := cells + 8) (n := slots + 48) (by omega) (by omega) (kk _ _ _ H locs hR1 hI h ls (lv_sub hl [2, 3, 4, 5, 6, 7] rfl))
  refine lv_iload hx hy dL_law_2791 (lv_at hl 1 rfl) ?_
  refine lv_if_ne (tgt := 2829) hx hy dL_law_2793 (by decide) (fun _ => hend H locs h) (fun z => ?_)
  have hK0 : kC (xs (i + 1)) = 0 := (nI_eq (by unfold kC; split <;> decide) (by decide)).mp (z.trans (show (0 : Int32) = nI 0 from rfl))
  have hc2 := hok hK0
  have hv := (op_upShare hr (xs (i + 1))).2 hK0
  refine lv_aload hx hy dL_law_2796 (lv_at hl 6 rfl) ?_
  refine lv_iconst (v := nI 0) hx hy dL_law_2798 (by decide) ?_
  refine r_dald0 C h hOD dL_law_2799 ?_
  refine lv_fload hx hy dL_law_2800 (lv_at hl 0 rfl) ?_
  rw [hval hK0, ← hv]
  refine lv_f2d hx hy dL_law_2802 (hr.n32 hc2).2 ?_
  refine lv_dcmp hx hy dL_law_2803 ?_
  rw [show o9.2 0 = FP.f2d (FP.fdiv (FP.i2f (bcI (M (rCas (cI (xs (i + 1)))) 3))) (FP.i2f (nI (tcN M (cI (xs (i + 1))))))) from by rw [← ho9, if_pos hK0]; simp [vf_upd], hr.d32 hc2]
  exact lv_if_eq (tgt := 2829) hx hy dL_law_2804 (by decide) (fun _ => hend H locs h) (fun z => absurd rfl z)
set_option maxRecDepth 100000 in
set_option maxHeartbeats 4000000 in
theorem law_c37 (hl9 : l.stackTraces = false) (X : LQ G V rs p s m b L xs meth c) (hi : i + 6 ≤ L) (hr : Re M R n) (hI : Inv M) (hn : n < 512) (h : HH G V rs (M, R, o) s H locs) (hc : cells + 8 ≤ room_1.cells) (hs : slots + 48 ≤ room_1.slots) (hl : lv_has ls 9 (L0 V b i))
    (kk : ∀ (M' R' : wM) (o' : wO) (H : Heap) (locs : List Loc), Re M' R' (n + 1) → Inv M' → HH G V rs (M', R', o') s H locs → ∀ ls : Array Slot, lv_has ls 9 (L0 V b i) → W p l e room_1 s m #[Value.ref b] below meth c H locs (cells + 8) (slots + 48) Q (F0 m 2922 ls [])) : W p l e room_1 s m #[Value.ref b] below meth c H locs cells slots Q (F0 m 2832 ls []) := by
  obtain ⟨C, hXX, hN, -, -, -, -, ha, hb, hOL, hOD, h142⟩ := id X
  have hx := C.1
  have hy := C.2.1
  have hok : kC (xs (i + 1)) = 0 → cI (xs (i + 1)) < 2 := fun hk => vIn_cI (ifk0 (by decide) hk).1 (by decide)
  refine lv_aload_n hx hy dL_law_2832 rfl (lv_at hl 1 rfl) ?_
  refine l_arg X h 1 hi (by decide) (lv_at hl 0 rfl) (lv_at hl 5 rfl) (by decide) dL_law_2833 dL_law_2834 dL_law_2836 dL_law_2837 dL_law_2838 ?_
  refine lv_aload hx hy dL_law_2839 (lv_at hl 4 rfl) ?_
  refine n_go0 C h (vx_runSX (As := [.ref (V.1 rMain), .int (xs (i + 1)), .ref (V.1 rOD)]) (rest := []) ⟨hx, hy, C.2.2.1, C.2.2.2.1, C.2.2.2.2.1⟩ (c_L_meanEntries l hl9 ha M R o hOD h142 hr.1 (xs (i + 1)) (fun c hc => hr.n64 hc) H.size) (vx_cwSW 3 C.2.2.2.2.1 gL_law_L_meanEntries rfl rfl rfl (by decide +kernel) ⟨Nat.le_of_ble_eq_true rfl, Nat.le_of_ble_eq_true rfl⟩) ⟨BW_blind, fun U hU hW => ⟨rfl, B0_of C.2.2.2.2.2.1 h hXX hU hW, hN.to hW⟩⟩ rfl rfl hl.1 rfl (lv_room (Nat.le_of_ble_eq_true rfl)) dL_law_2841 ⟨Nat.le_trans (by omega) hc, Nat.le_trans (by omega) hs⟩) (fun _ _ z => z) (fun v u H locs hpo h => ?_)
  obtain ⟨rfl, rfl⟩ := hpo
  rw [ifT, ite_self] at h
  generalize ho9 : (if kC (xs (i + 1)) = 0 then (o.1, vf_upd o.2 0 (FP.ddiv (FP.i2d (hcN M (cI (xs (i + 1))) (szN M (cI (xs (i + 1)))))) (FP.i2d (nI (tcN M (cI (xs (i + 1)))))))) else o : wO) = o9 at h
  refine lv_istore (lv' := (6, .int (nI (kC (xs (i + 1))))) :: L0 V b i) hx hy dL_law_2844 hl (by decide) rfl (fun ls hl => ?_)
  refine lv_aload_n hx hy dL_law_2846 rfl (lv_at hl 3 rfl) ?_
  refine l_arg X h 1 hi (by decide) (lv_at hl 1 rfl) (lv_at hl 6 rfl) (by decide) dL_law_2847 dL_law_2848 dL_law_2850 dL_law_2851 dL_law_2852 ?_
  refine n_go0 C h (n_V (As := [.int (xs (i + 1))]) (rest := []) C h hXX (hb 100 (by decide)) ((cel_hi (by decide)).trans (celF_Mod _)) rfl (c_X7_meanEntries l hb _ R _ hr.2.1 (xs (i + 1)) (fun c hc => by rw [hr.meE hc, hr.mn hc]; exact hr.n64 hc)) (cwV 1 C.2.2.2.2.1 gL_law_X7_meanEntries rfl rfl rfl (by decide +kernel) ⟨Nat.le_of_ble_eq_true rfl, Nat.le_of_ble_eq_true rfl⟩) rfl hl.1 rfl (Nat.le_of_ble_eq_true rfl) dL_law_2853 ⟨Nat.le_trans (by omega) hc, Nat.le_trans (by omega) hs⟩) (fun _ _ z => z) (fun v u H locs hpo h => ?_)
  obtain ⟨r, rfl, hval, rfl⟩ := hpo
  refine lv_dstore (lv' := (7, .double r) :: (6, .int (nI (kC (xs (i + 1))))) :: L0 V b i) hx hy dL_law_2856 hl (by decide) rfl (fun ls hl => ?_)
  have hR1 : Re M (thr R (kCR (xs (i + 1)))) (n + 1) := hr.onK.mono (by omega)
  refine l_thr X h (K := kC (xs (i + 1))) thr19 hl.1 (lv_at hl 4 rfl) (lv_at hl 1 rfl) (Nat.le_trans (by omega) hc) (Nat.le_trans (by omega) hs) dL_law_2858 dL_law_2859 dL_law_2862 dL_law_2864 (fun H locs h => ?_)
  have hend : ∀ (H : Heap) (locs : List Loc), HH G V rs (M, thr R (kCR (xs (i + 1))), o9) s H locs → W p l e room_1 s m #[Value.ref b] below meth c H locs (cells + 1 + 0) (slots + 6 + 0) Q (F0 m 2906 ls []) := fun H locs h => by
    refine lv_goto (tgt := 2922) hx hy dL_law_2906 (by decide) ?_
    exact W.widen (k := cells + 8) (n := slots + 48) (by omega) (by omega) (kk _ _ _ H locs hR1 hI h ls (lv_sub hl [2, 3, 4, 5, 6, 7] rfl))
  refine lv_iload hx hy dL_law_2869 (lv_at hl 1 rfl) ?_
  refine lv_if_ne (tgt := 2906) hx hy dL_law_2871 (by decide) (fun _ => hend H locs h) (fun z => ?_)
  have hK0 : kC (xs (i + 1)) = 0 := (nI_eq (by unfold kC; split <;> decide) (by decide)).mp (z.trans (show (0 : Int32) = nI 0 from rfl))
  have hc2 := hok hK0
  have hv := (op_mean hr (xs (i + 1))).2 hK0
  refine lv_aload hx hy dL_law_2874 (lv_at hl 6 rfl) ?_
  refine lv_iconst (v := nI 0) hx hy dL_law_2876 (by decide) ?_
  refine r_dald0 C h hOD dL_law_2877 ?_
  refine lv_dload hx hy dL_law_2878 (lv_at hl 0 rfl) ?_
  rw [hval hK0, ← hv]
  refine lv_dcmp hx hy dL_law_2880 ?_
  rw [show o9.2 0 = FP.ddiv (FP.i2d (hcN M (cI (xs (i + 1))) (szN M (cI (xs (i + 1)))))) (FP.i2d (nI (tcN M (cI (xs (i + 1)))))) from by rw [← ho9, if_pos hK0]; simp [vf_upd], hr.d64 hc2]
  exact lv_if_eq (tgt := 2906) hx hy dL_law_2881 (by decide) (fun _ => hend H locs h) (fun z => absurd rfl z)
end LawCases
