/-! THE LAW: what holds while it runs; an argument out of the script; the end of a case -/
def LQ (G : va_G) (V : wV) (rs : List Nat) (p : Program) (s : State) (m : MethodId) (b L : Nat) (xs : Nat → Int32) (meth : Method) (c : Code) : Prop :=
  Cx G V p s m #[Value.ref b] meth c cL_law 9 RL wsL_law (some .boolean) ∧ XX V rs s ∧ NC s ∧ va_X b L xs s s.heap ∧ b < s.heap.size ∧ ¬ adr V rs s.heap.size b ∧ L ≤ 3072 ∧ bA rs ∧ bR rs ∧ 140 ∈ rs ∧ 141 ∈ rs ∧ ∀ r, r ∈ rs → r < 142
abbrev L0 (V : wV) (b i : Nat) : List (Nat × Value) := [(0, .ref b), (1, .ref (V.1 rMain)), (2, .ref (V.1 rMod)), (3, .ref (V.1 rOL)), (4, .ref (V.1 rOD)), (5, .int (nI i))]
theorem lg_same (x : Int64) : lg_cmp x x = 0 := by
  unfold lg_cmp
  rw [if_neg (Int64.lt_irrefl), if_pos rfl]
section LawKit
variable {G : va_G} {V : wV} {rs : List Nat} {p : Program} {l : Launch} {e : Env} {s : State} {m : MethodId} {b L : Nat} {xs : Nat → Int32} {below : List Frame} {meth : Method} {c : Code} {w : wW} {H : Heap} {locs : List Loc} {cells slots pc : Nat} {Q : State → Prop} {ls : Array Slot} {rest : List Value}
theorem l_arg (X : LQ G V rs p s m b L xs meth c) (h : HH G V rs w s H locs) {i : Nat} (k : Nat) (hi : i + 6 ≤ L) (hk : k < 6) (h0 : ls[0]? = some (.val (.ref b))) (h5 : ls[5]? = some (.val (.int (nI i)))) {kk : Int} (hkk : Int32.ofInt kk = nI k)
    (d0 : decode cL_law pc = .ok (.aload_n 0, 1)) (d1 : decode cL_law (pc + 1) = .ok (.iload 5, 2)) (d3 : decode cL_law (pc + 3) = .ok (.iconst kk, 1)) (d4 : decode cL_law (pc + 4) = .ok (.iadd, 1)) (d5 : decode cL_law (pc + 5) = .ok (.iaload, 1))
    (kt : W p l e room_1 s m #[Value.ref b] below meth c H locs cells slots Q (F0 m (pc + 6) ls (.int (xs (i + k)) :: rest))) : W p l e room_1 s m #[Value.ref b] below meth c H locs cells slots Q (F0 m pc ls rest) := by
  obtain ⟨C, -, -, hX, hb, hA, hL, -⟩ := X
  have hx := C.1
  have hy := C.2.1
  refine lv_aload_n hx hy d0 rfl h0 ?_
  refine lv_iload hx hy d1 h5 ?_
  refine lv_iconst (v := nI k) hx hy d3 hkk ?_
  refine lv_iadd hx hy d4 ?_
  have e : nI i + nI k = nI (i + k) := nI_addn i k
  rw [e]
  have hc : (nI (i + k)).toNatClampNeg = i + k := nI_clamp (by omega)
  have hin : vp_in (nI (i + k)) L := by
    intro z
    rcases z with z | z
    · exact absurd z (Int32.not_lt.mpr (nI_pos' (by omega)))
    · rw [hc] at z; omega
  refine va_sld hx hy hX hb hA h.2.2 hin d5 ?_
  rw [hc]
  exact kt
theorem l_argB (X : LQ G V rs p s m b L xs meth c) (h : HH G V rs w s H locs) {i : Nat} (k : Nat) (hi : i + 6 ≤ L) (hk : k < 6) (h0 : ls[0]? = some (.val (.ref b))) (h5 : ls[5]? = some (.val (.int (nI i)))) {kk : Int} (hkk : Int32.ofInt kk = nI k)
    (d0 : decode cL_law pc = .ok (.aload_n 0, 1)) (d1 : decode cL_law (pc + 1) = .ok (.iload 5, 2)) (d3 : decode cL_law (pc + 3) = .ok (.iconst kk, 1)) (d4 : decode cL_law (pc + 4) = .ok (.iadd, 1)) (d5 : decode cL_law (pc + 5) = .ok (.iaload, 1))
    (d6 : decode cL_law (pc + 6) = .ok (.ifCond .eq 7, 3)) (d9 : decode cL_law (pc + 9) = .ok (.iconst 1, 1)) (d10 : decode cL_law (pc + 10) = .ok (.goto 4, 3)) (d13 : decode cL_law (pc + 13) = .ok (.iconst 0, 1))
    (kt : W p l e room_1 s m #[Value.ref b] below meth c H locs cells slots Q (F0 m (pc + 14) ls (.int (b2i (decide (¬ xs (i + k) = 0))) :: rest))) : W p l e room_1 s m #[Value.ref b] below meth c H locs cells slots Q (F0 m pc ls rest) := by
  refine l_arg X h k hi hk h0 h5 hkk d0 d1 d3 d4 d5 ?_
  have hx := X.1.1
  have hy := X.1.2.1
  refine lv_if_eq (tgt := pc + 13) hx hy d6 (by omega) (fun z => ?_) (fun z => ?_)
  · refine lv_iconst (v := nI 0) hx hy d13 (by decide) ?_
    have e : b2i (decide (¬ xs (i + k) = 0)) = nI 0 := by rw [decide_eq_false (fun n => n z)]; rfl
    rw [e] at kt
    exact kt
  · refine lv_iconst (v := nI 1) hx hy d9 (by decide) ?_
    refine lv_goto (tgt := pc + 14) hx hy d10 (by omega) ?_
    have e : b2i (decide (¬ xs (i + k) = 0)) = nI 1 := by rw [decide_eq_true z]; rfl
    rw [e] at kt
    exact kt
theorem ifT {K : Nat} {M1 M2 R : wM} {o1 o : wO} : (if K = 0 then (M1, R, o1) else (M2, R, o) : wW) = ((if K = 0 then M1 else M2), R, (if K = 0 then o1 else o)) := by split <;> rfl
/-- a long of the law's own row is read -/
theorem r_lald0 {own : String} {Ts : List Cond} {ret : Option FieldType} {cc : ByteArray} {nL : Nat} {R0 : Room} {args : Array Value} {M R : wM} {o : wO} (C : Cx G V p s m args meth c cc nL own Ts ret) (h : HH G V rs (M, R, o) s H locs) (hr : 140 ∈ rs) (hdg : decode cc pc = .ok (.laload, 1))
    (kk : W p l e R0 s m args below meth c H locs cells slots Q (F0 m (pc + 1) ls (.long (o.1 0) :: rest))) : W p l e R0 s m args below meth c H locs cells slots Q (F0 m pc ls (.int (nI 0) :: .ref (V.1 rOL) :: rest)) := by
  obtain ⟨hx, hb, hml, hown, hts, hK, hr1, hlo⟩ := C
  obtain ⟨k0, hk1, hk0⟩ := wsr_at (V := V) (w := (M, R, o)) hr
  refine va_lald (n := 1) (f := o.1) hx hb hK h.1 k0 6 (hk0.trans rfl) rfl vin0 hdg ?_
  exact kk
theorem r_dald0 {own : String} {Ts : List Cond} {ret : Option FieldType} {cc : ByteArray} {nL : Nat} {R0 : Room} {args : Array Value} {M R : wM} {o : wO} (C : Cx G V p s m args meth c cc nL own Ts ret) (h : HH G V rs (M, R, o) s H locs) (hr : 141 ∈ rs) (hdg : decode cc pc = .ok (.daload, 1))
    (kk : W p l e R0 s m args below meth c H locs cells slots Q (F0 m (pc + 1) ls (.double (o.2 0) :: rest))) : W p l e R0 s m args below meth c H locs cells slots Q (F0 m pc ls (.int (nI 0) :: .ref (V.1 rOD) :: rest)) := by
  obtain ⟨hx, hb, hml, hown, hts, hK, hr1, hlo⟩ := C
  obtain ⟨k0, hk1, hk0⟩ := wsr_at (V := V) (w := (M, R, o)) hr
  refine va_dald (n := 1) (f := o.2) hx hb hK h.1 k0 7 (hk0.trans rfl) rfl vin0 hdg ?_
  exact kk
/-- what the reference threw is what was caught -/
theorem l_thr (X : LQ G V rs p s m b L xs meth c) {M R : wM} {o : wO} {K : Nat} (h : HH G V rs (M, R, o) s H locs) (hth : R rMod 19 = nI K) (hls : ls.size = 9) (h2 : ls[2]? = some (.val (.ref (V.1 rMod)))) (h6 : ls[6]? = some (.val (.int (nI K)))) (hc : cells ≤ room_1.cells) (hs : slots ≤ room_1.slots)
    (d0 : decode cL_law pc = .ok (.aload_n 2, 1)) (d1 : decode cL_law (pc + 1) = .ok (.invokevirtual 149, 3)) (d4 : decode cL_law (pc + 4) = .ok (.iload 6, 2)) (d6 : decode cL_law (pc + 6) = .ok (.if_icmp .eq 5, 3))
    (kk : ∀ (H : Heap) (locs : List Loc), HH G V rs (M, R, o) s H locs → W p l e room_1 s m #[Value.ref b] below meth c H locs cells slots Q (F0 m (pc + 11) ls [])) : W p l e room_1 s m #[Value.ref b] below meth c H locs cells slots Q (F0 m pc ls []) := by
  obtain ⟨C, hXX, hN, -, -, -, -, ha, hb, -⟩ := X
  have hx := C.1
  have hy := C.2.1
  refine lv_aload_n hx hy d0 rfl h2 ?_
  refine n_go0 C h (n_V (As := []) (rest := []) C h hXX (hb 100 (by decide)) ((cel_hi (by decide)).trans (celF_Mod _)) rfl (c_X7_thrown l hb M R o) (cwV 0 C.2.2.2.2.1 gL_law_X7_thrown rfl rfl rfl (by decide +kernel) ⟨Nat.le_of_ble_eq_true rfl, Nat.le_of_ble_eq_true rfl⟩) rfl hls rfl (Nat.le_of_ble_eq_true rfl) d1 ⟨hc, hs⟩) (fun _ _ z => z) (fun v u H locs hpo h => ?_)
  obtain ⟨rfl, rfl⟩ := hpo
  refine lv_iload hx hy d4 h6 ?_
  refine lv_icmp_eq (tgt := pc + 11) hx hy d6 (by omega) (fun _ => kk H locs h) (fun z => absurd hth z)
/-- the end of a case whose answer is an int -/
theorem l_tail (X : LQ G V rs p s m b L xs meth c) {n K KR : Nat} {VC VR r : Int32} {M1 M2 R' : wM} {o : wO} {i : Nat} (st : ST n K KR VC VR M1 M2 R') (hK5 : K < 5) (h : HH G V rs ((if K = 0 then M1 else M2), R', (if K = 0 then (vp_updL o.1 0 (VC.toInt64), o.2) else o)) s H locs) (hval : KR = 0 → r = VR)
    (hl : lv_has ls 9 ((7, .int r) :: (6, .int (nI K)) :: L0 V b i)) (hc : cells ≤ room_1.cells) (hs : slots ≤ room_1.slots) {off : Int} {tgt : Nat} (hoff : (pc + 28 : Int) + off = (tgt : Int))
    (d0 : decode cL_law pc = .ok (.aload_n 2, 1)) (d1 : decode cL_law (pc + 1) = .ok (.invokevirtual 149, 3)) (d4 : decode cL_law (pc + 4) = .ok (.iload 6, 2)) (d6 : decode cL_law (pc + 6) = .ok (.if_icmp .eq 5, 3))
    (d11 : decode cL_law (pc + 11) = .ok (.iload 6, 2)) (d13 : decode cL_law (pc + 13) = .ok (.ifCond .ne 15, 3)) (d16 : decode cL_law (pc + 16) = .ok (.aload_n 3, 1)) (d17 : decode cL_law (pc + 17) = .ok (.iconst 0, 1)) (d18 : decode cL_law (pc + 18) = .ok (.laload, 1)) (d19 : decode cL_law (pc + 19) = .ok (.iload 7, 2)) (d21 : decode cL_law (pc + 21) = .ok (.i2l, 1)) (d22 : decode cL_law (pc + 22) = .ok (.lcmp, 1)) (d23 : decode cL_law (pc + 23) = .ok (.ifCond .eq 5, 3)) (d28 : decode cL_law (pc + 28) = .ok (.goto off, 3))
    (kk : ∀ (M' R' : wM) (o' : wO) (H : Heap) (locs : List Loc), Re M' R' (n + 1) → Inv M' → HH G V rs (M', R', o') s H locs → ∀ ls : Array Slot, lv_has ls 9 (L0 V b i) → W p l e room_1 s m #[Value.ref b] below meth c H locs cells slots Q (F0 m tgt ls [])) : W p l e room_1 s m #[Value.ref b] below meth c H locs cells slots Q (F0 m pc ls []) := by
  obtain ⟨s1, s2, s3, s4, s5⟩ := st
  have hx := X.1.1
  have hy := X.1.2.1
  have hend : ∀ (H : Heap) (locs : List Loc), HH G V rs ((if K = 0 then M1 else M2), R', (if K = 0 then (vp_updL o.1 0 (VC.toInt64), o.2) else o)) s H locs → W p l e room_1 s m #[Value.ref b] below meth c H locs cells slots Q (F0 m (pc + 28) ls []) := fun H locs h => by
    refine lv_goto (tgt := tgt) hx hy d28 (by omega) ?_
    exact kk _ _ _ H locs s3 s4 h ls (lv_sub hl [2, 3, 4, 5, 6, 7] rfl)
  refine l_thr X h (by rw [s5, s1]) hl.1 (lv_at hl 4 rfl) (lv_at hl 1 rfl) hc hs d0 d1 d4 d6 (fun H locs h => ?_)
  refine lv_iload hx hy d11 (lv_at hl 1 rfl) ?_
  refine lv_if_ne (tgt := pc + 28) hx hy d13 (by omega) (fun _ => hend H locs h) (fun z => ?_)
  have hK0 : K = 0 := (nI_eq (by omega) (by omega)).mp (z.trans (show (0 : Int32) = nI 0 from rfl))
  refine lv_aload_n hx hy d16 rfl (lv_at hl 5 rfl) ?_
  refine lv_iconst (v := nI 0) hx hy d17 (by decide) ?_
  refine r_lald0 X.1 h X.2.2.2.2.2.2.2.2.2.1 d18 ?_
  refine lv_iload hx hy d19 (lv_at hl 0 rfl) ?_
  refine lv_i2l hx hy d21 rfl ?_
  refine W.lcmp hx hy d22 ?_
  have e : (if K = 0 then (vp_updL o.1 0 (VC.toInt64), o.2) else o).1 0 = r.toInt64 := by
    rw [if_pos hK0, hval (by rw [s1, hK0]), ← s2 hK0]
    simp [vp_updL]
  rw [e, lg_same]
  exact lv_if_eq (tgt := pc + 28) hx hy d23 (by omega) (fun _ => hend H locs h) (fun z => absurd rfl z)
/-- .. is a boolean -/
theorem l_tailB (X : LQ G V rs p s m b L xs meth c) {n K KR : Nat} {VC VR r : Int32} {M1 M2 R' : wM} {o : wO} {i : Nat} (st : ST n K KR VC VR M1 M2 R') (hK5 : K < 5) (h : HH G V rs ((if K = 0 then M1 else M2), R', (if K = 0 then (vp_updL o.1 0 (bL VC), o.2) else o)) s H locs) (hval : KR = 0 → r = VR)
    (hl : lv_has ls 9 ((7, .int r) :: (6, .int (nI K)) :: L0 V b i)) (hc : cells ≤ room_1.cells) (hs : slots ≤ room_1.slots) {off : Int} {tgt : Nat} (hoff : (pc + 35 : Int) + off = (tgt : Int))
    (d0 : decode cL_law pc = .ok (.aload_n 2, 1)) (d1 : decode cL_law (pc + 1) = .ok (.invokevirtual 149, 3)) (d4 : decode cL_law (pc + 4) = .ok (.iload 6, 2)) (d6 : decode cL_law (pc + 6) = .ok (.if_icmp .eq 5, 3))
    (d11 : decode cL_law (pc + 11) = .ok (.iload 6, 2)) (d13 : decode cL_law (pc + 13) = .ok (.ifCond .ne 22, 3)) (d16 : decode cL_law (pc + 16) = .ok (.aload_n 3, 1)) (d17 : decode cL_law (pc + 17) = .ok (.iconst 0, 1)) (d18 : decode cL_law (pc + 18) = .ok (.laload, 1)) (d19 : decode cL_law (pc + 19) = .ok (.iload 7, 2)) (d21 : decode cL_law (pc + 21) = .ok (.ifCond .eq 7, 3)) (d24 : decode cL_law (pc + 24) = .ok (.lconst 1, 1)) (d25 : decode cL_law (pc + 25) = .ok (.goto 4, 3)) (d28 : decode cL_law (pc + 28) = .ok (.lconst 0, 1)) (d29 : decode cL_law (pc + 29) = .ok (.lcmp, 1)) (d30 : decode cL_law (pc + 30) = .ok (.ifCond .eq 5, 3)) (d35 : decode cL_law (pc + 35) = .ok (.goto off, 3))
    (kk : ∀ (M' R' : wM) (o' : wO) (H : Heap) (locs : List Loc), Re M' R' (n + 1) → Inv M' → HH G V rs (M', R', o') s H locs → ∀ ls : Array Slot, lv_has ls 9 (L0 V b i) → W p l e room_1 s m #[Value.ref b] below meth c H locs cells slots Q (F0 m tgt ls [])) : W p l e room_1 s m #[Value.ref b] below meth c H locs cells slots Q (F0 m pc ls []) := by
  obtain ⟨s1, s2, s3, s4, s5⟩ := st
  have hx := X.1.1
  have hy := X.1.2.1
  have hend : ∀ (H : Heap) (locs : List Loc), HH G V rs ((if K = 0 then M1 else M2), R', (if K = 0 then (vp_updL o.1 0 (bL VC), o.2) else o)) s H locs → W p l e room_1 s m #[Value.ref b] below meth c H locs cells slots Q (F0 m (pc + 35) ls []) := fun H locs h => by
    refine lv_goto (tgt := tgt) hx hy d35 (by omega) ?_
    exact kk _ _ _ H locs s3 s4 h ls (lv_sub hl [2, 3, 4, 5, 6, 7] rfl)
  refine l_thr X h (by rw [s5, s1]) hl.1 (lv_at hl 4 rfl) (lv_at hl 1 rfl) hc hs d0 d1 d4 d6 (fun H locs h => ?_)
  refine lv_iload hx hy d11 (lv_at hl 1 rfl) ?_
  refine lv_if_ne (tgt := pc + 35) hx hy d13 (by omega) (fun _ => hend H locs h) (fun z => ?_)
  have hK0 : K = 0 := (nI_eq (by omega) (by omega)).mp (z.trans (show (0 : Int32) = nI 0 from rfl))
  refine lv_aload_n hx hy d16 rfl (lv_at hl 5 rfl) ?_
  refine lv_iconst (v := nI 0) hx hy d17 (by decide) ?_
  refine r_lald0 X.1 h X.2.2.2.2.2.2.2.2.2.1 d18 ?_
  refine lv_iload hx hy d19 (lv_at hl 0 rfl) ?_
  have e : (if K = 0 then (vp_updL o.1 0 (bL VC), o.2) else o).1 0 = bL r := by
    rw [if_pos hK0, hval (by rw [s1, hK0]), ← s2 hK0]
    simp [vp_updL]
  rw [e]
  refine lv_if_eq (tgt := pc + 28) hx hy d21 (by omega) (fun z => ?_) (fun z => ?_)
  · refine lv_lconst (v := 0) hx hy d28 (by decide) ?_
    refine W.lcmp hx hy d29 ?_
    rw [show bL r = 0 by unfold bL; rw [if_pos z], lg_same]
    exact lv_if_eq (tgt := pc + 35) hx hy d30 (by omega) (fun _ => hend H locs h) (fun z => absurd rfl z)
  · refine lv_lconst (v := 1) hx hy d24 (by decide) ?_
    refine lv_goto (tgt := pc + 29) hx hy d25 (by omega) ?_
    refine W.lcmp hx hy d29 ?_
    rw [show bL r = 1 by unfold bL; rw [if_neg z], lg_same]
    exact lv_if_eq (tgt := pc + 35) hx hy d30 (by omega) (fun _ => hend H locs h) (fun z => absurd rfl z)
end LawKit
