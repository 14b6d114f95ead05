/-! CONSTRUCTORS: the loop that fills an array of objects -/
abbrev arq (V : wV) (t n : Nat) (f : Nat → Option Nat) : va_E := .inl (V.2 t, n, .inr (.inr (.inr (.inr f))))
def pf (k : Nat) (qs : Nat → Nat) : Nat → Option Nat := fun j => if j < k then some (qs j) else none
def itm (res : Nat → (Nat → Nat) → va_W) (k : Nat) (qs : Nat → Nat) (F : Nat → Nat → Nat) : va_W := (List.range k).flatMap (fun g => res (qs g) (F g))
theorem itm_succ (res : Nat → (Nat → Nat) → va_W) (k : Nat) (qs : Nat → Nat) (F : Nat → Nat → Nat) (q : Nat) (f : Nat → Nat) : itm res k qs F ++ res q f = itm res (k + 1) (fun j => if j = k then q else qs j) (fun j => if j = k then f else F j) := by
  unfold itm
  rw [List.range_succ, List.flatMap_append]
  congr 1
  · simp only [List.flatMap_def]
    congr 1
    apply List.map_congr_left
    intro g hg
    have : g ≠ k := by have := List.mem_range.mp hg; omega
    rw [if_neg this, if_neg this]
  · simp
theorem pf_succ (k : Nat) (qs : Nat → Nat) (q : Nat) : va_up (pf k qs) k (some q) = pf (k + 1) (fun j => if j = k then q else qs j) := by
  funext j
  unfold va_up pf
  by_cases h : j = k
  · rw [if_pos h, if_pos (by omega)]
    simp [h]
  · rw [if_neg h]
    by_cases h2 : j < k
    · rw [if_pos h2, if_pos (by omega)]
      simp [h]
    · rw [if_neg h2, if_neg (by omega)]
section Loop
variable {G : va_G} {V : wV} {p : Program} {l : Launch} {e : Env} {R : Room} {s : State} {m : MethodId} {args : Array Value} {below : List Frame} {meth : Method} {c : Code} {cc : ByteArray} {nL : Nat} {own : String} {Ts : List Cond} {ret : Option FieldType} {H : Heap} {locs : List Loc} {cells slots pc : Nat} {Q : State → Prop} {ls : Array Slot} {rest : List Value} {ws : va_W} {A : Nat → Prop}
theorem k_astq (C : Cx G V p s m args meth c cc nL own Ts ret) {u1 t2 : va_W} {aq n : Nat} {f : Nat → Option Nat} (t : Nat) (h : CL G (u1 ++ (aq, arq V t n f) :: t2) s A H locs) {r : vw_C} {ci v : Nat} {vs : List Value} (ht : (tysV V)[t]? = some (V.2 t, .object r.1)) (hv : (v, (Sum.inr (ci, vs) : va_E)) ∈ u1 ++ (aq, arq V t n f) :: t2) (hc : vwCl[ci]? = some r) {i : Int32} (hin : vp_in i n) (hdg : decode cc pc = .ok (.aastore, 1))
    (kk : ∀ (H : Heap) (locs : List Loc), CL G (u1 ++ (aq, arq V t n (va_up f i.toNatClampNeg (some v))) :: t2) s A H locs → W p l e R s m args below meth c H locs cells slots Q (F0 m (pc + 1) ls rest)) : W p l e R s m args below meth c H locs cells slots Q (F0 m pc ls (.ref v :: .int i :: .ref aq :: rest)) := by
  obtain ⟨hx, hb, hml, hown, hts, hK, hr1, hlo⟩ := C
  obtain ⟨qk, hqk⟩ := List.getElem?_of_mem hv
  have hset : ∀ y : Nat × va_E, (u1 ++ (aq, arq V t n f) :: t2).set u1.length y = u1 ++ y :: t2 := fun y => by simp
  refine va_astq hx hb hK h.1 h.2.1 h.2.2.1 u1.length t qk ci (f := f) (n := n) (List.getElem?_append_right (Nat.le_refl _) |>.trans (by rw [Nat.sub_self]; rfl)) ht hqk hc hin hdg (fun H1 locs1 hP hD hS => kk H1 locs1 ⟨?_, ?_, hS, h.2.2.2⟩)
  · rw [hset] at hP; exact hP
  · rw [hset] at hD; exact hD
theorem k_loop (C : Cx G V p s m args meth c cc nL own Ts ret) {sz0 : Nat} (X : XS sz0 s) (hA0 : ∀ q, A q → sz0 ≤ q) (nn : Nat) (hnn : nn < 2 ^ 31)
    {a ci0 N0 : Nat} {fs : List Value} {Cn0 : String} {T0 : u_T} (hc0 : vwCl[ci0]? = some (Cn0, T0, N0)) (hin0 : ∀ w ∈ u_ws Cn0 T0 N0, w ∈ Ts) {ig : Nat} (kf : Nat) (hkf : kf < N0) (hlk : Cond.fieldLink own ig (T0 kf).1 (T0 kf).2.1 (T0 kf).2.2.1 ∈ Ts) {aq : Nat} (hfs : fs[kf]? = some (.ref aq))
    {t1 t2 : va_W} (t : Nat) {ci N : Nat} {Cn : String} {T : u_T} (ht : (tysV V)[t]? = some (V.2 t, .object Cn)) (hc : vwCl[ci]? = some (Cn, T, N)) (hin : ∀ w ∈ u_ws Cn T N, w ∈ Ts) (ty0 : Nat → FieldType) (hty : ∀ k, k < N → parseFieldDescriptor (T k).2.2.1 = some (ty0 k)) {ik : Nat} (hcl : Cond.classLink own ik Cn ∈ Ts) (hinst : Cond.instantiable Cn N ∈ Ts) (hini : Cond.initialized Cn ∈ Ts) {fs1 : List Value} (hfs1 : ∀ j, j < N → defaultValue (ty0 j) = vp_V fs1 j)
    {y : MethodName} {bytes : ByteArray} {maxL index : Nat} {wsy : List Cond} {fr lo mc ms : Nat} {res : Nat → (Nat → Nat) → va_W} (hM : ∀ q, sz0 ≤ q → CI l G V y wsy fr lo mc ms sz0 q (.inr (ci, fs1)) (res q)) (hres : ∀ q f, ∃ vs : List Value, (q, (Sum.inr (ci, vs) : va_E)) ∈ res q f) (cw : CWi R s args own index y bytes maxL wsy { frames := fr, cells := mc, slots := ms, locals := lo } mc ms)
    (hn1 : 1 < nL) {pc0 pcI pcE : Nat} {off1 off2 : Int} (d0 : decode cc pc0 = .ok (.iload_n 1, 1)) (dp : ∀ (H : Heap) (locs : List Loc) (ls : Array Slot) (rest : List Value) (cells slots : Nat), W p l e R s m args below meth c H locs cells slots Q (F0 m pcI ls (.int (nI nn) :: rest)) → W p l e R s m args below meth c H locs cells slots Q (F0 m (pc0 + 1) ls rest)) (dI : decode cc pcI = .ok (.if_icmp .ge off1, 3)) (hE : (pcI : Int) + off1 = (pcE : Int))
    (d3 : decode cc (pcI + 3) = .ok (.aload_n 0, 1)) (d4 : decode cc (pcI + 4) = .ok (.getfield ig, 3)) (d7 : decode cc (pcI + 7) = .ok (.iload_n 1, 1)) (d8 : decode cc (pcI + 8) = .ok (.new ik, 3)) (d11 : decode cc (pcI + 11) = .ok (.dup, 1)) (d12 : decode cc (pcI + 12) = .ok (.invokespecial index, 3)) (d15 : decode cc (pcI + 15) = .ok (.aastore, 1)) (d16 : decode cc (pcI + 16) = .ok (.iinc 1 1, 3)) (d19 : decode cc (pcI + 19) = .ok (.goto off2, 3)) (hg : ((pcI + 19 : Nat) : Int) + off2 = (pc0 : Int))
    {c0 s0 : Nat} (hcells : c0 + nn * (1 + mc) ≤ R.cells) (hslots : s0 + nn * (N + ms) ≤ R.slots)
    (kk : ∀ (qs : Nat → Nat) (F : Nat → Nat → Nat) (H : Heap) (locs : List Loc) (ls : Array Slot), CL G ((a, .inr (ci0, fs)) :: (t1 ++ (aq, arq V t nn (pf nn qs)) :: (t2 ++ itm res nn qs F))) s A H locs → lv_has ls nL [(1, .int (nI nn)), (0, .ref a)] → W p l e R s m args below meth c H locs (c0 + nn * (1 + mc)) (s0 + nn * (N + ms)) Q (F0 m pcE ls [])) :
    ∀ (n k : Nat), n + k = nn → ∀ (qs : Nat → Nat) (F : Nat → Nat → Nat) (H : Heap) (locs : List Loc) (ls : Array Slot), CL G ((a, .inr (ci0, fs)) :: (t1 ++ (aq, arq V t nn (pf k qs)) :: (t2 ++ itm res k qs F))) s A H locs → lv_has ls nL [(1, .int (nI k)), (0, .ref a)] → W p l e R s m args below meth c H locs (c0 + k * (1 + mc)) (s0 + k * (N + ms)) Q (F0 m pc0 ls []) := by
  intro n
  have hx := C.1
  have hb := C.2.1
  induction n with
  | zero =>
    intro k hk qs F H locs ls h hl
    obtain rfl : k = nn := by omega
    refine lv_iload_n hx hb d0 rfl (lv_at hl 0 rfl) ?_
    refine dp _ _ _ _ _ _ ?_
    exact lv_icmp_ge hx hb dI hE (fun _ => kk qs F H locs ls h hl) (fun z => absurd (Int32.le_refl _) z)
  | succ n ih =>
    intro k hk qs F H locs ls h hl
    have hlt : ¬ nI nn ≤ nI k := by
      rw [nI_leI hnn (by omega)]
      omega
    have hkm : (k + 1) * (1 + mc) ≤ nn * (1 + mc) := Nat.mul_le_mul_right _ (by omega)
    have hks : (k + 1) * (N + ms) ≤ nn * (N + ms) := Nat.mul_le_mul_right _ (by omega)
    rw [Nat.add_mul, Nat.one_mul] at hkm hks
    refine lv_iload_n hx hb d0 rfl (lv_at hl 0 rfl) ?_
    refine dp _ _ _ _ _ _ ?_
    refine lv_icmp_ge hx hb dI hE (fun z => absurd z hlt) (fun _ => ?_)
    refine lv_aload_n hx hb d3 rfl (lv_at hl 1 rfl) ?_
    refine k_get C h hc0 hin0 kf hkf hlk hfs d4 ?_
    refine lv_iload_n hx hb d7 rfl (lv_at hl 0 rfl) ?_
    refine k_mk C X hA0 h hc hin ty0 hty hcl hinst hini hfs1 hM cw hl.1 (Nat.le_of_ble_eq_true rfl) d8 d11 d12 (by omega) (by omega) (fun q f H locs h => ?_)
    have h2 : CL G (((a, .inr (ci0, fs)) :: t1) ++ (aq, arq V t nn (pf k qs)) :: (t2 ++ (itm res k qs F ++ res q f))) s A H locs := by
      simpa only [List.cons_append, List.append_assoc] using h
    obtain ⟨vs, hvs⟩ := hres q f
    refine k_astq C t h2 (r := (Cn, T, N)) ht (v := q) (vs := vs) (by
      refine List.mem_append_right _ (List.mem_cons_of_mem _ (List.mem_append_right _ (List.mem_append_right _ hvs)))) hc (vp_in_nI (by omega) hnn) d15 (fun H locs h => ?_)
    rw [nI_cl (k := k) (n := nn) (by omega) hnn, pf_succ, itm_succ] at h
    refine lv_iinc (v := nI (k + 1)) (lv' := [(1, .int (nI (k + 1))), (0, .ref a)]) hx hb d16 hl (k := 0) rfl (nI_1 _) hn1 rfl (fun ls hl => ?_)
    refine lv_goto (tgt := pc0) hx hb d19 hg ?_
    have := ih (k + 1) (by omega) _ _ H locs ls h hl
    rw [show c0 + k * (1 + mc) + (1 + mc) = c0 + (k + 1) * (1 + mc) by rw [Nat.add_mul (k) 1]; omega, show s0 + k * (N + ms) + (N + ms) = s0 + (k + 1) * (N + ms) by rw [Nat.add_mul (k) 1]; omega]
    exact this
theorem k_loopJ (C : Cx G V p s m args meth c cc nL own Ts ret) {sz0 : Nat} (X : XS sz0 s) (hA0 : ∀ q, A q → sz0 ≤ q) (nn : Nat) (hnn : nn < 2 ^ 31)
    {a ci0 N0 : Nat} {fs : List Value} {Cn0 : String} {T0 : u_T} (hc0 : vwCl[ci0]? = some (Cn0, T0, N0)) (hin0 : ∀ w ∈ u_ws Cn0 T0 N0, w ∈ Ts) {ig : Nat} (kf : Nat) (hkf : kf < N0) (hlk : Cond.fieldLink own ig (T0 kf).1 (T0 kf).2.1 (T0 kf).2.2.1 ∈ Ts) {aq : Nat} (hfs : fs[kf]? = some (.ref aq)) {ib : Nat} (kb : Nat) (hkb : kb < N0) (hlkb : Cond.fieldLink own ib (T0 kb).1 (T0 kb).2.1 (T0 kb).2.2.1 ∈ Ts) {bq : Nat} (hfsb : fs[kb]? = some (.ref bq))
    {t1 t2 : va_W} (t : Nat) {ci N : Nat} {Cn : String} {T : u_T} (ht : (tysV V)[t]? = some (V.2 t, .object Cn)) (hc : vwCl[ci]? = some (Cn, T, N)) (hin : ∀ w ∈ u_ws Cn T N, w ∈ Ts) (ty0 : Nat → FieldType) (hty : ∀ k, k < N → parseFieldDescriptor (T k).2.2.1 = some (ty0 k)) {ik : Nat} (hcl : Cond.classLink own ik Cn ∈ Ts) (hinst : Cond.instantiable Cn N ∈ Ts) (hini : Cond.initialized Cn ∈ Ts) {fs1 : List Value} (hfs1 : ∀ j, j < N → defaultValue (ty0 j) = vp_V fs1 j)
    {y : MethodName} {bytes : ByteArray} {maxL index : Nat} {wsy : List Cond} {fr lo mc ms : Nat} {res : Nat → (Nat → Nat) → va_W} (hM : ∀ q, sz0 ≤ q → CJ l G V [.ref bq] y wsy fr lo mc ms sz0 q (.inr (ci, fs1)) (res q)) (hres : ∀ q f, ∃ vs : List Value, (q, (Sum.inr (ci, vs) : va_E)) ∈ res q f) (cw : CallB R s args own index y bytes maxL none wsy { frames := fr, cells := mc, slots := ms, locals := lo } mc ms 1 ∧ y.name = "<init>" ∧ (Cond.instanceMethod y).before args s = true)
    (hn1 : 1 < nL) {pc0 pcI pcE : Nat} {off1 off2 : Int} (d0 : decode cc pc0 = .ok (.iload_n 1, 1)) (dp : ∀ (H : Heap) (locs : List Loc) (ls : Array Slot) (rest : List Value) (cells slots : Nat), W p l e R s m args below meth c H locs cells slots Q (F0 m pcI ls (.int (nI nn) :: rest)) → W p l e R s m args below meth c H locs cells slots Q (F0 m (pc0 + 1) ls rest)) (dI : decode cc pcI = .ok (.if_icmp .ge off1, 3)) (hE : (pcI : Int) + off1 = (pcE : Int))
    (d3 : decode cc (pcI + 3) = .ok (.aload_n 0, 1)) (d4 : decode cc (pcI + 4) = .ok (.getfield ig, 3)) (d7 : decode cc (pcI + 7) = .ok (.iload_n 1, 1)) (d8 : decode cc (pcI + 8) = .ok (.new ik, 3)) (d11 : decode cc (pcI + 11) = .ok (.dup, 1)) (d12 : decode cc (pcI + 12) = .ok (.aload_n 0, 1)) (d13 : decode cc (pcI + 13) = .ok (.getfield ib, 3)) (d16 : decode cc (pcI + 16) = .ok (.invokespecial index, 3)) (d19 : decode cc (pcI + 19) = .ok (.aastore, 1)) (d20 : decode cc (pcI + 20) = .ok (.iinc 1 1, 3)) (d23 : decode cc (pcI + 23) = .ok (.goto off2, 3)) (hg : ((pcI + 23 : Nat) : Int) + off2 = (pc0 : Int))
    {c0 s0 : Nat} (hcells : c0 + nn * (1 + mc) ≤ R.cells) (hslots : s0 + nn * (N + ms) ≤ R.slots)
    (kk : ∀ (qs : Nat → Nat) (F : Nat → Nat → Nat) (H : Heap) (locs : List Loc) (ls : Array Slot), CL G ((a, .inr (ci0, fs)) :: (t1 ++ (aq, arq V t nn (pf nn qs)) :: (t2 ++ itm res nn qs F))) s A H locs → lv_has ls nL [(1, .int (nI nn)), (0, .ref a)] → W p l e R s m args below meth c H locs (c0 + nn * (1 + mc)) (s0 + nn * (N + ms)) Q (F0 m pcE ls [])) :
    ∀ (n k : Nat), n + k = nn → ∀ (qs : Nat → Nat) (F : Nat → Nat → Nat) (H : Heap) (locs : List Loc) (ls : Array Slot), CL G ((a, .inr (ci0, fs)) :: (t1 ++ (aq, arq V t nn (pf k qs)) :: (t2 ++ itm res k qs F))) s A H locs → lv_has ls nL [(1, .int (nI k)), (0, .ref a)] → W p l e R s m args below meth c H locs (c0 + k * (1 + mc)) (s0 + k * (N + ms)) Q (F0 m pc0 ls []) := by
  intro n
  have hx := C.1
  have hb := C.2.1
  induction n with
  | zero =>
    intro k hk qs F H locs ls h hl
    obtain rfl : k = nn := by omega
    refine lv_iload_n hx hb d0 rfl (lv_at hl 0 rfl) ?_
    refine dp _ _ _ _ _ _ ?_
    exact lv_icmp_ge hx hb dI hE (fun _ => kk qs F H locs ls h hl) (fun z => absurd (Int32.le_refl _) z)
  | succ n ih =>
    intro k hk qs F H locs ls h hl
    have hlt : ¬ nI nn ≤ nI k := by
      rw [nI_leI hnn (by omega)]
      omega
    have hkm : (k + 1) * (1 + mc) ≤ nn * (1 + mc) := Nat.mul_le_mul_right _ (by omega)
    have hks : (k + 1) * (N + ms) ≤ nn * (N + ms) := Nat.mul_le_mul_right _ (by omega)
    rw [Nat.add_mul, Nat.one_mul] at hkm hks
    refine lv_iload_n hx hb d0 rfl (lv_at hl 0 rfl) ?_
    refine dp _ _ _ _ _ _ ?_
    refine lv_icmp_ge hx hb dI hE (fun z => absurd z hlt) (fun _ => ?_)
    refine lv_aload_n hx hb d3 rfl (lv_at hl 1 rfl) ?_
    refine k_get C h hc0 hin0 kf hkf hlk hfs d4 ?_
    refine lv_iload_n hx hb d7 rfl (lv_at hl 0 rfl) ?_
    refine k_mkJ C X hA0 h hc hin ty0 hty hcl hinst hini hfs1 hM cw rfl hl.1 (Nat.le_of_ble_eq_true rfl) d8 d11 (fun q H h9 k9 => ?_) d16 (by omega) (by omega) (fun q f H locs h => ?_)
    · have h9 : CL G ((a, .inr (ci0, fs)) :: ((t1 ++ (aq, arq V t nn (pf k qs)) :: (t2 ++ itm res k qs F)) ++ [(q, .inr (ci, fs1))])) s A H locs := h9
      refine lv_aload_n hx hb d12 rfl (lv_at hl 1 rfl) ?_
      exact k_get C h9 hc0 hin0 kb hkb hlkb hfsb d13 k9
    have h2 : CL G (((a, .inr (ci0, fs)) :: t1) ++ (aq, arq V t nn (pf k qs)) :: (t2 ++ (itm res k qs F ++ res q f))) s A H locs := by
      simpa only [List.cons_append, List.append_assoc] using h
    obtain ⟨vs, hvs⟩ := hres q f
    refine k_astq C t h2 (r := (Cn, T, N)) ht (v := q) (vs := vs) (by
      refine List.mem_append_right _ (List.mem_cons_of_mem _ (List.mem_append_right _ (List.mem_append_right _ hvs)))) hc (vp_in_nI (by omega) hnn) d19 (fun H locs h => ?_)
    rw [nI_cl (k := k) (n := nn) (by omega) hnn, pf_succ, itm_succ] at h
    refine lv_iinc (v := nI (k + 1)) (lv' := [(1, .int (nI (k + 1))), (0, .ref a)]) hx hb d20 hl (k := 0) rfl (nI_1 _) hn1 rfl (fun ls hl => ?_)
    refine lv_goto (tgt := pc0) hx hb d23 hg ?_
    have := ih (k + 1) (by omega) _ _ H locs ls h hl
    rw [show c0 + k * (1 + mc) + (1 + mc) = c0 + (k + 1) * (1 + mc) by rw [Nat.add_mul (k) 1]; omega, show s0 + k * (N + ms) + (N + ms) = s0 + (k + 1) * (N + ms) by rw [Nat.add_mul (k) 1]; omega]
    exact this
end Loop
