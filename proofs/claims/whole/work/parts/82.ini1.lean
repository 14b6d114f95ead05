/-! CONSTRUCTORS: the rows of the machine over a list of cells that grows at its end -/
/-- the links to constructors of nest mates -/
abbrev nsc : List (String × Nat × MethodName) := [(RX0, 26, yX3_init), (RX0, 33, yX2_init), (RX0, 38, yX1_init), (RX6, 38, yX5_init)]
/-- what the exceptions need, and the arrays of objects: of everything below sz0 -/
def XS (sz0 : Nat) (s : State) : Prop :=
  (vx_Zq Bundle.tN "UNASSIGNED_STACK" Bundle.steD (fun q => sz0 ≤ q) s s.heap ∧ vx_Zq Bundle.tN "SUPPRESSED_SENTINEL" Bundle.listD (fun q => sz0 ≤ q) s s.heap ∧ (∀ q ∈ txs, ∃ a : Nat, vk_R RX6 q.1 q.2 a s) ∧ (∀ E ∈ exs, va_Nw (.castable E E) s) ∧ (∀ Y ∈ ups, va_Nw (.declares (Bundle.initS Y)) s) ∧ ∀ q ∈ nst, va_Nw (.methodLinkNest q.1 q.2 yX6_contains "Castlequorum") s) ∧ (va_AO RX1 s ∧ va_AO RX4 s ∧ va_AO RX5 s ∧ ∀ q ∈ nsc, va_Nw (.methodLinkNest q.1 q.2.1 q.2.2 "Castlequorum") s) ∧ sz0 ≤ s.heap.size
theorem XS.to {sz0 : Nat} {A : Nat → Prop} {s U : State} {H : Heap} {locs : List Loc} (h : XS sz0 s) (hA : ∀ q, A q → sz0 ≤ q) (hS : va_S A s.heap H locs) (hU : U.heap = H) (hW : s.WarmedH U.vm) : XS sz0 U := by
  obtain ⟨⟨h1, h2, h3, h4, h6, h5⟩, ⟨a1, a2, a3, a4⟩, hz⟩ := h
  have hk : ∀ a : Nat, a < Array.size s.heap → ¬ sz0 ≤ a → H[a]? = s.heap[a]? := fun a x y => hS.2.1 a x (fun z => y (hA a z))
  refine ⟨⟨?_, ?_, fun q hq => ?_, fun E hE => va_Nw.warmC hW (h4 E hE), fun Y hY => va_Nw.warmD hW (h6 Y hY), fun q hq => va_Nw.warmM hW (h5 q hq)⟩, ⟨va_AO.moved hW.alike a1, va_AO.moved hW.alike a2, va_AO.moved hW.alike a3, fun q hq => va_Nw.warmM hW (a4 q hq)⟩, by rw [hU]; exact Nat.le_trans hz hS.1⟩
  · have := vx_Zq.moved hW.alike (h1.kept hk)
    rw [hU]
    exact this
  · have := vx_Zq.moved hW.alike (h2.kept hk)
    rw [hU]
    exact this
  · obtain ⟨a, ha⟩ := h3 q hq
    exact ⟨a, vk_R.warm hW ha⟩
theorem XS.xx {sz0 : Nat} {s : State} (h : XS sz0 s) {V : wV} {rs : List Nat} (hV : ∀ r ∈ rs, sz0 ≤ V.1 r) : XX V rs s := by
  obtain ⟨⟨h1, h2, h3, h4, h6, h5⟩, -, hz⟩ := h
  have hn : ∀ q, adr V rs s.heap.size q → sz0 ≤ q := by
    rintro q (⟨r, hr, rfl⟩ | hq)
    · exact hV r hr
    · exact Nat.le_trans hz hq
  exact ⟨h1.narrow hn, h2.narrow hn, h3, h4, h6, h5⟩
/-- a list of cells in the heap -/
def CL (G : va_G) (ws : va_W) (s : State) (A : Nat → Prop) (H : Heap) (locs : List Loc) : Prop := va_P G vwCl ws H ∧ va_D A ws ∧ va_S A s.heap H locs ∧ ∀ q, s.heap.size ≤ q → A q
/-- a constructor's start -/
def Bi (G : va_G) (V : wV) (sz0 a : Nat) (e0 : va_E) (sz : Nat) : State → Prop := fun U => U.heap.size = sz ∧ va_P G vwCl [(a, e0)] U.heap ∧ va_K G vwCl (tysV V) U ∧ va_D (fun _ => True) [(a, e0)] ∧ XS sz0 U ∧ sz0 ≤ a
/-- a constructor's contract: the cells that it leaves -/
def CI (l : Launch) (G : va_G) (V : wV) (y : MethodName) (wsy : List Cond) (fr lo mc ms sz0 a : Nat) (e0 : va_E) (res : (Nat → Nat) → va_W) : Prop :=
  ∀ sz : Nat, Met l y wsy { frames := fr, cells := mc, slots := ms, locals := lo } (va_Pc [.ref a] (Bi G V sz0 a e0 sz)) (va_Qv (fun _ : Nat → Nat => True) (fun f t => va_P G vwCl (res f) t.heap ∧ va_K G vwCl (tysV V) t ∧ va_D (va_A [(a, e0)] sz) (res f)) (va_A [(a, e0)] sz)) mc ms (va_A [(a, e0)] sz)
/-- a constructor's contract, with arguments -/
def CJ (l : Launch) (G : va_G) (V : wV) (As : List Value) (y : MethodName) (wsy : List Cond) (fr lo mc ms sz0 a : Nat) (e0 : va_E) (res : (Nat → Nat) → va_W) : Prop :=
  ∀ sz : Nat, Met l y wsy { frames := fr, cells := mc, slots := ms, locals := lo } (va_Pc (.ref a :: As) (Bi G V sz0 a e0 sz)) (va_Qv (fun _ : Nat → Nat => True) (fun f t => va_P G vwCl (res f) t.heap ∧ va_K G vwCl (tysV V) t ∧ va_D (va_A [(a, e0)] sz) (res f)) (va_A [(a, e0)] sz)) mc ms (va_A [(a, e0)] sz)
theorem va_A1 {a : Nat} {e0 : va_E} {sz q : Nat} : va_A [(a, e0)] sz q ↔ q = a ∨ sz ≤ q := by
  constructor
  · rintro (⟨k, e, h⟩ | h)
    · have hz : k < 1 := (List.getElem?_eq_some_iff.mp h).1
      obtain rfl : k = 0 := by omega
      cases h
      exact Or.inl rfl
    · exact Or.inr h
  · rintro (rfl | h)
    · exact Or.inl ⟨0, e0, rfl⟩
    · exact Or.inr h
/-- the last cell gives way to w1 -/
theorem join_last {A0 : Nat → Prop} {D : va_G} {cl : List vw_C} {ws w1 : va_W} {q : Nat} {e0 : va_E} {H H1 : Heap} (hP : va_P D cl (ws ++ [(q, e0)]) H) (hD : va_D A0 (ws ++ [(q, e0)])) (hk : ∀ x : Nat, x < H.size → ¬ va_A [(q, e0)] H.size x → H1[x]? = H[x]?) (hF : ∀ x, va_A [(q, e0)] H.size x → A0 x) (hP1 : va_P D cl w1 H1) (hD1 : va_D (va_A [(q, e0)] H.size) w1) : va_P D cl (ws ++ w1) H1 ∧ va_D A0 (ws ++ w1) := by
  have hin : ∀ (k : Nat) (x : Nat × va_E), ws[k]? = some x → (ws ++ [(q, e0)])[k]? = some x := fun k x hx => by
    rw [List.getElem?_append_left (List.getElem?_eq_some_iff.mp hx).1]; exact hx
  have hl : (ws ++ [(q, e0)])[ws.length]? = some (q, e0) := by simp
  have hlt : ∀ (k : Nat) (x : Nat × va_E), ws[k]? = some x → x.1 < H.size ∧ x.1 ≠ q := fun k x hx => by
    refine ⟨(hP k x (hin k x hx)).lt, fun z => ?_⟩
    have := hD.1 k ws.length x (q, e0) (hin k x hx) hl z
    have := (List.getElem?_eq_some_iff.mp hx).1
    omega
  have hP0 : va_P D cl ws H := fun k x hx => hP k x (hin k x hx)
  have hD0 : va_D A0 ws := ⟨fun i j x y hi hj hxy => hD.1 i j x y (hin i x hi) (hin j y hj) hxy, fun k x hx => hD.2 k x (hin k x hx)⟩
  refine ⟨(hP0.kept fun k x hx => hk x.1 (hlt k x hx).1 (fun z => ?_)).app hP1, hD0.app (hD1.weaken fun k x _ hx => hF _ hx) fun i j x y hi hj hxy => ?_⟩
  · rcases va_A1.mp z with z | z
    · exact (hlt k x hx).2 z
    · exact absurd (hlt k x hx).1 (Nat.not_lt.mpr z)
  · rcases va_A1.mp (hD1.2 j y hj) with z | z
    · exact (hlt i x hi).2 (hxy.trans z)
    · have := (hlt i x hi).1
      rw [hxy] at this
      exact absurd this (Nat.not_lt.mpr z)
theorem CL.fin {G : va_G} {a : Nat} {e0 : va_E} {ws : va_W} {s : State} {H : Heap} {locs : List Loc} (h : CL G ws s (va_A [(a, e0)] s.heap.size) H locs) {V : wV} (hK : va_K G vwCl (tysV V) s) (t : State) (ht : t.heap = H) (hW : s.WarmedH t.vm) : va_P G vwCl ws t.heap ∧ va_K G vwCl (tysV V) t ∧ va_D (va_A [(a, e0)] s.heap.size) ws :=
  ⟨by rw [ht]; exact h.1, va_K.moved hW.alike hK, h.2.1⟩
/-- how a constructor is called -/
abbrev CWi (R : Room) (s : State) (args : Array Value) (own : String) (index : Nat) (y : MethodName) (bytes : ByteArray) (maxL : Nat) (wsy : List Cond) (rm : Room) (mc ms : Nat) : Prop :=
  (CallB R s args own index y bytes maxL none wsy rm mc ms 0 ∧ y.name = "<init>" ∧ (Cond.instanceMethod y).before args s = true) ∨ ∃ host, va_CN R s args own index y host bytes maxL none wsy rm mc ms 0 ∧ y.name = "<init>" ∧ (Cond.instanceMethod y).before args s = true
section Init
variable {G : va_G} {V : wV} {p : Program} {l : Launch} {e : Env} {R : Room} {s : State} {m : MethodId} {args : Array Value} {below : List Frame} {meth : Method} {c : Code} {cc : ByteArray} {nL : Nat} {own : String} {Ts : List Cond} {ret : Option FieldType} {H : Heap} {locs : List Loc} {cells slots pc : Nat} {Q : State → Prop} {ls : Array Slot} {rest : List Value} {ws : va_W} {A : Nat → Prop}
theorem k_newa (C : Cx G V p s m args meth c cc nL own Ts ret) (h : CL G ws s A H locs) (t : Nat) {ty : FieldType} (ht : (tysV V)[t]? = some (V.2 t, ty)) (ho : ∀ n, ty ≠ .object n) {atype : ArrayType} (hat : newarray.typeOf atype = ty) (harr : Cond.arrayClass ty ∈ Ts) {n : Int32} (N : Nat) (a0 : vp_A) (ha : ∀ cA : ClassId, vp_cell cA a0 = arrV cA N (fun _ => defaultValue ty)) (hn : ¬ n < 0) (hN : n.toNatClampNeg = N) (hbytes : N * componentBytes ty ≤ 536870912) (hcells : cells + 1 ≤ R.cells) (hslots : slots + N ≤ R.slots) (hdg : decode cc pc = .ok (.newarray atype, 2))
    (kk : ∀ (q : Nat) (H : Heap), CL G (ws ++ [(q, .inl (V.2 t, a0))]) s A H locs → W p l e R s m args below meth c H locs (cells + 1) (slots + N) Q (F0 m (pc + 2) ls (.ref q :: rest))) : W p l e R s m args below meth c H locs cells slots Q (F0 m pc ls (.int n :: rest)) := by
  obtain ⟨hx, hb, hml, hown, hts, hK, hr1, hlo⟩ := C
  refine va_newa hx hb (by rw [hat]; exact hts _ harr) hat hK h.1 h.2.1 h.2.2.1 h.2.2.2 ha hn hN hbytes hcells hslots hdg (fun q cA H1 hK1 hP1 hD1 hS1 => ?_)
  have h1 : va_RA s cA ty := (hK1.2 8 (cA, ty) rfl).2
  have h2 : va_RA s (V.2 t) ty := (hK.2 t _ ht).2
  have he : cA = V.2 t := by
    unfold va_RA at h1 h2
    cases ty with
    | object n => exact absurd rfl (ho n)
    | _ => exact Option.some.inj (h1.symm.trans h2)
  subst he
  exact kk q H1 ⟨hP1, hD1, hS1, h.2.2.2⟩
theorem k_newq (C : Cx G V p s m args meth c cc nL own Ts ret) (h : CL G ws s A H locs) (t : Nat) {Cn : String} (ht : (tysV V)[t]? = some (V.2 t, .object Cn)) (hover : va_AO Cn s) {index : Nat} (hlink : Cond.classLink own index Cn ∈ Ts) {n : Int32} (N : Nat) (hn : ¬ n < 0) (hN : n.toNatClampNeg = N) (hbytes : N * 4 ≤ 536870912) (hcells : cells + 1 ≤ R.cells) (hslots : slots + N ≤ R.slots) (hdg : decode cc pc = .ok (.anewarray index, 3))
    (kk : ∀ (q : Nat) (H : Heap), CL G (ws ++ [(q, .inl (V.2 t, N, .inr (.inr (.inr (.inr (fun _ => none))))))]) s A H locs → W p l e R s m args below meth c H locs (cells + 1) (slots + N) Q (F0 m (pc + 3) ls (.ref q :: rest))) : W p l e R s m args below meth c H locs cells slots Q (F0 m pc ls (.int n :: rest)) := by
  obtain ⟨hx, hb, hml, hown, hts, hK, hr1, hlo⟩ := C
  refine va_newq hx hb hown (hts _ hlink) hover hK h.1 h.2.1 h.2.2.1 h.2.2.2 hn hN hbytes hcells hslots hdg (fun q cA H1 hK1 hP1 hD1 hS1 => ?_)
  have h1 : va_RA s cA (.object Cn) := (hK1.2 8 (cA, .object Cn) rfl).2
  have h2 : va_RA s (V.2 t) (.object Cn) := (hK.2 t _ ht).2
  obtain ⟨-, -, -, -, -, e1⟩ := h1
  obtain ⟨-, -, -, -, -, e2⟩ := h2
  obtain rfl : cA = V.2 t := Option.some.inj (e1.symm.trans e2)
  exact kk q H1 ⟨hP1, hD1, hS1, h.2.2.2⟩
/-- a final field of the object that is made -/
theorem k_putF (C : Cx G V p s m args meth c cc nL own Ts ret) (hin2 : meth.name = "<init>") {a ci N : Nat} {fs : List Value} (h : CL G ((a, .inr (ci, fs)) :: ws) s A H locs) {Cn : String} {T : u_T} (hc : vwCl[ci]? = some (Cn, T, N)) (hin : ∀ w ∈ u_ws Cn T N, w ∈ Ts) (ty0 : Nat → FieldType) (hty : ∀ k, k < N → parseFieldDescriptor (T k).2.2.1 = some (ty0 k)) (hnm : ∀ a, a < N → ∀ b, b < N → a ≠ b → (T a).2.1 ≠ (T b).2.1) {index : Nat} (k : Nat) (hk : k < N) (hlink : Cond.fieldLink own index (T k).1 (T k).2.1 (T k).2.2.1 ∈ Ts) (hfin : (T k).2.2.2 = true) (hdecl : (T k).1 = own) {v : Value} (hn : narrow (ty0 k) v = v) (hfit : fits (ty0 k) v = true) (hl : k < fs.length) (hdg : decode cc pc = .ok (.putfield index, 3))
    (kk : ∀ (H : Heap) (locs : List Loc), CL G ((a, .inr (ci, fs.set k v)) :: ws) s A H locs → W p l e R s m args below meth c H locs cells slots Q (F0 m (pc + 3) ls rest)) : W p l e R s m args below meth c H locs cells slots Q (F0 m pc ls (v :: .ref a :: rest)) := by
  obtain ⟨hx, hb, hml, hown, hts, hK, hr1, hlo⟩ := C
  exact va_putF hx hb hts hin ty0 hty hnm hown hK h.1 h.2.1 h.2.2.1 0 rfl hc k hk (hts _ hlink) (fun _ h9 => h9) hfin hin2 hdecl (hty k hk) hn hfit hl hdg (fun H1 locs1 hP hD hS => kk H1 locs1 ⟨hP, hD, hS, h.2.2.2⟩)
/-- a field that is not final of the object that is made -/
theorem k_put (C : Cx G V p s m args meth c cc nL own Ts ret) {a ci N : Nat} {fs : List Value} (h : CL G ((a, .inr (ci, fs)) :: ws) s A H locs) {Cn : String} {T : u_T} (hc : vwCl[ci]? = some (Cn, T, N)) (hin : ∀ w ∈ u_ws Cn T N, w ∈ Ts) (ty0 : Nat → FieldType) (hty : ∀ k, k < N → parseFieldDescriptor (T k).2.2.1 = some (ty0 k)) (hnm : ∀ a, a < N → ∀ b, b < N → a ≠ b → (T a).2.1 ≠ (T b).2.1) {index : Nat} (k : Nat) (hk : k < N) (hlink : Cond.fieldLink own index (T k).1 (T k).2.1 (T k).2.2.1 ∈ Ts) (hfin : (T k).2.2.2 = false) {v : Value} (hn : narrow (ty0 k) v = v) (hfit : fits (ty0 k) v = true) (hl : k < fs.length) (hdg : decode cc pc = .ok (.putfield index, 3))
    (kk : ∀ (H : Heap) (locs : List Loc), CL G ((a, .inr (ci, fs.set k v)) :: ws) s A H locs → W p l e R s m args below meth c H locs cells slots Q (F0 m (pc + 3) ls rest)) : W p l e R s m args below meth c H locs cells slots Q (F0 m pc ls (v :: .ref a :: rest)) := by
  obtain ⟨hx, hb, hml, hown, hts, hK, hr1, hlo⟩ := C
  exact va_put hx hb hts hin ty0 hty hnm hown hK h.1 h.2.1 h.2.2.1 0 rfl hc k hk (hts _ hlink) (fun _ h9 => h9) hfin (hty k hk) hn hfit hl hdg (fun H1 locs1 hP hD hS => kk H1 locs1 ⟨hP, hD, hS, h.2.2.2⟩)
theorem k_get (C : Cx G V p s m args meth c cc nL own Ts ret) {a ci N : Nat} {fs : List Value} (h : CL G ((a, .inr (ci, fs)) :: ws) s A H locs) {Cn : String} {T : u_T} (hc : vwCl[ci]? = some (Cn, T, N)) (hin : ∀ w ∈ u_ws Cn T N, w ∈ Ts) {index : Nat} (k : Nat) (hk : k < N) (hlink : Cond.fieldLink own index (T k).1 (T k).2.1 (T k).2.2.1 ∈ Ts) {v : Value} (hv : fs[k]? = some v) (hdg : decode cc pc = .ok (.getfield index, 3))
    (kk : W p l e R s m args below meth c H locs cells slots Q (F0 m (pc + 3) ls (v :: rest))) : W p l e R s m args below meth c H locs cells slots Q (F0 m pc ls (.ref a :: rest)) := by
  obtain ⟨hx, hb, hml, hown, hts, hK, hr1, hlo⟩ := C
  exact va_get hx hb hts hin hown hK h.1 0 rfl hc k hk (hts _ hlink) (fun _ h9 => h9) hv hdg kk
/-- an object and its constructor: new; dup; invokespecial -/
theorem k_mk (C : Cx G V p s m args meth c cc nL own Ts ret) {sz0 : Nat} (X : XS sz0 s) (hA0 : ∀ q, A q → sz0 ≤ q) (h : CL G ws s A H locs) {ci N : Nat} {Cn : String} {T : u_T} (hc : vwCl[ci]? = some (Cn, T, N)) (hin : ∀ w ∈ u_ws Cn T N, w ∈ Ts) (ty0 : Nat → FieldType) (hty : ∀ k, k < N → parseFieldDescriptor (T k).2.2.1 = some (ty0 k)) {ik : Nat} (hcl : Cond.classLink own ik Cn ∈ Ts) (hinst : Cond.instantiable Cn N ∈ Ts) (hini : Cond.initialized Cn ∈ Ts) {fs : List Value} (hfs : ∀ j, j < N → defaultValue (ty0 j) = vp_V fs j)
    {y : MethodName} {bytes : ByteArray} {maxL index : Nat} {wsy : List Cond} {fr lo mc ms : Nat} {res : Nat → (Nat → Nat) → va_W} (hM : ∀ q, sz0 ≤ q → CI l G V y wsy fr lo mc ms sz0 q (.inr (ci, fs)) (res q)) (cw : CWi R s args own index y bytes maxL wsy { frames := fr, cells := mc, slots := ms, locals := lo } mc ms)
    (hsz : ls.size = nL) (hW : ((.ref 0 :: rest).map fun v : Value => v.category).sum ≤ 8) (d0 : decode cc pc = .ok (.new ik, 3)) (d3 : decode cc (pc + 3) = .ok (.dup, 1)) (d4 : decode cc (pc + 4) = .ok (.invokespecial index, 3)) (hcells : cells + (1 + mc) ≤ R.cells) (hslots : slots + (N + ms) ≤ R.slots)
    (kk : ∀ (q : Nat) (f : Nat → Nat) (H : Heap) (locs : List Loc), CL G (ws ++ res q f) s A H locs → W p l e R s m args below meth c H locs (cells + (1 + mc)) (slots + (N + ms)) Q (F0 m (pc + 7) ls (.ref q :: rest))) : W p l e R s m args below meth c H locs cells slots Q (F0 m pc ls rest) := by
  obtain ⟨hx, hb, hml, hown, hts, hK, hr1, hlo⟩ := C
  refine va_new hx hb hts hin ty0 hty hown (hts _ hcl) (hts _ hinst) (hts _ hini) hK h.1 h.2.1 h.2.2.1 h.2.2.2 hc hfs (by omega) (by omega) d0 (fun q H1 hP hD hS => ?_)
  refine lv_dup hx hb d3 rfl ?_
  have hq : (ws ++ [(q, Sum.inr (ci, fs))])[ws.length]? = some (q, Sum.inr (ci, fs)) := by simp
  have hAq : A q := hD.2 _ _ hq
  have hF : ∀ x, va_A [(q, Sum.inr (ci, fs))] H1.size x → A x := fun x hx9 => by
    rcases va_A1.mp hx9 with rfl | hx9
    · exact hAq
    · exact h.2.2.2 x (Nat.le_trans hS.1 hx9)
  have hPq : va_P G vwCl [(q, Sum.inr (ci, fs))] H1 := hP.sub [ws.length] (by simp)
  have hDq : va_D (fun _ => True) [(q, (Sum.inr (ci, fs) : va_E))] := ⟨fun i j x y hi hj _ => by
    have := (List.getElem?_eq_some_iff.mp hi).1
    have := (List.getElem?_eq_some_iff.mp hj).1
    simp at *
    omega, fun _ _ _ => trivial⟩
  have hpre : PreS s H1 (va_Pc [.ref q] (Bi G V sz0 q (.inr (ci, fs)) H1.size)) [.ref q] := by
    refine ⟨fun a U g mk q9 => ?_, fun U hU hW9 => ⟨rfl, by rw [hU], by rw [hU]; exact hPq, va_K.moved hW9.alike hK, hDq, X.to hA0 hS hU hW9, hA0 q hAq⟩⟩
    obtain ⟨q0, q1, qP, qK, qD, qX, q2⟩ := q9
    exact ⟨q0, q1, qP, va_K.moved (u := U) (U := U.calling g mk a) (Vm.Alike.refl U.vm) qK, qD, qX.to (U := U.calling g mk a) (A := fun q => sz0 ≤ q) (fun _ z => z) va_S.rf rfl (State.WarmedH.refl U), q2⟩
  have hrun : va_Run p l e R s m args below meth c H1 locs (cells + 1) (slots + N) mc ms (F0 m (pc + 4) ls (.ref q :: .ref q :: rest)) (.ref q :: rest) (va_Qv (fun _ : Nat → Nat => True) (fun f t => va_P G vwCl (res q f) t.heap ∧ va_K G vwCl (tysV V) t ∧ va_D (va_A [(q, .inr (ci, fs))] H1.size) (res q f)) (va_A [(q, .inr (ci, fs))] H1.size) #[.ref q]) (va_A [(q, .inr (ci, fs))] H1.size) := by
    rcases cw with cw | ⟨host, cw⟩
    · exact va_runI (As := []) (rest := .ref q :: rest) ⟨hx, hb, hml, hown, hts⟩ (hM q (hA0 q hAq) H1.size) cw hpre rfl rfl hsz rfl (lv_room hW) d4 ⟨by omega, by omega⟩
    · exact va_runIN (As := []) (rest := .ref q :: rest) ⟨hx, hb, hml, hown, hts⟩ (hM q (hA0 q hAq) H1.size) cw hpre rfl rfl hsz rfl (lv_room hW) d4 ⟨by omega, by omega⟩
  refine va_callv hrun hS (fun q _ h9 => hF q h9) hF (fun u t H2 locs1 ht hvm hw hB hz1 hk1 hS2 => ?_)
  · obtain ⟨hP1, hK1, hD1⟩ := hB
    rw [ht] at hP1
    obtain ⟨hP3, hD3⟩ := join_last hP hD hk1 hF hP1 hD1
    have := kk q u H2 locs1 ⟨hP3, hD3, hS2, h.2.2.2⟩
    rw [← Nat.add_assoc, ← Nat.add_assoc] at this
    exact this
/-- an object and its constructor: new; dup; the arguments; invokespecial -/
theorem k_mkJ (C : Cx G V p s m args meth c cc nL own Ts ret) {sz0 : Nat} (X : XS sz0 s) (hA0 : ∀ q, A q → sz0 ≤ q) (h : CL G ws s A H locs) {ci N : Nat} {Cn : String} {T : u_T} (hc : vwCl[ci]? = some (Cn, T, N)) (hin : ∀ w ∈ u_ws Cn T N, w ∈ Ts) (ty0 : Nat → FieldType) (hty : ∀ k, k < N → parseFieldDescriptor (T k).2.2.1 = some (ty0 k)) {ik : Nat} (hcl : Cond.classLink own ik Cn ∈ Ts) (hinst : Cond.instantiable Cn N ∈ Ts) (hini : Cond.initialized Cn ∈ Ts) {fs : List Value} (hfs : ∀ j, j < N → defaultValue (ty0 j) = vp_V fs j)
    {y : MethodName} {bytes : ByteArray} {maxL index : Nat} {wsy : List Cond} {fr lo mc ms : Nat} {res : Nat → (Nat → Nat) → va_W} {As : List Value} {nA : Nat} (hM : ∀ q, sz0 ≤ q → CJ l G V As y wsy fr lo mc ms sz0 q (.inr (ci, fs)) (res q)) (cw : CallB R s args own index y bytes maxL none wsy { frames := fr, cells := mc, slots := ms, locals := lo } mc ms nA ∧ y.name = "<init>" ∧ (Cond.instanceMethod y).before args s = true) (hnA : As.length = nA)
    (hsz : ls.size = nL) (hW : ((.ref 0 :: rest).map fun v : Value => v.category).sum ≤ 8) (d0 : decode cc pc = .ok (.new ik, 3)) (d3 : decode cc (pc + 3) = .ok (.dup, 1)) {pc1 : Nat} (dA : ∀ (q : Nat) (H : Heap), CL G (ws ++ [(q, .inr (ci, fs))]) s A H locs → W p l e R s m args below meth c H locs (cells + 1) (slots + N) Q (F0 m pc1 ls (As.reverse ++ .ref q :: .ref q :: rest)) → W p l e R s m args below meth c H locs (cells + 1) (slots + N) Q (F0 m (pc + 4) ls (.ref q :: .ref q :: rest))) (d4 : decode cc pc1 = .ok (.invokespecial index, 3)) (hcells : cells + (1 + mc) ≤ R.cells) (hslots : slots + (N + ms) ≤ R.slots)
    (kk : ∀ (q : Nat) (f : Nat → Nat) (H : Heap) (locs : List Loc), CL G (ws ++ res q f) s A H locs → W p l e R s m args below meth c H locs (cells + (1 + mc)) (slots + (N + ms)) Q (F0 m (pc1 + 3) ls (.ref q :: rest))) : W p l e R s m args below meth c H locs cells slots Q (F0 m pc ls rest) := by
  obtain ⟨hx, hb, hml, hown, hts, hK, hr1, hlo⟩ := C
  refine va_new hx hb hts hin ty0 hty hown (hts _ hcl) (hts _ hinst) (hts _ hini) hK h.1 h.2.1 h.2.2.1 h.2.2.2 hc hfs (by omega) (by omega) d0 (fun q H1 hP hD hS => ?_)
  refine lv_dup hx hb d3 rfl ?_
  refine dA q H1 ⟨hP, hD, hS, h.2.2.2⟩ ?_
  have hq : (ws ++ [(q, Sum.inr (ci, fs))])[ws.length]? = some (q, Sum.inr (ci, fs)) := by simp
  have hAq : A q := hD.2 _ _ hq
  have hF : ∀ x, va_A [(q, Sum.inr (ci, fs))] H1.size x → A x := fun x hx9 => by
    rcases va_A1.mp hx9 with rfl | hx9
    · exact hAq
    · exact h.2.2.2 x (Nat.le_trans hS.1 hx9)
  have hPq : va_P G vwCl [(q, Sum.inr (ci, fs))] H1 := hP.sub [ws.length] (by simp)
  have hDq : va_D (fun _ => True) [(q, (Sum.inr (ci, fs) : va_E))] := ⟨fun i j x y hi hj _ => by
    have := (List.getElem?_eq_some_iff.mp hi).1
    have := (List.getElem?_eq_some_iff.mp hj).1
    simp at *
    omega, fun _ _ _ => trivial⟩
  have hpre : PreS s H1 (va_Pc (.ref q :: As) (Bi G V sz0 q (.inr (ci, fs)) H1.size)) (.ref q :: As) := by
    refine ⟨fun a U g mk q9 => ?_, fun U hU hW9 => ⟨rfl, by rw [hU], by rw [hU]; exact hPq, va_K.moved hW9.alike hK, hDq, X.to hA0 hS hU hW9, hA0 q hAq⟩⟩
    obtain ⟨q0, q1, qP, qK, qD, qX, q2⟩ := q9
    exact ⟨q0, q1, qP, va_K.moved (u := U) (U := U.calling g mk a) (Vm.Alike.refl U.vm) qK, qD, qX.to (U := U.calling g mk a) (A := fun q => sz0 ≤ q) (fun _ z => z) va_S.rf rfl (State.WarmedH.refl U), q2⟩
  have hrun : va_Run p l e R s m args below meth c H1 locs (cells + 1) (slots + N) mc ms (F0 m pc1 ls (As.reverse ++ .ref q :: .ref q :: rest)) (.ref q :: rest) (va_Qv (fun _ : Nat → Nat => True) (fun f t => va_P G vwCl (res q f) t.heap ∧ va_K G vwCl (tysV V) t ∧ va_D (va_A [(q, .inr (ci, fs))] H1.size) (res q f)) (va_A [(q, .inr (ci, fs))] H1.size) (Value.ref q :: As).toArray) (va_A [(q, .inr (ci, fs))] H1.size) := by
    exact va_runI (As := As) (rest := .ref q :: rest) ⟨hx, hb, hml, hown, hts⟩ (hM q (hA0 q hAq) H1.size) cw hpre rfl hnA hsz rfl (lv_room hW) d4 ⟨by omega, by omega⟩
  refine va_callv hrun hS (fun q _ h9 => hF q h9) hF (fun u t H2 locs1 ht hvm hw hB hz1 hk1 hS2 => ?_)
  · obtain ⟨hP1, hK1, hD1⟩ := hB
    rw [ht] at hP1
    obtain ⟨hP3, hD3⟩ := join_last hP hD hk1 hF hP1 hD1
    have := kk q u H2 locs1 ⟨hP3, hD3, hS2, h.2.2.2⟩
    rw [← Nat.add_assoc, ← Nat.add_assoc] at this
    exact this
/-- a constructor's contract out of its body -/
theorem ci_of {y : MethodName} {wsy wsy' : List Cond} {fr lo mc ms sz0 a maxL : Nat} {e0 : va_E} {res : (Nat → Nat) → va_W} {l : Launch} (hy : plainName y.cls = true) (hn : y.name = "<init>") (hw : wsy = Cond.code y cc maxL none :: wsy') (hlen : 1 ≤ maxL)
    (body : ∀ (p : Program) (e : Env) (s : State) (m : MethodId) (below : List Frame) (meth : Method) (c : Code) (ls : Array Slot), Cx G V p s m #[.ref a] meth c cc maxL y.cls wsy none → meth.name = "<init>" → CL G [(a, e0)] s (va_A [(a, e0)] s.heap.size) s.heap [] → XS sz0 s → sz0 ≤ a → (∀ q, va_A [(a, e0)] s.heap.size q → sz0 ≤ q) → lv_has ls maxL [(0, .ref a)] →
      W p l e { frames := fr, cells := mc, slots := ms, locals := lo } s m #[.ref a] below meth c s.heap [] 0 0 (MQ below (va_Qv (fun _ : Nat → Nat => True) (fun f t => va_P G vwCl (res f) t.heap ∧ va_K G vwCl (tysV V) t ∧ va_D (va_A [(a, e0)] s.heap.size) (res f)) (va_A [(a, e0)] s.heap.size)) #[.ref a] s mc ms (va_A [(a, e0)] s.heap.size)) (F0 m 0 ls [])) : CI l G V y wsy fr lo mc ms sz0 a e0 res := by
  intro sz
  refine Met.ofW (cc := cc) (maxL := maxL) (ret := none) hy hw ?_
  intro p e s m args below meth c s₁ B hml hv
  obtain ⟨rfl, hsz, hP, hK, hD0, hX, ha⟩ := hv
  subst hsz
  have hl := lv_entry ([.ref a]) (n := maxL) hlen
  rw [lg_entry_eq]
  generalize (lg_sl ([.ref a]) ++ List.replicate (maxL - (lg_sl ([.ref a])).length) Slot.unset).toArray = ls at hl ⊢
  exact body p e s m below meth c ls ⟨B.exec, B.bytes, hml, findClass_of_methodNamed B.named, atoms_spec (ws := wsy) B.pre, hK, B.returns, B.notSynchronized⟩ ((name_of_methodNamed B.named B.method).1.trans hn) ⟨hP, hD0.self, va_S.rf, fun q hq => Or.inr hq⟩ hX ha (fun q hq => (va_A1.mp hq).elim (fun z => by rw [z]; exact ha) (fun z => Nat.le_trans hX.2.2 z)) hl
/-- a constructor's contract with arguments out of its body -/
theorem cj_of {y : MethodName} {wsy wsy' : List Cond} {fr lo mc ms sz0 a maxL : Nat} {e0 : va_E} {res : (Nat → Nat) → va_W} {l : Launch} {As : List Value} (hy : plainName y.cls = true) (hn : y.name = "<init>") (hw : wsy = Cond.code y cc maxL none :: wsy') (hlen : (lg_sl (.ref a :: As)).length ≤ maxL)
    (body : ∀ (p : Program) (e : Env) (s : State) (m : MethodId) (below : List Frame) (meth : Method) (c : Code) (ls : Array Slot), Cx G V p s m (Value.ref a :: As).toArray meth c cc maxL y.cls wsy none → meth.name = "<init>" → CL G [(a, e0)] s (va_A [(a, e0)] s.heap.size) s.heap [] → XS sz0 s → sz0 ≤ a → (∀ q, va_A [(a, e0)] s.heap.size q → sz0 ≤ q) → lv_has ls maxL (lv_args 0 (.ref a :: As)) →
      W p l e { frames := fr, cells := mc, slots := ms, locals := lo } s m (Value.ref a :: As).toArray below meth c s.heap [] 0 0 (MQ below (va_Qv (fun _ : Nat → Nat => True) (fun f t => va_P G vwCl (res f) t.heap ∧ va_K G vwCl (tysV V) t ∧ va_D (va_A [(a, e0)] s.heap.size) (res f)) (va_A [(a, e0)] s.heap.size)) (Value.ref a :: As).toArray s mc ms (va_A [(a, e0)] s.heap.size)) (F0 m 0 ls [])) : CJ l G V As y wsy fr lo mc ms sz0 a e0 res := by
  intro sz
  refine Met.ofW (cc := cc) (maxL := maxL) (ret := none) hy hw ?_
  intro p e s m args below meth c s₁ B hml hv
  obtain ⟨rfl, hsz, hP, hK, hD0, hX, ha⟩ := hv
  subst hsz
  have hl := lv_entry (.ref a :: As) (n := maxL) hlen
  rw [lg_entry_eq]
  generalize (lg_sl (.ref a :: As) ++ List.replicate (maxL - (lg_sl (.ref a :: As)).length) Slot.unset).toArray = ls at hl ⊢
  exact body p e s m below meth c ls ⟨B.exec, B.bytes, hml, findClass_of_methodNamed B.named, atoms_spec (ws := wsy) B.pre, hK, B.returns, B.notSynchronized⟩ ((name_of_methodNamed B.named B.method).1.trans hn) ⟨hP, hD0.self, va_S.rf, fun q hq => Or.inr hq⟩ hX ha (fun q hq => (va_A1.mp hq).elim (fun z => by rw [z]; exact ha) (fun z => Nat.le_trans hX.2.2 z)) hl
/-- the end of a constructor -/
theorem k_end {a : Nat} {e0 : va_E} {mc ms : Nat} {res : (Nat → Nat) → va_W} (C : Cx G V p s m args meth c cc nL own Ts none) (f : Nat → Nat) (h : CL G ws s (va_A [(a, e0)] s.heap.size) H locs) (he : ws = res f) (hdg : decode cc pc = .ok (.return_, 1)) (hc : cells ≤ mc) (hs : slots ≤ ms) :
    W p l e R s m args below meth c H locs cells slots (MQ below (va_Qv (fun _ : Nat → Nat => True) (fun f t => va_P G vwCl (res f) t.heap ∧ va_K G vwCl (tysV V) t ∧ va_D (va_A [(a, e0)] s.heap.size) (res f)) (va_A [(a, e0)] s.heap.size)) args s mc ms (va_A [(a, e0)] s.heap.size)) (F0 m pc ls []) := by
  obtain ⟨hx, hb, hml, hown, hts, hK, hr1, hlo⟩ := C
  subst he
  refine W.widen hc hs ?_
  exact W.vret hx hb hr1 (fun t ht hW => ⟨⟨f, rfl, trivial, h.fin hK t ht hW⟩, h.2.2.1.F ht⟩) h.2.2.1.2.2 hdg hlo
end Init
