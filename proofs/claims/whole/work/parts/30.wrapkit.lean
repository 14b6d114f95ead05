/-! the law's own methods: they catch what the class throws; contracts, catching, the rows that take the answers -/
/-- an exception of one kind is none of another kind -/
def NC (s : State) : Prop := ∀ a ∈ exs, ∀ b ∈ exs, a ≠ b → va_Nc a b s
def BW (G : va_G) (V : wV) (rs : List Nat) (w : wW) (sz : Nat) : State → Prop := fun U => B0 G V rs w sz U ∧ NC U
def CW (l : Launch) (G : va_G) (V : wV) (rs : List Nat) (y : MethodName) (wsy : List Cond) (fr lo mc ms : Nat) (As : List Value) (w : wW) (post : Option Value → wW → Prop) : Prop :=
  ∀ sz : Nat, vx_Met l y wsy { frames := fr, cells := mc, slots := ms, locals := lo } (va_Pc As (BW G V rs w sz)) (QC G V rs sz post) (QX G V rs sz (fun _ _ => False)) mc ms (adr V rs sz)
theorem NC.to {s U : State} (h : NC s) (hW : s.WarmedH U.vm) : NC U := fun a ha b hb hab => va_Nc.moved hW.alike (h a ha b hb hab)
theorem BW_blind {G : va_G} {V : wV} {rs : List Nat} {w : wW} {sz : Nat} {As : List Value} : FrameBlind (va_Pc As (BW G V rs w sz)) := by
  intro a U g mk h
  obtain ⟨h0, ⟨h1, h2, h3, h4, h5⟩, h6⟩ := h
  exact ⟨h0, ⟨h1, h2, va_K.moved (u := U) (U := U.calling g mk a) (Vm.Alike.refl U.vm) h3, h4, h5.to (U := U.calling g mk a) va_S.rf rfl (State.WarmedH.refl U)⟩, h6.to (U := U.calling g mk a) (State.WarmedH.refl U)⟩
section Start
variable {l : Launch} {G : va_G} {V : wV} {rs : List Nat} {y : MethodName} {wsy wsy' : List Cond} {fr lo mc ms : Nat} {As : List Value} {w : wW} {post : Option Value → wW → Prop} {cc : ByteArray} {maxL : Nat} {ret : Option FieldType} {hh : List (Nat × Nat × Nat × Nat)}
/-- a contract of a method with a table out of its body -/
theorem cw_of (hy : plainName y.cls = true) (hw : wsy = Cond.codeWith y cc maxL ret hh :: wsy') (hlen : (lg_sl As).length ≤ maxL)
    (body : ∀ (p : Program) (e : Env) (s : State) (m : MethodId) (below : List Frame) (meth : Method) (c : Code) (ls : Array Slot), Cx G V p s m As.toArray meth c cc maxL y.cls wsy ret → HH G V rs w s s.heap [] → XX V rs s → NC s → c.exceptionTable.toList = tableOf hh → lv_has ls maxL (lv_args 0 As) →
      W p l e { frames := fr, cells := mc, slots := ms, locals := lo } s m As.toArray below meth c s.heap [] 0 0 (QM G V rs below As.toArray s mc ms post (fun _ _ => False)) (F0 m 0 ls [])) : CW l G V rs y wsy fr lo mc ms As w post := by
  intro sz
  refine vx_ofWH (cc := cc) (maxL := maxL) (ret := ret) (hh := hh) hy hw ?_
  intro p e s m args below meth c s₁ B hml hv
  obtain ⟨rfl, ⟨hsz, hP, hK, hD0, hX⟩, hN⟩ := hv
  subst hsz
  have hl := lv_entry As (n := maxL) hlen
  rw [lg_entry_eq]
  generalize (lg_sl As ++ List.replicate (maxL - (lg_sl As).length) Slot.unset).toArray = ls at hl ⊢
  have hpre := atoms_spec (ws := wsy) B.pre
  exact body p e s m below meth c ls ⟨B.exec, B.bytes, hml, findClass_of_methodNamed B.named, hpre, hK, B.returns, B.notSynchronized⟩ ⟨hP, va_D_adr hD0, va_S.rf⟩ hX hN (vx_table (x := y) B (hpre _ (by rw [hw]; exact List.mem_cons_self))) hl
end Start
section Calls
variable {G : va_G} {V : wV} {rs : List Nat} {w : wW} {p : Program} {l : Launch} {e : Env} {R : Room} {s : State} {m : MethodId} {args : Array Value} {below : List Frame} {meth : Method} {c : Code} {cc : ByteArray} {nL : Nat} {own : String} {Ts : List Cond} {ret : Option FieldType} {H : Heap} {locs : List Loc} {cells slots pc : Nat} {Q : State → Prop} {ls : Array Slot} {st0 rest : List Value}
variable {m0 s0 : Nat} {po : Option Value → wW → Prop} {xp : String → wW → Prop}
/-- behind a call; what it throws is caught here -/
theorem n_goC (C : Cx G V p s m args meth c cc nL own Ts ret) (h : HH G V rs w s H locs) {a : Array Value} (hr : RN p l e R s m args below meth c H locs cells slots m0 s0 (F0 m pc ls st0) rest G V rs po xp a)
    (kk : ∀ (v : Option Value) (u : wW) (H : Heap) (locs : List Loc), po v u → HH G V rs u s H locs → W p l e R s m args below meth c H locs (cells + m0) (slots + s0) Q (F0 m (pc + 3) ls (v.toList ++ rest)))
    (kx : ∀ (E : String) (u : wW) (H : Heap) (locs : List Loc) (q : Addr) (ce : Cell), xp E u → HH G V rs u s H locs → H[q]? = some ce → ce.vm = .none → s.vm.findClass E = some ce.cls → vx_W p l e R s m args below meth c H locs (cells + m0) (slots + s0) Q (F0 m pc ls rest) q) :
    W p l e R s m args below meth c H locs cells slots Q (F0 m pc ls st0) := by
  have hadr : ∀ q, adr V rs H.size q → adr V rs s.heap.size q := fun q hq => adr_mono h.2.2.1 hq
  intro T hT1 X
  rcases hr T hT1 X with ⟨v, st₀, t, T', L, h0, X', hL, e1, e2, ⟨⟨v', u, hv, hp, hb⟩, hF⟩, st⟩ | ⟨q, st₀, t, T', L, E, ce, h0, X', hL, e1, e2, ⟨u, hp, hb, hF⟩, hce, hcv, hcl, st⟩
  · cases hv
    obtain ⟨k1, k2, k3⟩ := vx_keep h0 e1 h.2.2 (fun q _ z => hadr q z) hadr hL hF
    obtain ⟨t2, a1, b1⟩ := kk v u T'.heap (locs ++ L) hp ⟨by rw [e1]; exact hb.1, va_D_adr hb.2.2, k3⟩ T' rfl X'
    exact ⟨t2, st t2 a1, b1⟩
  · obtain ⟨k1, k2, k3⟩ := vx_keep h0 e1 h.2.2 (fun q _ z => hadr q z) hadr hL hF
    obtain ⟨t2, a1, b1⟩ := kx E u T'.heap (locs ++ L) q ce hp ⟨by rw [e1]; exact hb.1, va_D_adr hb.2.2, k3⟩ (by rw [e1]; exact hce) hcv hcl T' rfl X'
    exact ⟨t2, st.trans a1, b1⟩
/-- a row of the table catches -/
theorem n_catch (C : Cx G V p s m args meth c cc nL own Ts ret) (X : XX V rs s) (hN : NC s) {pre suf : List ExceptionTableEntry} {x : ExceptionTableEntry} (htab : c.exceptionTable.toList = pre ++ x :: suf) {E : String} (hE : E ∈ exs)
    (hpre : ∀ z ∈ pre, z.catchType ≠ 0 ∧ ∃ nm, nm ∈ exs ∧ E ≠ nm ∧ Cond.classLink own z.catchType nm ∈ Ts) (hx : covers x pc = true) (h0 : x.catchType ≠ 0) (hlink : Cond.classLink own x.catchType E ∈ Ts) {q : Addr} {ce : Cell}
    (hcell : H[q]? = some ce) (hv : ce.vm = .none) (hcl : s.vm.findClass E = some ce.cls) (kk : W p l e R s m args below meth c H locs cells slots Q (F0 m x.handlerPc ls [.ref q])) : vx_W p l e R s m args below meth c H locs cells slots Q (F0 m pc ls rest) q := by
  obtain ⟨hx9, hb, hml, hown, hts, hK, hr1, hlo⟩ := C
  refine vx_catch hown pre x suf htab (fun z hz => ?_) hx h0 (hts _ hlink) (va_Nw.use rfl (X.2.2.2.1 E hE)) hcell hv hcl kk
  obtain ⟨h1, nm, h2, h3, h4⟩ := hpre z hz
  exact Or.inr ⟨h1, nm, hts _ h4, hN E hE nm h2 h3⟩
theorem wsr_setm {V : wV} {rs : List Nat} {w w' : wW} {A : Nat → Prop} {r k : Nat} (hD : va_D A (wsr V rs w)) (hk : rs[k]? = some r) (ho : ∀ r', r' ∈ rs → r' ≠ r → cel V w' r' = cel V w r') : (wsr V rs w).set k (V.1 r, cel V w' r) = wsr V rs w' := by
  have hl : k < rs.length := (List.getElem?_eq_some_iff.mp hk).1
  apply List.ext_getElem?
  intro i
  by_cases hi : i = k
  · subst hi
    rw [List.getElem?_set_self (by simpa [wsr] using hl)]
    simp [wsr, hk]
  · rw [List.getElem?_set_ne (Ne.symm hi)]
    simp only [wsr, List.getElem?_map]
    cases hr : rs[i]? with
    | none => simp only [Option.map_none]
    | some r' =>
      have hne : r' ≠ r := by
        intro he
        subst he
        exact hi (hD.1 i k (V.1 r', cel V w r') (V.1 r', cel V w r') (by simp [wsr, hr]) (by simp [wsr, hk]) rfl)
      simp [ho r' (List.mem_of_getElem? hr) hne]
theorem vin0 : vp_in (nI 0) 1 := by
  intro h
  rcases h with h | h
  · exact absurd h (by decide)
  · exact absurd h (by decide)
theorem celF_oL {V : wV} {o o' : wO} (h2 : o'.2 = o.2) {r : Nat} (hr : r ≠ 140) (f : Nat → Int32) : celF V o' r f = celF V o r f := by
  simp only [celF, celO, h2]
  repeat' split
  all_goals first | rfl | omega
theorem celF_oD {V : wV} {o o' : wO} (h2 : o'.1 = o.1) {r : Nat} (hr : r ≠ 141) (hr2 : r < 142) (f : Nat → Int32) : celF V o' r f = celF V o r f := by
  simp only [celF, celO, h2]
  repeat' split
  all_goals first | rfl | omega
/-- the long's place is written -/
theorem r_last0 {M0 R0 : wM} {o0 : wO} (C : Cx G V p s m args meth c cc nL own Ts ret) (h : HH G V rs (M0, R0, o0) s H locs) (hr : 140 ∈ rs) {x : Int64} (hdg : decode cc pc = .ok (.lastore, 1))
    (kk : ∀ (H : Heap) (locs : List Loc), HH G V rs (M0, R0, (vp_updL o0.1 0 x, o0.2)) s H locs → W p l e R s m args below meth c H locs cells slots Q (F0 m (pc + 1) ls rest)) : W p l e R s m args below meth c H locs cells slots Q (F0 m pc ls (.long x :: .int (nI 0) :: .ref (V.1 rOL) :: rest)) := by
  obtain ⟨hx, hb, hml, hown, hts, hK, hr1, hlo⟩ := C
  obtain ⟨k0, hk1, hk0⟩ := wsr_at (V := V) (w := (M0, R0, o0)) hr
  refine va_last (n := 1) (f := o0.1) hx hb hK h.1 h.2.1 h.2.2 k0 6 (hk0.trans rfl) rfl vin0 hdg (fun H1 locs1 hP hD hS => ?_)
  have key : (wsr V rs (M0, R0, o0)).set k0 (V.1 140, cel V (M0, R0, (vp_updL o0.1 0 x, o0.2)) 140) = wsr V rs (M0, R0, (vp_updL o0.1 0 x, o0.2)) := by
    exact wsr_set (w' := (M0, R0, (vp_updL o0.1 0 x, o0.2))) h.2.1 hk1 (fun r' hne => by simp only [cel, row]; exact celF_oL (o := o0) (o' := (vp_updL o0.1 0 x, o0.2)) rfl hne _)
  have e0 : (nI 0).toNatClampNeg = 0 := by decide
  rw [e0] at hP hD
  exact kk H1 locs1 ⟨by rw [← key]; exact hP, by rw [← key]; exact hD, hS⟩
/-- the double's place is written -/
theorem r_dast0 {M0 R0 : wM} {o0 : wO} (C : Cx G V p s m args meth c cc nL own Ts ret) (h : HH G V rs (M0, R0, o0) s H locs) (hr : 141 ∈ rs) (h142 : ∀ r, r ∈ rs → r < 142) {x : UInt64} (hdg : decode cc pc = .ok (.dastore, 1))
    (kk : ∀ (H : Heap) (locs : List Loc), HH G V rs (M0, R0, (o0.1, vf_upd o0.2 0 x)) s H locs → W p l e R s m args below meth c H locs cells slots Q (F0 m (pc + 1) ls rest)) : W p l e R s m args below meth c H locs cells slots Q (F0 m pc ls (.double x :: .int (nI 0) :: .ref (V.1 rOD) :: rest)) := by
  obtain ⟨hx, hb, hml, hown, hts, hK, hr1, hlo⟩ := C
  obtain ⟨k0, hk1, hk0⟩ := wsr_at (V := V) (w := (M0, R0, o0)) hr
  refine va_dast (n := 1) (f := o0.2) hx hb hK h.1 h.2.1 h.2.2 k0 7 (hk0.trans rfl) rfl vin0 hdg (fun H1 locs1 hP hD hS => ?_)
  have key : (wsr V rs (M0, R0, o0)).set k0 (V.1 141, cel V (M0, R0, (o0.1, vf_upd o0.2 0 x)) 141) = wsr V rs (M0, R0, (o0.1, vf_upd o0.2 0 x)) := by
    exact wsr_setm (w' := (M0, R0, (o0.1, vf_upd o0.2 0 x))) h.2.1 hk1 (fun r' hm9 hne => by simp only [cel, row]; exact celF_oD (o := o0) (o' := (o0.1, vf_upd o0.2 0 x)) rfl hne (h142 r' hm9) _)
  have e0 : (nI 0).toNatClampNeg = 0 := by decide
  rw [e0] at hP hD
  exact kk H1 locs1 ⟨by rw [← key]; exact hP, by rw [← key]; exact hD, hS⟩
end Calls
def bL (x : Int32) : Int64 := if x = 0 then 0 else 1
