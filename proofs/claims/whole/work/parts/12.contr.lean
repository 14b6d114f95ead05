/-! ===== BEGIN a private method of a nest mate that may throw (follows va_callVN, va_callSN, va_runVN, va_runSN) ===== -/
section
variable {p : Program} {l : Launch} {e : Env} {R : Room} {s : State} {m : MethodId} {args : Array Value} {below : List Frame} {meth : Method} {c : Code} {H : Heap} {locs : List Loc} {cells slots : Nat}
variable {T : State}
theorem vx_callVN (X : Stand p l e R s m args below meth c T locs cells slots) (hexec : p.tables.exec = Jvm.exec) {own C : String} {index : Nat} {host : String} {y : MethodName} {bytes : ByteArray} {maxL : Nat} {ret : Option FieldType}
    (hown : s.vm.findClass own = some m.cls) (hlink : (Cond.methodLinkNest own index y host).before args s = true) (hinst : (Cond.instanceMethod y).before args s = true) (hsel : (Cond.selects C y y).before args s = true)
    (hcode : (Cond.code y bytes maxL ret).before args s = true) (hy : y.cls ≠ "java/lang/invoke/MethodHandle" ∧ y.cls ≠ "java/lang/invoke/VarHandle")
    {W : Nat} {Pre : Pt → Array Value → Prop} {Post : Pt → Array Value → Option Value → Pt → Prop} {PostX : Pt → Array Value → Addr → Pt → Prop} (hK : vx_Back l R p e below s args y 3 W Pre Post PostX)
    {b : Addr} {cellB : Cell} (hcell : T.heap[b]? = some cellB) (hobj : cellB.vm.isStatics = false) (hcls : s.vm.findClass C = some cellB.cls)
    {g : JFrame} (hg : g.method = m) (hsize : g.locals.size = c.maxLocals) {argsL rest : List Value} (hlen : ∀ sig, parseMethodDescriptor y.desc = some sig → argsL.length = sig.parameters.length)
    (hstack : g.stack = argsL.reverse ++ .ref b :: rest) (hW : 2 * g.monitorRoom + (rest.map fun v => v.category).sum ≤ W) (hdg : decode c.code g.pc = .ok (.invokevirtual index, 3))
    (hpre : ∀ vm₁, s.WarmedH vm₁ → Pre ⟨T.setVm vm₁, locs, cells, slots⟩ (Value.ref b :: argsL).toArray) :
    (∃ (v : Option Value) (vm₁ : Vm) (B : Pt), s.WarmedH vm₁ ∧ Stand p l e R s m args below meth c B.U B.locs B.cells B.slots ∧ Post ⟨T.setVm vm₁, locs, cells, slots⟩ (Value.ref b :: argsL).toArray v B ∧
      ∀ target, Steps p.tables e below (B.U.setTop { g with pc := g.pc + 3, stack := v.toList ++ rest }) target → Steps p.tables e below (T.setTop g) target) ∨
    (∃ (q : Addr) (vm₁ : Vm) (B : Pt), s.WarmedH vm₁ ∧ Stand p l e R s m args below meth c B.U B.locs B.cells B.slots ∧ PostX ⟨T.setVm vm₁, locs, cells, slots⟩ (Value.ref b :: argsL).toArray q B ∧
      Steps p.tables e below (T.setTop g) ((B.U.setTop { g with stack := rest }).pushFrame (.throwing q))) := by
  obtain ⟨mk, methM, hnamed, hmethM, hstM, habM⟩ := Cond.instanceMethod_spec hinst
  obtain ⟨methM', cM, hmethM', -, -, -, -, -, -, hsigM⟩ := Cond.code_spec hnamed hcode
  cases hmethM.symm.trans hmethM'
  obtain ⟨c2, r2, m2, q1, q2, q3, q4, kP, hkP, hkPi⟩ := Cond.selects_spec hsel
  cases hcls.symm.trans q1
  cases (State.methodFound?_of_named hnamed hy).symm.trans q2
  cases hnamed.symm.trans q3
  have hselP : selectMethod e.platform s.vm cellB.cls mk = .method mk := by rw [Launch.admits_selectMethod X.admits]; exact q4
  obtain ⟨vm₁, X₁, hstep₁⟩ := X.invokevirtualNest hexec hown hlink hnamed hmethM hstM hkP hkPi hy (a := b) (cell := cellB) hcell
    (fun z h => by rw [h] at hobj; cases hobj) hselP hmethM habM hkP hkPi (g := g) hg (argsL := argsL) (rest := rest) (hlen _ hsigM) hstack hdg
  rcases hK m meth c ⟨T.setVm vm₁, locs, cells, slots⟩ { g with stack := rest } (.invokevirtual index) mk (Value.ref b :: argsL).toArray X₁ hg hsize hdg hW (X₁.named hnamed) (hpre vm₁ X₁.warmed) with ⟨v, B, X', hpost, hsteps⟩ | ⟨q, B, X', hpost, hsteps⟩
  · exact Or.inl ⟨v, vm₁, B, X₁.warmed, X', hpost, fun target h => hstep₁ _ fun acts => by rw [doInvoke_state]; exact hsteps.trans h⟩
  · exact Or.inr ⟨q, vm₁, B, X₁.warmed, X', hpost, hstep₁ _ fun acts => by rw [doInvoke_state]; exact hsteps⟩
theorem vx_callSN (X : Stand p l e R s m args below meth c T locs cells slots) (hexec : p.tables.exec = Jvm.exec) {own : String} {index : Nat} {host : String} {y : MethodName} {bytes : ByteArray} {maxL : Nat} {ret : Option FieldType}
    (hown : s.vm.findClass own = some m.cls) (hlink : (Cond.methodLinkNest own index y host).before args s = true) (hstat : (Cond.static y).before args s = true) (hinit : (Cond.initialized y.cls).before args s = true)
    (hcode : (Cond.code y bytes maxL ret).before args s = true) (hy : y.cls ≠ "java/lang/invoke/MethodHandle" ∧ y.cls ≠ "java/lang/invoke/VarHandle")
    {W : Nat} {Pre : Pt → Array Value → Prop} {Post : Pt → Array Value → Option Value → Pt → Prop} {PostX : Pt → Array Value → Addr → Pt → Prop} (hK : vx_Back l R p e below s args y 3 W Pre Post PostX)
    {g : JFrame} (hg : g.method = m) (hsize : g.locals.size = c.maxLocals) {argsL rest : List Value} (hlen : ∀ sig, parseMethodDescriptor y.desc = some sig → argsL.length = sig.parameters.length)
    (hstack : g.stack = argsL.reverse ++ rest) (hW : 2 * g.monitorRoom + (rest.map fun v => v.category).sum ≤ W) (hdg : decode c.code g.pc = .ok (.invokestatic index, 3))
    (hpre : ∀ vm₁, s.WarmedH vm₁ → Pre ⟨T.setVm vm₁, locs, cells, slots⟩ argsL.toArray) :
    (∃ (v : Option Value) (vm₁ : Vm) (B : Pt), s.WarmedH vm₁ ∧ Stand p l e R s m args below meth c B.U B.locs B.cells B.slots ∧ Post ⟨T.setVm vm₁, locs, cells, slots⟩ argsL.toArray v B ∧
      ∀ target, Steps p.tables e below (B.U.setTop { g with pc := g.pc + 3, stack := v.toList ++ rest }) target → Steps p.tables e below (T.setTop g) target) ∨
    (∃ (q : Addr) (vm₁ : Vm) (B : Pt), s.WarmedH vm₁ ∧ Stand p l e R s m args below meth c B.U B.locs B.cells B.slots ∧ PostX ⟨T.setVm vm₁, locs, cells, slots⟩ argsL.toArray q B ∧
      Steps p.tables e below (T.setTop g) ((B.U.setTop { g with stack := rest }).pushFrame (.throwing q))) := by
  obtain ⟨mk, hnamed⟩ := Cond.code_named hcode
  obtain ⟨methM, cM, hmethM, -, -, -, -, -, -, hsigM⟩ := Cond.code_spec hnamed hcode
  have hstatic : methM.isStatic = true := Cond.static_spec hnamed hmethM hstat
  obtain ⟨kP, hkP, -⟩ := className_of_methodNamed hnamed
  have hinitP : kP.init = .initialized := Cond.initialized_spec (findClass_of_methodNamed hnamed) hkP hinit
  obtain ⟨vm₁, X₁, hstep₁⟩ := X.invokestaticNest hexec hown hlink hnamed hmethM hstatic hkP hinitP hy (g := g) hg (argsL := argsL) (rest := rest) (hlen _ hsigM) hstack hdg
  rcases hK m meth c ⟨T.setVm vm₁, locs, cells, slots⟩ { g with stack := rest } (.invokestatic index) mk argsL.toArray X₁ hg hsize hdg hW (X₁.named hnamed) (hpre vm₁ X₁.warmed) with ⟨v, B, X', hpost, hsteps⟩ | ⟨q, B, X', hpost, hsteps⟩
  · exact Or.inl ⟨v, vm₁, B, X₁.warmed, X', hpost, fun target h => hstep₁ _ fun acts => by rw [doInvoke_state]; exact hsteps.trans h⟩
  · exact Or.inr ⟨q, vm₁, B, X₁.warmed, X', hpost, hstep₁ _ fun acts => by rw [doInvoke_state]; exact hsteps⟩
theorem vx_runVN {y : MethodName} {bytes cc : ByteArray} {maxL nL mc ms n index : Nat} {ret : Option FieldType} {ws : List Cond} {rm : Room} {Pc : Array Value → State → Prop} {Qc : Array Value → State → Outcome → State → Prop} {XC : String → State → State → Prop} {free : Addr → Prop} {Ts : List Cond} {own C host : String} {b : Addr} {As rest : List Value} {g : JFrame}
    (S : CallFix p m c cc nL s args Ts own) (hM : vx_Met l y ws rm Pc Qc XC mc ms free) (cw : va_CN R s args own index y host bytes maxL ret ws rm mc ms n ∧ (Cond.instanceMethod y).before args s = true ∧ (Cond.selects C y y).before args s = true) (hp : PreV s H C b Pc As)
    (hg : g.method = m) (hn : As.length = n) (hsize : g.locals.size = nL) (hstack : g.stack = As.reverse ++ .ref b :: rest) (hW : 2 * g.monitorRoom + (rest.map fun v => v.category).sum ≤ 8) (hdg : decode cc g.pc = .ok (.invokevirtual index, 3)) (hf : cells + mc ≤ R.cells ∧ slots + ms ≤ R.slots) :
    vx_Run p l e R s m args below meth c H locs cells slots mc ms g rest (Qc (Value.ref b :: As).toArray) XC free := by
  obtain ⟨⟨⟨hrc, hrs, hfr, hlo, hws, hcw⟩, hcode, hini, hy, hlen, hl⟩, hx1, hx2⟩ := cw
  have hK : vx_Back l R p e below s args y 3 8 (PreOf R mc ms Pc) (PostOf Qc mc ms free) (vx_Post XC mc ms free) := vx_back (bytes := bytes) (maxL := maxL) (ret := ret) hM hp.1 hrc hrs hfr hlo hws hcw (fun a' U hW => word_at hW (Or.inl (by first | rfl | simp [Cond.onTables, Cond.keeps, Cond.steady])) hini)
  obtain ⟨hx, hb, hml, ho, -⟩ := S
  obtain ⟨-, ⟨cellB, hcB, hoB, hclB⟩, hPc⟩ := hp
  intro T hT X
  rcases vx_callVN X hx (C := C) (bytes := bytes) (maxL := maxL) (ret := ret) ho hl hx1 hx2 hcode hy hK (by rw [hT]; exact hcB) hoB hclB hg (hsize.trans hml.symm) (argsL := As) (rest := rest) (fun sig h => hn.trans (hlen sig h)) hstack hW (by rw [hb]; exact hdg)
    (fun vm₁ hW₁ => ⟨hf.1, hf.2, hPc (T.setVm vm₁) hT hW₁⟩) with ⟨v, vm₁, ⟨U', l2, c2, s2⟩, hW₁, X', ⟨g', mk, t, L, e1, e2, hq, h1, hL, h2, h3⟩, st⟩ | ⟨q, vm₁, ⟨U', l2, c2, s2⟩, hW₁, X', ⟨g', mk, t, L, E, ce, e1, e2, hq, hce, hcv, hcl, h1, hL, h2, h3⟩, st⟩
  · dsimp only [Pt.U, Pt.locs, Pt.cells, Pt.slots] at X' e1 e2 h1 h2 h3 st
    subst h1; subst h2; subst h3
    exact Or.inl ⟨v, (T.setVm vm₁).calling g' mk (Value.ref b :: As).toArray, t, U', L, hT, X', hL, e1, e2, hq, st⟩
  · dsimp only [Pt.U, Pt.locs, Pt.cells, Pt.slots] at X' e1 e2 h1 h2 h3 st hcl
    subst h1; subst h2; subst h3
    exact Or.inr ⟨q, (T.setVm vm₁).calling g' mk (Value.ref b :: As).toArray, t, U', L, E, ce, hT, X', hL, e1, e2, hq, hce, hcv, vx_cls hW₁ hcl, st⟩
theorem vx_runSN {y : MethodName} {bytes cc : ByteArray} {maxL nL mc ms n index : Nat} {ret : Option FieldType} {ws : List Cond} {rm : Room} {Pc : Array Value → State → Prop} {Qc : Array Value → State → Outcome → State → Prop} {XC : String → State → State → Prop} {free : Addr → Prop} {Ts : List Cond} {own host : String} {As rest : List Value} {g : JFrame}
    (S : CallFix p m c cc nL s args Ts own) (hM : vx_Met l y ws rm Pc Qc XC mc ms free) (cw : va_CN R s args own index y host bytes maxL ret ws rm mc ms n ∧ (Cond.static y).before args s = true ∧ True) (hp : PreS s H Pc As)
    (hg : g.method = m) (hn : As.length = n) (hsize : g.locals.size = nL) (hstack : g.stack = As.reverse ++ rest) (hW : 2 * g.monitorRoom + (rest.map fun v => v.category).sum ≤ 8) (hdg : decode cc g.pc = .ok (.invokestatic index, 3)) (hf : cells + mc ≤ R.cells ∧ slots + ms ≤ R.slots) :
    vx_Run p l e R s m args below meth c H locs cells slots mc ms g rest (Qc As.toArray) XC free := by
  obtain ⟨⟨⟨hrc, hrs, hfr, hlo, hws, hcw⟩, hcode, hini, hy, hlen, hl⟩, hx1, hx2⟩ := cw
  have hK : vx_Back l R p e below s args y 3 8 (PreOf R mc ms Pc) (PostOf Qc mc ms free) (vx_Post XC mc ms free) := vx_back (bytes := bytes) (maxL := maxL) (ret := ret) hM hp.1 hrc hrs hfr hlo hws hcw (fun a' U hW => word_at hW (Or.inl (by first | rfl | simp [Cond.onTables, Cond.keeps, Cond.steady])) hini)
  obtain ⟨hx, hb, hml, ho, -⟩ := S
  have hPc := hp.2
  intro T hT X
  rcases vx_callSN X hx (bytes := bytes) (maxL := maxL) (ret := ret) ho hl hx1 hini hcode hy hK hg (hsize.trans hml.symm) (argsL := As) (rest := rest) (fun sig h => hn.trans (hlen sig h)) hstack hW (by rw [hb]; exact hdg)
    (fun vm₁ hW₁ => ⟨hf.1, hf.2, hPc (T.setVm vm₁) hT hW₁⟩) with ⟨v, vm₁, ⟨U', l2, c2, s2⟩, hW₁, X', ⟨g', mk, t, L, e1, e2, hq, h1, hL, h2, h3⟩, st⟩ | ⟨q, vm₁, ⟨U', l2, c2, s2⟩, hW₁, X', ⟨g', mk, t, L, E, ce, e1, e2, hq, hce, hcv, hcl, h1, hL, h2, h3⟩, st⟩
  · dsimp only [Pt.U, Pt.locs, Pt.cells, Pt.slots] at X' e1 e2 h1 h2 h3 st
    subst h1; subst h2; subst h3
    exact Or.inl ⟨v, (T.setVm vm₁).calling g' mk As.toArray, t, U', L, hT, X', hL, e1, e2, hq, st⟩
  · dsimp only [Pt.U, Pt.locs, Pt.cells, Pt.slots] at X' e1 e2 h1 h2 h3 st hcl
    subst h1; subst h2; subst h3
    exact Or.inr ⟨q, (T.setVm vm₁).calling g' mk As.toArray, t, U', L, E, ce, hT, X', hL, e1, e2, hq, hce, hcv, vx_cls hW₁ hcl, st⟩
end
/-! ===== END ===== -/
section NXW
variable {p : Program} {l : Launch} {e : Env} {R : Room} {s : State} {args : Array Value} {below : List Frame} {meth : Method} {c : Code} {locs : List Loc} {cells slots : Nat}
/-- 'throw new E("text")': new; dup; ldc_w; invokespecial; athrow, or with ldc -/
theorem nx_throwSW {m : MethodId} {H : Heap} {ls : Array Slot} {rest : List Value} {Qc : Array Value → State → Outcome → State → Prop} {XC : String → State → State → Prop} {free : Addr → Prop} {cc : ByteArray} {pc : Nat} (hexec : p.tables.exec = Jvm.exec) (hb : c.code = cc) (hl : l.stackTraces = false) {own cls text Y0 : String} {r0 : List String} {ik is ic mc ms sa : Nat} {A : Nat → Prop}
    (hown : s.vm.findClass own = some m.cls) (hcls : Bundle.fit cls = true) (hnames : ∀ n ∈ Y0 :: r0, Bundle.fit n = true)
    (hk : (Cond.classLink own ik cls).before args s = true) (hini : (Cond.initialized cls).before args s = true) (hstr : vk_R own is text sa s) (hat : ∀ w ∈ nx_atS own ic cls (Y0 :: r0), w.before args s = true)
    (hgood : ∀ w ∈ Cond.classLink own ik cls :: Cond.initialized cls :: nx_atS own ic cls (Y0 :: r0), vx_ot w = true)
    (hU : vx_Zq Bundle.tN "UNASSIGNED_STACK" Bundle.steD A s s.heap) (hN : vx_Zq Bundle.tN "SUPPRESSED_SENTINEL" Bundle.listD A s s.heap) (hS : va_S A s.heap H locs) (hsize : ls.size = c.maxLocals)
    (d0 : decode cc pc = .ok (.new ik, 3)) (d3 : decode cc (pc + 3) = .ok (.dup, 1)) (d4 : decode cc (pc + 4) = .ok (.ldc_w is, 3)) (d6 : decode cc (pc + 7) = .ok (.invokespecial ic, 3)) (d9 : decode cc (pc + 10) = .ok (.athrow, 1))
    (hout : ∀ x ∈ c.exceptionTable.toList, covers x (pc + 10) = false)
    (hRframes : r0.length + 1 + 3 < R.frames) (hRlocals : (rest.map fun v => v.category).sum + (13 * (r0.length + 1 + 1) + 43) ≤ R.locals) (hRcells : cells + 1 ≤ R.cells) (hRslots : slots + 6 ≤ R.slots) (hlocks : meth.locks = false)
    (hx : ∀ t : State, s.vm.Alike t.vm → H.size ≤ t.heap.size → (∀ q : Nat, q < H.size → t.heap[q]? = H[q]?) → XC cls s t)
    (hf : ∀ z ∈ locs, free z.base) (hc : cells + 1 ≤ mc) (hs : slots + 6 ≤ ms) :
    W p l e R s m args below meth c H locs cells slots (vx_MQ below Qc XC args s mc ms free) (F0 m pc ls rest) := by
  intro T hT X
  have htr : e.platform.stackTraces = false := (show e.platform.stackTraces = l.stackTraces by rw [X.admits.platform]).trans hl
  have Y := vx_rebase X (R' := { frames := R.frames, locals := R.locals, cells := 1, slots := 6 }) (Nat.le_refl _) (Nat.le_refl _) hRcells hRslots
  obtain ⟨s', hA⟩ : ∃ z, z = (T.setVm s.vm).setFrames (.invoking m args :: below) := ⟨_, rfl⟩
  rw [← hA] at Y
  have hvm : s'.vm = s.vm := by rw [hA]; rfl
  have hhp : s'.heap = H := by rw [hA]; exact hT
  have hW0 : s.WarmedH s'.vm := by rw [hvm]; exact State.WarmedH.refl s
  have hat' : ∀ w ∈ nx_atS own ic cls (Y0 :: r0), w.before args s' = true := fun w hw => vx_ot_at hW0 hvm.symm (hgood w (List.mem_cons_of_mem _ (List.mem_cons_of_mem _ hw))) (hat w hw)
  have hk' : (Cond.classLink own ik cls).before args s' = true := vx_ot_at hW0 hvm.symm (hgood _ List.mem_cons_self) hk
  have hini' : (Cond.initialized cls).before args s' = true := vx_ot_at hW0 hvm.symm (hgood _ (List.mem_cons_of_mem _ List.mem_cons_self)) hini
  have hU' : vx_Zq Bundle.tN "UNASSIGNED_STACK" Bundle.steD A s' s'.heap := by rw [hhp]; exact vx_Zq.moved hW0.alike (hU.kept hS.2.1)
  have hN' : vx_Zq Bundle.tN "SUPPRESSED_SENTINEL" Bundle.listD A s' s'.heap := by rw [hhp]; exact vx_Zq.moved hW0.alike (hN.kept hS.2.1)
  have h : ∀ w ∈ nx_own own ic cls 13 nx_rx (Y0 :: r0), w.before args s' = true := vx_own hat' (vx_isRefq hU'.1) (vx_isRefq hN'.1) hU'.2.word hN'.2.word
  have hown' : s'.vm.findClass own = some m.cls := by rw [hvm]; exact hown
  have hins : (Cond.instantiable cls 6).before args s' = true := h _ (by simp [nx_own])
  obtain ⟨vm₁, cX, kX, hfX, hkX, -, -, X₁, st1⟩ := Y.newCold hexec (own := own) (C := cls) (index := ik) (n := 6) hown' hk' hins hini'
    (g := F0 m pc ls rest) rfl (by rw [hb]; exact d0) (Nat.le_refl _) (Nat.le_refl _)
  generalize hT1 : (T.setVm vm₁).pushCell { cls := cX, slots := kX.instanceTypes.map defaultValue, vm := .none } = T1 at X₁ st1
  have hcat : (Value.ref T.heap.size).category = 1 := rfl
  have hcellA : T1.heap[T.heap.size]? = some (freshCell cX kX) := by rw [← hT1]; exact State.heap_pushCell_size _ _
  have d3' : decode c.code (pc + 3) = .ok (.dup, 1) := by rw [hb]; exact d3
  have d4' : decode c.code (pc + 4) = .ok (.ldc_w is, 3) := by rw [hb]; exact d4
  have hstr' : vk_R own is text sa s' := vk_R.warm hW0 hstr
  obtain ⟨U, hsteps, hrun, hend, hW, hsame, ce, hce, hcl', hcev⟩ := nx_ctor X₁ hexec htr (own := own) (cls := cls) (Y0 := Y0) (r0 := r0) (ic := ic) (ix := 13) (rx := nx_rx) (by decide +kernel) (by decide +kernel) (by decide +kernel) (by decide +kernel) hown' hcls hnames h (fun x hx => nomatch hx) hfX hkX hcellA (by rw [hhp, hT]; exact Nat.le_refl _) (msg := .ref sa) rfl
    (g := { method := m, pc := pc + 7, locals := ls, stack := .ref sa :: .ref T.heap.size :: .ref T.heap.size :: rest, locked := none }) rfl hsize rfl rfl (rest := rest) rfl
    (by rw [hb]; exact d6) (by rw [hb]; exact d9) hout hRframes (by simp only [List.map_cons, List.sum_cons, hcat]; omega) hlocks
  obtain ⟨f1, f2⟩ := vx_frame hsame
  rw [hhp] at f1 f2
  have hWs : s.WarmedH U.vm := State.WarmedH.trans hW0 hW
  have hcl : s.vm.findClass cls = some ce.cls := by rw [hvm] at hcl'; exact hcl'
  have hall : s.sameButNew ({ U with vm := s.vm } : State) locs mc ms := by
    subst hA
    obtain ⟨e1, e2⟩ := hsame
    rw [State.setFrames_setFrames] at e1
    have h2 : (T.setVm s.vm).sameButNew ({ U with vm := s.vm } : State) [] (0 + 1) (0 + 6) := ⟨e1, e2⟩
    have h3 := X.same.trans h2
    rw [List.append_nil] at h3
    exact h3.mono hc hs
  refine ⟨U, ?_, .threw T.heap.size, hrun, hend, Or.inr ⟨T.heap.size, rfl, cls, ce, locs, hx U hWs.alike f1 (fun q hq => f2 q hq (fun z hz => nomatch hz)), hce, hcev, hcl, hWs, hall, hf⟩⟩
  refine st1 _ ?_
  show Steps p.tables e below (T1.setTop { method := m, pc := pc + 3, locals := ls, stack := .ref T.heap.size :: rest, locked := none }) _
  jvm_step X₁.here [X₁.here.top, hexec, d3', Value.category]
  exact X₁.ldcStringW hexec (own := own) (text := text) (index := is) (a := sa) hown' hstr'.1 hstr'.2
    (g := { method := m, pc := pc + 4, locals := ls, stack := .ref T.heap.size :: .ref T.heap.size :: rest, locked := none }) rfl d4' _ hsteps
end NXW
/-! CONTRACTS over the world: what a method answers, or throws, and the world behind it -/
theorem XX.to {V : wV} {rs : List Nat} {s U : State} {H : Heap} {locs : List Loc} (h : XX V rs s) (hS : va_S (adr V rs s.heap.size) s.heap H locs) (hU : U.heap = H) (hW : s.WarmedH U.vm) : XX V rs U := by
  obtain ⟨h1, h2, h3, h4, h6, h5⟩ := h
  have hn : ∀ q, adr V rs U.heap.size q → adr V rs s.heap.size q := fun q hq => adr_mono (by rw [hU]; exact hS.1) hq
  refine ⟨?_, ?_, fun q hq => ?_, fun E hE => va_Nw.warmC hW (h4 E hE), fun Y hY => va_Nw.warmD hW (h6 Y hY), fun q hq => va_Nw.warmM hW (h5 q hq)⟩
  · have := (vx_Zq.moved hW.alike (h1.kept hS.2.1)).narrow hn
    rw [hU] at this ⊢
    exact this
  · have := (vx_Zq.moved hW.alike (h2.kept hS.2.1)).narrow hn
    rw [hU] at this ⊢
    exact this
  · obtain ⟨a, ha⟩ := h3 q hq
    exact ⟨a, vk_R.warm hW ha⟩
def QC (G : va_G) (V : wV) (rs : List Nat) (sz : Nat) (post : Option Value → wW → Prop) : Array Value → State → Outcome → State → Prop := fun _ st oc t => (∃ (v : Option Value) (u : wW), oc = .returned v ∧ post v u ∧ E0 G V rs sz u t) ∧ va_F (adr V rs sz) st t
def QX (G : va_G) (V : wV) (rs : List Nat) (sz : Nat) (xpost : String → wW → Prop) : String → State → State → Prop := fun E st t => ∃ u : wW, xpost E u ∧ E0 G V rs sz u t ∧ va_F (adr V rs sz) st t
def CT (l : Launch) (G : va_G) (V : wV) (rs : List Nat) (y : MethodName) (wsy : List Cond) (fr lo mc ms : Nat) (As : List Value) (w : wW) (post : Option Value → wW → Prop) (xpost : String → wW → Prop) : Prop :=
  ∀ sz : Nat, vx_Met l y wsy { frames := fr, cells := mc, slots := ms, locals := lo } (va_Pc As (B0 G V rs w sz)) (QC G V rs sz post) (QX G V rs sz xpost) mc ms (adr V rs sz)
abbrev QM (G : va_G) (V : wV) (rs : List Nat) (below : List Frame) (args : Array Value) (s : State) (mc ms : Nat) (post : Option Value → wW → Prop) (xpost : String → wW → Prop) : State → Prop :=
  vx_MQ below (QC G V rs s.heap.size post) (QX G V rs s.heap.size xpost) args s mc ms (adr V rs s.heap.size)
theorem B0_blind {G : va_G} {V : wV} {rs : List Nat} {w : wW} {sz : Nat} {As : List Value} : FrameBlind (va_Pc As (B0 G V rs w sz)) := by
  intro a U g mk h
  obtain ⟨h0, h1, h2, h3, h4, h5⟩ := h
  exact ⟨h0, h1, h2, va_K.moved (u := U) (U := U.calling g mk a) (Vm.Alike.refl U.vm) h3, h4, h5.to (U := U.calling g mk a) va_S.rf rfl (State.WarmedH.refl U)⟩
theorem B0_of {G : va_G} {V : wV} {rs : List Nat} {w : wW} {s U : State} {H : Heap} {locs : List Loc} (hK : va_K G vwCl (tysV V) s) (h : HH G V rs w s H locs) (X : XX V rs s) (hU : U.heap = H) (hW : s.WarmedH U.vm) : B0 G V rs w H.size U :=
  ⟨by rw [hU], by rw [hU]; exact h.1, va_K.moved hW.alike hK, h.2.1.weaken (fun _ _ _ _ => trivial), X.to h.2.2 hU hW⟩
section Start
variable {l : Launch} {G : va_G} {V : wV} {rs : List Nat} {y : MethodName} {wsy wsy' : List Cond} {fr lo mc ms : Nat} {As : List Value} {w : wW} {post : Option Value → wW → Prop} {xpost : String → wW → Prop} {cc : ByteArray} {maxL : Nat} {ret : Option FieldType}
/-- a contract out of its body -/
theorem ct_of (hy : plainName y.cls = true) (hw : wsy = Cond.code y cc maxL ret :: wsy') (hlen : (lg_sl As).length ≤ maxL)
    (body : ∀ (p : Program) (e : Env) (s : State) (m : MethodId) (below : List Frame) (meth : Method) (c : Code) (ls : Array Slot), Cx G V p s m As.toArray meth c cc maxL y.cls wsy ret → HH G V rs w s s.heap [] → XX V rs s → (∀ x ∈ c.exceptionTable.toList, False) → lv_has ls maxL (lv_args 0 As) →
      W p l e { frames := fr, cells := mc, slots := ms, locals := lo } s m As.toArray below meth c s.heap [] 0 0 (QM G V rs below As.toArray s mc ms post xpost) (F0 m 0 ls [])) : CT l G V rs y wsy fr lo mc ms As w post xpost := by
  intro sz
  refine vx_ofW (cc := cc) (maxL := maxL) (ret := ret) hy hw ?_
  intro p e s m args below meth c s₁ B hml hT hv
  obtain ⟨rfl, hsz, hP, hK, hD0, hX⟩ := hv
  subst hsz
  have hl := lv_entry As (n := maxL) hlen
  rw [lg_entry_eq]
  generalize (lg_sl As ++ List.replicate (maxL - (lg_sl As).length) Slot.unset).toArray = ls at hl ⊢
  exact body p e s m below meth c ls ⟨B.exec, B.bytes, hml, findClass_of_methodNamed B.named, atoms_spec (ws := wsy) B.pre, hK, B.returns, B.notSynchronized⟩ ⟨hP, va_D_adr hD0, va_S.rf⟩ hX hT hl
end Start
section Ends
variable {G : va_G} {V : wV} {rs : List Nat} {w : wW} {p : Program} {l : Launch} {e : Env} {R : Room} {s : State} {m : MethodId} {args : Array Value} {below : List Frame} {meth : Method} {c : Code} {cc : ByteArray} {nL : Nat} {own : String} {Ts : List Cond} {ret : Option FieldType} {H : Heap} {locs : List Loc} {cells slots pc : Nat} {Q : State → Prop} {ls : Array Slot} {st0 rest : List Value} {mc ms : Nat} {post : Option Value → wW → Prop} {xpost : String → wW → Prop}
theorem qc_of {v : Option Value} (hK : va_K G vwCl (tysV V) s) (h : HH G V rs w s H locs) (hp : post v w) (t : State) (ht : t.heap = H) (hW : s.WarmedH t.vm) : QC G V rs s.heap.size post args s (.returned v) t :=
  ⟨⟨v, w, rfl, hp, by rw [ht]; exact h.1, va_K.moved hW.alike hK, h.2.1⟩, h.2.2.F ht⟩
theorem e_int {ty : FieldType} (C : Cx G V p s m args meth c cc nL own Ts (some ty)) (h : HH G V rs w s H locs) {r : Int32} (hn : narrow ty (.int r) = .int r) (hdg : decode cc pc = .ok (.ireturn, 1)) (hp : post (some (.int r)) w) (hc : cells ≤ mc) (hs : slots ≤ ms) :
    W p l e R s m args below meth c H locs cells slots (QM G V rs below args s mc ms post xpost) (F0 m pc ls [.int r]) := by
  obtain ⟨hx, hb, hml, hown, hts, hK, hr1, hlo⟩ := C
  refine W.widen hc hs (vx_ret ?_)
  exact W.zret hx hb hr1 hn (fun t ht hW => qc_of hK h hp t ht hW) (fun q hq => h.2.2.2.2 q hq) hdg hlo
theorem e_void (C : Cx G V p s m args meth c cc nL own Ts none) (h : HH G V rs w s H locs) (hdg : decode cc pc = .ok (.return_, 1)) (hp : post none w) (hc : cells ≤ mc) (hs : slots ≤ ms) :
    W p l e R s m args below meth c H locs cells slots (QM G V rs below args s mc ms post xpost) (F0 m pc ls []) := by
  obtain ⟨hx, hb, hml, hown, hts, hK, hr1, hlo⟩ := C
  refine W.widen hc hs (vx_ret ?_)
  exact W.vret hx hb hr1 (fun t ht hW => qc_of hK h hp t ht hW) (fun q hq => h.2.2.2.2 q hq) hdg hlo
theorem e_ref {rt : FieldType} {r : Nat} (C : Cx G V p s m args meth c cc nL own Ts (some rt)) (h : HH G V rs w s H locs) (hrt : (∃ n, rt = .object n) ∨ ∃ t, rt = .array t) (hdg : decode cc pc = .ok (.areturn, 1)) (hp : post (some (.ref r)) w) (hc : cells ≤ mc) (hs : slots ≤ ms) :
    W p l e R s m args below meth c H locs cells slots (QM G V rs below args s mc ms post xpost) (F0 m pc ls [.ref r]) := by
  obtain ⟨hx, hb, hml, hown, hts, hK, hr1, hlo⟩ := C
  refine W.widen hc hs (vx_ret ?_)
  exact W.aret hx hb hr1 hrt (Or.inr ⟨r, rfl⟩) (fun t ht hW => qc_of hK h hp t ht hW) (fun q hq => h.2.2.2.2 q hq) hdg hlo
theorem e_long {r : Int64} (C : Cx G V p s m args meth c cc nL own Ts (some .long)) (h : HH G V rs w s H locs) (hdg : decode cc pc = .ok (.lreturn, 1)) (hp : post (some (.long r)) w) (hc : cells ≤ mc) (hs : slots ≤ ms) :
    W p l e R s m args below meth c H locs cells slots (QM G V rs below args s mc ms post xpost) (F0 m pc ls [.long r]) := by
  obtain ⟨hx, hb, hml, hown, hts, hK, hr1, hlo⟩ := C
  refine W.widen hc hs (vx_ret ?_)
  exact W.lret hx hb hr1 (fun t ht hW => qc_of hK h hp t ht hW) (fun q hq => h.2.2.2.2 q hq) hdg hlo
theorem e_float {r : UInt32} (C : Cx G V p s m args meth c cc nL own Ts (some .float)) (h : HH G V rs w s H locs) (hdg : decode cc pc = .ok (.freturn, 1)) (hp : post (some (.float r)) w) (hc : cells ≤ mc) (hs : slots ≤ ms) :
    W p l e R s m args below meth c H locs cells slots (QM G V rs below args s mc ms post xpost) (F0 m pc ls [.float r]) := by
  obtain ⟨hx, hb, hml, hown, hts, hK, hr1, hlo⟩ := C
  refine W.widen hc hs (vx_ret ?_)
  exact W.fret hx hb hr1 (fun t ht hW => qc_of hK h hp t ht hW) (fun q hq => h.2.2.2.2 q hq) hdg hlo
theorem e_double {r : UInt64} (C : Cx G V p s m args meth c cc nL own Ts (some .double)) (h : HH G V rs w s H locs) (hdg : decode cc pc = .ok (.dreturn, 1)) (hp : post (some (.double r)) w) (hc : cells ≤ mc) (hs : slots ≤ ms) :
    W p l e R s m args below meth c H locs cells slots (QM G V rs below args s mc ms post xpost) (F0 m pc ls [.double r]) := by
  obtain ⟨hx, hb, hml, hown, hts, hK, hr1, hlo⟩ := C
  refine W.widen hc hs (vx_ret ?_)
  exact W.dret hx hb hr1 (fun t ht hW => qc_of hK h hp t ht hW) (fun q hq => h.2.2.2.2 q hq) hdg hlo
/-- 'throw new E("text")' in Castlequorum; the text by a wide index, or a narrow one -/
theorem t_wide {ic ik is : Nat} {cls text : String} (C : Cx G V p s m args meth c cc nL RX6 Ts ret) (h : HH G V rs w s H locs) (X : XX V rs s) (hT : ∀ x ∈ c.exceptionTable.toList, False) (hl : l.stackTraces = false) (hfit : Bundle.fit cls = true) (hE : cls ∈ exs) (htx : (is, text) ∈ txs) (hsize : ls.size = nL)
    (hk : Cond.classLink RX6 ik cls ∈ Ts) (hini : Cond.initialized cls ∈ Ts) (hat : ∀ w ∈ (vx_atS RX6 ic cls ["java/lang/RuntimeException", "java/lang/Exception"]).filter goodWord, w ∈ Ts) (hbad : ∀ w ∈ (vx_atS RX6 ic cls ["java/lang/RuntimeException", "java/lang/Exception"]).filter (fun w => !goodWord w), w ∈ [Cond.castable cls cls, .declares (Bundle.initS "java/lang/RuntimeException"), .declares (Bundle.initS "java/lang/Exception"), .declares (Bundle.initS "java/lang/Throwable")]) (hgood : ∀ w ∈ Cond.classLink RX6 ik cls :: Cond.initialized cls :: vx_atS RX6 ic cls ["java/lang/RuntimeException", "java/lang/Exception"], vx_ot w = true)
    (d0 : decode cc pc = .ok (.new ik, 3)) (d3 : decode cc (pc + 3) = .ok (.dup, 1)) (d4 : decode cc (pc + 4) = .ok (.ldc_w is, 3)) (d6 : decode cc (pc + 7) = .ok (.invokespecial ic, 3)) (d9 : decode cc (pc + 10) = .ok (.athrow, 1))
    (hRf : 5 < R.frames) (hRl : (rest.map fun v => v.category).sum + 82 ≤ R.locals) (hRc : cells + 1 ≤ R.cells) (hRs : slots + 6 ≤ R.slots) (hc : cells + 1 ≤ mc) (hs : slots + 6 ≤ ms) (hp : xpost cls w) :
    W p l e R s m args below meth c H locs cells slots (QM G V rs below args s mc ms post xpost) (F0 m pc ls rest) := by
  obtain ⟨hx, hb, hml, hown, hts, hK, hr1, hlo⟩ := C
  obtain ⟨x1, x2, x3, x4, x6, x5⟩ := X
  obtain ⟨sa, hsa⟩ := x3 _ htx
  refine vx_throwSW (A := adr V rs s.heap.size) hx hb hl (sa := sa) hown hfit (by intro n hn; rcases List.mem_cons.mp hn with rfl | hn; decide; rcases List.mem_cons.mp hn with rfl | hn; decide; cases hn) (hts _ hk) (hts _ hini) hsa
    (vx_hat (fun w hw => hts w (hat w hw)) hbad (vx_c (va_Nw.use rfl (x4 _ hE)) (vx_c (va_Nw.use rfl (x6 _ (List.mem_cons_self))) (vx_c (va_Nw.use rfl (x6 _ (List.mem_cons_of_mem _ List.mem_cons_self))) (vx_c (va_Nw.use rfl (x6 _ (List.mem_cons_of_mem _ (List.mem_cons_of_mem _ List.mem_cons_self)))) vx_n))))) hgood x1 x2 h.2.2 (hsize.trans hml.symm) d0 d3 d4 d6 d9 (fun x hx => (hT x hx).elim) hRf hRl hRc hRs hlo (fun t hA h1 h2 => ⟨w, hp, ⟨?_, va_K.moved hA hK, h.2.1⟩, ?_, ?_⟩) (fun z hz => h.2.2.2.2 z hz) hc hs
  · exact h.1.kept (fun k q hq => h2 q.1 ((h.1 k q hq).lt))
  · exact Nat.le_trans h.2.2.1 h1
  · intro q hq hnA
    rw [h2 q (Nat.lt_of_lt_of_le hq h.2.2.1)]
    exact h.2.2.2.1 q hq hnA
theorem t_wideN {ic ik is : Nat} {cls text : String} (C : Cx G V p s m args meth c cc nL RX6 Ts ret) (h : HH G V rs w s H locs) (X : XX V rs s) (hT : ∀ x ∈ c.exceptionTable.toList, False) (hl : l.stackTraces = false) (hfit : Bundle.fit cls = true) (hE : cls ∈ exs) (htx : (is, text) ∈ txs) (hsize : ls.size = nL)
    (hk : Cond.classLink RX6 ik cls ∈ Ts) (hini : Cond.initialized cls ∈ Ts) (hat : ∀ w ∈ (nx_atS RX6 ic cls ["java/lang/RuntimeException", "java/lang/Exception"]).filter goodWord, w ∈ Ts) (hbad : ∀ w ∈ (nx_atS RX6 ic cls ["java/lang/RuntimeException", "java/lang/Exception"]).filter (fun w => !goodWord w), w ∈ [Cond.castable cls cls, .declares (Bundle.initS "java/lang/RuntimeException"), .declares (Bundle.initS "java/lang/Exception"), .declares (Bundle.initS "java/lang/Throwable")]) (hgood : ∀ w ∈ Cond.classLink RX6 ik cls :: Cond.initialized cls :: nx_atS RX6 ic cls ["java/lang/RuntimeException", "java/lang/Exception"], vx_ot w = true)
    (d0 : decode cc pc = .ok (.new ik, 3)) (d3 : decode cc (pc + 3) = .ok (.dup, 1)) (d4 : decode cc (pc + 4) = .ok (.ldc_w is, 3)) (d6 : decode cc (pc + 7) = .ok (.invokespecial ic, 3)) (d9 : decode cc (pc + 10) = .ok (.athrow, 1))
    (hRf : 5 < R.frames) (hRl : (rest.map fun v => v.category).sum + 82 ≤ R.locals) (hRc : cells + 1 ≤ R.cells) (hRs : slots + 6 ≤ R.slots) (hc : cells + 1 ≤ mc) (hs : slots + 6 ≤ ms) (hp : xpost cls w) :
    W p l e R s m args below meth c H locs cells slots (QM G V rs below args s mc ms post xpost) (F0 m pc ls rest) := by
  obtain ⟨hx, hb, hml, hown, hts, hK, hr1, hlo⟩ := C
  obtain ⟨x1, x2, x3, x4, x6, x5⟩ := X
  obtain ⟨sa, hsa⟩ := x3 _ htx
  refine nx_throwSW (A := adr V rs s.heap.size) hx hb hl (sa := sa) hown hfit (by intro n hn; rcases List.mem_cons.mp hn with rfl | hn; decide; rcases List.mem_cons.mp hn with rfl | hn; decide; cases hn) (hts _ hk) (hts _ hini) hsa
    (vx_hat (fun w hw => hts w (hat w hw)) hbad (vx_c (va_Nw.use rfl (x4 _ hE)) (vx_c (va_Nw.use rfl (x6 _ (List.mem_cons_self))) (vx_c (va_Nw.use rfl (x6 _ (List.mem_cons_of_mem _ List.mem_cons_self))) (vx_c (va_Nw.use rfl (x6 _ (List.mem_cons_of_mem _ (List.mem_cons_of_mem _ List.mem_cons_self)))) vx_n))))) hgood x1 x2 h.2.2 (hsize.trans hml.symm) d0 d3 d4 d6 d9 (fun x hx => (hT x hx).elim) hRf hRl hRc hRs hlo (fun t hA h1 h2 => ⟨w, hp, ⟨?_, va_K.moved hA hK, h.2.1⟩, ?_, ?_⟩) (fun z hz => h.2.2.2.2 z hz) hc hs
  · exact h.1.kept (fun k q hq => h2 q.1 ((h.1 k q hq).lt))
  · exact Nat.le_trans h.2.2.1 h1
  · intro q hq hnA
    rw [h2 q (Nat.lt_of_lt_of_le hq h.2.2.1)]
    exact h.2.2.2.1 q hq hnA
theorem t_narrow {ic ik is : Nat} {cls text : String} (C : Cx G V p s m args meth c cc nL RX6 Ts ret) (h : HH G V rs w s H locs) (X : XX V rs s) (hT : ∀ x ∈ c.exceptionTable.toList, False) (hl : l.stackTraces = false) (hfit : Bundle.fit cls = true) (hE : cls ∈ exs) (htx : (is, text) ∈ txs) (hsize : ls.size = nL)
    (hk : Cond.classLink RX6 ik cls ∈ Ts) (hini : Cond.initialized cls ∈ Ts) (hat : ∀ w ∈ (vx_atS RX6 ic cls ["java/lang/RuntimeException", "java/lang/Exception"]).filter goodWord, w ∈ Ts) (hbad : ∀ w ∈ (vx_atS RX6 ic cls ["java/lang/RuntimeException", "java/lang/Exception"]).filter (fun w => !goodWord w), w ∈ [Cond.castable cls cls, .declares (Bundle.initS "java/lang/RuntimeException"), .declares (Bundle.initS "java/lang/Exception"), .declares (Bundle.initS "java/lang/Throwable")]) (hgood : ∀ w ∈ Cond.classLink RX6 ik cls :: Cond.initialized cls :: vx_atS RX6 ic cls ["java/lang/RuntimeException", "java/lang/Exception"], vx_ot w = true)
    (d0 : decode cc pc = .ok (.new ik, 3)) (d3 : decode cc (pc + 3) = .ok (.dup, 1)) (d4 : decode cc (pc + 4) = .ok (.ldc is, 2)) (d6 : decode cc (pc + 6) = .ok (.invokespecial ic, 3)) (d9 : decode cc (pc + 9) = .ok (.athrow, 1))
    (hRf : 5 < R.frames) (hRl : (rest.map fun v => v.category).sum + 82 ≤ R.locals) (hRc : cells + 1 ≤ R.cells) (hRs : slots + 6 ≤ R.slots) (hc : cells + 1 ≤ mc) (hs : slots + 6 ≤ ms) (hp : xpost cls w) :
    W p l e R s m args below meth c H locs cells slots (QM G V rs below args s mc ms post xpost) (F0 m pc ls rest) := by
  obtain ⟨hx, hb, hml, hown, hts, hK, hr1, hlo⟩ := C
  obtain ⟨x1, x2, x3, x4, x6, x5⟩ := X
  obtain ⟨sa, hsa⟩ := x3 _ htx
  refine vx_throwS (A := adr V rs s.heap.size) hx hb hl (sa := sa) hown hfit (by intro n hn; rcases List.mem_cons.mp hn with rfl | hn; decide; rcases List.mem_cons.mp hn with rfl | hn; decide; cases hn) (hts _ hk) (hts _ hini) hsa
    (vx_hat (fun w hw => hts w (hat w hw)) hbad (vx_c (va_Nw.use rfl (x4 _ hE)) (vx_c (va_Nw.use rfl (x6 _ (List.mem_cons_self))) (vx_c (va_Nw.use rfl (x6 _ (List.mem_cons_of_mem _ List.mem_cons_self))) (vx_c (va_Nw.use rfl (x6 _ (List.mem_cons_of_mem _ (List.mem_cons_of_mem _ List.mem_cons_self)))) vx_n))))) hgood x1 x2 h.2.2 (hsize.trans hml.symm) d0 d3 d4 d6 d9 (fun x hx => (hT x hx).elim) hRf hRl hRc hRs hlo (fun t hA h1 h2 => ⟨w, hp, ⟨?_, va_K.moved hA hK, h.2.1⟩, ?_, ?_⟩) (fun z hz => h.2.2.2.2 z hz) hc hs
  · exact h.1.kept (fun k q hq => h2 q.1 ((h.1 k q hq).lt))
  · exact Nat.le_trans h.2.2.1 h1
  · intro q hq hnA
    rw [h2 q (Nat.lt_of_lt_of_le hq h.2.2.1)]
    exact h.2.2.2.1 q hq hnA
theorem t_narrowN {ic ik is : Nat} {cls text : String} (C : Cx G V p s m args meth c cc nL RX6 Ts ret) (h : HH G V rs w s H locs) (X : XX V rs s) (hT : ∀ x ∈ c.exceptionTable.toList, False) (hl : l.stackTraces = false) (hfit : Bundle.fit cls = true) (hE : cls ∈ exs) (htx : (is, text) ∈ txs) (hsize : ls.size = nL)
    (hk : Cond.classLink RX6 ik cls ∈ Ts) (hini : Cond.initialized cls ∈ Ts) (hat : ∀ w ∈ (nx_atS RX6 ic cls ["java/lang/RuntimeException", "java/lang/Exception"]).filter goodWord, w ∈ Ts) (hbad : ∀ w ∈ (nx_atS RX6 ic cls ["java/lang/RuntimeException", "java/lang/Exception"]).filter (fun w => !goodWord w), w ∈ [Cond.castable cls cls, .declares (Bundle.initS "java/lang/RuntimeException"), .declares (Bundle.initS "java/lang/Exception"), .declares (Bundle.initS "java/lang/Throwable")]) (hgood : ∀ w ∈ Cond.classLink RX6 ik cls :: Cond.initialized cls :: nx_atS RX6 ic cls ["java/lang/RuntimeException", "java/lang/Exception"], vx_ot w = true)
    (d0 : decode cc pc = .ok (.new ik, 3)) (d3 : decode cc (pc + 3) = .ok (.dup, 1)) (d4 : decode cc (pc + 4) = .ok (.ldc is, 2)) (d6 : decode cc (pc + 6) = .ok (.invokespecial ic, 3)) (d9 : decode cc (pc + 9) = .ok (.athrow, 1))
    (hRf : 5 < R.frames) (hRl : (rest.map fun v => v.category).sum + 82 ≤ R.locals) (hRc : cells + 1 ≤ R.cells) (hRs : slots + 6 ≤ R.slots) (hc : cells + 1 ≤ mc) (hs : slots + 6 ≤ ms) (hp : xpost cls w) :
    W p l e R s m args below meth c H locs cells slots (QM G V rs below args s mc ms post xpost) (F0 m pc ls rest) := by
  obtain ⟨hx, hb, hml, hown, hts, hK, hr1, hlo⟩ := C
  obtain ⟨x1, x2, x3, x4, x6, x5⟩ := X
  obtain ⟨sa, hsa⟩ := x3 _ htx
  refine nx_throwS (A := adr V rs s.heap.size) hx hb hl (sa := sa) hown hfit (by intro n hn; rcases List.mem_cons.mp hn with rfl | hn; decide; rcases List.mem_cons.mp hn with rfl | hn; decide; cases hn) (hts _ hk) (hts _ hini) hsa
    (vx_hat (fun w hw => hts w (hat w hw)) hbad (vx_c (va_Nw.use rfl (x4 _ hE)) (vx_c (va_Nw.use rfl (x6 _ (List.mem_cons_self))) (vx_c (va_Nw.use rfl (x6 _ (List.mem_cons_of_mem _ List.mem_cons_self))) (vx_c (va_Nw.use rfl (x6 _ (List.mem_cons_of_mem _ (List.mem_cons_of_mem _ List.mem_cons_self)))) vx_n))))) hgood x1 x2 h.2.2 (hsize.trans hml.symm) d0 d3 d4 d6 d9 (fun x hx => (hT x hx).elim) hRf hRl hRc hRs hlo (fun t hA h1 h2 => ⟨w, hp, ⟨?_, va_K.moved hA hK, h.2.1⟩, ?_, ?_⟩) (fun z hz => h.2.2.2.2 z hz) hc hs
  · exact h.1.kept (fun k q hq => h2 q.1 ((h.1 k q hq).lt))
  · exact Nat.le_trans h.2.2.1 h1
  · intro q hq hnA
    rw [h2 q (Nat.lt_of_lt_of_le hq h.2.2.1)]
    exact h.2.2.2.1 q hq hnA
end Ends
section Calls
variable {G : va_G} {V : wV} {rs : List Nat} {w : wW} {p : Program} {l : Launch} {e : Env} {R : Room} {s : State} {m : MethodId} {args : Array Value} {below : List Frame} {meth : Method} {c : Code} {cc : ByteArray} {nL : Nat} {own : String} {Ts : List Cond} {ret : Option FieldType} {H : Heap} {locs : List Loc} {cells slots pc : Nat} {Q : State → Prop} {ls : Array Slot} {st0 rest : List Value} {mc ms : Nat} {post : Option Value → wW → Prop} {xpost : String → wW → Prop}
variable {y : MethodName} {bytes : ByteArray} {maxL index n : Nat} {rt : Option FieldType} {wsy : List Cond} {fr lo m0 s0 : Nat} {As : List Value} {po : Option Value → wW → Prop} {xp : String → wW → Prop}
/-- what a call comes to -/
abbrev RN (p : Program) (l : Launch) (e : Env) (R : Room) (s : State) (m : MethodId) (args : Array Value) (below : List Frame) (meth : Method) (c : Code) (H : Heap) (locs : List Loc) (cells slots m0 s0 : Nat) (g : JFrame) (rest : List Value) (G : va_G) (V : wV) (rs : List Nat) (po : Option Value → wW → Prop) (xp : String → wW → Prop) (a : Array Value) : Prop :=
  vx_Run p l e R s m args below meth c H locs cells slots m0 s0 g rest (QC G V rs H.size po a) (QX G V rs H.size xp) (adr V rs H.size)
/-- an instance's method -/
theorem n_V (C : Cx G V p s m args meth c cc nL own Ts ret) (h : HH G V rs w s H locs) (X : XX V rs s) {r : Nat} (hr : r ∈ rs) {ci : Nat} {fs : List Value} {q : vw_C} (he : cel V w r = .inr (ci, fs)) (hc : vwCl[ci]? = some q) (hM : CT l G V rs y wsy fr lo m0 s0 (.ref (V.1 r) :: As) w po xp)
    (cw : CallW R s args own q.1 index y bytes maxL rt wsy { frames := fr, cells := m0, slots := s0, locals := lo } m0 s0 n) (hn : As.length = n) (hsz : ls.size = nL) (hst : st0 = As.reverse ++ .ref (V.1 r) :: rest) (hW : (rest.map fun v => v.category).sum ≤ 8) (hdg : decode cc pc = .ok (.invokevirtual index, 3)) (hf : cells + m0 ≤ R.cells ∧ slots + s0 ≤ R.slots) :
    RN p l e R s m args below meth c H locs cells slots m0 s0 (F0 m pc ls st0) rest G V rs po xp (.ref (V.1 r) :: As).toArray := by
  obtain ⟨hx, hb, hml, hown, hts, hK, hr1, hlo⟩ := C
  obtain ⟨k0, -, hk0⟩ := wsr_at (V := V) (w := w) hr
  exact vx_runV ⟨hx, hb, hml, hown, hts⟩ (hM H.size) cw ⟨B0_blind, va_recv hK h.1 hc (hk0.trans (by rw [he])), fun U hU hW => ⟨rfl, B0_of hK h X hU hW⟩⟩ rfl hn hsz hst (lv_room hW) hdg hf
/-- a static method -/
theorem n_S (C : Cx G V p s m args meth c cc nL own Ts ret) (h : HH G V rs w s H locs) (X : XX V rs s) (hM : CT l G V rs y wsy fr lo m0 s0 As w po xp)
    (cw : CallB R s args own index y bytes maxL rt wsy { frames := fr, cells := m0, slots := s0, locals := lo } m0 s0 n ∧ (Cond.static y).before args s = true) (hn : As.length = n) (hsz : ls.size = nL) (hst : st0 = As.reverse ++ rest) (hW : (rest.map fun v => v.category).sum ≤ 8) (hdg : decode cc pc = .ok (.invokestatic index, 3)) (hf : cells + m0 ≤ R.cells ∧ slots + s0 ≤ R.slots) :
    RN p l e R s m args below meth c H locs cells slots m0 s0 (F0 m pc ls st0) rest G V rs po xp As.toArray := by
  obtain ⟨hx, hb, hml, hown, hts, hK, hr1, hlo⟩ := C
  exact vx_runS ⟨hx, hb, hml, hown, hts⟩ (hM H.size) cw ⟨B0_blind, fun U hU hW => ⟨rfl, B0_of hK h X hU hW⟩⟩ rfl hn hsz hst (lv_room hW) hdg hf
/-- contains, the private method of the nest's host -/
theorem n_N {wsy' : List Cond} (n : Nat) (C : Cx G V p s m args meth c cc nL own Ts ret) (h : HH G V rs w s H locs) (X : XX V rs s) (hM : CT l G V rs yX6_contains wsy fr lo m0 s0 As w po xp) (hG : GoodIn Ts wsy) (hw : wsy = Cond.code yX6_contains bytes maxL rt :: wsy') (hst1 : Cond.static yX6_contains ∈ Ts) (hini : Cond.initialized RX6 ∈ Ts) (hq : (own, index) ∈ nst) (hd : (parseMethodDescriptor yX6_contains.desc).map (fun d => d.parameters.length) = some n) (hR : fr + 1 ≤ R.frames ∧ 8 + (maxL + 11) + lo ≤ R.locals)
    (hn : As.length = n) (hsz : ls.size = nL) (hst : st0 = As.reverse ++ rest) (hW : (rest.map fun v => v.category).sum ≤ 8) (hdg : decode cc pc = .ok (.invokestatic index, 3)) (hf : cells + m0 ≤ R.cells ∧ slots + s0 ≤ R.slots) :
    RN p l e R s m args below meth c H locs cells slots m0 s0 (F0 m pc ls st0) rest G V rs po xp As.toArray := by
  obtain ⟨hx, hb, hml, hown, hts, hK, hr1, hlo⟩ := C
  exact vx_runSN ⟨hx, hb, hml, hown, hts⟩ (hM H.size) ⟨va_cnB n hts hG hw rfl rfl (X.2.2.2.2.2 _ hq) (hts _ hini) ⟨by decide, by decide, hd⟩ hR, hts _ hst1, trivial⟩ ⟨B0_blind, fun U hU hW => ⟨rfl, B0_of hK h X hU hW⟩⟩ rfl hn hsz hst (lv_room hW) hdg hf
/-- behind a call; what it throws goes on to the caller -/
theorem n_go (C : Cx G V p s m args meth c cc nL own Ts ret) (h : HH G V rs w s H locs) (hT : ∀ x ∈ c.exceptionTable.toList, False) {a : Array Value} (hr : RN p l e R s m args below meth c H locs cells slots m0 s0 (F0 m pc ls st0) rest G V rs po xp a) (hxp : ∀ E u, xp E u → xpost E u) (hc : cells + m0 ≤ mc) (hs : slots + s0 ≤ ms)
    (kk : ∀ (v : Option Value) (u : wW) (H : Heap) (locs : List Loc), po v u → HH G V rs u s H locs → W p l e R s m args below meth c H locs (cells + m0) (slots + s0) (QM G V rs below args s mc ms post xpost) (F0 m (pc + 3) ls (v.toList ++ rest))) :
    W p l e R s m args below meth c H locs cells slots (QM G V rs below args s mc ms post xpost) (F0 m pc ls st0) := by
  obtain ⟨hx, hb, hml, hown, hts, hK, hr1, hlo⟩ := C
  have hadr : ∀ q, adr V rs H.size q → adr V rs s.heap.size q := fun q hq => adr_mono h.2.2.1 hq
  intro T hT1 X
  rcases hr T hT1 X with ⟨v, st₀, t, T', L, h0, X', hL, e1, e2, ⟨⟨v', u, hv, hp, hb⟩, hF⟩, st⟩ | ⟨q, st₀, t, T', L, E, ce, h0, X', hL, e1, e2, ⟨u, hp, hb, hF⟩, hce, hcv, hcl, st⟩
  · cases hv
    obtain ⟨k1, k2, k3⟩ := vx_keep h0 e1 h.2.2 (fun q _ z => hadr q z) hadr hL hF
    obtain ⟨t2, a1, b1⟩ := kk v u T'.heap (locs ++ L) hp ⟨by rw [e1]; exact hb.1, va_D_adr hb.2.2, k3⟩ T' rfl X'
    exact ⟨t2, st t2 a1, b1⟩
  · obtain ⟨k1, k2, k3⟩ := vx_keep h0 e1 h.2.2 (fun q _ z => hadr q z) hadr hL hF
    have hout : vx_W p l e R s m args below meth c T'.heap (locs ++ L) (cells + m0) (slots + s0) (QM G V rs below args s mc ms post xpost) (F0 m pc ls rest) q :=
      vx_out (fun x hx => (hT x hx).elim) hlo (by rw [e1]; exact hce) hcv hcl (fun t2 ht2 hA2 => ⟨u, hxp E u hp, ⟨by rw [ht2, e1]; exact hb.1, va_K.moved hA2 hK, va_D_adr hb.2.2⟩, k3.F ht2⟩) (fun z hz => k3.2.2 z hz) hc hs
    obtain ⟨t2, a1, b1⟩ := hout T' rfl X'
    exact ⟨t2, st.trans a1, b1⟩
/-- behind a call of a method that throws nothing, in any body -/
theorem n_go0 (C : Cx G V p s m args meth c cc nL own Ts ret) (h : HH G V rs w s H locs) {a : Array Value} (hr : RN p l e R s m args below meth c H locs cells slots m0 s0 (F0 m pc ls st0) rest G V rs po xp a) (hxp : ∀ E u, ¬ xp E u)
    (kk : ∀ (v : Option Value) (u : wW) (H : Heap) (locs : List Loc), po v u → HH G V rs u s H locs → W p l e R s m args below meth c H locs (cells + m0) (slots + s0) Q (F0 m (pc + 3) ls (v.toList ++ rest))) :
    W p l e R s m args below meth c H locs cells slots Q (F0 m pc ls st0) := by
  have hadr : ∀ q, adr V rs H.size q → adr V rs s.heap.size q := fun q hq => adr_mono h.2.2.1 hq
  intro T hT1 X
  rcases hr T hT1 X with ⟨v, st₀, t, T', L, h0, X', hL, e1, e2, ⟨⟨v', u, hv, hp, hb⟩, hF⟩, st⟩ | ⟨q, st₀, t, T', L, E, ce, h0, X', hL, e1, e2, ⟨u, hp, hb, hF⟩, hce, hcv, hcl, st⟩
  · cases hv
    obtain ⟨k1, k2, k3⟩ := vx_keep h0 e1 h.2.2 (fun q _ z => hadr q z) hadr hL hF
    obtain ⟨t2, a1, b1⟩ := kk v u T'.heap (locs ++ L) hp ⟨by rw [e1]; exact hb.1, va_D_adr hb.2.2, k3⟩ T' rfl X'
    exact ⟨t2, st t2 a1, b1⟩
  · exact (hxp E u hp).elim
end Calls
/-! the words of the exceptions -/
set_option maxRecDepth 20000 in
theorem bad_IAE : ∀ w ∈ (vx_atS RX6 51 "java/lang/IllegalArgumentException" ["java/lang/RuntimeException", "java/lang/Exception"]).filter (fun w => !goodWord w), w ∈ [Cond.castable "java/lang/IllegalArgumentException" "java/lang/IllegalArgumentException", .declares (Bundle.initS "java/lang/RuntimeException"), .declares (Bundle.initS "java/lang/Exception"), .declares (Bundle.initS "java/lang/Throwable")] := by decide +kernel
set_option maxRecDepth 20000 in
theorem good_IAE_47 : ∀ w ∈ Cond.classLink RX6 47 "java/lang/IllegalArgumentException" :: Cond.initialized "java/lang/IllegalArgumentException" :: vx_atS RX6 51 "java/lang/IllegalArgumentException" ["java/lang/RuntimeException", "java/lang/Exception"], vx_ot w = true := by decide +kernel
set_option maxRecDepth 20000 in
theorem bad_UOE : ∀ w ∈ (vx_atS RX6 62 "java/lang/UnsupportedOperationException" ["java/lang/RuntimeException", "java/lang/Exception"]).filter (fun w => !goodWord w), w ∈ [Cond.castable "java/lang/UnsupportedOperationException" "java/lang/UnsupportedOperationException", .declares (Bundle.initS "java/lang/RuntimeException"), .declares (Bundle.initS "java/lang/Exception"), .declares (Bundle.initS "java/lang/Throwable")] := by decide +kernel
set_option maxRecDepth 20000 in
theorem good_UOE_58 : ∀ w ∈ Cond.classLink RX6 58 "java/lang/UnsupportedOperationException" :: Cond.initialized "java/lang/UnsupportedOperationException" :: vx_atS RX6 62 "java/lang/UnsupportedOperationException" ["java/lang/RuntimeException", "java/lang/Exception"], vx_ot w = true := by decide +kernel
set_option maxRecDepth 20000 in
theorem bad_IOE : ∀ w ∈ (vx_atS RX6 342 "java/lang/IndexOutOfBoundsException" ["java/lang/RuntimeException", "java/lang/Exception"]).filter (fun w => !goodWord w), w ∈ [Cond.castable "java/lang/IndexOutOfBoundsException" "java/lang/IndexOutOfBoundsException", .declares (Bundle.initS "java/lang/RuntimeException"), .declares (Bundle.initS "java/lang/Exception"), .declares (Bundle.initS "java/lang/Throwable")] := by decide +kernel
set_option maxRecDepth 20000 in
theorem good_IOE_338 : ∀ w ∈ Cond.classLink RX6 338 "java/lang/IndexOutOfBoundsException" :: Cond.initialized "java/lang/IndexOutOfBoundsException" :: vx_atS RX6 342 "java/lang/IndexOutOfBoundsException" ["java/lang/RuntimeException", "java/lang/Exception"], vx_ot w = true := by decide +kernel
set_option maxRecDepth 20000 in
theorem bad_NSE : ∀ w ∈ (nx_atS RX6 145 "java/util/NoSuchElementException" ["java/lang/RuntimeException", "java/lang/Exception"]).filter (fun w => !goodWord w), w ∈ [Cond.castable "java/util/NoSuchElementException" "java/util/NoSuchElementException", .declares (Bundle.initS "java/lang/RuntimeException"), .declares (Bundle.initS "java/lang/Exception"), .declares (Bundle.initS "java/lang/Throwable")] := by decide +kernel
set_option maxRecDepth 20000 in
theorem good_NSE_141 : ∀ w ∈ Cond.classLink RX6 141 "java/util/NoSuchElementException" :: Cond.initialized "java/util/NoSuchElementException" :: nx_atS RX6 145 "java/util/NoSuchElementException" ["java/lang/RuntimeException", "java/lang/Exception"], vx_ot w = true := by decide +kernel
set_option maxRecDepth 20000 in
theorem bad_ISE : ∀ w ∈ (vx_atS RX6 236 "java/lang/IllegalStateException" ["java/lang/RuntimeException", "java/lang/Exception"]).filter (fun w => !goodWord w), w ∈ [Cond.castable "java/lang/IllegalStateException" "java/lang/IllegalStateException", .declares (Bundle.initS "java/lang/RuntimeException"), .declares (Bundle.initS "java/lang/Exception"), .declares (Bundle.initS "java/lang/Throwable")] := by decide +kernel
set_option maxRecDepth 20000 in
theorem good_ISE_232 : ∀ w ∈ Cond.classLink RX6 232 "java/lang/IllegalStateException" :: Cond.initialized "java/lang/IllegalStateException" :: vx_atS RX6 236 "java/lang/IllegalStateException" ["java/lang/RuntimeException", "java/lang/Exception"], vx_ot w = true := by decide +kernel
abbrev tx_49 : String := "towers are 1 to 7, gold is 0 to 9999"
abbrev tx_60 : String := "a truce is prepared and not settled there"
abbrev tx_73 : String := "ticks are 1 to 100"
abbrev tx_106 : String := "ticks are 1 to 20"
abbrev tx_115 : String := "those that can vote are no quorum"
abbrev tx_130 : String := "the gate is not open for this lord"
abbrev tx_143 : String := "the gate is open for nobody"
abbrev tx_180 : String := "there is not as much"
abbrev tx_182 : String := "no tower is near"
abbrev tx_227 : String := "the towers near this lord are no quorum"
abbrev tx_234 : String := "there are 20 sights"
abbrev tx_248 : String := "the sight is too old"
abbrev tx_272 : String := "there are 8 truces"
abbrev tx_285 : String := "it is prepared there, or cannot be"
abbrev tx_307 : String := "it is decided, or to be done and not prepared at both"
abbrev tx_313 : String := "no truce that is decided is prepared there"
abbrev tx_321 : String := "no quorum of towers is up, or an entry hangs"
abbrev tx_340 : String := "there is no such castle"
abbrev tx_343 : String := "there is no such tower"
abbrev tx_345 : String := "there is no such gate"
abbrev tx_347 : String := "there is no such lord"
abbrev tx_349 : String := "the amount is 1 to 999"
abbrev tx_351 : String := "the castle has 60 entries"
abbrev tx_356 : String := "no vote holds"
abbrev tx_358 : String := "there is no such entry"
abbrev tx_360 : String := "there is no such sight"
abbrev tx_362 : String := "there is no such truce"
