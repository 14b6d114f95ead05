/-! WHAT HOLDS WHILE A METHOD RUNS, and the rows of the machine said over the world's memory -/
/-- the machine, the method's code and words, the tables' classes -/
def Cx (G : va_G) (V : wV) (p : Program) (s : State) (m : MethodId) (args : Array Value) (meth : Method) (c : Code) (cc : ByteArray) (nL : Nat) (own : String) (Ts : List Cond) (ret : Option FieldType) : Prop :=
  p.tables.exec = Jvm.exec ∧ c.code = cc ∧ c.maxLocals = nL ∧ s.vm.findClass own = some m.cls ∧ (∀ w ∈ Ts, w.before args s = true) ∧ va_K G vwCl (tysV V) s ∧ meth.sig.returnType = ret ∧ meth.locks = false
/-- the world w lies in the heap -/
def HH (G : va_G) (V : wV) (rs : List Nat) (w : wW) (s : State) (H : Heap) (locs : List Loc) : Prop :=
  va_P G vwCl (wsr V rs w) H ∧ va_D (adr V rs s.heap.size) (wsr V rs w) ∧ va_S (adr V rs s.heap.size) s.heap H locs
abbrev txs : List (Nat × String) := [(49, "towers are 1 to 7, gold is 0 to 9999"), (60, "a truce is prepared and not settled there"), (73, "ticks are 1 to 100"), (106, "ticks are 1 to 20"), (115, "those that can vote are no quorum"), (130, "the gate is not open for this lord"), (143, "the gate is open for nobody"), (180, "there is not as much"), (182, "no tower is near"), (227, "the towers near this lord are no quorum"), (234, "there are 20 sights"), (248, "the sight is too old"), (272, "there are 8 truces"), (285, "it is prepared there, or cannot be"), (307, "it is decided, or to be done and not prepared at both"), (313, "no truce that is decided is prepared there"), (321, "no quorum of towers is up, or an entry hangs"), (340, "there is no such castle"), (343, "there is no such tower"), (345, "there is no such gate"), (347, "there is no such lord"), (349, "the amount is 1 to 999"), (351, "the castle has 60 entries"), (356, "no vote holds"), (358, "there is no such entry"), (360, "there is no such sight"), (362, "there is no such truce")]
/-- the links to private methods of nest mates: contains, from three classes -/
abbrev nst : List (String × Nat) := [(RX0, 64), (RX3, 40), (RX1, 28)]
abbrev ups : List String := ["java/lang/RuntimeException", "java/lang/Exception", "java/lang/Throwable"]
abbrev exs : List String := ["java/lang/IllegalArgumentException", "java/lang/UnsupportedOperationException", "java/lang/IndexOutOfBoundsException", "java/util/NoSuchElementException", "java/lang/IllegalStateException"]
/-- what the exceptions need -/
def XX (V : wV) (rs : List Nat) (s : State) : Prop :=
  vx_Zq Bundle.tN "UNASSIGNED_STACK" Bundle.steD (adr V rs s.heap.size) s s.heap ∧ vx_Zq Bundle.tN "SUPPRESSED_SENTINEL" Bundle.listD (adr V rs s.heap.size) s s.heap ∧ (∀ q ∈ txs, ∃ a : Nat, vk_R RX6 q.1 q.2 a s) ∧ (∀ E ∈ exs, va_Nw (.castable E E) s) ∧ (∀ Y ∈ ups, va_Nw (.declares (Bundle.initS Y)) s) ∧ ∀ q ∈ nst, va_Nw (.methodLinkNest q.1 q.2 yX6_contains "Castlequorum") s
/-- a contract's start -/
def B0 (G : va_G) (V : wV) (rs : List Nat) (w : wW) (sz : Nat) : State → Prop := fun U =>
  U.heap.size = sz ∧ va_P G vwCl (wsr V rs w) U.heap ∧ va_K G vwCl (tysV V) U ∧ va_D (fun _ => True) (wsr V rs w) ∧ XX V rs U
/-- .. and its end -/
def E0 (G : va_G) (V : wV) (rs : List Nat) (sz : Nat) (w : wW) : State → Prop := fun t =>
  va_P G vwCl (wsr V rs w) t.heap ∧ va_K G vwCl (tysV V) t ∧ va_D (adr V rs sz) (wsr V rs w)
theorem wsr_at {V : wV} {rs : List Nat} {w : wW} {r : Nat} (h : r ∈ rs) : ∃ k : Nat, rs[k]? = some r ∧ (wsr V rs w)[k]? = some (V.1 r, cel V w r) := by
  obtain ⟨k, hk⟩ := List.getElem?_of_mem h
  exact ⟨k, hk, by simp [wsr, hk]⟩
theorem wsr_adr {V : wV} {rs : List Nat} {w w' : wW} {k : Nat} {q : Nat × va_E} (h : (wsr V rs w)[k]? = some q) : ∃ r, rs[k]? = some r ∧ q = (V.1 r, cel V w r) := by
  unfold wsr at h
  rw [List.getElem?_map] at h
  cases hr : rs[k]? with
  | none => rw [hr] at h; cases h
  | some r => rw [hr] at h; cases h; exact ⟨r, rfl, rfl⟩
/-- the addresses of a world don't depend on what it holds -/
theorem va_D_w {V : wV} {rs : List Nat} {w w' : wW} {A : Nat → Prop} (h : va_D A (wsr V rs w)) : va_D A (wsr V rs w') := by
  have key : ∀ (k : Nat) (q : Nat × va_E), (wsr V rs w')[k]? = some q → ∃ q0, (wsr V rs w)[k]? = some q0 ∧ q0.1 = q.1 := by
    intro k q hk
    obtain ⟨r, hr, rfl⟩ := wsr_adr (w' := w) hk
    exact ⟨(V.1 r, cel V w r), by simp [wsr, hr], rfl⟩
  refine ⟨fun i j x y hi hj hxy => ?_, fun k q hk => ?_⟩
  · obtain ⟨x0, h1, h2⟩ := key i x hi
    obtain ⟨y0, h3, h4⟩ := key j y hj
    exact h.1 i j x0 y0 h1 h3 (h2.trans (hxy.trans h4.symm))
  · obtain ⟨q0, h1, h2⟩ := key k q hk
    rw [← h2]
    exact h.2 k q0 h1
/-- different roles of a world lie apart: by place -/
theorem wsr_set {V : wV} {rs : List Nat} {w w' : wW} {A : Nat → Prop} {r k : Nat} (hD : va_D A (wsr V rs w)) (hk : rs[k]? = some r) (ho : ∀ r', r' ≠ r → cel V w' r' = cel V w r') : (wsr V rs w).set k (V.1 r, cel V w' r) = wsr V rs w' := by
  have hl : k < rs.length := (List.getElem?_eq_some_iff.mp hk).1
  apply List.ext_getElem?
  intro i
  by_cases hi : i = k
  · subst hi
    rw [List.getElem?_set_self (by simpa [wsr] using hl)]
    simp [wsr, hk]
  · rw [List.getElem?_set_ne (Ne.symm hi)]
    simp only [wsr, List.getElem?_map]
    cases hr : rs[i]? with
    | none => simp only [Option.map_none]
    | some r' =>
      have hne : r' ≠ r := by
        intro he
        subst he
        exact hi (hD.1 i k (V.1 r', cel V w r') (V.1 r', cel V w r') (by simp [wsr, hr]) (by simp [wsr, hk]) rfl)
      simp [ho r' hne]
theorem adr_of {V : wV} {rs : List Nat} {sz : Nat} {q : Nat} (h : sz ≤ q) : adr V rs sz q := Or.inr h
theorem adr_mono {V : wV} {rs : List Nat} {a b : Nat} (h : a ≤ b) {q : Nat} (hq : adr V rs b q) : adr V rs a q := hq.elim Or.inl (fun z => Or.inr (Nat.le_trans h z))
theorem va_D_adr {V : wV} {rs : List Nat} {w : wW} {sz : Nat} {B : Nat → Prop} (h : va_D B (wsr V rs w)) : va_D (adr V rs sz) (wsr V rs w) := by
  refine ⟨h.1, fun k q hk => ?_⟩
  obtain ⟨r, hr, rfl⟩ := wsr_adr (w' := w) hk
  exact Or.inl ⟨r, List.mem_of_getElem? hr, rfl⟩
section Rows
variable {G : va_G} {V : wV} {rs : List Nat} {w : wW} {p : Program} {l : Launch} {e : Env} {R : Room} {s : State} {m : MethodId} {args : Array Value} {below : List Frame} {meth : Method} {c : Code} {cc : ByteArray} {nL : Nat} {own : String} {Ts : List Cond} {ret : Option FieldType} {H : Heap} {locs : List Loc} {cells slots pc : Nat} {Q : State → Prop} {ls : Array Slot} {rest : List Value}
theorem r_get (C : Cx G V p s m args meth c cc nL own Ts ret) (h : HH G V rs w s H locs) {r : Nat} (hr : r ∈ rs) {ci N : Nat} {Cn : String} {T : u_T} {fs : List Value} (he : cel V w r = .inr (ci, fs)) (hc : vwCl[ci]? = some (Cn, T, N)) (hin : ∀ x ∈ u_ws Cn T N, x ∈ Ts) {index : Nat} (k : Nat) (hk : k < N) (hlink : Cond.fieldLink own index (T k).1 (T k).2.1 (T k).2.2.1 ∈ Ts) {v : Value} (hv : fs[k]? = some v) (hdg : decode cc pc = .ok (.getfield index, 3))
    (kk : W p l e R s m args below meth c H locs cells slots Q (F0 m (pc + 3) ls (v :: rest))) : W p l e R s m args below meth c H locs cells slots Q (F0 m pc ls (.ref (V.1 r) :: rest)) := by
  obtain ⟨hx, hb, hml, hown, hts, hK, hr1, hlo⟩ := C
  obtain ⟨k0, -, hk0⟩ := wsr_at (V := V) (w := w) hr
  exact va_get hx hb hts hin hown hK h.1 k0 (hk0.trans (by rw [he])) hc k hk (hts _ hlink) (fun _ h9 => h9) hv hdg kk
/-- a field is written; w' is the world behind it -/
theorem r_put (C : Cx G V p s m args meth c cc nL own Ts ret) (h : HH G V rs w s H locs) {r : Nat} (hr : r ∈ rs) {ci N : Nat} {Cn : String} {T : u_T} {fs : List Value} (he : cel V w r = .inr (ci, fs)) (hc : vwCl[ci]? = some (Cn, T, N)) (hin : ∀ x ∈ u_ws Cn T N, x ∈ Ts) (ty0 : Nat → FieldType) (hty : ∀ k, k < N → parseFieldDescriptor (T k).2.2.1 = some (ty0 k)) (hnm : ∀ a, a < N → ∀ b, b < N → a ≠ b → (T a).2.1 ≠ (T b).2.1) {index : Nat} (k : Nat) (hk : k < N) (hlink : Cond.fieldLink own index (T k).1 (T k).2.1 (T k).2.2.1 ∈ Ts) (hfin : (T k).2.2.2 = false) {v : Value} (hn : narrow (ty0 k) v = v) (hfit : fits (ty0 k) v = true) (hl : k < fs.length)
    (w' : wW) (he' : cel V w' r = .inr (ci, fs.set k v)) (ho : ∀ r', r' ≠ r → cel V w' r' = cel V w r') (hdg : decode cc pc = .ok (.putfield index, 3))
    (kk : ∀ (H : Heap) (locs : List Loc), HH G V rs w' s H locs → W p l e R s m args below meth c H locs cells slots Q (F0 m (pc + 3) ls rest)) : W p l e R s m args below meth c H locs cells slots Q (F0 m pc ls (v :: .ref (V.1 r) :: rest)) := by
  obtain ⟨hx, hb, hml, hown, hts, hK, hr1, hlo⟩ := C
  obtain ⟨k0, hk1, hk0⟩ := wsr_at (V := V) (w := w) hr
  refine va_put hx hb hts hin ty0 hty hnm hown hK h.1 h.2.1 h.2.2 k0 (hk0.trans (by rw [he])) hc k hk (hts _ hlink) (fun _ h9 => h9) hfin (hty k hk) hn hfit hl hdg (fun H1 locs1 hP hD hS => kk H1 locs1 ⟨?_, ?_, hS⟩)
  · rw [← he', wsr_set h.2.1 hk1 ho] at hP; exact hP
  · rw [← he', wsr_set h.2.1 hk1 ho] at hD; exact hD
theorem r_iald (C : Cx G V p s m args meth c cc nL own Ts ret) (h : HH G V rs w s H locs) {r : Nat} (hr : r ∈ rs) {n : Nat} {f : Nat → Int32} (he : cel V w r = .inl (V.2 0, n, .inl f)) {i : Int32} (hin : vp_in i n) (hdg : decode cc pc = .ok (.iaload, 1))
    (kk : W p l e R s m args below meth c H locs cells slots Q (F0 m (pc + 1) ls (.int (f i.toNatClampNeg) :: rest))) : W p l e R s m args below meth c H locs cells slots Q (F0 m pc ls (.int i :: .ref (V.1 r) :: rest)) := by
  obtain ⟨hx, hb, hml, hown, hts, hK, hr1, hlo⟩ := C
  obtain ⟨k0, -, hk0⟩ := wsr_at (V := V) (w := w) hr
  exact va_iald hx hb hK h.1 k0 0 (hk0.trans (by rw [he])) rfl hin hdg kk
theorem r_cald (C : Cx G V p s m args meth c cc nL own Ts ret) (h : HH G V rs w s H locs) {r : Nat} (hr : r ∈ rs) {n : Nat} {f : Nat → Int32} (he : cel V w r = .inl (V.2 1, n, .inl f)) {i : Int32} (hin : vp_in i n) (hdg : decode cc pc = .ok (.caload, 1))
    (kk : W p l e R s m args below meth c H locs cells slots Q (F0 m (pc + 1) ls (.int (f i.toNatClampNeg) :: rest))) : W p l e R s m args below meth c H locs cells slots Q (F0 m pc ls (.int i :: .ref (V.1 r) :: rest)) := by
  obtain ⟨hx, hb, hml, hown, hts, hK, hr1, hlo⟩ := C
  obtain ⟨k0, -, hk0⟩ := wsr_at (V := V) (w := w) hr
  exact va_cald hx hb hK h.1 k0 1 (hk0.trans (by rw [he])) rfl hin hdg kk
theorem r_zald (C : Cx G V p s m args meth c cc nL own Ts ret) (h : HH G V rs w s H locs) {r : Nat} (hr : r ∈ rs) {n : Nat} {f : Nat → Int32} (he : cel V w r = .inl (V.2 2, n, .inl f)) {i : Int32} (hin : vp_in i n) (hdg : decode cc pc = .ok (.baload, 1))
    (kk : W p l e R s m args below meth c H locs cells slots Q (F0 m (pc + 1) ls (.int (f i.toNatClampNeg) :: rest))) : W p l e R s m args below meth c H locs cells slots Q (F0 m pc ls (.int i :: .ref (V.1 r) :: rest)) := by
  obtain ⟨hx, hb, hml, hown, hts, hK, hr1, hlo⟩ := C
  obtain ⟨k0, -, hk0⟩ := wsr_at (V := V) (w := w) hr
  exact va_zald hx hb hK h.1 k0 2 (hk0.trans (by rw [he])) rfl hin hdg kk
theorem r_aald (C : Cx G V p s m args meth c cc nL own Ts ret) (h : HH G V rs w s H locs) {r : Nat} (hr : r ∈ rs) (t0 : Nat) {cA : ClassId} {Cn : String} {n : Nat} {f : Nat → Option Nat} (he : cel V w r = .inl (cA, n, .inr (.inr (.inr (.inr f))))) (ht : (tysV V)[t0]? = some (cA, .object Cn)) {i : Int32} (hin : vp_in i n) (hdg : decode cc pc = .ok (.aaload, 1))
    (kk : W p l e R s m args below meth c H locs cells slots Q (F0 m (pc + 1) ls (va_rf (f i.toNatClampNeg) :: rest))) : W p l e R s m args below meth c H locs cells slots Q (F0 m pc ls (.int i :: .ref (V.1 r) :: rest)) := by
  obtain ⟨hx, hb, hml, hown, hts, hK, hr1, hlo⟩ := C
  obtain ⟨k0, -, hk0⟩ := wsr_at (V := V) (w := w) hr
  exact va_aldq hx hb hK h.1 k0 t0 (hk0.trans (by rw [he])) ht hin hdg kk
theorem r_iast (C : Cx G V p s m args meth c cc nL own Ts ret) (h : HH G V rs w s H locs) {r : Nat} (hr : r ∈ rs) {n : Nat} {f : Nat → Int32} (he : cel V w r = .inl (V.2 0, n, .inl f)) {i x : Int32} (hin : vp_in i n) (w' : wW) (he' : cel V w' r = .inl (V.2 0, n, .inl (upd f i.toNatClampNeg x))) (ho : ∀ r', r' ≠ r → cel V w' r' = cel V w r') (hdg : decode cc pc = .ok (.iastore, 1))
    (kk : ∀ (H : Heap) (locs : List Loc), HH G V rs w' s H locs → W p l e R s m args below meth c H locs cells slots Q (F0 m (pc + 1) ls rest)) : W p l e R s m args below meth c H locs cells slots Q (F0 m pc ls (.int x :: .int i :: .ref (V.1 r) :: rest)) := by
  obtain ⟨hx, hb, hml, hown, hts, hK, hr1, hlo⟩ := C
  obtain ⟨k0, hk1, hk0⟩ := wsr_at (V := V) (w := w) hr
  refine va_iast hx hb hK h.1 h.2.1 h.2.2 k0 0 (hk0.trans (by rw [he])) rfl hin hdg (fun H1 locs1 hP hD hS => kk H1 locs1 ⟨?_, ?_, hS⟩)
  · rw [← he', wsr_set h.2.1 hk1 ho] at hP; exact hP
  · rw [← he', wsr_set h.2.1 hk1 ho] at hD; exact hD
theorem r_cast (C : Cx G V p s m args meth c cc nL own Ts ret) (h : HH G V rs w s H locs) {r : Nat} (hr : r ∈ rs) {n : Nat} {f : Nat → Int32} (he : cel V w r = .inl (V.2 1, n, .inl f)) {i x : Int32} (hin : vp_in i n) (hn : vp_nar .char x = x) (w' : wW) (he' : cel V w' r = .inl (V.2 1, n, .inl (upd f i.toNatClampNeg x))) (ho : ∀ r', r' ≠ r → cel V w' r' = cel V w r') (hdg : decode cc pc = .ok (.castore, 1))
    (kk : ∀ (H : Heap) (locs : List Loc), HH G V rs w' s H locs → W p l e R s m args below meth c H locs cells slots Q (F0 m (pc + 1) ls rest)) : W p l e R s m args below meth c H locs cells slots Q (F0 m pc ls (.int x :: .int i :: .ref (V.1 r) :: rest)) := by
  obtain ⟨hx, hb, hml, hown, hts, hK, hr1, hlo⟩ := C
  obtain ⟨k0, hk1, hk0⟩ := wsr_at (V := V) (w := w) hr
  refine va_cast hx hb hK h.1 h.2.1 h.2.2 k0 1 (hk0.trans (by rw [he])) rfl hin hdg (fun H1 locs1 hP hD hS => kk H1 locs1 ⟨?_, ?_, hS⟩)
  · rw [hn, ← he', wsr_set h.2.1 hk1 ho] at hP; exact hP
  · rw [hn, ← he', wsr_set h.2.1 hk1 ho] at hD; exact hD
theorem r_zast (C : Cx G V p s m args meth c cc nL own Ts ret) (h : HH G V rs w s H locs) {r : Nat} (hr : r ∈ rs) {n : Nat} {f : Nat → Int32} (he : cel V w r = .inl (V.2 2, n, .inl f)) {i x : Int32} (hin : vp_in i n) (hn : vp_nar .boolean x = x) (w' : wW) (he' : cel V w' r = .inl (V.2 2, n, .inl (upd f i.toNatClampNeg x))) (ho : ∀ r', r' ≠ r → cel V w' r' = cel V w r') (hdg : decode cc pc = .ok (.bastore, 1))
    (kk : ∀ (H : Heap) (locs : List Loc), HH G V rs w' s H locs → W p l e R s m args below meth c H locs cells slots Q (F0 m (pc + 1) ls rest)) : W p l e R s m args below meth c H locs cells slots Q (F0 m pc ls (.int x :: .int i :: .ref (V.1 r) :: rest)) := by
  obtain ⟨hx, hb, hml, hown, hts, hK, hr1, hlo⟩ := C
  obtain ⟨k0, hk1, hk0⟩ := wsr_at (V := V) (w := w) hr
  refine va_zast hx hb hK h.1 h.2.1 h.2.2 k0 2 (hk0.trans (by rw [he])) rfl hin hdg (fun H1 locs1 hP hD hS => kk H1 locs1 ⟨?_, ?_, hS⟩)
  · rw [hn, ← he', wsr_set h.2.1 hk1 ho] at hP; exact hP
  · rw [hn, ← he', wsr_set h.2.1 hk1 ho] at hD; exact hD
end Rows
/-- one place of the class's memory changed -/
theorem cel_wC {V : wV} {w : wW} {r j : Nat} {v : Int32} (h : r < 100) {r' : Nat} (hr : r' ≠ r) : cel V (wC w (wr w.1 r j v)) r' = cel V w r' := by
  simp [cel, row, wr_ne hr]
theorem cel_wC_self {V : wV} {w : wW} {r j : Nat} {v : Int32} (h : r < 100) : cel V (wC w (wr w.1 r j v)) r = celF V w.2.2 r (upd (w.1 r) j v) := by
  simp [cel, row, wr_self, h]
theorem cel_wR {V : wV} {w : wW} {r j : Nat} {v : Int32} (h : 100 ≤ r) {r' : Nat} (hr : r' ≠ r) : cel V (wR w (wr w.2.1 r j v)) r' = cel V w r' := by
  simp [cel, row, wr_ne hr]
theorem cel_wR_self {V : wV} {w : wW} {r j : Nat} {v : Int32} (h : 100 ≤ r) : cel V (wR w (wr w.2.1 r j v)) r = celF V w.2.2 r (upd (w.2.1 r) j v) := by
  simp [cel, row, wr_self, Nat.not_lt.mpr h]
