/-! CONSTRUCTORS: a call of a method over a part of the cells; Castlequorum() -/
section Part
variable {G : va_G} {V : wV} {p : Program} {l : Launch} {e : Env} {R : Room} {s : State} {m : MethodId} {args : Array Value} {below : List Frame} {meth : Method} {c : Code} {cc : ByteArray} {nL : Nat} {own : String} {Ts : List Cond} {ret : Option FieldType} {H : Heap} {locs : List Loc} {cells slots pc : Nat} {Q : State → Prop} {ls : Array Slot} {st0 rest : List Value} {A : Nat → Prop}
theorem k_call {V0 : wV} (h2 : V0.2 = V.2) (C : Cx G V p s m args meth c cc nL own Ts ret) {sz0 : Nat} (X : XS sz0 s) (hA0 : ∀ q, A q → sz0 ≤ q) {pre : va_W} {rs : List Nat} {w w2 : wW} (h : CL G (pre ++ wsr V0 rs w) s A H locs) {r : Nat} (hr : r ∈ rs) {ci : Nat} {fs : List Value} {q : vw_C} (he : cel V0 w r = .inr (ci, fs)) (hc : vwCl[ci]? = some q)
    {y : MethodName} {bytes : ByteArray} {maxL index n fr lo : Nat} {wsy : List Cond} {As : List Value} (hM : CT l G V0 rs y wsy fr lo 0 0 (.ref (V0.1 r) :: As) w (fun v u => v = none ∧ u = w2) (fun _ _ => False))
    (cw : CallW R s args own q.1 index y bytes maxL none wsy { frames := fr, cells := 0, slots := 0, locals := lo } 0 0 n) (hn : As.length = n) (hsz : ls.size = nL) (hst : st0 = As.reverse ++ .ref (V0.1 r) :: rest) (hW : (rest.map fun v => v.category).sum ≤ 8) (hdg : decode cc pc = .ok (.invokevirtual index, 3)) (hf : cells ≤ R.cells ∧ slots ≤ R.slots)
    (kk : ∀ (H : Heap) (locs : List Loc), CL G (pre ++ wsr V0 rs w2) s A H locs → W p l e R s m args below meth c H locs cells slots Q (F0 m (pc + 3) ls rest)) : W p l e R s m args below meth c H locs cells slots Q (F0 m pc ls st0) := by
  obtain ⟨hx, hb, hml, hown, hts, hK, hr1, hlo⟩ := C
  have hK0 : va_K G vwCl (tysV V0) s := by
    have e : tysV V0 = tysV V := by simp only [tysV, h2]
    rw [e]; exact hK
  have hidx : ∀ (k : Nat) (x : Nat × va_E), (wsr V0 rs w)[k]? = some x → (pre ++ wsr V0 rs w)[pre.length + k]? = some x := fun k x hx => by
    rw [List.getElem?_append_right (Nat.le_add_right _ _), Nat.add_sub_cancel_left]; exact hx
  have hpidx : ∀ (k : Nat) (x : Nat × va_E), pre[k]? = some x → (pre ++ wsr V0 rs w)[k]? = some x := fun k x hx => by
    rw [List.getElem?_append_left (List.getElem?_eq_some_iff.mp hx).1]; exact hx
  have hP : va_P G vwCl (wsr V0 rs w) H := fun k x hx => h.1 _ x (hidx k x hx)
  have hD : va_D A (wsr V0 rs w) := ⟨fun i j x y hi hj hxy => by have := h.2.1.1 _ _ x y (hidx i x hi) (hidx j y hj) hxy; omega, fun k x hx => h.2.1.2 _ x (hidx k x hx)⟩
  have hPp : va_P G vwCl pre H := fun k x hx => h.1 _ x (hpidx k x hx)
  have hDp : va_D A pre := ⟨fun i j x y hi hj hxy => h.2.1.1 _ _ x y (hpidx i x hi) (hpidx j y hj) hxy, fun k x hx => h.2.1.2 _ x (hpidx k x hx)⟩
  have hAr : ∀ r ∈ rs, A (V0.1 r) := fun r hr => by
    obtain ⟨k, -, hk⟩ := wsr_at (V := V0) (w := w) hr
    exact hD.2 k _ hk
  have hdisj : ∀ (k : Nat) (x : Nat × va_E), pre[k]? = some x → ∀ r ∈ rs, x.1 ≠ V0.1 r := fun k x hx r hr he => by
    obtain ⟨k0, -, hk⟩ := wsr_at (V := V0) (w := w) hr
    have := h.2.1.1 _ _ _ _ (hpidx k x hx) (hidx k0 _ hk) he
    have := (List.getElem?_eq_some_iff.mp hx).1
    omega
  have hadr : ∀ q, adr V0 rs H.size q → A q := by
    rintro q (⟨r, hr, rfl⟩ | hq)
    · exact hAr r hr
    · exact h.2.2.2 q (Nat.le_trans h.2.2.1.1 hq)
  obtain ⟨k0, -, hk0⟩ := wsr_at (V := V0) (w := w) hr
  have hrun := vx_runV (R := R) (below := below) (meth := meth) (c := c) (locs := locs) (cells := cells) (slots := slots) (e := e) (rest := rest) (g := F0 m pc ls st0) ⟨hx, hb, hml, hown, hts⟩ (hM H.size) cw ⟨B0_blind, va_recv hK0 hP hc (hk0.trans (by rw [he])), fun U hU hW => ⟨rfl, by rw [hU], by rw [hU]; exact hP, va_K.moved hW.alike hK0, hD.weaken (fun _ _ _ _ => trivial), (X.to hA0 h.2.2.1 hU hW).xx (fun r hr => hA0 _ (hAr r hr))⟩⟩ rfl hn hsz hst (lv_room hW) hdg ⟨by omega, by omega⟩
  intro T hT1 XT
  rcases hrun T hT1 XT with ⟨v, st₀, t, T', L, h0, X', hL, e1, e2, ⟨⟨v', u, hv, ⟨hp, hu⟩, hb⟩, hF⟩, st⟩ | ⟨q, st₀, t, T', L, E, ce, h0, X', hL, e1, e2, ⟨u, hp, hb, hF⟩, hce, hcv, hcl, st⟩
  · cases hv
    subst hp
    rw [hu] at hb
    obtain ⟨k1, k2, k3⟩ := vx_keep h0 e1 h.2.2.1 (fun q _ z => hadr q z) hadr hL hF
    have hCL : CL G (pre ++ wsr V0 rs w2) s A T'.heap (locs ++ L) := by
      refine ⟨?_, ?_, k3, h.2.2.2⟩
      · refine (hPp.kept fun k x hx => ?_).app (by rw [e1]; exact hb.1)
        have hlt := (hPp k x hx).lt
        refine k2 x.1 hlt ?_
        rintro (⟨r, hr, hxr⟩ | hz)
        · exact hdisj k x hx r hr hxr
        · exact absurd hlt (Nat.not_lt.mpr hz)
      · refine hDp.app ((hb.2.2).weaken fun k x _ hx => hadr _ hx) fun i j x y hi hj hxy => ?_
        obtain ⟨r, hr, rfl⟩ := wsr_adr (w' := w2) hj
        exact hdisj i x hi r (List.mem_of_getElem? hr) hxy
    obtain ⟨t2, a1, b1⟩ := kk T'.heap (locs ++ L) hCL T' rfl X'
    exact ⟨t2, st t2 a1, b1⟩
  · exact hp.elim
end Part
