set_option maxRecDepth 20000 in
theorem in_X7_weighs_X7 : ∀ x ∈ wsX70, x ∈ wsX7_weighs := by decide +kernel
set_option maxRecDepth 100000 in
set_option maxHeartbeats 4000000 in
/-- the reference: weighs -/
theorem c_X7_weighs (l : Launch) {G : va_G} {V : wV} {rs : List Nat} (hr : bR rs) (M R : wM) (o : wO) (c : Nat) (hc : c < 2) (at9 : Nat) (hat : at9 < 120) (hby : isOrd (R 111 at9) = true → (R 113 at9).toNatClampNeg < 4 ∧ R 113 at9 = nI (R 113 at9).toNatClampNeg) (hof : isTru (R 111 at9) = true → (R 114 at9).toNatClampNeg < 8 ∧ R 114 at9 = nI (R 114 at9).toNatClampNeg) : CT l G V rs yX7_weighs wsX7_weighs 0 0 0 0 [.ref (V.1 rMod), .int (nI c), .int (nI at9)] (M, R, o) (fun v u => v = none ∧ u = (M, mWeigh R c at9, o)) (fun _ _ => False) := by
  refine ct_of (cc := cX7_weighs) (maxL := 6) (ret := none) (by decide) rfl (Nat.le_of_ble_eq_true rfl) ?_
  intro p e s m below meth cd ls C h X hT hl
  have hx := C.1
  have hy := C.2.1
  have hl : lv_has ls 6 [(0, .ref (V.1 rMod)), (1, .int (nI c)), (2, .int (nI at9))] := hl
  refine lv_aload_n hx hy dX7_weighs_0 rfl (lv_at hl 0 rfl) ?_
  refine g_f C h (hr 100 (by decide)) (cel_hi (by decide)) celF_Mod rfl in_X7_weighs_X7 10 (by decide) (by decide +kernel) (v := .ref (V.1 111)) rfl dX7_weighs_1 ?_
  refine lv_iload_n hx hy dX7_weighs_4 rfl (lv_at hl 2 rfl) ?_
  refine g_c C h (hr 111 (by decide)) (n := 120) (k := at9) (cel_hi (by decide)) (fun _ => rfl) (by omega) (by decide) (v := (R 111 at9)) rfl dX7_weighs_5 ?_
  refine lv_istore_n (lv' := [(3, .int (R 111 at9)), (0, .ref (V.1 rMod)), (1, .int (nI c)), (2, .int (nI at9))]) hx hy dX7_weighs_6 rfl hl (by decide) rfl (fun ls hl => ?_)
  refine lv_aload_n hx hy dX7_weighs_7 rfl (lv_at hl 1 rfl) ?_
  refine g_f C h (hr 100 (by decide)) (cel_hi (by decide)) celF_Mod rfl in_X7_weighs_X7 11 (by decide) (by decide +kernel) (v := .ref (V.1 112)) rfl dX7_weighs_8 ?_
  refine lv_iload_n hx hy dX7_weighs_11 rfl (lv_at hl 3 rfl) ?_
  refine g_i C h (hr 112 (by decide)) (n := 120) (k := at9) (cel_hi (by decide)) (fun _ => rfl) (by omega) (by decide) (v := (R 112 at9)) rfl dX7_weighs_12 ?_
  refine lv_istore (lv' := [(4, .int (R 112 at9)), (3, .int (R 111 at9)), (0, .ref (V.1 rMod)), (1, .int (nI c)), (2, .int (nI at9))]) hx hy dX7_weighs_13 hl (by decide) rfl (fun ls hl => ?_)
  have J_64 : ∀ (H : Heap) (locs : List Loc), HH G V rs (M, wP1 R at9, o) s H locs → ∀ ls : Array Slot, lv_has ls 6 [(4, .int (R 112 at9)), (3, .int (R 111 at9)), (0, .ref (V.1 rMod)), (1, .int (nI c)), (2, .int (nI at9))] → W p l e { frames := 0, cells := 0, slots := 0, locals := 0 } s m [.ref (V.1 rMod), .int (nI c), .int (nI at9)].toArray below meth cd H locs 0 0 (QM G V rs below [.ref (V.1 rMod), .int (nI c), .int (nI at9)].toArray s 0 0 (fun v u => v = none ∧ u = (M, mWeigh R c at9, o)) (fun _ _ => False)) (F0 m 64 ls []) := by
    intro H locs h ls hl
    have J_117 : ∀ (H : Heap) (locs : List Loc), HH G V rs (M, wP2 (wP1 R at9) at9, o) s H locs → ∀ ls : Array Slot, lv_has ls 6 [(4, .int (R 112 at9)), (3, .int (R 111 at9)), (0, .ref (V.1 rMod)), (1, .int (nI c)), (2, .int (nI at9))] → W p l e { frames := 0, cells := 0, slots := 0, locals := 0 } s m [.ref (V.1 rMod), .int (nI c), .int (nI at9)].toArray below meth cd H locs 0 0 (QM G V rs below [.ref (V.1 rMod), .int (nI c), .int (nI at9)].toArray s 0 0 (fun v u => v = none ∧ u = (M, mWeigh R c at9, o)) (fun _ _ => False)) (F0 m 117 ls []) := by
      intro H locs h ls hl
      refine lv_iload_n hx hy dX7_weighs_117 rfl (lv_at hl 1 rfl) ?_
      refine lv_bipush (v := (nI 112)) hx hy dX7_weighs_118 (by decide) ?_
      refine i_eq hx hy (tgt := 136) dX7_weighs_120 (by decide) (fun c_120 => ?_) (fun c_120 => ?_)
      · skip
        have J_156 : ∀ (H : Heap) (locs : List Loc), HH G V rs (M, wP2 (wP1 R at9) at9, o) s H locs → ∀ ls : Array Slot, lv_has ls 6 [(4, .int (R 112 at9)), (3, .int (R 111 at9)), (0, .ref (V.1 rMod)), (1, .int (nI c)), (2, .int (nI at9))] → W p l e { frames := 0, cells := 0, slots := 0, locals := 0 } s m [.ref (V.1 rMod), .int (nI c), .int (nI at9)].toArray below meth cd H locs 0 0 (QM G V rs below [.ref (V.1 rMod), .int (nI c), .int (nI at9)].toArray s 0 0 (fun v u => v = none ∧ u = (M, mWeigh R c at9, o)) (fun _ _ => False)) (F0 m 156 ls [.int (b2i (wFr R c at9))]) := by
          intro H locs h ls hl
          refine lv_istore (lv' := [(5, .int (b2i (wFr R c at9))), (4, .int (R 112 at9)), (3, .int (R 111 at9)), (0, .ref (V.1 rMod)), (1, .int (nI c)), (2, .int (nI at9))]) hx hy dX7_weighs_156 hl (by decide) rfl (fun ls hl => ?_)
          refine lv_aload_n hx hy dX7_weighs_158 rfl (lv_at hl 3 rfl) ?_
          refine lv_dup hx hy dX7_weighs_159 rfl ?_
          refine g_f C h (hr 100 (by decide)) (cel_hi (by decide)) celF_Mod rfl in_X7_weighs_X7 32 (by decide) (by decide +kernel) (v := .int ((wP2 (wP1 R at9) at9) rMod 32)) rfl dX7_weighs_160 ?_
          have J_186 : ∀ (H : Heap) (locs : List Loc), HH G V rs (M, wP2 (wP1 R at9) at9, o) s H locs → ∀ ls : Array Slot, lv_has ls 6 [(5, .int (b2i (wFr R c at9))), (4, .int (R 112 at9)), (3, .int (R 111 at9)), (0, .ref (V.1 rMod)), (1, .int (nI c)), (2, .int (nI at9))] → W p l e { frames := 0, cells := 0, slots := 0, locals := 0 } s m [.ref (V.1 rMod), .int (nI c), .int (nI at9)].toArray below meth cd H locs 0 0 (QM G V rs below [.ref (V.1 rMod), .int (nI c), .int (nI at9)].toArray s 0 0 (fun v u => v = none ∧ u = (M, mWeigh R c at9, o)) (fun _ _ => False)) (F0 m 186 ls [.int (wHe (R 111 at9) (R 112 at9) (wFr R c at9)), .int ((wP2 (wP1 R at9) at9) rMod 32), .ref (V.1 rMod)]) := by
            intro H locs h ls hl
            refine lv_iadd hx hy dX7_weighs_186 ?_
            refine p_fR C h (hr 100 (by decide)) (by decide) celF_Mod rfl in_X7_weighs_X7 tyX7_ok nmX7 32 (by decide) (by decide +kernel) rfl (v := .int (((wP2 (wP1 R at9) at9) rMod 32) + (wHe (R 111 at9) (R 112 at9) (wFr R c at9)))) (x := (((wP2 (wP1 R at9) at9) rMod 32) + (wHe (R 111 at9) (R 112 at9) (wFr R c at9)))) rfl rfl (fun _ => Nat.le_of_ble_eq_true rfl) (fun _ => rfl) dX7_weighs_187 (fun H locs h => ?_)
            refine lv_aload_n hx hy dX7_weighs_190 rfl (lv_at hl 3 rfl) ?_
            refine lv_dup hx hy dX7_weighs_191 rfl ?_
            refine g_f C h (hr 100 (by decide)) (cel_hi (by decide)) celF_Mod rfl in_X7_weighs_X7 31 (by decide) (by decide +kernel) (v := .int ((wP2 (wP1 R at9) at9) rMod 31)) (congrArg (fun z => some (Value.int z)) (show (wr (wP2 (wP1 R at9) at9) rMod 32 (((wP2 (wP1 R at9) at9) rMod 32) + (wHe (R 111 at9) (R 112 at9) (wFr R c at9)))) rMod 31 = ((wP2 (wP1 R at9) at9) rMod 31) from (wr_othj (by decide)))) dX7_weighs_192 ?_
            have J_218 : ∀ (H : Heap) (locs : List Loc), HH G V rs (M, wr (wP2 (wP1 R at9) at9) rMod 32 (((wP2 (wP1 R at9) at9) rMod 32) + (wHe (R 111 at9) (R 112 at9) (wFr R c at9))), o) s H locs → ∀ ls : Array Slot, lv_has ls 6 [(5, .int (b2i (wFr R c at9))), (4, .int (R 112 at9)), (3, .int (R 111 at9)), (0, .ref (V.1 rMod)), (1, .int (nI c)), (2, .int (nI at9))] → W p l e { frames := 0, cells := 0, slots := 0, locals := 0 } s m [.ref (V.1 rMod), .int (nI c), .int (nI at9)].toArray below meth cd H locs 0 0 (QM G V rs below [.ref (V.1 rMod), .int (nI c), .int (nI at9)].toArray s 0 0 (fun v u => v = none ∧ u = (M, mWeigh R c at9, o)) (fun _ _ => False)) (F0 m 218 ls [.int (wGo (R 111 at9) (R 112 at9) (wFr R c at9)), .int ((wP2 (wP1 R at9) at9) rMod 31), .ref (V.1 rMod)]) := by
              intro H locs h ls hl
              refine lv_iadd hx hy dX7_weighs_218 ?_
              refine p_fR C h (hr 100 (by decide)) (by decide) celF_Mod rfl in_X7_weighs_X7 tyX7_ok nmX7 31 (by decide) (by decide +kernel) rfl (v := .int (((wP2 (wP1 R at9) at9) rMod 31) + (wGo (R 111 at9) (R 112 at9) (wFr R c at9)))) (x := (((wP2 (wP1 R at9) at9) rMod 31) + (wGo (R 111 at9) (R 112 at9) (wFr R c at9)))) rfl rfl (fun _ => Nat.le_of_ble_eq_true rfl) (fun _ => rfl) dX7_weighs_219 (fun H locs h => ?_)
              exact e_void C h dX7_weighs_222 (⟨rfl, (by have hT9 : isTru (R 111 at9) = true := (by simp [isTru, eq_true c_120]); have hF9 : wFr (wP2 (wP1 R at9) at9) c at9 = wFr R c at9 := (by unfold wFr; rw [wP21_ne (by decide) (by decide), wP21_ne (by decide) (by decide)]); simp only [mWeigh, wP3, wP21_ne (R := R) (a := at9) (r := 111) (by decide) (by decide), wP21_ne (R := R) (a := at9) (r := 112) (by decide) (by decide), wP21_ne (R := R) (a := at9) (r := 114) (by decide) (by decide), wP21_ne (R := R) (a := at9) (r := 127) (by decide) (by decide), hT9, hF9]; rfl)⟩) (by decide) (by decide)
            refine lv_iload_n hx hy dX7_weighs_195 rfl (lv_at hl 2 rfl) ?_
            refine lv_bipush (v := (nI 100)) hx hy dX7_weighs_196 (by decide) ?_
            refine i_eq hx hy (tgt := 205) dX7_weighs_198 (by decide) (fun c_198 => ?_) (fun c_198 => ?_)
            · skip
              refine lv_iload hx hy dX7_weighs_205 (lv_at hl 0 rfl) ?_
              refine b_eq hx hy (tgt := 216) dX7_weighs_207 (by decide) (fun c_207 => ?_) (fun c_207 => ?_)
              · skip
                refine lv_iload hx hy dX7_weighs_216 (lv_at hl 1 rfl) ?_
                refine lv_topE (show (.int (R 112 at9) : Value) = .int (wGo (R 111 at9) (R 112 at9) (wFr R c at9)) from by first | contradiction | simp [wGo, eq_true c_120, eq_true c_198, c_207]) ?_
                exact J_218 _ _ h _ (lv_sub hl [0, 1, 2, 3, 4, 5] rfl)
              · skip
                refine lv_iload hx hy dX7_weighs_210 (lv_at hl 1 rfl) ?_
                refine lv_ineg hx hy dX7_weighs_212 ?_
                refine lv_goto (tgt := 218) hx hy dX7_weighs_213 (by decide) ?_
                refine lv_topE (show (.int (-(R 112 at9)) : Value) = .int (wGo (R 111 at9) (R 112 at9) (wFr R c at9)) from by first | contradiction | simp [wGo, eq_true c_120, eq_true c_198, c_207]) ?_
                exact J_218 _ _ h _ (lv_sub hl [0, 1, 2, 3, 4, 5] rfl)
            · skip
              refine lv_iconst (v := (nI 0)) hx hy dX7_weighs_201 (by decide) ?_
              refine lv_goto (tgt := 218) hx hy dX7_weighs_202 (by decide) ?_
              refine lv_topE (show (.int (nI 0) : Value) = .int (wGo (R 111 at9) (R 112 at9) (wFr R c at9)) from by first | contradiction | simp [wGo, eq_true c_120, eq_false c_198]) ?_
              exact J_218 _ _ h _ (lv_sub hl [0, 1, 2, 3, 4, 5] rfl)
          refine lv_iload hx hy dX7_weighs_163 (lv_at hl 0 rfl) ?_
          refine b_ne hx hy (tgt := 172) dX7_weighs_165 (by decide) (fun c_165 => ?_) (fun c_165 => ?_)
          · skip
            refine lv_iload_n hx hy dX7_weighs_172 rfl (lv_at hl 2 rfl) ?_
            refine lv_bipush (v := (nI 112)) hx hy dX7_weighs_173 (by decide) ?_
            refine i_ne hx hy (tgt := 183) dX7_weighs_175 (by decide) (fun c_175 => ?_) (fun c_175 => ?_)
            · skip
              refine lv_iload hx hy dX7_weighs_183 (lv_at hl 1 rfl) ?_
              refine lv_ineg hx hy dX7_weighs_185 ?_
              refine lv_topE (show (.int (-(R 112 at9)) : Value) = .int (wHe (R 111 at9) (R 112 at9) (wFr R c at9)) from by first | contradiction | simp [wHe, eq_true c_120, c_165, eq_false c_175]) ?_
              exact J_186 _ _ h _ (lv_sub hl [0, 1, 2, 3, 4, 5] rfl)
            · skip
              refine lv_iload hx hy dX7_weighs_178 (lv_at hl 1 rfl) ?_
              refine lv_goto (tgt := 186) hx hy dX7_weighs_180 (by decide) ?_
              refine lv_topE (show (.int (R 112 at9) : Value) = .int (wHe (R 111 at9) (R 112 at9) (wFr R c at9)) from by first | contradiction | simp [wHe, eq_true c_120, c_165, eq_true c_175]) ?_
              exact J_186 _ _ h _ (lv_sub hl [0, 1, 2, 3, 4, 5] rfl)
          · skip
            refine lv_iconst (v := (nI 0)) hx hy dX7_weighs_168 (by decide) ?_
            refine lv_goto (tgt := 186) hx hy dX7_weighs_169 (by decide) ?_
            refine lv_topE (show (.int (nI 0) : Value) = .int (wHe (R 111 at9) (R 112 at9) (wFr R c at9)) from by first | contradiction | simp [wHe, eq_true c_120, c_165]) ?_
            exact J_186 _ _ h _ (lv_sub hl [0, 1, 2, 3, 4, 5] rfl)
        refine lv_aload_n hx hy dX7_weighs_136 rfl (lv_at hl 2 rfl) ?_
        refine g_f C h (hr 100 (by decide)) (cel_hi (by decide)) celF_Mod rfl in_X7_weighs_X7 26 (by decide) (by decide +kernel) (v := .ref (V.1 127)) rfl dX7_weighs_137 ?_
        refine lv_aload_n hx hy dX7_weighs_140 rfl (lv_at hl 2 rfl) ?_
        refine g_f C h (hr 100 (by decide)) (cel_hi (by decide)) celF_Mod rfl in_X7_weighs_X7 13 (by decide) (by decide +kernel) (v := .ref (V.1 114)) rfl dX7_weighs_141 ?_
        refine lv_iload_n hx hy dX7_weighs_144 rfl (lv_at hl 4 rfl) ?_
        refine g_i C h (hr 114 (by decide)) (n := 120) (k := at9) (cel_hi (by decide)) (fun _ => rfl) (by omega) (by decide) (v := (R 114 at9)) (show (wP2 (wP1 R at9) at9) 114 at9 = (R 114 at9) from (congrFun (wP21_ne (by decide) (by decide)) _)) dX7_weighs_145 ?_
        have hq_146 := hof (by simp [isOrd, isTru, eq_true c_120])
        refine lv_topn hq_146.2 ?_
        refine g_i C h (hr 127 (by decide)) (n := 8) (k := ((R 114 at9).toNatClampNeg)) (cel_hi (by decide)) (fun _ => rfl) (by omega) (by decide) (v := (R 127 ((R 114 at9).toNatClampNeg))) (show (wP2 (wP1 R at9) at9) 127 ((R 114 at9).toNatClampNeg) = (R 127 ((R 114 at9).toNatClampNeg)) from (congrFun (wP21_ne (by decide) (by decide)) _)) dX7_weighs_146 ?_
        refine lv_iload_n hx hy dX7_weighs_147 rfl (lv_at hl 3 rfl) ?_
        refine i_ne hx hy (tgt := 155) dX7_weighs_148 (by decide) (fun c_148 => ?_) (fun c_148 => ?_)
        · skip
          refine lv_iconst (v := (nI 0)) hx hy dX7_weighs_155 (by decide) ?_
          refine lv_topE (show (.int (nI 0) : Value) = .int (b2i (wFr R c at9)) from by first | contradiction | simp [wFr, b2i, eq_true c_120, eq_false c_148]) ?_
          exact J_156 _ _ h _ (lv_sub hl [0, 1, 2, 3, 4] rfl)
        · skip
          refine lv_iconst (v := (nI 1)) hx hy dX7_weighs_151 (by decide) ?_
          refine lv_goto (tgt := 156) hx hy dX7_weighs_152 (by decide) ?_
          refine lv_topE (show (.int (nI 1) : Value) = .int (b2i (wFr R c at9)) from by first | contradiction | simp [wFr, b2i, eq_true c_120, eq_true c_148]) ?_
          exact J_156 _ _ h _ (lv_sub hl [0, 1, 2, 3, 4] rfl)
      · skip
        refine lv_iload_n hx hy dX7_weighs_123 rfl (lv_at hl 1 rfl) ?_
        refine lv_bipush (v := (nI 100)) hx hy dX7_weighs_124 (by decide) ?_
        refine i_eq hx hy (tgt := 136) dX7_weighs_126 (by decide) (fun c_126 => ?_) (fun c_126 => ?_)
        · skip
          have J_156 : ∀ (H : Heap) (locs : List Loc), HH G V rs (M, wP2 (wP1 R at9) at9, o) s H locs → ∀ ls : Array Slot, lv_has ls 6 [(4, .int (R 112 at9)), (3, .int (R 111 at9)), (0, .ref (V.1 rMod)), (1, .int (nI c)), (2, .int (nI at9))] → W p l e { frames := 0, cells := 0, slots := 0, locals := 0 } s m [.ref (V.1 rMod), .int (nI c), .int (nI at9)].toArray below meth cd H locs 0 0 (QM G V rs below [.ref (V.1 rMod), .int (nI c), .int (nI at9)].toArray s 0 0 (fun v u => v = none ∧ u = (M, mWeigh R c at9, o)) (fun _ _ => False)) (F0 m 156 ls [.int (b2i (wFr R c at9))]) := by
            intro H locs h ls hl
            refine lv_istore (lv' := [(5, .int (b2i (wFr R c at9))), (4, .int (R 112 at9)), (3, .int (R 111 at9)), (0, .ref (V.1 rMod)), (1, .int (nI c)), (2, .int (nI at9))]) hx hy dX7_weighs_156 hl (by decide) rfl (fun ls hl => ?_)
            refine lv_aload_n hx hy dX7_weighs_158 rfl (lv_at hl 3 rfl) ?_
            refine lv_dup hx hy dX7_weighs_159 rfl ?_
            refine g_f C h (hr 100 (by decide)) (cel_hi (by decide)) celF_Mod rfl in_X7_weighs_X7 32 (by decide) (by decide +kernel) (v := .int ((wP2 (wP1 R at9) at9) rMod 32)) rfl dX7_weighs_160 ?_
            have J_186 : ∀ (H : Heap) (locs : List Loc), HH G V rs (M, wP2 (wP1 R at9) at9, o) s H locs → ∀ ls : Array Slot, lv_has ls 6 [(5, .int (b2i (wFr R c at9))), (4, .int (R 112 at9)), (3, .int (R 111 at9)), (0, .ref (V.1 rMod)), (1, .int (nI c)), (2, .int (nI at9))] → W p l e { frames := 0, cells := 0, slots := 0, locals := 0 } s m [.ref (V.1 rMod), .int (nI c), .int (nI at9)].toArray below meth cd H locs 0 0 (QM G V rs below [.ref (V.1 rMod), .int (nI c), .int (nI at9)].toArray s 0 0 (fun v u => v = none ∧ u = (M, mWeigh R c at9, o)) (fun _ _ => False)) (F0 m 186 ls [.int (wHe (R 111 at9) (R 112 at9) (wFr R c at9)), .int ((wP2 (wP1 R at9) at9) rMod 32), .ref (V.1 rMod)]) := by
              intro H locs h ls hl
              refine lv_iadd hx hy dX7_weighs_186 ?_
              refine p_fR C h (hr 100 (by decide)) (by decide) celF_Mod rfl in_X7_weighs_X7 tyX7_ok nmX7 32 (by decide) (by decide +kernel) rfl (v := .int (((wP2 (wP1 R at9) at9) rMod 32) + (wHe (R 111 at9) (R 112 at9) (wFr R c at9)))) (x := (((wP2 (wP1 R at9) at9) rMod 32) + (wHe (R 111 at9) (R 112 at9) (wFr R c at9)))) rfl rfl (fun _ => Nat.le_of_ble_eq_true rfl) (fun _ => rfl) dX7_weighs_187 (fun H locs h => ?_)
              refine lv_aload_n hx hy dX7_weighs_190 rfl (lv_at hl 3 rfl) ?_
              refine lv_dup hx hy dX7_weighs_191 rfl ?_
              refine g_f C h (hr 100 (by decide)) (cel_hi (by decide)) celF_Mod rfl in_X7_weighs_X7 31 (by decide) (by decide +kernel) (v := .int ((wP2 (wP1 R at9) at9) rMod 31)) (congrArg (fun z => some (Value.int z)) (show (wr (wP2 (wP1 R at9) at9) rMod 32 (((wP2 (wP1 R at9) at9) rMod 32) + (wHe (R 111 at9) (R 112 at9) (wFr R c at9)))) rMod 31 = ((wP2 (wP1 R at9) at9) rMod 31) from (wr_othj (by decide)))) dX7_weighs_192 ?_
              have J_218 : ∀ (H : Heap) (locs : List Loc), HH G V rs (M, wr (wP2 (wP1 R at9) at9) rMod 32 (((wP2 (wP1 R at9) at9) rMod 32) + (wHe (R 111 at9) (R 112 at9) (wFr R c at9))), o) s H locs → ∀ ls : Array Slot, lv_has ls 6 [(5, .int (b2i (wFr R c at9))), (4, .int (R 112 at9)), (3, .int (R 111 at9)), (0, .ref (V.1 rMod)), (1, .int (nI c)), (2, .int (nI at9))] → W p l e { frames := 0, cells := 0, slots := 0, locals := 0 } s m [.ref (V.1 rMod), .int (nI c), .int (nI at9)].toArray below meth cd H locs 0 0 (QM G V rs below [.ref (V.1 rMod), .int (nI c), .int (nI at9)].toArray s 0 0 (fun v u => v = none ∧ u = (M, mWeigh R c at9, o)) (fun _ _ => False)) (F0 m 218 ls [.int (wGo (R 111 at9) (R 112 at9) (wFr R c at9)), .int ((wP2 (wP1 R at9) at9) rMod 31), .ref (V.1 rMod)]) := by
                intro H locs h ls hl
                refine lv_iadd hx hy dX7_weighs_218 ?_
                refine p_fR C h (hr 100 (by decide)) (by decide) celF_Mod rfl in_X7_weighs_X7 tyX7_ok nmX7 31 (by decide) (by decide +kernel) rfl (v := .int (((wP2 (wP1 R at9) at9) rMod 31) + (wGo (R 111 at9) (R 112 at9) (wFr R c at9)))) (x := (((wP2 (wP1 R at9) at9) rMod 31) + (wGo (R 111 at9) (R 112 at9) (wFr R c at9)))) rfl rfl (fun _ => Nat.le_of_ble_eq_true rfl) (fun _ => rfl) dX7_weighs_219 (fun H locs h => ?_)
                exact e_void C h dX7_weighs_222 (⟨rfl, (by have hT9 : isTru (R 111 at9) = true := (by simp [isTru, eq_false c_120, eq_true c_126]); have hF9 : wFr (wP2 (wP1 R at9) at9) c at9 = wFr R c at9 := (by unfold wFr; rw [wP21_ne (by decide) (by decide), wP21_ne (by decide) (by decide)]); simp only [mWeigh, wP3, wP21_ne (R := R) (a := at9) (r := 111) (by decide) (by decide), wP21_ne (R := R) (a := at9) (r := 112) (by decide) (by decide), wP21_ne (R := R) (a := at9) (r := 114) (by decide) (by decide), wP21_ne (R := R) (a := at9) (r := 127) (by decide) (by decide), hT9, hF9]; rfl)⟩) (by decide) (by decide)
              refine lv_iload_n hx hy dX7_weighs_195 rfl (lv_at hl 2 rfl) ?_
              refine lv_bipush (v := (nI 100)) hx hy dX7_weighs_196 (by decide) ?_
              refine i_eq hx hy (tgt := 205) dX7_weighs_198 (by decide) (fun c_198 => ?_) (fun c_198 => ?_)
              · skip
                refine lv_iload hx hy dX7_weighs_205 (lv_at hl 0 rfl) ?_
                refine b_eq hx hy (tgt := 216) dX7_weighs_207 (by decide) (fun c_207 => ?_) (fun c_207 => ?_)
                · skip
                  refine lv_iload hx hy dX7_weighs_216 (lv_at hl 1 rfl) ?_
                  refine lv_topE (show (.int (R 112 at9) : Value) = .int (wGo (R 111 at9) (R 112 at9) (wFr R c at9)) from by first | contradiction | simp [wGo, eq_false c_120, eq_true c_126, eq_true c_198, c_207]) ?_
                  exact J_218 _ _ h _ (lv_sub hl [0, 1, 2, 3, 4, 5] rfl)
                · skip
                  refine lv_iload hx hy dX7_weighs_210 (lv_at hl 1 rfl) ?_
                  refine lv_ineg hx hy dX7_weighs_212 ?_
                  refine lv_goto (tgt := 218) hx hy dX7_weighs_213 (by decide) ?_
                  refine lv_topE (show (.int (-(R 112 at9)) : Value) = .int (wGo (R 111 at9) (R 112 at9) (wFr R c at9)) from by first | contradiction | simp [wGo, eq_false c_120, eq_true c_126, eq_true c_198, c_207]) ?_
                  exact J_218 _ _ h _ (lv_sub hl [0, 1, 2, 3, 4, 5] rfl)
              · skip
                refine lv_iconst (v := (nI 0)) hx hy dX7_weighs_201 (by decide) ?_
                refine lv_goto (tgt := 218) hx hy dX7_weighs_202 (by decide) ?_
                refine lv_topE (show (.int (nI 0) : Value) = .int (wGo (R 111 at9) (R 112 at9) (wFr R c at9)) from by first | contradiction | simp [wGo, eq_false c_120, eq_true c_126, eq_false c_198]) ?_
                exact J_218 _ _ h _ (lv_sub hl [0, 1, 2, 3, 4, 5] rfl)
            refine lv_iload hx hy dX7_weighs_163 (lv_at hl 0 rfl) ?_
            refine b_ne hx hy (tgt := 172) dX7_weighs_165 (by decide) (fun c_165 => ?_) (fun c_165 => ?_)
            · skip
              refine lv_iload_n hx hy dX7_weighs_172 rfl (lv_at hl 2 rfl) ?_
              refine lv_bipush (v := (nI 112)) hx hy dX7_weighs_173 (by decide) ?_
              refine i_ne hx hy (tgt := 183) dX7_weighs_175 (by decide) (fun c_175 => ?_) (fun c_175 => ?_)
              · skip
                refine lv_iload hx hy dX7_weighs_183 (lv_at hl 1 rfl) ?_
                refine lv_ineg hx hy dX7_weighs_185 ?_
                refine lv_topE (show (.int (-(R 112 at9)) : Value) = .int (wHe (R 111 at9) (R 112 at9) (wFr R c at9)) from by first | contradiction | simp [wHe, eq_false c_120, eq_true c_126, c_165, eq_false c_175]) ?_
                exact J_186 _ _ h _ (lv_sub hl [0, 1, 2, 3, 4, 5] rfl)
              · skip
                refine lv_iload hx hy dX7_weighs_178 (lv_at hl 1 rfl) ?_
                refine lv_goto (tgt := 186) hx hy dX7_weighs_180 (by decide) ?_
                refine lv_topE (show (.int (R 112 at9) : Value) = .int (wHe (R 111 at9) (R 112 at9) (wFr R c at9)) from by first | contradiction | simp [wHe, eq_false c_120, eq_true c_126, c_165, eq_true c_175]) ?_
                exact J_186 _ _ h _ (lv_sub hl [0, 1, 2, 3, 4, 5] rfl)
            · skip
              refine lv_iconst (v := (nI 0)) hx hy dX7_weighs_168 (by decide) ?_
              refine lv_goto (tgt := 186) hx hy dX7_weighs_169 (by decide) ?_
              refine lv_topE (show (.int (nI 0) : Value) = .int (wHe (R 111 at9) (R 112 at9) (wFr R c at9)) from by first | contradiction | simp [wHe, eq_false c_120, eq_true c_126, c_165]) ?_
              exact J_186 _ _ h _ (lv_sub hl [0, 1, 2, 3, 4, 5] rfl)
          refine lv_aload_n hx hy dX7_weighs_136 rfl (lv_at hl 2 rfl) ?_
          refine g_f C h (hr 100 (by decide)) (cel_hi (by decide)) celF_Mod rfl in_X7_weighs_X7 26 (by decide) (by decide +kernel) (v := .ref (V.1 127)) rfl dX7_weighs_137 ?_
          refine lv_aload_n hx hy dX7_weighs_140 rfl (lv_at hl 2 rfl) ?_
          refine g_f C h (hr 100 (by decide)) (cel_hi (by decide)) celF_Mod rfl in_X7_weighs_X7 13 (by decide) (by decide +kernel) (v := .ref (V.1 114)) rfl dX7_weighs_141 ?_
          refine lv_iload_n hx hy dX7_weighs_144 rfl (lv_at hl 4 rfl) ?_
          refine g_i C h (hr 114 (by decide)) (n := 120) (k := at9) (cel_hi (by decide)) (fun _ => rfl) (by omega) (by decide) (v := (R 114 at9)) (show (wP2 (wP1 R at9) at9) 114 at9 = (R 114 at9) from (congrFun (wP21_ne (by decide) (by decide)) _)) dX7_weighs_145 ?_
          have hq_146 := hof (by simp [isOrd, isTru, eq_false c_120, eq_true c_126])
          refine lv_topn hq_146.2 ?_
          refine g_i C h (hr 127 (by decide)) (n := 8) (k := ((R 114 at9).toNatClampNeg)) (cel_hi (by decide)) (fun _ => rfl) (by omega) (by decide) (v := (R 127 ((R 114 at9).toNatClampNeg))) (show (wP2 (wP1 R at9) at9) 127 ((R 114 at9).toNatClampNeg) = (R 127 ((R 114 at9).toNatClampNeg)) from (congrFun (wP21_ne (by decide) (by decide)) _)) dX7_weighs_146 ?_
          refine lv_iload_n hx hy dX7_weighs_147 rfl (lv_at hl 3 rfl) ?_
          refine i_ne hx hy (tgt := 155) dX7_weighs_148 (by decide) (fun c_148 => ?_) (fun c_148 => ?_)
          · skip
            refine lv_iconst (v := (nI 0)) hx hy dX7_weighs_155 (by decide) ?_
            refine lv_topE (show (.int (nI 0) : Value) = .int (b2i (wFr R c at9)) from by first | contradiction | simp [wFr, b2i, eq_false c_120, eq_true c_126, eq_false c_148]) ?_
            exact J_156 _ _ h _ (lv_sub hl [0, 1, 2, 3, 4] rfl)
          · skip
            refine lv_iconst (v := (nI 1)) hx hy dX7_weighs_151 (by decide) ?_
            refine lv_goto (tgt := 156) hx hy dX7_weighs_152 (by decide) ?_
            refine lv_topE (show (.int (nI 1) : Value) = .int (b2i (wFr R c at9)) from by first | contradiction | simp [wFr, b2i, eq_false c_120, eq_true c_126, eq_true c_148]) ?_
            exact J_156 _ _ h _ (lv_sub hl [0, 1, 2, 3, 4] rfl)
        · skip
          refine lv_iload_n hx hy dX7_weighs_129 rfl (lv_at hl 1 rfl) ?_
          refine lv_bipush (v := (nI 97)) hx hy dX7_weighs_130 (by decide) ?_
          refine i_eq hx hy (tgt := 136) dX7_weighs_132 (by decide) (fun c_132 => ?_) (fun c_132 => ?_)
          · skip
            have J_156 : ∀ (H : Heap) (locs : List Loc), HH G V rs (M, wP2 (wP1 R at9) at9, o) s H locs → ∀ ls : Array Slot, lv_has ls 6 [(4, .int (R 112 at9)), (3, .int (R 111 at9)), (0, .ref (V.1 rMod)), (1, .int (nI c)), (2, .int (nI at9))] → W p l e { frames := 0, cells := 0, slots := 0, locals := 0 } s m [.ref (V.1 rMod), .int (nI c), .int (nI at9)].toArray below meth cd H locs 0 0 (QM G V rs below [.ref (V.1 rMod), .int (nI c), .int (nI at9)].toArray s 0 0 (fun v u => v = none ∧ u = (M, mWeigh R c at9, o)) (fun _ _ => False)) (F0 m 156 ls [.int (b2i (wFr R c at9))]) := by
              intro H locs h ls hl
              refine lv_istore (lv' := [(5, .int (b2i (wFr R c at9))), (4, .int (R 112 at9)), (3, .int (R 111 at9)), (0, .ref (V.1 rMod)), (1, .int (nI c)), (2, .int (nI at9))]) hx hy dX7_weighs_156 hl (by decide) rfl (fun ls hl => ?_)
              refine lv_aload_n hx hy dX7_weighs_158 rfl (lv_at hl 3 rfl) ?_
              refine lv_dup hx hy dX7_weighs_159 rfl ?_
              refine g_f C h (hr 100 (by decide)) (cel_hi (by decide)) celF_Mod rfl in_X7_weighs_X7 32 (by decide) (by decide +kernel) (v := .int ((wP2 (wP1 R at9) at9) rMod 32)) rfl dX7_weighs_160 ?_
              have J_186 : ∀ (H : Heap) (locs : List Loc), HH G V rs (M, wP2 (wP1 R at9) at9, o) s H locs → ∀ ls : Array Slot, lv_has ls 6 [(5, .int (b2i (wFr R c at9))), (4, .int (R 112 at9)), (3, .int (R 111 at9)), (0, .ref (V.1 rMod)), (1, .int (nI c)), (2, .int (nI at9))] → W p l e { frames := 0, cells := 0, slots := 0, locals := 0 } s m [.ref (V.1 rMod), .int (nI c), .int (nI at9)].toArray below meth cd H locs 0 0 (QM G V rs below [.ref (V.1 rMod), .int (nI c), .int (nI at9)].toArray s 0 0 (fun v u => v = none ∧ u = (M, mWeigh R c at9, o)) (fun _ _ => False)) (F0 m 186 ls [.int (wHe (R 111 at9) (R 112 at9) (wFr R c at9)), .int ((wP2 (wP1 R at9) at9) rMod 32), .ref (V.1 rMod)]) := by
                intro H locs h ls hl
                refine lv_iadd hx hy dX7_weighs_186 ?_
                refine p_fR C h (hr 100 (by decide)) (by decide) celF_Mod rfl in_X7_weighs_X7 tyX7_ok nmX7 32 (by decide) (by decide +kernel) rfl (v := .int (((wP2 (wP1 R at9) at9) rMod 32) + (wHe (R 111 at9) (R 112 at9) (wFr R c at9)))) (x := (((wP2 (wP1 R at9) at9) rMod 32) + (wHe (R 111 at9) (R 112 at9) (wFr R c at9)))) rfl rfl (fun _ => Nat.le_of_ble_eq_true rfl) (fun _ => rfl) dX7_weighs_187 (fun H locs h => ?_)
                refine lv_aload_n hx hy dX7_weighs_190 rfl (lv_at hl 3 rfl) ?_
                refine lv_dup hx hy dX7_weighs_191 rfl ?_
                refine g_f C h (hr 100 (by decide)) (cel_hi (by decide)) celF_Mod rfl in_X7_weighs_X7 31 (by decide) (by decide +kernel) (v := .int ((wP2 (wP1 R at9) at9) rMod 31)) (congrArg (fun z => some (Value.int z)) (show (wr (wP2 (wP1 R at9) at9) rMod 32 (((wP2 (wP1 R at9) at9) rMod 32) + (wHe (R 111 at9) (R 112 at9) (wFr R c at9)))) rMod 31 = ((wP2 (wP1 R at9) at9) rMod 31) from (wr_othj (by decide)))) dX7_weighs_192 ?_
                have J_218 : ∀ (H : Heap) (locs : List Loc), HH G V rs (M, wr (wP2 (wP1 R at9) at9) rMod 32 (((wP2 (wP1 R at9) at9) rMod 32) + (wHe (R 111 at9) (R 112 at9) (wFr R c at9))), o) s H locs → ∀ ls : Array Slot, lv_has ls 6 [(5, .int (b2i (wFr R c at9))), (4, .int (R 112 at9)), (3, .int (R 111 at9)), (0, .ref (V.1 rMod)), (1, .int (nI c)), (2, .int (nI at9))] → W p l e { frames := 0, cells := 0, slots := 0, locals := 0 } s m [.ref (V.1 rMod), .int (nI c), .int (nI at9)].toArray below meth cd H locs 0 0 (QM G V rs below [.ref (V.1 rMod), .int (nI c), .int (nI at9)].toArray s 0 0 (fun v u => v = none ∧ u = (M, mWeigh R c at9, o)) (fun _ _ => False)) (F0 m 218 ls [.int (wGo (R 111 at9) (R 112 at9) (wFr R c at9)), .int ((wP2 (wP1 R at9) at9) rMod 31), .ref (V.1 rMod)]) := by
                  intro H locs h ls hl
                  refine lv_iadd hx hy dX7_weighs_218 ?_
                  refine p_fR C h (hr 100 (by decide)) (by decide) celF_Mod rfl in_X7_weighs_X7 tyX7_ok nmX7 31 (by decide) (by decide +kernel) rfl (v := .int (((wP2 (wP1 R at9) at9) rMod 31) + (wGo (R 111 at9) (R 112 at9) (wFr R c at9)))) (x := (((wP2 (wP1 R at9) at9) rMod 31) + (wGo (R 111 at9) (R 112 at9) (wFr R c at9)))) rfl rfl (fun _ => Nat.le_of_ble_eq_true rfl) (fun _ => rfl) dX7_weighs_219 (fun H locs h => ?_)
                  exact e_void C h dX7_weighs_222 (⟨rfl, (by have hT9 : isTru (R 111 at9) = true := (by simp [isTru, eq_false c_120, eq_false c_126, eq_true c_132]); have hF9 : wFr (wP2 (wP1 R at9) at9) c at9 = wFr R c at9 := (by unfold wFr; rw [wP21_ne (by decide) (by decide), wP21_ne (by decide) (by decide)]); simp only [mWeigh, wP3, wP21_ne (R := R) (a := at9) (r := 111) (by decide) (by decide), wP21_ne (R := R) (a := at9) (r := 112) (by decide) (by decide), wP21_ne (R := R) (a := at9) (r := 114) (by decide) (by decide), wP21_ne (R := R) (a := at9) (r := 127) (by decide) (by decide), hT9, hF9]; rfl)⟩) (by decide) (by decide)
                refine lv_iload_n hx hy dX7_weighs_195 rfl (lv_at hl 2 rfl) ?_
                refine lv_bipush (v := (nI 100)) hx hy dX7_weighs_196 (by decide) ?_
                refine i_eq hx hy (tgt := 205) dX7_weighs_198 (by decide) (fun c_198 => ?_) (fun c_198 => ?_)
                · skip
                  refine lv_iload hx hy dX7_weighs_205 (lv_at hl 0 rfl) ?_
                  refine b_eq hx hy (tgt := 216) dX7_weighs_207 (by decide) (fun c_207 => ?_) (fun c_207 => ?_)
                  · skip
                    refine lv_iload hx hy dX7_weighs_216 (lv_at hl 1 rfl) ?_
                    refine lv_topE (show (.int (R 112 at9) : Value) = .int (wGo (R 111 at9) (R 112 at9) (wFr R c at9)) from by first | contradiction | simp [wGo, eq_false c_120, eq_false c_126, eq_true c_132, eq_true c_198, c_207]) ?_
                    exact J_218 _ _ h _ (lv_sub hl [0, 1, 2, 3, 4, 5] rfl)
                  · skip
                    refine lv_iload hx hy dX7_weighs_210 (lv_at hl 1 rfl) ?_
                    refine lv_ineg hx hy dX7_weighs_212 ?_
                    refine lv_goto (tgt := 218) hx hy dX7_weighs_213 (by decide) ?_
                    refine lv_topE (show (.int (-(R 112 at9)) : Value) = .int (wGo (R 111 at9) (R 112 at9) (wFr R c at9)) from by first | contradiction | simp [wGo, eq_false c_120, eq_false c_126, eq_true c_132, eq_true c_198, c_207]) ?_
                    exact J_218 _ _ h _ (lv_sub hl [0, 1, 2, 3, 4, 5] rfl)
                · skip
                  refine lv_iconst (v := (nI 0)) hx hy dX7_weighs_201 (by decide) ?_
                  refine lv_goto (tgt := 218) hx hy dX7_weighs_202 (by decide) ?_
                  refine lv_topE (show (.int (nI 0) : Value) = .int (wGo (R 111 at9) (R 112 at9) (wFr R c at9)) from by first | contradiction | simp [wGo, eq_false c_120, eq_false c_126, eq_true c_132, eq_false c_198]) ?_
                  exact J_218 _ _ h _ (lv_sub hl [0, 1, 2, 3, 4, 5] rfl)
              refine lv_iload hx hy dX7_weighs_163 (lv_at hl 0 rfl) ?_
              refine b_ne hx hy (tgt := 172) dX7_weighs_165 (by decide) (fun c_165 => ?_) (fun c_165 => ?_)
              · skip
                refine lv_iload_n hx hy dX7_weighs_172 rfl (lv_at hl 2 rfl) ?_
                refine lv_bipush (v := (nI 112)) hx hy dX7_weighs_173 (by decide) ?_
                refine i_ne hx hy (tgt := 183) dX7_weighs_175 (by decide) (fun c_175 => ?_) (fun c_175 => ?_)
                · skip
                  refine lv_iload hx hy dX7_weighs_183 (lv_at hl 1 rfl) ?_
                  refine lv_ineg hx hy dX7_weighs_185 ?_
                  refine lv_topE (show (.int (-(R 112 at9)) : Value) = .int (wHe (R 111 at9) (R 112 at9) (wFr R c at9)) from by first | contradiction | simp [wHe, eq_false c_120, eq_false c_126, eq_true c_132, c_165, eq_false c_175]) ?_
                  exact J_186 _ _ h _ (lv_sub hl [0, 1, 2, 3, 4, 5] rfl)
                · skip
                  refine lv_iload hx hy dX7_weighs_178 (lv_at hl 1 rfl) ?_
                  refine lv_goto (tgt := 186) hx hy dX7_weighs_180 (by decide) ?_
                  refine lv_topE (show (.int (R 112 at9) : Value) = .int (wHe (R 111 at9) (R 112 at9) (wFr R c at9)) from by first | contradiction | simp [wHe, eq_false c_120, eq_false c_126, eq_true c_132, c_165, eq_true c_175]) ?_
                  exact J_186 _ _ h _ (lv_sub hl [0, 1, 2, 3, 4, 5] rfl)
              · skip
                refine lv_iconst (v := (nI 0)) hx hy dX7_weighs_168 (by decide) ?_
                refine lv_goto (tgt := 186) hx hy dX7_weighs_169 (by decide) ?_
                refine lv_topE (show (.int (nI 0) : Value) = .int (wHe (R 111 at9) (R 112 at9) (wFr R c at9)) from by first | contradiction | simp [wHe, eq_false c_120, eq_false c_126, eq_true c_132, c_165]) ?_
                exact J_186 _ _ h _ (lv_sub hl [0, 1, 2, 3, 4, 5] rfl)
            refine lv_aload_n hx hy dX7_weighs_136 rfl (lv_at hl 2 rfl) ?_
            refine g_f C h (hr 100 (by decide)) (cel_hi (by decide)) celF_Mod rfl in_X7_weighs_X7 26 (by decide) (by decide +kernel) (v := .ref (V.1 127)) rfl dX7_weighs_137 ?_
            refine lv_aload_n hx hy dX7_weighs_140 rfl (lv_at hl 2 rfl) ?_
            refine g_f C h (hr 100 (by decide)) (cel_hi (by decide)) celF_Mod rfl in_X7_weighs_X7 13 (by decide) (by decide +kernel) (v := .ref (V.1 114)) rfl dX7_weighs_141 ?_
            refine lv_iload_n hx hy dX7_weighs_144 rfl (lv_at hl 4 rfl) ?_
            refine g_i C h (hr 114 (by decide)) (n := 120) (k := at9) (cel_hi (by decide)) (fun _ => rfl) (by omega) (by decide) (v := (R 114 at9)) (show (wP2 (wP1 R at9) at9) 114 at9 = (R 114 at9) from (congrFun (wP21_ne (by decide) (by decide)) _)) dX7_weighs_145 ?_
            have hq_146 := hof (by simp [isOrd, isTru, eq_false c_120, eq_false c_126, eq_true c_132])
            refine lv_topn hq_146.2 ?_
            refine g_i C h (hr 127 (by decide)) (n := 8) (k := ((R 114 at9).toNatClampNeg)) (cel_hi (by decide)) (fun _ => rfl) (by omega) (by decide) (v := (R 127 ((R 114 at9).toNatClampNeg))) (show (wP2 (wP1 R at9) at9) 127 ((R 114 at9).toNatClampNeg) = (R 127 ((R 114 at9).toNatClampNeg)) from (congrFun (wP21_ne (by decide) (by decide)) _)) dX7_weighs_146 ?_
            refine lv_iload_n hx hy dX7_weighs_147 rfl (lv_at hl 3 rfl) ?_
            refine i_ne hx hy (tgt := 155) dX7_weighs_148 (by decide) (fun c_148 => ?_) (fun c_148 => ?_)
            · skip
              refine lv_iconst (v := (nI 0)) hx hy dX7_weighs_155 (by decide) ?_
              refine lv_topE (show (.int (nI 0) : Value) = .int (b2i (wFr R c at9)) from by first | contradiction | simp [wFr, b2i, eq_false c_120, eq_false c_126, eq_true c_132, eq_false c_148]) ?_
              exact J_156 _ _ h _ (lv_sub hl [0, 1, 2, 3, 4] rfl)
            · skip
              refine lv_iconst (v := (nI 1)) hx hy dX7_weighs_151 (by decide) ?_
              refine lv_goto (tgt := 156) hx hy dX7_weighs_152 (by decide) ?_
              refine lv_topE (show (.int (nI 1) : Value) = .int (b2i (wFr R c at9)) from by first | contradiction | simp [wFr, b2i, eq_false c_120, eq_false c_126, eq_true c_132, eq_true c_148]) ?_
              exact J_156 _ _ h _ (lv_sub hl [0, 1, 2, 3, 4] rfl)
          · skip
            exact e_void C h dX7_weighs_135 (⟨rfl, by first | contradiction | simp [mWeigh, wP3, isTru, wP21_ne (R := R) (a := at9) (r := 111) (by decide) (by decide), wP21_ne (R := R) (a := at9) (r := 112) (by decide) (by decide), wP21_ne (R := R) (a := at9) (r := 114) (by decide) (by decide), wP21_ne (R := R) (a := at9) (r := 127) (by decide) (by decide), eq_false c_120, eq_false c_126, eq_false c_132]⟩) (by decide) (by decide)
    refine lv_iload_n hx hy dX7_weighs_64 rfl (lv_at hl 1 rfl) ?_
    refine lv_bipush (v := (nI 111)) hx hy dX7_weighs_65 (by decide) ?_
    refine i_eq hx hy (tgt := 76) dX7_weighs_67 (by decide) (fun c_67 => ?_) (fun c_67 => ?_)
    · skip
      refine lv_aload_n hx hy dX7_weighs_76 rfl (lv_at hl 2 rfl) ?_
      refine g_f C h (hr 100 (by decide)) (cel_hi (by decide)) celF_Mod rfl in_X7_weighs_X7 31 (by decide) (by decide +kernel) (v := .int ((wP1 R at9) rMod 31)) rfl dX7_weighs_77 ?_
      refine lv_aload_n hx hy dX7_weighs_80 rfl (lv_at hl 2 rfl) ?_
      refine g_f C h (hr 100 (by decide)) (cel_hi (by decide)) celF_Mod rfl in_X7_weighs_X7 32 (by decide) (by decide +kernel) (v := .int ((wP1 R at9) rMod 32)) rfl dX7_weighs_81 ?_
      refine lv_isub hx hy dX7_weighs_84 ?_
      refine lv_iload hx hy dX7_weighs_85 (lv_at hl 0 rfl) ?_
      refine i_lt hx hy (tgt := 117) dX7_weighs_87 (by decide) (fun c_87 => ?_) (fun c_87 => ?_)
      · skip
        exact J_117 _ _ (by rw [show ((M, wP2 (wP1 R at9) at9, o) : wW) = (M, wP1 R at9, o) from by first | contradiction | simp [wP2, wP1_ne (R := R) (a := at9) (r := 111) (by decide) (by decide), wP1_ne (R := R) (a := at9) (r := 112) (by decide) (by decide), wP1_ne (R := R) (a := at9) (r := 113) (by decide) (by decide), eq_true c_67, eq_true c_87, eq_false (Int32.not_le.mpr c_87)]]; exact h) _ (lv_sub hl [0, 1, 2, 3, 4] rfl)
      · skip
        refine lv_aload_n hx hy dX7_weighs_90 rfl (lv_at hl 2 rfl) ?_
        refine lv_dup hx hy dX7_weighs_91 rfl ?_
        refine g_f C h (hr 100 (by decide)) (cel_hi (by decide)) celF_Mod rfl in_X7_weighs_X7 31 (by decide) (by decide +kernel) (v := .int ((wP1 R at9) rMod 31)) rfl dX7_weighs_92 ?_
        refine lv_iload hx hy dX7_weighs_95 (lv_at hl 0 rfl) ?_
        refine lv_isub hx hy dX7_weighs_97 ?_
        refine p_fR C h (hr 100 (by decide)) (by decide) celF_Mod rfl in_X7_weighs_X7 tyX7_ok nmX7 31 (by decide) (by decide +kernel) rfl (v := .int (((wP1 R at9) rMod 31) - (R 112 at9))) (x := (((wP1 R at9) rMod 31) - (R 112 at9))) rfl rfl (fun _ => Nat.le_of_ble_eq_true rfl) (fun _ => rfl) dX7_weighs_98 (fun H locs h => ?_)
        refine lv_aload_n hx hy dX7_weighs_101 rfl (lv_at hl 2 rfl) ?_
        refine g_f C h (hr 100 (by decide)) (cel_hi (by decide)) celF_Mod rfl in_X7_weighs_X7 34 (by decide) (by decide +kernel) (v := .ref (V.1 135)) rfl dX7_weighs_102 ?_
        refine lv_aload_n hx hy dX7_weighs_105 rfl (lv_at hl 2 rfl) ?_
        refine g_f C h (hr 100 (by decide)) (cel_hi (by decide)) celF_Mod rfl in_X7_weighs_X7 12 (by decide) (by decide +kernel) (v := .ref (V.1 113)) rfl dX7_weighs_106 ?_
        refine lv_iload_n hx hy dX7_weighs_109 rfl (lv_at hl 4 rfl) ?_
        refine g_i C h (hr 113 (by decide)) (n := 120) (k := at9) (cel_hi (by decide)) (fun _ => rfl) (by omega) (by decide) (v := (R 113 at9)) (show (wr (wP1 R at9) rMod 31 (((wP1 R at9) rMod 31) - (R 112 at9))) 113 at9 = (R 113 at9) from ((wr_othr (by decide)).trans (congrFun (wP1_ne (by decide) (by decide)) _))) dX7_weighs_110 ?_
        have hq_111 := hby (by simp [isOrd, isTru, eq_true c_67, eq_true c_87, eq_false (Int32.not_lt.mpr c_87)])
        refine lv_topn hq_111.2 ?_
        refine lv_dup2_11 hx hy dX7_weighs_111 rfl rfl ?_
        refine g_i C h (hr 135 (by decide)) (n := 4) (k := ((R 113 at9).toNatClampNeg)) (cel_hi (by decide)) (fun _ => rfl) (by omega) (by decide) (v := ((wP1 R at9) 135 ((R 113 at9).toNatClampNeg))) (show (wr (wP1 R at9) rMod 31 (((wP1 R at9) rMod 31) - (R 112 at9))) 135 ((R 113 at9).toNatClampNeg) = ((wP1 R at9) 135 ((R 113 at9).toNatClampNeg)) from (wr_othr (by decide))) dX7_weighs_112 ?_
        refine lv_iload hx hy dX7_weighs_113 (lv_at hl 0 rfl) ?_
        refine lv_iadd hx hy dX7_weighs_115 ?_
        refine s_iR C h (hr 135 (by decide)) (by decide) (n := 4) (k := ((R 113 at9).toNatClampNeg)) (fun _ => rfl) (by omega) (by decide) (x := (((wP1 R at9) 135 ((R 113 at9).toNatClampNeg)) + (R 112 at9))) dX7_weighs_116 (fun H locs h => ?_)
        exact J_117 _ _ (by rw [show ((M, wP2 (wP1 R at9) at9, o) : wW) = (M, wr (wr (wP1 R at9) rMod 31 (((wP1 R at9) rMod 31) - (R 112 at9))) 135 ((R 113 at9).toNatClampNeg) (((wP1 R at9) 135 ((R 113 at9).toNatClampNeg)) + (R 112 at9)), o) from by first | contradiction | simp [wP2, wP1_ne (R := R) (a := at9) (r := 111) (by decide) (by decide), wP1_ne (R := R) (a := at9) (r := 112) (by decide) (by decide), wP1_ne (R := R) (a := at9) (r := 113) (by decide) (by decide), eq_true c_67, eq_true c_87, eq_false (Int32.not_lt.mpr c_87)]]; exact h) _ (lv_sub hl [0, 1, 2, 3, 4] rfl)
    · skip
      refine lv_iload_n hx hy dX7_weighs_70 rfl (lv_at hl 1 rfl) ?_
      refine lv_bipush (v := (nI 114)) hx hy dX7_weighs_71 (by decide) ?_
      refine i_ne hx hy (tgt := 117) dX7_weighs_73 (by decide) (fun c_73 => ?_) (fun c_73 => ?_)
      · skip
        exact J_117 _ _ (by rw [show ((M, wP2 (wP1 R at9) at9, o) : wW) = (M, wP1 R at9, o) from by first | contradiction | simp [wP2, wP1_ne (R := R) (a := at9) (r := 111) (by decide) (by decide), wP1_ne (R := R) (a := at9) (r := 112) (by decide) (by decide), wP1_ne (R := R) (a := at9) (r := 113) (by decide) (by decide), eq_false c_67, eq_false c_73]]; exact h) _ (lv_sub hl [0, 1, 2, 3, 4] rfl)
      · skip
        refine lv_aload_n hx hy dX7_weighs_76 rfl (lv_at hl 2 rfl) ?_
        refine g_f C h (hr 100 (by decide)) (cel_hi (by decide)) celF_Mod rfl in_X7_weighs_X7 31 (by decide) (by decide +kernel) (v := .int ((wP1 R at9) rMod 31)) rfl dX7_weighs_77 ?_
        refine lv_aload_n hx hy dX7_weighs_80 rfl (lv_at hl 2 rfl) ?_
        refine g_f C h (hr 100 (by decide)) (cel_hi (by decide)) celF_Mod rfl in_X7_weighs_X7 32 (by decide) (by decide +kernel) (v := .int ((wP1 R at9) rMod 32)) rfl dX7_weighs_81 ?_
        refine lv_isub hx hy dX7_weighs_84 ?_
        refine lv_iload hx hy dX7_weighs_85 (lv_at hl 0 rfl) ?_
        refine i_lt hx hy (tgt := 117) dX7_weighs_87 (by decide) (fun c_87 => ?_) (fun c_87 => ?_)
        · skip
          exact J_117 _ _ (by rw [show ((M, wP2 (wP1 R at9) at9, o) : wW) = (M, wP1 R at9, o) from by first | contradiction | simp [wP2, wP1_ne (R := R) (a := at9) (r := 111) (by decide) (by decide), wP1_ne (R := R) (a := at9) (r := 112) (by decide) (by decide), wP1_ne (R := R) (a := at9) (r := 113) (by decide) (by decide), eq_false c_67, eq_true c_73, eq_true c_87, eq_false (Int32.not_le.mpr c_87)]]; exact h) _ (lv_sub hl [0, 1, 2, 3, 4] rfl)
        · skip
          refine lv_aload_n hx hy dX7_weighs_90 rfl (lv_at hl 2 rfl) ?_
          refine lv_dup hx hy dX7_weighs_91 rfl ?_
          refine g_f C h (hr 100 (by decide)) (cel_hi (by decide)) celF_Mod rfl in_X7_weighs_X7 31 (by decide) (by decide +kernel) (v := .int ((wP1 R at9) rMod 31)) rfl dX7_weighs_92 ?_
          refine lv_iload hx hy dX7_weighs_95 (lv_at hl 0 rfl) ?_
          refine lv_isub hx hy dX7_weighs_97 ?_
          refine p_fR C h (hr 100 (by decide)) (by decide) celF_Mod rfl in_X7_weighs_X7 tyX7_ok nmX7 31 (by decide) (by decide +kernel) rfl (v := .int (((wP1 R at9) rMod 31) - (R 112 at9))) (x := (((wP1 R at9) rMod 31) - (R 112 at9))) rfl rfl (fun _ => Nat.le_of_ble_eq_true rfl) (fun _ => rfl) dX7_weighs_98 (fun H locs h => ?_)
          refine lv_aload_n hx hy dX7_weighs_101 rfl (lv_at hl 2 rfl) ?_
          refine g_f C h (hr 100 (by decide)) (cel_hi (by decide)) celF_Mod rfl in_X7_weighs_X7 34 (by decide) (by decide +kernel) (v := .ref (V.1 135)) rfl dX7_weighs_102 ?_
          refine lv_aload_n hx hy dX7_weighs_105 rfl (lv_at hl 2 rfl) ?_
          refine g_f C h (hr 100 (by decide)) (cel_hi (by decide)) celF_Mod rfl in_X7_weighs_X7 12 (by decide) (by decide +kernel) (v := .ref (V.1 113)) rfl dX7_weighs_106 ?_
          refine lv_iload_n hx hy dX7_weighs_109 rfl (lv_at hl 4 rfl) ?_
          refine g_i C h (hr 113 (by decide)) (n := 120) (k := at9) (cel_hi (by decide)) (fun _ => rfl) (by omega) (by decide) (v := (R 113 at9)) (show (wr (wP1 R at9) rMod 31 (((wP1 R at9) rMod 31) - (R 112 at9))) 113 at9 = (R 113 at9) from ((wr_othr (by decide)).trans (congrFun (wP1_ne (by decide) (by decide)) _))) dX7_weighs_110 ?_
          have hq_111 := hby (by simp [isOrd, isTru, eq_false c_67, eq_true c_73, eq_true c_87, eq_false (Int32.not_lt.mpr c_87)])
          refine lv_topn hq_111.2 ?_
          refine lv_dup2_11 hx hy dX7_weighs_111 rfl rfl ?_
          refine g_i C h (hr 135 (by decide)) (n := 4) (k := ((R 113 at9).toNatClampNeg)) (cel_hi (by decide)) (fun _ => rfl) (by omega) (by decide) (v := ((wP1 R at9) 135 ((R 113 at9).toNatClampNeg))) (show (wr (wP1 R at9) rMod 31 (((wP1 R at9) rMod 31) - (R 112 at9))) 135 ((R 113 at9).toNatClampNeg) = ((wP1 R at9) 135 ((R 113 at9).toNatClampNeg)) from (wr_othr (by decide))) dX7_weighs_112 ?_
          refine lv_iload hx hy dX7_weighs_113 (lv_at hl 0 rfl) ?_
          refine lv_iadd hx hy dX7_weighs_115 ?_
          refine s_iR C h (hr 135 (by decide)) (by decide) (n := 4) (k := ((R 113 at9).toNatClampNeg)) (fun _ => rfl) (by omega) (by decide) (x := (((wP1 R at9) 135 ((R 113 at9).toNatClampNeg)) + (R 112 at9))) dX7_weighs_116 (fun H locs h => ?_)
          exact J_117 _ _ (by rw [show ((M, wP2 (wP1 R at9) at9, o) : wW) = (M, wr (wr (wP1 R at9) rMod 31 (((wP1 R at9) rMod 31) - (R 112 at9))) 135 ((R 113 at9).toNatClampNeg) (((wP1 R at9) 135 ((R 113 at9).toNatClampNeg)) + (R 112 at9)), o) from by first | contradiction | simp [wP2, wP1_ne (R := R) (a := at9) (r := 111) (by decide) (by decide), wP1_ne (R := R) (a := at9) (r := 112) (by decide) (by decide), wP1_ne (R := R) (a := at9) (r := 113) (by decide) (by decide), eq_false c_67, eq_true c_73, eq_true c_87, eq_false (Int32.not_lt.mpr c_87)]]; exact h) _ (lv_sub hl [0, 1, 2, 3, 4] rfl)
  refine lv_iload_n hx hy dX7_weighs_15 rfl (lv_at hl 1 rfl) ?_
  refine lv_bipush (v := (nI 105)) hx hy dX7_weighs_16 (by decide) ?_
  refine i_ne hx hy (tgt := 64) dX7_weighs_18 (by decide) (fun c_18 => ?_) (fun c_18 => ?_)
  · skip
    exact J_64 _ _ (by rw [show ((M, wP1 R at9, o) : wW) = (M, R, o) from by first | contradiction | simp [wP1, eq_false c_18]]; exact h) _ (lv_sub hl [0, 1, 2, 3, 4] rfl)
  · skip
    refine lv_aload_n hx hy dX7_weighs_21 rfl (lv_at hl 2 rfl) ?_
    refine g_f C h (hr 100 (by decide)) (cel_hi (by decide)) celF_Mod rfl in_X7_weighs_X7 34 (by decide) (by decide +kernel) (v := .ref (V.1 135)) rfl dX7_weighs_22 ?_
    refine lv_aload_n hx hy dX7_weighs_25 rfl (lv_at hl 2 rfl) ?_
    refine g_f C h (hr 100 (by decide)) (cel_hi (by decide)) celF_Mod rfl in_X7_weighs_X7 12 (by decide) (by decide +kernel) (v := .ref (V.1 113)) rfl dX7_weighs_26 ?_
    refine lv_iload_n hx hy dX7_weighs_29 rfl (lv_at hl 4 rfl) ?_
    refine g_i C h (hr 113 (by decide)) (n := 120) (k := at9) (cel_hi (by decide)) (fun _ => rfl) (by omega) (by decide) (v := (R 113 at9)) rfl dX7_weighs_30 ?_
    have hq_31 := hby (by simp [isOrd, isTru, eq_true c_18])
    refine lv_topn hq_31.2 ?_
    refine g_i C h (hr 135 (by decide)) (n := 4) (k := ((R 113 at9).toNatClampNeg)) (cel_hi (by decide)) (fun _ => rfl) (by omega) (by decide) (v := (R 135 ((R 113 at9).toNatClampNeg))) rfl dX7_weighs_31 ?_
    refine lv_iload hx hy dX7_weighs_32 (lv_at hl 0 rfl) ?_
    refine i_lt hx hy (tgt := 64) dX7_weighs_34 (by decide) (fun c_34 => ?_) (fun c_34 => ?_)
    · skip
      exact J_64 _ _ (by rw [show ((M, wP1 R at9, o) : wW) = (M, R, o) from by first | contradiction | simp [wP1, eq_true c_18, eq_true c_34, eq_false (Int32.not_le.mpr c_34)]]; exact h) _ (lv_sub hl [0, 1, 2, 3, 4] rfl)
    · skip
      refine lv_aload_n hx hy dX7_weighs_37 rfl (lv_at hl 2 rfl) ?_
      refine g_f C h (hr 100 (by decide)) (cel_hi (by decide)) celF_Mod rfl in_X7_weighs_X7 34 (by decide) (by decide +kernel) (v := .ref (V.1 135)) rfl dX7_weighs_38 ?_
      refine lv_aload_n hx hy dX7_weighs_41 rfl (lv_at hl 2 rfl) ?_
      refine g_f C h (hr 100 (by decide)) (cel_hi (by decide)) celF_Mod rfl in_X7_weighs_X7 12 (by decide) (by decide +kernel) (v := .ref (V.1 113)) rfl dX7_weighs_42 ?_
      refine lv_iload_n hx hy dX7_weighs_45 rfl (lv_at hl 4 rfl) ?_
      refine g_i C h (hr 113 (by decide)) (n := 120) (k := at9) (cel_hi (by decide)) (fun _ => rfl) (by omega) (by decide) (v := (R 113 at9)) rfl dX7_weighs_46 ?_
      have hq_47 := hby (by simp [isOrd, isTru, eq_true c_18, eq_true c_34, eq_false (Int32.not_lt.mpr c_34)])
      refine lv_topn hq_47.2 ?_
      refine lv_dup2_11 hx hy dX7_weighs_47 rfl rfl ?_
      refine g_i C h (hr 135 (by decide)) (n := 4) (k := ((R 113 at9).toNatClampNeg)) (cel_hi (by decide)) (fun _ => rfl) (by omega) (by decide) (v := (R 135 ((R 113 at9).toNatClampNeg))) rfl dX7_weighs_48 ?_
      refine lv_iload hx hy dX7_weighs_49 (lv_at hl 0 rfl) ?_
      refine lv_isub hx hy dX7_weighs_51 ?_
      refine s_iR C h (hr 135 (by decide)) (by decide) (n := 4) (k := ((R 113 at9).toNatClampNeg)) (fun _ => rfl) (by omega) (by decide) (x := ((R 135 ((R 113 at9).toNatClampNeg)) - (R 112 at9))) dX7_weighs_52 (fun H locs h => ?_)
      refine lv_aload_n hx hy dX7_weighs_53 rfl (lv_at hl 2 rfl) ?_
      refine lv_dup hx hy dX7_weighs_54 rfl ?_
      refine g_f C h (hr 100 (by decide)) (cel_hi (by decide)) celF_Mod rfl in_X7_weighs_X7 31 (by decide) (by decide +kernel) (v := .int (R rMod 31)) (congrArg (fun z => some (Value.int z)) (show (wr R 135 ((R 113 at9).toNatClampNeg) ((R 135 ((R 113 at9).toNatClampNeg)) - (R 112 at9))) rMod 31 = (R rMod 31) from (wr_othr (by decide)))) dX7_weighs_55 ?_
      refine lv_iload hx hy dX7_weighs_58 (lv_at hl 0 rfl) ?_
      refine lv_iadd hx hy dX7_weighs_60 ?_
      refine p_fR C h (hr 100 (by decide)) (by decide) celF_Mod rfl in_X7_weighs_X7 tyX7_ok nmX7 31 (by decide) (by decide +kernel) rfl (v := .int ((R rMod 31) + (R 112 at9))) (x := ((R rMod 31) + (R 112 at9))) rfl rfl (fun _ => Nat.le_of_ble_eq_true rfl) (fun _ => rfl) dX7_weighs_61 (fun H locs h => ?_)
      exact J_64 _ _ (by rw [show ((M, wP1 R at9, o) : wW) = (M, wr (wr R 135 ((R 113 at9).toNatClampNeg) ((R 135 ((R 113 at9).toNatClampNeg)) - (R 112 at9))) rMod 31 ((R rMod 31) + (R 112 at9)), o) from by first | contradiction | simp [wP1, eq_true c_18, eq_true c_34, eq_false (Int32.not_lt.mpr c_34)]]; exact h) _ (lv_sub hl [0, 1, 2, 3, 4] rfl)

set_option maxRecDepth 20000 in
theorem in_X7_sums_X7 : ∀ x ∈ wsX70, x ∈ wsX7_sums := by decide +kernel
set_option maxRecDepth 100000 in
set_option maxHeartbeats 4000000 in
/-- the reference: sums -/
theorem c_X7_sums (l : Launch) {G : va_G} {V : wV} {rs : List Nat} (hr : bR rs) (M R : wM) (o : wO) (c : Nat) (hc : c < 2) (w : Nat) (hw6 : w ≤ 60) (hw : R 103 c = nI w) (hB : okB R c w) : CT l G V rs yX7_sums wsX7_sums 1 25 0 0 [.ref (V.1 rMod), .int (nI c)] (M, R, o) (fun v u => v = none ∧ u = (M, suM R c w, o)) (fun _ _ => False) := by
  refine ct_of (cc := cX7_sums) (maxL := 3) (ret := none) (by decide) rfl (Nat.le_of_ble_eq_true rfl) ?_
  intro p e s m below meth cd ls C h X hT hl
  have hx := C.1
  have hy := C.2.1
  have hl : lv_has ls 3 [(0, .ref (V.1 rMod)), (1, .int (nI c))] := hl
  refine lv_aload_n hx hy dX7_sums_0 rfl (lv_at hl 0 rfl) ?_
  refine lv_aload_n hx hy dX7_sums_1 rfl (lv_at hl 0 rfl) ?_
  refine g_f C h (hr 100 (by decide)) (cel_hi (by decide)) celF_Mod rfl in_X7_sums_X7 1 (by decide) (by decide +kernel) (v := .ref (V.1 102)) rfl dX7_sums_2 ?_
  refine lv_iload_n hx hy dX7_sums_5 rfl (lv_at hl 1 rfl) ?_
  refine g_i C h (hr 102 (by decide)) (n := 2) (k := c) (cel_hi (by decide)) (fun _ => rfl) (by omega) (by decide) (v := (R 102 c)) rfl dX7_sums_6 ?_
  refine p_fR C h (hr 100 (by decide)) (by decide) celF_Mod rfl in_X7_sums_X7 tyX7_ok nmX7 31 (by decide) (by decide +kernel) rfl (v := .int (R 102 c)) (x := (R 102 c)) rfl rfl (fun _ => Nat.le_of_ble_eq_true rfl) (fun _ => rfl) dX7_sums_7 (fun H locs h => ?_)
  refine lv_aload_n hx hy dX7_sums_10 rfl (lv_at hl 0 rfl) ?_
  refine lv_iconst (v := (nI 0)) hx hy dX7_sums_11 (by decide) ?_
  refine p_fR C h (hr 100 (by decide)) (by decide) celF_Mod rfl in_X7_sums_X7 tyX7_ok nmX7 32 (by decide) (by decide +kernel) rfl (v := .int (nI 0)) (x := (nI 0)) rfl rfl (fun _ => Nat.le_of_ble_eq_true rfl) (fun _ => rfl) dX7_sums_12 (fun H locs h => ?_)
  refine lv_aload_n hx hy dX7_sums_15 rfl (lv_at hl 0 rfl) ?_
  refine lv_iconst (v := (nI 0)) hx hy dX7_sums_16 (by decide) ?_
  refine p_fR C h (hr 100 (by decide)) (by decide) celF_Mod rfl in_X7_sums_X7 tyX7_ok nmX7 33 (by decide) (by decide +kernel) rfl (v := .int (nI 0)) (x := (nI 0)) rfl rfl (fun _ => Nat.le_of_ble_eq_true rfl) (fun _ => rfl) dX7_sums_17 (fun H locs h => ?_)
  refine lv_iconst (v := (nI 0)) hx hy dX7_sums_20 (by decide) ?_
  refine lv_istore_n (lv' := [(2, .int (nI 0)), (0, .ref (V.1 rMod)), (1, .int (nI c))]) hx hy dX7_sums_21 rfl hl (by decide) rfl (fun ls hl => ?_)
  have L_22 : ∀ (n_22 j : Nat), n_22 + j = 4 → ∀ (H : Heap) (locs : List Loc), HH G V rs (M, smB R c j, o) s H locs → ∀ ls : Array Slot, lv_has ls 3 [(2, .int (nI j)), (0, .ref (V.1 rMod)), (1, .int (nI c))] → W p l e { frames := 1, cells := 0, slots := 0, locals := 25 } s m [.ref (V.1 rMod), .int (nI c)].toArray below meth cd H locs 0 0 (QM G V rs below [.ref (V.1 rMod), .int (nI c)].toArray s 0 0 (fun v u => v = none ∧ u = (M, suM R c w, o)) (fun _ _ => False)) (F0 m 22 ls []) := by
    intro n_22
    induction n_22 with
    | zero =>
      intro j hk_22 H locs h ls hl
      have hz_22 : j = 4 := by omega
      try rw [hz_22] at h
      try rw [hz_22] at hl
      refine lv_iload_n hx hy dX7_sums_22 rfl (lv_at hl 0 rfl) ?_
      refine lv_iconst (v := (nI 4)) hx hy dX7_sums_23 (by decide) ?_
      refine n_ge hx hy (by decide) (by decide) (tgt := 40) dX7_sums_24 (by decide) (fun c_24 => ?_) (fun c_24 => ?_)
      · skip
        have L_40 : ∀ (n_40 k : Nat), n_40 + k = w → (∀ j, j < k → cntR R c j = true) → ∀ (H : Heap) (locs : List Loc), HH G V rs (M, smN R c k, o) s H locs → ∀ ls : Array Slot, lv_has ls 3 [(0, .ref (V.1 rMod)), (1, .int (nI c))] → W p l e { frames := 1, cells := 0, slots := 0, locals := 25 } s m [.ref (V.1 rMod), .int (nI c)].toArray below meth cd H locs 0 0 (QM G V rs below [.ref (V.1 rMod), .int (nI c)].toArray s 0 0 (fun v u => v = none ∧ u = (M, suM R c w, o)) (fun _ _ => False)) (F0 m 40 ls []) := by
          intro n_40
          induction n_40 with
          | zero =>
            intro k hk_40 hx40_0 H locs h ls hl
            have hz_40 : k = w := by omega
            try rw [hz_40] at h
            try rw [hz_40] at hl
            try rw [hz_40] at hx40_0
            refine lv_aload_n hx hy dX7_sums_40 rfl (lv_at hl 0 rfl) ?_
            refine g_f C h (hr 100 (by decide)) (cel_hi (by decide)) celF_Mod rfl in_X7_sums_X7 33 (by decide) (by decide +kernel) (v := .int (nI w)) (congrArg (fun z => some (Value.int z)) (show (smN R c w) rMod 33 = (nI w) from (smN_cnt _))) dX7_sums_41 ?_
            refine lv_aload_n hx hy dX7_sums_44 rfl (lv_at hl 0 rfl) ?_
            refine g_f C h (hr 100 (by decide)) (cel_hi (by decide)) celF_Mod rfl in_X7_sums_X7 2 (by decide) (by decide +kernel) (v := .ref (V.1 103)) rfl dX7_sums_45 ?_
            refine lv_iload_n hx hy dX7_sums_48 rfl (lv_at hl 1 rfl) ?_
            refine g_i C h (hr 103 (by decide)) (n := 2) (k := c) (cel_hi (by decide)) (fun _ => rfl) (by omega) (by decide) (v := (nI w)) (show (smN R c w) 103 c = (nI w) from ((congrFun (smN_ne (by decide) (by decide)) _).trans hw)) dX7_sums_49 ?_
            refine n_ge hx hy (by omega) (by omega) (tgt := 116) dX7_sums_50 (by decide) (fun c_50 => ?_) (fun c_50 => ?_)
            · skip
              exact e_void C h dX7_sums_116 (⟨rfl, by unfold suM; rw [lead_all hx40_0]⟩) (by decide) (by decide)
            · skip
              exact absurd c_50 (by omega)
          | succ n_40 ih_40 =>
            intro k hk_40 hx40_0 H locs h ls hl
            have hz_40 : k < w := by omega
            refine lv_aload_n hx hy dX7_sums_40 rfl (lv_at hl 0 rfl) ?_
            refine g_f C h (hr 100 (by decide)) (cel_hi (by decide)) celF_Mod rfl in_X7_sums_X7 33 (by decide) (by decide +kernel) (v := .int (nI k)) (congrArg (fun z => some (Value.int z)) (show (smN R c k) rMod 33 = (nI k) from (smN_cnt _))) dX7_sums_41 ?_
            refine lv_aload_n hx hy dX7_sums_44 rfl (lv_at hl 0 rfl) ?_
            refine g_f C h (hr 100 (by decide)) (cel_hi (by decide)) celF_Mod rfl in_X7_sums_X7 2 (by decide) (by decide +kernel) (v := .ref (V.1 103)) rfl dX7_sums_45 ?_
            refine lv_iload_n hx hy dX7_sums_48 rfl (lv_at hl 1 rfl) ?_
            refine g_i C h (hr 103 (by decide)) (n := 2) (k := c) (cel_hi (by decide)) (fun _ => rfl) (by omega) (by decide) (v := (nI w)) (show (smN R c k) 103 c = (nI w) from ((congrFun (smN_ne (by decide) (by decide)) _).trans hw)) dX7_sums_49 ?_
            refine n_ge hx hy (by omega) (by omega) (tgt := 116) dX7_sums_50 (by decide) (fun c_50 => ?_) (fun c_50 => ?_)
            · skip
              exact absurd c_50 (by omega)
            · skip
              refine lv_aload_n hx hy dX7_sums_53 rfl (lv_at hl 0 rfl) ?_
              refine g_f C h (hr 100 (by decide)) (cel_hi (by decide)) celF_Mod rfl in_X7_sums_X7 15 (by decide) (by decide +kernel) (v := .ref (V.1 116)) rfl dX7_sums_54 ?_
              refine lv_iload_n hx hy dX7_sums_57 rfl (lv_at hl 1 rfl) ?_
              refine lv_bipush (v := (nI 60)) hx hy dX7_sums_58 (by decide) ?_
              refine lv_imul hx hy dX7_sums_60 ?_
              refine lv_topn (pk_mul _ _) ?_
              refine lv_aload_n hx hy dX7_sums_61 rfl (lv_at hl 0 rfl) ?_
              refine g_f C h (hr 100 (by decide)) (cel_hi (by decide)) celF_Mod rfl in_X7_sums_X7 33 (by decide) (by decide +kernel) (v := .int (nI k)) (congrArg (fun z => some (Value.int z)) (show (smN R c k) rMod 33 = (nI k) from (smN_cnt _))) dX7_sums_62 ?_
              refine lv_iadd hx hy dX7_sums_65 ?_
              refine lv_topn (nI_add _ _) ?_
              refine g_z C h (hr 116 (by decide)) (n := 120) (k := ((c * 60) + k)) (cel_hi (by decide)) (fun _ => rfl) (by omega) (by decide) (v := (R 116 ((c * 60) + k))) (show (smN R c k) 116 ((c * 60) + k) = (R 116 ((c * 60) + k)) from (congrFun (smN_ne (by decide) (by decide)) _)) dX7_sums_66 ?_
              refine z_ne hx hy (tgt := 89) dX7_sums_67 (by decide) (fun c_67 => ?_) (fun c_67 => ?_)
              · skip
                refine lv_aload_n hx hy dX7_sums_89 rfl (lv_at hl 0 rfl) ?_
                refine lv_iload_n hx hy dX7_sums_90 rfl (lv_at hl 1 rfl) ?_
                refine lv_iload_n hx hy dX7_sums_91 rfl (lv_at hl 1 rfl) ?_
                refine lv_bipush (v := (nI 60)) hx hy dX7_sums_92 (by decide) ?_
                refine lv_imul hx hy dX7_sums_94 ?_
                refine lv_topn (pk_mul _ _) ?_
                refine lv_aload_n hx hy dX7_sums_95 rfl (lv_at hl 0 rfl) ?_
                refine g_f C h (hr 100 (by decide)) (cel_hi (by decide)) celF_Mod rfl in_X7_sums_X7 33 (by decide) (by decide +kernel) (v := .int (nI k)) (congrArg (fun z => some (Value.int z)) (show (smN R c k) rMod 33 = (nI k) from (smN_cnt _))) dX7_sums_96 ?_
                refine lv_iadd hx hy dX7_sums_99 ?_
                refine lv_topn (nI_add _ _) ?_
                refine n_go0 C h (n_V (As := [.int (nI c), .int (nI ((c * 60) + k))]) (rest := []) C h X (hr 100 (by decide)) ((cel_hi (by decide)).trans (celF_Mod _)) rfl (c_X7_weighs l hr M (smN R c k) o c hc ((c * 60) + k) (by omega) (by simp only [smN_ne (R := R) (c := c) (n := k) (r := 111) (by decide) (by decide), smN_ne (R := R) (c := c) (n := k) (r := 113) (by decide) (by decide), smN_ne (R := R) (c := c) (n := k) (r := 114) (by decide) (by decide)]; exact (hB k hz_40).1) (by simp only [smN_ne (R := R) (c := c) (n := k) (r := 111) (by decide) (by decide), smN_ne (R := R) (c := c) (n := k) (r := 113) (by decide) (by decide), smN_ne (R := R) (c := c) (n := k) (r := 114) (by decide) (by decide)]; exact (hB k hz_40).2)) (cwV 2 C.2.2.2.2.1 gX7_sums_X7_weighs rfl rfl rfl (by decide +kernel) ⟨Nat.le_of_ble_eq_true rfl, Nat.le_of_ble_eq_true rfl⟩) rfl hl.1 rfl (Nat.le_of_ble_eq_true rfl) dX7_sums_100 ⟨by decide, by decide⟩) (fun _ _ z => z) (fun v_100 u_100 H locs hpo h => ?_)
                obtain ⟨rfl, rfl⟩ := hpo
                refine lv_aload_n hx hy dX7_sums_103 rfl (lv_at hl 0 rfl) ?_
                refine lv_dup hx hy dX7_sums_104 rfl ?_
                refine g_f C h (hr 100 (by decide)) (cel_hi (by decide)) celF_Mod rfl in_X7_sums_X7 33 (by decide) (by decide +kernel) (v := .int (nI k)) (congrArg (fun z => some (Value.int z)) (show (mWeigh (smN R c k) c ((c * 60) + k)) rMod 33 = (nI k) from ((wP_oth (by decide) (by decide)).trans (smN_cnt _)))) dX7_sums_105 ?_
                refine lv_iconst (v := (nI 1)) hx hy dX7_sums_108 (by decide) ?_
                refine lv_iadd hx hy dX7_sums_109 ?_
                refine lv_topn (nI_add _ _) ?_
                refine p_fR C h (hr 100 (by decide)) (by decide) celF_Mod rfl in_X7_sums_X7 tyX7_ok nmX7 33 (by decide) (by decide +kernel) rfl (v := .int (nI (k + 1))) (x := (nI (k + 1))) rfl rfl (fun _ => Nat.le_of_ble_eq_true rfl) (fun _ => rfl) dX7_sums_110 (fun H locs h => ?_)
                refine lv_goto (tgt := 40) hx hy dX7_sums_113 (by decide) ?_
                exact ih_40 (k + 1) (by omega) (ext_lt hx40_0 (by simp [cntR, eq_true c_24, eq_false (Nat.not_lt.mpr c_24), eq_true c_50, eq_false (Nat.not_le.mpr c_50), eq_false c_67])) _ _ (by rw [show ((M, smN R c (k + 1), o) : wW) = (M, wr (mWeigh (smN R c k) c ((c * 60) + k)) rMod 33 (nI (k + 1)), o) from rfl]; exact h) _ (lv_sub hl [0, 1] rfl)
              · skip
                refine lv_aload_n hx hy dX7_sums_70 rfl (lv_at hl 0 rfl) ?_
                refine g_f C h (hr 100 (by decide)) (cel_hi (by decide)) celF_Mod rfl in_X7_sums_X7 10 (by decide) (by decide +kernel) (v := .ref (V.1 111)) rfl dX7_sums_71 ?_
                refine lv_iload_n hx hy dX7_sums_74 rfl (lv_at hl 1 rfl) ?_
                refine lv_bipush (v := (nI 60)) hx hy dX7_sums_75 (by decide) ?_
                refine lv_imul hx hy dX7_sums_77 ?_
                refine lv_topn (pk_mul _ _) ?_
                refine lv_aload_n hx hy dX7_sums_78 rfl (lv_at hl 0 rfl) ?_
                refine g_f C h (hr 100 (by decide)) (cel_hi (by decide)) celF_Mod rfl in_X7_sums_X7 33 (by decide) (by decide +kernel) (v := .int (nI k)) (congrArg (fun z => some (Value.int z)) (show (smN R c k) rMod 33 = (nI k) from (smN_cnt _))) dX7_sums_79 ?_
                refine lv_iadd hx hy dX7_sums_82 ?_
                refine lv_topn (nI_add _ _) ?_
                refine g_c C h (hr 111 (by decide)) (n := 120) (k := ((c * 60) + k)) (cel_hi (by decide)) (fun _ => rfl) (by omega) (by decide) (v := (R 111 ((c * 60) + k))) (show (smN R c k) 111 ((c * 60) + k) = (R 111 ((c * 60) + k)) from (congrFun (smN_ne (by decide) (by decide)) _)) dX7_sums_83 ?_
                refine lv_bipush (v := (nI 45)) hx hy dX7_sums_84 (by decide) ?_
                refine i_ne hx hy (tgt := 116) dX7_sums_86 (by decide) (fun c_86 => ?_) (fun c_86 => ?_)
                · skip
                  exact e_void C h dX7_sums_116 (⟨rfl, by unfold suM; rw [lead_at (Nat.le_of_lt hz_40) hx40_0 (by simp [cntR, eq_true c_24, eq_false (Nat.not_lt.mpr c_24), eq_true c_50, eq_false (Nat.not_le.mpr c_50), eq_true c_67, eq_false c_86])]⟩) (by decide) (by decide)
                · skip
                  refine lv_aload_n hx hy dX7_sums_89 rfl (lv_at hl 0 rfl) ?_
                  refine lv_iload_n hx hy dX7_sums_90 rfl (lv_at hl 1 rfl) ?_
                  refine lv_iload_n hx hy dX7_sums_91 rfl (lv_at hl 1 rfl) ?_
                  refine lv_bipush (v := (nI 60)) hx hy dX7_sums_92 (by decide) ?_
                  refine lv_imul hx hy dX7_sums_94 ?_
                  refine lv_topn (pk_mul _ _) ?_
                  refine lv_aload_n hx hy dX7_sums_95 rfl (lv_at hl 0 rfl) ?_
                  refine g_f C h (hr 100 (by decide)) (cel_hi (by decide)) celF_Mod rfl in_X7_sums_X7 33 (by decide) (by decide +kernel) (v := .int (nI k)) (congrArg (fun z => some (Value.int z)) (show (smN R c k) rMod 33 = (nI k) from (smN_cnt _))) dX7_sums_96 ?_
                  refine lv_iadd hx hy dX7_sums_99 ?_
                  refine lv_topn (nI_add _ _) ?_
                  refine n_go0 C h (n_V (As := [.int (nI c), .int (nI ((c * 60) + k))]) (rest := []) C h X (hr 100 (by decide)) ((cel_hi (by decide)).trans (celF_Mod _)) rfl (c_X7_weighs l hr M (smN R c k) o c hc ((c * 60) + k) (by omega) (by simp only [smN_ne (R := R) (c := c) (n := k) (r := 111) (by decide) (by decide), smN_ne (R := R) (c := c) (n := k) (r := 113) (by decide) (by decide), smN_ne (R := R) (c := c) (n := k) (r := 114) (by decide) (by decide)]; exact (hB k hz_40).1) (by simp only [smN_ne (R := R) (c := c) (n := k) (r := 111) (by decide) (by decide), smN_ne (R := R) (c := c) (n := k) (r := 113) (by decide) (by decide), smN_ne (R := R) (c := c) (n := k) (r := 114) (by decide) (by decide)]; exact (hB k hz_40).2)) (cwV 2 C.2.2.2.2.1 gX7_sums_X7_weighs rfl rfl rfl (by decide +kernel) ⟨Nat.le_of_ble_eq_true rfl, Nat.le_of_ble_eq_true rfl⟩) rfl hl.1 rfl (Nat.le_of_ble_eq_true rfl) dX7_sums_100 ⟨by decide, by decide⟩) (fun _ _ z => z) (fun v_100 u_100 H locs hpo h => ?_)
                  obtain ⟨rfl, rfl⟩ := hpo
                  refine lv_aload_n hx hy dX7_sums_103 rfl (lv_at hl 0 rfl) ?_
                  refine lv_dup hx hy dX7_sums_104 rfl ?_
                  refine g_f C h (hr 100 (by decide)) (cel_hi (by decide)) celF_Mod rfl in_X7_sums_X7 33 (by decide) (by decide +kernel) (v := .int (nI k)) (congrArg (fun z => some (Value.int z)) (show (mWeigh (smN R c k) c ((c * 60) + k)) rMod 33 = (nI k) from ((wP_oth (by decide) (by decide)).trans (smN_cnt _)))) dX7_sums_105 ?_
                  refine lv_iconst (v := (nI 1)) hx hy dX7_sums_108 (by decide) ?_
                  refine lv_iadd hx hy dX7_sums_109 ?_
                  refine lv_topn (nI_add _ _) ?_
                  refine p_fR C h (hr 100 (by decide)) (by decide) celF_Mod rfl in_X7_sums_X7 tyX7_ok nmX7 33 (by decide) (by decide +kernel) rfl (v := .int (nI (k + 1))) (x := (nI (k + 1))) rfl rfl (fun _ => Nat.le_of_ble_eq_true rfl) (fun _ => rfl) dX7_sums_110 (fun H locs h => ?_)
                  refine lv_goto (tgt := 40) hx hy dX7_sums_113 (by decide) ?_
                  exact ih_40 (k + 1) (by omega) (ext_lt hx40_0 (by simp [cntR, eq_true c_24, eq_false (Nat.not_lt.mpr c_24), eq_true c_50, eq_false (Nat.not_le.mpr c_50), eq_true c_67, eq_true c_86])) _ _ (by rw [show ((M, smN R c (k + 1), o) : wW) = (M, wr (mWeigh (smN R c k) c ((c * 60) + k)) rMod 33 (nI (k + 1)), o) from rfl]; exact h) _ (lv_sub hl [0, 1] rfl)
        exact L_40 (w) 0 (by omega) (fun j hj => absurd hj (Nat.not_lt_zero j)) _ _ (by rw [show (M, smN R c 0, o) = (M, smB R c 4, o) from rfl]; exact h) _ (lv_sub hl [1, 2] rfl)
      · skip
        exact absurd c_24 (by omega)
    | succ n_22 ih_22 =>
      intro j hk_22 H locs h ls hl
      have hz_22 : j < 4 := by omega
      refine lv_iload_n hx hy dX7_sums_22 rfl (lv_at hl 0 rfl) ?_
      refine lv_iconst (v := (nI 4)) hx hy dX7_sums_23 (by decide) ?_
      refine n_ge hx hy (by omega) (by decide) (tgt := 40) dX7_sums_24 (by decide) (fun c_24 => ?_) (fun c_24 => ?_)
      · skip
        exact absurd c_24 (by omega)
      · skip
        refine lv_aload_n hx hy dX7_sums_27 rfl (lv_at hl 1 rfl) ?_
        refine g_f C h (hr 100 (by decide)) (cel_hi (by decide)) celF_Mod rfl in_X7_sums_X7 34 (by decide) (by decide +kernel) (v := .ref (V.1 135)) rfl dX7_sums_28 ?_
        refine lv_iload_n hx hy dX7_sums_31 rfl (lv_at hl 0 rfl) ?_
        refine lv_iconst (v := (nI 0)) hx hy dX7_sums_32 (by decide) ?_
        refine s_iR C h (hr 135 (by decide)) (by decide) (n := 4) (k := j) (fun _ => rfl) (by omega) (by decide) (x := (nI 0)) dX7_sums_33 (fun H locs h => ?_)
        refine lv_iinc (v := (nI (j + 1))) (lv' := [(2, .int (nI (j + 1))), (0, .ref (V.1 rMod)), (1, .int (nI c))]) hx hy dX7_sums_34 hl (k := 0) rfl (nI_1 _) (by decide) rfl (fun ls hl => ?_)
        refine lv_goto (tgt := 22) hx hy dX7_sums_37 (by decide) ?_
        exact ih_22 (j + 1) (by omega) _ _ (by rw [show ((M, smB R c (j + 1), o) : wW) = (M, wr (smB R c j) 135 j (nI 0), o) from rfl]; exact h) _ (by have hl := lv_sub hl [0, 1, 2] (l' := [(2, .int (nI (j + 1))), (0, .ref (V.1 rMod)), (1, .int (nI c))]) rfl; rw [show (.int (nI (j + 1)) : Value) = .int (nI (j + 1)) from rfl] at hl; exact hl)
  exact L_22 (4) 0 (by omega) _ _ (by rw [show (M, smB R c 0, o) = (M, wr (wr (wr R rMod 31 (R 102 c)) rMod 32 (nI 0)) rMod 33 (nI 0), o) from rfl]; exact h) _ (lv_sub hl [0, 1, 2] rfl)

set_option maxRecDepth 20000 in
theorem in_X7_hangs_X7 : ∀ x ∈ wsX70, x ∈ wsX7_hangs := by decide +kernel
set_option maxRecDepth 100000 in
set_option maxHeartbeats 4000000 in
/-- the reference: hangs -/
theorem c_X7_hangs (l : Launch) {G : va_G} {V : wV} {rs : List Nat} (hr : bR rs) (M R : wM) (o : wO) (c : Nat) (hc : c < 2) (w : Nat) (hw6 : w ≤ 60) (hw : R 103 c = nI w) (hB : okB R c w) : CT l G V rs yX7_hangs wsX7_hangs 2 47 0 0 [.ref (V.1 rMod), .int (nI c)] (M, R, o) (fun v u => v = some (.int (b2i (hgR R c w))) ∧ u = (M, suM R c w, o)) (fun _ _ => False) := by
  refine ct_of (cc := cX7_hangs) (maxL := 2) (ret := (some .boolean)) (by decide) rfl (Nat.le_of_ble_eq_true rfl) ?_
  intro p e s m below meth cd ls C h X hT hl
  have hx := C.1
  have hy := C.2.1
  have hl : lv_has ls 2 [(0, .ref (V.1 rMod)), (1, .int (nI c))] := hl
  have hq : suC R c w ≤ w := lead_le _ _
  refine lv_aload_n hx hy dX7_hangs_0 rfl (lv_at hl 0 rfl) ?_
  refine lv_iload_n hx hy dX7_hangs_1 rfl (lv_at hl 1 rfl) ?_
  refine n_go0 C h (n_V (As := [.int (nI c)]) (rest := []) C h X (hr 100 (by decide)) ((cel_hi (by decide)).trans (celF_Mod _)) rfl (c_X7_sums l hr M R o c hc w hw6 (show R 103 c = nI w from hw) hB) (cwV 1 C.2.2.2.2.1 gX7_hangs_X7_sums rfl rfl rfl (by decide +kernel) ⟨Nat.le_of_ble_eq_true rfl, Nat.le_of_ble_eq_true rfl⟩) rfl hl.1 rfl (Nat.le_of_ble_eq_true rfl) dX7_hangs_2 ⟨by decide, by decide⟩) (fun _ _ z => z) (fun v_2 u_2 H locs hpo h => ?_)
  obtain ⟨rfl, rfl⟩ := hpo
  refine lv_aload_n hx hy dX7_hangs_5 rfl (lv_at hl 0 rfl) ?_
  refine g_f C h (hr 100 (by decide)) (cel_hi (by decide)) celF_Mod rfl in_X7_hangs_X7 33 (by decide) (by decide +kernel) (v := .int (nI (suC R c w))) (congrArg (fun z => some (Value.int z)) (show (suM R c w) rMod 33 = (nI (suC R c w)) from suM_cnt)) dX7_hangs_6 ?_
  refine lv_aload_n hx hy dX7_hangs_9 rfl (lv_at hl 0 rfl) ?_
  refine g_f C h (hr 100 (by decide)) (cel_hi (by decide)) celF_Mod rfl in_X7_hangs_X7 2 (by decide) (by decide +kernel) (v := .ref (V.1 103)) rfl dX7_hangs_10 ?_
  refine lv_iload_n hx hy dX7_hangs_13 rfl (lv_at hl 1 rfl) ?_
  refine g_i C h (hr 103 (by decide)) (n := 2) (k := c) (cel_hi (by decide)) (fun _ => rfl) (by omega) (by decide) (v := (nI w)) (show (suM R c w) 103 c = (nI w) from ((congrFun (suM_ne (by decide) (by decide)) _).trans hw)) dX7_hangs_14 ?_
  refine n_ge hx hy (by omega) (by omega) (tgt := 22) dX7_hangs_15 (by decide) (fun c_15 => ?_) (fun c_15 => ?_)
  · skip
    refine lv_iconst (v := (nI 0)) hx hy dX7_hangs_22 (by decide) ?_
    exact e_int C h (by decide) dX7_hangs_23 (⟨by simp [hgR, b2i, eq_true c_15, eq_false (Nat.not_lt.mpr c_15)], rfl⟩) (by decide) (by decide)
  · skip
    refine lv_iconst (v := (nI 1)) hx hy dX7_hangs_18 (by decide) ?_
    refine lv_goto (tgt := 23) hx hy dX7_hangs_19 (by decide) ?_
    exact e_int C h (by decide) dX7_hangs_23 (⟨by simp [hgR, b2i, eq_true c_15, eq_false (Nat.not_le.mpr c_15)], rfl⟩) (by decide) (by decide)

set_option maxRecDepth 20000 in
theorem in_X7_isOld_X7 : ∀ x ∈ wsX70, x ∈ wsX7_isOld := by decide +kernel
set_option maxRecDepth 100000 in
set_option maxHeartbeats 4000000 in
/-- the reference: isOld -/
theorem c_X7_isOld (l : Launch) {G : va_G} {V : wV} {rs : List Nat} (hr : bR rs) (M R : wM) (o : wO) (k : Nat) (hk : k < 20) : CT l G V rs yX7_isOld wsX7_isOld 0 0 0 0 [.ref (V.1 rMod), .int (nI k)] (M, R, o) (fun v u => v = some (.int (b2i (oldR R k))) ∧ u = (M, R, o)) (fun _ _ => False) := by
  refine ct_of (cc := cX7_isOld) (maxL := 2) (ret := (some .boolean)) (by decide) rfl (Nat.le_of_ble_eq_true rfl) ?_
  intro p e s m below meth cd ls C h X hT hl
  have hx := C.1
  have hy := C.2.1
  have hl : lv_has ls 2 [(0, .ref (V.1 rMod)), (1, .int (nI k))] := hl
  refine lv_aload_n hx hy dX7_isOld_0 rfl (lv_at hl 0 rfl) ?_
  refine g_f C h (hr 100 (by decide)) (cel_hi (by decide)) celF_Mod rfl in_X7_isOld_X7 25 (by decide) (by decide +kernel) (v := .ref (V.1 126)) rfl dX7_isOld_1 ?_
  refine lv_iload_n hx hy dX7_isOld_4 rfl (lv_at hl 1 rfl) ?_
  refine g_z C h (hr 126 (by decide)) (n := 20) (k := k) (cel_hi (by decide)) (fun _ => rfl) (by omega) (by decide) (v := (R 126 k)) rfl dX7_isOld_5 ?_
  refine z_ne hx hy (tgt := 25) dX7_isOld_6 (by decide) (fun c_6 => ?_) (fun c_6 => ?_)
  · skip
    refine lv_iconst (v := (nI 1)) hx hy dX7_isOld_25 (by decide) ?_
    refine lv_goto (tgt := 30) hx hy dX7_isOld_26 (by decide) ?_
    exact e_int C h (by decide) dX7_isOld_30 (⟨by simp [oldR, b2i, eq_false c_6], rfl⟩) (by decide) (by decide)
  · skip
    refine lv_aload_n hx hy dX7_isOld_9 rfl (lv_at hl 0 rfl) ?_
    refine g_f C h (hr 100 (by decide)) (cel_hi (by decide)) celF_Mod rfl in_X7_isOld_X7 18 (by decide) (by decide +kernel) (v := .int (R rMod 18)) rfl dX7_isOld_10 ?_
    refine lv_aload_n hx hy dX7_isOld_13 rfl (lv_at hl 0 rfl) ?_
    refine g_f C h (hr 100 (by decide)) (cel_hi (by decide)) celF_Mod rfl in_X7_isOld_X7 22 (by decide) (by decide +kernel) (v := .ref (V.1 123)) rfl dX7_isOld_14 ?_
    refine lv_iload_n hx hy dX7_isOld_17 rfl (lv_at hl 1 rfl) ?_
    refine g_i C h (hr 123 (by decide)) (n := 20) (k := k) (cel_hi (by decide)) (fun _ => rfl) (by omega) (by decide) (v := (R 123 k)) rfl dX7_isOld_18 ?_
    refine lv_bipush (v := (nI 10)) hx hy dX7_isOld_19 (by decide) ?_
    refine lv_iadd hx hy dX7_isOld_21 ?_
    refine i_lt hx hy (tgt := 29) dX7_isOld_22 (by decide) (fun c_22 => ?_) (fun c_22 => ?_)
    · skip
      refine lv_iconst (v := (nI 0)) hx hy dX7_isOld_29 (by decide) ?_
      exact e_int C h (by decide) dX7_isOld_30 (⟨by simp [oldR, b2i, eq_true c_6, eq_true c_22, eq_false (Int32.not_le.mpr c_22)], rfl⟩) (by decide) (by decide)
    · skip
      refine lv_iconst (v := (nI 1)) hx hy dX7_isOld_25 (by decide) ?_
      refine lv_goto (tgt := 30) hx hy dX7_isOld_26 (by decide) ?_
      exact e_int C h (by decide) dX7_isOld_30 (⟨by simp [oldR, b2i, eq_true c_6, eq_true c_22, eq_false (Int32.not_lt.mpr c_22)], rfl⟩) (by decide) (by decide)

set_option maxRecDepth 20000 in
theorem in_X7_isTruce_X7 : ∀ x ∈ wsX70, x ∈ wsX7_isTruce := by decide +kernel
set_option maxRecDepth 100000 in
set_option maxHeartbeats 4000000 in
/-- the reference: isTruce -/
theorem c_X7_isTruce (l : Launch) {G : va_G} {V : wV} {rs : List Nat} (hr : bR rs) (M R : wM) (o : wO) (tn : Nat) (htr8 : tn ≤ 8) (htn : R rMod 17 = nI tn) (x : Int32) : CT l G V rs yX7_isTruce wsX7_isTruce 1 22 0 0 [.ref (V.1 rMod), .int x] (M, R, o) (fun v u => v = some (.int (b2i (vIn x tn))) ∧ u = (M, R, o)) (fun _ _ => False) := by
  refine ct_of (cc := cX7_isTruce) (maxL := 2) (ret := (some .boolean)) (by decide) rfl (Nat.le_of_ble_eq_true rfl) ?_
  intro p e s m below meth cd ls C h X hT hl
  have hx := C.1
  have hy := C.2.1
  have hl : lv_has ls 2 [(0, .ref (V.1 rMod)), (1, .int x)] := hl
  refine lv_iload_n hx hy dX7_isTruce_0 rfl (lv_at hl 1 rfl) ?_
  refine lv_iconst (v := (nI 0)) hx hy dX7_isTruce_1 (by decide) ?_
  refine lv_aload_n hx hy dX7_isTruce_2 rfl (lv_at hl 0 rfl) ?_
  refine g_f C h (hr 100 (by decide)) (cel_hi (by decide)) celF_Mod rfl in_X7_isTruce_X7 17 (by decide) (by decide +kernel) (v := .int (nI tn)) (congrArg (fun z => some (Value.int z)) (show R rMod 17 = (nI tn) from htn)) dX7_isTruce_3 ?_
  refine lv_iconst (v := (nI 1)) hx hy dX7_isTruce_6 (by decide) ?_
  refine lv_isub hx hy dX7_isTruce_7 ?_
  refine n_go0 C h (n_S (As := [.int x, .int (nI 0), .int ((nI tn) - (nI 1))]) (rest := []) C h X (c_X7_isIn l M R o x (nI 0) ((nI tn) - (nI 1))) (va_cwS 3 C.2.2.2.2.1 gX7_isTruce_X7_isIn rfl rfl rfl (by decide +kernel) ⟨Nat.le_of_ble_eq_true rfl, Nat.le_of_ble_eq_true rfl⟩) rfl hl.1 rfl (Nat.le_of_ble_eq_true rfl) dX7_isTruce_8 ⟨by decide, by decide⟩) (fun _ _ z => z) (fun v_8 u_8 H locs hpo h => ?_)
  obtain ⟨rfl, rfl⟩ := hpo
  refine lv_topE (show (.int (b2i (vI x (nI 0) ((nI tn) - (nI 1)))) : Value) = .int (b2i (vIn x tn)) from by rw [vI_sub (by omega)]) ?_
  exact e_int C h (b2i_nar _) dX7_isTruce_11 (⟨rfl, rfl⟩) (by decide) (by decide)

set_option maxRecDepth 20000 in
theorem in_X7_writes_X7 : ∀ x ∈ wsX70, x ∈ wsX7_writes := by decide +kernel
set_option maxRecDepth 100000 in
set_option maxHeartbeats 4000000 in
/-- the reference: writes -/
theorem c_X7_writes (l : Launch) {G : va_G} {V : wV} {rs : List Nat} (hr : bR rs) (M R : wM) (o : wO) (c : Nat) (hc : c < 2) (mn : Nat) (hm7 : mn ≤ 7) (hmn : R 101 c = nI mn) (w : Nat) (hw6 : w < 60) (hw : R 103 c = nI w) (lo : Nat) (hlo : lo < 4) (si wi tr : Int32) (hle : vp_nar .char si = si) : CT l G V rs yX7_writes wsX7_writes 3 66 0 0 [.ref (V.1 rMod), .int (nI c), .int si, .int wi, .int (nI lo), .int tr] (M, R, o) (fun v u => v = some (.int (nI w)) ∧ u = (M, mWr R c w si wi (nI lo) tr (rcN R c lo mn), o)) (fun _ _ => False) := by
  refine ct_of (cc := cX7_writes) (maxL := 7) (ret := (some .int)) (by decide) rfl (Nat.le_of_ble_eq_true rfl) ?_
  intro p e s m below meth cd ls C h X hT hl
  have hx := C.1
  have hy := C.2.1
  have hl : lv_has ls 7 [(0, .ref (V.1 rMod)), (1, .int (nI c)), (2, .int si), (3, .int wi), (4, .int (nI lo)), (5, .int tr)] := hl
  refine lv_iload_n hx hy dX7_writes_0 rfl (lv_at hl 1 rfl) ?_
  refine lv_bipush (v := (nI 60)) hx hy dX7_writes_1 (by decide) ?_
  refine lv_imul hx hy dX7_writes_3 ?_
  refine lv_topn (pk_mul _ _) ?_
  refine lv_aload_n hx hy dX7_writes_4 rfl (lv_at hl 0 rfl) ?_
  refine g_f C h (hr 100 (by decide)) (cel_hi (by decide)) celF_Mod rfl in_X7_writes_X7 2 (by decide) (by decide +kernel) (v := .ref (V.1 103)) rfl dX7_writes_5 ?_
  refine lv_iload_n hx hy dX7_writes_8 rfl (lv_at hl 1 rfl) ?_
  refine g_i C h (hr 103 (by decide)) (n := 2) (k := c) (cel_hi (by decide)) (fun _ => rfl) (by omega) (by decide) (v := (nI w)) (show R 103 c = (nI w) from hw) dX7_writes_9 ?_
  refine lv_iadd hx hy dX7_writes_10 ?_
  refine lv_topn (nI_add _ _) ?_
  refine lv_istore (lv' := [(6, .int (nI ((c * 60) + w))), (0, .ref (V.1 rMod)), (1, .int (nI c)), (2, .int si), (3, .int wi), (4, .int (nI lo)), (5, .int tr)]) hx hy dX7_writes_11 hl (by decide) rfl (fun ls hl => ?_)
  refine lv_aload_n hx hy dX7_writes_13 rfl (lv_at hl 1 rfl) ?_
  refine g_f C h (hr 100 (by decide)) (cel_hi (by decide)) celF_Mod rfl in_X7_writes_X7 10 (by decide) (by decide +kernel) (v := .ref (V.1 111)) rfl dX7_writes_14 ?_
  refine lv_iload hx hy dX7_writes_17 (lv_at hl 0 rfl) ?_
  refine lv_iload_n hx hy dX7_writes_19 rfl (lv_at hl 3 rfl) ?_
  refine s_cR C h (hr 111 (by decide)) (by decide) (n := 120) (k := ((c * 60) + w)) (fun _ => rfl) (by omega) (by decide) (x := si) hle dX7_writes_20 (fun H locs h => ?_)
  refine lv_aload_n hx hy dX7_writes_21 rfl (lv_at hl 1 rfl) ?_
  refine g_f C h (hr 100 (by decide)) (cel_hi (by decide)) celF_Mod rfl in_X7_writes_X7 11 (by decide) (by decide +kernel) (v := .ref (V.1 112)) rfl dX7_writes_22 ?_
  refine lv_iload hx hy dX7_writes_25 (lv_at hl 0 rfl) ?_
  refine lv_iload_n hx hy dX7_writes_27 rfl (lv_at hl 4 rfl) ?_
  refine s_iR C h (hr 112 (by decide)) (by decide) (n := 120) (k := ((c * 60) + w)) (fun _ => rfl) (by omega) (by decide) (x := wi) dX7_writes_28 (fun H locs h => ?_)
  refine lv_aload_n hx hy dX7_writes_29 rfl (lv_at hl 1 rfl) ?_
  refine g_f C h (hr 100 (by decide)) (cel_hi (by decide)) celF_Mod rfl in_X7_writes_X7 12 (by decide) (by decide +kernel) (v := .ref (V.1 113)) rfl dX7_writes_30 ?_
  refine lv_iload hx hy dX7_writes_33 (lv_at hl 0 rfl) ?_
  refine lv_iload hx hy dX7_writes_35 (lv_at hl 5 rfl) ?_
  refine s_iR C h (hr 113 (by decide)) (by decide) (n := 120) (k := ((c * 60) + w)) (fun _ => rfl) (by omega) (by decide) (x := (nI lo)) dX7_writes_37 (fun H locs h => ?_)
  refine lv_aload_n hx hy dX7_writes_38 rfl (lv_at hl 1 rfl) ?_
  refine g_f C h (hr 100 (by decide)) (cel_hi (by decide)) celF_Mod rfl in_X7_writes_X7 13 (by decide) (by decide +kernel) (v := .ref (V.1 114)) rfl dX7_writes_39 ?_
  refine lv_iload hx hy dX7_writes_42 (lv_at hl 0 rfl) ?_
  refine lv_iload hx hy dX7_writes_44 (lv_at hl 6 rfl) ?_
  refine s_iR C h (hr 114 (by decide)) (by decide) (n := 120) (k := ((c * 60) + w)) (fun _ => rfl) (by omega) (by decide) (x := tr) dX7_writes_46 (fun H locs h => ?_)
  refine lv_aload_n hx hy dX7_writes_47 rfl (lv_at hl 1 rfl) ?_
  refine g_f C h (hr 100 (by decide)) (cel_hi (by decide)) celF_Mod rfl in_X7_writes_X7 14 (by decide) (by decide +kernel) (v := .ref (V.1 115)) rfl dX7_writes_48 ?_
  refine lv_iload hx hy dX7_writes_51 (lv_at hl 0 rfl) ?_
  refine lv_aload_n hx hy dX7_writes_53 rfl (lv_at hl 1 rfl) ?_
  refine lv_iload_n hx hy dX7_writes_54 rfl (lv_at hl 2 rfl) ?_
  refine lv_iload hx hy dX7_writes_55 (lv_at hl 5 rfl) ?_
  refine n_go0 C h (n_V (As := [.int (nI c), .int (nI lo)]) (rest := [.int (nI ((c * 60) + w)), .ref (V.1 115)]) C h X (hr 100 (by decide)) ((cel_hi (by decide)).trans (celF_Mod _)) rfl (c_X7_reach l hr M (wr (wr (wr (wr R 111 ((c * 60) + w) si) 112 ((c * 60) + w) wi) 113 ((c * 60) + w) (nI lo)) 114 ((c * 60) + w) tr) o c hc mn hm7 (show (wr (wr (wr (wr R 111 ((c * 60) + w) si) 112 ((c * 60) + w) wi) 113 ((c * 60) + w) (nI lo)) 114 ((c * 60) + w) tr) 101 c = nI mn from ((wr_othr (by decide)).trans ((wr_othr (by decide)).trans ((wr_othr (by decide)).trans ((wr_othr (by decide)).trans hmn))))) lo hlo) (cwV 2 C.2.2.2.2.1 gX7_writes_X7_reach rfl rfl rfl (by decide +kernel) ⟨Nat.le_of_ble_eq_true rfl, Nat.le_of_ble_eq_true rfl⟩) rfl hl.1 rfl (Nat.le_of_ble_eq_true rfl) dX7_writes_57 ⟨by decide, by decide⟩) (fun _ _ z => z) (fun v_57 u_57 H locs hpo h => ?_)
  obtain ⟨rfl, rfl⟩ := hpo
  refine lv_topn (show (rcN (wr (wr (wr (wr R 111 ((c * 60) + w) si) 112 ((c * 60) + w) wi) 113 ((c * 60) + w) (nI lo)) 114 ((c * 60) + w) tr) c lo mn) = rcN R c lo mn from rcN_eq (R := R) (R' := (wr (wr (wr (wr R 111 ((c * 60) + w) si) 112 ((c * 60) + w) wi) 113 ((c * 60) + w) (nI lo)) 114 ((c * 60) + w) tr)) rfl rfl _) ?_
  refine s_iR C h (hr 115 (by decide)) (by decide) (n := 120) (k := ((c * 60) + w)) (fun _ => rfl) (by omega) (by decide) (x := (rcN R c lo mn)) dX7_writes_60 (fun H locs h => ?_)
  refine lv_aload_n hx hy dX7_writes_61 rfl (lv_at hl 1 rfl) ?_
  refine g_f C h (hr 100 (by decide)) (cel_hi (by decide)) celF_Mod rfl in_X7_writes_X7 15 (by decide) (by decide +kernel) (v := .ref (V.1 116)) rfl dX7_writes_62 ?_
  refine lv_iload hx hy dX7_writes_65 (lv_at hl 0 rfl) ?_
  refine lv_iconst (v := (nI 0)) hx hy dX7_writes_67 (by decide) ?_
  refine s_zR C h (hr 116 (by decide)) (by decide) (n := 120) (k := ((c * 60) + w)) (fun _ => rfl) (by omega) (by decide) (x := (nI 0)) (by decide) dX7_writes_68 (fun H locs h => ?_)
  refine lv_aload_n hx hy dX7_writes_69 rfl (lv_at hl 1 rfl) ?_
  refine g_f C h (hr 100 (by decide)) (cel_hi (by decide)) celF_Mod rfl in_X7_writes_X7 2 (by decide) (by decide +kernel) (v := .ref (V.1 103)) rfl dX7_writes_70 ?_
  refine lv_iload_n hx hy dX7_writes_73 rfl (lv_at hl 2 rfl) ?_
  refine lv_dup2_11 hx hy dX7_writes_74 rfl rfl ?_
  refine g_i C h (hr 103 (by decide)) (n := 2) (k := c) (cel_hi (by decide)) (fun _ => rfl) (by omega) (by decide) (v := (nI w)) (show (wr (wr (wr (wr (wr (wr R 111 ((c * 60) + w) si) 112 ((c * 60) + w) wi) 113 ((c * 60) + w) (nI lo)) 114 ((c * 60) + w) tr) 115 ((c * 60) + w) (rcN R c lo mn)) 116 ((c * 60) + w) (nI 0)) 103 c = (nI w) from ((wr_othr (by decide)).trans ((wr_othr (by decide)).trans ((wr_othr (by decide)).trans ((wr_othr (by decide)).trans ((wr_othr (by decide)).trans ((wr_othr (by decide)).trans hw))))))) dX7_writes_75 ?_
  refine lv_iconst (v := (nI 1)) hx hy dX7_writes_76 (by decide) ?_
  refine lv_iadd hx hy dX7_writes_77 ?_
  refine lv_topn (nI_add _ _) ?_
  refine s_iR C h (hr 103 (by decide)) (by decide) (n := 2) (k := c) (fun _ => rfl) (by omega) (by decide) (x := (nI (w + 1))) dX7_writes_78 (fun H locs h => ?_)
  refine lv_aload_n hx hy dX7_writes_79 rfl (lv_at hl 1 rfl) ?_
  refine lv_iload_n hx hy dX7_writes_80 rfl (lv_at hl 2 rfl) ?_
  refine n_go0 C h (n_V (As := [.int (nI c)]) (rest := []) C h X (hr 100 (by decide)) ((cel_hi (by decide)).trans (celF_Mod _)) rfl (c_X7_commits l hr M (wr (wr (wr (wr (wr (wr (wr R 111 ((c * 60) + w) si) 112 ((c * 60) + w) wi) 113 ((c * 60) + w) (nI lo)) 114 ((c * 60) + w) tr) 115 ((c * 60) + w) (rcN R c lo mn)) 116 ((c * 60) + w) (nI 0)) 103 c (nI (w + 1))) o c hc (w + 1) (by omega) (show (wr (wr (wr (wr (wr (wr (wr R 111 ((c * 60) + w) si) 112 ((c * 60) + w) wi) 113 ((c * 60) + w) (nI lo)) 114 ((c * 60) + w) tr) 115 ((c * 60) + w) (rcN R c lo mn)) 116 ((c * 60) + w) (nI 0)) 103 c (nI (w + 1))) 103 c = nI (w + 1) from (wr_same _ _ _ _))) (cwV 1 C.2.2.2.2.1 gX7_writes_X7_commits rfl rfl rfl (by decide +kernel) ⟨Nat.le_of_ble_eq_true rfl, Nat.le_of_ble_eq_true rfl⟩) rfl hl.1 rfl (Nat.le_of_ble_eq_true rfl) dX7_writes_81 ⟨by decide, by decide⟩) (fun _ _ z => z) (fun v_81 u_81 H locs hpo h => ?_)
  obtain ⟨rfl, rfl⟩ := hpo
  refine lv_aload_n hx hy dX7_writes_84 rfl (lv_at hl 1 rfl) ?_
  refine g_f C h (hr 100 (by decide)) (cel_hi (by decide)) celF_Mod rfl in_X7_writes_X7 2 (by decide) (by decide +kernel) (v := .ref (V.1 103)) rfl dX7_writes_85 ?_
  refine lv_iload_n hx hy dX7_writes_88 rfl (lv_at hl 2 rfl) ?_
  refine g_i C h (hr 103 (by decide)) (n := 2) (k := c) (cel_hi (by decide)) (fun _ => rfl) (by omega) (by decide) (v := (nI (w + 1))) (show (cmN (wr (wr (wr (wr (wr (wr (wr R 111 ((c * 60) + w) si) 112 ((c * 60) + w) wi) 113 ((c * 60) + w) (nI lo)) 114 ((c * 60) + w) tr) 115 ((c * 60) + w) (rcN R c lo mn)) 116 ((c * 60) + w) (nI 0)) 103 c (nI (w + 1))) c (w + 1)) 103 c = (nI (w + 1)) from ((congrFun (cmN_ne (by decide)) _).trans (wr_same _ _ _ _))) dX7_writes_89 ?_
  refine lv_iconst (v := (nI 1)) hx hy dX7_writes_90 (by decide) ?_
  refine lv_isub hx hy dX7_writes_91 ?_
  exact e_int C h rfl dX7_writes_92 (⟨by rw [show nI 1 = (1 : Int32) from rfl, nI_pred], rfl⟩) (by decide) (by decide)

set_option maxRecDepth 20000 in
theorem in_X7_writesU_X7 : ∀ x ∈ wsX70, x ∈ wsX7_writes := by decide +kernel
set_option maxRecDepth 100000 in
set_option maxHeartbeats 4000000 in
/-- the reference: writesU -/
theorem c_X7_writesU (l : Launch) {G : va_G} {V : wV} {rs : List Nat} (hr : bR rs) (M R : wM) (o : wO) (c : Nat) (hc : c < 2) (mn : Nat) (hm7 : mn ≤ 7) (hmn : R 101 c = nI mn) (w : Nat) (hw6 : w < 60) (hw : R 103 c = nI w) (si wi tr : Int32) (hle : vp_nar .char si = si) : CT l G V rs yX7_writes wsX7_writes 3 66 0 0 [.ref (V.1 rMod), .int (nI c), .int si, .int wi, .int (-1), .int tr] (M, R, o) (fun v u => v = some (.int (nI w)) ∧ u = (M, mWr R c w si wi (-1) tr (rcU R c mn), o)) (fun _ _ => False) := by
  refine ct_of (cc := cX7_writes) (maxL := 7) (ret := (some .int)) (by decide) rfl (Nat.le_of_ble_eq_true rfl) ?_
  intro p e s m below meth cd ls C h X hT hl
  have hx := C.1
  have hy := C.2.1
  have hl : lv_has ls 7 [(0, .ref (V.1 rMod)), (1, .int (nI c)), (2, .int si), (3, .int wi), (4, .int (-1)), (5, .int tr)] := hl
  refine lv_iload_n hx hy dX7_writes_0 rfl (lv_at hl 1 rfl) ?_
  refine lv_bipush (v := (nI 60)) hx hy dX7_writes_1 (by decide) ?_
  refine lv_imul hx hy dX7_writes_3 ?_
  refine lv_topn (pk_mul _ _) ?_
  refine lv_aload_n hx hy dX7_writes_4 rfl (lv_at hl 0 rfl) ?_
  refine g_f C h (hr 100 (by decide)) (cel_hi (by decide)) celF_Mod rfl in_X7_writesU_X7 2 (by decide) (by decide +kernel) (v := .ref (V.1 103)) rfl dX7_writes_5 ?_
  refine lv_iload_n hx hy dX7_writes_8 rfl (lv_at hl 1 rfl) ?_
  refine g_i C h (hr 103 (by decide)) (n := 2) (k := c) (cel_hi (by decide)) (fun _ => rfl) (by omega) (by decide) (v := (nI w)) (show R 103 c = (nI w) from hw) dX7_writes_9 ?_
  refine lv_iadd hx hy dX7_writes_10 ?_
  refine lv_topn (nI_add _ _) ?_
  refine lv_istore (lv' := [(6, .int (nI ((c * 60) + w))), (0, .ref (V.1 rMod)), (1, .int (nI c)), (2, .int si), (3, .int wi), (4, .int (-1)), (5, .int tr)]) hx hy dX7_writes_11 hl (by decide) rfl (fun ls hl => ?_)
  refine lv_aload_n hx hy dX7_writes_13 rfl (lv_at hl 1 rfl) ?_
  refine g_f C h (hr 100 (by decide)) (cel_hi (by decide)) celF_Mod rfl in_X7_writesU_X7 10 (by decide) (by decide +kernel) (v := .ref (V.1 111)) rfl dX7_writes_14 ?_
  refine lv_iload hx hy dX7_writes_17 (lv_at hl 0 rfl) ?_
  refine lv_iload_n hx hy dX7_writes_19 rfl (lv_at hl 3 rfl) ?_
  refine s_cR C h (hr 111 (by decide)) (by decide) (n := 120) (k := ((c * 60) + w)) (fun _ => rfl) (by omega) (by decide) (x := si) hle dX7_writes_20 (fun H locs h => ?_)
  refine lv_aload_n hx hy dX7_writes_21 rfl (lv_at hl 1 rfl) ?_
  refine g_f C h (hr 100 (by decide)) (cel_hi (by decide)) celF_Mod rfl in_X7_writesU_X7 11 (by decide) (by decide +kernel) (v := .ref (V.1 112)) rfl dX7_writes_22 ?_
  refine lv_iload hx hy dX7_writes_25 (lv_at hl 0 rfl) ?_
  refine lv_iload_n hx hy dX7_writes_27 rfl (lv_at hl 4 rfl) ?_
  refine s_iR C h (hr 112 (by decide)) (by decide) (n := 120) (k := ((c * 60) + w)) (fun _ => rfl) (by omega) (by decide) (x := wi) dX7_writes_28 (fun H locs h => ?_)
  refine lv_aload_n hx hy dX7_writes_29 rfl (lv_at hl 1 rfl) ?_
  refine g_f C h (hr 100 (by decide)) (cel_hi (by decide)) celF_Mod rfl in_X7_writesU_X7 12 (by decide) (by decide +kernel) (v := .ref (V.1 113)) rfl dX7_writes_30 ?_
  refine lv_iload hx hy dX7_writes_33 (lv_at hl 0 rfl) ?_
  refine lv_iload hx hy dX7_writes_35 (lv_at hl 5 rfl) ?_
  refine s_iR C h (hr 113 (by decide)) (by decide) (n := 120) (k := ((c * 60) + w)) (fun _ => rfl) (by omega) (by decide) (x := (-1)) dX7_writes_37 (fun H locs h => ?_)
  refine lv_aload_n hx hy dX7_writes_38 rfl (lv_at hl 1 rfl) ?_
  refine g_f C h (hr 100 (by decide)) (cel_hi (by decide)) celF_Mod rfl in_X7_writesU_X7 13 (by decide) (by decide +kernel) (v := .ref (V.1 114)) rfl dX7_writes_39 ?_
  refine lv_iload hx hy dX7_writes_42 (lv_at hl 0 rfl) ?_
  refine lv_iload hx hy dX7_writes_44 (lv_at hl 6 rfl) ?_
  refine s_iR C h (hr 114 (by decide)) (by decide) (n := 120) (k := ((c * 60) + w)) (fun _ => rfl) (by omega) (by decide) (x := tr) dX7_writes_46 (fun H locs h => ?_)
  refine lv_aload_n hx hy dX7_writes_47 rfl (lv_at hl 1 rfl) ?_
  refine g_f C h (hr 100 (by decide)) (cel_hi (by decide)) celF_Mod rfl in_X7_writesU_X7 14 (by decide) (by decide +kernel) (v := .ref (V.1 115)) rfl dX7_writes_48 ?_
  refine lv_iload hx hy dX7_writes_51 (lv_at hl 0 rfl) ?_
  refine lv_aload_n hx hy dX7_writes_53 rfl (lv_at hl 1 rfl) ?_
  refine lv_iload_n hx hy dX7_writes_54 rfl (lv_at hl 2 rfl) ?_
  refine lv_iload hx hy dX7_writes_55 (lv_at hl 5 rfl) ?_
  refine n_go0 C h (n_V (As := [.int (nI c), .int (-1)]) (rest := [.int (nI ((c * 60) + w)), .ref (V.1 115)]) C h X (hr 100 (by decide)) ((cel_hi (by decide)).trans (celF_Mod _)) rfl (c_X7_reachU l hr M (wr (wr (wr (wr R 111 ((c * 60) + w) si) 112 ((c * 60) + w) wi) 113 ((c * 60) + w) (-1)) 114 ((c * 60) + w) tr) o c hc mn hm7 (show (wr (wr (wr (wr R 111 ((c * 60) + w) si) 112 ((c * 60) + w) wi) 113 ((c * 60) + w) (-1)) 114 ((c * 60) + w) tr) 101 c = nI mn from ((wr_othr (by decide)).trans ((wr_othr (by decide)).trans ((wr_othr (by decide)).trans ((wr_othr (by decide)).trans hmn)))))) (cwV 2 C.2.2.2.2.1 gX7_writes_X7_reach rfl rfl rfl (by decide +kernel) ⟨Nat.le_of_ble_eq_true rfl, Nat.le_of_ble_eq_true rfl⟩) rfl hl.1 rfl (Nat.le_of_ble_eq_true rfl) dX7_writes_57 ⟨by decide, by decide⟩) (fun _ _ z => z) (fun v_57 u_57 H locs hpo h => ?_)
  obtain ⟨rfl, rfl⟩ := hpo
  refine lv_topn (show (rcU (wr (wr (wr (wr R 111 ((c * 60) + w) si) 112 ((c * 60) + w) wi) 113 ((c * 60) + w) (-1)) 114 ((c * 60) + w) tr) c mn) = rcU R c mn from rcU_eq (R := R) (R' := (wr (wr (wr (wr R 111 ((c * 60) + w) si) 112 ((c * 60) + w) wi) 113 ((c * 60) + w) (-1)) 114 ((c * 60) + w) tr)) rfl _) ?_
  refine s_iR C h (hr 115 (by decide)) (by decide) (n := 120) (k := ((c * 60) + w)) (fun _ => rfl) (by omega) (by decide) (x := (rcU R c mn)) dX7_writes_60 (fun H locs h => ?_)
  refine lv_aload_n hx hy dX7_writes_61 rfl (lv_at hl 1 rfl) ?_
  refine g_f C h (hr 100 (by decide)) (cel_hi (by decide)) celF_Mod rfl in_X7_writesU_X7 15 (by decide) (by decide +kernel) (v := .ref (V.1 116)) rfl dX7_writes_62 ?_
  refine lv_iload hx hy dX7_writes_65 (lv_at hl 0 rfl) ?_
  refine lv_iconst (v := (nI 0)) hx hy dX7_writes_67 (by decide) ?_
  refine s_zR C h (hr 116 (by decide)) (by decide) (n := 120) (k := ((c * 60) + w)) (fun _ => rfl) (by omega) (by decide) (x := (nI 0)) (by decide) dX7_writes_68 (fun H locs h => ?_)
  refine lv_aload_n hx hy dX7_writes_69 rfl (lv_at hl 1 rfl) ?_
  refine g_f C h (hr 100 (by decide)) (cel_hi (by decide)) celF_Mod rfl in_X7_writesU_X7 2 (by decide) (by decide +kernel) (v := .ref (V.1 103)) rfl dX7_writes_70 ?_
  refine lv_iload_n hx hy dX7_writes_73 rfl (lv_at hl 2 rfl) ?_
  refine lv_dup2_11 hx hy dX7_writes_74 rfl rfl ?_
  refine g_i C h (hr 103 (by decide)) (n := 2) (k := c) (cel_hi (by decide)) (fun _ => rfl) (by omega) (by decide) (v := (nI w)) (show (wr (wr (wr (wr (wr (wr R 111 ((c * 60) + w) si) 112 ((c * 60) + w) wi) 113 ((c * 60) + w) (-1)) 114 ((c * 60) + w) tr) 115 ((c * 60) + w) (rcU R c mn)) 116 ((c * 60) + w) (nI 0)) 103 c = (nI w) from ((wr_othr (by decide)).trans ((wr_othr (by decide)).trans ((wr_othr (by decide)).trans ((wr_othr (by decide)).trans ((wr_othr (by decide)).trans ((wr_othr (by decide)).trans hw))))))) dX7_writes_75 ?_
  refine lv_iconst (v := (nI 1)) hx hy dX7_writes_76 (by decide) ?_
  refine lv_iadd hx hy dX7_writes_77 ?_
  refine lv_topn (nI_add _ _) ?_
  refine s_iR C h (hr 103 (by decide)) (by decide) (n := 2) (k := c) (fun _ => rfl) (by omega) (by decide) (x := (nI (w + 1))) dX7_writes_78 (fun H locs h => ?_)
  refine lv_aload_n hx hy dX7_writes_79 rfl (lv_at hl 1 rfl) ?_
  refine lv_iload_n hx hy dX7_writes_80 rfl (lv_at hl 2 rfl) ?_
  refine n_go0 C h (n_V (As := [.int (nI c)]) (rest := []) C h X (hr 100 (by decide)) ((cel_hi (by decide)).trans (celF_Mod _)) rfl (c_X7_commits l hr M (wr (wr (wr (wr (wr (wr (wr R 111 ((c * 60) + w) si) 112 ((c * 60) + w) wi) 113 ((c * 60) + w) (-1)) 114 ((c * 60) + w) tr) 115 ((c * 60) + w) (rcU R c mn)) 116 ((c * 60) + w) (nI 0)) 103 c (nI (w + 1))) o c hc (w + 1) (by omega) (show (wr (wr (wr (wr (wr (wr (wr R 111 ((c * 60) + w) si) 112 ((c * 60) + w) wi) 113 ((c * 60) + w) (-1)) 114 ((c * 60) + w) tr) 115 ((c * 60) + w) (rcU R c mn)) 116 ((c * 60) + w) (nI 0)) 103 c (nI (w + 1))) 103 c = nI (w + 1) from (wr_same _ _ _ _))) (cwV 1 C.2.2.2.2.1 gX7_writes_X7_commits rfl rfl rfl (by decide +kernel) ⟨Nat.le_of_ble_eq_true rfl, Nat.le_of_ble_eq_true rfl⟩) rfl hl.1 rfl (Nat.le_of_ble_eq_true rfl) dX7_writes_81 ⟨by decide, by decide⟩) (fun _ _ z => z) (fun v_81 u_81 H locs hpo h => ?_)
  obtain ⟨rfl, rfl⟩ := hpo
  refine lv_aload_n hx hy dX7_writes_84 rfl (lv_at hl 1 rfl) ?_
  refine g_f C h (hr 100 (by decide)) (cel_hi (by decide)) celF_Mod rfl in_X7_writesU_X7 2 (by decide) (by decide +kernel) (v := .ref (V.1 103)) rfl dX7_writes_85 ?_
  refine lv_iload_n hx hy dX7_writes_88 rfl (lv_at hl 2 rfl) ?_
  refine g_i C h (hr 103 (by decide)) (n := 2) (k := c) (cel_hi (by decide)) (fun _ => rfl) (by omega) (by decide) (v := (nI (w + 1))) (show (cmN (wr (wr (wr (wr (wr (wr (wr R 111 ((c * 60) + w) si) 112 ((c * 60) + w) wi) 113 ((c * 60) + w) (-1)) 114 ((c * 60) + w) tr) 115 ((c * 60) + w) (rcU R c mn)) 116 ((c * 60) + w) (nI 0)) 103 c (nI (w + 1))) c (w + 1)) 103 c = (nI (w + 1)) from ((congrFun (cmN_ne (by decide)) _).trans (wr_same _ _ _ _))) dX7_writes_89 ?_
  refine lv_iconst (v := (nI 1)) hx hy dX7_writes_90 (by decide) ?_
  refine lv_isub hx hy dX7_writes_91 ?_
  exact e_int C h rfl dX7_writes_92 (⟨by rw [show nI 1 = (1 : Int32) from rfl, nI_pred], rfl⟩) (by decide) (by decide)

