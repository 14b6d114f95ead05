/-! the law's loop -/
theorem and63 (y : Int32) : ∃ j, j < 64 ∧ y &&& nI 63 = nI j := by
  refine ⟨(y &&& nI 63).toBitVec.toNat, ?_, ?_⟩
  · rw [Int32.toBitVec_and, BitVec.toNat_and]
    exact Nat.lt_of_le_of_lt Nat.and_le_right (by decide)
  · apply Int32.toBitVec_inj.mp
    apply BitVec.eq_of_toNat_eq
    show _ = (BitVec.ofNat 32 _).toNat
    rw [BitVec.toNat_ofNat]
    exact (Nat.mod_eq_of_lt (BitVec.isLt _)).symm
theorem fits6 {L i : Nat} (hL : L ≤ 3072) (hi : i ≤ 3072) (h : ¬ Int32.ofNat L - nI 6 < nI i) : i + 6 ≤ L := by
  have e : Int32.ofNat L = nI L := rfl
  rw [e] at h
  by_cases h6 : 6 ≤ L
  · rw [nI_subn h6, nI_ltN (by omega) (by omega)] at h
    omega
  · exfalso
    apply h
    refine Int32.lt_of_lt_of_le (b := 0) ?_ (nI_pos' (by omega))
    rcases (show L = 0 ∨ L = 1 ∨ L = 2 ∨ L = 3 ∨ L = 4 ∨ L = 5 by omega) with rfl | rfl | rfl | rfl | rfl | rfl <;> decide
section LawLoop
variable {G : va_G} {V : wV} {rs : List Nat} {p : Program} {l : Launch} {e : Env} {s : State} {m : MethodId} {b L : Nat} {xs : Nat → Int32} {below : List Frame} {meth : Method} {c : Code} {Q : State → Prop}
set_option maxRecDepth 100000 in
set_option maxHeartbeats 4000000 in
theorem law_loop (hl9 : l.stackTraces = false) (X : LQ G V rs p s m b L xs meth c) (c0 s0 : Nat) (hc0 : c0 + 8 * 513 ≤ room_1.cells) (hs0 : s0 + 48 * 513 ≤ room_1.slots)
    (hend : ∀ (M R : wM) (o : wO) (H : Heap) (locs : List Loc) (n : Nat) (ls : Array Slot), n ≤ 512 → HH G V rs (M, R, o) s H locs → W p l e room_1 s m #[Value.ref b] below meth c H locs (c0 + 8 * n) (s0 + 48 * n) Q (F0 m 2928 ls [])) :
    ∀ (d n : Nat), n + d = 513 → 6 * n ≤ L → ∀ (M R : wM) (o : wO) (H : Heap) (locs : List Loc), Re M R n → Inv M → HH G V rs (M, R, o) s H locs → ∀ ls : Array Slot, lv_has ls 9 (L0 V b (6 * n)) → W p l e room_1 s m #[Value.ref b] below meth c H locs (c0 + 8 * n) (s0 + 48 * n) Q (F0 m 28 ls [])
  | 0, n, hd, hnL, _, _, _, _, _, _, _, _, _, _ => by
    have := X.2.2.2.2.2.2.1
    omega
  | d + 1, n, hd, hnL, M, R, o, H, locs, hr, hI, h, ls, hl => by
    obtain ⟨C, hXX, hN, hX, hb, hA, hL, ha, hbR, hOL, hOD, h142⟩ := id X
    have hx := C.1
    have hy := C.2.1
    refine lv_iload hx hy dL_law_28 (lv_at hl 5 rfl) ?_
    refine lv_aload_n hx hy dL_law_30 rfl (lv_at hl 0 rfl) ?_
    refine va_slen hx hy hX hb hA h.2.2 dL_law_31 ?_
    refine lv_bipush (v := nI 6) hx hy dL_law_32 (by decide) ?_
    refine lv_isub hx hy dL_law_34 ?_
    refine lv_icmp_gt (tgt := 2928) hx hy dL_law_35 (by decide) (fun _ => hend M R o H locs n ls (by omega) h) (fun hgt => ?_)
    have hi : 6 * n + 6 ≤ L := fits6 hL (by omega) hgt
    have hn : n < 512 := by omega
    have hlen : (nI (6 * n)).toNatClampNeg = 6 * n := nI_clamp (by omega)
    have hin : vp_in (nI (6 * n)) L := by
      intro z
      rcases z with z | z
      · exact absurd z (Int32.not_lt.mpr (nI_pos' (by omega)))
      · rw [hlen] at z; omega
    refine lv_aload_n hx hy dL_law_38 rfl (lv_at hl 0 rfl) ?_
    refine lv_iload hx hy dL_law_39 (lv_at hl 5 rfl) ?_
    refine va_sld hx hy hX hb hA h.2.2 hin dL_law_41 ?_
    refine lv_bipush (v := nI 63) hx hy dL_law_42 (by decide) ?_
    refine lv_iand hx hy dL_law_44 ?_
    obtain ⟨j, hj, ej⟩ := and63 (xs (nI (6 * n)).toNatClampNeg)
    rw [ej]
    have hc : c0 + 8 * n + 8 ≤ room_1.cells := Nat.le_trans (by omega) hc0
    have hs : s0 + 48 * n + 48 ≤ room_1.slots := Nat.le_trans (by omega) hs0
    have kk : ∀ (M' R' : wM) (o' : wO) (H : Heap) (locs : List Loc), Re M' R' (n + 1) → Inv M' → HH G V rs (M', R', o') s H locs → ∀ ls : Array Slot, lv_has ls 9 (L0 V b (6 * n)) → W p l e room_1 s m #[Value.ref b] below meth c H locs (c0 + 8 * n + 8) (s0 + 48 * n + 48) Q (F0 m 2922 ls []) := fun M' R' o' H locs h1 h2 h3 ls h4 => by
      refine lv_iinc (k := 5) (v := nI (6 * (n + 1))) (lv' := [(5, .int (nI (6 * (n + 1)))), (0, .ref b), (1, .ref (V.1 rMain)), (2, .ref (V.1 rMod)), (3, .ref (V.1 rOL)), (4, .ref (V.1 rOD))]) hx hy dL_law_2922 h4 rfl (nI_addn (6 * n) 6) (by decide) rfl (fun ls h5 => ?_)
      refine lv_goto (tgt := 28) hx hy dL_law_2925 (by decide) ?_
      exact law_loop hl9 X c0 s0 hc0 hs0 hend d (n + 1) (by omega) (by omega) M' R' o' H locs h1 h2 h3 ls (lv_sub h5 [1, 2, 3, 4, 5, 0] rfl)
    by_cases hj39 : 39 ≤ j
    · refine lv_tableOut (tgt := 2922) hx hy dL_law_45 (Or.inr ?_) (by decide) ?_
      · rw [show (nI j).toInt = (j : Int) from Int32.toInt_ofNat_of_lt (by omega)]; omega
      · exact W.widen (k := c0 + 8 * n + 8) (n := s0 + 48 * n + 48) (by omega) (by omega) (kk M R o H locs (hr.mono (by omega)) hI h ls hl)
    · rcases (show j = 0 ∨ j = 1 ∨ j = 2 ∨ j = 3 ∨ j = 4 ∨ j = 5 ∨ j = 6 ∨ j = 7 ∨ j = 8 ∨ j = 9 ∨ j = 10 ∨ j = 11 ∨ j = 12 ∨ j = 13 ∨ j = 14 ∨ j = 15 ∨ j = 16 ∨ j = 17 ∨ j = 18 ∨ j = 19 ∨ j = 20 ∨ j = 21 ∨ j = 22 ∨ j = 23 ∨ j = 24 ∨ j = 25 ∨ j = 26 ∨ j = 27 ∨ j = 28 ∨ j = 29 ∨ j = 30 ∨ j = 31 ∨ j = 32 ∨ j = 33 ∨ j = 34 ∨ j = 35 ∨ j = 36 ∨ j = 37 ∨ j = 38 by omega) with rfl | rfl | rfl | rfl | rfl | rfl | rfl | rfl | rfl | rfl | rfl | rfl | rfl | rfl | rfl | rfl | rfl | rfl | rfl | rfl | rfl | rfl | rfl | rfl | rfl | rfl | rfl | rfl | rfl | rfl | rfl | rfl | rfl | rfl | rfl | rfl | rfl | rfl | rfl
      · exact lv_tableIn (off := 171) (tgt := 216) hx hy dL_law_45 (by decide) (by decide) (by decide) (by decide) (law_c0 hl9 X hi hr hI hn h hc hs hl kk)
      · exact lv_tableIn (off := 251) (tgt := 296) hx hy dL_law_45 (by decide) (by decide) (by decide) (by decide) (law_c1 hl9 X hi hr hI hn h hc hs hl kk)
      · exact lv_tableIn (off := 307) (tgt := 352) hx hy dL_law_45 (by decide) (by decide) (by decide) (by decide) (law_c2 hl9 X hi hr hI hn h hc hs hl kk)
      · exact lv_tableIn (off := 382) (tgt := 427) hx hy dL_law_45 (by decide) (by decide) (by decide) (by decide) (law_c3 hl9 X hi hr hI hn h hc hs hl kk)
      · exact lv_tableIn (off := 450) (tgt := 495) hx hy dL_law_45 (by decide) (by decide) (by decide) (by decide) (law_c4 hl9 X hi hr hI hn h hc hs hl kk)
      · exact lv_tableIn (off := 525) (tgt := 570) hx hy dL_law_45 (by decide) (by decide) (by decide) (by decide) (law_c5 hl9 X hi hr hI hn h hc hs hl kk)
      · exact lv_tableIn (off := 640) (tgt := 685) hx hy dL_law_45 (by decide) (by decide) (by decide) (by decide) (law_c6 hl9 X hi hr hI hn h hc hs hl kk)
      · exact lv_tableIn (off := 732) (tgt := 777) hx hy dL_law_45 (by decide) (by decide) (by decide) (by decide) (law_c7 hl9 X hi hr hI hn h hc hs hl kk)
      · exact lv_tableIn (off := 812) (tgt := 857) hx hy dL_law_45 (by decide) (by decide) (by decide) (by decide) (law_c8 hl9 X hi hr hI hn h hc hs hl kk)
      · exact lv_tableIn (off := 892) (tgt := 937) hx hy dL_law_45 (by decide) (by decide) (by decide) (by decide) (law_c9 hl9 X hi hr hI hn h hc hs hl kk)
      · exact lv_tableIn (off := 960) (tgt := 1005) hx hy dL_law_45 (by decide) (by decide) (by decide) (by decide) (law_c10 hl9 X hi hr hI hn h hc hs hl kk)
      · exact lv_tableIn (off := 1040) (tgt := 1085) hx hy dL_law_45 (by decide) (by decide) (by decide) (by decide) (law_c11 hl9 X hi hr hI hn h hc hs hl kk)
      · exact lv_tableIn (off := 1120) (tgt := 1165) hx hy dL_law_45 (by decide) (by decide) (by decide) (by decide) (law_c12 hl9 X hi hr hI hn h hc hs hl kk)
      · exact lv_tableIn (off := 1188) (tgt := 1233) hx hy dL_law_45 (by decide) (by decide) (by decide) (by decide) (law_c13 hl9 X hi hr hI hn h hc hs hl kk)
      · exact lv_tableIn (off := 1256) (tgt := 1301) hx hy dL_law_45 (by decide) (by decide) (by decide) (by decide) (law_c14 hl9 X hi hr hI hn h hc hs hl kk)
      · exact lv_tableIn (off := 1376) (tgt := 1421) hx hy dL_law_45 (by decide) (by decide) (by decide) (by decide) (law_c15 hl9 X hi hr hI hn h hc hs hl kk)
      · exact lv_tableIn (off := 1432) (tgt := 1477) hx hy dL_law_45 (by decide) (by decide) (by decide) (by decide) (law_c16 hl9 X hi hr hI hn h hc hs hl kk)
      · exact lv_tableIn (off := 1488) (tgt := 1533) hx hy dL_law_45 (by decide) (by decide) (by decide) (by decide) (law_c17 hl9 X hi hr hI hn h hc hs hl kk)
      · exact lv_tableIn (off := 1544) (tgt := 1589) hx hy dL_law_45 (by decide) (by decide) (by decide) (by decide) (law_c18 hl9 X hi hr hI hn h hc hs hl kk)
      · exact lv_tableIn (off := 1600) (tgt := 1645) hx hy dL_law_45 (by decide) (by decide) (by decide) (by decide) (law_c19 hl9 X hi hr hI hn h hc hs hl kk)
      · exact lv_tableIn (off := 1668) (tgt := 1713) hx hy dL_law_45 (by decide) (by decide) (by decide) (by decide) (law_c20 hl9 X hi hr hI hn h hc hs hl kk)
      · exact lv_tableIn (off := 1736) (tgt := 1781) hx hy dL_law_45 (by decide) (by decide) (by decide) (by decide) (law_c21 hl9 X hi hr hI hn h hc hs hl kk)
      · exact lv_tableIn (off := 1811) (tgt := 1856) hx hy dL_law_45 (by decide) (by decide) (by decide) (by decide) (law_c22 hl9 X hi hr hI hn h hc hs hl kk)
      · exact lv_tableIn (off := 1898) (tgt := 1943) hx hy dL_law_45 (by decide) (by decide) (by decide) (by decide) (law_c23 hl9 X hi hr hI hn h hc hs hl kk)
      · exact lv_tableIn (off := 1982) (tgt := 2027) hx hy dL_law_45 (by decide) (by decide) (by decide) (by decide) (law_c24 hl9 X hi hr hI hn h hc hs hl kk)
      · exact lv_tableIn (off := 2050) (tgt := 2095) hx hy dL_law_45 (by decide) (by decide) (by decide) (by decide) (law_c25 hl9 X hi hr hI hn h hc hs hl kk)
      · exact lv_tableIn (off := 2118) (tgt := 2163) hx hy dL_law_45 (by decide) (by decide) (by decide) (by decide) (law_c26 hl9 X hi hr hI hn h hc hs hl kk)
      · exact lv_tableIn (off := 2202) (tgt := 2247) hx hy dL_law_45 (by decide) (by decide) (by decide) (by decide) (law_c27 hl9 X hi hr hI hn h hc hs hl kk)
      · exact lv_tableIn (off := 2270) (tgt := 2315) hx hy dL_law_45 (by decide) (by decide) (by decide) (by decide) (law_c28 hl9 X hi hr hI hn h hc hs hl kk)
      · exact lv_tableIn (off := 2326) (tgt := 2371) hx hy dL_law_45 (by decide) (by decide) (by decide) (by decide) (law_c29 hl9 X hi hr hI hn h hc hs hl kk)
      · exact lv_tableIn (off := 2394) (tgt := 2439) hx hy dL_law_45 (by decide) (by decide) (by decide) (by decide) (law_c30 hl9 X hi hr hI hn h hc hs hl kk)
      · exact lv_tableIn (off := 2474) (tgt := 2519) hx hy dL_law_45 (by decide) (by decide) (by decide) (by decide) (law_c31 hl9 X hi hr hI hn h hc hs hl kk)
      · exact lv_tableIn (off := 2558) (tgt := 2603) hx hy dL_law_45 (by decide) (by decide) (by decide) (by decide) (law_c32 hl9 X hi hr hI hn h hc hs hl kk)
      · exact lv_tableIn (off := 2614) (tgt := 2659) hx hy dL_law_45 (by decide) (by decide) (by decide) (by decide) (law_c33 hl9 X hi hr hI hn h hc hs hl kk)
      · exact lv_tableIn (off := 2682) (tgt := 2727) hx hy dL_law_45 (by decide) (by decide) (by decide) (by decide) (law_c34 hl9 X hi hr hI hn h hc hs hl kk)
      · exact lv_tableIn (off := 2695) (tgt := 2740) hx hy dL_law_45 (by decide) (by decide) (by decide) (by decide) (law_c35 hl9 X hi hr hI hn h hc hs hl kk)
      · exact lv_tableIn (off := 2709) (tgt := 2754) hx hy dL_law_45 (by decide) (by decide) (by decide) (by decide) (law_c36 hl9 X hi hr hI hn h hc hs hl kk)
      · exact lv_tableIn (off := 2787) (tgt := 2832) hx hy dL_law_45 (by decide) (by decide) (by decide) (by decide) (law_c37 hl9 X hi hr hI hn h hc hs hl kk)
      · exact lv_tableIn (off := 2864) (tgt := 2909) hx hy dL_law_45 (by decide) (by decide) (by decide) (by decide) (law_c38 hl9 X hi hr hI hn h hc hs hl kk)
end LawLoop
