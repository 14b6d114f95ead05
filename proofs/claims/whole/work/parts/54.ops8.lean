/-! checksum -/
theorem LE.ad {A S : wM} {c : Nat} {s0 : Int64} (h : LE A S c) : ∀ k, k ≤ 4 → adN A c s0 k = ckL S (31 * s0 + (S rMod 31).toInt64) k
  | 0, _ => by simp only [adN, ckL]; rw [h.1]
  | k + 1, hk => by simp only [adN, ckL]; rw [h.ad k (by omega), h.2.2 k (by omega)]
theorem op_checksum {M R : wM} {n : Nat} (h : Re M R n) : chk M = ckN R 2 ∧ Re (chkM M) (ckM R 2) n := by
  have a0 : Re (chkA M) (ckM R 1) n := (h.onT (c := 0) (w := szN M 0) (by decide)).onS (c := 0) (w := wrN R 0)
  have sz : szN (chkA M) 1 = szN M 1 := by unfold szN chkA; rw [telM_ne (by decide) (by decide)]
  have wn : wrN (ckM R 1) 1 = wrN R 1 := by unfold wrN; rw [ckM_ne (by decide) (by decide)]
  have l0 := h.led (c := 0) (by decide)
  have l1 := a0.led (c := 1) (by decide)
  rw [sz, wn] at l1
  refine ⟨?_, ?_⟩
  · unfold chk
    rw [l1.ad 4 (by decide)]
    simp only [ckN]
    rw [show adN (chkA M) 0 7 4 = ckL (suM (ckM R 0) 0 (wrN R 0)) (31 * 7 + (suM (ckM R 0) 0 (wrN R 0) rMod 31).toInt64) 4 from l0.ad 4 (by decide)]
  · exact (a0.onT (c := 1) (w := szN M 1) (by decide)).onS (c := 1) (w := wrN R 1)
