/-! the class's ledger and the reference's sums are the same -/
theorem lead_congr {p q : Nat → Bool} : ∀ {n : Nat}, (∀ k, k < n → p k = q k) → lead p n = lead q n
  | 0, _ => rfl
  | n + 1, h => by simp only [lead]; rw [lead_congr (fun k hk => h k (by omega)), h n (by omega)]
def LE (A S : wM) (c : Nat) : Prop := A (rLed c) 0 = S rMod 31 ∧ A (rLed c) 1 = S rMod 32 ∧ ∀ lo, lo < 4 → A (rPu c) lo = S 135 lo
theorem LE.base {M R : wM} {c : Nat} {gb : Int32} (h : R 102 c = gb) : LE (tN M c gb 0) (smN R c 0) c := by
  unfold LE
  refine ⟨by simp [tN, tBase, clrN, smN, smB, wr, upd, rLed, rPu, rMod, h], by simp [tN, tBase, clrN, smN, smB, wr, upd, rLed, rPu, rMod], fun lo hlo => ?_⟩
  rcases (show lo = 0 ∨ lo = 1 ∨ lo = 2 ∨ lo = 3 by omega) with rfl | rfl | rfl | rfl <;> simp [tN, tBase, clrN, smN, smB, wr, upd, rLed, rPu, rMod]
section Step
variable {A S : wM} {c at' lo : Nat} {le am fh : Int32} {fr : Bool}
theorem LE.p1 (h : LE A S c) (hle : S 111 at' = nI 105) (ham : S 112 at' = am) (hlo : (S 113 at').toNatClampNeg = lo) (hl4 : lo < 4) : LE (tOrd A c (nI 105) am lo) (mWeigh S c at') c := by
  have w2 : wP2 (wP1 S at') at' = wP1 S at' := by unfold wP2; rw [if_neg]; rw [wP1_ne (by decide) (by decide), hle]; decide
  have w3 : wP3 (wP1 S at') c at' = wP1 S at' := by unfold wP3; rw [if_neg]; rw [wP1_ne (by decide) (by decide), hle]; decide
  unfold mWeigh
  rw [w2, w3]
  unfold wP1 tOrd
  rw [if_pos hle, if_pos rfl, ham, hlo, h.2.2 lo hl4]
  split
  · refine ⟨by simp [wr, upd, rLed, rPu, rMod]; exact h.1, by simp [wr, upd, rLed, rPu, rMod]; exact h.2.1, fun x hx => ?_⟩
    by_cases e : x = lo
    · subst e; simp [wr, upd, rLed, rPu, rMod]
    · simp [wr, upd, rLed, rPu, rMod, e]; exact h.2.2 x hx
  · exact h
theorem LE.p2 (h : LE A S c) (hle : S 111 at' = le) (h2 : le = nI 111 ∨ le = nI 114) (ham : S 112 at' = am) (hlo : (S 113 at').toNatClampNeg = lo) (hl4 : lo < 4) : LE (tOrd A c le am lo) (mWeigh S c at') c := by
  have w1 : wP1 S at' = S := by unfold wP1; rw [if_neg]; rw [hle]; rcases h2 with e | e <;> rw [e] <;> decide
  have w3 : wP3 (wP2 S at') c at' = wP2 S at' := by unfold wP3; rw [if_neg]; rw [wP2_ne (by decide) (by decide), hle]; rcases h2 with e | e <;> rw [e] <;> decide
  unfold mWeigh
  rw [w1, w3]
  unfold wP2 tOrd lFree
  have d1 : (decide (le = nI 111) || decide (le = nI 114)) = true := by rcases h2 with e | e <;> rw [e] <;> decide
  have d2 : ¬ le = nI 105 := by rcases h2 with e | e <;> rw [e] <;> decide
  rw [hle, if_neg d2, if_pos d1, ham, hlo, h.1, h.2.1, h.2.2 lo hl4]
  split
  · refine ⟨by simp [wr, upd, rLed, rPu, rMod], by simp [wr, upd, rLed, rPu, rMod]; exact h.2.1, fun x hx => ?_⟩
    by_cases e : x = lo
    · subst e; simp [wr, upd, rLed, rPu, rMod]
    · simp [wr, upd, rLed, rPu, rMod, e]; exact h.2.2 x hx
  · exact h
theorem LE.p3 (h : LE A S c) (hle : S 111 at' = le) (h2 : le = nI 112 ∨ le = nI 100 ∨ le = nI 97) (ham : S 112 at' = am) (hfr : wFr S c at' = fr) : LE (tTru A c le am (b2i fr)) (mWeigh S c at') c := by
  have w1 : wP1 S at' = S := by unfold wP1; rw [if_neg]; rw [hle]; rcases h2 with e | e | e <;> rw [e] <;> decide
  have w2 : wP2 S at' = S := by unfold wP2; rw [if_neg]; rw [hle]; rcases h2 with e | e | e <;> rw [e] <;> decide
  unfold mWeigh
  rw [w1, w2]
  unfold wP3
  rw [hle, if_pos (by rcases h2 with e | e | e <;> rw [e] <;> decide), ham, hfr]
  have z0 : (nI 0 : Int32) = 0 := rfl
  have n1 : ¬ (nI 100 : Int32) = nI 112 := by decide
  have n2 : ¬ (nI 112 : Int32) = nI 100 := by decide
  have n3 : ¬ (nI 97 : Int32) = nI 100 := by decide
  have n4 : ¬ (nI 97 : Int32) = nI 112 := by decide
  have b1 : ¬ (b2i true) = 0 := by decide
  have b0 : b2i false = 0 := by decide
  rcases h2 with e | e | e <;> subst e <;> cases fr <;> refine ⟨?_, ?_, fun x hx => ?_⟩ <;> simp [tTru, tT1, wHe, wGo, n1, n2, n3, n4, b1, b0, z0, wr, upd, rLed, rPu, rMod, h.1, h.2.1, Int32.sub_eq_add_neg] <;> exact h.2.2 x hx
theorem LE.p4 (h : LE A S c) (hle : S 111 at' = le) (ho : isOrd le = false) (ht : isTru le = false) : LE (tTru A c le am fh) (mWeigh S c at') c := by
  have o1 : ¬ le = nI 105 ∧ ¬ le = nI 111 ∧ ¬ le = nI 114 := by
    simp only [isOrd, Bool.or_eq_false_iff, decide_eq_false_iff_not] at ho; exact ho
  have t1 : ¬ le = nI 112 ∧ ¬ le = nI 100 ∧ ¬ le = nI 97 := by
    simp only [isTru, Bool.or_eq_false_iff, decide_eq_false_iff_not] at ht; exact ht
  have w1 : wP1 S at' = S := by unfold wP1; rw [if_neg]; rw [hle]; exact o1.1
  have w2 : wP2 S at' = S := by unfold wP2; rw [if_neg]; rw [hle]; simp [o1.2.1, o1.2.2]
  have w3 : wP3 S c at' = S := by unfold wP3; rw [if_neg]; rw [hle, ht]; decide
  unfold mWeigh
  rw [w1, w2, w3]
  have : tTru A c le am fh = A := by
    unfold tTru tT1
    rw [if_neg t1.2.1, if_neg t1.1, if_neg t1.2.1, if_neg t1.2.2]
    split <;> rfl
  rw [this]; exact h
end Step
/-- a step of both -/
theorem LE.step {M A S : wM} {c k at' : Nat} (h : LE A S c) (hle : S 111 at' = M (rLe c) k) (ham : S 112 at' = M (rAm c) k)
    (hlo : isOrd (M (rLe c) k) = true → S 113 at' = M (rLo c) k ∧ (M (rLo c) k).toNatClampNeg < 4) (hfr : isTru (M (rLe c) k) = true → M (rFh c) k = b2i (wFr S c at')) : LE (tStep M A c k) (mWeigh S c at') c := by
  unfold tStep
  by_cases ho : isOrd (M (rLe c) k) = true
  · rw [if_pos ho]
    obtain ⟨l1, l2⟩ := hlo ho
    have ho' := ho
    simp only [isOrd, Bool.or_eq_true, decide_eq_true_eq] at ho'
    rcases ho' with e | e
    · rw [e] at hle ⊢; exact h.p1 hle ham (by rw [l1]) l2
    · exact h.p2 hle e ham (by rw [l1]) l2
  · rw [if_neg ho]
    by_cases ht : isTru (M (rLe c) k) = true
    · rw [hfr ht]
      have ht' := ht
      simp only [isTru, Bool.or_eq_true, decide_eq_true_eq] at ht'
      exact h.p3 hle ht' ham rfl
    · exact h.p4 hle (by simpa using ho) (by simpa using ht)
theorem LE.cnt {A S : wM} {c : Nat} {v : Int32} (h : LE A S c) : LE A (wr S rMod 33 v) c := by
  refine ⟨?_, ?_, fun lo hlo => ?_⟩
  · rw [wr_othj (by decide)]; exact h.1
  · rw [wr_othj (by decide)]; exact h.2.1
  · rw [wr_othr (by decide)]; exact h.2.2 lo hlo
theorem Re.led0 {M R : wM} {n : Nat} (h : Re M R n) {c : Nat} (hc : c < 2) : ∀ k, k ≤ szN M c → LE (tN M c (M (rCas c) 1) k) (smN R c k) c
  | 0, _ => LE.base (h.c hc).2.2.2.1
  | k + 1, hk => by
    have ih := h.led0 hc k (by omega)
    obtain ⟨b1, b2, b3, b4, b5, b6, b7, b8⟩ := h.e hc (k := k) (by omega)
    simp only [tN, smN]
    refine (ih.step ?_ ?_ (fun ho => ?_) (fun ht => ?_)).cnt
    · rw [smN_ne (by decide) (by decide)]; exact b1.symm
    · rw [smN_ne (by decide) (by decide)]; exact b2.symm
    · rw [smN_ne (by decide) (by decide)]; exact ⟨(b6 ho).symm, ((h.1.1 c hc).2.2.2.2.1 k (by omega) ho).1⟩
    · rw [(b7 ht).2]; unfold wFr; rw [smN_ne (by decide) (by decide), smN_ne (by decide) (by decide)]
/-- how many entries count -/
theorem Re.cnt {M R : wM} {n : Nat} (h : Re M R n) {c : Nat} (hc : c < 2) : suC R c (wrN R c) = rCnt M c (szN M c) := by
  unfold suC rCnt
  rw [h.wn hc]
  refine lead_congr (fun k hk => ?_)
  obtain ⟨b1, b2, b3, b4, -⟩ := h.e hc hk
  unfold cntR cnts
  rw [b1, b4]
/-- the ledger told and the sums worked out -/
theorem Re.led {M R : wM} {n : Nat} (h : Re M R n) {c : Nat} (hc : c < 2) : LE (telM M c (szN M c)) (suM R c (wrN R c)) c := by
  have e := h.cnt hc
  unfold suC at e
  unfold telM suM
  rw [e]
  exact h.led0 hc _ (lead_le _ _)
theorem Re.hang {M R : wM} {n : Nat} (h : Re M R n) {c : Nat} (hc : c < 2) : hgR R c (wrN R c) = rHang M c (szN M c) := by
  unfold hgR rHang; rw [h.cnt hc, h.wn hc]
