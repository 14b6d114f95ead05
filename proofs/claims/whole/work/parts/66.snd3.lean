/-! SOUNDNESS OF LEDGERS -/
theorem nI_subn {a b : Nat} (h : b ≤ a) : nI a - nI b = nI (a - b) := by
  have e : nI a = nI (a - b) + nI b := by rw [nI_addn]; congr 1; omega
  rw [e]; grind
/-- what a ledger holds -/
def LV (A : wM) (c a h : Nat) (p : Nat → Nat) : Prop := A (rLed c) 0 = nI a ∧ A (rLed c) 1 = nI h ∧ ∀ lo, lo < 4 → A (rPu c) lo = nI (p lo)
section Vals
variable {A : wM} {c lo : Nat} {le am fh : Int32}
theorem tOrd_v : tOrd A c le am lo (rLed c) 0 = (if le = nI 105 then (if am ≤ A (rPu c) lo then A (rLed c) 0 + am else A (rLed c) 0) else if am ≤ A (rLed c) 0 - A (rLed c) 1 then A (rLed c) 0 - am else A (rLed c) 0) ∧ tOrd A c le am lo (rLed c) 1 = A (rLed c) 1 ∧
    ∀ x, tOrd A c le am lo (rPu c) x = (if x = lo then (if le = nI 105 then (if am ≤ A (rPu c) lo then A (rPu c) lo - am else A (rPu c) lo) else if am ≤ A (rLed c) 0 - A (rLed c) 1 then A (rPu c) lo + am else A (rPu c) lo) else A (rPu c) x) := by
  unfold tOrd lFree
  by_cases e : le = nI 105
  · rw [if_pos e]
    by_cases e2 : am ≤ A (rPu c) lo
    · rw [if_pos e2]
      refine ⟨by rw [wr_same, if_pos e, if_pos e2], by rw [wr_othj (by decide), wr_othr (by simp only [rLed, rPu]; omega)], fun x => ?_⟩
      rw [wr_othr (by simp only [rLed, rPu]; omega)]
      by_cases e3 : x = lo
      · subst e3; rw [wr_same, if_pos rfl, if_pos e, if_pos e2]
      · rw [wr_othj e3, if_neg e3]
    · rw [if_neg e2]
      refine ⟨by rw [if_pos e, if_neg e2], rfl, fun x => ?_⟩
      by_cases e3 : x = lo
      · subst e3; rw [if_pos rfl, if_pos e, if_neg e2]
      · rw [if_neg e3]
  · rw [if_neg e]
    by_cases e2 : am ≤ A (rLed c) 0 - A (rLed c) 1
    · rw [if_pos e2]
      refine ⟨by rw [wr_othr (by simp only [rLed, rPu]; omega), wr_same, if_neg e, if_pos e2], by rw [wr_othr (by simp only [rLed, rPu]; omega), wr_othj (by decide)], fun x => ?_⟩
      by_cases e3 : x = lo
      · subst e3; rw [wr_same, if_pos rfl, if_neg e, if_pos e2]
      · rw [wr_othj e3, if_neg e3, wr_othr (by simp only [rLed, rPu]; omega)]
    · rw [if_neg e2]
      refine ⟨by rw [if_neg e, if_neg e2], rfl, fun x => ?_⟩
      by_cases e3 : x = lo
      · subst e3; rw [if_pos rfl, if_neg e, if_neg e2]
      · rw [if_neg e3]
theorem tTru_v : tTru A c le am fh (rLed c) 0 = (if le = nI 100 then (if fh = 0 then A (rLed c) 0 + am else A (rLed c) 0 + -am) else A (rLed c) 0) ∧
    tTru A c le am fh (rLed c) 1 = (if fh = 0 then A (rLed c) 1 else if le = nI 112 then A (rLed c) 1 + am else if le = nI 100 then A (rLed c) 1 - am else if le = nI 97 then A (rLed c) 1 - am else A (rLed c) 1) ∧
    ∀ x, tTru A c le am fh (rPu c) x = A (rPu c) x := by
  have h0 : tT1 A c le am fh (rLed c) 0 = (if le = nI 100 then (if fh = 0 then A (rLed c) 0 + am else A (rLed c) 0 + -am) else A (rLed c) 0) := by
    unfold tT1
    by_cases e : le = nI 100
    · rw [if_pos e, if_pos e]
      by_cases e2 : fh = 0
      · rw [if_pos e2, if_pos e2, wr_same]
      · rw [if_neg e2, if_neg e2, wr_same]
    · rw [if_neg e, if_neg e]
  have h1 : tT1 A c le am fh (rLed c) 1 = A (rLed c) 1 := by
    unfold tT1
    split
    · split <;> rw [wr_othj (by decide)]
    · rfl
  have h2 : ∀ x, tT1 A c le am fh (rPu c) x = A (rPu c) x := fun x => by
    unfold tT1
    split
    · split <;> rw [wr_othr (by simp only [rLed, rPu]; omega)]
    · rfl
  rw [← h0]
  unfold tTru
  by_cases e : fh = 0
  · rw [if_pos e, if_pos e]; exact ⟨rfl, h1, h2⟩
  · rw [if_neg e, if_neg e]
    split
    · exact ⟨by rw [wr_othj (by decide)], by rw [wr_same], fun x => by rw [wr_othr (by simp only [rLed, rPu]; omega)]; exact h2 x⟩
    · split
      · exact ⟨by rw [wr_othj (by decide)], by rw [wr_same], fun x => by rw [wr_othr (by simp only [rLed, rPu]; omega)]; exact h2 x⟩
      · split
        · exact ⟨by rw [wr_othj (by decide)], by rw [wr_same], fun x => by rw [wr_othr (by simp only [rLed, rPu]; omega)]; exact h2 x⟩
        · exact ⟨rfl, h1, h2⟩
end Vals
/-- ledgers that hold the same -/
def AE (A A' : wM) (c : Nat) : Prop := A (rLed c) 0 = A' (rLed c) 0 ∧ A (rLed c) 1 = A' (rLed c) 1 ∧ ∀ lo, lo < 4 → A (rPu c) lo = A' (rPu c) lo
theorem AE.step {A A' M M' : wM} {c k : Nat} (h : AE A A' c) (e1 : M' (rLe c) k = M (rLe c) k) (e2 : M' (rAm c) k = M (rAm c) k) (e3 : isOrd (M (rLe c) k) = true → M' (rLo c) k = M (rLo c) k ∧ (M (rLo c) k).toNatClampNeg < 4) (e4 : isOrd (M (rLe c) k) = false → isTru (M (rLe c) k) = true → M' (rFh c) k = M (rFh c) k) : AE (tStep M A c k) (tStep M' A' c k) c := by
  obtain ⟨a1, a2, a3⟩ := h
  unfold tStep
  rw [e1, e2]
  cases ho : isOrd (M (rLe c) k) with
  | true =>
    obtain ⟨l1, l2⟩ := e3 ho
    rw [if_pos rfl, if_pos rfl, l1]
    obtain ⟨v1, v2, v3⟩ := tOrd_v (A := A) (c := c) (le := M (rLe c) k) (am := M (rAm c) k) (lo := (M (rLo c) k).toNatClampNeg)
    obtain ⟨w1, w2, w3⟩ := tOrd_v (A := A') (c := c) (le := M (rLe c) k) (am := M (rAm c) k) (lo := (M (rLo c) k).toNatClampNeg)
    refine ⟨by rw [v1, w1, a1, a2, a3 _ l2], by rw [v2, w2, a2], fun x hx => by rw [v3, w3, a1, a2, a3 _ l2, a3 x hx]⟩
  | false =>
    rw [if_neg (by decide), if_neg (by decide)]
    obtain ⟨v1, v2, v3⟩ := tTru_v (A := A) (c := c) (le := M (rLe c) k) (am := M (rAm c) k) (fh := M (rFh c) k)
    obtain ⟨w1, w2, w3⟩ := tTru_v (A := A') (c := c) (le := M (rLe c) k) (am := M (rAm c) k) (fh := M' (rFh c) k)
    refine ⟨?_, ?_, fun x hx => by rw [v3, w3, a3 x hx]⟩
    · rw [v1, w1, a1]
      by_cases d : M (rLe c) k = nI 100
      · rw [if_pos d, if_pos d, e4 ho (by rw [d]; decide)]
      · rw [if_neg d, if_neg d]
    · rw [v2, w2, a2]
      cases ht : isTru (M (rLe c) k) with
      | true => rw [e4 ho ht]
      | false =>
        simp only [isTru, Bool.or_eq_false_iff, decide_eq_false_iff_not] at ht
        rw [if_neg ht.1, if_neg ht.2.1, if_neg ht.2.2, ite_self, ite_self]
theorem AE.base {M M' : wM} {c : Nat} {gb : Int32} : AE (tBase M c gb) (tBase M' c gb) c := by
  have h : ∀ N : wM, tBase N c gb (rLed c) 0 = gb ∧ tBase N c gb (rLed c) 1 = nI 0 ∧ ∀ lo, lo < 4 → tBase N c gb (rPu c) lo = nI 0 := fun N => by
    unfold tBase
    refine ⟨by rw [clrN_ne (by simp only [rLed, rPu]; omega), wr_othj (by decide), wr_same], by rw [clrN_ne (by simp only [rLed, rPu]; omega), wr_same], fun lo hlo => by rw [clrN_at, if_pos hlo]⟩
  obtain ⟨a1, a2, a3⟩ := h M
  obtain ⟨b1, b2, b3⟩ := h M'
  exact ⟨by rw [a1, b1], by rw [a2, b2], fun lo hlo => by rw [a3 lo hlo, b3 lo hlo]⟩
/-- entries k of M and M' mean the same -/
def ES (M M' : wM) (c k : Nat) : Prop := M' (rLe c) k = M (rLe c) k ∧ M' (rAm c) k = M (rAm c) k ∧ (isOrd (M (rLe c) k) = true → M' (rLo c) k = M (rLo c) k ∧ (M (rLo c) k).toNatClampNeg < 4) ∧ (isOrd (M (rLe c) k) = false → isTru (M (rLe c) k) = true → M' (rFh c) k = M (rFh c) k)
theorem AE.run {M M' : wM} {c : Nat} {gb : Int32} : ∀ {j : Nat}, (∀ k, k < j → ES M M' c k) → AE (tN M c gb j) (tN M' c gb j) c
  | 0, _ => AE.base
  | j + 1, h => by
    obtain ⟨e1, e2, e3, e4⟩ := h j (by omega)
    simp only [tN]
    exact (AE.run (fun k hk => h k (by omega))).step e1 e2 e3 e4
/-- bounds of a ledger that told j entries; h is what is held -/
def LB (M : wM) (c j h : Nat) : Prop := ∃ a p, LV (tN M c (M (rCas c) 1) j) c a h p ∧ h ≤ a ∧ a + p 0 + p 1 + p 2 + p 3 ≤ 9999 + 999 * j
theorem LB.congr {M M' : wM} {c j h : Nat} (hb : LB M c j h) (e0 : M' (rCas c) 1 = M (rCas c) 1) (he : ∀ k, k < j → ES M M' c k) : LB M' c j h := by
  obtain ⟨a, p, ⟨l1, l2, l3⟩, b1, b2⟩ := hb
  obtain ⟨a1, a2, a3⟩ := AE.run (gb := M (rCas c) 1) he
  exact ⟨a, p, ⟨by rw [e0, ← a1]; exact l1, by rw [e0, ← a2]; exact l2, fun lo hlo => by rw [e0, ← a3 lo hlo]; exact l3 lo hlo⟩, b1, b2⟩
theorem LB.zero {M : wM} {c g : Nat} (hg : g ≤ 9999) (e : M (rCas c) 1 = nI g) : LB M c 0 0 := by
  refine ⟨g, fun _ => 0, ?_, by omega, by omega⟩
  rw [e]
  unfold tN tBase LV
  exact ⟨by rw [clrN_ne (by simp only [rLed, rPu]; omega), wr_othj (by decide), wr_same], by rw [clrN_ne (by simp only [rLed, rPu]; omega), wr_same], fun lo hlo => by rw [clrN_at, if_pos hlo]⟩
theorem sum4 {p : Nat → Nat} {lo v : Nat} (h : lo < 4) : (fun x => if x = lo then v else p x) 0 + (fun x => if x = lo then v else p x) 1 + (fun x => if x = lo then v else p x) 2 + (fun x => if x = lo then v else p x) 3 + p lo = p 0 + p 1 + p 2 + p 3 + v := by
  rcases (show lo = 0 ∨ lo = 1 ∨ lo = 2 ∨ lo = 3 by omega) with rfl | rfl | rfl | rfl <;> simp <;> omega
/-- an order, a raid: what is held stays -/
theorem LB.ord {M : wM} {c j h m : Nat} (hb : LB M c j h) (hj : j < 60) (ho : isOrd (M (rLe c) j) = true) (hl : (M (rLo c) j).toNatClampNeg < 4) (hm : M (rAm c) j = nI m) (hm9 : m ≤ 69939) : LB M c (j + 1) h := by
  obtain ⟨a, p, ⟨l1, l2, l3⟩, b1, b2⟩ := hb
  obtain ⟨v1, v2, v3⟩ := tOrd_v (A := tN M c (M (rCas c) 1) j) (c := c) (le := M (rLe c) j) (am := M (rAm c) j) (lo := (M (rLo c) j).toNatClampNeg)
  have hst : tN M c (M (rCas c) 1) (j + 1) = tOrd (tN M c (M (rCas c) 1) j) c (M (rLe c) j) (M (rAm c) j) (M (rLo c) j).toNatClampNeg := by
    simp only [tN]; unfold tStep; rw [if_pos ho]
  generalize (M (rLo c) j).toNatClampNeg = lo at hl v1 v2 v3 hst
  have hp4 : p lo ≤ p 0 + p 1 + p 2 + p 3 := by rcases (show lo = 0 ∨ lo = 1 ∨ lo = 2 ∨ lo = 3 by omega) with rfl | rfl | rfl | rfl <;> omega
  rw [l1, l2, l3 lo hl, hm, nI_subn b1] at v1
  rw [l2, hm] at v2
  simp only [l1, l2, l3 lo hl, hm, nI_subn b1] at v3
  unfold LB LV
  rw [hst]
  by_cases e : M (rLe c) j = nI 105
  · rw [if_pos e] at v1
    simp only [e, if_true] at v3
    by_cases e2 : m ≤ p lo
    · have e3 : nI m ≤ nI (p lo) := nI_le e2 (by omega)
      rw [if_pos e3, nI_addn] at v1
      refine ⟨a + m, fun x => if x = lo then p lo - m else p x, ⟨by rw [hm]; exact v1, by rw [hm]; exact v2, fun x hx => ?_⟩, by omega, ?_⟩
      · rw [hm, e, v3 x]
        by_cases e4 : x = lo
        · subst e4; simp only [if_true]; rw [if_pos e3, nI_subn e2]
        · simp only [if_neg e4]; exact l3 x hx
      · have := sum4 (p := p) (v := p lo - m) hl
        dsimp only at this ⊢
        omega
    · have e3 : ¬ nI m ≤ nI (p lo) := fun z => e2 ((nI_leN (by omega) (by omega)).mp z)
      rw [if_neg e3] at v1
      refine ⟨a, p, ⟨by rw [hm]; exact v1, by rw [hm]; exact v2, fun x hx => ?_⟩, b1, by omega⟩
      rw [hm, e, v3 x]
      by_cases e4 : x = lo
      · subst e4; rw [if_pos rfl, if_neg e3]
      · rw [if_neg e4]; exact l3 x hx
  · rw [if_neg e] at v1
    simp only [if_neg e] at v3
    by_cases e2 : m ≤ a - h
    · have e3 : nI m ≤ nI (a - h) := nI_le e2 (by omega)
      rw [if_pos e3, nI_subn (by omega)] at v1
      refine ⟨a - m, fun x => if x = lo then p lo + m else p x, ⟨by rw [hm]; exact v1, by rw [hm]; exact v2, fun x hx => ?_⟩, by omega, ?_⟩
      · rw [hm, v3 x]
        by_cases e4 : x = lo
        · subst e4; simp only [if_true]; rw [if_pos e3, nI_addn]
        · simp only [if_neg e4]; exact l3 x hx
      · have := sum4 (p := p) (v := p lo + m) hl
        dsimp only at this ⊢
        omega
    · have e3 : ¬ nI m ≤ nI (a - h) := fun z => e2 ((nI_leN (by omega) (by omega)).mp z)
      rw [if_neg e3] at v1
      refine ⟨a, p, ⟨by rw [hm]; exact v1, by rw [hm]; exact v2, fun x hx => ?_⟩, b1, by omega⟩
      rw [hm, v3 x]
      by_cases e4 : x = lo
      · subst e4; rw [if_pos rfl, if_neg e3]
      · rw [if_neg e4]; exact l3 x hx
/-- a struck entry -/
theorem LB.nil {M : wM} {c j h : Nat} (hb : LB M c j h) (ho : isOrd (M (rLe c) j) = false) (ht : isTru (M (rLe c) j) = false) : LB M c (j + 1) h := by
  obtain ⟨a, p, ⟨l1, l2, l3⟩, b1, b2⟩ := hb
  obtain ⟨v1, v2, v3⟩ := tTru_v (A := tN M c (M (rCas c) 1) j) (c := c) (le := M (rLe c) j) (am := M (rAm c) j) (fh := M (rFh c) j)
  have hst : tN M c (M (rCas c) 1) (j + 1) = tTru (tN M c (M (rCas c) 1) j) c (M (rLe c) j) (M (rAm c) j) (M (rFh c) j) := by
    simp only [tN]; unfold tStep; rw [if_neg (by rw [ho]; decide)]
  simp only [isTru, Bool.or_eq_false_iff, decide_eq_false_iff_not] at ht
  rw [if_neg ht.2.1] at v1
  rw [if_neg ht.1, if_neg ht.2.1, if_neg ht.2.2, ite_self] at v2
  exact ⟨a, p, ⟨by rw [hst, v1]; exact l1, by rw [hst, v2]; exact l2, fun lo hlo => by rw [hst, v3]; exact l3 lo hlo⟩, b1, by omega⟩
/-- a truce's entry: f is whether it is from here -/
theorem LB.tru {M : wM} {c j h m h' : Nat} {f : Bool} (hb : LB M c j h) (hj : j < 60) (hm : M (rAm c) j = nI m) (hm9 : m ≤ 999) (hf : M (rFh c) j = b2i f)
    (hc : (M (rLe c) j = nI 112 ∧ (if f = true then (∀ a, tN M c (M (rCas c) 1) j (rLed c) 0 = nI a → a < 2 ^ 30 → h + m ≤ a) ∧ h' = h + m else h' = h)) ∨ ((M (rLe c) j = nI 100 ∨ M (rLe c) j = nI 97) ∧ (if f = true then m ≤ h ∧ h' = h - m else h' = h))) : LB M c (j + 1) h' := by
  obtain ⟨a, p, ⟨l1, l2, l3⟩, b1, b2⟩ := hb
  have n1 : ¬ (nI 100 : Int32) = nI 112 := by decide
  have n2 : ¬ (nI 112 : Int32) = nI 100 := by decide
  have n3 : ¬ (nI 97 : Int32) = nI 100 := by decide
  have n4 : ¬ (nI 97 : Int32) = nI 112 := by decide
  have z1 : ¬ (b2i true : Int32) = 0 := by decide
  have z0 : (b2i false : Int32) = 0 := by decide
  obtain ⟨v1, v2, v3⟩ := tTru_v (A := tN M c (M (rCas c) 1) j) (c := c) (le := M (rLe c) j) (am := M (rAm c) j) (fh := M (rFh c) j)
  have ho : isOrd (M (rLe c) j) = false := by
    rcases hc with ⟨e, -⟩ | ⟨e | e, -⟩ <;> rw [e] <;> decide
  have hst : tN M c (M (rCas c) 1) (j + 1) = tTru (tN M c (M (rCas c) 1) j) c (M (rLe c) j) (M (rAm c) j) (M (rFh c) j) := by
    simp only [tN]; unfold tStep; rw [if_neg (by rw [ho]; decide)]
  rw [hm, l1, hf] at v1
  rw [hm, l2, hf] at v2
  have l3' : ∀ lo, lo < 4 → tN M c (M (rCas c) 1) (j + 1) (rPu c) lo = nI (p lo) := fun lo hlo => by rw [hst, v3]; exact l3 lo hlo
  rw [hm, hf] at hst
  rcases hc with ⟨e, hh⟩ | ⟨e, hh⟩
  · rw [e, if_neg n2] at v1
    rw [e, if_pos rfl] at v2
    rw [e] at hst
    cases f with
    | true =>
      rw [if_pos rfl] at hh
      rw [if_neg z1, nI_addn] at v2
      have := hh.1 a l1 (by omega)
      exact ⟨a, p, ⟨by rw [hst]; exact v1, by rw [hst, hh.2]; exact v2, l3'⟩, by omega, by omega⟩
    | false =>
      rw [if_neg (by decide)] at hh
      rw [if_pos z0] at v2
      exact ⟨a, p, ⟨by rw [hst]; exact v1, by rw [hst, hh]; exact v2, l3'⟩, by omega, by omega⟩
  · rcases e with e | e
    · rw [e, if_pos rfl] at v1
      rw [e, if_neg n1, if_pos rfl] at v2
      rw [e] at hst
      cases f with
      | true =>
        rw [if_pos rfl] at hh
        rw [if_neg z1] at v1
        rw [if_neg z1, nI_subn hh.1] at v2
        refine ⟨a - m, p, ⟨?_, by rw [hst, hh.2]; exact v2, l3'⟩, by omega, by omega⟩
        rw [hst, v1, ← nI_subn (by omega)]; grind
      | false =>
        rw [if_neg (by decide)] at hh
        rw [if_pos z0, nI_addn] at v1
        rw [if_pos z0] at v2
        exact ⟨a + m, p, ⟨by rw [hst]; exact v1, by rw [hst, hh]; exact v2, l3'⟩, by omega, by omega⟩
    · rw [e, if_neg n3] at v1
      rw [e, if_neg n4, if_neg n3, if_pos rfl] at v2
      rw [e] at hst
      cases f with
      | true =>
        rw [if_pos rfl] at hh
        rw [if_neg z1, nI_subn hh.1] at v2
        exact ⟨a, p, ⟨by rw [hst]; exact v1, by rw [hst, hh.2]; exact v2, l3'⟩, by omega, by omega⟩
      | false =>
        rw [if_neg (by decide)] at hh
        rw [if_pos z0] at v2
        exact ⟨a, p, ⟨by rw [hst]; exact v1, by rw [hst, hh]; exact v2, l3'⟩, by omega, by omega⟩
/-- the sum -/
theorem lsum4 {A : wM} {c : Nat} : lsum A c 4 = A (rLed c) 0 + A (rPu c) 0 + A (rPu c) 1 + A (rPu c) 2 + A (rPu c) 3 := by simp only [lsum]
theorem sum_run {M : wM} {c : Nat} {gb : Int32} : ∀ {j : Nat}, (∀ k, k < j → isOrd (M (rLe c) k) = true → (M (rLo c) k).toNatClampNeg < 4) → lsum (tN M c gb j) c 4 = gb + mvN M c j
  | 0, _ => by
    rw [lsum4]
    simp only [tN, mvN]
    unfold tBase
    rw [clrN_ne (by simp only [rLed, rPu]; omega), wr_othj (by decide), wr_same, clrN_at, clrN_at, clrN_at, clrN_at, if_pos (by decide), if_pos (by decide), if_pos (by decide), if_pos (by decide)]
    have : (nI 0 : Int32) = 0 := rfl
    rw [this]; grind
  | j + 1, h => by
    have ih := sum_run (M := M) (c := c) (gb := gb) (j := j) (fun k hk => h k (by omega))
    rw [lsum4] at ih ⊢
    simp only [tN, mvN]
    unfold tStep
    by_cases ho : isOrd (M (rLe c) j) = true
    · rw [if_pos ho]
      have hl := h j (by omega) ho
      have hd : ¬ M (rLe c) j = nI 100 := by
        simp only [isOrd, Bool.or_eq_true, decide_eq_true_eq] at ho
        rcases ho with e | e | e <;> rw [e] <;> decide
      rw [if_neg hd, ← ih]
      obtain ⟨v1, v2, v3⟩ := tOrd_v (A := tN M c gb j) (c := c) (le := M (rLe c) j) (am := M (rAm c) j) (lo := (M (rLo c) j).toNatClampNeg)
      rw [v1, v3 0, v3 1, v3 2, v3 3]
      generalize (M (rLo c) j).toNatClampNeg = lo at hl
      generalize tN M c gb j = A
      rcases (show lo = 0 ∨ lo = 1 ∨ lo = 2 ∨ lo = 3 by omega) with rfl | rfl | rfl | rfl
      all_goals (simp only [show ¬ (0 : Nat) = 1 by decide, show ¬ (0 : Nat) = 2 by decide, show ¬ (0 : Nat) = 3 by decide, show ¬ (1 : Nat) = 0 by decide, show ¬ (1 : Nat) = 2 by decide, show ¬ (1 : Nat) = 3 by decide, show ¬ (2 : Nat) = 0 by decide, show ¬ (2 : Nat) = 1 by decide, show ¬ (2 : Nat) = 3 by decide, show ¬ (3 : Nat) = 0 by decide, show ¬ (3 : Nat) = 1 by decide, show ¬ (3 : Nat) = 2 by decide, if_true, if_false]; split <;> split <;> grind)
    · rw [if_neg ho]
      obtain ⟨v1, v2, v3⟩ := tTru_v (A := tN M c gb j) (c := c) (le := M (rLe c) j) (am := M (rAm c) j) (fh := M (rFh c) j)
      rw [v1, v3 0, v3 1, v3 2, v3 3]
      generalize tN M c gb j = A at ih
      generalize mvN M c j = mv at ih
      by_cases e : M (rLe c) j = nI 100
      · rw [if_pos e, if_pos e]
        by_cases e2 : M (rFh c) j = 0
        · rw [if_pos e2, if_pos e2]; grind
        · rw [if_neg e2, if_neg e2]; grind
      · rw [if_neg e, if_neg e]; exact ih
