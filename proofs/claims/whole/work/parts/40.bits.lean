/-! masks of seven towers: what the machine's bits say of them -/
/-- a mask of seven towers -/
def Mk (x : Int32) : Prop := ∃ n : Nat, n < 128 ∧ x = nI n
/-- how many of the first k towers hold -/
def pcB (p : Nat → Bool) : Nat → Nat
  | 0 => 0
  | k + 1 => pcB p k + (if p k = true then 1 else 0)
theorem hasB_tb : ∀ n : Fin 128, ∀ t : Fin 7, hasB (nI n.val) t.val = n.val.testBit t.val := by decide +kernel
theorem bitI_tb : ∀ n : Fin 128, ∀ t : Fin 7, bitI (nI n.val) t.val = b2i (n.val.testBit t.val) := by decide +kernel
theorem bcI_tb : ∀ n : Fin 128, bcI (nI n.val) = nI (pcB (fun t => n.val.testBit t) 7) := by decide +kernel
theorem onI_tb : ∀ n : Fin 128, onI (nI n.val) = nI (pcB (fun t => n.val.testBit t) 7) := by decide +kernel
theorem clB_tb : ∀ n : Fin 128, ∀ t : Fin 7, clB (nI n.val) t.val = nI (n.val &&& (127 ^^^ (1 <<< t.val))) := by decide +kernel
theorem seB_tb : ∀ n : Fin 128, ∀ t : Fin 7, nI n.val ||| (nI 1 <<< (nI t.val &&& 31)) = nI (n.val ||| (1 <<< t.val)) := by decide +kernel
theorem xoB_tb : ∀ n : Fin 128, ∀ t : Fin 7, nI n.val ^^^ (nI 1 <<< (nI t.val &&& 31)) = nI (n.val ^^^ (1 <<< t.val)) := by decide +kernel
theorem an_tb : ∀ a b : Fin 128, nI a.val &&& nI b.val = nI (a.val &&& b.val) := by decide +kernel
theorem or_tb : ∀ a b : Fin 128, nI a.val ||| nI b.val = nI (a.val ||| b.val) := by decide +kernel
theorem ax_tb : ∀ a b : Fin 128, nI a.val &&& (nI b.val ^^^ (-1)) = nI (a.val &&& (127 ^^^ b.val)) := by decide +kernel
theorem full_tb : ∀ m : Fin 8, (nI 1 <<< (nI m.val &&& 31)) - nI 1 = nI (2 ^ m.val - 1) := by decide +kernel
theorem tb_hi {n t : Nat} (h : n < 128) (ht : 7 ≤ t) : n.testBit t = false := by
  apply Nat.testBit_lt_two_pow
  exact Nat.lt_of_lt_of_le h (Nat.pow_le_pow_right (n := 2) (i := 7) (by decide) ht)
theorem Mk.has {x : Int32} {n : Nat} (hn : n < 128) (hx : x = nI n) {t : Nat} (ht : t < 7) : hasB x t = n.testBit t := by
  subst hx; exact hasB_tb ⟨n, hn⟩ ⟨t, ht⟩
/-- masks that hold the same towers are the same -/
theorem Mk.ext {x y : Int32} (hx : Mk x) (hy : Mk y) (h : ∀ t, t < 7 → hasB x t = hasB y t) : x = y := by
  obtain ⟨a, ha, rfl⟩ := hx
  obtain ⟨b, hb, rfl⟩ := hy
  have : a = b := by
    apply Nat.eq_of_testBit_eq
    intro t
    by_cases ht : t < 7
    · have := h t ht
      rw [Mk.has ha rfl ht, Mk.has hb rfl ht] at this
      exact this
    · rw [tb_hi ha (by omega), tb_hi hb (by omega)]
  rw [this]
theorem tb127 {t : Nat} (ht : t < 7) : Nat.testBit 127 t = true := by
  rcases (show t = 0 ∨ t = 1 ∨ t = 2 ∨ t = 3 ∨ t = 4 ∨ t = 5 ∨ t = 6 by omega) with rfl | rfl | rfl | rfl | rfl | rfl | rfl <;> rfl
theorem Mk.and {x y : Int32} (hx : Mk x) (hy : Mk y) : Mk (x &&& y) ∧ ∀ t, t < 7 → hasB (x &&& y) t = (hasB x t && hasB y t) := by
  obtain ⟨a, ha, rfl⟩ := hx
  obtain ⟨b, hb, rfl⟩ := hy
  have e := an_tb ⟨a, ha⟩ ⟨b, hb⟩
  have hl : a &&& b < 128 := Nat.lt_of_le_of_lt Nat.and_le_left ha
  refine ⟨⟨_, hl, e⟩, fun t ht => ?_⟩
  rw [Mk.has hl e ht, Mk.has ha rfl ht, Mk.has hb rfl ht, Nat.testBit_and]
theorem Mk.or {x y : Int32} (hx : Mk x) (hy : Mk y) : Mk (x ||| y) ∧ ∀ t, t < 7 → hasB (x ||| y) t = (hasB x t || hasB y t) := by
  obtain ⟨a, ha, rfl⟩ := hx
  obtain ⟨b, hb, rfl⟩ := hy
  have e := or_tb ⟨a, ha⟩ ⟨b, hb⟩
  have hl : a ||| b < 128 := Nat.or_lt_two_pow (n := 7) ha hb
  refine ⟨⟨_, hl, e⟩, fun t ht => ?_⟩
  rw [Mk.has hl e ht, Mk.has ha rfl ht, Mk.has hb rfl ht, Nat.testBit_or]
/-- all but those of y -/
theorem Mk.but {x y : Int32} (hx : Mk x) (hy : Mk y) : Mk (x &&& (y ^^^ (-1))) ∧ ∀ t, t < 7 → hasB (x &&& (y ^^^ (-1))) t = (hasB x t && !hasB y t) := by
  obtain ⟨a, ha, rfl⟩ := hx
  obtain ⟨b, hb, rfl⟩ := hy
  have e := ax_tb ⟨a, ha⟩ ⟨b, hb⟩
  have hl : a &&& (127 ^^^ b) < 128 := Nat.lt_of_le_of_lt Nat.and_le_left ha
  refine ⟨⟨_, hl, e⟩, fun t ht => ?_⟩
  rw [Mk.has hl e ht, Mk.has ha rfl ht, Mk.has hb rfl ht, Nat.testBit_and, Nat.testBit_xor, tb127 ht]
  cases a.testBit t <;> cases b.testBit t <;> rfl
theorem tb_one {t u : Nat} : Nat.testBit (1 <<< t) u = decide (u = t) := by
  rw [Nat.one_shiftLeft, Nat.testBit_two_pow]
  by_cases h : u = t
  · subst h; simp
  · simp [h, Ne.symm h]
theorem Mk.cl {x : Int32} (hx : Mk x) {t : Nat} (ht : t < 7) : Mk (clB x t) ∧ ∀ u, u < 7 → hasB (clB x t) u = (hasB x u && !decide (u = t)) := by
  obtain ⟨a, ha, rfl⟩ := hx
  have e := clB_tb ⟨a, ha⟩ ⟨t, ht⟩
  have hl : a &&& (127 ^^^ (1 <<< t)) < 128 := Nat.lt_of_le_of_lt Nat.and_le_left ha
  refine ⟨⟨_, hl, e⟩, fun u hu => ?_⟩
  rw [Mk.has hl e hu, Mk.has ha rfl hu, Nat.testBit_and, Nat.testBit_xor, tb127 hu, tb_one]
  cases a.testBit u <;> cases decide (u = t) <;> rfl
theorem one_lt {t : Nat} (ht : t < 7) : 1 <<< t < 128 := by
  rcases (show t = 0 ∨ t = 1 ∨ t = 2 ∨ t = 3 ∨ t = 4 ∨ t = 5 ∨ t = 6 by omega) with rfl | rfl | rfl | rfl | rfl | rfl | rfl <;> decide
theorem Mk.se {x : Int32} (hx : Mk x) {t : Nat} (ht : t < 7) : Mk (x ||| (nI 1 <<< (nI t &&& 31))) ∧ ∀ u, u < 7 → hasB (x ||| (nI 1 <<< (nI t &&& 31))) u = (hasB x u || decide (u = t)) := by
  obtain ⟨a, ha, rfl⟩ := hx
  have e := seB_tb ⟨a, ha⟩ ⟨t, ht⟩
  have hl : a ||| (1 <<< t) < 128 := Nat.or_lt_two_pow (n := 7) ha (one_lt ht)
  refine ⟨⟨_, hl, e⟩, fun u hu => ?_⟩
  rw [Mk.has hl e hu, Mk.has ha rfl hu, Nat.testBit_or, tb_one]
theorem Mk.xo {x : Int32} (hx : Mk x) {t : Nat} (ht : t < 7) : Mk (x ^^^ (nI 1 <<< (nI t &&& 31))) ∧ ∀ u, u < 7 → hasB (x ^^^ (nI 1 <<< (nI t &&& 31))) u = (hasB x u ^^ decide (u = t)) := by
  obtain ⟨a, ha, rfl⟩ := hx
  have e := xoB_tb ⟨a, ha⟩ ⟨t, ht⟩
  have hl : a ^^^ (1 <<< t) < 128 := Nat.xor_lt_two_pow (n := 7) ha (one_lt ht)
  refine ⟨⟨_, hl, e⟩, fun u hu => ?_⟩
  rw [Mk.has hl e hu, Mk.has ha rfl hu, Nat.testBit_xor, tb_one]
theorem Mk.zero : Mk (nI 0) ∧ ∀ t, t < 7 → hasB (nI 0) t = false := ⟨⟨0, by decide, rfl⟩, fun t ht => by rw [Mk.has (n := 0) (by decide) rfl ht]; exact Nat.zero_testBit t⟩
theorem Mk.full {m : Nat} (hm : m ≤ 7) : Mk ((nI 1 <<< (nI m &&& 31)) - nI 1) ∧ ∀ t, t < 7 → hasB ((nI 1 <<< (nI m &&& 31)) - nI 1) t = decide (t < m) := by
  have e := full_tb ⟨m, by omega⟩
  have hl : 2 ^ m - 1 < 128 := by
    have : 2 ^ m ≤ 2 ^ 7 := Nat.pow_le_pow_right (by decide) hm
    omega
  refine ⟨⟨_, hl, e⟩, fun t ht => ?_⟩
  rw [Mk.has hl e ht, Nat.testBit_two_pow_sub_one]
theorem pcB_congr {p q : Nat → Bool} : ∀ {n : Nat}, (∀ k, k < n → p k = q k) → pcB p n = pcB q n
  | 0, _ => rfl
  | n + 1, h => by simp only [pcB]; rw [pcB_congr (fun k hk => h k (by omega)), h n (by omega)]
theorem pcB_le (p : Nat → Bool) : ∀ n, pcB p n ≤ n
  | 0 => Nat.le_refl _
  | n + 1 => by have := pcB_le p n; simp only [pcB]; split <;> omega
/-- the count of a mask's towers, by the class and by the reference -/
theorem Mk.bc {x : Int32} (hx : Mk x) : bcI x = nI (pcB (hasB x) 7) := by
  obtain ⟨a, ha, rfl⟩ := hx
  rw [bcI_tb ⟨a, ha⟩, pcB_congr (q := hasB (nI a)) (fun t ht => (Mk.has ha rfl ht).symm)]
theorem Mk.on {x : Int32} (hx : Mk x) : onI x = nI (pcB (hasB x) 7) := by
  obtain ⟨a, ha, rfl⟩ := hx
  rw [onI_tb ⟨a, ha⟩, pcB_congr (q := hasB (nI a)) (fun t ht => (Mk.has ha rfl ht).symm)]
theorem Mk.bco {x : Int32} (hx : Mk x) : onI x = bcI x := hx.on.trans hx.bc.symm
theorem Mk.bit {x : Int32} (hx : Mk x) {t : Nat} (ht : t < 7) : bitI x t = b2i (hasB x t) := by
  obtain ⟨a, ha, rfl⟩ := hx
  rw [bitI_tb ⟨a, ha⟩ ⟨t, ht⟩, Mk.has ha rfl ht]
theorem Mk.nil {x : Int32} (hx : Mk x) : x = 0 ↔ ∀ t, t < 7 → hasB x t = false := by
  constructor
  · intro h t ht; rw [h]; exact Mk.zero.2 t ht
  · intro h; exact Mk.ext hx Mk.zero.1 (fun t ht => (h t ht).trans (Mk.zero.2 t ht).symm)
