/-! THE WORLD: one layout for the class, the reference and the law's two rows: a role is a number, V.1 its address, V.2 the classes of the arrays; what a role holds is a row of ints (objects: by the slot) -/
abbrev wV : Type := (Nat → Nat) × (Nat → ClassId)
abbrev wM : Type := Nat → Nat → Int32
abbrev wO : Type := (Nat → Int64) × (Nat → UInt64)
abbrev wW : Type := wM × wM × wO
abbrev rCas (c : Nat) : Nat := 30 * c
abbrev rWt (c : Nat) : Nat := 30 * c + 1
abbrev rCt (c : Nat) : Nat := 30 * c + 2
abbrev rGs (c : Nat) : Nat := 30 * c + 3
abbrev rGate (c g : Nat) : Nat := 30 * c + (4 + 4 * g)
abbrev rVL (c g : Nat) : Nat := 30 * c + (5 + 4 * g)
abbrev rVT (c g : Nat) : Nat := 30 * c + (6 + 4 * g)
abbrev rLT (c g : Nat) : Nat := 30 * c + (7 + 4 * g)
abbrev rRow (c : Nat) : Nat := 30 * c + 16
abbrev rLe (c : Nat) : Nat := 30 * c + 17
abbrev rAm (c : Nat) : Nat := 30 * c + 18
abbrev rLo (c : Nat) : Nat := 30 * c + 19
abbrev rHo (c : Nat) : Nat := 30 * c + 20
abbrev rFh (c : Nat) : Nat := 30 * c + 21
abbrev rCo (c : Nat) : Nat := 30 * c + 22
abbrev rLed (c : Nat) : Nat := 30 * c + 23
abbrev rPu (c : Nat) : Nat := 30 * c + 24
abbrev rMain : Nat := 60
abbrev rSis : Nat := 61
abbrev rTrs : Nat := 62
abbrev rWin : Nat := 63
abbrev rSi (k : Nat) : Nat := 64 + k
abbrev rTr (k : Nat) : Nat := 84 + 2 * k
abbrev rSt (k : Nat) : Nat := 85 + 2 * k
abbrev rMod : Nat := 100
abbrev rOL : Nat := 140
abbrev rOD : Nat := 141
/-- where a castle's row holds a castle: 0, 1, or none -/
def plv (V : wV) (x : Int32) : Value := if x = 0 then .ref (V.1 (rCas 0)) else if x = 1 then .ref (V.1 (rCas 1)) else .null
def celG (V : wV) (c g i : Nat) (f : Nat → Int32) : va_E := match i with
  | 0 => .inr (1, [.ref (V.1 (rVL c g)), .ref (V.1 (rVT c g)), .ref (V.1 (rLT c g))])
  | 1 => .inl (V.2 0, 7, .inl f)
  | 2 => .inl (V.2 0, 7, .inl f)
  | _ => .inl (V.2 0, 4, .inl f)
def celC (V : wV) (c j : Nat) (f : Nat → Int32) : va_E := match j with
  | 0 => .inr (0, [.int (f 0), .int (f 1), .int (f 2), .int (f 3), .ref (V.1 (rWt c)), .ref (V.1 (rCt c)), .ref (V.1 (rGs c)), .ref (V.1 (rRow c)), .ref (V.1 (rLed c))])
  | 1 => .inl (V.2 0, 7, .inl f)
  | 2 => .inl (V.2 0, 4, .inl f)
  | 3 => .inl (V.2 3, 3, .inr (.inr (.inr (.inr (fun g => some (V.1 (rGate c g)))))))
  | 16 => .inr (3, [.int (f 0), .ref (V.1 (rLe c)), .ref (V.1 (rAm c)), .ref (V.1 (rLo c)), .ref (V.1 (rHo c)), .ref (V.1 (rFh c)), .ref (V.1 (rCo c))])
  | 17 => .inl (V.2 1, 60, .inl f)
  | 18 => .inl (V.2 0, 60, .inl f)
  | 19 => .inl (V.2 0, 60, .inl f)
  | 20 => .inl (V.2 0, 60, .inl f)
  | 21 => .inl (V.2 2, 60, .inl f)
  | 22 => .inl (V.2 2, 60, .inl f)
  | 23 => .inr (2, [.int (f 0), .int (f 1), .ref (V.1 (rPu c))])
  | 24 => .inl (V.2 0, 4, .inl f)
  | j => celG V c ((j - 4) / 4) ((j - 4) % 4) f
def celM (V : wV) (j : Nat) (f : Nat → Int32) : va_E := match j with
  | 0 => .inr (6, [.ref (V.1 (rCas 0)), .ref (V.1 (rCas 1)), .ref (V.1 rSis), .ref (V.1 rTrs), .ref (V.1 rWin), .int (f 5), .int (f 6), .int (f 7)])
  | 1 => .inl (V.2 4, 20, .inr (.inr (.inr (.inr (fun k => some (V.1 (rSi k)))))))
  | 2 => .inl (V.2 5, 8, .inr (.inr (.inr (.inr (fun k => some (V.1 (rTr k)))))))
  | _ => .inl (V.2 0, 4, .inl f)
def celS (V : wV) (f : Nat → Int32) : va_E := .inr (4, [plv V (f 0), .int (f 1), .int (f 2), .int (f 3), .int (f 4), .int (f 5)])
def celT (V : wV) (k i : Nat) (f : Nat → Int32) : va_E := if i = 0 then .inr (5, [.int (f 0), .int (f 1), .int (f 2), .ref (V.1 (rSt k))]) else .inl (V.2 1, 2, .inl f)
def celR (V : wV) (j : Nat) (f : Nat → Int32) : va_E := match j with
  | 0 => .inr (7, [.ref (V.1 101), .ref (V.1 102), .ref (V.1 103), .ref (V.1 104), .ref (V.1 105), .ref (V.1 106), .ref (V.1 107), .ref (V.1 108), .ref (V.1 109), .ref (V.1 110), .ref (V.1 111), .ref (V.1 112), .ref (V.1 113), .ref (V.1 114), .ref (V.1 115), .ref (V.1 116), .int (f 16), .int (f 17), .int (f 18), .int (f 19), .ref (V.1 121), .ref (V.1 122), .ref (V.1 123), .ref (V.1 124), .ref (V.1 125), .ref (V.1 126), .ref (V.1 127), .ref (V.1 128), .ref (V.1 129), .ref (V.1 130), .ref (V.1 131), .int (f 31), .int (f 32), .int (f 33), .ref (V.1 135)])
  | 1 => .inl (V.2 0, 2, .inl f)
  | 2 => .inl (V.2 0, 2, .inl f)
  | 3 => .inl (V.2 0, 2, .inl f)
  | 4 => .inl (V.2 2, 14, .inl f)
  | 5 => .inl (V.2 2, 14, .inl f)
  | 6 => .inl (V.2 0, 14, .inl f)
  | 7 => .inl (V.2 2, 56, .inl f)
  | 8 => .inl (V.2 0, 42, .inl f)
  | 9 => .inl (V.2 0, 42, .inl f)
  | 10 => .inl (V.2 0, 24, .inl f)
  | 11 => .inl (V.2 1, 120, .inl f)
  | 12 => .inl (V.2 0, 120, .inl f)
  | 13 => .inl (V.2 0, 120, .inl f)
  | 14 => .inl (V.2 0, 120, .inl f)
  | 15 => .inl (V.2 0, 120, .inl f)
  | 16 => .inl (V.2 2, 120, .inl f)
  | 21 => .inl (V.2 0, 20, .inl f)
  | 22 => .inl (V.2 0, 20, .inl f)
  | 23 => .inl (V.2 0, 20, .inl f)
  | 24 => .inl (V.2 0, 20, .inl f)
  | 25 => .inl (V.2 0, 20, .inl f)
  | 26 => .inl (V.2 2, 20, .inl f)
  | 27 => .inl (V.2 0, 8, .inl f)
  | 28 => .inl (V.2 0, 8, .inl f)
  | 29 => .inl (V.2 1, 8, .inl f)
  | 30 => .inl (V.2 1, 16, .inl f)
  | 31 => .inl (V.2 0, 4, .inl f)
  | _ => .inl (V.2 0, 4, .inl f)
def celO (V : wV) (j : Nat) (o : wO) : va_E := if j = 0 then .inl (V.2 6, 1, .inr (.inl o.1)) else .inl (V.2 7, 1, .inr (.inr (.inr (.inl o.2))))
/-- what a role's cell is, by its row -/
def celF (V : wV) (o : wO) (r : Nat) (f : Nat → Int32) : va_E := if r < 60 then celC V (r / 30) (r % 30) f else if r < 64 then celM V (r - 60) f else if r < 84 then celS V f else if r < 100 then celT V ((r - 84) / 2) ((r - 84) % 2) f else if r < 140 then celR V (r - 100) f else celO V (r - 140) o
def row (w : wW) (r : Nat) : Nat → Int32 := if r < 100 then w.1 r else w.2.1 r
def cel (V : wV) (w : wW) (r : Nat) : va_E := celF V w.2.2 r (row w r)
def wsr (V : wV) (rs : List Nat) (w : wW) : va_W := rs.map (fun r => (V.1 r, cel V w r))
/-- which cells may change: the world's, and what comes from sz on -/
def adr (V : wV) (rs : List Nat) (sz : Nat) : Nat → Prop := fun q => (∃ r ∈ rs, q = V.1 r) ∨ sz ≤ q
abbrev tysV (V : wV) : List (ClassId × FieldType) := [(V.2 0, .int), (V.2 1, .char), (V.2 2, .boolean), (V.2 3, .object RX1), (V.2 4, .object RX4), (V.2 5, .object RX5), (V.2 6, .long), (V.2 7, .double)]
def wr (M : wM) (r j : Nat) (v : Int32) : wM := fun r' => if r' = r then upd (M r) j v else M r'
theorem wr_self (M : wM) (r j : Nat) (v : Int32) : wr M r j v r = upd (M r) j v := by simp [wr]
theorem wr_ne {M : wM} {r j : Nat} {v : Int32} {r' : Nat} (h : r' ≠ r) : wr M r j v r' = M r' := by simp [wr, h]
-- the rows of the class: role below 100
abbrev wC (w : wW) (M : wM) : wW := (M, w.2)
abbrev wR (w : wW) (M : wM) : wW := (w.1, M, w.2.2)
theorem cel_lo {V : wV} {w : wW} {r : Nat} (h : r < 100) : cel V w r = celF V w.2.2 r (w.1 r) := by simp [cel, row, h]
theorem cel_hi {V : wV} {w : wW} {r : Nat} (h : 100 ≤ r) : cel V w r = celF V w.2.2 r (w.2.1 r) := by simp [cel, row, Nat.not_lt.mpr h]
theorem celF_Cas {V : wV} {o : wO} {c : Nat} (hc : c < 2) (f : Nat → Int32) : celF V o (rCas c) f = .inr (0, [.int (f 0), .int (f 1), .int (f 2), .int (f 3), .ref (V.1 (rWt c)), .ref (V.1 (rCt c)), .ref (V.1 (rGs c)), .ref (V.1 (rRow c)), .ref (V.1 (rLed c))]) := by
  rcases (show c = 0 ∨ c = 1 by omega) with rfl | rfl <;> rfl
theorem celF_Wt {V : wV} {o : wO} {c : Nat} (hc : c < 2) (f : Nat → Int32) : celF V o (rWt c) f = .inl (V.2 0, 7, .inl f) := by
  rcases (show c = 0 ∨ c = 1 by omega) with rfl | rfl <;> rfl
theorem celF_Ct {V : wV} {o : wO} {c : Nat} (hc : c < 2) (f : Nat → Int32) : celF V o (rCt c) f = .inl (V.2 0, 4, .inl f) := by
  rcases (show c = 0 ∨ c = 1 by omega) with rfl | rfl <;> rfl
theorem celF_Gs {V : wV} {o : wO} {c : Nat} (hc : c < 2) (f : Nat → Int32) : celF V o (rGs c) f = .inl (V.2 3, 3, .inr (.inr (.inr (.inr (fun g => some (V.1 (rGate c g))))))) := by
  rcases (show c = 0 ∨ c = 1 by omega) with rfl | rfl <;> rfl
theorem celF_Gate {V : wV} {o : wO} {c g : Nat} (hc : c < 2) (hg : g < 3) (f : Nat → Int32) : celF V o (rGate c g) f = .inr (1, [.ref (V.1 (rVL c g)), .ref (V.1 (rVT c g)), .ref (V.1 (rLT c g))]) := by
  rcases (show c = 0 ∨ c = 1 by omega) with rfl | rfl <;> rcases (show g = 0 ∨ g = 1 ∨ g = 2 by omega) with rfl | rfl | rfl <;> rfl
theorem celF_VL {V : wV} {o : wO} {c g : Nat} (hc : c < 2) (hg : g < 3) (f : Nat → Int32) : celF V o (rVL c g) f = .inl (V.2 0, 7, .inl f) := by
  rcases (show c = 0 ∨ c = 1 by omega) with rfl | rfl <;> rcases (show g = 0 ∨ g = 1 ∨ g = 2 by omega) with rfl | rfl | rfl <;> rfl
theorem celF_VT {V : wV} {o : wO} {c g : Nat} (hc : c < 2) (hg : g < 3) (f : Nat → Int32) : celF V o (rVT c g) f = .inl (V.2 0, 7, .inl f) := by
  rcases (show c = 0 ∨ c = 1 by omega) with rfl | rfl <;> rcases (show g = 0 ∨ g = 1 ∨ g = 2 by omega) with rfl | rfl | rfl <;> rfl
theorem celF_LT {V : wV} {o : wO} {c g : Nat} (hc : c < 2) (hg : g < 3) (f : Nat → Int32) : celF V o (rLT c g) f = .inl (V.2 0, 4, .inl f) := by
  rcases (show c = 0 ∨ c = 1 by omega) with rfl | rfl <;> rcases (show g = 0 ∨ g = 1 ∨ g = 2 by omega) with rfl | rfl | rfl <;> rfl
theorem celF_Row {V : wV} {o : wO} {c : Nat} (hc : c < 2) (f : Nat → Int32) : celF V o (rRow c) f = .inr (3, [.int (f 0), .ref (V.1 (rLe c)), .ref (V.1 (rAm c)), .ref (V.1 (rLo c)), .ref (V.1 (rHo c)), .ref (V.1 (rFh c)), .ref (V.1 (rCo c))]) := by
  rcases (show c = 0 ∨ c = 1 by omega) with rfl | rfl <;> rfl
theorem celF_Le {V : wV} {o : wO} {c : Nat} (hc : c < 2) (f : Nat → Int32) : celF V o (rLe c) f = .inl (V.2 1, 60, .inl f) := by
  rcases (show c = 0 ∨ c = 1 by omega) with rfl | rfl <;> rfl
theorem celF_Am {V : wV} {o : wO} {c : Nat} (hc : c < 2) (f : Nat → Int32) : celF V o (rAm c) f = .inl (V.2 0, 60, .inl f) := by
  rcases (show c = 0 ∨ c = 1 by omega) with rfl | rfl <;> rfl
theorem celF_Lo {V : wV} {o : wO} {c : Nat} (hc : c < 2) (f : Nat → Int32) : celF V o (rLo c) f = .inl (V.2 0, 60, .inl f) := by
  rcases (show c = 0 ∨ c = 1 by omega) with rfl | rfl <;> rfl
theorem celF_Ho {V : wV} {o : wO} {c : Nat} (hc : c < 2) (f : Nat → Int32) : celF V o (rHo c) f = .inl (V.2 0, 60, .inl f) := by
  rcases (show c = 0 ∨ c = 1 by omega) with rfl | rfl <;> rfl
theorem celF_Fh {V : wV} {o : wO} {c : Nat} (hc : c < 2) (f : Nat → Int32) : celF V o (rFh c) f = .inl (V.2 2, 60, .inl f) := by
  rcases (show c = 0 ∨ c = 1 by omega) with rfl | rfl <;> rfl
theorem celF_Co {V : wV} {o : wO} {c : Nat} (hc : c < 2) (f : Nat → Int32) : celF V o (rCo c) f = .inl (V.2 2, 60, .inl f) := by
  rcases (show c = 0 ∨ c = 1 by omega) with rfl | rfl <;> rfl
theorem celF_Led {V : wV} {o : wO} {c : Nat} (hc : c < 2) (f : Nat → Int32) : celF V o (rLed c) f = .inr (2, [.int (f 0), .int (f 1), .ref (V.1 (rPu c))]) := by
  rcases (show c = 0 ∨ c = 1 by omega) with rfl | rfl <;> rfl
theorem celF_Pu {V : wV} {o : wO} {c : Nat} (hc : c < 2) (f : Nat → Int32) : celF V o (rPu c) f = .inl (V.2 0, 4, .inl f) := by
  rcases (show c = 0 ∨ c = 1 by omega) with rfl | rfl <;> rfl
theorem celF_Main {V : wV} {o : wO} (f : Nat → Int32) : celF V o rMain f = .inr (6, [.ref (V.1 (rCas 0)), .ref (V.1 (rCas 1)), .ref (V.1 rSis), .ref (V.1 rTrs), .ref (V.1 rWin), .int (f 5), .int (f 6), .int (f 7)]) := rfl
theorem celF_Sis {V : wV} {o : wO} (f : Nat → Int32) : celF V o rSis f = .inl (V.2 4, 20, .inr (.inr (.inr (.inr (fun k => some (V.1 (rSi k))))))) := rfl
theorem celF_Trs {V : wV} {o : wO} (f : Nat → Int32) : celF V o rTrs f = .inl (V.2 5, 8, .inr (.inr (.inr (.inr (fun k => some (V.1 (rTr k))))))) := rfl
theorem celF_Win {V : wV} {o : wO} (f : Nat → Int32) : celF V o rWin f = .inl (V.2 0, 4, .inl f) := rfl
theorem celF_Si {V : wV} {o : wO} {k : Nat} (hk : k < 20) (f : Nat → Int32) : celF V o (rSi k) f = .inr (4, [plv V (f 0), .int (f 1), .int (f 2), .int (f 3), .int (f 4), .int (f 5)]) := by
  show celF V o (64 + k) f = _
  unfold celF celS
  rw [if_neg (by omega), if_neg (by omega), if_pos (by omega)]
theorem celF_Tr {V : wV} {o : wO} {k : Nat} (hk : k < 8) (f : Nat → Int32) : celF V o (rTr k) f = .inr (5, [.int (f 0), .int (f 1), .int (f 2), .ref (V.1 (rSt k))]) := by
  show celF V o (84 + 2 * k) f = _
  unfold celF celT
  rw [if_neg (by omega), if_neg (by omega), if_neg (by omega), if_pos (by omega), if_pos (by omega), show (84 + 2 * k - 84) / 2 = k by omega]
theorem celF_St {V : wV} {o : wO} {k : Nat} (hk : k < 8) (f : Nat → Int32) : celF V o (rSt k) f = .inl (V.2 1, 2, .inl f) := by
  show celF V o (85 + 2 * k) f = _
  unfold celF celT
  rw [if_neg (by omega), if_neg (by omega), if_neg (by omega), if_pos (by omega), if_neg (by omega)]
theorem celF_Mod {V : wV} {o : wO} (f : Nat → Int32) : celF V o rMod f = .inr (7, [.ref (V.1 101), .ref (V.1 102), .ref (V.1 103), .ref (V.1 104), .ref (V.1 105), .ref (V.1 106), .ref (V.1 107), .ref (V.1 108), .ref (V.1 109), .ref (V.1 110), .ref (V.1 111), .ref (V.1 112), .ref (V.1 113), .ref (V.1 114), .ref (V.1 115), .ref (V.1 116), .int (f 16), .int (f 17), .int (f 18), .int (f 19), .ref (V.1 121), .ref (V.1 122), .ref (V.1 123), .ref (V.1 124), .ref (V.1 125), .ref (V.1 126), .ref (V.1 127), .ref (V.1 128), .ref (V.1 129), .ref (V.1 130), .ref (V.1 131), .int (f 31), .int (f 32), .int (f 33), .ref (V.1 135)]) := rfl
