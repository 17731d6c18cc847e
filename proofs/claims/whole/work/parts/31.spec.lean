/-! ===== what the document's words come to, over the row 'now' of the reference ===== -/
abbrev Row : Type := Nat → Int32
def opV (w a b : Int32) : Int32 :=
  if w = 20000 then (if a = 0 then (if b = 0 then 0 else 1) else 1)
  else if w = 20001 then (if a = 0 then 0 else (if b = 0 then 0 else 1))
  else if w = 20002 then (if b ≤ a then 0 else 1)
  else if w = 20003 then (if a = b then 1 else 0)
  else if w = 20004 then (if a ≤ b then 0 else 1)
  else if w = 20005 then a + b
  else if w = 20006 then a - b
  else if w = 20007 then a * b
  else if w = 20008 then (if b = 0 then 0 else a / b)
  else (if b = 0 then 0 else a - a / b * b)
/-- an entry that joins two -/
def binW (w : Int32) : Prop := w = 20000 ∨ w = 20001 ∨ w = 20002 ∨ w = 20003 ∨ w = 20004 ∨ w = 20005 ∨ w = 20006 ∨ w = 20007 ∨ w = 20008 ∨ w = 20009
def nameW (w : Int32) : Prop := w = 10000 ∨ w = 10001 ∨ w = 10002
def numW (w : Int32) : Prop := 0 ≤ w.toInt ∧ w.toInt < 10000
/-- how high the pile stands before entry i -/
def hts (code : Nat → Int32) : Nat → Nat
  | 0 => 0
  | i + 1 => if code i < 20000 then hts code i + 1 else if code i = 20010 then hts code i else hts code i - 1
def okE (w : Int32) (h : Nat) : Prop := numW w ∨ nameW w ∨ (w = 20010 ∧ 1 ≤ h) ∨ (binW w ∧ 2 ≤ h)
/-- the pile before entry i -/
def evF (na code : Nat → Int32) : Nat → Nat → Int32
  | 0 => fun _ => 0
  | i + 1 => if code i < 20000 then upd (evF na code i) (hts code i) (if code i < 10000 then code i else na (code i - 10000).toNatClampNeg)
    else if code i = 20010 then upd (evF na code i) (hts code i - 1) (if evF na code i (hts code i - 1) = 0 then 1 else 0)
    else upd (evF na code i) (hts code i - 2) (opV (code i) (evF na code i (hts code i - 2)) (evF na code i (hts code i - 1)))
def okC (code : Nat → Int32) (L : Nat) : Prop := hts code L = 1 ∧ ∀ i, i < L → okE (code i) (hts code i)
def codeN (N : Row) (u : Nat) : Nat → Int32 := fun i => N (139 + 52 * u + i)
def lenN (N : Row) (u : Nat) : Nat := (N (138 + 52 * u)).toNatClampNeg
def VT (N : Row) (u : Nat) : Prop := 0 ≤ (N (138 + 52 * u)).toInt ∧ (N (138 + 52 * u)).toInt ≤ 50 ∧ (lenN N u = 0 ∨ okC (codeN N u) (lenN N u))
def na3 (a b c : Int32) : Nat → Int32 := fun j => if j = 0 then a else if j = 1 then b else c
def valT (N : Row) (u : Nat) (a b c : Int32) : Int32 := evF (na3 a b c) (codeN N u) (lenN N u) 0
def clampT (u : Nat) (v : Int32) : Int32 := if (0 : Int32) < (if v < (if u = 0 then 19 else 1) then v else (if u = 0 then 19 else 1)) then (if v < (if u = 0 then 19 else 1) then v else (if u = 0 then 19 else 1)) else 0
def gv (N : Row) (u : Nat) (a b c : Int32) : Int32 := clampT u (if N (138 + 52 * u) ≤ 0 then (if u = 0 then c else 0) else valT N u a b c)
def max0 (y : Int32) : Int32 := if 0 < y then y else 0
def depG (N : Row) (i : Nat) (y : Int32) : Int32 := gv N 0 (nI i) (max0 y) (N (9 + 3 * i))
def dep (N : Row) (i : Nat) (y : Int32) : Int32 := if max0 y < N (10 + 3 * i) then depG N i y else if N (11 + 3 * i) < max0 y then depG N i y else 0
abbrev hb (a : Int32) (i : Nat) : Prop := ((a >>> (nI i &&& 31)) &&& 1) = 1
def shw (N : Row) (bk : Int32) (i : Nat) : Int32 := dep N i (if hb (N 5) i then N 3 - bk else N 3)
def bel (N : Row) (k m : Int32) (i : Nat) : Int32 :=
  if k = 1 then shw N (N 4) i + (m - m / 3 * 3)
  else if k = 2 then dep N i (N 3)
  else if k = 3 then (if dep N i (N 3) < shw N (N 4) i then dep N i (N 3) else shw N (N 4) i)
  else if k = 4 then shw N (N 4) i + (m - m / 3 * 3) - 1
  else if k = 5 then (if dep N i (N 3) < shw N (N 4) i then shw N (N 4) i else dep N i (N 3))
  else if k = 6 then (if dep N i (N 3) < shw N (2 * N 4) i then dep N i (N 3) else shw N (2 * N 4) i)
  else shw N (N 4) i
def cellsN (N : Row) : Nat := (N 1).toNatClampNeg
def shipsN (N : Row) : Nat := (N 2).toNatClampNeg
/-- one SHIP's HOUR -/
def sailR (N : Row) (s : Nat) : Row :=
  if bel N (N (33 + 5 * s)) (N (34 + 5 * s)) (N (36 + 5 * s) - 1).toNatClampNeg < N (35 + 5 * s) then
    (if gv N 1 (N (35 + 5 * s)) (N (34 + 5 * s)) (N 0) = 1 ∧ N (36 + 5 * s) + 1 ≤ N 1 - 1 then upd N (36 + 5 * s) (N (36 + 5 * s) + 1) else N)
  else upd (upd N (36 + 5 * s) (N (36 + 5 * s) - 1)) (37 + 5 * s) (if N (35 + 5 * s) ≤ dep N (N (36 + 5 * s) - 1).toNatClampNeg (N 3) then 0 else 1)
def hourL (N : Row) : Nat → Row
  | 0 => N
  | k + 1 => if hourL N k (37 + 5 * k) = 0 ∧ ¬ hourL N k (36 + 5 * k) ≤ 0 then sailR (hourL N k) k else hourL N k
def hourR (N : Row) : Row := upd (hourL N (shipsN N)) 0 (N 0 + 1)
def hoursR (N : Row) : Nat → Row
  | 0 => N
  | k + 1 => hourR (hoursR N k)
def ChartR (c : xS) (N : Row) : Prop := c 45 0 = N 5 ∧ c 45 1 = N 1 ∧ ∀ j, j < cellsN N → c 46 j = dep N j (N 3) ∧ c 47 j = dep N j (N 3 - N 4) ∧ c 48 j = dep N j (N 3 - 2 * N 4)
def cacheOk (m : xS) : Prop := ∀ i t, i < 8 → t < 1000 → m 5 (1000 * i + t) = 0 ∨ m 5 (1000 * i + t) = 1 + dep (m 1) i (nI t)
/-- the codes of a TEXT as the class has them, out of the reference's -/
def ce (w : Int32) : Int32 :=
  if w = 20000 then -124 else if w = 20001 then -38 else if w = 20002 then -60 else if w = 20003 then -61 else if w = 20004 then -62
  else if w = 20005 then -43 else if w = 20006 then -45 else if w = 20007 then -42 else if w = 20008 then -47 else if w = 20009 then -37
  else if w = 20010 then -33 else if w = 10000 then -1 else if w = 10001 then -2 else if w = 10002 then -3 else w
def LawR (c : xS) (k : Nat) (N : Row) (u : Nat) : Prop := c k 0 = N (138 + 52 * u) ∧ ∀ j, j < lenN N u → c (k + 1) j = ce (codeN N u j)
def BayR (c : xS) (b : Nat) (N : Row) : Prop :=
  c b 0 = N 1 ∧ c b 1 = N 3 ∧ (∀ j, j < 8 → c (b + 1) j = N (9 + 3 * j) ∧ c (b + 2) j = N (10 + 3 * j) ∧ c (b + 3) j = N (11 + 3 * j)) ∧ LawR c (b + 4) N 0 ∧ LawR c (b + 7) N 1
def LensR (c : xS) (b : Nat) (N : Row) : Prop := c b 2 = N 4 ∧ c b 3 = N 5
def FleetR (c : xS) (f : Nat) (N : Row) : Prop :=
  c f 0 = N 2 ∧ c f 1 = N 0 ∧ ∀ j, j < 7 → c (f + 1) j = N (33 + 5 * j) ∧ c (f + 2) j = N (34 + 5 * j) ∧ c (f + 3) j = N (35 + 5 * j) ∧ c (f + 4) j = N (36 + 5 * j) ∧ c (f + 5) j = N (37 + 5 * j)
def DeskR (c : xS) (d : Nat) (N : Row) : Prop :=
  c d 0 = N 6 ∧ c d 1 = N 7 ∧ c d 2 = N 8 ∧ (∀ j, j < 50 → c (d + 1) j = N (68 + j)) ∧ ∀ j, j < 20 → c (d + 2) j = N (118 + j)
def VN (N : Row) : Prop :=
  (3 ≤ (N 1).toInt ∧ (N 1).toInt ≤ 8) ∧ (0 ≤ (N 2).toInt ∧ (N 2).toInt ≤ 7) ∧ (0 ≤ (N 3).toInt ∧ (N 3).toInt ≤ 999) ∧ (0 ≤ (N 4).toInt ∧ (N 4).toInt ≤ 99) ∧ (0 ≤ (N 5).toInt ∧ (N 5).toInt < 2 ^ (N 1).toNatClampNeg) ∧
  (0 ≤ (N 7).toInt ∧ (N 7).toInt ≤ 50) ∧ (0 ≤ (N 8).toInt ∧ (N 8).toInt ≤ 20) ∧
  (∀ j, j < 7 → (0 ≤ (N (33 + 5 * j)).toInt ∧ (N (33 + 5 * j)).toInt ≤ 6) ∧ (j < (N 2).toNatClampNeg → 0 ≤ (N (36 + 5 * j)).toInt ∧ (N (36 + 5 * j)).toInt < (N 1).toInt) ∧ (N (37 + 5 * j) = 0 ∨ N (37 + 5 * j) = 1)) ∧
  (∀ j, j < 50 → 0 ≤ (N (68 + j)).toInt ∧ (N (68 + j)).toInt ≤ 255) ∧ VT N 0 ∧ VT N 1
theorem hts_s (code : Nat → Int32) (i : Nat) : hts code (i + 1) = if code i < 20000 then hts code i + 1 else if code i = 20010 then hts code i else hts code i - 1 := by rw [hts]
theorem evF_s (na code : Nat → Int32) (i : Nat) : evF na code (i + 1) = if code i < 20000 then upd (evF na code i) (hts code i) (if code i < 10000 then code i else na (code i - 10000).toNatClampNeg)
    else if code i = 20010 then upd (evF na code i) (hts code i - 1) (if evF na code i (hts code i - 1) = 0 then 1 else 0)
    else upd (evF na code i) (hts code i - 2) (opV (code i) (evF na code i (hts code i - 2)) (evF na code i (hts code i - 1))) := by rw [evF]
