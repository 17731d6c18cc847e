/-! ===== what the document's words come to, over the row 'now' of the reference ===== -/
abbrev Row : Type := Nat → Int32
def opV (w a b : Int32) : Int32 :=
  if w = 20000 then (if a = 0 then (if b = 0 then 0 else 1) else 1)
  else if w = 20001 then (if a = 0 then 0 else (if b = 0 then 0 else 1))
  else if w = 20002 then (if b ≤ a then 0 else 1)
  else if w = 20003 then (if a = b then 1 else 0)
  else if w = 20004 then (if a ≤ b then 0 else 1)
  else if w = 20005 then a + b
  else if w = 20006 then a - b
  else if w = 20007 then a * b
  else if w = 20008 then (if b = 0 then 0 else a / b)
  else (if b = 0 then 0 else a - a / b * b)
/-- an entry that joins two -/
def binW (w : Int32) : Prop := w = 20000 ∨ w = 20001 ∨ w = 20002 ∨ w = 20003 ∨ w = 20004 ∨ w = 20005 ∨ w = 20006 ∨ w = 20007 ∨ w = 20008 ∨ w = 20009
def nameW (w : Int32) : Prop := w = 10000 ∨ w = 10001 ∨ w = 10002
def numW (w : Int32) : Prop := 0 ≤ w.toInt ∧ w.toInt < 10000
/-- how high the pile stands before entry i -/
def hts (code : Nat → Int32) : Nat → Nat
  | 0 => 0
  | i + 1 => if code i < 20000 then hts code i + 1 else if code i = 20010 then hts code i else hts code i - 1
def okE (w : Int32) (h : Nat) : Prop := numW w ∨ nameW w ∨ (w = 20010 ∧ 1 ≤ h) ∨ (binW w ∧ 2 ≤ h)
/-- the pile before entry i -/
def evF (na code : Nat → Int32) : Nat → Nat → Int32
  | 0 => fun _ => 0
  | i + 1 => if code i < 20000 then upd (evF na code i) (hts code i) (if code i < 10000 then code i else na (code i - 10000).toNatClampNeg)
    else if code i = 20010 then upd (evF na code i) (hts code i - 1) (if evF na code i (hts code i - 1) = 0 then 1 else 0)
    else upd (evF na code i) (hts code i - 2) (opV (code i) (evF na code i (hts code i - 2)) (evF na code i (hts code i - 1)))
def okC (code : Nat → Int32) (L : Nat) : Prop := hts code L = 1 ∧ ∀ i, i < L → okE (code i) (hts code i)
def codeN (N : Row) (u : Nat) : Nat → Int32 := fun i => N (139 + 52 * u + i)
def lenN (N : Row) (u : Nat) : Nat := (N (138 + 52 * u)).toNatClampNeg
def VT (N : Row) (u : Nat) : Prop := 0 ≤ (N (138 + 52 * u)).toInt ∧ (N (138 + 52 * u)).toInt ≤ 50 ∧ (lenN N u = 0 ∨ okC (codeN N u) (lenN N u))
def na3 (a b c : Int32) : Nat → Int32 := fun j => if j = 0 then a else if j = 1 then b else c
def valT (N : Row) (u : Nat) (a b c : Int32) : Int32 := evF (na3 a b c) (codeN N u) (lenN N u) 0
def clampT (u : Nat) (v : Int32) : Int32 := if (0 : Int32) < (if v < (if u = 0 then 19 else 1) then v else (if u = 0 then 19 else 1)) then (if v < (if u = 0 then 19 else 1) then v else (if u = 0 then 19 else 1)) else 0
def gv (N : Row) (u : Nat) (a b c : Int32) : Int32 := clampT u (if N (138 + 52 * u) ≤ 0 then (if u = 0 then c else 0) else valT N u a b c)
def max0 (y : Int32) : Int32 := if 0 < y then y else 0
def dep (N : Row) (i : Nat) (y : Int32) : Int32 := if max0 y < N (10 + 3 * i) then 0 else if N (11 + 3 * i) < max0 y then 0 else gv N 0 (nI i) (max0 y) (N (9 + 3 * i))
/-- the codes of a TEXT as the class has them, out of the reference's -/
def ce (w : Int32) : Int32 :=
  if w = 20000 then -124 else if w = 20001 then -38 else if w = 20002 then -60 else if w = 20003 then -61 else if w = 20004 then -62
  else if w = 20005 then -43 else if w = 20006 then -45 else if w = 20007 then -42 else if w = 20008 then -47 else if w = 20009 then -37
  else if w = 20010 then -33 else if w = 10000 then -1 else if w = 10001 then -2 else if w = 10002 then -3 else w
def LawR (c : xS) (k : Nat) (N : Row) (u : Nat) : Prop := c k 0 = N (138 + 52 * u) ∧ ∀ j, j < lenN N u → c (k + 1) j = ce (codeN N u j)
def BayR (c : xS) (b : Nat) (N : Row) : Prop :=
  c b 0 = N 1 ∧ c b 1 = N 3 ∧ (∀ j, j < 8 → c (b + 1) j = N (9 + 3 * j) ∧ c (b + 2) j = N (10 + 3 * j) ∧ c (b + 3) j = N (11 + 3 * j)) ∧ LawR c (b + 4) N 0 ∧ LawR c (b + 7) N 1
def LensR (c : xS) (b : Nat) (N : Row) : Prop := c b 2 = N 4 ∧ c b 3 = N 5
def FleetR (c : xS) (f : Nat) (N : Row) : Prop :=
  c f 0 = N 2 ∧ c f 1 = N 0 ∧ ∀ j, j < 7 → c (f + 1) j = N (33 + 5 * j) ∧ c (f + 2) j = N (34 + 5 * j) ∧ c (f + 3) j = N (35 + 5 * j) ∧ c (f + 4) j = N (36 + 5 * j) ∧ c (f + 5) j = N (37 + 5 * j)
def DeskR (c : xS) (d : Nat) (N : Row) : Prop :=
  c d 0 = N 6 ∧ c d 1 = N 7 ∧ c d 2 = N 8 ∧ (∀ j, j < 50 → c (d + 1) j = N (68 + j)) ∧ ∀ j, j < 20 → c (d + 2) j = N (118 + j)
def VN (N : Row) : Prop :=
  (3 ≤ (N 1).toInt ∧ (N 1).toInt ≤ 8) ∧ (0 ≤ (N 2).toInt ∧ (N 2).toInt ≤ 7) ∧ (0 ≤ (N 3).toInt ∧ (N 3).toInt ≤ 999) ∧ (0 ≤ (N 4).toInt ∧ (N 4).toInt ≤ 99) ∧ (0 ≤ (N 5).toInt ∧ (N 5).toInt < 2 ^ (N 1).toNatClampNeg) ∧
  (0 ≤ (N 7).toInt ∧ (N 7).toInt ≤ 50) ∧ (0 ≤ (N 8).toInt ∧ (N 8).toInt ≤ 20) ∧
  (∀ j, j < 7 → (0 ≤ (N (33 + 5 * j)).toInt ∧ (N (33 + 5 * j)).toInt ≤ 6) ∧ (j < (N 2).toNatClampNeg → 0 ≤ (N (36 + 5 * j)).toInt ∧ (N (36 + 5 * j)).toInt < (N 1).toInt) ∧ (N (37 + 5 * j) = 0 ∨ N (37 + 5 * j) = 1)) ∧
  (∀ j, j < 50 → 0 ≤ (N (68 + j)).toInt ∧ (N (68 + j)).toInt ≤ 255) ∧ VT N 0 ∧ VT N 1
theorem hts_s (code : Nat → Int32) (i : Nat) : hts code (i + 1) = if code i < 20000 then hts code i + 1 else if code i = 20010 then hts code i else hts code i - 1 := by rw [hts]
theorem evF_s (na code : Nat → Int32) (i : Nat) : evF na code (i + 1) = if code i < 20000 then upd (evF na code i) (hts code i) (if code i < 10000 then code i else na (code i - 10000).toNatClampNeg)
    else if code i = 20010 then upd (evF na code i) (hts code i - 1) (if evF na code i (hts code i - 1) = 0 then 1 else 0)
    else upd (evF na code i) (hts code i - 2) (opV (code i) (evF na code i (hts code i - 2)) (evF na code i (hts code i - 1))) := by rw [evF]
