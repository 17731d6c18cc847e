theorem say10 (rc : Int32 → Int32 → Int32 → Int32 → xS → Option (Int32 × xS)) (x e : Int32) (c : xS) : sX7_say rc 10 x e c = some (x + c 54 3, c) := by
  unfold sX7_say
  rw [if_pos rfl]
theorem say11 (rc : Int32 → Int32 → Int32 → Int32 → xS → Option (Int32 × xS)) (x e : Int32) (c : xS) : sX7_say rc 11 x e c = xbind (sX7_own rc 0 x e c) (fun r s => some (r * 2, s)) := by
  unfold sX7_say
  rw [if_neg (by decide), if_pos rfl]
theorem say12 (rc : Int32 → Int32 → Int32 → Int32 → xS → Option (Int32 × xS)) (x e : Int32) (c : xS) : sX7_say rc 12 x e c = some (x - c 54 4, c) := by
  unfold sX7_say
  rw [if_neg (by decide), if_neg (by decide), if_pos rfl]
theorem say13 (rc : Int32 → Int32 → Int32 → Int32 → xS → Option (Int32 × xS)) (x e : Int32) (c : xS) : sX7_say rc 13 x e c = xbind (sX7_own rc 1 x e c) (fun r s => xbind (sX7_own rc 2 x e s) (fun q t => some (r ^^^ q, t))) := by
  unfold sX7_say
  rw [if_neg (by decide), if_neg (by decide), if_neg (by decide), if_pos rfl]
theorem say20 (rc : Int32 → Int32 → Int32 → Int32 → xS → Option (Int32 × xS)) (x e : Int32) (c : xS) : sX7_say rc 20 x e c = xbind (sX7_above rc 20 0 x e c) (fun r s => some (r * 3, s)) := by
  unfold sX7_say
  rw [if_neg (by decide), if_neg (by decide), if_neg (by decide), if_neg (by decide), if_pos rfl]
theorem say30 (rc : Int32 → Int32 → Int32 → Int32 → xS → Option (Int32 × xS)) (x e : Int32) (c : xS) : sX7_say rc 30 x e c = xbind (sX7_above rc 30 1 x e c) (fun r s => xbind (sX7_own rc 2 1 e s) (fun q t => some (r - q, t))) := by
  unfold sX7_say
  rw [if_neg (by decide), if_neg (by decide), if_neg (by decide), if_neg (by decide), if_neg (by decide), if_pos rfl]
theorem say40 (rc : Int32 → Int32 → Int32 → Int32 → xS → Option (Int32 × xS)) (x e : Int32) (c : xS) : sX7_say rc 40 x e c = xbind (sX7_above rc 40 2 x e c) (fun r s => some (-r, s)) := by
  unfold sX7_say
  rw [if_neg (by decide), if_neg (by decide), if_neg (by decide), if_neg (by decide), if_neg (by decide), if_neg (by decide), if_pos rfl]
theorem say50 (rc : Int32 → Int32 → Int32 → Int32 → xS → Option (Int32 × xS)) (x e : Int32) (c : xS) : sX7_say rc 50 x e c = xbind (sX7_above rc 50 3 x e c) (fun r s => xbind (sX7_own rc 0 2 e s) (fun q t => some (r - q, t))) := by
  unfold sX7_say
  rw [if_neg (by decide), if_neg (by decide), if_neg (by decide), if_neg (by decide), if_neg (by decide), if_neg (by decide), if_neg (by decide), if_pos rfl]
theorem say60 (rc : Int32 → Int32 → Int32 → Int32 → xS → Option (Int32 × xS)) (x e : Int32) (c : xS) : sX7_say rc 60 x e c = xbind (sX7_above rc 60 1 (x + 1) e c) (fun r s => some (r, s)) := by
  unfold sX7_say
  rw [if_neg (by decide), if_neg (by decide), if_neg (by decide), if_neg (by decide), if_neg (by decide), if_neg (by decide), if_neg (by decide), if_neg (by decide), if_pos rfl]
theorem say70 (rc : Int32 → Int32 → Int32 → Int32 → xS → Option (Int32 × xS)) (x e : Int32) (c : xS) : sX7_say rc 70 x e c = xbind (sX7_above rc 70 2 x e c) (fun r s => some (r ^^^ s 54 3, s)) := by
  unfold sX7_say
  rw [if_neg (by decide), if_neg (by decide), if_neg (by decide), if_neg (by decide), if_neg (by decide), if_neg (by decide), if_neg (by decide), if_neg (by decide), if_neg (by decide), if_pos rfl]
theorem say71 (rc : Int32 → Int32 → Int32 → Int32 → xS → Option (Int32 × xS)) (x e : Int32) (c : xS) : sX7_say rc 71 x e c = xbind (sX7_own rc 1 x e c) (fun r s => xbind (sX7_above rc 71 3 x e s) (fun q t => some (r - q, t))) := by
  unfold sX7_say
  rw [if_neg (by decide), if_neg (by decide), if_neg (by decide), if_neg (by decide), if_neg (by decide), if_neg (by decide), if_neg (by decide), if_neg (by decide), if_neg (by decide), if_neg (by decide)]
def sailsV (K : Nat) (n x : Int32) : Int32 := if K = 1 ∨ K = 4 then (x + n) * 3 else x + n
def sailsT (K : Nat) : List Int32 := if K = 1 ∨ K = 4 then [20, 10] else [10]
def soundsV (K : Nat) (n w x : Int32) : Int32 := if K = 6 then (-(x - w)) ^^^ n else if K = 3 then -(x - w) else x - w
def soundsT (K : Nat) : List Int32 := if K = 6 then [70, 40, 12] else if K = 3 then [40, 12] else [12]
def steersV (K : Nat) (n w x : Int32) : Int32 := if K = 5 then sailsV K n (x + 1) * 2 - soundsV K n w 1 else if K = 2 then sailsV K n x * 2 - soundsV K n w 1 else sailsV K n x * 2
def steersT (K : Nat) : List Int32 := if K = 5 then [60, 30, 11] ++ sailsT K ++ soundsT K else if K = 2 then [30, 11] ++ sailsT K ++ soundsT K else [11] ++ sailsT K
def plainV (K : Nat) (n w x : Int32) : Int32 := steersV K n w x ^^^ soundsV K n w x
def plainT (K : Nat) : List Int32 := [13] ++ steersT K ++ soundsT K
def logsV (K : Nat) (n w x : Int32) : Int32 := if K = 6 then steersV K n w x - plainV K n w x else if K = 4 then plainV K n w x - sailsV K n 2 else plainV K n w x
def logsT (K : Nat) : List Int32 := if K = 6 then [71] ++ steersT K ++ plainT K else if K = 4 then [50] ++ plainT K ++ sailsT K else plainT K
theorem bd0 : ∀ K, K < 7 → bodT (resA K 0) 0 = if K = 1 ∨ K = 4 then 20 else 10 := by decide +kernel
theorem bd1 : ∀ K, K < 7 → bodT (resA K 1) 1 = if K = 5 then 60 else if K = 2 then 30 else 11 := by decide +kernel
theorem bd2 : ∀ K, K < 7 → bodT (resA K 2) 2 = if K = 6 then 70 else if K = 3 then 40 else 12 := by decide +kernel
theorem bd3 : ∀ K, K < 7 → bodT (resA K 3) 3 = if K = 6 then 71 else if K = 4 then 50 else 13 := by decide +kernel
section
variable {K : Nat} {n w : Int32}
theorem c_sl10 {c : xS} (h : TrK K n w c) {a e : Nat} (d : Nat) (ha : a < 7) (hb : ¬ (a = 1 ∨ a = 4)) (he : e ≤ 20) (x : Int32) : sX7_sayFrom (d + 1) (nI a) 0 x (nI e) c = some (x + n, pushesC c [10]) := by
  have q := say1 h (a := a) (v := 0) d ha (by omega) he x
  rw [bd0 a ha, if_neg hb] at q
  rw [show sX7_sayFrom (d + 1) (nI a) 0 x (nI e) c = sX7_sayFrom (d + 1) (nI a) (nI 0) x (nI e) c from rfl, q, show (nI 10 : Int32) = 10 from rfl, say10, xb_s, (h.push 10).2.1]
  rfl
theorem c_sails {c : xS} (h : TrK K n w c) {e : Nat} (d : Nat) (hK : K < 7) (he : e + 1 ≤ 20) (x : Int32) : sX7_sayFrom (d + 2) (nI K) 0 x (nI e) c = some (sailsV K n x, pushesC c (sailsT K)) := by
  unfold sailsV sailsT
  by_cases hb : K = 1 ∨ K = 4
  · have q := say1 h (a := K) (v := 0) (d + 1) hK (by omega) (by omega : e ≤ 20) x
    rw [bd0 K hK, if_pos hb] at q
    rw [show sX7_sayFrom (d + 2) (nI K) 0 x (nI e) c = sX7_sayFrom (d + 1 + 1) (nI K) (nI 0) x (nI e) c from rfl, q, show (nI 20 : Int32) = 20 from rfl, say20, aboveS _ 1 (by decide) (by omega)]
    rw [show abv 1 = 0 from rfl, c_sl10 (h.push 20) d (by omega) (by omega) he, xb_s, xb_s, xb_s, if_pos hb, if_pos hb]
    rfl
  · rw [c_sl10 h (d + 1) hK hb (by omega), if_neg hb, if_neg hb]
theorem c_sd12 {c : xS} (h : TrK K n w c) {a e : Nat} (d : Nat) (ha : a < 7) (hb : ¬ a = 6 ∧ ¬ a = 3) (he : e ≤ 20) (x : Int32) : sX7_sayFrom (d + 1) (nI a) 2 x (nI e) c = some (x - w, pushesC c [12]) := by
  have q := say1 h (a := a) (v := 2) d ha (by omega) he x
  rw [bd2 a ha, if_neg hb.1, if_neg hb.2] at q
  rw [show sX7_sayFrom (d + 1) (nI a) 2 x (nI e) c = sX7_sayFrom (d + 1) (nI a) (nI 2) x (nI e) c from rfl, q, show (nI 12 : Int32) = 12 from rfl, say12, xb_s, (h.push 12).2.2.1]
  rfl
theorem c_sd40 {c : xS} (h : TrK K n w c) {e : Nat} (d : Nat) (he : e + 1 ≤ 20) (x : Int32) : sX7_sayFrom (d + 2) (nI 3) 2 x (nI e) c = some (-(x - w), pushesC c [40, 12]) := by
  have q := say1 h (a := 3) (v := 2) (d + 1) (by omega) (by omega) (by omega : e ≤ 20) x
  rw [bd2 3 (by omega), if_neg (by omega), if_pos rfl] at q
  rw [show sX7_sayFrom (d + 2) (nI 3) 2 x (nI e) c = sX7_sayFrom (d + 1 + 1) (nI 3) (nI 2) x (nI e) c from rfl, q, show (nI 40 : Int32) = 40 from rfl, say40, aboveS _ 3 (by decide) (by omega)]
  rw [show abv 3 = 0 from rfl, c_sd12 (h.push 40) d (by omega) (by omega) he, xb_s, xb_s, xb_s]
  rfl
theorem c_sounds {c : xS} (h : TrK K n w c) {e : Nat} (d : Nat) (hK : K < 7) (he : e + 2 ≤ 20) (x : Int32) : sX7_sayFrom (d + 3) (nI K) 2 x (nI e) c = some (soundsV K n w x, pushesC c (soundsT K)) := by
  unfold soundsV soundsT
  by_cases h6 : K = 6
  · have q := say1 h (a := K) (v := 2) (d + 2) hK (by omega) (by omega : e ≤ 20) x
    rw [bd2 K hK, if_pos h6] at q
    rw [show sX7_sayFrom (d + 3) (nI K) 2 x (nI e) c = sX7_sayFrom (d + 2 + 1) (nI K) (nI 2) x (nI e) c from rfl, q, show (nI 70 : Int32) = 70 from rfl, say70, aboveS _ 6 (by decide) (by omega)]
    rw [show abv 6 = 3 from rfl, c_sd40 (h.push 70) d (by omega), xb_s, xb_s, xb_s, if_pos h6, if_pos h6, ((h.push 70).pushes [40, 12]).2.1]
    rfl
  · rw [if_neg h6, if_neg h6]
    by_cases h3 : K = 3
    · rw [if_pos h3, if_pos h3]
      subst h3
      exact c_sd40 h (d + 1) (by omega) x
    · rw [if_neg h3, if_neg h3]
      exact c_sd12 h (d + 2) hK ⟨h6, h3⟩ (by omega) x
theorem c_st11 {c : xS} (h : TrK K n w c) {a e : Nat} (d : Nat) (hK : K < 7) (ha : a < 7) (hb : ¬ a = 5 ∧ ¬ a = 2) (he : e + 2 ≤ 20) (x : Int32) : sX7_sayFrom (d + 3) (nI a) 1 x (nI e) c = some (sailsV K n x * 2, pushesC c ([11] ++ sailsT K)) := by
  have q := say1 h (a := a) (v := 1) (d + 2) ha (by omega) (by omega : e ≤ 20) x
  rw [bd1 a ha, if_neg hb.1, if_neg hb.2] at q
  rw [show sX7_sayFrom (d + 3) (nI a) 1 x (nI e) c = sX7_sayFrom (d + 2 + 1) (nI a) (nI 1) x (nI e) c from rfl, q, show (nI 11 : Int32) = 11 from rfl, say11, ownS (h.push 11), c_sails (h.push 11) d hK (by omega), xb_s, xb_s, xb_s]
  rfl
theorem c_st30 {c : xS} (h : TrK K n w c) {e : Nat} (d : Nat) (hK : K < 7) (he : e + 3 ≤ 20) (x : Int32) : sX7_sayFrom (d + 4) (nI 2) 1 x (nI e) c = some (sailsV K n x * 2 - soundsV K n w 1, pushesC c ([30, 11] ++ sailsT K ++ soundsT K)) := by
  have q := say1 h (a := 2) (v := 1) (d + 3) (by omega) (by omega) (by omega : e ≤ 20) x
  rw [bd1 2 (by omega), if_neg (by omega), if_pos rfl] at q
  rw [show sX7_sayFrom (d + 4) (nI 2) 1 x (nI e) c = sX7_sayFrom (d + 3 + 1) (nI 2) (nI 1) x (nI e) c from rfl, q, show (nI 30 : Int32) = 30 from rfl, say30, aboveS _ 2 (by decide) (by omega)]
  have h2 := (h.push 30).pushes ([11] ++ sailsT K)
  rw [show abv 2 = 0 from rfl, c_st11 (h.push 30) d hK (by omega) (by omega) (by omega), xb_s, xb_s, ownS h2, c_sounds h2 d hK (by omega), xb_s, xb_s, xb_s, pushesC_app c ([30, 11] ++ sailsT K)]
  rfl
theorem c_steers {c : xS} (h : TrK K n w c) {e : Nat} (d : Nat) (hK : K < 7) (he : e + 4 ≤ 20) (x : Int32) : sX7_sayFrom (d + 5) (nI K) 1 x (nI e) c = some (steersV K n w x, pushesC c (steersT K)) := by
  unfold steersV steersT
  by_cases h5 : K = 5
  · have q := say1 h (a := K) (v := 1) (d + 4) hK (by omega) (by omega : e ≤ 20) x
    rw [bd1 K hK, if_pos h5] at q
    rw [show sX7_sayFrom (d + 5) (nI K) 1 x (nI e) c = sX7_sayFrom (d + 4 + 1) (nI K) (nI 1) x (nI e) c from rfl, q, show (nI 60 : Int32) = 60 from rfl, say60, aboveS _ 5 (by decide) (by omega)]
    rw [show abv 5 = 2 from rfl, c_st30 (h.push 60) d hK (by omega), xb_s, xb_s, xb_s, if_pos h5, if_pos h5]
    rfl
  · rw [if_neg h5, if_neg h5]
    by_cases h2 : K = 2
    · rw [if_pos h2, if_pos h2]
      have z := c_st30 h (d + 1) hK (e := e) (by omega) x
      rw [← h2] at z
      rw [show d + 5 = d + 1 + 4 by omega, z]
    · rw [if_neg h2, if_neg h2]
      exact c_st11 h (d + 2) hK hK ⟨h5, h2⟩ (by omega) x
theorem c_lg13 {c : xS} (h : TrK K n w c) {a e : Nat} (d : Nat) (hK : K < 7) (ha : a < 7) (hb : ¬ a = 6 ∧ ¬ a = 4) (he : e + 5 ≤ 20) (x : Int32) : sX7_sayFrom (d + 6) (nI a) 3 x (nI e) c = some (plainV K n w x, pushesC c (plainT K)) := by
  have q := say1 h (a := a) (v := 3) (d + 5) ha (by omega) (by omega : e ≤ 20) x
  rw [bd3 a ha, if_neg hb.1, if_neg hb.2] at q
  have h2 := (h.push 13).pushes (steersT K)
  rw [show sX7_sayFrom (d + 6) (nI a) 3 x (nI e) c = sX7_sayFrom (d + 5 + 1) (nI a) (nI 3) x (nI e) c from rfl, q, show (nI 13 : Int32) = 13 from rfl, say13, ownS (h.push 13), c_steers (h.push 13) d hK (by omega), xb_s, xb_s, ownS h2, show d + 5 = d + 2 + 3 by omega, c_sounds h2 (d + 2) hK (by omega), xb_s, xb_s, xb_s]
  unfold plainV plainT
  rw [pushesC_app c ([13] ++ steersT K)]
  rfl
theorem c_logs {c : xS} (h : TrK K n w c) {e : Nat} (d : Nat) (hK : K < 7) (he : e + 6 ≤ 20) (x : Int32) : sX7_sayFrom (d + 7) (nI K) 3 x (nI e) c = some (logsV K n w x, pushesC c (logsT K)) := by
  unfold logsV logsT
  by_cases h6 : K = 6
  · have q := say1 h (a := K) (v := 3) (d + 6) hK (by omega) (by omega : e ≤ 20) x
    rw [bd3 K hK, if_pos h6] at q
    have h2 := (h.push 71).pushes (steersT K)
    rw [show sX7_sayFrom (d + 7) (nI K) 3 x (nI e) c = sX7_sayFrom (d + 6 + 1) (nI K) (nI 3) x (nI e) c from rfl, q, show (nI 71 : Int32) = 71 from rfl, say71, ownS (h.push 71), show d + 6 = d + 1 + 5 by omega, c_steers (h.push 71) (d + 1) hK (by omega), xb_s, xb_s, aboveS _ 6 (by decide) (by omega), show abv 6 = 3 from rfl, show d + 1 + 5 = d + 6 by omega, c_lg13 h2 d hK (by omega) (by omega) (by omega), xb_s, xb_s, xb_s, if_pos h6, if_pos h6, pushesC_app c ([71] ++ steersT K)]
    rfl
  · rw [if_neg h6, if_neg h6]
    by_cases h4 : K = 4
    · have q := say1 h (a := K) (v := 3) (d + 6) hK (by omega) (by omega : e ≤ 20) x
      rw [bd3 K hK, if_neg h6, if_pos h4] at q
      have h2 := (h.push 50).pushes (plainT K)
      rw [show sX7_sayFrom (d + 7) (nI K) 3 x (nI e) c = sX7_sayFrom (d + 6 + 1) (nI K) (nI 3) x (nI e) c from rfl, q, show (nI 50 : Int32) = 50 from rfl, say50, aboveS _ 4 (by decide) (by omega), show abv 4 = 1 from rfl, c_lg13 (h.push 50) d hK (by omega) (by omega) (by omega), xb_s, xb_s, ownS h2, show d + 6 = d + 4 + 2 by omega, c_sails h2 (d + 4) hK (by omega), xb_s, xb_s, xb_s, if_pos h4, if_pos h4, pushesC_app c ([50] ++ plainT K)]
      rfl
    · rw [if_neg h4, if_neg h4]
      exact c_lg13 h (d + 1) hK hK ⟨h6, h4⟩ (by omega) x
end
