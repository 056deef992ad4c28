/-! The class's state as a function of the reference's (S), of the row causes that its machines know (E) and of rowsTurn (rt) -/
def cX (S : sT) (rt : Int) : Nat → Int
  | 0 => S 26 0 0 | 1 => S 25 0 0 | 2 => S 5 0 0 - 1 | 3 => S 5 0 0 | 4 => S 20 0 0 - 1 | 5 => S 20 0 0 | 6 => rt | 7 => 0 | 8 => S 30 0 0 | 9 => S 23 0 0 | 10 => S 24 0 0 | _ => 0
def cM (S : sT) (E : Nat → Int) (i : Nat) : Nat → Int
  | 0 => (i : Int) | 1 => S 0 i 0 | 2 => (i : Int) - 1 | 3 => S 1 i 0 | 4 => (i : Int) | 5 => bZ (¬ S 2 i 0 = -1) | 6 => if S 15 i 0 = 0 then -1 else 4 * (i : Int) | 7 => if S 15 i 0 = 0 then -1 else 4 * (i : Int) + S 15 i 0 - 1
  | 8 => S 15 i 0 | 9 => E i | 10 => S 8 i 0 | 11 => bZ (¬ S 6 i 0 = 0) | 12 => if S 6 i 0 = 0 then 0 else S 7 i 0 | 13 => bZ (S 6 i 0 = 2) | 14 => S 22 i 0 | 15 => (i : Int) | _ => 0
def cB (S : sT) (i : Nat) : Nat → Int
  | 0 => S 3 i 0 | 1 => S 4 i 0 | 2 => (i : Int) | 3 => S 10 i 0 | 4 => S 11 i 0 | _ => 0
def cF (S : sT) (x : Nat) : Nat → Int
  | 0 => S 12 (x / 4) (x % 4) | 1 => S 13 (x / 4) (x % 4) | 2 => S 14 (x / 4) (x % 4) | 3 => if ((x % 4 : Nat) : Int) + 1 < S 15 (x / 4) 0 then (x : Int) + 1 else -1 | _ => 0
def cR (S : sT) (k : Nat) : Nat → Int
  | 0 => S 16 k 0 | 1 => S 17 k 0 | 2 => S 18 k 0 | 3 => S 19 k 0 | 4 => (k : Int) - 1 | _ => 0
def cC (S : sT) (E : Nat → Int) (rt : Int) : sT
  | 0, i, f => if i = 0 then cX S rt f else 0
  | 1, i, f => if i = 0 then S (27 + f % 3) (f / 3) 0 else 0
  | 2, i, f => cM S E i f
  | 3, i, f => cB S i f
  | 4, i, f => S 9 i f
  | 5, i, f => S 21 i f
  | 6, i, f => cF S i f
  | 7, i, f => cR S i f
  | _, _, _ => 0
def cAl (S : sT) : Nat → Nat → Prop
  | 0, i => i = 0
  | 1, i => i = 0
  | 2, i => (i : Int) < S 5 0 0
  | 3, i => (i : Int) < S 5 0 0
  | 4, i => (i : Int) < S 5 0 0
  | 5, i => (i : Int) < S 5 0 0
  | 6, i => ((i / 4 : Nat) : Int) < S 5 0 0 ∧ ((i % 4 : Nat) : Int) < S 15 (i / 4) 0
  | 7, i => (i : Int) < S 20 0 0
  | _, _ => False
theorem cC_25 (S : sT) (E : Nat → Int) (rt : Int) (z : Int) : cC (su S 25 0 0 z) E rt = su (cC S E rt) 0 0 1 z := by
  funext k i f
  rcases k with _ | _ | _ | _ | _ | _ | _ | _ | k
  all_goals (by_cases hi : i = 0)
  all_goals first | rfl | (simp [cC, su, *]; done) | (simp [cC, su, *]; omega) | (rcases f with _ | _ | _ | _ | _ | _ | _ | _ | _ | _ | _ | _ | _ | _ | _ | _ | f <;> first | rfl | (simp [cC, cX, cM, cB, cF, cR, su, va_up, *]; done) | (simp [cC, cX, cM, cB, cF, cR, su, va_up, *]; omega))
theorem cC_26 (S : sT) (E : Nat → Int) (rt : Int) (z : Int) : cC (su S 26 0 0 z) E rt = su (cC S E rt) 0 0 0 z := by
  funext k i f
  rcases k with _ | _ | _ | _ | _ | _ | _ | _ | k
  all_goals (by_cases hi : i = 0)
  all_goals first | rfl | (simp [cC, su, *]; done) | (simp [cC, su, *]; omega) | (rcases f with _ | _ | _ | _ | _ | _ | _ | _ | _ | _ | _ | _ | _ | _ | _ | _ | f <;> first | rfl | (simp [cC, cX, cM, cB, cF, cR, su, va_up, *]; done) | (simp [cC, cX, cM, cB, cF, cR, su, va_up, *]; omega))
theorem cC_30 (S : sT) (E : Nat → Int) (rt : Int) (z : Int) : cC (su S 30 0 0 z) E rt = su (cC S E rt) 0 0 8 z := by
  funext k i f
  rcases k with _ | _ | _ | _ | _ | _ | _ | _ | k
  all_goals (by_cases hi : i = 0)
  all_goals first | rfl | (simp [cC, su, *]; done) | (simp [cC, su, *]; omega) | (rcases f with _ | _ | _ | _ | _ | _ | _ | _ | _ | _ | _ | _ | _ | _ | _ | _ | f <;> first | rfl | (simp [cC, cX, cM, cB, cF, cR, su, va_up, *]; done) | (simp [cC, cX, cM, cB, cF, cR, su, va_up, *]; omega))
theorem cC_23 (S : sT) (E : Nat → Int) (rt : Int) (z : Int) : cC (su S 23 0 0 z) E rt = su (cC S E rt) 0 0 9 z := by
  funext k i f
  rcases k with _ | _ | _ | _ | _ | _ | _ | _ | k
  all_goals (by_cases hi : i = 0)
  all_goals first | rfl | (simp [cC, su, *]; done) | (simp [cC, su, *]; omega) | (rcases f with _ | _ | _ | _ | _ | _ | _ | _ | _ | _ | _ | _ | _ | _ | _ | _ | f <;> first | rfl | (simp [cC, cX, cM, cB, cF, cR, su, va_up, *]; done) | (simp [cC, cX, cM, cB, cF, cR, su, va_up, *]; omega))
theorem cC_24 (S : sT) (E : Nat → Int) (rt : Int) (z : Int) : cC (su S 24 0 0 z) E rt = su (cC S E rt) 0 0 10 z := by
  funext k i f
  rcases k with _ | _ | _ | _ | _ | _ | _ | _ | k
  all_goals (by_cases hi : i = 0)
  all_goals first | rfl | (simp [cC, su, *]; done) | (simp [cC, su, *]; omega) | (rcases f with _ | _ | _ | _ | _ | _ | _ | _ | _ | _ | _ | _ | _ | _ | _ | _ | f <;> first | rfl | (simp [cC, cX, cM, cB, cF, cR, su, va_up, *]; done) | (simp [cC, cX, cM, cB, cF, cR, su, va_up, *]; omega))
theorem cC_31 (S : sT) (E : Nat → Int) (rt : Int) (z : Int) : cC (su S 31 0 0 z) E rt = cC S E rt := by
  funext k i f
  rcases k with _ | _ | _ | _ | _ | _ | _ | _ | k
  all_goals (by_cases hi : i = 0)
  all_goals first | rfl | (simp [cC, su, *]; done) | (simp [cC, su, *]; omega) | (rcases f with _ | _ | _ | _ | _ | _ | _ | _ | _ | _ | _ | _ | _ | _ | _ | _ | f <;> first | rfl | (simp [cC, cX, cM, cB, cF, cR, su, va_up, *]; done) | (simp [cC, cX, cM, cB, cF, cR, su, va_up, *]; omega))
theorem cC_rt (S : sT) (E : Nat → Int) (rt : Int) (z : Int) : cC S E z = su (cC S E rt) 0 0 6 z := by
  funext k i f
  rcases k with _ | _ | _ | _ | _ | _ | _ | _ | k
  all_goals (by_cases hi : i = 0)
  all_goals first | rfl | (simp [cC, su, *]; done) | (simp [cC, su, *]; omega) | (rcases f with _ | _ | _ | _ | _ | _ | _ | _ | _ | _ | _ | _ | _ | _ | _ | _ | f <;> first | rfl | (simp [cC, cX, cM, cB, cF, cR, su, va_up, *]; done) | (simp [cC, cX, cM, cB, cF, cR, su, va_up, *]; omega))
theorem cC_E (S : sT) (E : Nat → Int) (rt : Int) (m : Nat) (z : Int) : cC S (va_up E m z) rt = su (cC S E rt) 2 m 9 z := by
  funext k i f
  rcases k with _ | _ | _ | _ | _ | _ | _ | _ | k
  all_goals (by_cases hi : i = m)
  all_goals first | rfl | (simp [cC, su, *]; done) | (simp [cC, su, *]; omega) | (rcases f with _ | _ | _ | _ | _ | _ | _ | _ | _ | _ | _ | _ | _ | _ | _ | _ | f <;> first | rfl | (simp [cC, cX, cM, cB, cF, cR, su, va_up, *]; done) | (simp [cC, cX, cM, cB, cF, cR, su, va_up, *]; omega))
theorem cC_8 (S : sT) (E : Nat → Int) (rt : Int) (m : Nat) (z : Int) : cC (su S 8 m 0 z) E rt = su (cC S E rt) 2 m 10 z := by
  funext k i f
  rcases k with _ | _ | _ | _ | _ | _ | _ | _ | k
  all_goals (by_cases hi : i = m)
  all_goals first | rfl | (simp [cC, su, *]; done) | (simp [cC, su, *]; omega) | (rcases f with _ | _ | _ | _ | _ | _ | _ | _ | _ | _ | _ | _ | _ | _ | _ | _ | f <;> first | rfl | (simp [cC, cX, cM, cB, cF, cR, su, va_up, *]; done) | (simp [cC, cX, cM, cB, cF, cR, su, va_up, *]; omega))
theorem cC_22 (S : sT) (E : Nat → Int) (rt : Int) (m : Nat) (z : Int) : cC (su S 22 m 0 z) E rt = su (cC S E rt) 2 m 14 z := by
  funext k i f
  rcases k with _ | _ | _ | _ | _ | _ | _ | _ | k
  all_goals (by_cases hi : i = m)
  all_goals first | rfl | (simp [cC, su, *]; done) | (simp [cC, su, *]; omega) | (rcases f with _ | _ | _ | _ | _ | _ | _ | _ | _ | _ | _ | _ | _ | _ | _ | _ | f <;> first | rfl | (simp [cC, cX, cM, cB, cF, cR, su, va_up, *]; done) | (simp [cC, cX, cM, cB, cF, cR, su, va_up, *]; omega))
theorem cC_6 (S : sT) (E : Nat → Int) (rt : Int) (m : Nat) (z : Int) : cC (su S 6 m 0 z) E rt = su (su (su (cC S E rt) 2 m 11 (bZ (¬ z = 0))) 2 m 13 (bZ (z = 2))) 2 m 12 (if z = 0 then 0 else S 7 m 0) := by
  funext k i f
  rcases k with _ | _ | _ | _ | _ | _ | _ | _ | k
  all_goals (by_cases hi : i = m)
  all_goals first | rfl | (simp [cC, su, *]; done) | (simp [cC, su, *]; omega) | (rcases f with _ | _ | _ | _ | _ | _ | _ | _ | _ | _ | _ | _ | _ | _ | _ | _ | f <;> first | rfl | (simp [cC, cX, cM, cB, cF, cR, su, va_up, *]; done) | (simp [cC, cX, cM, cB, cF, cR, su, va_up, *]; omega))
theorem cC_7 (S : sT) (E : Nat → Int) (rt : Int) (m : Nat) (z : Int) : cC (su S 7 m 0 z) E rt = su (cC S E rt) 2 m 12 (if S 6 m 0 = 0 then 0 else z) := by
  funext k i f
  rcases k with _ | _ | _ | _ | _ | _ | _ | _ | k
  all_goals (by_cases hi : i = m)
  all_goals first | rfl | (simp [cC, su, *]; done) | (simp [cC, su, *]; omega) | (rcases f with _ | _ | _ | _ | _ | _ | _ | _ | _ | _ | _ | _ | _ | _ | _ | _ | f <;> first | rfl | (simp [cC, cX, cM, cB, cF, cR, su, va_up, *]; done) | (simp [cC, cX, cM, cB, cF, cR, su, va_up, *]; omega))
theorem cC_3 (S : sT) (E : Nat → Int) (rt : Int) (m : Nat) (z : Int) : cC (su S 3 m 0 z) E rt = su (cC S E rt) 3 m 0 z := by
  funext k i f
  rcases k with _ | _ | _ | _ | _ | _ | _ | _ | k
  all_goals (by_cases hi : i = m)
  all_goals first | rfl | (simp [cC, su, *]; done) | (simp [cC, su, *]; omega) | (rcases f with _ | _ | _ | _ | _ | _ | _ | _ | _ | _ | _ | _ | _ | _ | _ | _ | f <;> first | rfl | (simp [cC, cX, cM, cB, cF, cR, su, va_up, *]; done) | (simp [cC, cX, cM, cB, cF, cR, su, va_up, *]; omega))
theorem cC_4 (S : sT) (E : Nat → Int) (rt : Int) (m : Nat) (z : Int) : cC (su S 4 m 0 z) E rt = su (cC S E rt) 3 m 1 z := by
  funext k i f
  rcases k with _ | _ | _ | _ | _ | _ | _ | _ | k
  all_goals (by_cases hi : i = m)
  all_goals first | rfl | (simp [cC, su, *]; done) | (simp [cC, su, *]; omega) | (rcases f with _ | _ | _ | _ | _ | _ | _ | _ | _ | _ | _ | _ | _ | _ | _ | _ | f <;> first | rfl | (simp [cC, cX, cM, cB, cF, cR, su, va_up, *]; done) | (simp [cC, cX, cM, cB, cF, cR, su, va_up, *]; omega))
theorem cC_10 (S : sT) (E : Nat → Int) (rt : Int) (m : Nat) (z : Int) : cC (su S 10 m 0 z) E rt = su (cC S E rt) 3 m 3 z := by
  funext k i f
  rcases k with _ | _ | _ | _ | _ | _ | _ | _ | k
  all_goals (by_cases hi : i = m)
  all_goals first | rfl | (simp [cC, su, *]; done) | (simp [cC, su, *]; omega) | (rcases f with _ | _ | _ | _ | _ | _ | _ | _ | _ | _ | _ | _ | _ | _ | _ | _ | f <;> first | rfl | (simp [cC, cX, cM, cB, cF, cR, su, va_up, *]; done) | (simp [cC, cX, cM, cB, cF, cR, su, va_up, *]; omega))
theorem cC_11 (S : sT) (E : Nat → Int) (rt : Int) (m : Nat) (z : Int) : cC (su S 11 m 0 z) E rt = su (cC S E rt) 3 m 4 z := by
  funext k i f
  rcases k with _ | _ | _ | _ | _ | _ | _ | _ | k
  all_goals (by_cases hi : i = m)
  all_goals first | rfl | (simp [cC, su, *]; done) | (simp [cC, su, *]; omega) | (rcases f with _ | _ | _ | _ | _ | _ | _ | _ | _ | _ | _ | _ | _ | _ | _ | _ | f <;> first | rfl | (simp [cC, cX, cM, cB, cF, cR, su, va_up, *]; done) | (simp [cC, cX, cM, cB, cF, cR, su, va_up, *]; omega))
theorem cC_9 (S : sT) (E : Nat → Int) (rt : Int) (m q : Nat) (z : Int) : cC (su S 9 m q z) E rt = su (cC S E rt) 4 m q z := by
  funext k i f
  rcases k with _ | _ | _ | _ | _ | _ | _ | _ | k
  all_goals (by_cases hi : i = m)
  all_goals first | rfl | (simp [cC, su, *]; done) | (simp [cC, su, *]; omega) | (rcases f with _ | _ | _ | _ | _ | _ | _ | _ | _ | _ | _ | _ | _ | _ | _ | _ | f <;> first | rfl | (simp [cC, cX, cM, cB, cF, cR, su, va_up, *]; done) | (simp [cC, cX, cM, cB, cF, cR, su, va_up, *]; omega))
theorem cC_21 (S : sT) (E : Nat → Int) (rt : Int) (m q : Nat) (z : Int) : cC (su S 21 m q z) E rt = su (cC S E rt) 5 m q z := by
  funext k i f
  rcases k with _ | _ | _ | _ | _ | _ | _ | _ | k
  all_goals (by_cases hi : i = m)
  all_goals first | rfl | (simp [cC, su, *]; done) | (simp [cC, su, *]; omega) | (rcases f with _ | _ | _ | _ | _ | _ | _ | _ | _ | _ | _ | _ | _ | _ | _ | _ | f <;> first | rfl | (simp [cC, cX, cM, cB, cF, cR, su, va_up, *]; done) | (simp [cC, cX, cM, cB, cF, cR, su, va_up, *]; omega))
theorem cC_27 (S : sT) (E : Nat → Int) (rt : Int) (e : Nat) (z : Int) : cC (su S 27 e 0 z) E rt = su (cC S E rt) 1 0 (3 * e) z := by
  funext k i f
  rcases k with _ | _ | _ | _ | _ | _ | _ | _ | k
  all_goals (by_cases hi : i = 0)
  all_goals first | rfl | (simp [cC, su, *]; done) | (simp [cC, su, *]; omega) | (rcases f with _ | _ | _ | _ | _ | _ | _ | _ | _ | _ | _ | _ | _ | _ | _ | _ | f <;> first | rfl | (simp [cC, cX, cM, cB, cF, cR, su, va_up, *]; done) | (simp [cC, cX, cM, cB, cF, cR, su, va_up, *]; omega))
theorem cC_28 (S : sT) (E : Nat → Int) (rt : Int) (e : Nat) (z : Int) : cC (su S 28 e 0 z) E rt = su (cC S E rt) 1 0 (3 * e + 1) z := by
  funext k i f
  rcases k with _ | _ | _ | _ | _ | _ | _ | _ | k
  all_goals (by_cases hi : i = 0)
  all_goals first | rfl | (simp [cC, su, *]; done) | (simp [cC, su, *]; omega) | (rcases f with _ | _ | _ | _ | _ | _ | _ | _ | _ | _ | _ | _ | _ | _ | _ | _ | f <;> first | rfl | (simp [cC, cX, cM, cB, cF, cR, su, va_up, *]; done) | (simp [cC, cX, cM, cB, cF, cR, su, va_up, *]; omega))
theorem cC_29 (S : sT) (E : Nat → Int) (rt : Int) (e : Nat) (z : Int) : cC (su S 29 e 0 z) E rt = su (cC S E rt) 1 0 (3 * e + 2) z := by
  funext k i f
  rcases k with _ | _ | _ | _ | _ | _ | _ | _ | k
  all_goals (by_cases hi : i = 0)
  all_goals first | rfl | (simp [cC, su, *]; done) | (simp [cC, su, *]; omega) | (rcases f with _ | _ | _ | _ | _ | _ | _ | _ | _ | _ | _ | _ | _ | _ | _ | _ | f <;> first | rfl | (simp [cC, cX, cM, cB, cF, cR, su, va_up, *]; done) | (simp [cC, cX, cM, cB, cF, cR, su, va_up, *]; omega))
