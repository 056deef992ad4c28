/-! The reference as functions of its state. Numbers of the variables: 0 takes, 1 before, 2 behind, 3 room, 4 delay, 5 machines, 6 bottle, 7 worked, 8 faultEnd, 9 came, 10 first, 11 many, 12 faultAbove, 13 faultBelow, 14 faultTenths, 15 faults, 16 rowMachine, 17 rowFrom, 18 rowTo, 19 rowCause, 20 rows, 21 times, 22 rejects, 23 begun, 24 made, 25 now, 26 drawn, 27 eventAt, 28 eventMachine, 29 eventKind, 30 events, 31 thrown -/
abbrev sT : Type := Nat → Nat → Nat → Int
theorem zI_bool (P : Prop) [Decidable P] : narrow .boolean (.int (zI (bZ P))) = .int (zI (bZ P)) := by
  by_cases h : P
  · rw [bZ_t h]; decide +kernel
  · rw [bZ_f h]; decide +kernel
def rnote (S : sT) (m : Nat) (k : Int) : sT :=
  if S 30 0 0 < 1000 then su (su (su (su S 27 (S 30 0 0).toNat 0 (S 25 0 0)) 28 (S 30 0 0).toNat 0 (m : Int)) 29 (S 30 0 0).toNat 0 k) 30 0 0 (S 30 0 0 + 1) else su S 30 0 0 (S 30 0 0 + 1)
def rdraw (S : sT) : sT := su S 26 0 0 (S 26 0 0 * 6364136223846793005 + 1442695040888963407)
def rdv (S : sT) (b : Int) : Int := (S 26 0 0 * 6364136223846793005 + 1442695040888963407) % 18446744073709551616 / 8589934592 % b
def rrow (S : sT) (m k : Nat) : Prop := (S 16 k 0 = -1 ∨ S 16 k 0 = (m : Int)) ∧ S 17 k 0 ≤ S 25 0 0 ∧ S 25 0 0 < S 18 k 0
def rhl (S : sT) (m : Nat) : Nat → Nat → Int
  | 0, _ => -1
  | n + 1, k => if (S 16 k 0 = -1 ∨ S 16 k 0 = (m : Int)) ∧ S 17 k 0 ≤ S 25 0 0 ∧ S 25 0 0 < S 18 k 0 then S 19 k 0 else rhl S m n (k + 1)
def rheld (S : sT) (m : Nat) : Int := rhl S m (S 20 0 0).toNat 0
def rjl (m : Nat) : Nat → Nat → sT → Int → sT × Int × Bool
  | 0, _, S, lg => (S, lg, false)
  | n + 1, k, S, lg => if rdv S (S 13 m k) < S 12 m k then (if S 14 m k = 0 then (rdraw S, lg, true) else rjl m n (k + 1) (rdraw S) (if lg < S 14 m k then S 14 m k else lg)) else rjl m n (k + 1) (rdraw S) lg
def rjfin (m : Nat) (J : sT × Int × Bool) : sT × Bool :=
  if J.2.2 = true then (rnote (su (su J.1 6 m 0 0) 22 m 0 (J.1 22 m 0 + 1)) m 2, false) else if 0 < J.2.1 then (rnote (su J.1 8 m 0 (J.1 25 0 0 + J.2.1)) m 3, true) else (J.1, false)
def rjudge (S : sT) (m : Nat) : sT × Bool := rjfin m (rjl m (S 15 m 0).toNat 0 (su S 6 m 0 2) 0)
def rleave (S : sT) (m : Nat) : sT :=
  if S 2 m 0 = -1 then rnote (su (su S 24 0 0 (S 24 0 0 + 1)) 6 m 0 0) m 1
  else if S 11 m 0 < S 3 m 0 then rnote (su (su (su S 9 m ((S 10 m 0 + S 11 m 0) % 1000).toNat (S 25 0 0)) 11 m 0 (S 11 m 0 + 1)) 6 m 0 0) m 1 else S
def rat (S : sT) (b : Nat) : Int := if S 11 b 0 = 0 then S 25 0 0 else S 9 b (S 10 b 0).toNat
def rtake (S : sT) (m : Nat) : sT :=
  if S 1 m 0 = -1 then rnote (su (su (su S 23 0 0 (S 23 0 0 + 1)) 6 m 0 1) 7 m 0 0) m 0
  else if S 25 0 0 ≤ rat S (S 1 m 0).toNat ∨ S 25 0 0 - rat S (S 1 m 0).toNat < S 4 (S 1 m 0).toNat 0 then S
  else rnote (su (su (su (su S 10 (S 1 m 0).toNat 0 ((S 10 (S 1 m 0).toNat 0 + 1) % 1000)) 11 (S 1 m 0).toNat 0 (S 11 (S 1 m 0).toNat 0 - 1)) 6 m 0 1) 7 m 0 0) m 0
def rlt (S : sT) (m : Nat) : sT := if S 6 m 0 = 0 then rtake S m else S
def rll (S : sT) (m : Nat) : sT := rlt (if S 6 m 0 = 2 then rleave S m else S) m
def rjj (S : sT) (m : Nat) : sT := if S 6 m 0 = 1 ∧ S 7 m 0 = S 0 m 0 then (if (rjudge S m).2 = true then (rjudge S m).1 else rll (rjudge S m).1 m) else rll S m
def ract (S : sT) (m : Nat) : sT := if rheld S m = -1 ∧ S 8 m 0 ≤ S 25 0 0 then rjj S m else S
def rcause (S : sT) (m : Nat) : Int := if rheld S m = -1 then (if S 25 0 0 < S 8 m 0 then 3 else if S 6 m 0 = 1 then 0 else if S 6 m 0 = 2 then 11 else 10) else rheld S m
def ractA : Nat → sT → sT
  | 0, S => S
  | k + 1, S => ractA k (ract S k)
def rtm (S : sT) (m : Nat) : sT := su (su S 21 m (rcause S m).toNat (S 21 m (rcause S m).toNat + 1)) 7 m 0 (S 7 m 0 + (if rcause S m = 0 then 1 else 0))
def rtmA : Nat → Nat → sT → sT
  | 0, _, S => S
  | n + 1, m, S => rtmA n (m + 1) (rtm S m)
def rtick (S : sT) : sT := su S 25 0 0 (S 25 0 0 + 1)
def rinst (S : sT) : sT := rtick (rtmA (S 5 0 0).toNat 0 (ractA (S 5 0 0).toNat S))
def rrunL : Nat → sT → sT
  | 0, S => S
  | n + 1, S => rrunL n (rinst S)
/-- what always holds of the reference's state -/
def InvM (S : sT) (i : Nat) : Prop :=
  (0 ≤ S 6 i 0 ∧ S 6 i 0 ≤ 2) ∧ (0 ≤ S 7 i 0 ∧ S 7 i 0 ≤ 1000010001) ∧ (0 ≤ S 8 i 0 ∧ S 8 i 0 ≤ S 25 0 0 + 100000) ∧ (0 ≤ S 10 i 0 ∧ S 10 i 0 < 1000) ∧ (0 ≤ S 11 i 0 ∧ S 11 i 0 ≤ 1000) ∧ (0 ≤ S 15 i 0 ∧ S 15 i 0 ≤ 4)
    ∧ (∀ q, q < 1000 → 0 ≤ S 9 i q ∧ S 9 i q ≤ S 25 0 0) ∧ (∀ j, j < 4 → (0 ≤ S 12 i j ∧ S 12 i j ≤ 1000000) ∧ (0 ≤ S 13 i j ∧ S 13 i j ≤ 1000000) ∧ (0 ≤ S 14 i j ∧ S 14 i j ≤ 100000) ∧ ((j : Int) < S 15 i 0 → 1 ≤ S 13 i j))
def InvL (S : sT) (i : Nat) : Prop :=
  (1 ≤ S 0 i 0 ∧ S 0 i 0 ≤ 10000) ∧ (S 1 i 0 = -1 ∨ (0 ≤ S 1 i 0 ∧ S 1 i 0 < i)) ∧ (S 2 i 0 = -1 ∨ ((i : Int) < S 2 i 0 ∧ S 2 i 0 < S 5 0 0)) ∧ (1 ≤ S 3 i 0 ∧ S 3 i 0 ≤ 1000) ∧ (0 ≤ S 4 i 0 ∧ S 4 i 0 ≤ 10000)
def InvR (S : sT) (k : Nat) : Prop :=
  (S 16 k 0 = -1 ∨ (0 ≤ S 16 k 0 ∧ S 16 k 0 < S 5 0 0)) ∧ (0 ≤ S 17 k 0 ∧ S 17 k 0 < S 18 k 0) ∧ S 18 k 0 ≤ 1000000000 ∧ (1 ≤ S 19 k 0 ∧ S 19 k 0 ≤ 9)
def Inv (S : sT) : Prop :=
  (0 ≤ S 5 0 0 ∧ S 5 0 0 ≤ 12) ∧ (0 ≤ S 25 0 0 ∧ S 25 0 0 ≤ 1000000000) ∧ (0 ≤ S 20 0 0 ∧ S 20 0 0 ≤ 64) ∧ (∀ i, i < 12 → InvM S i) ∧ (∀ i : Nat, (i : Int) < S 5 0 0 → InvL S i) ∧ (∀ k : Nat, (k : Int) < S 20 0 0 → InvR S k)
def rrunS (S : sT) (t : Int) : sT := if 0 ≤ t ∧ t ≤ 100000 ∧ S 25 0 0 + t ≤ 1000000000 then rrunL t.toNat (su S 30 0 0 0) else S
def rrunV (S : sT) (t : Int) : Int := if 0 ≤ t ∧ t ≤ 100000 ∧ S 25 0 0 + t ≤ 1000000000 then rrunL t.toNat (su S 30 0 0 0) 30 0 0 else -1
