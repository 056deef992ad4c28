/-! What the loops over machines and rows compute -/
def rturn (S : sT) (k : Nat) : Int := if S 25 0 0 < S 17 k 0 then S 17 k 0 else if S 25 0 0 < S 18 k 0 then S 18 k 0 else 1000000000
def crc (S : sT) (m : Nat) : Nat → Int → Int
  | 0, q => q
  | n + 1, q => crc S m n (if (S 16 n 0 = -1 ∨ S 16 n 0 = (m : Int)) ∧ S 17 n 0 ≤ S 25 0 0 ∧ S 25 0 0 < S 18 n 0 then S 19 n 0 else q)
def clook (S : sT) : Nat → (Nat → Int) → Nat → Int
  | 0, E => E
  | i + 1, E => clook S i (va_up E i (rheld S i))
def crt (S : sT) : Nat → Int → Int
  | 0, r => r
  | n + 1, r => crt S n (min r (rturn S n))
def cqa (S : sT) (E : Nat → Int) (z : Int) : Nat → Int → Int
  | 0, q => q
  | n + 1, q => cqa S E z n (min q (cquiet S E n z))
def cpass (E : Nat → Int) (z t : Int) : Nat → sT → sT
  | 0, S => S
  | n + 1, S => cpass E z t n (cspend S n (ccause S E n z) t)
def cins (S : sT) : Nat → Int → Int
  | 0, q => q
  | n + 1, q => cins S n (if S 6 n 0 = 0 then q + S 11 n 0 else q + S 11 n 0 + 1)
theorem neg_of {a b : Int} (h : a = b) (hb : b < 0) : a < 0 := by rw [h]; exact hb
theorem crc_s (S : sT) (m n : Nat) (q : Int) : crc S m (n + 1) q = crc S m n (if (S 16 n 0 = -1 ∨ S 16 n 0 = (m : Int)) ∧ S 17 n 0 ≤ S 25 0 0 ∧ S 25 0 0 < S 18 n 0 then S 19 n 0 else q) := rfl
theorem rhl_s (S : sT) (m n k : Nat) : rhl S m (n + 1) k = if (S 16 k 0 = -1 ∨ S 16 k 0 = (m : Int)) ∧ S 17 k 0 ≤ S 25 0 0 ∧ S 25 0 0 < S 18 k 0 then S 19 k 0 else rhl S m n (k + 1) := rfl
/-- the rows from the newest down to the first that was told: the first that holds counts -/
theorem rhl_snoc (S : sT) (m : Nat) : ∀ n k, (∀ j, k ≤ j → j < k + n → ¬ S 19 j 0 = -1) → rhl S m (n + 1) k = if rhl S m n k = -1 then rhl S m 1 (k + n) else rhl S m n k
  | 0, k, _ => by show rhl S m 1 k = if (-1 : Int) = -1 then rhl S m 1 (k + 0) else -1; rw [if_pos rfl]; rfl
  | n + 1, k, h => by
    rw [rhl_s S m (n + 1) k, rhl_snoc S m n (k + 1) (fun j h1 h2 => h j (by omega) (by omega)), rhl_s S m n k, show k + 1 + n = k + (n + 1) by omega]
    have h9 := h k (Nat.le_refl k) (by omega)
    by_cases hc : (S 16 k 0 = -1 ∨ S 16 k 0 = (m : Int)) ∧ S 17 k 0 ≤ S 25 0 0 ∧ S 25 0 0 < S 18 k 0
    · rw [if_pos hc, if_pos hc, if_neg h9]
    · rw [if_neg hc, if_neg hc]
theorem crc_rhl (S : sT) (m : Nat) : ∀ n q, (∀ j, j < n → ¬ S 19 j 0 = -1) → crc S m n q = if rhl S m n 0 = -1 then q else rhl S m n 0
  | 0, q, _ => by show q = if (-1 : Int) = -1 then q else -1; rw [if_pos rfl]
  | n + 1, q, h => by
    rw [crc_s, crc_rhl S m n _ (fun j hj => h j (by omega)), rhl_snoc S m n 0 (fun j _ hj => h j (by omega))]
    have h9 := h n (by omega)
    rw [show 0 + n = n by omega, rhl_s S m 0 n]
    by_cases hr : rhl S m n 0 = -1
    · rw [if_pos hr, if_pos hr]
      by_cases hc : (S 16 n 0 = -1 ∨ S 16 n 0 = (m : Int)) ∧ S 17 n 0 ≤ S 25 0 0 ∧ S 25 0 0 < S 18 n 0
      · rw [if_pos hc, if_pos hc, if_neg h9]
      · rw [if_neg hc, if_neg hc]; show q = if (-1 : Int) = -1 then q else -1; rw [if_pos rfl]
    · rw [if_neg hr, if_neg hr, if_neg hr]
theorem crc_held {S : sT} (m : Nat) (hI : Inv S) : crc S m (S 20 0 0).toNat (-1) = rheld S m := by
  rw [crc_rhl S m _ _ (fun j hj => by have := (hI.2.2.2.2.2 j (by have := hI.2.2.1; omega)).2.2.2; omega)]
  unfold rheld
  split
  · rename_i h; exact h.symm
  · rfl
theorem spend_A {S : sT} {i : Nat} {c t : Int} : ∀ v, v ≠ 21 → v ≠ 7 → ∀ a b, cspend S i c t v a b = S v a b := by
  intro v h1 h2 a b
  unfold cspend
  split
  · rw [su_v h2, su_v h1]
  · rw [su_v h1]
theorem spend_7 {S : sT} {i j : Nat} {c t : Int} (h : j ≠ i) : cspend S i c t 7 j 0 = S 7 j 0 := by
  unfold cspend
  split
  · rw [su_i h, su_v (by decide)]
  · rw [su_v (by decide)]
