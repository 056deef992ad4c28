/-! Sums over the machines, from either end -/
def fin1 (S : sT) (i : Nat) : Int := S 11 i 0 + (if S 6 i 0 = 0 then 0 else 1)
theorem rwth_s (S : sT) (n m : Nat) (z : Int) : rwth S (n + 1) m z = rwth S n (m + 1) (z + fin1 S m) := rfl
theorem rwth_add (S : sT) : ∀ (n m : Nat) (z y : Int), rwth S n m (z + y) = rwth S n m z + y
  | 0, _, _, _ => rfl
  | n + 1, m, z, y => by rw [rwth_s, rwth_s, show z + y + fin1 S m = z + fin1 S m + y by omega, rwth_add S n]
theorem rwth_snoc (S : sT) : ∀ (n m : Nat) (z : Int), rwth S (n + 1) m z = rwth S n m z + fin1 S (m + n)
  | 0, m, z => rfl
  | n + 1, m, z => by rw [rwth_s, rwth_snoc S n, rwth_s, show m + 1 + n = m + (n + 1) by omega]
theorem cins_eq (S : sT) : ∀ (n : Nat) (q : Int), cins S n q = rwth S n 0 q
  | 0, _ => rfl
  | n + 1, q => by
    rw [rwth_snoc, Nat.zero_add, ← rwth_add]
    show cins S n (if S 6 n 0 = 0 then q + S 11 n 0 else q + S 11 n 0 + 1) = _
    rw [cins_eq S n]
    congr 1
    unfold fin1
    split <;> omega
def ckl (S : sT) : Nat → Int → Bool
  | 0, z => decide (zL z = zL (S 23 0 0))
  | n + 1, z => if zL (rsum S n 12 0 0) = zL (S 25 0 0) then ckl S n (z + S 22 n 0) else false
theorem rkl_s (S : sT) (n m : Nat) (z : Int) (r : Bool) : rkl S (n + 1) m z r = rkl S n (m + 1) (z + S 22 m 0) (r && decide (zL (rsum S m 12 0 0) = zL (S 25 0 0))) := rfl
theorem rkl_add (S : sT) : ∀ (n m : Nat) (z y : Int) (r : Bool), rkl S n m (z + y) r = ((rkl S n m z r).1 + y, (rkl S n m z r).2)
  | 0, _, _, _, _ => rfl
  | n + 1, m, z, y, r => by rw [rkl_s, rkl_s, show z + y + S 22 m 0 = z + S 22 m 0 + y by omega, rkl_add S n]
theorem rkl_snoc (S : sT) : ∀ (n m : Nat) (z : Int) (r : Bool), rkl S (n + 1) m z r = ((rkl S n m z r).1 + S 22 (m + n) 0, (rkl S n m z r).2 && decide (zL (rsum S (m + n) 12 0 0) = zL (S 25 0 0)))
  | 0, m, z, r => rfl
  | n + 1, m, z, r => by rw [rkl_s, rkl_snoc S n, rkl_s, show m + 1 + n = m + (n + 1) by omega]
theorem ckl_eq (S : sT) : ∀ (n : Nat) (z : Int), ckl S n z = rkf S (rkl S n 0 z true)
  | 0, z => by show decide _ = (true && decide _); rw [Bool.true_and]; rfl
  | n + 1, z => by
    rw [rkl_snoc, Nat.zero_add]
    show (if zL (rsum S n 12 0 0) = zL (S 25 0 0) then ckl S n (z + S 22 n 0) else false) = _
    by_cases h : zL (rsum S n 12 0 0) = zL (S 25 0 0)
    · rw [if_pos h, ckl_eq S n, rkl_add]
      unfold rkf
      simp [h]
    · rw [if_neg h]
      unfold rkf
      simp [h]
def evv (S : sT) (k q : Int) : Int := if q = 0 then S 27 k.toNat 0 else if q = 1 then S 28 k.toNat 0 else if q = 2 then S 29 k.toNat 0 else -1
theorem ev_at (S : sT) (E : Nat → Int) (rt : Int) {k q : Int} (hk : 0 ≤ k) (hq : 0 ≤ q ∧ q ≤ 2) : cC S E rt 1 0 (k * 3 + q).toNat = evv S k q := by
  show S (27 + (k * 3 + q).toNat % 3) ((k * 3 + q).toNat / 3) 0 = _
  have e1 : (k * 3 + q).toNat / 3 = k.toNat := by omega
  have e2 : (k * 3 + q).toNat % 3 = q.toNat := by omega
  rw [e1, e2]
  unfold evv
  rcases (show q = 0 ∨ q = 1 ∨ q = 2 by omega) with rfl | rfl | rfl <;> rfl
