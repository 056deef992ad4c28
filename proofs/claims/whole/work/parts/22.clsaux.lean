theorem rf_or (ad : Nat → Nat → Nat) (t : Nat) (z : Int) : rf ad t z = .null ∨ ∃ a, rf ad t z = .ref a := by
  unfold rf; split
  · exact Or.inl rfl
  · exact Or.inr ⟨_, rfl⟩
theorem rf_fits (ad : Nat → Nat → Nat) (t : Nat) (z : Int) (n : String) : fits (.object n) (rf ad t z) = true := by
  unfold rf; split <;> rfl
theorem rf_nar (ad : Nat → Nat → Nat) (t : Nat) (z : Int) (n : String) : narrow (.object n) (rf ad t z) = rf ad t z := by
  unfold rf; split <;> rfl
def rready (S : sT) (i : Nat) : Int := if 0 < S 11 i 0 then S 9 i (S 10 i 0).toNat + max 1 (S 4 i 0) else 1000000000
def radd (S : sT) (i : Nat) (z : Int) : sT := su (su S 9 i ((S 10 i 0 + S 11 i 0) % 1000).toNat z) 11 i 0 (S 11 i 0 + 1)
def rpop (S : sT) (i : Nat) : sT := su (su S 10 i 0 ((S 10 i 0 + 1) % 1000)) 11 i 0 (S 11 i 0 - 1)
def ccause (S : sT) (E : Nat → Int) (i : Nat) (z : Int) : Int := if E i = -1 then (if z < S 8 i 0 then 3 else if S 6 i 0 = 0 then 10 else if S 7 i 0 < S 0 i 0 then 0 else 11) else E i
def cquiet (S : sT) (E : Nat → Int) (i : Nat) (z : Int) : Int :=
  if ccause S E i z = 0 then S 0 i 0 - S 7 i 0 else if ccause S E i z = 3 then S 8 i 0 - z else if ccause S E i z = 10 then (if S 1 i 0 = -1 then 0 else rready S (S 1 i 0).toNat - z) else 1000000000
def cspend (S : sT) (i : Nat) (c t : Int) : sT := if c = 0 then su (su S 21 i c.toNat (S 21 i c.toNat + t)) 7 i 0 (S 7 i 0 + t) else su S 21 i c.toNat (S 21 i c.toNat + t)
