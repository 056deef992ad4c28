theorem rf_or (ad : Nat → Nat → Nat) (t : Nat) (z : Int) : rf ad t z = .null ∨ ∃ a, rf ad t z = .ref a := by
  unfold rf; split
  · exact Or.inl rfl
  · exact Or.inr ⟨_, rfl⟩
theorem rf_fits (ad : Nat → Nat → Nat) (t : Nat) (z : Int) (n : String) : fits (.object n) (rf ad t z) = true := by
  unfold rf; split <;> rfl
theorem rf_nar (ad : Nat → Nat → Nat) (t : Nat) (z : Int) (n : String) : narrow (.object n) (rf ad t z) = rf ad t z := by
  unfold rf; split <;> rfl
def rready (S : sT) (i : Nat) : Int := if 0 < S 11 i 0 then S 9 i (S 10 i 0).toNat + max 1 (S 4 i 0) else 1000000000
def radd (S : sT) (i : Nat) (z : Int) : sT := su (su S 9 i ((S 10 i 0 + S 11 i 0) % 1000).toNat z) 11 i 0 (S 11 i 0 + 1)
def rpop (S : sT) (i : Nat) : sT := su (su S 10 i 0 ((S 10 i 0 + 1) % 1000)) 11 i 0 (S 11 i 0 - 1)
def ccause (S : sT) (E : Nat → Int) (i : Nat) (z : Int) : Int := if E i = -1 then (if z < S 8 i 0 then 3 else if S 6 i 0 = 0 then 10 else if S 7 i 0 < S 0 i 0 then 0 else 11) else E i
def cquiet (S : sT) (E : Nat → Int) (i : Nat) (z : Int) : Int :=
  if ccause S E i z = 0 then S 0 i 0 - S 7 i 0 else if ccause S E i z = 3 then S 8 i 0 - z else if ccause S E i z = 10 then (if S 1 i 0 = -1 then 0 else rready S (S 1 i 0).toNat - z) else 1000000000
def cspend (S : sT) (i : Nat) (c t : Int) : sT := if c = 0 then su (su S 21 i c.toNat (S 21 i c.toNat + t)) 7 i 0 (S 7 i 0 + t) else su S 21 i c.toNat (S 21 i c.toNat + t)
def alS (al : Nat → Nat → Prop) (S : sT) : Prop := ∀ k i, cAl S k i → al k i
theorem alS_eq {al : Nat → Nat → Prop} {S S1 : sT} (h5 : S1 5 0 0 = S 5 0 0) (h15 : ∀ i, S1 15 i 0 = S 15 i 0) (h20 : S1 20 0 0 = S 20 0 0) (hal : alS al S) : alS al S1 := by
  intro k i h
  apply hal
  revert h
  unfold cAl
  split <;> simp [h5, h15, h20]
theorem cAl_f {S : sT} {i k : Nat} (hi : (i : Int) < S 5 0 0) (hk : (k : Int) < S 15 i 0) (h4 : k < 4) : cAl S 6 (4 * i + k) := by
  have e1 : (4 * i + k) / 4 = i := by omega
  have e2 : (4 * i + k) % 4 = k := by omega
  show (((4 * i + k) / 4 : Nat) : Int) < S 5 0 0 ∧ (((4 * i + k) % 4 : Nat) : Int) < S 15 ((4 * i + k) / 4) 0
  rw [e1, e2]
  exact ⟨hi, hk⟩
theorem cF_0 (S : sT) (E : Nat → Int) (rt : Int) {i k : Nat} (h4 : k < 4) : cC S E rt 6 (4 * i + k) 0 = S 12 i k := by
  show S 12 ((4 * i + k) / 4) ((4 * i + k) % 4) = _
  rw [show (4 * i + k) / 4 = i by omega, show (4 * i + k) % 4 = k by omega]
theorem cF_1 (S : sT) (E : Nat → Int) (rt : Int) {i k : Nat} (h4 : k < 4) : cC S E rt 6 (4 * i + k) 1 = S 13 i k := by
  show S 13 ((4 * i + k) / 4) ((4 * i + k) % 4) = _
  rw [show (4 * i + k) / 4 = i by omega, show (4 * i + k) % 4 = k by omega]
theorem cF_2 (S : sT) (E : Nat → Int) (rt : Int) {i k : Nat} (h4 : k < 4) : cC S E rt 6 (4 * i + k) 2 = S 14 i k := by
  show S 14 ((4 * i + k) / 4) ((4 * i + k) % 4) = _
  rw [show (4 * i + k) / 4 = i by omega, show (4 * i + k) % 4 = k by omega]
theorem cF_3 (S : sT) (E : Nat → Int) (rt : Int) {i k : Nat} (h4 : k < 4) : cC S E rt 6 (4 * i + k) 3 = if (k : Int) + 1 < S 15 i 0 then ((4 * i + (k + 1) : Nat) : Int) else -1 := by
  show (if (((4 * i + k) % 4 : Nat) : Int) + 1 < S 15 ((4 * i + k) / 4) 0 then ((4 * i + k : Nat) : Int) + 1 else -1) = _
  rw [show (4 * i + k) / 4 = i by omega, show (4 * i + k) % 4 = k by omega]
  rfl
theorem cC_tk (S : sT) (E : Nat → Int) (rt : Int) (m : Nat) (h6 : S 6 m 0 = 0) : cC (su (su S 6 m 0 1) 7 m 0 0) E rt = su (cC S E rt) 2 m 11 1 := by
  rw [cC_7, cC_6]
  funext k i f
  by_cases h : k = 2 ∧ i = m
  · obtain ⟨rfl, rfl⟩ := h
    rcases f with _ | _ | _ | _ | _ | _ | _ | _ | _ | _ | _ | _ | _ | _ | _ | _ | f <;> first | rfl | simp [cC, cM, su, h6, bZ]
  · rw [su_vi h, su_vi h, su_vi h, su_vi h, su_vi h]
theorem cC_jd (S : sT) (E : Nat → Int) (rt : Int) (m : Nat) (h6 : S 6 m 0 = 1) : cC (su S 6 m 0 2) E rt = su (cC S E rt) 2 m 13 1 := by
  rw [cC_6]
  funext k i f
  by_cases h : k = 2 ∧ i = m
  · obtain ⟨rfl, rfl⟩ := h
    rcases f with _ | _ | _ | _ | _ | _ | _ | _ | _ | _ | _ | _ | _ | _ | _ | _ | f <;> first | rfl | simp [cC, cM, su, h6, bZ]
  · rw [su_vi h, su_vi h, su_vi h, su_vi h]
theorem su_comm {S : sT} {v i j v' i' j' : Nat} {z z' : Int} (h : v ≠ v') : su (su S v i j z) v' i' j' z' = su (su S v' i' j' z') v i j z := by
  funext a b d
  unfold su
  by_cases h1 : a = v ∧ b = i ∧ d = j <;> by_cases h2 : a = v' ∧ b = i' ∧ d = j'
  · exact absurd (h1.1.symm.trans h2.1) h
  · simp [h1, h2]; intro q; exact absurd q h
  · simp [h1, h2]; intro q; exact absurd q.symm h
  · simp [h1, h2]
theorem rjl_6 (m : Nat) (z : Int) : ∀ (n k : Nat) (S : sT) (lg : Int), rjl m n k (su S 6 m 0 z) lg = (su (rjl m n k S lg).1 6 m 0 z, (rjl m n k S lg).2)
  | 0, _, _, _ => rfl
  | n + 1, k, S, lg => by
    have e : rdraw (su S 6 m 0 z) = su (rdraw S) 6 m 0 z := su_comm (by decide)
    unfold rjl
    rw [e, show rdv (su S 6 m 0 z) = rdv S from rfl, show su S 6 m 0 z 13 m k = S 13 m k from rfl, show su S 6 m 0 z 12 m k = S 12 m k from rfl, show su S 6 m 0 z 14 m k = S 14 m k from rfl, rjl_6 m z n, rjl_6 m z n]
    split
    · split <;> rfl
    · rfl
