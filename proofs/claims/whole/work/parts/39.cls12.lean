set_option maxHeartbeats 4000000 in
theorem cl_machNN (S : sT) (E : Nat → Int) (rt : Int) (k : Nat) (t a : Int) (hk9 : S 5 0 0 = (k : Int)) (hk0 : k = 0) (ha : a = -1) (hf : S 6 k 0 = 0 ∧ S 8 k 0 = 0 ∧ S 10 k 0 = 0 ∧ S 11 k 0 = 0 ∧ S 22 k 0 = 0 ∧ S 15 k 0 = 0 ∧ (∀ q, S 9 k q = 0) ∧ ∀ q, S 21 k q = 0) : ∀ K j, cAl (su (su (su (su (su (su S 0 k 0 t) 1 k 0 a) 2 k 0 (-1)) 3 k 0 1) 4 k 0 0) 5 0 0 (S 5 0 0 + 1)) K j → alU (alU (alU (alU (cAl S) 2 k) 3 k) 4 k) 5 k K j ∧ ((K = 1 ∨ K = 4 ∨ K = 5 → cC (su (su (su (su (su (su S 0 k 0 t) 1 k 0 a) 2 k 0 (-1)) 3 k 0 1) 4 k 0 0) 5 0 0 (S 5 0 0 + 1)) (va_up E k (-1)) rt K j = (su (su (su (su (su (su (su (cz (su (su (su (cz (su (cn (cn (cC S E rt) 2 k) 3 k) 3 k 0 1) 4 k) 3 k 2 (k : Int)) 2 k 4 (k : Int)) 2 k 9 (-1)) 5 k) 2 k 15 (k : Int)) 2 k 0 (k : Int)) 2 k 1 t) 2 k 2 (-1)) 2 k 3 (-1)) 0 0 2 (k : Int)) 0 0 3 ((k : Int) + 1)) K j) ∧ ∀ g, g < cNf K → cC (su (su (su (su (su (su S 0 k 0 t) 1 k 0 a) 2 k 0 (-1)) 3 k 0 1) 4 k 0 0) 5 0 0 (S 5 0 0 + 1)) (va_up E k (-1)) rt K j g = (su (su (su (su (su (su (su (cz (su (su (su (cz (su (cn (cn (cC S E rt) 2 k) 3 k) 3 k 0 1) 4 k) 3 k 2 (k : Int)) 2 k 4 (k : Int)) 2 k 9 (-1)) 5 k) 2 k 15 (k : Int)) 2 k 0 (k : Int)) 2 k 1 t) 2 k 2 (-1)) 2 k 3 (-1)) 0 0 2 (k : Int)) 0 0 3 ((k : Int) + 1)) K j g) := by
  intro K j hk
  obtain ⟨f6, f8, f10, f11, f22, f15, f9, f21⟩ := hf
  rcases K with _ | _ | _ | _ | _ | _ | _ | _ | K
  · have hj : j = 0 := hk
    subst hj
    refine ⟨Or.inl (Or.inl (Or.inl (Or.inl hk))), fun q => absurd q (by omega), fun g hg => ?_⟩
    have hg : g < 11 := hg
    rcases g with _ | _ | _ | _ | _ | _ | _ | _ | _ | _ | _ | g <;> first | rfl | (exfalso; omega) | (simp [cC, cX, su, cn, cz, hk9]; done) | (simp [cC, cX, su, cn, cz, hk9]; omega)
  · exact ⟨Or.inl (Or.inl (Or.inl (Or.inl hk))), fun _ => by funext g; simp [cC, su, cn, cz, show ¬ (27 + g % 3 = 0) by omega, show ¬ (27 + g % 3 = 1) by omega, show ¬ (27 + g % 3 = 2) by omega, show ¬ (27 + g % 3 = 3) by omega, show ¬ (27 + g % 3 = 4) by omega, show ¬ (27 + g % 3 = 5) by omega], fun g hg => absurd hg (by simp [cNf])⟩
  · refine ⟨if hj : j = k then Or.inl (Or.inl (Or.inl (Or.inr ⟨rfl, hj⟩))) else Or.inl (Or.inl (Or.inl (Or.inl ((show (j : Int) < S 5 0 0 by have h9 : (j : Int) < S 5 0 0 + 1 := hk; omega))))), fun q => absurd q (by omega), fun g hg => ?_⟩
    have hg : g < 16 := hg
    by_cases hj : j = k
    · subst hj
      rcases g with _ | _ | _ | _ | _ | _ | _ | _ | _ | _ | _ | _ | _ | _ | _ | _ | g <;> first | rfl | (exfalso; omega) | (simp [cC, cM, su, cz, cn, va_up, cT, bZ, f6, f8, f15, f22, ha]; done) | (simp [cC, cM, su, cz, cn, va_up, cT, bZ, f6, f8, f15, f22, ha]; omega)
    · rcases g with _ | _ | _ | _ | _ | _ | _ | _ | _ | _ | _ | _ | _ | _ | _ | _ | g <;> first | rfl | (exfalso; omega) | (simp [cC, cM, su, cz, cn, va_up, hj]; done)
  · refine ⟨if hj : j = k then Or.inl (Or.inl (Or.inr ⟨rfl, hj⟩)) else Or.inl (Or.inl (Or.inl (Or.inl ((show (j : Int) < S 5 0 0 by have h9 : (j : Int) < S 5 0 0 + 1 := hk; omega))))), fun q => absurd q (by omega), fun g hg => ?_⟩
    have hg : g < 5 := hg
    by_cases hj : j = k
    · subst hj
      rcases g with _ | _ | _ | _ | _ | g <;> first | rfl | (exfalso; omega) | (simp [cC, cB, su, cz, cn, cT, f10, f11]; done)
    · rcases g with _ | _ | _ | _ | _ | g <;> first | rfl | (exfalso; omega) | (simp [cC, cB, su, cz, cn, hj]; done)
  · refine ⟨if hj : j = k then Or.inl (Or.inr ⟨rfl, hj⟩) else Or.inl (Or.inl (Or.inl (Or.inl ((show (j : Int) < S 5 0 0 by have h9 : (j : Int) < S 5 0 0 + 1 := hk; omega))))), fun _ => ?_, fun g hg => absurd hg (by simp [cNf])⟩
    funext q
    by_cases hj : j = k
    · subst hj
      simp [cC, su, cz, cn, f9]
    · simp [cC, su, cz, cn, hj]
  · refine ⟨if hj : j = k then Or.inr ⟨rfl, hj⟩ else Or.inl (Or.inl (Or.inl (Or.inl ((show (j : Int) < S 5 0 0 by have h9 : (j : Int) < S 5 0 0 + 1 := hk; omega))))), fun _ => ?_, fun g hg => absurd hg (by simp [cNf])⟩
    funext q
    by_cases hj : j = k
    · subst hj
      simp [cC, su, cz, cn, f21]
    · simp [cC, su, cz, cn, hj]
  · have hk1 : ((j / 4 : Nat) : Int) < S 5 0 0 + 1 := hk.1
    have hk2 : ((j % 4 : Nat) : Int) < S 15 (j / 4) 0 := hk.2
    have hne : j / 4 ≠ k := fun q => by rw [q, f15] at hk2; omega
    refine ⟨Or.inl (Or.inl (Or.inl (Or.inl ⟨by omega, hk2⟩))), fun q => absurd q (by omega), fun g hg => ?_⟩
    have hg : g < 4 := hg
    rcases g with _ | _ | _ | _ | g <;> first | rfl | (exfalso; omega)
  · refine ⟨Or.inl (Or.inl (Or.inl (Or.inl hk))), fun q => absurd q (by omega), fun g hg => ?_⟩
    have hg : g < 5 := hg
    rcases g with _ | _ | _ | _ | _ | g <;> first | rfl | (exfalso; omega)
  · exact False.elim hk
set_option maxHeartbeats 4000000 in
theorem cl_machRN (S : sT) (E : Nat → Int) (rt : Int) (k j2 : Nat) (t a : Int) (hk9 : S 5 0 0 = (k : Int)) (hk0 : k = j2 + 1) (ha : a = -1) (hf : S 6 k 0 = 0 ∧ S 8 k 0 = 0 ∧ S 10 k 0 = 0 ∧ S 11 k 0 = 0 ∧ S 22 k 0 = 0 ∧ S 15 k 0 = 0 ∧ (∀ q, S 9 k q = 0) ∧ ∀ q, S 21 k q = 0) : ∀ K j, cAl (su (su (su (su (su (su S 0 k 0 t) 1 k 0 a) 2 k 0 (-1)) 3 k 0 1) 4 k 0 0) 5 0 0 (S 5 0 0 + 1)) K j → alU (alU (alU (alU (cAl S) 2 k) 3 k) 4 k) 5 k K j ∧ ((K = 1 ∨ K = 4 ∨ K = 5 → cC (su (su (su (su (su (su S 0 k 0 t) 1 k 0 a) 2 k 0 (-1)) 3 k 0 1) 4 k 0 0) 5 0 0 (S 5 0 0 + 1)) (va_up E k (-1)) rt K j = (su (su (su (su (su (su (su (cz (su (su (su (cz (su (cn (cn (cC S E rt) 2 k) 3 k) 3 k 0 1) 4 k) 3 k 2 (k : Int)) 2 k 4 (k : Int)) 2 k 9 (-1)) 5 k) 2 k 15 (k : Int)) 2 k 0 (k : Int)) 2 k 1 t) 2 k 2 (j2)) 2 k 3 (-1)) 0 0 2 (k : Int)) 0 0 3 ((k : Int) + 1)) K j) ∧ ∀ g, g < cNf K → cC (su (su (su (su (su (su S 0 k 0 t) 1 k 0 a) 2 k 0 (-1)) 3 k 0 1) 4 k 0 0) 5 0 0 (S 5 0 0 + 1)) (va_up E k (-1)) rt K j g = (su (su (su (su (su (su (su (cz (su (su (su (cz (su (cn (cn (cC S E rt) 2 k) 3 k) 3 k 0 1) 4 k) 3 k 2 (k : Int)) 2 k 4 (k : Int)) 2 k 9 (-1)) 5 k) 2 k 15 (k : Int)) 2 k 0 (k : Int)) 2 k 1 t) 2 k 2 (j2)) 2 k 3 (-1)) 0 0 2 (k : Int)) 0 0 3 ((k : Int) + 1)) K j g) := by
  intro K j hk
  obtain ⟨f6, f8, f10, f11, f22, f15, f9, f21⟩ := hf
  rcases K with _ | _ | _ | _ | _ | _ | _ | _ | K
  · have hj : j = 0 := hk
    subst hj
    refine ⟨Or.inl (Or.inl (Or.inl (Or.inl hk))), fun q => absurd q (by omega), fun g hg => ?_⟩
    have hg : g < 11 := hg
    rcases g with _ | _ | _ | _ | _ | _ | _ | _ | _ | _ | _ | g <;> first | rfl | (exfalso; omega) | (simp [cC, cX, su, cn, cz, hk9]; done) | (simp [cC, cX, su, cn, cz, hk9]; omega)
  · exact ⟨Or.inl (Or.inl (Or.inl (Or.inl hk))), fun _ => by funext g; simp [cC, su, cn, cz, show ¬ (27 + g % 3 = 0) by omega, show ¬ (27 + g % 3 = 1) by omega, show ¬ (27 + g % 3 = 2) by omega, show ¬ (27 + g % 3 = 3) by omega, show ¬ (27 + g % 3 = 4) by omega, show ¬ (27 + g % 3 = 5) by omega], fun g hg => absurd hg (by simp [cNf])⟩
  · refine ⟨if hj : j = k then Or.inl (Or.inl (Or.inl (Or.inr ⟨rfl, hj⟩))) else Or.inl (Or.inl (Or.inl (Or.inl ((show (j : Int) < S 5 0 0 by have h9 : (j : Int) < S 5 0 0 + 1 := hk; omega))))), fun q => absurd q (by omega), fun g hg => ?_⟩
    have hg : g < 16 := hg
    by_cases hj : j = k
    · subst hj
      rcases g with _ | _ | _ | _ | _ | _ | _ | _ | _ | _ | _ | _ | _ | _ | _ | _ | g <;> first | rfl | (exfalso; omega) | (simp [cC, cM, su, cz, cn, va_up, cT, bZ, f6, f8, f15, f22, ha]; done) | (simp [cC, cM, su, cz, cn, va_up, cT, bZ, f6, f8, f15, f22, ha]; omega)
    · rcases g with _ | _ | _ | _ | _ | _ | _ | _ | _ | _ | _ | _ | _ | _ | _ | _ | g <;> first | rfl | (exfalso; omega) | (simp [cC, cM, su, cz, cn, va_up, hj]; done)
  · refine ⟨if hj : j = k then Or.inl (Or.inl (Or.inr ⟨rfl, hj⟩)) else Or.inl (Or.inl (Or.inl (Or.inl ((show (j : Int) < S 5 0 0 by have h9 : (j : Int) < S 5 0 0 + 1 := hk; omega))))), fun q => absurd q (by omega), fun g hg => ?_⟩
    have hg : g < 5 := hg
    by_cases hj : j = k
    · subst hj
      rcases g with _ | _ | _ | _ | _ | g <;> first | rfl | (exfalso; omega) | (simp [cC, cB, su, cz, cn, cT, f10, f11]; done)
    · rcases g with _ | _ | _ | _ | _ | g <;> first | rfl | (exfalso; omega) | (simp [cC, cB, su, cz, cn, hj]; done)
  · refine ⟨if hj : j = k then Or.inl (Or.inr ⟨rfl, hj⟩) else Or.inl (Or.inl (Or.inl (Or.inl ((show (j : Int) < S 5 0 0 by have h9 : (j : Int) < S 5 0 0 + 1 := hk; omega))))), fun _ => ?_, fun g hg => absurd hg (by simp [cNf])⟩
    funext q
    by_cases hj : j = k
    · subst hj
      simp [cC, su, cz, cn, f9]
    · simp [cC, su, cz, cn, hj]
  · refine ⟨if hj : j = k then Or.inr ⟨rfl, hj⟩ else Or.inl (Or.inl (Or.inl (Or.inl ((show (j : Int) < S 5 0 0 by have h9 : (j : Int) < S 5 0 0 + 1 := hk; omega))))), fun _ => ?_, fun g hg => absurd hg (by simp [cNf])⟩
    funext q
    by_cases hj : j = k
    · subst hj
      simp [cC, su, cz, cn, f21]
    · simp [cC, su, cz, cn, hj]
  · have hk1 : ((j / 4 : Nat) : Int) < S 5 0 0 + 1 := hk.1
    have hk2 : ((j % 4 : Nat) : Int) < S 15 (j / 4) 0 := hk.2
    have hne : j / 4 ≠ k := fun q => by rw [q, f15] at hk2; omega
    refine ⟨Or.inl (Or.inl (Or.inl (Or.inl ⟨by omega, hk2⟩))), fun q => absurd q (by omega), fun g hg => ?_⟩
    have hg : g < 4 := hg
    rcases g with _ | _ | _ | _ | g <;> first | rfl | (exfalso; omega)
  · refine ⟨Or.inl (Or.inl (Or.inl (Or.inl hk))), fun q => absurd q (by omega), fun g hg => ?_⟩
    have hg : g < 5 := hg
    rcases g with _ | _ | _ | _ | _ | g <;> first | rfl | (exfalso; omega)
  · exact False.elim hk
set_option maxHeartbeats 4000000 in
theorem cl_machRR (S : sT) (E : Nat → Int) (rt : Int) (k j2 i : Nat) (t a : Int) (hk9 : S 5 0 0 = (k : Int)) (hk0 : k = j2 + 1) (ha : a = (i : Int)) (hi : i < k) (hf : S 6 k 0 = 0 ∧ S 8 k 0 = 0 ∧ S 10 k 0 = 0 ∧ S 11 k 0 = 0 ∧ S 22 k 0 = 0 ∧ S 15 k 0 = 0 ∧ (∀ q, S 9 k q = 0) ∧ ∀ q, S 21 k q = 0) : ∀ K j, cAl (su (su (su (su (su (su (su S 0 k 0 t) 1 k 0 a) 2 k 0 (-1)) 3 k 0 1) 4 k 0 0) 2 i 0 (S 5 0 0)) 5 0 0 (S 5 0 0 + 1)) K j → alU (alU (alU (alU (cAl S) 2 k) 3 k) 4 k) 5 k K j ∧ ((K = 1 ∨ K = 4 ∨ K = 5 → cC (su (su (su (su (su (su (su S 0 k 0 t) 1 k 0 a) 2 k 0 (-1)) 3 k 0 1) 4 k 0 0) 2 i 0 (S 5 0 0)) 5 0 0 (S 5 0 0 + 1)) (va_up E k (-1)) rt K j = (su (su (su (su (su (su (su (su (cz (su (su (su (cz (su (cn (cn (cC S E rt) 2 k) 3 k) 3 k 0 1) 4 k) 3 k 2 (k : Int)) 2 k 4 (k : Int)) 2 k 9 (-1)) 5 k) 2 k 15 (k : Int)) 2 k 0 (k : Int)) 2 k 1 t) 2 k 2 (j2)) 2 k 3 (i)) 0 0 2 (k : Int)) 2 i 5 (1)) 0 0 3 ((k : Int) + 1)) K j) ∧ ∀ g, g < cNf K → cC (su (su (su (su (su (su (su S 0 k 0 t) 1 k 0 a) 2 k 0 (-1)) 3 k 0 1) 4 k 0 0) 2 i 0 (S 5 0 0)) 5 0 0 (S 5 0 0 + 1)) (va_up E k (-1)) rt K j g = (su (su (su (su (su (su (su (su (cz (su (su (su (cz (su (cn (cn (cC S E rt) 2 k) 3 k) 3 k 0 1) 4 k) 3 k 2 (k : Int)) 2 k 4 (k : Int)) 2 k 9 (-1)) 5 k) 2 k 15 (k : Int)) 2 k 0 (k : Int)) 2 k 1 t) 2 k 2 (j2)) 2 k 3 (i)) 0 0 2 (k : Int)) 2 i 5 (1)) 0 0 3 ((k : Int) + 1)) K j g) := by
  intro K j hk
  obtain ⟨f6, f8, f10, f11, f22, f15, f9, f21⟩ := hf
  rcases K with _ | _ | _ | _ | _ | _ | _ | _ | K
  · have hj : j = 0 := hk
    subst hj
    refine ⟨Or.inl (Or.inl (Or.inl (Or.inl hk))), fun q => absurd q (by omega), fun g hg => ?_⟩
    have hg : g < 11 := hg
    rcases g with _ | _ | _ | _ | _ | _ | _ | _ | _ | _ | _ | g <;> first | rfl | (exfalso; omega) | (simp [cC, cX, su, cn, cz, hk9]; done) | (simp [cC, cX, su, cn, cz, hk9]; omega)
  · exact ⟨Or.inl (Or.inl (Or.inl (Or.inl hk))), fun _ => by funext g; simp [cC, su, cn, cz, show ¬ (27 + g % 3 = 0) by omega, show ¬ (27 + g % 3 = 1) by omega, show ¬ (27 + g % 3 = 2) by omega, show ¬ (27 + g % 3 = 3) by omega, show ¬ (27 + g % 3 = 4) by omega, show ¬ (27 + g % 3 = 5) by omega], fun g hg => absurd hg (by simp [cNf])⟩
  · refine ⟨if hj : j = k then Or.inl (Or.inl (Or.inl (Or.inr ⟨rfl, hj⟩))) else Or.inl (Or.inl (Or.inl (Or.inl ((show (j : Int) < S 5 0 0 by have h9 : (j : Int) < S 5 0 0 + 1 := hk; omega))))), fun q => absurd q (by omega), fun g hg => ?_⟩
    have hg : g < 16 := hg
    by_cases hj : j = k
    · subst hj
      have hki : ¬ j = i := by omega
      rcases g with _ | _ | _ | _ | _ | _ | _ | _ | _ | _ | _ | _ | _ | _ | _ | _ | g <;> first | rfl | (exfalso; omega) | (simp [cC, cM, su, cz, cn, va_up, cT, bZ, f6, f8, f15, f22, ha, hki]; done) | (simp [cC, cM, su, cz, cn, va_up, cT, bZ, f6, f8, f15, f22, ha, hki]; omega)
    · by_cases hji : j = i
      · subst hji
        rcases g with _ | _ | _ | _ | _ | _ | _ | _ | _ | _ | _ | _ | _ | _ | _ | _ | g <;> first | rfl | (exfalso; omega) | (simp [cC, cM, su, cz, cn, va_up, hj]; done) | (simp [cC, cM, su, cz, cn, va_up, hj, bZ]; omega)
      · rcases g with _ | _ | _ | _ | _ | _ | _ | _ | _ | _ | _ | _ | _ | _ | _ | _ | g <;> first | rfl | (exfalso; omega) | (simp [cC, cM, su, cz, cn, va_up, hj, hji]; done)
  · refine ⟨if hj : j = k then Or.inl (Or.inl (Or.inr ⟨rfl, hj⟩)) else Or.inl (Or.inl (Or.inl (Or.inl ((show (j : Int) < S 5 0 0 by have h9 : (j : Int) < S 5 0 0 + 1 := hk; omega))))), fun q => absurd q (by omega), fun g hg => ?_⟩
    have hg : g < 5 := hg
    by_cases hj : j = k
    · subst hj
      rcases g with _ | _ | _ | _ | _ | g <;> first | rfl | (exfalso; omega) | (simp [cC, cB, su, cz, cn, cT, f10, f11]; done)
    · rcases g with _ | _ | _ | _ | _ | g <;> first | rfl | (exfalso; omega) | (simp [cC, cB, su, cz, cn, hj]; done)
  · refine ⟨if hj : j = k then Or.inl (Or.inr ⟨rfl, hj⟩) else Or.inl (Or.inl (Or.inl (Or.inl ((show (j : Int) < S 5 0 0 by have h9 : (j : Int) < S 5 0 0 + 1 := hk; omega))))), fun _ => ?_, fun g hg => absurd hg (by simp [cNf])⟩
    funext q
    by_cases hj : j = k
    · subst hj
      simp [cC, su, cz, cn, f9]
    · simp [cC, su, cz, cn, hj]
  · refine ⟨if hj : j = k then Or.inr ⟨rfl, hj⟩ else Or.inl (Or.inl (Or.inl (Or.inl ((show (j : Int) < S 5 0 0 by have h9 : (j : Int) < S 5 0 0 + 1 := hk; omega))))), fun _ => ?_, fun g hg => absurd hg (by simp [cNf])⟩
    funext q
    by_cases hj : j = k
    · subst hj
      simp [cC, su, cz, cn, f21]
    · simp [cC, su, cz, cn, hj]
  · have hk1 : ((j / 4 : Nat) : Int) < S 5 0 0 + 1 := hk.1
    have hk2 : ((j % 4 : Nat) : Int) < S 15 (j / 4) 0 := hk.2
    have hne : j / 4 ≠ k := fun q => by rw [q, f15] at hk2; omega
    refine ⟨Or.inl (Or.inl (Or.inl (Or.inl ⟨by omega, hk2⟩))), fun q => absurd q (by omega), fun g hg => ?_⟩
    have hg : g < 4 := hg
    rcases g with _ | _ | _ | _ | g <;> first | rfl | (exfalso; omega)
  · refine ⟨Or.inl (Or.inl (Or.inl (Or.inl hk))), fun q => absurd q (by omega), fun g hg => ?_⟩
    have hg : g < 5 := hg
    rcases g with _ | _ | _ | _ | _ | g <;> first | rfl | (exfalso; omega)
  · exact False.elim hk
theorem nr_mach (S : sT) (E : Nat → Int) (rt : Int) (k T : Nat) (hT : T = 2 ∨ T = 3 ∨ T = 4 ∨ T = 5) (hk9 : S 5 0 0 = (k : Int)) (hI : Inv S) : nr (cC S E rt) (cAl S) T k := by
  intro K j hk f hf hc
  obtain ⟨hI5, hI25, hI20, hIM, hIL, hIR⟩ := hI
  rcases K with _ | _ | _ | _ | _ | _ | _ | _ | K
  · have hj : j = 0 := hk
    subst hj
    have hf : f < 11 := hf
    rcases hT with rfl | rfl | rfl | rfl <;> rcases f with _ | _ | _ | _ | _ | _ | _ | _ | _ | _ | _ | f
    all_goals first | (exfalso; omega) | exact absurd hc (by decide) | (show S 5 0 0 - 1 < 0 ∨ (S 5 0 0 - 1).toNat ≠ k; omega)
  · exact absurd hf (by simp [cNf])
  · have hj : (j : Int) < S 5 0 0 := hk
    have h1 := (hIL j hj).2.1
    have hf : f < 16 := hf
    rcases hT with rfl | rfl | rfl | rfl <;> rcases f with _ | _ | _ | _ | _ | _ | _ | _ | _ | _ | _ | _ | _ | _ | _ | _ | f
    all_goals first | (exfalso; omega) | exact absurd hc (by decide) | (show (j : Int) - 1 < 0 ∨ ((j : Int) - 1).toNat ≠ k; omega) | (show S 1 j 0 < 0 ∨ (S 1 j 0).toNat ≠ k; omega) | (show (j : Int) < 0 ∨ ((j : Int)).toNat ≠ k; omega)
  · have hj : (j : Int) < S 5 0 0 := hk
    have hf : f < 5 := hf
    rcases hT with rfl | rfl | rfl | rfl <;> rcases f with _ | _ | _ | _ | _ | f
    all_goals first | (exfalso; omega) | exact absurd hc (by decide) | (show (j : Int) < 0 ∨ ((j : Int)).toNat ≠ k; omega)
  · exact absurd hf (by simp [cNf])
  · exact absurd hf (by simp [cNf])
  · have hf : f < 4 := hf
    rcases hT with rfl | rfl | rfl | rfl <;> rcases f with _ | _ | _ | _ | f
    all_goals first | (exfalso; omega) | exact absurd hc (by decide)
  · have hf : f < 5 := hf
    rcases hT with rfl | rfl | rfl | rfl <;> rcases f with _ | _ | _ | _ | _ | f
    all_goals first | (exfalso; omega) | exact absurd hc (by decide)
  · exact False.elim hk
set_option maxHeartbeats 4000000 in
set_option maxRecDepth 100000 in
theorem m_X4_machine (l : Launch) (D : va_G) (cI cJ : ClassId) (A : Nat → Prop) (ad : Nat → Nat → Nat) (al : Nat → Nat → Prop) (S : sT) (E : Nat → Int) (rt t a : Int) (hal0 : al = cAl S) (ht0 : zB t) (ha0 : zB a) (hI : Inv S) (hfr : ∀ k : Nat, S 25 0 0 = 0 ∧ S 5 0 0 = (k : Int) → S 6 k 0 = 0 ∧ S 8 k 0 = 0 ∧ S 10 k 0 = 0 ∧ S 11 k 0 = 0 ∧ S 22 k 0 = 0 ∧ S 15 k 0 = 0 ∧ (∀ q, S 9 k q = 0) ∧ ∀ q, S 21 k q = 0) : Met l yX4_machine wsX4_machine ({ frames := 3, cells := 4, slots := 1033, locals := 64 }) (va_Pc [.ref (ad 0 0), .int (zI t), .int (zI a)] (fun U => gCU D cI cJ A ad al (cC S E rt) U ∧ va_Nw (.methodLinkNest RX2 11 yX0_init "LineEvents") U)) (gO (some (.int (zI (rmachV S t a)))) (fun U => ∃ ad1 : Nat → Nat → Nat, ad1 0 0 = ad 0 0 ∧ gCU D cI cJ A ad1 (cAl (rmachS S t a)) (cC (rmachS S t a) (if rmachV S t a = S 5 0 0 then va_up E (S 5 0 0).toNat (-1) else E) rt) U) A) 4 1033 A := by
  refine Met.ofW (cc := cX4_machine) (maxL := 5) (ret := (some .int)) (by decide) rfl ?_
  intro p e s m0 args below meth c s₁ B hml hv
  obtain ⟨rfl, ⟨hG, hK, hA⟩, hNw⟩ := hv
  have hx := B.exec
  have hb := B.bytes
  have hr := B.returns
  have hts := atoms_spec (ws := wsX4_machine) B.pre
  have hown : s.vm.findClass RX4 = some m0.cls := findClass_of_methodNamed B.named
  have hlocks := B.notSynchronized
  have hinX0 : ∀ w ∈ wsX00, w ∈ wsX4_machine := by decide +kernel
  have hinX2 : ∀ w ∈ wsX20, w ∈ wsX4_machine := by decide +kernel
  have hinX4 : ∀ w ∈ wsX40, w ∈ wsX4_machine := by decide +kernel
  have hS : va_S A s.heap s.heap [] := va_S.rf
  have hl := lv_entry ([.ref (ad 0 0), .int (zI t), .int (zI a)]) (n := 5) (Nat.le_of_ble_eq_true rfl)
  rw [lg_entry_eq]
  generalize (lg_sl ([.ref (ad 0 0), .int (zI t), .int (zI a)]) ++ List.replicate (5 - (lg_sl ([.ref (ad 0 0), .int (zI t), .int (zI a)])).length) Slot.unset).toArray = ls at hl ⊢
  replace hl : lv_has ls 5 [(0, .ref (ad 0 0)), (1, .int (zI t)), (2, .int (zI a))] := hl
  have hal : alS al S := by rw [hal0]; exact fun _ _ h => h
  obtain ⟨hI5, hI25, hI20, hIM, hIL, hIR⟩ := id hI
  refine lv_aload_n hx hb dX4_machine_0 rfl (lv_at hl 0 rfl) ?_
  refine lv_iload_n hx hb dX4_machine_1 rfl (lv_at hl 2 rfl) ?_
  refine c_callV (As := [.int (zI a)]) (rest := []) (Cn := RX4) (T := TX4) ⟨hx, hb, hml, hown, hts⟩ 0 0 (m_X4_find l D cI cJ A ad al S E rt hal a ha0 hI) (cwV 1 hts gX4_machine_X4_find rfl rfl rfl (by decide +kernel) ⟨Nat.le_of_ble_eq_true rfl, Nat.le_of_ble_eq_true rfl⟩) (hal 0 0 rfl) (by decide) rfl hK hG hS hA rfl hl.1 rfl (Nat.le_of_ble_eq_true rfl) dX4_machine_2 ⟨Nat.zero_le _, Nat.zero_le _⟩ (fun t9 H locs ht9 hB hS => ?_)
  have hG := hB.1; rw [ht9] at hG; clear hB ht9
  by_cases hz9 : 0 ≤ a ∧ a < S 5 0 0
  · obtain ⟨i, hi9⟩ : ∃ i : Nat, a = (i : Int) := ⟨a.toNat, by omega⟩
    have hi : (i : Int) < S 5 0 0 := by omega
    have hai : a.toNat = i := by omega
    refine W.eq (g2 := F0 m0 5 ls [.ref (ad 2 i)]) (by rw [if_pos hz9, rf_s hi9]; try rfl) ?_
    refine lv_astore_n (lv' := [(3, .ref (ad 2 i)), (0, .ref (ad 0 0)), (1, .int (zI t)), (2, .int (zI a))]) hx hb dX4_machine_5 rfl hl (by decide) rfl (fun ls hl => ?_)
    refine lv_iload_n hx hb dX4_machine_6 rfl (lv_at hl 3 rfl) ?_
    refine lv_iconst (v := zI (-1)) hx hb dX4_machine_7 rfl ?_
    refine z_icmp_eq (tgt := 22) hx hb dX4_machine_8 (by decide) ⟨by omega, by omega⟩ ⟨by decide, by decide⟩ (fun c_1 => ?_) (fun c_1 => ?_)
    · exfalso; omega
    · refine lv_aload_n hx hb dX4_machine_11 rfl (lv_at hl 0 rfl) ?_
      refine lv_ifnull hx hb dX4_machine_12 ?_
      refine lv_aload_n hx hb dX4_machine_15 rfl (lv_at hl 0 rfl) ?_
      refine c_getV (Cn := RX2) (T := TX2) hx hb hts 2 hinX2 hown hK hG i 5 (hal 2 i (show (i : Int) < S 5 0 0 by omega)) (by decide) rfl (by decide) (hts (.fieldLink RX4 21 "LineEvents$Machine" "followed" "Z") (by decide +kernel)) (cV_I (z := bZ (¬ S 2 i 0 = -1)) rfl (rfl)) dX4_machine_16 ?_
      refine z_ifb_ne (tgt := 26) hx hb dX4_machine_19 (by decide) (fun c_2 => ?_) (fun c_2 => ?_)
      · refine lv_iconst (v := zI 0) hx hb dX4_machine_26 rfl ?_
        refine lv_istore (lv' := [(4, .int (zI 0)), (3, .ref (ad 2 i)), (0, .ref (ad 0 0)), (1, .int (zI t)), (2, .int (zI a))]) hx hb dX4_machine_27 hl (by decide) rfl (fun ls hl => ?_)
        refine lv_aload_n hx hb dX4_machine_29 rfl (lv_at hl 2 rfl) ?_
        refine c_getV (Cn := RX4) (T := TX4) hx hb hts 0 hinX4 hown hK hG 0 1 (hal 0 0 rfl) (by decide) rfl (by decide) (hts (.fieldLink RX4 27 "LineEvents" "now" "I") (by decide +kernel)) (cV_I (z := S 25 0 0) rfl (rfl)) dX4_machine_30 ?_
        refine z_if_gt (tgt := 52) hx hb dX4_machine_33 (by decide) ⟨by omega, by omega⟩ (fun c_3 => ?_) (fun c_3 => ?_)
        · refine lv_iconst (v := zI (-1)) hx hb dX4_machine_52 rfl ?_
          have v9 : (-1) = rmachV S t a := by unfold rmachV; rw [if_neg (by first | omega | (rw [hai]; omega))]
          have e8 : rmachS S t a = S := by unfold rmachS; rw [if_neg (by first | omega | (rw [hai]; omega))]
          refine W.eq (congrArg (fun z => F0 m0 53 ls [.int (zI z)]) v9) ?_
          have e7 : (if rmachV S t a = S 5 0 0 then va_up E (S 5 0 0).toNat (-1) else E) = E := if_neg (by omega)
          rw [e8, e7]
          rw [hal0] at hG
          refine W.widen (Nat.le_of_ble_eq_true rfl) (Nat.le_of_ble_eq_true rfl) (k := 4) (n := 1033) ?_
          exact W.iret hx hb hr (fun t ht hW => ⟨rfl, ⟨ad, rfl, ⟨by rw [ht]; exact hG, va_K.moved hW.alike hK, fun q hq => hA q (Nat.le_trans hS.1 (by rw [← ht]; exact hq))⟩⟩, hS.F ht⟩) hS.2.2 dX4_machine_53
        · refine lv_iload_n hx hb dX4_machine_36 rfl (lv_at hl 3 rfl) ?_
          refine lv_iconst (v := zI 1) hx hb dX4_machine_37 rfl ?_
          refine lv_sipush (v := zI 10000) hx hb dX4_machine_38 (by decide) ?_
          refine c_callS (As := [.int (zI t), .int (zI 1), .int (zI 10000)]) (rest := []) ⟨hx, hb, hml, hown, hts⟩ (m_X4_within l D cI cJ A ad al S E rt hal t 1 10000 ⟨by omega, by omega⟩ ⟨by decide, by decide⟩ ⟨by decide, by decide⟩) (va_cwS 3 hts gX4_machine_X4_within rfl rfl rfl (by decide +kernel) ⟨Nat.le_of_ble_eq_true rfl, Nat.le_of_ble_eq_true rfl⟩) hK hG hS hA rfl hl.1 rfl (Nat.le_of_ble_eq_true rfl) dX4_machine_41 ⟨Nat.zero_le _, Nat.zero_le _⟩ (fun t9 H locs ht9 hB hS => ?_)
          have hG := hB.1; rw [ht9] at hG; clear hB ht9
          refine z_ifb_eq (tgt := 52) hx hb dX4_machine_44 (by decide) (fun c_4 => ?_) (fun c_4 => ?_)
          · refine lv_iconst (v := zI (-1)) hx hb dX4_machine_52 rfl ?_
            have v9 : (-1) = rmachV S t a := by unfold rmachV; rw [if_neg (by first | omega | (rw [hai]; omega))]
            have e8 : rmachS S t a = S := by unfold rmachS; rw [if_neg (by first | omega | (rw [hai]; omega))]
            refine W.eq (congrArg (fun z => F0 m0 53 ls [.int (zI z)]) v9) ?_
            have e7 : (if rmachV S t a = S 5 0 0 then va_up E (S 5 0 0).toNat (-1) else E) = E := if_neg (by omega)
            rw [e8, e7]
            rw [hal0] at hG
            refine W.widen (Nat.le_of_ble_eq_true rfl) (Nat.le_of_ble_eq_true rfl) (k := 4) (n := 1033) ?_
            exact W.iret hx hb hr (fun t ht hW => ⟨rfl, ⟨ad, rfl, ⟨by rw [ht]; exact hG, va_K.moved hW.alike hK, fun q hq => hA q (Nat.le_trans hS.1 (by rw [← ht]; exact hq))⟩⟩, hS.F ht⟩) hS.2.2 dX4_machine_53
          · refine lv_iload hx hb dX4_machine_47 (lv_at hl 0 rfl) ?_
            refine z_if_ne (tgt := 54) hx hb dX4_machine_49 (by decide) ⟨by decide, by decide⟩ (fun q => absurd q (by decide)) (fun _ => ?_)
            refine lv_iconst (v := zI (-1)) hx hb dX4_machine_52 rfl ?_
            have v9 : (-1) = rmachV S t a := by unfold rmachV; rw [if_neg (by first | omega | (rw [hai]; omega))]
            have e8 : rmachS S t a = S := by unfold rmachS; rw [if_neg (by first | omega | (rw [hai]; omega))]
            refine W.eq (congrArg (fun z => F0 m0 53 ls [.int (zI z)]) v9) ?_
            have e7 : (if rmachV S t a = S 5 0 0 then va_up E (S 5 0 0).toNat (-1) else E) = E := if_neg (by omega)
            rw [e8, e7]
            rw [hal0] at hG
            refine W.widen (Nat.le_of_ble_eq_true rfl) (Nat.le_of_ble_eq_true rfl) (k := 4) (n := 1033) ?_
            exact W.iret hx hb hr (fun t ht hW => ⟨rfl, ⟨ad, rfl, ⟨by rw [ht]; exact hG, va_K.moved hW.alike hK, fun q hq => hA q (Nat.le_trans hS.1 (by rw [← ht]; exact hq))⟩⟩, hS.F ht⟩) hS.2.2 dX4_machine_53
      · refine lv_iconst (v := zI 1) hx hb dX4_machine_22 rfl ?_
        refine lv_goto (tgt := 27) hx hb dX4_machine_23 (by decide) ?_
        refine lv_istore (lv' := [(4, .int (zI 1)), (3, .ref (ad 2 i)), (0, .ref (ad 0 0)), (1, .int (zI t)), (2, .int (zI a))]) hx hb dX4_machine_27 hl (by decide) rfl (fun ls hl => ?_)
        refine lv_aload_n hx hb dX4_machine_29 rfl (lv_at hl 2 rfl) ?_
        refine c_getV (Cn := RX4) (T := TX4) hx hb hts 0 hinX4 hown hK hG 0 1 (hal 0 0 rfl) (by decide) rfl (by decide) (hts (.fieldLink RX4 27 "LineEvents" "now" "I") (by decide +kernel)) (cV_I (z := S 25 0 0) rfl (rfl)) dX4_machine_30 ?_
        refine z_if_gt (tgt := 52) hx hb dX4_machine_33 (by decide) ⟨by omega, by omega⟩ (fun c_6 => ?_) (fun c_6 => ?_)
        · refine lv_iconst (v := zI (-1)) hx hb dX4_machine_52 rfl ?_
          have v9 : (-1) = rmachV S t a := by unfold rmachV; rw [if_neg (by first | omega | (rw [hai]; omega))]
          have e8 : rmachS S t a = S := by unfold rmachS; rw [if_neg (by first | omega | (rw [hai]; omega))]
          refine W.eq (congrArg (fun z => F0 m0 53 ls [.int (zI z)]) v9) ?_
          have e7 : (if rmachV S t a = S 5 0 0 then va_up E (S 5 0 0).toNat (-1) else E) = E := if_neg (by omega)
          rw [e8, e7]
          rw [hal0] at hG
          refine W.widen (Nat.le_of_ble_eq_true rfl) (Nat.le_of_ble_eq_true rfl) (k := 4) (n := 1033) ?_
          exact W.iret hx hb hr (fun t ht hW => ⟨rfl, ⟨ad, rfl, ⟨by rw [ht]; exact hG, va_K.moved hW.alike hK, fun q hq => hA q (Nat.le_trans hS.1 (by rw [← ht]; exact hq))⟩⟩, hS.F ht⟩) hS.2.2 dX4_machine_53
        · refine lv_iload_n hx hb dX4_machine_36 rfl (lv_at hl 3 rfl) ?_
          refine lv_iconst (v := zI 1) hx hb dX4_machine_37 rfl ?_
          refine lv_sipush (v := zI 10000) hx hb dX4_machine_38 (by decide) ?_
          refine c_callS (As := [.int (zI t), .int (zI 1), .int (zI 10000)]) (rest := []) ⟨hx, hb, hml, hown, hts⟩ (m_X4_within l D cI cJ A ad al S E rt hal t 1 10000 ⟨by omega, by omega⟩ ⟨by decide, by decide⟩ ⟨by decide, by decide⟩) (va_cwS 3 hts gX4_machine_X4_within rfl rfl rfl (by decide +kernel) ⟨Nat.le_of_ble_eq_true rfl, Nat.le_of_ble_eq_true rfl⟩) hK hG hS hA rfl hl.1 rfl (Nat.le_of_ble_eq_true rfl) dX4_machine_41 ⟨Nat.zero_le _, Nat.zero_le _⟩ (fun t9 H locs ht9 hB hS => ?_)
          have hG := hB.1; rw [ht9] at hG; clear hB ht9
          refine z_ifb_eq (tgt := 52) hx hb dX4_machine_44 (by decide) (fun c_7 => ?_) (fun c_7 => ?_)
          · refine lv_iconst (v := zI (-1)) hx hb dX4_machine_52 rfl ?_
            have v9 : (-1) = rmachV S t a := by unfold rmachV; rw [if_neg (by first | omega | (rw [hai]; omega))]
            have e8 : rmachS S t a = S := by unfold rmachS; rw [if_neg (by first | omega | (rw [hai]; omega))]
            refine W.eq (congrArg (fun z => F0 m0 53 ls [.int (zI z)]) v9) ?_
            have e7 : (if rmachV S t a = S 5 0 0 then va_up E (S 5 0 0).toNat (-1) else E) = E := if_neg (by omega)
            rw [e8, e7]
            rw [hal0] at hG
            refine W.widen (Nat.le_of_ble_eq_true rfl) (Nat.le_of_ble_eq_true rfl) (k := 4) (n := 1033) ?_
            exact W.iret hx hb hr (fun t ht hW => ⟨rfl, ⟨ad, rfl, ⟨by rw [ht]; exact hG, va_K.moved hW.alike hK, fun q hq => hA q (Nat.le_trans hS.1 (by rw [← ht]; exact hq))⟩⟩, hS.F ht⟩) hS.2.2 dX4_machine_53
          · refine lv_iload hx hb dX4_machine_47 (lv_at hl 0 rfl) ?_
            refine z_if_ne (tgt := 54) hx hb dX4_machine_49 (by decide) ⟨by decide, by decide⟩ (fun _ => ?_) (fun q => absurd q (by decide))
            refine lv_aload_n hx hb dX4_machine_54 rfl (lv_at hl 2 rfl) ?_
            refine c_getV (Cn := RX4) (T := TX4) hx hb hts 0 hinX4 hown hK hG 0 3 (hal 0 0 rfl) (by decide) rfl (by decide) (hts (.fieldLink RX4 35 "LineEvents" "machineCount" "I") (by decide +kernel)) (cV_I (z := S 5 0 0) rfl (rfl)) dX4_machine_55 ?_
            refine lv_bipush (v := zI 12) hx hb dX4_machine_58 (by decide) ?_
            refine z_icmp_lt (tgt := 66) hx hb dX4_machine_60 (by decide) ⟨by omega, by omega⟩ ⟨by decide, by decide⟩ (fun c_9 => ?_) (fun c_9 => ?_)
            · obtain ⟨k, hk9⟩ : ∃ k : Nat, S 5 0 0 = (k : Int) := ⟨(S 5 0 0).toNat, by omega⟩
              have hk8 : (S 5 0 0).toNat = k := by omega
              have hfk := hfr k (by omega)
              obtain ⟨j2, hj2⟩ : ∃ j : Nat, k = j + 1 := ⟨k - 1, by omega⟩
              refine lv_aload_n hx hb dX4_machine_66 rfl (lv_at hl 2 rfl) ?_
              have h2k : ¬ al 2 k := by rw [hal0]; intro q; have q2 : (k : Int) < S 5 0 0 := q; omega
              have h3k : ¬ alU al 2 k 3 k := by
                rw [hal0]
                rintro (q | q)
                · have q2 : (k : Int) < S 5 0 0 := q
                  omega
                · exact absurd q.1 (by decide)
              have h4k : ¬ alU al 2 k 4 k := by
                rw [hal0]
                rintro (q | q)
                · have q2 : (k : Int) < S 5 0 0 := q
                  omega
                · exact absurd q.1 (by decide)
              have h5k : ¬ alU al 2 k 5 k := by
                rw [hal0]
                rintro (q | q)
                · have q2 : (k : Int) < S 5 0 0 := q
                  omega
                · exact absurd q.1 (by decide)
              have hnr : ∀ T, T = 2 ∨ T = 3 ∨ T = 4 ∨ T = 5 → nr (cC S E rt) al T k := fun T hT => by rw [hal0]; exact nr_mach S E rt k T hT hk9 hI
              refine c_new hx hb hts 2 k hinX2 tyX2 tyX2_ok hown (hts (.classLink RX4 22 RX2) (by decide +kernel)) (hts (.instantiable RX2 16) (by decide +kernel)) (hts (.initialized RX2) (by decide +kernel)) hK hG hS hA (by decide) rfl dfX2 (Nat.le_of_ble_eq_true rfl) (Nat.le_of_ble_eq_true rfl) (C' := cn (cC S E rt) 2 k) h2k (hnr 2 (by decide)) (fun k j hk => cn_o (fun q => h2k (by rw [← q.1, ← q.2]; exact hk))) (fun f _ => cn_s _ _ _ f) dX4_machine_67 (fun q9 H hG hS => ?_)
              generalize had10 : adU ad 2 k q9 = ad10 at hG ⊢
              have hq10 : ∀ k8 i8, ¬ (k8 = 2 ∧ i8 = k) → ad10 k8 i8 = ad k8 i8 := fun k8 i8 h => by rw [← had10]; exact adU_ne h
              have r11 : ad10 2 i = ad 2 i := hq10 2 i (fun q => absurd q.2 (by omega))
              have r12 : ad10 0 0 = ad 0 0 := hq10 0 0 (fun q => absurd q.1 (by decide))
              replace hl : lv_has ls 5 [(4, .int (zI 1)), (3, .ref (ad10 2 i)), (0, .ref (ad10 0 0)), (1, .int (zI t)), (2, .int (zI a))] := by rw [r11, r12]; exact hl
              refine W.eq (g2 := F0 m0 70 ls [.ref (ad10 2 k), .ref (ad10 0 0)]) (by rw [r12]; try rfl) ?_
              refine lv_dup hx hb dX4_machine_70 rfl ?_
              refine lv_aload_n hx hb dX4_machine_71 rfl (lv_at hl 2 rfl) ?_
              refine c_getV (Cn := RX4) (T := TX4) hx hb hts 0 hinX4 hown hK hG 0 3 (Or.inl (hal 0 0 rfl)) (by decide) rfl (by decide) (hts (.fieldLink RX4 35 "LineEvents" "machineCount" "I") (by decide +kernel)) (cV_I (z := (k : Int)) rfl (hk9)) dX4_machine_72 ?_
              refine lv_iload_n hx hb dX4_machine_75 rfl (lv_at hl 3 rfl) ?_
              refine lv_aload_n hx hb dX4_machine_76 rfl (lv_at hl 2 rfl) ?_
              have hv9 : (cn (cC S E rt) 2 k) 0 0 2 = (j2 : Int) := by show S 5 0 0 - 1 = _; omega
              refine c_getV (Cn := RX4) (T := TX4) hx hb hts 0 hinX4 hown hK hG 0 2 (Or.inl (hal 0 0 rfl)) (by decide) rfl (by decide) (hts (.fieldLink RX4 38 "LineEvents" "highest" "LLineEvents$Machine;") (by decide +kernel)) (cV_R (t := 2) (j := j2) rfl hv9) dX4_machine_77 ?_
              refine lv_aload_n hx hb dX4_machine_80 rfl (lv_at hl 1 rfl) ?_
              refine c_callI (As := [.int (zI (k : Int)), .int (zI t), .ref (ad10 2 j2), .ref (ad10 2 i)]) (rest := [.ref (ad10 2 k), .ref (ad10 0 0)]) ⟨hx, hb, hml, hown, hts⟩ (ad10 2 k) (m_X2_initRR l D cI cJ A ad10 (alU al 2 k) (cn (cC S E rt) 2 k) k j2 i t (Or.inr ⟨rfl, rfl⟩) h3k h4k h5k (nr_cn (hnr 3 (by decide))) (nr_cn (hnr 4 (by decide))) (nr_cn (hnr 5 (by decide))) (Or.inl (hal 2 i hi)) (by omega) (by show cn (cC S E rt) 2 k 2 i 4 = (i : Int); rw [cn_o (fun q => absurd q.2 (by omega))]; rfl)) (cwI 4 hts gX4_machine_X2_init rfl rfl rfl (hts (.initialized RX2) (by decide +kernel)) (hts (.methodLink RX4 42 yX2_init) (by decide +kernel)) (hts (.instanceMethod yX2_init) (by decide +kernel)) rfl (by decide +kernel) ⟨Nat.le_of_ble_eq_true rfl, Nat.le_of_ble_eq_true rfl⟩) (⟨gCN_blind rfl, fun U hU hW => ⟨rfl, ⟨by rw [hU]; exact hG, va_K.moved hW.alike hK, fun q hq => hA q (Nat.le_trans hS.1 (by rw [← hU]; exact hq))⟩, va_Nw.warmM hW hNw⟩⟩) hS rfl hl.1 rfl (Nat.le_of_ble_eq_true rfl) dX4_machine_81 ⟨Nat.le_of_ble_eq_true rfl, Nat.le_of_ble_eq_true rfl⟩ (fun t9 H locs ht9 hB hS => ?_)
              obtain ⟨ad13, hq13, hG, -, -⟩ := hB
              rw [ht9] at hG; clear ht9
              have r14 : ad13 2 i = ad10 2 i := hq13 2 i (fun q => absurd q.1 (by decide))
              have r15 : ad13 0 0 = ad10 0 0 := hq13 0 0 (fun q => absurd q.1 (by decide))
              have r16 : ad13 2 k = ad10 2 k := hq13 2 k (fun q => absurd q.1 (by decide))
              replace hl : lv_has ls 5 [(4, .int (zI 1)), (3, .ref (ad13 2 i)), (0, .ref (ad13 0 0)), (1, .int (zI t)), (2, .int (zI a))] := by rw [r14, r15]; exact hl
              refine W.eq (g2 := F0 m0 84 ls [.ref (ad13 2 k), .ref (ad13 0 0)]) (by rw [r15, r16]; try rfl) ?_
              refine c_putV (Cn := RX4) (T := TX4) (z := (k : Int)) hx hb hts 0 hinX4 tyX4 tyX4_ok nmX4 hown hK hG hS 0 2 (Or.inl (Or.inl (Or.inl (Or.inl (hal 0 0 rfl))))) (by decide) rfl (by decide) (hts (.fieldLink RX4 38 "LineEvents" "highest" "LLineEvents$Machine;") (by decide +kernel)) (Or.inl rfl) (cV_R (t := 2) (j := k) rfl rfl) rfl rfl dX4_machine_84 (fun H locs hG hS => ?_)
              refine lv_aload_n hx hb dX4_machine_87 rfl (lv_at hl 1 rfl) ?_
              refine lv_ifnull hx hb dX4_machine_88 ?_
              refine lv_aload_n hx hb dX4_machine_91 rfl (lv_at hl 1 rfl) ?_
              refine lv_iconst (v := zI 1) hx hb dX4_machine_92 rfl ?_
              refine c_putV (Cn := RX2) (T := TX2) (z := 1) hx hb hts 2 hinX2 tyX2 tyX2_ok nmX2 hown hK hG hS i 5 (Or.inl (Or.inl (Or.inl (Or.inl (hal 2 i (show (i : Int) < S 5 0 0 by omega)))))) (by decide) rfl (by decide) (hts (.fieldLink RX4 21 "LineEvents$Machine" "followed" "Z") (by decide +kernel)) (Or.inl rfl) (cV_I (z := 1) rfl rfl) (by decide +kernel) rfl dX4_machine_93 (fun H locs hG hS => ?_)
              refine lv_aload_n hx hb dX4_machine_96 rfl (lv_at hl 2 rfl) ?_
              refine lv_dup hx hb dX4_machine_97 rfl ?_
              refine c_getV (Cn := RX4) (T := TX4) hx hb hts 0 hinX4 hown hK hG 0 3 (Or.inl (Or.inl (Or.inl (Or.inl (hal 0 0 rfl))))) (by decide) rfl (by decide) (hts (.fieldLink RX4 35 "LineEvents" "machineCount" "I") (by decide +kernel)) (cV_I (z := (k : Int)) rfl ((su_v (by decide)).trans ((su_f (by decide)).trans (hk9)))) dX4_machine_98 ?_
              refine lv_iconst (v := zI 1) hx hb dX4_machine_101 rfl ?_
              refine z_iadd hx hb dX4_machine_102 ?_
              refine c_putV (Cn := RX4) (T := TX4) (z := (k : Int) + 1) hx hb hts 0 hinX4 tyX4 tyX4_ok nmX4 hown hK hG hS 0 3 (Or.inl (Or.inl (Or.inl (Or.inl (hal 0 0 rfl))))) (by decide) rfl (by decide) (hts (.fieldLink RX4 35 "LineEvents" "machineCount" "I") (by decide +kernel)) (Or.inl rfl) (cV_I (z := (k : Int) + 1) rfl rfl) rfl rfl dX4_machine_103 (fun H locs hG hS => ?_)
              refine lv_aload_n hx hb dX4_machine_106 rfl (lv_at hl 2 rfl) ?_
              refine c_getV (Cn := RX4) (T := TX4) hx hb hts 0 hinX4 hown hK hG 0 2 (Or.inl (Or.inl (Or.inl (Or.inl (hal 0 0 rfl))))) (by decide) rfl (by decide) (hts (.fieldLink RX4 38 "LineEvents" "highest" "LLineEvents$Machine;") (by decide +kernel)) (cV_R (t := 2) (j := k) rfl ((su_f (by decide)).trans ((su_v (by decide)).trans ((su_same _ _ _ _ _))))) dX4_machine_107 ?_
              have hv9 : (su (su (su (su (su (su (su (su (cz (su (su (su (cz (su (cn (cn (cC S E rt) 2 k) 3 k) 3 k 0 1) 4 k) 3 k 2 (k : Int)) 2 k 4 (k : Int)) 2 k 9 (-1)) 5 k) 2 k 15 (k : Int)) 2 k 0 (k : Int)) 2 k 1 t) 2 k 2 (j2)) 2 k 3 (i)) 0 0 2 ((k : Int))) 2 i 5 (1)) 0 0 3 ((k : Int) + 1)) 2 k 0 = (k : Int) := by simp [su, cz, cn]
              refine c_getV (Cn := RX2) (T := TX2) hx hb hts 2 hinX2 hown hK hG k 0 (Or.inl (Or.inl (Or.inl (Or.inr ⟨rfl, rfl⟩)))) (by decide) rfl (by decide) (hts (.fieldLink RX4 45 "LineEvents$Machine" "number" "I") (by decide +kernel)) (cV_I (z := (k : Int)) rfl hv9) dX4_machine_110 ?_
              have v8 : rmachV S t a = S 5 0 0 := by unfold rmachV; rw [if_pos (by rw [hai]; omega), if_neg (by omega)]
              have v9 : (k : Int) = rmachV S t a := by omega
              refine W.eq (congrArg (fun z => F0 m0 113 ls [.int (zI z)]) v9) ?_
              have e8 : rmachS S t a = (su (su (su (su (su (su (su S 0 k 0 t) 1 k 0 a) 2 k 0 (-1)) 3 k 0 1) 4 k 0 0) 2 i 0 (S 5 0 0)) 5 0 0 (S 5 0 0 + 1)) := by unfold rmachS; rw [if_pos (by rw [hai]; omega), if_neg (by omega), if_neg (by omega), hk8, hai]
              have e7 : (if rmachV S t a = S 5 0 0 then va_up E (S 5 0 0).toNat (-1) else E) = va_up E k (-1) := by rw [if_pos v8, hk8]
              rw [e8, e7]
              rw [hal0] at hG
              have hcl := cl_machRR S E rt k j2 i t a hk9 hj2 hi9 (by omega) hfk
              have hG := gC_eqf (gC_al hG (fun k j h => (hcl k j h).1)) (fun k j h => (hcl k j h).2)
              exact W.iret hx hb hr (fun t ht hW => ⟨rfl, ⟨ad13, by rw [hq13 0 0 (fun q => absurd q.1 (by decide)), hq10 0 0 (fun q => absurd q.1 (by decide))], ⟨by rw [ht]; exact hG, va_K.moved hW.alike hK, fun q hq => hA q (Nat.le_trans hS.1 (by rw [← ht]; exact hq))⟩⟩, hS.F ht⟩) hS.2.2 dX4_machine_113
            · refine lv_bipush (v := zI (-2)) hx hb dX4_machine_63 (by decide) ?_
              have v9 : (-2) = rmachV S t a := by unfold rmachV; rw [if_pos (by rw [hai]; omega), if_pos (by omega)]
              have e8 : rmachS S t a = S := by unfold rmachS; rw [if_pos (by rw [hai]; omega), if_pos (by omega)]
              refine W.eq (congrArg (fun z => F0 m0 65 ls [.int (zI z)]) v9) ?_
              have e7 : (if rmachV S t a = S 5 0 0 then va_up E (S 5 0 0).toNat (-1) else E) = E := if_neg (by omega)
              rw [e8, e7]
              rw [hal0] at hG
              refine W.widen (Nat.le_of_ble_eq_true rfl) (Nat.le_of_ble_eq_true rfl) (k := 4) (n := 1033) ?_
              exact W.iret hx hb hr (fun t ht hW => ⟨rfl, ⟨ad, rfl, ⟨by rw [ht]; exact hG, va_K.moved hW.alike hK, fun q hq => hA q (Nat.le_trans hS.1 (by rw [← ht]; exact hq))⟩⟩, hS.F ht⟩) hS.2.2 dX4_machine_65
  · refine W.eq (g2 := F0 m0 5 ls [.null]) (by rw [if_neg hz9, rf_n (by decide)]; try rfl) ?_
    refine lv_astore_nN (lv' := [(3, .null), (0, .ref (ad 0 0)), (1, .int (zI t)), (2, .int (zI a))]) hx hb dX4_machine_5 rfl hl (by decide) rfl (fun ls hl => ?_)
    refine lv_iload_n hx hb dX4_machine_6 rfl (lv_at hl 3 rfl) ?_
    refine lv_iconst (v := zI (-1)) hx hb dX4_machine_7 rfl ?_
    refine z_icmp_eq (tgt := 22) hx hb dX4_machine_8 (by decide) ⟨by omega, by omega⟩ ⟨by decide, by decide⟩ (fun c_17 => ?_) (fun c_17 => ?_)
    · refine lv_iconst (v := zI 1) hx hb dX4_machine_22 rfl ?_
      refine lv_goto (tgt := 27) hx hb dX4_machine_23 (by decide) ?_
      refine lv_istore (lv' := [(4, .int (zI 1)), (3, .null), (0, .ref (ad 0 0)), (1, .int (zI t)), (2, .int (zI a))]) hx hb dX4_machine_27 hl (by decide) rfl (fun ls hl => ?_)
      refine lv_aload_n hx hb dX4_machine_29 rfl (lv_at hl 2 rfl) ?_
      refine c_getV (Cn := RX4) (T := TX4) hx hb hts 0 hinX4 hown hK hG 0 1 (hal 0 0 rfl) (by decide) rfl (by decide) (hts (.fieldLink RX4 27 "LineEvents" "now" "I") (by decide +kernel)) (cV_I (z := S 25 0 0) rfl (rfl)) dX4_machine_30 ?_
      refine z_if_gt (tgt := 52) hx hb dX4_machine_33 (by decide) ⟨by omega, by omega⟩ (fun c_18 => ?_) (fun c_18 => ?_)
      · refine lv_iconst (v := zI (-1)) hx hb dX4_machine_52 rfl ?_
        have v9 : (-1) = rmachV S t a := by unfold rmachV; rw [if_neg (by omega)]
        have e8 : rmachS S t a = S := by unfold rmachS; rw [if_neg (by omega)]
        refine W.eq (congrArg (fun z => F0 m0 53 ls [.int (zI z)]) v9) ?_
        have e7 : (if rmachV S t a = S 5 0 0 then va_up E (S 5 0 0).toNat (-1) else E) = E := if_neg (by omega)
        rw [e8, e7]
        rw [hal0] at hG
        refine W.widen (Nat.le_of_ble_eq_true rfl) (Nat.le_of_ble_eq_true rfl) (k := 4) (n := 1033) ?_
        exact W.iret hx hb hr (fun t ht hW => ⟨rfl, ⟨ad, rfl, ⟨by rw [ht]; exact hG, va_K.moved hW.alike hK, fun q hq => hA q (Nat.le_trans hS.1 (by rw [← ht]; exact hq))⟩⟩, hS.F ht⟩) hS.2.2 dX4_machine_53
      · refine lv_iload_n hx hb dX4_machine_36 rfl (lv_at hl 3 rfl) ?_
        refine lv_iconst (v := zI 1) hx hb dX4_machine_37 rfl ?_
        refine lv_sipush (v := zI 10000) hx hb dX4_machine_38 (by decide) ?_
        refine c_callS (As := [.int (zI t), .int (zI 1), .int (zI 10000)]) (rest := []) ⟨hx, hb, hml, hown, hts⟩ (m_X4_within l D cI cJ A ad al S E rt hal t 1 10000 ⟨by omega, by omega⟩ ⟨by decide, by decide⟩ ⟨by decide, by decide⟩) (va_cwS 3 hts gX4_machine_X4_within rfl rfl rfl (by decide +kernel) ⟨Nat.le_of_ble_eq_true rfl, Nat.le_of_ble_eq_true rfl⟩) hK hG hS hA rfl hl.1 rfl (Nat.le_of_ble_eq_true rfl) dX4_machine_41 ⟨Nat.zero_le _, Nat.zero_le _⟩ (fun t9 H locs ht9 hB hS => ?_)
        have hG := hB.1; rw [ht9] at hG; clear hB ht9
        refine z_ifb_eq (tgt := 52) hx hb dX4_machine_44 (by decide) (fun c_19 => ?_) (fun c_19 => ?_)
        · refine lv_iconst (v := zI (-1)) hx hb dX4_machine_52 rfl ?_
          have v9 : (-1) = rmachV S t a := by unfold rmachV; rw [if_neg (by omega)]
          have e8 : rmachS S t a = S := by unfold rmachS; rw [if_neg (by omega)]
          refine W.eq (congrArg (fun z => F0 m0 53 ls [.int (zI z)]) v9) ?_
          have e7 : (if rmachV S t a = S 5 0 0 then va_up E (S 5 0 0).toNat (-1) else E) = E := if_neg (by omega)
          rw [e8, e7]
          rw [hal0] at hG
          refine W.widen (Nat.le_of_ble_eq_true rfl) (Nat.le_of_ble_eq_true rfl) (k := 4) (n := 1033) ?_
          exact W.iret hx hb hr (fun t ht hW => ⟨rfl, ⟨ad, rfl, ⟨by rw [ht]; exact hG, va_K.moved hW.alike hK, fun q hq => hA q (Nat.le_trans hS.1 (by rw [← ht]; exact hq))⟩⟩, hS.F ht⟩) hS.2.2 dX4_machine_53
        · refine lv_iload hx hb dX4_machine_47 (lv_at hl 0 rfl) ?_
          refine z_if_ne (tgt := 54) hx hb dX4_machine_49 (by decide) ⟨by decide, by decide⟩ (fun _ => ?_) (fun q => absurd q (by decide))
          refine lv_aload_n hx hb dX4_machine_54 rfl (lv_at hl 2 rfl) ?_
          refine c_getV (Cn := RX4) (T := TX4) hx hb hts 0 hinX4 hown hK hG 0 3 (hal 0 0 rfl) (by decide) rfl (by decide) (hts (.fieldLink RX4 35 "LineEvents" "machineCount" "I") (by decide +kernel)) (cV_I (z := S 5 0 0) rfl (rfl)) dX4_machine_55 ?_
          refine lv_bipush (v := zI 12) hx hb dX4_machine_58 (by decide) ?_
          refine z_icmp_lt (tgt := 66) hx hb dX4_machine_60 (by decide) ⟨by omega, by omega⟩ ⟨by decide, by decide⟩ (fun c_21 => ?_) (fun c_21 => ?_)
          · obtain ⟨k, hk9⟩ : ∃ k : Nat, S 5 0 0 = (k : Int) := ⟨(S 5 0 0).toNat, by omega⟩
            have hk8 : (S 5 0 0).toNat = k := by omega
            have hfk := hfr k (by omega)
            by_cases hk0 : k = 0
            · have hk0b := hk0
              refine lv_aload_n hx hb dX4_machine_66 rfl (lv_at hl 2 rfl) ?_
              have h2k : ¬ al 2 k := by rw [hal0]; intro q; have q2 : (k : Int) < S 5 0 0 := q; omega
              have h3k : ¬ alU al 2 k 3 k := by
                rw [hal0]
                rintro (q | q)
                · have q2 : (k : Int) < S 5 0 0 := q
                  omega
                · exact absurd q.1 (by decide)
              have h4k : ¬ alU al 2 k 4 k := by
                rw [hal0]
                rintro (q | q)
                · have q2 : (k : Int) < S 5 0 0 := q
                  omega
                · exact absurd q.1 (by decide)
              have h5k : ¬ alU al 2 k 5 k := by
                rw [hal0]
                rintro (q | q)
                · have q2 : (k : Int) < S 5 0 0 := q
                  omega
                · exact absurd q.1 (by decide)
              have hnr : ∀ T, T = 2 ∨ T = 3 ∨ T = 4 ∨ T = 5 → nr (cC S E rt) al T k := fun T hT => by rw [hal0]; exact nr_mach S E rt k T hT hk9 hI
              refine c_new hx hb hts 2 k hinX2 tyX2 tyX2_ok hown (hts (.classLink RX4 22 RX2) (by decide +kernel)) (hts (.instantiable RX2 16) (by decide +kernel)) (hts (.initialized RX2) (by decide +kernel)) hK hG hS hA (by decide) rfl dfX2 (Nat.le_of_ble_eq_true rfl) (Nat.le_of_ble_eq_true rfl) (C' := cn (cC S E rt) 2 k) h2k (hnr 2 (by decide)) (fun k j hk => cn_o (fun q => h2k (by rw [← q.1, ← q.2]; exact hk))) (fun f _ => cn_s _ _ _ f) dX4_machine_67 (fun q9 H hG hS => ?_)
              generalize had22 : adU ad 2 k q9 = ad22 at hG ⊢
              have hq22 : ∀ k8 i8, ¬ (k8 = 2 ∧ i8 = k) → ad22 k8 i8 = ad k8 i8 := fun k8 i8 h => by rw [← had22]; exact adU_ne h
              have r23 : ad22 0 0 = ad 0 0 := hq22 0 0 (fun q => absurd q.1 (by decide))
              replace hl : lv_has ls 5 [(4, .int (zI 1)), (3, .null), (0, .ref (ad22 0 0)), (1, .int (zI t)), (2, .int (zI a))] := by rw [r23]; exact hl
              refine W.eq (g2 := F0 m0 70 ls [.ref (ad22 2 k), .ref (ad22 0 0)]) (by rw [r23]; try rfl) ?_
              refine lv_dup hx hb dX4_machine_70 rfl ?_
              refine lv_aload_n hx hb dX4_machine_71 rfl (lv_at hl 2 rfl) ?_
              refine c_getV (Cn := RX4) (T := TX4) hx hb hts 0 hinX4 hown hK hG 0 3 (Or.inl (hal 0 0 rfl)) (by decide) rfl (by decide) (hts (.fieldLink RX4 35 "LineEvents" "machineCount" "I") (by decide +kernel)) (cV_I (z := (k : Int)) rfl (hk9)) dX4_machine_72 ?_
              refine lv_iload_n hx hb dX4_machine_75 rfl (lv_at hl 3 rfl) ?_
              refine lv_aload_n hx hb dX4_machine_76 rfl (lv_at hl 2 rfl) ?_
              have hv9 : (cn (cC S E rt) 2 k) 0 0 2 = -1 := by show S 5 0 0 - 1 = _; omega
              refine c_getV (Cn := RX4) (T := TX4) hx hb hts 0 hinX4 hown hK hG 0 2 (Or.inl (hal 0 0 rfl)) (by decide) rfl (by decide) (hts (.fieldLink RX4 38 "LineEvents" "highest" "LLineEvents$Machine;") (by decide +kernel)) (cV_N (t := 2) rfl (by rw [hv9]; decide)) dX4_machine_77 ?_
              refine lv_aload_nN hx hb dX4_machine_80 rfl (lv_at hl 1 rfl) ?_
              refine c_callI (As := [.int (zI (k : Int)), .int (zI t), .null, .null]) (rest := [.ref (ad22 2 k), .ref (ad22 0 0)]) ⟨hx, hb, hml, hown, hts⟩ (ad22 2 k) (m_X2_initNN l D cI cJ A ad22 (alU al 2 k) (cn (cC S E rt) 2 k) k t (Or.inr ⟨rfl, rfl⟩) h3k h4k h5k (nr_cn (hnr 3 (by decide))) (nr_cn (hnr 4 (by decide))) (nr_cn (hnr 5 (by decide)))) (cwI 4 hts gX4_machine_X2_init rfl rfl rfl (hts (.initialized RX2) (by decide +kernel)) (hts (.methodLink RX4 42 yX2_init) (by decide +kernel)) (hts (.instanceMethod yX2_init) (by decide +kernel)) rfl (by decide +kernel) ⟨Nat.le_of_ble_eq_true rfl, Nat.le_of_ble_eq_true rfl⟩) (⟨gCN_blind rfl, fun U hU hW => ⟨rfl, ⟨by rw [hU]; exact hG, va_K.moved hW.alike hK, fun q hq => hA q (Nat.le_trans hS.1 (by rw [← hU]; exact hq))⟩, va_Nw.warmM hW hNw⟩⟩) hS rfl hl.1 rfl (Nat.le_of_ble_eq_true rfl) dX4_machine_81 ⟨Nat.le_of_ble_eq_true rfl, Nat.le_of_ble_eq_true rfl⟩ (fun t9 H locs ht9 hB hS => ?_)
              obtain ⟨ad24, hq24, hG, -, -⟩ := hB
              rw [ht9] at hG; clear ht9
              have r25 : ad24 0 0 = ad22 0 0 := hq24 0 0 (fun q => absurd q.1 (by decide))
              have r26 : ad24 2 k = ad22 2 k := hq24 2 k (fun q => absurd q.1 (by decide))
              replace hl : lv_has ls 5 [(4, .int (zI 1)), (3, .null), (0, .ref (ad24 0 0)), (1, .int (zI t)), (2, .int (zI a))] := by rw [r25]; exact hl
              refine W.eq (g2 := F0 m0 84 ls [.ref (ad24 2 k), .ref (ad24 0 0)]) (by rw [r25, r26]; try rfl) ?_
              refine c_putV (Cn := RX4) (T := TX4) (z := (k : Int)) hx hb hts 0 hinX4 tyX4 tyX4_ok nmX4 hown hK hG hS 0 2 (Or.inl (Or.inl (Or.inl (Or.inl (hal 0 0 rfl))))) (by decide) rfl (by decide) (hts (.fieldLink RX4 38 "LineEvents" "highest" "LLineEvents$Machine;") (by decide +kernel)) (Or.inl rfl) (cV_R (t := 2) (j := k) rfl rfl) rfl rfl dX4_machine_84 (fun H locs hG hS => ?_)
              refine lv_aload_nN hx hb dX4_machine_87 rfl (lv_at hl 1 rfl) ?_
              refine lv_ifnullN (tgt := 96) hx hb dX4_machine_88 (by decide) ?_
              refine lv_aload_n hx hb dX4_machine_96 rfl (lv_at hl 2 rfl) ?_
              refine lv_dup hx hb dX4_machine_97 rfl ?_
              refine c_getV (Cn := RX4) (T := TX4) hx hb hts 0 hinX4 hown hK hG 0 3 (Or.inl (Or.inl (Or.inl (Or.inl (hal 0 0 rfl))))) (by decide) rfl (by decide) (hts (.fieldLink RX4 35 "LineEvents" "machineCount" "I") (by decide +kernel)) (cV_I (z := (k : Int)) rfl ((su_f (by decide)).trans (hk9))) dX4_machine_98 ?_
              refine lv_iconst (v := zI 1) hx hb dX4_machine_101 rfl ?_
              refine z_iadd hx hb dX4_machine_102 ?_
              refine c_putV (Cn := RX4) (T := TX4) (z := (k : Int) + 1) hx hb hts 0 hinX4 tyX4 tyX4_ok nmX4 hown hK hG hS 0 3 (Or.inl (Or.inl (Or.inl (Or.inl (hal 0 0 rfl))))) (by decide) rfl (by decide) (hts (.fieldLink RX4 35 "LineEvents" "machineCount" "I") (by decide +kernel)) (Or.inl rfl) (cV_I (z := (k : Int) + 1) rfl rfl) rfl rfl dX4_machine_103 (fun H locs hG hS => ?_)
              refine lv_aload_n hx hb dX4_machine_106 rfl (lv_at hl 2 rfl) ?_
              refine c_getV (Cn := RX4) (T := TX4) hx hb hts 0 hinX4 hown hK hG 0 2 (Or.inl (Or.inl (Or.inl (Or.inl (hal 0 0 rfl))))) (by decide) rfl (by decide) (hts (.fieldLink RX4 38 "LineEvents" "highest" "LLineEvents$Machine;") (by decide +kernel)) (cV_R (t := 2) (j := k) rfl ((su_f (by decide)).trans ((su_same _ _ _ _ _)))) dX4_machine_107 ?_
              have hv9 : (su (su (su (su (su (su (su (cz (su (su (su (cz (su (cn (cn (cC S E rt) 2 k) 3 k) 3 k 0 1) 4 k) 3 k 2 (k : Int)) 2 k 4 (k : Int)) 2 k 9 (-1)) 5 k) 2 k 15 (k : Int)) 2 k 0 (k : Int)) 2 k 1 t) 2 k 2 (-1)) 2 k 3 (-1)) 0 0 2 ((k : Int))) 0 0 3 ((k : Int) + 1)) 2 k 0 = (k : Int) := by simp [su, cz, cn]
              refine c_getV (Cn := RX2) (T := TX2) hx hb hts 2 hinX2 hown hK hG k 0 (Or.inl (Or.inl (Or.inl (Or.inr ⟨rfl, rfl⟩)))) (by decide) rfl (by decide) (hts (.fieldLink RX4 45 "LineEvents$Machine" "number" "I") (by decide +kernel)) (cV_I (z := (k : Int)) rfl hv9) dX4_machine_110 ?_
              have v8 : rmachV S t a = S 5 0 0 := by unfold rmachV; rw [if_pos (by omega), if_neg (by omega)]
              have v9 : (k : Int) = rmachV S t a := by omega
              refine W.eq (congrArg (fun z => F0 m0 113 ls [.int (zI z)]) v9) ?_
              have e8 : rmachS S t a = (su (su (su (su (su (su S 0 k 0 t) 1 k 0 a) 2 k 0 (-1)) 3 k 0 1) 4 k 0 0) 5 0 0 (S 5 0 0 + 1)) := by unfold rmachS; rw [if_pos (by omega), if_neg (by omega), if_pos (by omega), hk8]
              have e7 : (if rmachV S t a = S 5 0 0 then va_up E (S 5 0 0).toNat (-1) else E) = va_up E k (-1) := by rw [if_pos v8, hk8]
              rw [e8, e7]
              rw [hal0] at hG
              have hcl := cl_machNN S E rt k t a hk9 hk0 (by omega) hfk
              have hG := gC_eqf (gC_al hG (fun k j h => (hcl k j h).1)) (fun k j h => (hcl k j h).2)
              exact W.iret hx hb hr (fun t ht hW => ⟨rfl, ⟨ad24, by rw [hq24 0 0 (fun q => absurd q.1 (by decide)), hq22 0 0 (fun q => absurd q.1 (by decide))], ⟨by rw [ht]; exact hG, va_K.moved hW.alike hK, fun q hq => hA q (Nat.le_trans hS.1 (by rw [← ht]; exact hq))⟩⟩, hS.F ht⟩) hS.2.2 dX4_machine_113
            · have hk0b := hk0
              obtain ⟨j2, hj2⟩ : ∃ j : Nat, k = j + 1 := ⟨k - 1, by omega⟩
              refine lv_aload_n hx hb dX4_machine_66 rfl (lv_at hl 2 rfl) ?_
              have h2k : ¬ al 2 k := by rw [hal0]; intro q; have q2 : (k : Int) < S 5 0 0 := q; omega
              have h3k : ¬ alU al 2 k 3 k := by
                rw [hal0]
                rintro (q | q)
                · have q2 : (k : Int) < S 5 0 0 := q
                  omega
                · exact absurd q.1 (by decide)
              have h4k : ¬ alU al 2 k 4 k := by
                rw [hal0]
                rintro (q | q)
                · have q2 : (k : Int) < S 5 0 0 := q
                  omega
                · exact absurd q.1 (by decide)
              have h5k : ¬ alU al 2 k 5 k := by
                rw [hal0]
                rintro (q | q)
                · have q2 : (k : Int) < S 5 0 0 := q
                  omega
                · exact absurd q.1 (by decide)
              have hnr : ∀ T, T = 2 ∨ T = 3 ∨ T = 4 ∨ T = 5 → nr (cC S E rt) al T k := fun T hT => by rw [hal0]; exact nr_mach S E rt k T hT hk9 hI
              refine c_new hx hb hts 2 k hinX2 tyX2 tyX2_ok hown (hts (.classLink RX4 22 RX2) (by decide +kernel)) (hts (.instantiable RX2 16) (by decide +kernel)) (hts (.initialized RX2) (by decide +kernel)) hK hG hS hA (by decide) rfl dfX2 (Nat.le_of_ble_eq_true rfl) (Nat.le_of_ble_eq_true rfl) (C' := cn (cC S E rt) 2 k) h2k (hnr 2 (by decide)) (fun k j hk => cn_o (fun q => h2k (by rw [← q.1, ← q.2]; exact hk))) (fun f _ => cn_s _ _ _ f) dX4_machine_67 (fun q9 H hG hS => ?_)
              generalize had27 : adU ad 2 k q9 = ad27 at hG ⊢
              have hq27 : ∀ k8 i8, ¬ (k8 = 2 ∧ i8 = k) → ad27 k8 i8 = ad k8 i8 := fun k8 i8 h => by rw [← had27]; exact adU_ne h
              have r28 : ad27 0 0 = ad 0 0 := hq27 0 0 (fun q => absurd q.1 (by decide))
              replace hl : lv_has ls 5 [(4, .int (zI 1)), (3, .null), (0, .ref (ad27 0 0)), (1, .int (zI t)), (2, .int (zI a))] := by rw [r28]; exact hl
              refine W.eq (g2 := F0 m0 70 ls [.ref (ad27 2 k), .ref (ad27 0 0)]) (by rw [r28]; try rfl) ?_
              refine lv_dup hx hb dX4_machine_70 rfl ?_
              refine lv_aload_n hx hb dX4_machine_71 rfl (lv_at hl 2 rfl) ?_
              refine c_getV (Cn := RX4) (T := TX4) hx hb hts 0 hinX4 hown hK hG 0 3 (Or.inl (hal 0 0 rfl)) (by decide) rfl (by decide) (hts (.fieldLink RX4 35 "LineEvents" "machineCount" "I") (by decide +kernel)) (cV_I (z := (k : Int)) rfl (hk9)) dX4_machine_72 ?_
              refine lv_iload_n hx hb dX4_machine_75 rfl (lv_at hl 3 rfl) ?_
              refine lv_aload_n hx hb dX4_machine_76 rfl (lv_at hl 2 rfl) ?_
              have hv9 : (cn (cC S E rt) 2 k) 0 0 2 = (j2 : Int) := by show S 5 0 0 - 1 = _; omega
              refine c_getV (Cn := RX4) (T := TX4) hx hb hts 0 hinX4 hown hK hG 0 2 (Or.inl (hal 0 0 rfl)) (by decide) rfl (by decide) (hts (.fieldLink RX4 38 "LineEvents" "highest" "LLineEvents$Machine;") (by decide +kernel)) (cV_R (t := 2) (j := j2) rfl hv9) dX4_machine_77 ?_
              refine lv_aload_nN hx hb dX4_machine_80 rfl (lv_at hl 1 rfl) ?_
              refine c_callI (As := [.int (zI (k : Int)), .int (zI t), .ref (ad27 2 j2), .null]) (rest := [.ref (ad27 2 k), .ref (ad27 0 0)]) ⟨hx, hb, hml, hown, hts⟩ (ad27 2 k) (m_X2_initRN l D cI cJ A ad27 (alU al 2 k) (cn (cC S E rt) 2 k) k j2 t (Or.inr ⟨rfl, rfl⟩) h3k h4k h5k (nr_cn (hnr 3 (by decide))) (nr_cn (hnr 4 (by decide))) (nr_cn (hnr 5 (by decide)))) (cwI 4 hts gX4_machine_X2_init rfl rfl rfl (hts (.initialized RX2) (by decide +kernel)) (hts (.methodLink RX4 42 yX2_init) (by decide +kernel)) (hts (.instanceMethod yX2_init) (by decide +kernel)) rfl (by decide +kernel) ⟨Nat.le_of_ble_eq_true rfl, Nat.le_of_ble_eq_true rfl⟩) (⟨gCN_blind rfl, fun U hU hW => ⟨rfl, ⟨by rw [hU]; exact hG, va_K.moved hW.alike hK, fun q hq => hA q (Nat.le_trans hS.1 (by rw [← hU]; exact hq))⟩, va_Nw.warmM hW hNw⟩⟩) hS rfl hl.1 rfl (Nat.le_of_ble_eq_true rfl) dX4_machine_81 ⟨Nat.le_of_ble_eq_true rfl, Nat.le_of_ble_eq_true rfl⟩ (fun t9 H locs ht9 hB hS => ?_)
              obtain ⟨ad29, hq29, hG, -, -⟩ := hB
              rw [ht9] at hG; clear ht9
              have r30 : ad29 0 0 = ad27 0 0 := hq29 0 0 (fun q => absurd q.1 (by decide))
              have r31 : ad29 2 k = ad27 2 k := hq29 2 k (fun q => absurd q.1 (by decide))
              replace hl : lv_has ls 5 [(4, .int (zI 1)), (3, .null), (0, .ref (ad29 0 0)), (1, .int (zI t)), (2, .int (zI a))] := by rw [r30]; exact hl
              refine W.eq (g2 := F0 m0 84 ls [.ref (ad29 2 k), .ref (ad29 0 0)]) (by rw [r30, r31]; try rfl) ?_
              refine c_putV (Cn := RX4) (T := TX4) (z := (k : Int)) hx hb hts 0 hinX4 tyX4 tyX4_ok nmX4 hown hK hG hS 0 2 (Or.inl (Or.inl (Or.inl (Or.inl (hal 0 0 rfl))))) (by decide) rfl (by decide) (hts (.fieldLink RX4 38 "LineEvents" "highest" "LLineEvents$Machine;") (by decide +kernel)) (Or.inl rfl) (cV_R (t := 2) (j := k) rfl rfl) rfl rfl dX4_machine_84 (fun H locs hG hS => ?_)
              refine lv_aload_nN hx hb dX4_machine_87 rfl (lv_at hl 1 rfl) ?_
              refine lv_ifnullN (tgt := 96) hx hb dX4_machine_88 (by decide) ?_
              refine lv_aload_n hx hb dX4_machine_96 rfl (lv_at hl 2 rfl) ?_
              refine lv_dup hx hb dX4_machine_97 rfl ?_
              refine c_getV (Cn := RX4) (T := TX4) hx hb hts 0 hinX4 hown hK hG 0 3 (Or.inl (Or.inl (Or.inl (Or.inl (hal 0 0 rfl))))) (by decide) rfl (by decide) (hts (.fieldLink RX4 35 "LineEvents" "machineCount" "I") (by decide +kernel)) (cV_I (z := (k : Int)) rfl ((su_f (by decide)).trans (hk9))) dX4_machine_98 ?_
              refine lv_iconst (v := zI 1) hx hb dX4_machine_101 rfl ?_
              refine z_iadd hx hb dX4_machine_102 ?_
              refine c_putV (Cn := RX4) (T := TX4) (z := (k : Int) + 1) hx hb hts 0 hinX4 tyX4 tyX4_ok nmX4 hown hK hG hS 0 3 (Or.inl (Or.inl (Or.inl (Or.inl (hal 0 0 rfl))))) (by decide) rfl (by decide) (hts (.fieldLink RX4 35 "LineEvents" "machineCount" "I") (by decide +kernel)) (Or.inl rfl) (cV_I (z := (k : Int) + 1) rfl rfl) rfl rfl dX4_machine_103 (fun H locs hG hS => ?_)
              refine lv_aload_n hx hb dX4_machine_106 rfl (lv_at hl 2 rfl) ?_
              refine c_getV (Cn := RX4) (T := TX4) hx hb hts 0 hinX4 hown hK hG 0 2 (Or.inl (Or.inl (Or.inl (Or.inl (hal 0 0 rfl))))) (by decide) rfl (by decide) (hts (.fieldLink RX4 38 "LineEvents" "highest" "LLineEvents$Machine;") (by decide +kernel)) (cV_R (t := 2) (j := k) rfl ((su_f (by decide)).trans ((su_same _ _ _ _ _)))) dX4_machine_107 ?_
              have hv9 : (su (su (su (su (su (su (su (cz (su (su (su (cz (su (cn (cn (cC S E rt) 2 k) 3 k) 3 k 0 1) 4 k) 3 k 2 (k : Int)) 2 k 4 (k : Int)) 2 k 9 (-1)) 5 k) 2 k 15 (k : Int)) 2 k 0 (k : Int)) 2 k 1 t) 2 k 2 (j2)) 2 k 3 (-1)) 0 0 2 ((k : Int))) 0 0 3 ((k : Int) + 1)) 2 k 0 = (k : Int) := by simp [su, cz, cn]
              refine c_getV (Cn := RX2) (T := TX2) hx hb hts 2 hinX2 hown hK hG k 0 (Or.inl (Or.inl (Or.inl (Or.inr ⟨rfl, rfl⟩)))) (by decide) rfl (by decide) (hts (.fieldLink RX4 45 "LineEvents$Machine" "number" "I") (by decide +kernel)) (cV_I (z := (k : Int)) rfl hv9) dX4_machine_110 ?_
              have v8 : rmachV S t a = S 5 0 0 := by unfold rmachV; rw [if_pos (by omega), if_neg (by omega)]
              have v9 : (k : Int) = rmachV S t a := by omega
              refine W.eq (congrArg (fun z => F0 m0 113 ls [.int (zI z)]) v9) ?_
              have e8 : rmachS S t a = (su (su (su (su (su (su S 0 k 0 t) 1 k 0 a) 2 k 0 (-1)) 3 k 0 1) 4 k 0 0) 5 0 0 (S 5 0 0 + 1)) := by unfold rmachS; rw [if_pos (by omega), if_neg (by omega), if_pos (by omega), hk8]
              have e7 : (if rmachV S t a = S 5 0 0 then va_up E (S 5 0 0).toNat (-1) else E) = va_up E k (-1) := by rw [if_pos v8, hk8]
              rw [e8, e7]
              rw [hal0] at hG
              have hcl := cl_machRN S E rt k j2 t a hk9 hj2 (by omega) hfk
              have hG := gC_eqf (gC_al hG (fun k j h => (hcl k j h).1)) (fun k j h => (hcl k j h).2)
              exact W.iret hx hb hr (fun t ht hW => ⟨rfl, ⟨ad29, by rw [hq29 0 0 (fun q => absurd q.1 (by decide)), hq27 0 0 (fun q => absurd q.1 (by decide))], ⟨by rw [ht]; exact hG, va_K.moved hW.alike hK, fun q hq => hA q (Nat.le_trans hS.1 (by rw [← ht]; exact hq))⟩⟩, hS.F ht⟩) hS.2.2 dX4_machine_113
          · refine lv_bipush (v := zI (-2)) hx hb dX4_machine_63 (by decide) ?_
            have v9 : (-2) = rmachV S t a := by unfold rmachV; rw [if_pos (by omega), if_pos (by omega)]
            have e8 : rmachS S t a = S := by unfold rmachS; rw [if_pos (by omega), if_pos (by omega)]
            refine W.eq (congrArg (fun z => F0 m0 65 ls [.int (zI z)]) v9) ?_
            have e7 : (if rmachV S t a = S 5 0 0 then va_up E (S 5 0 0).toNat (-1) else E) = E := if_neg (by omega)
            rw [e8, e7]
            rw [hal0] at hG
            refine W.widen (Nat.le_of_ble_eq_true rfl) (Nat.le_of_ble_eq_true rfl) (k := 4) (n := 1033) ?_
            exact W.iret hx hb hr (fun t ht hW => ⟨rfl, ⟨ad, rfl, ⟨by rw [ht]; exact hG, va_K.moved hW.alike hK, fun q hq => hA q (Nat.le_trans hS.1 (by rw [← ht]; exact hq))⟩⟩, hS.F ht⟩) hS.2.2 dX4_machine_65
    · refine lv_aload_nN hx hb dX4_machine_11 rfl (lv_at hl 0 rfl) ?_
      refine lv_ifnullN (tgt := 26) hx hb dX4_machine_12 (by decide) ?_
      refine lv_iconst (v := zI 0) hx hb dX4_machine_26 rfl ?_
      refine lv_istore (lv' := [(4, .int (zI 0)), (3, .null), (0, .ref (ad 0 0)), (1, .int (zI t)), (2, .int (zI a))]) hx hb dX4_machine_27 hl (by decide) rfl (fun ls hl => ?_)
      refine lv_aload_n hx hb dX4_machine_29 rfl (lv_at hl 2 rfl) ?_
      refine c_getV (Cn := RX4) (T := TX4) hx hb hts 0 hinX4 hown hK hG 0 1 (hal 0 0 rfl) (by decide) rfl (by decide) (hts (.fieldLink RX4 27 "LineEvents" "now" "I") (by decide +kernel)) (cV_I (z := S 25 0 0) rfl (rfl)) dX4_machine_30 ?_
      refine z_if_gt (tgt := 52) hx hb dX4_machine_33 (by decide) ⟨by omega, by omega⟩ (fun c_32 => ?_) (fun c_32 => ?_)
      · refine lv_iconst (v := zI (-1)) hx hb dX4_machine_52 rfl ?_
        have v9 : (-1) = rmachV S t a := by unfold rmachV; rw [if_neg (by omega)]
        have e8 : rmachS S t a = S := by unfold rmachS; rw [if_neg (by omega)]
        refine W.eq (congrArg (fun z => F0 m0 53 ls [.int (zI z)]) v9) ?_
        have e7 : (if rmachV S t a = S 5 0 0 then va_up E (S 5 0 0).toNat (-1) else E) = E := if_neg (by omega)
        rw [e8, e7]
        rw [hal0] at hG
        refine W.widen (Nat.le_of_ble_eq_true rfl) (Nat.le_of_ble_eq_true rfl) (k := 4) (n := 1033) ?_
        exact W.iret hx hb hr (fun t ht hW => ⟨rfl, ⟨ad, rfl, ⟨by rw [ht]; exact hG, va_K.moved hW.alike hK, fun q hq => hA q (Nat.le_trans hS.1 (by rw [← ht]; exact hq))⟩⟩, hS.F ht⟩) hS.2.2 dX4_machine_53
      · refine lv_iload_n hx hb dX4_machine_36 rfl (lv_at hl 3 rfl) ?_
        refine lv_iconst (v := zI 1) hx hb dX4_machine_37 rfl ?_
        refine lv_sipush (v := zI 10000) hx hb dX4_machine_38 (by decide) ?_
        refine c_callS (As := [.int (zI t), .int (zI 1), .int (zI 10000)]) (rest := []) ⟨hx, hb, hml, hown, hts⟩ (m_X4_within l D cI cJ A ad al S E rt hal t 1 10000 ⟨by omega, by omega⟩ ⟨by decide, by decide⟩ ⟨by decide, by decide⟩) (va_cwS 3 hts gX4_machine_X4_within rfl rfl rfl (by decide +kernel) ⟨Nat.le_of_ble_eq_true rfl, Nat.le_of_ble_eq_true rfl⟩) hK hG hS hA rfl hl.1 rfl (Nat.le_of_ble_eq_true rfl) dX4_machine_41 ⟨Nat.zero_le _, Nat.zero_le _⟩ (fun t9 H locs ht9 hB hS => ?_)
        have hG := hB.1; rw [ht9] at hG; clear hB ht9
        refine z_ifb_eq (tgt := 52) hx hb dX4_machine_44 (by decide) (fun c_33 => ?_) (fun c_33 => ?_)
        · refine lv_iconst (v := zI (-1)) hx hb dX4_machine_52 rfl ?_
          have v9 : (-1) = rmachV S t a := by unfold rmachV; rw [if_neg (by omega)]
          have e8 : rmachS S t a = S := by unfold rmachS; rw [if_neg (by omega)]
          refine W.eq (congrArg (fun z => F0 m0 53 ls [.int (zI z)]) v9) ?_
          have e7 : (if rmachV S t a = S 5 0 0 then va_up E (S 5 0 0).toNat (-1) else E) = E := if_neg (by omega)
          rw [e8, e7]
          rw [hal0] at hG
          refine W.widen (Nat.le_of_ble_eq_true rfl) (Nat.le_of_ble_eq_true rfl) (k := 4) (n := 1033) ?_
          exact W.iret hx hb hr (fun t ht hW => ⟨rfl, ⟨ad, rfl, ⟨by rw [ht]; exact hG, va_K.moved hW.alike hK, fun q hq => hA q (Nat.le_trans hS.1 (by rw [← ht]; exact hq))⟩⟩, hS.F ht⟩) hS.2.2 dX4_machine_53
        · refine lv_iload hx hb dX4_machine_47 (lv_at hl 0 rfl) ?_
          refine z_if_ne (tgt := 54) hx hb dX4_machine_49 (by decide) ⟨by decide, by decide⟩ (fun q => absurd q (by decide)) (fun _ => ?_)
          refine lv_iconst (v := zI (-1)) hx hb dX4_machine_52 rfl ?_
          have v9 : (-1) = rmachV S t a := by unfold rmachV; rw [if_neg (by omega)]
          have e8 : rmachS S t a = S := by unfold rmachS; rw [if_neg (by omega)]
          refine W.eq (congrArg (fun z => F0 m0 53 ls [.int (zI z)]) v9) ?_
          have e7 : (if rmachV S t a = S 5 0 0 then va_up E (S 5 0 0).toNat (-1) else E) = E := if_neg (by omega)
          rw [e8, e7]
          rw [hal0] at hG
          refine W.widen (Nat.le_of_ble_eq_true rfl) (Nat.le_of_ble_eq_true rfl) (k := 4) (n := 1033) ?_
          exact W.iret hx hb hr (fun t ht hW => ⟨rfl, ⟨ad, rfl, ⟨by rw [ht]; exact hG, va_K.moved hW.alike hK, fun q hq => hA q (Nat.le_trans hS.1 (by rw [← ht]; exact hq))⟩⟩, hS.F ht⟩) hS.2.2 dX4_machine_53
