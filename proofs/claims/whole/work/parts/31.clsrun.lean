/-! What the class's run needs of the reference's instants -/
def InvB (S : sT) : Prop := ∀ j : Nat, (j : Int) < S 5 0 0 → ¬ S 1 j 0 = -1 → S 2 (S 1 j 0).toNat 0 = (j : Int)
def Cv (S : sT) (E : Nat → Int) (rt : Int) : Prop := (0 ≤ rt ∧ rt ≤ 1000000000) ∧ (∀ i : Nat, (i : Int) < S 5 0 0 → (-1 ≤ E i ∧ E i ≤ 9) ∧ (E i = -1 ∨ 1 ≤ E i)) ∧ ∀ t : Int, S 25 0 0 ≤ t → t < rt → ∀ j : Nat, (j : Int) < S 5 0 0 → rheld (su S 25 0 0 t) j = E j
def cqt (A : sT) (F : Nat → Int) (r : Int) : Int := cqa A F (A 25 0 0) (A 5 0 0).toNat (r - A 25 0 0)
def cps (A : sT) (F : Nat → Int) (t : Int) : sT := su (cpass F (A 25 0 0) t (A 5 0 0).toNat A) 25 0 0 (A 25 0 0 + t)
theorem Cv_eq {S T : sT} {E : Nat → Int} {rt : Int} (h5 : T 5 0 0 = S 5 0 0) (h25 : T 25 0 0 = S 25 0 0) (h20 : T 20 0 0 = S 20 0 0) (h : ∀ v k, v ∈ [16, 17, 18, 19] → T v k 0 = S v k 0) (hV : Cv S E rt) : Cv T E rt := by
  refine ⟨hV.1, fun i hi => hV.2.1 i (by omega), fun t h1 h2 j hj => ?_⟩
  rw [← hV.2.2 t (by omega) h2 j (by omega)]
  refine rheld_eq j (fun v k hv => ?_) ?_ ?_
  · rw [su_v (by simp only [List.mem_cons, List.not_mem_nil, or_false] at hv; omega), su_v (by simp only [List.mem_cons, List.not_mem_nil, or_false] at hv; omega)]
    exact h v k hv
  · rw [su_same, su_same]
  · rw [su_v (by decide), su_v (by decide), h20]
theorem actA_I : ∀ (k : Nat) (S : sT), Inv S → (k : Int) ≤ S 5 0 0 → Inv (ractA k S) ∧ ractA k S 5 0 0 = S 5 0 0 ∧ S 30 0 0 ≤ ractA k S 30 0 0 ∧ ractA k S 30 0 0 ≤ S 30 0 0 + 3 * k
  | 0, S, h, _ => ⟨h, rfl, by show S 30 0 0 ≤ S 30 0 0; omega, by show S 30 0 0 ≤ S 30 0 0 + 3 * ((0 : Nat) : Int); omega⟩
  | k + 1, S, h, hk => by
    have h1 := act_I (m := k) h (by omega)
    have h2 := actA_I k (ract S k) h1.1 (by omega)
    show Inv (ractA k (ract S k)) ∧ ractA k (ract S k) 5 0 0 = S 5 0 0 ∧ S 30 0 0 ≤ ractA k (ract S k) 30 0 0 ∧ ractA k (ract S k) 30 0 0 ≤ S 30 0 0 + 3 * ((k + 1 : Nat) : Int)
    exact ⟨h2.1, by omega, by omega, by omega⟩
theorem actA_v : ∀ (k : Nat) (S : sT) {v i j : Nat}, v ∉ [6, 7, 8, 9, 10, 11, 22, 23, 24, 26, 27, 28, 29, 30] → ractA k S v i j = S v i j
  | 0, _, _, _, _, _ => rfl
  | k + 1, S, v, i, j, h => (actA_v k (ract S k) h).trans (act_v h)
theorem actA_C : ∀ (k : Nat) (S : sT), Inv S → InvC S → (k : Int) ≤ S 5 0 0 → InvC (ractA k S)
  | 0, _, _, h, _ => h
  | k + 1, S, hI, h, hk => actA_C k (ract S k) (act_I hI (by omega)).1 (InvC_act hI h (by omega)) (by rw [act_v (by decide)]; omega)
theorem cps_v {A : sT} {F : Nat → Int} {t : Int} {v i j : Nat} (h : v ≠ 21 ∧ v ≠ 7 ∧ v ≠ 25) : cps A F t v i j = A v i j := by
  have key : ∀ (n : Nat) (S : sT), cpass F (A 25 0 0) t n S v i j = S v i j := by
    intro n
    induction n with
    | zero => intro S; rfl
    | succ n ih => intro S; show cpass F (A 25 0 0) t n (cspend S n (ccause S F n (A 25 0 0)) t) v i j = _; rw [ih, spend_A v h.1 h.2.1]
  unfold cps
  rw [su_v h.2.2, key]
theorem rrunL_add : ∀ (a b : Nat) (S : sT), rrunL (a + b) S = rrunL b (rrunL a S)
  | 0, b, S => by rw [Nat.zero_add]; rfl
  | a + 1, b, S => by rw [show a + 1 + b = (a + b) + 1 by omega]; exact rrunL_add a b (rinst S)
