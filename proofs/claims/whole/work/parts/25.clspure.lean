/-! Pure rows for the class's act -/
theorem su_su (S : sT) (v i j : Nat) (z w : Int) : su (su S v i j z) v i j w = su S v i j w := by
  funext a b d; unfold su; split <;> simp_all
theorem rhl_eq {S T : sT} (m : Nat) (h : ∀ v k, v ∈ [16, 17, 18, 19] → T v k 0 = S v k 0) (h25 : T 25 0 0 = S 25 0 0) : ∀ n k, rhl T m n k = rhl S m n k
  | 0, _ => rfl
  | n + 1, k => by
    unfold rhl
    rw [h 16 k (by decide), h 17 k (by decide), h 18 k (by decide), h 19 k (by decide), h25, rhl_eq m h h25 n (k + 1)]
theorem rheld_eq {S T : sT} (m : Nat) (h : ∀ v k, v ∈ [16, 17, 18, 19] → T v k 0 = S v k 0) (h25 : T 25 0 0 = S 25 0 0) (h20 : T 20 0 0 = S 20 0 0) : rheld T m = rheld S m := by
  unfold rheld; rw [h20, rhl_eq m h h25]
theorem act_held {S : sT} (m j : Nat) : rheld (ract S m) j = rheld S j :=
  rheld_eq j (fun v k hv => act_v (by simp only [List.mem_cons, List.not_mem_nil, or_false] at hv ⊢; omega)) (act_v (by decide)) (act_v (by decide))
/-- bottles and their work -/
def InvC (S : sT) : Prop := ∀ i : Nat, (i : Int) < S 5 0 0 → (¬ S 6 i 0 = 0 → 0 ≤ S 7 i 0 ∧ S 7 i 0 ≤ S 0 i 0) ∧ (S 6 i 0 = 2 → S 7 i 0 = S 0 i 0) ∧ (S 25 0 0 < S 8 i 0 → S 6 i 0 = 2)
theorem judge_6 {S : sT} {m i : Nat} : (rjudge S m).1 6 i 0 = S 6 i 0 ∨ (i = m ∧ ((rjudge S m).1 6 i 0 = 0 ∨ (rjudge S m).1 6 i 0 = 2)) := by
  have e : (rjl m (S 15 m 0).toNat 0 (su S 6 m 0 2) 0).1 6 i 0 = if i = m then 2 else S 6 i 0 := (rjl_v m _ _ _ _ _ _ _ (by decide)).trans (su_0 S 6 m i 2)
  unfold rjudge rjfin
  split
  · dsimp only; rw [note_v (by decide), su_v (by decide), su_0, e]; by_cases h : i = m <;> simp [h]
  · split
    · dsimp only; rw [note_v (by decide), su_v (by decide), e]; by_cases h : i = m <;> simp [h]
    · dsimp only; rw [e]; by_cases h : i = m <;> simp [h]
theorem judge_8 {S : sT} {m i : Nat} (h : i ≠ m) : (rjudge S m).1 8 i 0 = S 8 i 0 := by
  have e : (rjl m (S 15 m 0).toNat 0 (su S 6 m 0 2) 0).1 8 i 0 = S 8 i 0 := (rjl_v m _ _ _ _ _ _ _ (by decide)).trans (su_v (by decide))
  unfold rjudge rjfin
  split
  · dsimp only; rw [note_v (by decide), su_v (by decide), su_v (by decide), e]
  · split
    · dsimp only; rw [note_v (by decide), su_i h, e]
    · exact e
/-- judge stands for a fault just when faultEnd is ahead -/
theorem judge_st {S : sT} {m : Nat} (h8 : S 8 m 0 ≤ S 25 0 0) : (S 25 0 0 < (rjudge S m).1 8 m 0 ↔ (rjudge S m).2 = true) ∧ ((rjudge S m).2 = true → (rjudge S m).1 6 m 0 = 2) := by
  have e8 : (rjl m (S 15 m 0).toNat 0 (su S 6 m 0 2) 0).1 8 m 0 = S 8 m 0 := (rjl_v m _ _ _ _ _ _ _ (by decide)).trans (su_v (by decide))
  have e25 : (rjl m (S 15 m 0).toNat 0 (su S 6 m 0 2) 0).1 25 0 0 = S 25 0 0 := (rjl_v m _ _ _ _ _ _ _ (by decide)).trans (su_v (by decide))
  have e6 : (rjl m (S 15 m 0).toNat 0 (su S 6 m 0 2) 0).1 6 m 0 = 2 := (rjl_v m _ _ _ _ _ _ _ (by decide)).trans (su_same _ _ _ _ _)
  unfold rjudge rjfin
  split
  · dsimp only; rw [note_v (by decide), su_v (by decide), su_v (by decide), e8]; simp; omega
  · split
    · dsimp only
      rw [note_v (by decide), su_same, note_v (by decide), su_v (by decide), e25, e6]
      constructor
      · constructor
        · intro _; rfl
        · intro _; omega
      · intro _; rfl
    · dsimp only; rw [e8]; simp; omega
theorem leave_6 {S : sT} {m i : Nat} : rleave S m 6 i 0 = S 6 i 0 ∨ (i = m ∧ rleave S m 6 i 0 = 0) := by
  unfold rleave
  split
  · rw [note_v (by decide), su_0]; by_cases h : i = m <;> simp [h, su]
  · split
    · rw [note_v (by decide), su_0]; by_cases h : i = m <;> simp [h, su]
    · exact Or.inl rfl
theorem take_67 {S : sT} {m i : Nat} : (rtake S m 6 i 0 = S 6 i 0 ∧ rtake S m 7 i 0 = S 7 i 0) ∨ (i = m ∧ rtake S m 6 i 0 = 1 ∧ rtake S m 7 i 0 = 0) := by
  unfold rtake
  split
  · rw [note_v (by decide), note_v (by decide), su_v (by decide), su_0, su_0]; by_cases h : i = m <;> simp [h, su]
  · split
    · exact Or.inl ⟨rfl, rfl⟩
    · rw [note_v (by decide), note_v (by decide), su_v (by decide), su_0, su_0]; by_cases h : i = m <;> simp [h, su]
theorem InvC_leave {S : sT} {m : Nat} (h : InvC S) (h8 : S 8 m 0 ≤ S 25 0 0) : InvC (rleave S m) := by
  intro i hi
  rw [leave_v (by decide)] at hi
  have h1 := h i hi
  rw [leave_v (v := 7) (by decide), leave_v (v := 0) (by decide), leave_v (v := 25) (by decide), leave_v (v := 8) (by decide)]
  rcases leave_6 (S := S) (m := m) (i := i) with e | ⟨rfl, e⟩
  · rw [e]; exact h1
  · rw [e]; refine ⟨fun q => absurd rfl q, fun q => by omega, fun q => by omega⟩
theorem InvC_take {S : sT} {m : Nat} (hI : Inv S) (h : InvC S) (h8 : S 8 m 0 ≤ S 25 0 0) : InvC (rtake S m) := by
  intro i hi
  rw [take_v (by decide)] at hi
  have h1 := h i hi
  have h0 := (hI.2.2.2.2.1 i hi).1
  rw [take_v (v := 0) (by decide), take_v (v := 25) (by decide), take_v (v := 8) (by decide)]
  rcases take_67 (S := S) (m := m) (i := i) with ⟨e1, e2⟩ | ⟨rfl, e1, e2⟩
  · rw [e1, e2]; exact h1
  · rw [e1, e2]; refine ⟨fun _ => by omega, fun q => by omega, fun q => by omega⟩
theorem InvC_judge {S : sT} {m : Nat} (h : InvC S) (hm : (m : Int) < S 5 0 0) (h6 : S 6 m 0 = 1) (h7 : S 7 m 0 = S 0 m 0) (h8 : S 8 m 0 ≤ S 25 0 0) : InvC (rjudge S m).1 := by
  intro i hi
  rw [judge_v (by decide)] at hi
  have h1 := h i hi
  have hs := judge_st (S := S) (m := m) h8
  rw [judge_v (v := 7) (by decide), judge_v (v := 0) (by decide), judge_v (v := 25) (by decide)]
  by_cases him : i = m
  · subst him
    have h2 := h1.1 (by omega)
    refine ⟨fun _ => h2, fun _ => h7, fun q => hs.2 (hs.1.mp q)⟩
  · rw [judge_8 him]
    rcases judge_6 (S := S) (m := m) (i := i) with e | ⟨q, -⟩
    · rw [e]; exact h1
    · exact absurd q him
theorem InvC_rll {S : sT} {m : Nat} (hI : Inv S) (h : InvC S) (hm : (m : Int) < S 5 0 0) (h8 : S 8 m 0 ≤ S 25 0 0) : InvC (rll S m) := by
  have key : ∀ T : sT, Inv T → InvC T → T 8 m 0 ≤ T 25 0 0 → InvC (rlt T m) := fun T h1 h2 h3 => by
    unfold rlt
    split
    · exact InvC_take h1 h2 h3
    · exact h2
  unfold rll
  split
  · exact key _ (leave_I hI hm) (InvC_leave h h8) (by rw [leave_v (by decide), leave_v (by decide)]; exact h8)
  · exact key _ hI h h8
theorem InvC_act {S : sT} {m : Nat} (hI : Inv S) (h : InvC S) (hm : (m : Int) < S 5 0 0) : InvC (ract S m) := by
  unfold ract
  split
  · rename_i hq
    unfold rjj
    split
    · rename_i h1
      have hj := InvC_judge h hm h1.1 h1.2 hq.2
      split
      · exact hj
      · rename_i h2
        have hs := judge_st (S := S) (m := m) hq.2
        refine InvC_rll (judge_I hI (by have := hI.1; omega)) hj (by rw [judge_v (by decide)]; exact hm) ?_
        rw [judge_v (v := 25) (by decide)]
        have := mt hs.1.mp h2
        omega
    · exact InvC_rll hI h hm hq.2
  · exact h
