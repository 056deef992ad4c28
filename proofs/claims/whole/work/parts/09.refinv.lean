/-! What the steps of the reference keep -/
theorem su_same (S : sT) (v i j : Nat) (z : Int) : su S v i j z v i j = z := by simp [su]
theorem su_v {S : sT} {v i j : Nat} {z : Int} {v' i' j' : Nat} (h : v' ≠ v) : su S v i j z v' i' j' = S v' i' j' := by unfold su; rw [if_neg (fun q => h q.1)]
theorem su_i {S : sT} {v i j : Nat} {z : Int} {i' j' : Nat} (h : i' ≠ i) : su S v i j z v i' j' = S v i' j' := by unfold su; rw [if_neg (fun q => h q.2.1)]
theorem su_0 (S : sT) (v m i : Nat) (z : Int) : su S v m 0 z v i 0 = if i = m then z else S v i 0 := by simp [su]
theorem Inv_6 {S : sT} {m : Nat} {z : Int} (hI : Inv S) (h0 : 0 ≤ z ∧ z ≤ 2) : Inv (su S 6 m 0 z) := by
  obtain ⟨h5, h25, h20, hM, hL, hR⟩ := hI
  refine ⟨h5, h25, h20, fun i hi => ?_, hL, hR⟩
  obtain ⟨a1, a2, a3, a4, a5, a6, a7, a8⟩ := hM i hi
  refine ⟨?_, a2, a3, a4, a5, a6, a7, a8⟩
  rw [su_0]; split <;> omega
theorem Inv_7 {S : sT} {m : Nat} {z : Int} (hI : Inv S) (h0 : 0 ≤ z ∧ z ≤ 1000010001) : Inv (su S 7 m 0 z) := by
  obtain ⟨h5, h25, h20, hM, hL, hR⟩ := hI
  refine ⟨h5, h25, h20, fun i hi => ?_, hL, hR⟩
  obtain ⟨a1, a2, a3, a4, a5, a6, a7, a8⟩ := hM i hi
  refine ⟨a1, ?_, a3, a4, a5, a6, a7, a8⟩
  rw [su_0]; split <;> omega
theorem Inv_8 {S : sT} {m : Nat} {z : Int} (hI : Inv S) (h0 : 0 ≤ z ∧ z ≤ S 25 0 0 + 100000) : Inv (su S 8 m 0 z) := by
  obtain ⟨h5, h25, h20, hM, hL, hR⟩ := hI
  refine ⟨h5, h25, h20, fun i hi => ?_, hL, hR⟩
  obtain ⟨a1, a2, a3, a4, a5, a6, a7, a8⟩ := hM i hi
  refine ⟨a1, a2, ?_, a4, a5, a6, a7, a8⟩
  rw [su_0, show su S 8 m 0 z 25 0 0 = S 25 0 0 from rfl]; split <;> omega
theorem Inv_9 {S : sT} {m q : Nat} {z : Int} (hI : Inv S) (h0 : 0 ≤ z ∧ z ≤ S 25 0 0) : Inv (su S 9 m q z) := by
  obtain ⟨h5, h25, h20, hM, hL, hR⟩ := hI
  refine ⟨h5, h25, h20, fun i hi => ?_, hL, hR⟩
  obtain ⟨a1, a2, a3, a4, a5, a6, a7, a8⟩ := hM i hi
  refine ⟨a1, a2, a3, a4, a5, a6, fun j hj => ?_, a8⟩
  have h1 := a7 j hj
  show 0 ≤ su S 9 m q z 9 i j ∧ su S 9 m q z 9 i j ≤ S 25 0 0
  unfold su; split <;> omega
theorem Inv_10 {S : sT} {m : Nat} {z : Int} (hI : Inv S) (h0 : 0 ≤ z ∧ z < 1000) : Inv (su S 10 m 0 z) := by
  obtain ⟨h5, h25, h20, hM, hL, hR⟩ := hI
  refine ⟨h5, h25, h20, fun i hi => ?_, hL, hR⟩
  obtain ⟨a1, a2, a3, a4, a5, a6, a7, a8⟩ := hM i hi
  refine ⟨a1, a2, a3, ?_, a5, a6, a7, a8⟩
  rw [su_0]; split <;> omega
theorem Inv_11 {S : sT} {m : Nat} {z : Int} (hI : Inv S) (h0 : 0 ≤ z ∧ z ≤ 1000) : Inv (su S 11 m 0 z) := by
  obtain ⟨h5, h25, h20, hM, hL, hR⟩ := hI
  refine ⟨h5, h25, h20, fun i hi => ?_, hL, hR⟩
  obtain ⟨a1, a2, a3, a4, a5, a6, a7, a8⟩ := hM i hi
  refine ⟨a1, a2, a3, a4, ?_, a6, a7, a8⟩
  rw [su_0]; split <;> omega
theorem Inv_note {S : sT} {m : Nat} {k : Int} (hI : Inv S) : Inv (rnote S m k) := by
  unfold rnote; split <;> exact hI
theorem note_v {S : sT} {m : Nat} {k : Int} {v i j : Nat} (h : v ≠ 27 ∧ v ≠ 28 ∧ v ≠ 29 ∧ v ≠ 30) : rnote S m k v i j = S v i j := by
  unfold rnote; split <;> simp [su, h]
theorem note_30 (S : sT) (m : Nat) (k : Int) : rnote S m k 30 0 0 = S 30 0 0 + 1 := by
  unfold rnote; split <;> simp [su]
theorem Inv_draw {S : sT} (hI : Inv S) : Inv (rdraw S) := hI
theorem rdv_B (S : sT) {b : Int} (h : 0 < b) : 0 ≤ rdv S b ∧ rdv S b < b := ⟨Int.emod_nonneg _ (by omega), Int.emod_lt_of_pos _ h⟩
theorem draw_v {S : sT} {v i j : Nat} (h : v ≠ 26) : rdraw S v i j = S v i j := su_v h
/-- the loop of judge: only drawn moves; the longest -/
theorem rjl_v (m : Nat) : ∀ (n k : Nat) (S : sT) (lg : Int) (v i j : Nat), v ≠ 26 → (rjl m n k S lg).1 v i j = S v i j
  | 0, _, _, _, _, _, _, _ => rfl
  | n + 1, k, S, lg, v, i, j, h => by
    unfold rjl
    split
    · split
      · exact draw_v h
      · rw [rjl_v m n _ _ _ v i j h, draw_v h]
    · rw [rjl_v m n _ _ _ v i j h, draw_v h]
theorem rjl_I (m : Nat) : ∀ (n k : Nat) (S : sT) (lg : Int), Inv S → Inv (rjl m n k S lg).1
  | 0, _, _, _, h => h
  | n + 1, k, S, lg, h => by
    unfold rjl
    split
    · split
      · exact h
      · exact rjl_I m n _ _ _ (Inv_draw h)
    · exact rjl_I m n _ _ _ (Inv_draw h)
theorem rjl_lg (m : Nat) : ∀ (n k : Nat) (S : sT) (lg : Int), (∀ j, j < 4 → 0 ≤ S 14 m j ∧ S 14 m j ≤ 100000) → k + n ≤ 4 → 0 ≤ lg ∧ lg ≤ 100000 → 0 ≤ (rjl m n k S lg).2.1 ∧ (rjl m n k S lg).2.1 ≤ 100000
  | 0, _, _, _, _, _, h => h
  | n + 1, k, S, lg, hf, hk, h => by
    unfold rjl
    have h1 := hf k (by omega)
    split
    · split
      · exact h
      · exact rjl_lg m n (k + 1) (rdraw S) _ hf (by omega) (by split <;> omega)
    · exact rjl_lg m n (k + 1) (rdraw S) _ hf (by omega) h
theorem judge_I {S : sT} {m : Nat} (hI : Inv S) (hm : m < 12) : Inv (rjudge S m).1 := by
  have h6 : Inv (su S 6 m 0 2) := Inv_6 hI (by omega)
  have hM := (hI.2.2.2.1 m hm)
  have h15 := hM.2.2.2.2.2.1
  have hf := hM.2.2.2.2.2.2.2
  have hJ := rjl_I m (S 15 m 0).toNat 0 (su S 6 m 0 2) 0 h6
  have hl := rjl_lg m (S 15 m 0).toNat 0 (su S 6 m 0 2) 0 (fun j hj => (hf j hj).2.2.1) (by omega) (by omega)
  have h25 : (rjl m (S 15 m 0).toNat 0 (su S 6 m 0 2) 0).1 25 0 0 = S 25 0 0 := rjl_v m _ _ _ _ _ _ _ (by decide)
  unfold rjudge rjfin
  split
  · exact Inv_note (Inv_6 hJ (by omega))
  · split
    · refine Inv_note (Inv_8 hJ ?_)
      rw [h25]
      have := hI.2.1
      omega
    · exact hJ
theorem judge_30 {S : sT} {m : Nat} : S 30 0 0 ≤ (rjudge S m).1 30 0 0 ∧ (rjudge S m).1 30 0 0 ≤ S 30 0 0 + 1 := by
  have h30 : (rjl m (S 15 m 0).toNat 0 (su S 6 m 0 2) 0).1 30 0 0 = S 30 0 0 := rjl_v m _ _ _ _ _ _ _ (by decide)
  unfold rjudge rjfin
  split
  · dsimp only; rw [note_30, su_v (by decide), su_v (by decide), h30]; omega
  · split
    · dsimp only; rw [note_30, su_v (by decide), h30]; omega
    · dsimp only; rw [h30]; omega
/-- what judge leaves alone -/
theorem judge_v {S : sT} {m v i j : Nat} (h : v ≠ 6 ∧ v ≠ 8 ∧ v ≠ 22 ∧ v ≠ 26 ∧ v ≠ 27 ∧ v ≠ 28 ∧ v ≠ 29 ∧ v ≠ 30) : (rjudge S m).1 v i j = S v i j := by
  have e : (rjl m (S 15 m 0).toNat 0 (su S 6 m 0 2) 0).1 v i j = S v i j := (rjl_v m _ _ _ _ _ _ _ h.2.2.2.1).trans (su_v h.1)
  unfold rjudge rjfin
  split
  · dsimp only; rw [note_v ⟨h.2.2.2.2.1, h.2.2.2.2.2.1, h.2.2.2.2.2.2.1, h.2.2.2.2.2.2.2⟩, su_v h.2.2.1, su_v h.1, e]
  · split
    · dsimp only; rw [note_v ⟨h.2.2.2.2.1, h.2.2.2.2.2.1, h.2.2.2.2.2.2.1, h.2.2.2.2.2.2.2⟩, su_v h.2.1, e]
    · exact e
theorem leave_I {S : sT} {m : Nat} (hI : Inv S) (hm : (m : Int) < S 5 0 0) : Inv (rleave S m) := by
  obtain ⟨h5, h25, h20, hM, hL, hR⟩ := id hI
  obtain ⟨a1, a2, a3, a4, a5, a6, a7, a8⟩ := hM m (by omega)
  obtain ⟨b1, b2, b3, b4, b5⟩ := hL m hm
  unfold rleave
  split
  · exact Inv_note (Inv_6 (show Inv (su S 24 0 0 _) from hI) (by omega))
  · split
    · refine Inv_note (Inv_6 (Inv_11 (Inv_9 hI (by omega)) (by omega)) (by omega))
    · exact hI
theorem leave_v {S : sT} {m v i j : Nat} (h : v ≠ 6 ∧ v ≠ 9 ∧ v ≠ 11 ∧ v ≠ 24 ∧ v ≠ 27 ∧ v ≠ 28 ∧ v ≠ 29 ∧ v ≠ 30) : rleave S m v i j = S v i j := by
  unfold rleave
  split
  · rw [note_v ⟨h.2.2.2.2.1, h.2.2.2.2.2.1, h.2.2.2.2.2.2.1, h.2.2.2.2.2.2.2⟩, su_v h.1, su_v h.2.2.2.1]
  · split
    · rw [note_v ⟨h.2.2.2.2.1, h.2.2.2.2.2.1, h.2.2.2.2.2.2.1, h.2.2.2.2.2.2.2⟩, su_v h.1, su_v h.2.2.1, su_v h.2.1]
    · rfl
theorem leave_30 {S : sT} {m : Nat} : S 30 0 0 ≤ rleave S m 30 0 0 ∧ rleave S m 30 0 0 ≤ S 30 0 0 + 1 := by
  unfold rleave
  split
  · rw [note_30, show (su (su S 24 0 0 (S 24 0 0 + 1)) 6 m 0 0) 30 0 0 = S 30 0 0 from rfl]; omega
  · split
    · rw [note_30, show (su (su (su S 9 m ((S 10 m 0 + S 11 m 0) % 1000).toNat (S 25 0 0)) 11 m 0 (S 11 m 0 + 1)) 6 m 0 0) 30 0 0 = S 30 0 0 from rfl]; omega
    · omega
theorem take_I {S : sT} {m : Nat} (hI : Inv S) (hm : (m : Int) < S 5 0 0) : Inv (rtake S m) := by
  obtain ⟨h5, h25, h20, hM, hL, hR⟩ := id hI
  obtain ⟨b1, b2, b3, b4, b5⟩ := hL m hm
  unfold rtake
  split
  · exact Inv_note (Inv_7 (Inv_6 (show Inv (su S 23 0 0 _) from hI) (by omega)) (by omega))
  · split
    · exact hI
    · rename_i h1 h2
      obtain ⟨a1, a2, a3, a4, a5, a6, a7, a8⟩ := hM (S 1 m 0).toNat (by omega)
      have h11 : S 11 (S 1 m 0).toNat 0 ≠ 0 := fun q => h2 (Or.inl (by unfold rat; rw [if_pos q]; exact Int.le_refl _))
      refine Inv_note (Inv_7 (Inv_6 (Inv_11 (Inv_10 hI (by omega)) (by show 0 ≤ S 11 (S 1 m 0).toNat 0 - 1 ∧ S 11 (S 1 m 0).toNat 0 - 1 ≤ 1000; omega)) (by omega)) (by omega))
theorem take_v {S : sT} {m v i j : Nat} (h : v ≠ 6 ∧ v ≠ 7 ∧ v ≠ 10 ∧ v ≠ 11 ∧ v ≠ 23 ∧ v ≠ 27 ∧ v ≠ 28 ∧ v ≠ 29 ∧ v ≠ 30) : rtake S m v i j = S v i j := by
  unfold rtake
  split
  · rw [note_v ⟨h.2.2.2.2.2.1, h.2.2.2.2.2.2.1, h.2.2.2.2.2.2.2.1, h.2.2.2.2.2.2.2.2⟩, su_v h.2.1, su_v h.1, su_v h.2.2.2.2.1]
  · split
    · rfl
    · rw [note_v ⟨h.2.2.2.2.2.1, h.2.2.2.2.2.2.1, h.2.2.2.2.2.2.2.1, h.2.2.2.2.2.2.2.2⟩, su_v h.2.1, su_v h.1, su_v h.2.2.2.1, su_v h.2.2.1]
theorem take_30 {S : sT} {m : Nat} : S 30 0 0 ≤ rtake S m 30 0 0 ∧ rtake S m 30 0 0 ≤ S 30 0 0 + 1 := by
  unfold rtake
  split
  · rw [note_30, show (su (su (su S 23 0 0 (S 23 0 0 + 1)) 6 m 0 1) 7 m 0 0) 30 0 0 = S 30 0 0 from rfl]; omega
  · split
    · omega
    · rw [note_30, show (su (su (su (su S 10 (S 1 m 0).toNat 0 ((S 10 (S 1 m 0).toNat 0 + 1) % 1000)) 11 (S 1 m 0).toNat 0 (S 11 (S 1 m 0).toNat 0 - 1)) 6 m 0 1) 7 m 0 0) 30 0 0 = S 30 0 0 from rfl]; omega
theorem rll_I {S : sT} {m : Nat} (hI : Inv S) (hm : (m : Int) < S 5 0 0) : Inv (rll S m) ∧ rll S m 5 0 0 = S 5 0 0 ∧ S 30 0 0 ≤ rll S m 30 0 0 ∧ rll S m 30 0 0 ≤ S 30 0 0 + 2 := by
  have key : ∀ T : sT, Inv T → T 5 0 0 = S 5 0 0 → S 30 0 0 ≤ T 30 0 0 ∧ T 30 0 0 ≤ S 30 0 0 + 1 → Inv (rlt T m) ∧ rlt T m 5 0 0 = S 5 0 0 ∧ S 30 0 0 ≤ rlt T m 30 0 0 ∧ rlt T m 30 0 0 ≤ S 30 0 0 + 2 := by
    intro T h1 h2 h3
    unfold rlt
    split
    · have := take_30 (S := T) (m := m)
      exact ⟨take_I h1 (by omega), (take_v (by decide)).trans h2, by omega, by omega⟩
    · exact ⟨h1, h2, by omega, by omega⟩
  unfold rll
  split
  · have := leave_30 (S := S) (m := m)
    exact key _ (leave_I hI hm) (leave_v (by decide)) (by omega)
  · exact key _ hI rfl (by omega)
theorem act_I {S : sT} {m : Nat} (hI : Inv S) (hm : (m : Int) < S 5 0 0) : Inv (ract S m) ∧ ract S m 5 0 0 = S 5 0 0 ∧ S 30 0 0 ≤ ract S m 30 0 0 ∧ ract S m 30 0 0 ≤ S 30 0 0 + 3 := by
  have hj := judge_30 (S := S) (m := m)
  have hj5 : (rjudge S m).1 5 0 0 = S 5 0 0 := judge_v (by decide)
  have hjI := judge_I (m := m) hI (by have := hI.1; omega)
  have h1 := rll_I hI hm
  have h2 := rll_I (S := (rjudge S m).1) (m := m) hjI (by omega)
  unfold ract
  split
  · unfold rjj
    split
    · split
      · exact ⟨hjI, hj5, by omega, by omega⟩
      · exact ⟨h2.1, by omega, by omega, by omega⟩
    · exact ⟨h1.1, by omega, by omega, by omega⟩
  · exact ⟨hI, rfl, by omega, by omega⟩
theorem hl_B {S : sT} (m : Nat) (hR : ∀ k : Nat, (k : Int) < S 20 0 0 → 1 ≤ S 19 k 0 ∧ S 19 k 0 ≤ 9) : ∀ n k : Nat, (k : Int) + n ≤ S 20 0 0 → rhl S m n k = -1 ∨ (1 ≤ rhl S m n k ∧ rhl S m n k ≤ 9)
  | 0, _, _ => Or.inl rfl
  | n + 1, k, h => by
    unfold rhl
    split
    · exact Or.inr (hR k (by omega))
    · exact hl_B m hR n (k + 1) (by omega)
theorem held_B {S : sT} (m : Nat) (hI : Inv S) : rheld S m = -1 ∨ (1 ≤ rheld S m ∧ rheld S m ≤ 9) :=
  hl_B m (fun k hk => (hI.2.2.2.2.2 k hk).2.2.2) _ _ (by have := hI.2.2.1; omega)
theorem cause_B {S : sT} (m : Nat) (hI : Inv S) : 0 ≤ rcause S m ∧ rcause S m < 12 := by
  have := held_B m hI
  unfold rcause
  split
  · split
    · omega
    · split
      · omega
      · split <;> omega
  · omega
/-- what act leaves alone -/
theorem act_v {S : sT} {m v i j : Nat} (h : v ∉ [6, 7, 8, 9, 10, 11, 22, 23, 24, 26, 27, 28, 29, 30]) : ract S m v i j = S v i j := by
  simp only [List.mem_cons, List.not_mem_nil, or_false, not_or] at h
  obtain ⟨h6, h7, h8, h9, h10, h11, h22, h23, h24, h26, h27, h28, h29, h30⟩ := h
  have t : ∀ T : sT, rlt T m v i j = T v i j := fun T => by
    unfold rlt
    split
    · exact take_v ⟨h6, h7, h10, h11, h23, h27, h28, h29, h30⟩
    · rfl
  have ll : ∀ T : sT, rll T m v i j = T v i j := fun T => by
    unfold rll
    rw [t]
    split
    · exact leave_v ⟨h6, h9, h11, h24, h27, h28, h29, h30⟩
    · rfl
  have jv : (rjudge S m).1 v i j = S v i j := judge_v ⟨h6, h8, h22, h26, h27, h28, h29, h30⟩
  unfold ract
  split
  · unfold rjj
    split
    · split
      · exact jv
      · rw [ll, jv]
    · exact ll S
  · rfl
theorem take_7 {S : sT} {m i : Nat} : rtake S m 7 i 0 = S 7 i 0 ∨ rtake S m 7 i 0 = 0 := by
  unfold rtake
  split
  · rw [note_v (by decide), su_0]; split <;> simp [su]
  · split
    · exact Or.inl rfl
    · rw [note_v (by decide), su_0]; split <;> simp [su]
theorem act_7 {S : sT} {m i : Nat} : ract S m 7 i 0 = S 7 i 0 ∨ ract S m 7 i 0 = 0 := by
  have t : ∀ T : sT, rlt T m 7 i 0 = T 7 i 0 ∨ rlt T m 7 i 0 = 0 := fun T => by
    unfold rlt
    split
    · exact take_7
    · exact Or.inl rfl
  have ll : ∀ T : sT, rll T m 7 i 0 = T 7 i 0 ∨ rll T m 7 i 0 = 0 := fun T => by
    unfold rll
    have h := t (if T 6 m 0 = 2 then rleave T m else T)
    have e : (if T 6 m 0 = 2 then rleave T m else T) 7 i 0 = T 7 i 0 := by
      split
      · exact leave_v (by decide)
      · rfl
    rw [e] at h
    exact h
  have jv : (rjudge S m).1 7 i 0 = S 7 i 0 := judge_v (by decide)
  unfold ract
  split
  · unfold rjj
    split
    · split
      · exact Or.inl jv
      · have h := ll (rjudge S m).1
        rw [jv] at h
        exact h
    · exact ll S
  · exact Or.inl rfl
theorem tm_I {S : sT} {m : Nat} (hI : Inv S) (hm : m < 12) (h7 : S 7 m 0 ≤ S 25 0 0) : Inv (rtm S m) := by
  have h := (hI.2.2.2.1 m hm).2.1
  refine Inv_7 (show Inv (su S 21 m (rcause S m).toNat _) from hI) ?_
  have h25 := hI.2.1
  show 0 ≤ S 7 m 0 + (if rcause S m = 0 then 1 else 0) ∧ S 7 m 0 + (if rcause S m = 0 then 1 else 0) ≤ 1000010001
  split <;> omega
theorem tm_v {S : sT} {m v i j : Nat} (h : v ≠ 21 ∧ v ≠ 7) : rtm S m v i j = S v i j := by
  unfold rtm; rw [su_v h.2, su_v h.1]
theorem tm_7 {S : sT} {m i : Nat} (h : i ≠ m) : rtm S m 7 i 0 = S 7 i 0 := by
  unfold rtm; rw [su_i h, su_v (by decide)]
theorem tick_I {S : sT} (hI : Inv S) (h : S 25 0 0 < 1000000000) : Inv (rtick S) := by
  obtain ⟨h5, h25, h20, hM, hL, hR⟩ := hI
  refine ⟨h5, ?_, h20, fun i hi => ?_, hL, hR⟩
  · show 0 ≤ S 25 0 0 + 1 ∧ S 25 0 0 + 1 ≤ 1000000000
    omega
  · obtain ⟨a1, a2, a3, a4, a5, a6, a7, a8⟩ := hM i hi
    refine ⟨a1, a2, ?_, a4, a5, a6, fun q hq => ?_, a8⟩
    · show 0 ≤ S 8 i 0 ∧ S 8 i 0 ≤ S 25 0 0 + 1 + 100000
      omega
    · have := a7 q hq
      show 0 ≤ S 9 i q ∧ S 9 i q ≤ S 25 0 0 + 1
      omega
theorem tm_7s {S : sT} {m : Nat} : rtm S m 7 m 0 ≤ S 7 m 0 + 1 := by
  unfold rtm; rw [su_same]; split <;> omega
theorem tm_8 {S : sT} {m : Nat} (i : Nat) (h1 : i = m → S 7 i 0 ≤ S 25 0 0) (h2 : S 7 i 0 ≤ S 25 0 0 + 1) : rtm S m 7 i 0 ≤ rtm S m 25 0 0 + 1 := by
  rw [tm_v (v := 25) (by decide)]
  by_cases h : i = m
  · subst h
    have := h1 rfl
    have h3 := tm_7s (S := S) (m := i)
    omega
  · rw [tm_7 h]; exact h2
