/-! Behind the acts of an instant: what holds of each machine that doesn't stand -/
def PA (S : sT) (j : Nat) : Prop := rheld S j = -1 → S 8 j 0 ≤ S 25 0 0 →
  (S 6 j 0 = 1 → S 7 j 0 < S 0 j 0) ∧ (S 6 j 0 = 2 → ¬ S 2 j 0 = -1 ∧ S 3 j 0 ≤ S 11 j 0) ∧ (S 6 j 0 = 0 → ¬ S 1 j 0 = -1 ∧ (S 25 0 0 ≤ rat S (S 1 j 0).toNat ∨ S 25 0 0 - rat S (S 1 j 0).toNat < S 4 (S 1 j 0).toNat 0))
/-- where a bottle is taken, or stays away -/
theorem take_PA {S : sT} {j : Nat} (hI : Inv S) (hj : (j : Int) < S 5 0 0) (h6 : S 6 j 0 = 0) : PA (rtake S j) j := by
  have h0 := (hI.2.2.2.2.1 j hj).1
  intro _ _
  by_cases hb : S 1 j 0 = -1
  · have e : rtake S j = rnote (su (su (su S 23 0 0 (S 23 0 0 + 1)) 6 j 0 1) 7 j 0 0) j 0 := by unfold rtake; rw [if_pos hb]
    rw [e, note_v (by decide), note_v (by decide), note_v (by decide), su_v (by decide), su_same, su_same, su_v (by decide), su_v (by decide), su_v (by decide)]
    exact ⟨fun _ => by omega, fun q => by omega, fun q => by omega⟩
  · by_cases hc : S 25 0 0 ≤ rat S (S 1 j 0).toNat ∨ S 25 0 0 - rat S (S 1 j 0).toNat < S 4 (S 1 j 0).toNat 0
    · have e : rtake S j = S := by unfold rtake; rw [if_neg hb, if_pos hc]
      rw [e]
      exact ⟨fun q => by omega, fun q => by omega, fun _ => ⟨hb, hc⟩⟩
    · have e : rtake S j = rnote (su (su (su (su S 10 (S 1 j 0).toNat 0 ((S 10 (S 1 j 0).toNat 0 + 1) % 1000)) 11 (S 1 j 0).toNat 0 (S 11 (S 1 j 0).toNat 0 - 1)) 6 j 0 1) 7 j 0 0) j 0 := by unfold rtake; rw [if_neg hb, if_neg hc]
      rw [e, note_v (by decide), note_v (by decide), note_v (by decide), su_v (by decide), su_same, su_same, su_v (by decide), su_v (by decide), su_v (by decide), su_v (by decide)]
      exact ⟨fun _ => by omega, fun q => by omega, fun q => by omega⟩
theorem rll_PA {S : sT} {j : Nat} (hI : Inv S) (hj : (j : Int) < S 5 0 0) (h1 : S 6 j 0 = 1 → S 7 j 0 < S 0 j 0) : PA (rll S j) j := by
  have h6 := (hI.2.2.2.1 j (by have := hI.1; omega)).1
  unfold rll
  by_cases h2 : S 6 j 0 = 2
  · rw [if_pos h2]
    unfold rlt
    by_cases hl : rleave S j 6 j 0 = 0
    · rw [if_pos hl]
      exact take_PA (leave_I hI hj) (by rw [leave_v (by decide)]; exact hj) hl
    · rw [if_neg hl]
      have e : rleave S j = S ∧ ¬ S 2 j 0 = -1 ∧ S 3 j 0 ≤ S 11 j 0 := by
        unfold rleave at hl ⊢
        by_cases q1 : S 2 j 0 = -1
        · rw [if_pos q1, note_v (by decide), su_same] at hl; exact absurd rfl hl
        · rw [if_neg q1] at hl ⊢
          by_cases q2 : S 11 j 0 < S 3 j 0
          · rw [if_pos q2, note_v (by decide), su_same] at hl; exact absurd rfl hl
          · rw [if_neg q2]; exact ⟨rfl, q1, by omega⟩
      rw [e.1]
      exact fun _ _ => ⟨fun q => by omega, fun _ => e.2, fun q => by omega⟩
  · rw [if_neg h2]
    unfold rlt
    by_cases h0 : S 6 j 0 = 0
    · rw [if_pos h0]; exact take_PA hI hj h0
    · rw [if_neg h0]; exact fun _ _ => ⟨h1, fun q => absurd q h2, fun q => absurd q h0⟩
theorem judge_r {S : sT} {m : Nat} (hb : ¬ (rjudge S m).2 = true) : (rjudge S m).1 6 m 0 = 0 ∨ (rjudge S m).1 6 m 0 = 2 := by
  have e6 : (rjl m (S 15 m 0).toNat 0 (su S 6 m 0 2) 0).1 6 m 0 = 2 := (rjl_v m _ _ _ _ _ _ _ (by decide)).trans (su_same _ _ _ _ _)
  unfold rjudge rjfin at hb ⊢
  split at hb
  · rename_i h; rw [if_pos h]; left; dsimp only; rw [note_v (by decide), su_v (by decide), su_same]
  · rename_i h
    rw [if_neg h]
    split at hb
    · exact absurd rfl hb
    · rename_i h2; rw [if_neg h2]; right; exact e6
theorem act_PA {S : sT} {j : Nat} (hI : Inv S) (hC : InvC S) (hj : (j : Int) < S 5 0 0) : PA (ract S j) j := by
  have hj12 : j < 12 := by have := hI.1; omega
  by_cases h : rheld S j = -1 ∧ S 8 j 0 ≤ S 25 0 0
  · have e : ract S j = rjj S j := by unfold ract; rw [if_pos h]
    rw [e]
    unfold rjj
    by_cases h1 : S 6 j 0 = 1 ∧ S 7 j 0 = S 0 j 0
    · rw [if_pos h1]
      have hs := judge_st (S := S) (m := j) h.2
      by_cases hb : (rjudge S j).2 = true
      · rw [if_pos hb]
        intro _ q
        rw [judge_v (v := 25) (by decide)] at q
        have := hs.1.mpr hb
        omega
      · rw [if_neg hb]
        refine rll_PA (judge_I hI hj12) (by rw [judge_v (by decide)]; exact hj) (fun q => ?_)
        have hr := judge_r (S := S) (m := j) hb
        omega
    · rw [if_neg h1]
      refine rll_PA hI hj (fun q => ?_)
      have := (hC j hj).1 (by omega)
      omega
  · have e : ract S j = S := by unfold ract; rw [if_neg h]
    rw [e]
    exact fun q1 q2 => absurd ⟨q1, q2⟩ h
/-- which cells of others an act of machine i leaves alone -/
def Ot (S : sT) (i k : Nat) (X : sT) : Prop := (X 6 k 0 = S 6 k 0 ∧ X 7 k 0 = S 7 k 0 ∧ X 8 k 0 = S 8 k 0) ∧ (¬ S 1 i 0 = (k : Int) → X 11 k 0 = S 11 k 0 ∧ X 10 k 0 = S 10 k 0) ∧ (∀ q, X 9 k q = S 9 k q) ∧ X 1 i 0 = S 1 i 0
theorem Ot_judge {S : sT} {i k : Nat} (hk : k ≠ i) : Ot S i k (rjudge S i).1 := by
  refine ⟨⟨?_, judge_v (by decide), judge_8 hk⟩, fun _ => ⟨judge_v (by decide), judge_v (by decide)⟩, fun q => judge_v (by decide), judge_v (by decide)⟩
  rcases judge_6 (S := S) (m := i) (i := k) with h | ⟨h, -⟩
  · exact h
  · exact absurd h hk
theorem Ot_leave {S X : sT} {i k : Nat} (hk : k ≠ i) (h : Ot S i k X) : Ot S i k (rleave X i) := by
  obtain ⟨⟨h6, h7, h8⟩, h11, h9, h1⟩ := h
  have e6 : rleave X i 6 k 0 = X 6 k 0 := by
    rcases leave_6 (S := X) (m := i) (i := k) with h | ⟨h, -⟩
    · exact h
    · exact absurd h hk
  have e11 : rleave X i 11 k 0 = X 11 k 0 := by
    unfold rleave
    split
    · rw [note_v (by decide), su_v (by decide), su_v (by decide)]
    · split
      · rw [note_v (by decide), su_v (by decide), su_i hk, su_v (by decide)]
      · rfl
  have e9 : ∀ q, rleave X i 9 k q = X 9 k q := by
    intro q
    unfold rleave
    split
    · rw [note_v (by decide), su_v (by decide), su_v (by decide)]
    · split
      · rw [note_v (by decide), su_v (by decide), su_v (by decide), su_i hk]
      · rfl
  refine ⟨⟨e6.trans h6, (leave_v (by decide)).trans h7, (leave_v (by decide)).trans h8⟩, fun hn => ⟨e11.trans (h11 hn).1, (leave_v (by decide)).trans (h11 hn).2⟩, fun q => (e9 q).trans (h9 q), (leave_v (by decide)).trans h1⟩
theorem Ot_take {S X : sT} {i k : Nat} (hk : k ≠ i) (hb : S 1 i 0 = -1 ∨ 0 ≤ S 1 i 0) (h : Ot S i k X) : Ot S i k (rtake X i) := by
  obtain ⟨⟨h6, h7, h8⟩, h11, h9, h1⟩ := h
  have h67 : rtake X i 6 k 0 = X 6 k 0 ∧ rtake X i 7 k 0 = X 7 k 0 := by
    rcases take_67 (S := X) (m := i) (i := k) with h | ⟨h, -⟩
    · exact h
    · exact absurd h hk
  have e11 : ¬ S 1 i 0 = (k : Int) → rtake X i 11 k 0 = X 11 k 0 ∧ rtake X i 10 k 0 = X 10 k 0 := by
    intro hn
    unfold rtake
    split
    · rw [note_v (by decide), note_v (by decide), su_v (by decide), su_v (by decide), su_v (by decide), su_v (by decide), su_v (by decide), su_v (by decide)]; exact ⟨rfl, rfl⟩
    · split
      · exact ⟨rfl, rfl⟩
      · have hne : k ≠ (X 1 i 0).toNat := by omega
        rw [note_v (by decide), note_v (by decide), su_v (by decide), su_v (by decide), su_i hne, su_v (by decide), su_v (by decide), su_v (by decide), su_v (by decide), su_i hne]; exact ⟨rfl, rfl⟩
  refine ⟨⟨h67.1.trans h6, h67.2.trans h7, (take_v (by decide)).trans h8⟩, fun hn => ⟨(e11 hn).1.trans (h11 hn).1, (e11 hn).2.trans (h11 hn).2⟩, fun q => (take_v (by decide)).trans (h9 q), (take_v (by decide)).trans h1⟩
theorem Ot_rll {S X : sT} {i k : Nat} (hk : k ≠ i) (hb : S 1 i 0 = -1 ∨ 0 ≤ S 1 i 0) (h : Ot S i k X) : Ot S i k (rll X i) := by
  have t : ∀ Y : sT, Ot S i k Y → Ot S i k (rlt Y i) := fun Y hY => by
    unfold rlt
    split
    · exact Ot_take hk hb hY
    · exact hY
  unfold rll
  split
  · exact t _ (Ot_leave hk h)
  · exact t _ h
theorem act_o {S : sT} {i k : Nat} (hk : k ≠ i) (hb : S 1 i 0 = -1 ∨ 0 ≤ S 1 i 0) : Ot S i k (ract S i) := by
  have h0 : Ot S i k S := ⟨⟨rfl, rfl, rfl⟩, fun _ => ⟨rfl, rfl⟩, fun _ => rfl, rfl⟩
  unfold ract
  split
  · unfold rjj
    split
    · split
      · exact Ot_judge hk
      · exact Ot_rll hk hb (Ot_judge hk)
    · exact Ot_rll hk hb h0
  · exact h0
theorem rat_eq {S X : sT} {b : Nat} (h11 : X 11 b 0 = S 11 b 0) (h10 : X 10 b 0 = S 10 b 0) (h9 : ∀ q, X 9 b q = S 9 b q) (h25 : X 25 0 0 = S 25 0 0) : rat X b = rat S b := by
  unfold rat; rw [h11, h10, h9, h25]
theorem leave_rat {S : sT} {b : Nat} (hI : Inv S) (hb : (b : Int) < S 5 0 0) : rat (rleave S b) b = rat S b := by
  have h10 := (hI.2.2.2.1 b (by have := hI.1; omega)).2.2.2.1
  have h11 := (hI.2.2.2.1 b (by have := hI.1; omega)).2.2.2.2.1
  have h3 := (hI.2.2.2.2.1 b hb).2.2.2.1
  by_cases q1 : S 2 b 0 = -1
  · have e : rleave S b = rnote (su (su S 24 0 0 (S 24 0 0 + 1)) 6 b 0 0) b 1 := by unfold rleave; rw [if_pos q1]
    rw [e]
    refine rat_eq ?_ ?_ (fun q => ?_) ?_ <;> rw [note_v (by decide), su_v (by decide), su_v (by decide)]
  · by_cases q2 : S 11 b 0 < S 3 b 0
    · have e : rleave S b = rnote (su (su (su S 9 b ((S 10 b 0 + S 11 b 0) % 1000).toNat (S 25 0 0)) 11 b 0 (S 11 b 0 + 1)) 6 b 0 0) b 1 := by unfold rleave; rw [if_neg q1, if_pos q2]
      have x11 : rleave S b 11 b 0 = S 11 b 0 + 1 := by rw [e, note_v (by decide), su_v (by decide), su_same]
      have x10 : rleave S b 10 b 0 = S 10 b 0 := leave_v (by decide)
      have x25 : rleave S b 25 0 0 = S 25 0 0 := leave_v (by decide)
      have x9 : ∀ q, rleave S b 9 b q = su S 9 b ((S 10 b 0 + S 11 b 0) % 1000).toNat (S 25 0 0) 9 b q := fun q => by rw [e, note_v (by decide), su_v (by decide), su_v (by decide)]
      unfold rat
      rw [x11, x10, x25, x9, if_neg (by omega)]
      by_cases q3 : S 11 b 0 = 0
      · rw [if_pos q3, q3, show ((S 10 b 0 + 0) % 1000).toNat = (S 10 b 0).toNat by omega, su_same]
      · rw [if_neg q3, su_f (by omega)]
    · have e : rleave S b = S := by unfold rleave; rw [if_neg q1, if_neg q2]
      rw [e]
theorem take_rat {S : sT} {b : Nat} (h1 : S 1 b 0 = -1 ∨ (0 ≤ S 1 b 0 ∧ S 1 b 0 < b)) : rat (rtake S b) b = rat S b := by
  unfold rtake
  split
  · refine rat_eq ?_ ?_ (fun q => ?_) ?_ <;> rw [note_v (by decide), su_v (by decide), su_v (by decide), su_v (by decide)]
  · split
    · rfl
    · have hne : b ≠ (S 1 b 0).toNat := by omega
      refine rat_eq ?_ ?_ (fun q => ?_) ?_
      · rw [note_v (by decide), su_v (by decide), su_v (by decide), su_i hne, su_v (by decide)]
      · rw [note_v (by decide), su_v (by decide), su_v (by decide), su_v (by decide), su_i hne]
      · rw [note_v (by decide), su_v (by decide), su_v (by decide), su_v (by decide), su_v (by decide)]
      · rw [note_v (by decide), su_v (by decide), su_v (by decide), su_v (by decide), su_v (by decide)]
theorem act_rat {S : sT} {b : Nat} (hI : Inv S) (hb : (b : Int) < S 5 0 0) : rat (ract S b) b = rat S b := by
  have h1 := (hI.2.2.2.2.1 b hb).2.1
  have t : ∀ X : sT, (X 1 b 0 = -1 ∨ (0 ≤ X 1 b 0 ∧ X 1 b 0 < b)) → rat (rlt X b) b = rat X b := fun X h => by
    unfold rlt
    split
    · exact take_rat h
    · rfl
  have ll : ∀ X : sT, Inv X → (b : Int) < X 5 0 0 → rat (rll X b) b = rat X b := fun X h1 h2 => by
    have h3 := (h1.2.2.2.2.1 b h2).2.1
    unfold rll
    split
    · rw [t _ (by rw [leave_v (by decide)]; exact h3), leave_rat h1 h2]
    · exact t _ h3
  have jd : rat (rjudge S b).1 b = rat S b := rat_eq (judge_v (by decide)) (judge_v (by decide)) (fun q => judge_v (by decide)) (judge_v (by decide))
  unfold ract
  split
  · unfold rjj
    split
    · split
      · exact jd
      · rw [ll _ (judge_I hI (by have := hI.1; omega)) (by rw [judge_v (by decide)]; exact hb), jd]
    · exact ll S hI hb
  · rfl
theorem act_PA_o {S : sT} {i j : Nat} (hI : Inv S) (hB : InvB S) (hij : i < j) (hj : (j : Int) < S 5 0 0) (h : PA S j) : PA (ract S i) j := by
  have hi : (i : Int) < S 5 0 0 := by omega
  have hLi := (hI.2.2.2.2.1 i hi).2.1
  have hLj := (hI.2.2.2.2.1 j hj).2.1
  have ho := act_o (S := S) (i := i) (k := j) (by omega) (by omega)
  obtain ⟨⟨e6, e7, e8⟩, e11, e9, -⟩ := ho
  intro q1 q2
  rw [act_held] at q1
  rw [e8, act_v (by decide)] at q2
  have hp := h q1 q2
  rw [e6, e7, act_v (v := 0) (by decide), act_v (v := 2) (by decide), act_v (v := 3) (by decide), (e11 (by omega)).1, act_v (v := 1) (by decide), act_v (v := 25) (by decide), act_v (v := 4) (by decide)]
  refine ⟨hp.1, hp.2.1, fun q => ?_⟩
  have h3 := hp.2.2 q
  have hr : rat (ract S i) (S 1 j 0).toNat = rat S (S 1 j 0).toNat := by
    by_cases hib : i = (S 1 j 0).toNat
    · rw [← hib]; exact act_rat hI hi
    · have ho2 := act_o (S := S) (i := i) (k := (S 1 j 0).toNat) (by omega) (by omega)
      have hne : ¬ S 1 i 0 = ((S 1 j 0).toNat : Int) := by
        intro q9
        have b1 := hB i hi (by omega)
        have b2 := hB j hj h3.1
        have e : (S 1 i 0).toNat = (S 1 j 0).toNat := by omega
        rw [e, b2] at b1
        omega
      exact rat_eq (ho2.2.1 hne).1 (ho2.2.1 hne).2 ho2.2.2.1 (act_v (by decide))
  rw [hr]
  exact h3
theorem InvB_eq {S T : sT} (h5 : T 5 0 0 = S 5 0 0) (h1 : ∀ i, T 1 i 0 = S 1 i 0) (h2 : ∀ i, T 2 i 0 = S 2 i 0) (h : InvB S) : InvB T := by
  intro j hj hn
  rw [h1] at hn ⊢
  rw [h2]
  exact h j (by omega) hn
theorem actA_PA : ∀ (k : Nat) (S : sT), Inv S → InvC S → InvB S → (k : Int) ≤ S 5 0 0 → (∀ j : Nat, k ≤ j → (j : Int) < S 5 0 0 → PA S j) → ∀ j : Nat, (j : Int) < S 5 0 0 → PA (ractA k S) j
  | 0, S, _, _, _, _, h => fun j hj => h j (Nat.zero_le j) hj
  | k + 1, S, hI, hC, hB, hk, h => fun j hj => by
    have h5 : ract S k 5 0 0 = S 5 0 0 := act_v (by decide)
    refine actA_PA k (ract S k) (act_I hI (by omega)).1 (InvC_act hI hC (by omega)) (InvB_eq h5 (fun _ => act_v (by decide)) (fun _ => act_v (by decide)) hB) (by omega) (fun j2 h1 h2 => ?_) j (by omega)
    by_cases e : j2 = k
    · subst e; exact act_PA hI hC (by omega)
    · exact act_PA_o hI hB (by omega) (by omega) (h j2 (by omega) (by omega))
