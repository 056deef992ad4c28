/-! One step of the class's run is so many instants of the reference -/
theorem held_at {A P : sT} {t : Int} (h : ∀ v k, v ∈ [16, 17, 18, 19] → P v k 0 = A v k 0) (h20 : P 20 0 0 = A 20 0 0) (h25 : P 25 0 0 = t) (j : Nat) : rheld P j = rheld (su A 25 0 0 t) j :=
  rheld_eq j (fun v k hv => by rw [su_v (by simp only [List.mem_cons, List.not_mem_nil, or_false] at hv; omega)]; exact h v k hv) (by rw [h25, su_same]) (by rw [su_v (by decide)]; exact h20)
theorem in16 {v : Nat} (h : v ∈ [16, 17, 18, 19]) : v = 16 ∨ v = 17 ∨ v = 18 ∨ v = 19 := by
  simp only [List.mem_cons, List.not_mem_nil, or_false] at h; exact h
theorem cc_eq {A : sT} {F : Nat → Int} {j : Nat} (hI : Inv A) (hC : InvC A) (hj : (j : Int) < A 5 0 0) (hP : PA A j) (hF : rheld A j = F j) : rcause A j = ccause A F j (A 25 0 0) := by
  have h6 := (hI.2.2.2.1 j (by have := hI.1; omega)).1
  have hc := hC j hj
  unfold rcause ccause
  rw [hF]
  by_cases h1 : F j = -1
  · rw [if_pos h1, if_pos h1]
    by_cases h2 : A 25 0 0 < A 8 j 0
    · rw [if_pos h2, if_pos h2]
    · rw [if_neg h2, if_neg h2]
      have hp := hP (hF.trans h1) (by omega)
      rcases (show A 6 j 0 = 0 ∨ A 6 j 0 = 1 ∨ A 6 j 0 = 2 by omega) with h | h | h
      · rw [if_neg (by omega), if_neg (by omega), if_pos h]
      · have := hp.1 h
        rw [if_pos h, if_neg (by omega), if_pos this]
      · have := hc.2.1 h
        rw [if_neg (by omega), if_pos h, if_neg (by omega), if_neg (by omega)]
  · rw [if_neg h1, if_neg h1]
theorem quiet_act {A : sT} {F : Nat → Int} {n : Nat} {k r : Int} (hn : (n : Int) = A 5 0 0) (hI : Inv A) (hC : InvC A) {j : Nat} (hj : j < n) (hP : PA A j)
    (hF : ∀ t : Int, A 25 0 0 ≤ t → t < r → rheld (su A 25 0 0 t) j = F j) (hE : F j = -1 ∨ 1 ≤ F j) (hk : 0 ≤ k) (hkr : A 25 0 0 + k < r) (hq : k < cquiet A F j (A 25 0 0)) :
    ract (pst A (fun i => ccause A F i (A 25 0 0)) n k) j = pst A (fun i => ccause A F i (A 25 0 0)) n k ∧ rcause (pst A (fun i => ccause A F i (A 25 0 0)) n k) j = ccause A F j (A 25 0 0) := by
  have hjn : (j : Int) < A 5 0 0 := by omega
  have h6 := (hI.2.2.2.1 j (by have := hI.1; omega)).1
  have h1L := (hI.2.2.2.2.1 j hjn).2.1
  have hc := hC j hjn
  have hheld : rheld (pst A (fun i => ccause A F i (A 25 0 0)) n k) j = F j := by
    rw [held_at (A := A) (t := A 25 0 0 + k) (fun v q hv => pst_v (by have := in16 hv; omega)) (pst_v (by decide)) (pst_25 _ _ _ _)]
    exact hF _ (by omega) hkr
  have hA : rheld A j = F j := by
    rw [← hF (A 25 0 0) (Int.le_refl _) (by omega)]
    exact held_at (fun _ _ _ => rfl) rfl rfl j
  have e7 := pst_7 A (fun i => ccause A F i (A 25 0 0)) n k j hj
  have e25 := pst_25 A (fun i => ccause A F i (A 25 0 0)) n k
  have ev : ∀ v a b, v ≠ 25 → v ≠ 21 → v ≠ 7 → pst A (fun i => ccause A F i (A 25 0 0)) n k v a b = A v a b := fun v a b q1 q2 q3 => pst_v ⟨q1, q2, q3⟩
  generalize hPe : pst A (fun i => ccause A F i (A 25 0 0)) n k = P at hheld e7 e25 ev
  have p6 : P 6 j 0 = A 6 j 0 := ev _ _ _ (by decide) (by decide) (by decide)
  have p8 : P 8 j 0 = A 8 j 0 := ev _ _ _ (by decide) (by decide) (by decide)
  have p0 : P 0 j 0 = A 0 j 0 := ev _ _ _ (by decide) (by decide) (by decide)
  have p1 : P 1 j 0 = A 1 j 0 := ev _ _ _ (by decide) (by decide) (by decide)
  have p2 : P 2 j 0 = A 2 j 0 := ev _ _ _ (by decide) (by decide) (by decide)
  have p3 : P 3 j 0 = A 3 j 0 := ev _ _ _ (by decide) (by decide) (by decide)
  have p11 : ∀ b, P 11 b 0 = A 11 b 0 := fun b => ev _ _ _ (by decide) (by decide) (by decide)
  have p10 : ∀ b, P 10 b 0 = A 10 b 0 := fun b => ev _ _ _ (by decide) (by decide) (by decide)
  have p4 : ∀ b, P 4 b 0 = A 4 b 0 := fun b => ev _ _ _ (by decide) (by decide) (by decide)
  have p9 : ∀ b q, P 9 b q = A 9 b q := fun b q => ev _ _ _ (by decide) (by decide) (by decide)
  by_cases h1 : F j = -1
  · by_cases h2 : A 25 0 0 < A 8 j 0
    · have hcc : ccause A F j (A 25 0 0) = 3 := by unfold ccause; rw [if_pos h1, if_pos h2]
      have hqq : k < A 8 j 0 - A 25 0 0 := by unfold cquiet at hq; rw [hcc, if_neg (by decide), if_pos rfl] at hq; exact hq
      refine ⟨by unfold ract; rw [if_neg (by omega)], ?_⟩
      unfold rcause; rw [hheld, if_pos h1, if_pos (by omega), hcc]
    · have hp := hP (hA.trans h1) (by omega)
      have hr1 : ract P j = rjj P j := by unfold ract; rw [if_pos (by omega)]
      have hrc : rcause P j = if P 6 j 0 = 1 then 0 else if P 6 j 0 = 2 then 11 else 10 := by unfold rcause; rw [hheld, if_pos h1, if_neg (by omega)]
      rcases (show A 6 j 0 = 0 ∨ A 6 j 0 = 1 ∨ A 6 j 0 = 2 by omega) with h | h | h
      · have hcc : ccause A F j (A 25 0 0) = 10 := by unfold ccause; rw [if_pos h1, if_neg h2, if_pos h]
        have h3 := hp.2.2 h
        obtain ⟨b, hb⟩ : ∃ b : Nat, A 1 j 0 = (b : Int) := ⟨(A 1 j 0).toNat, by omega⟩
        have hqq : k < rready A b - A 25 0 0 := by
          unfold cquiet at hq
          rw [hcc, if_neg (by decide), if_neg (by decide), if_pos rfl, if_neg h3.1, hb] at hq
          exact hq
        have h11 := (hI.2.2.2.1 b (by have := hI.1; omega)).2.2.2.2.1
        have htk : rtake P j = P := by
          unfold rtake
          rw [p1, if_neg h3.1, hb, if_pos]
          simp only [Int.toNat_natCast]
          unfold rat
          rw [p11, p10, p9, e25, p4]
          unfold rready at hqq
          by_cases hm : A 11 b 0 = 0
          · rw [if_pos hm]; left; exact Int.le_refl _
          · rw [if_neg hm]; rw [if_pos (by omega)] at hqq; omega
        refine ⟨?_, by rw [hrc, p6, if_neg (by omega), if_neg (by omega), hcc]⟩
        rw [hr1]
        unfold rjj
        rw [if_neg (by omega)]
        unfold rll
        rw [if_neg (by omega)]
        unfold rlt
        rw [if_pos (by omega), htk]
      · have h3 := hp.1 h
        have hcc : ccause A F j (A 25 0 0) = 0 := by unfold ccause; rw [if_pos h1, if_neg h2, if_neg (by omega), if_pos h3]
        have hqq : k < A 0 j 0 - A 7 j 0 := by unfold cquiet at hq; rw [hcc, if_pos rfl] at hq; exact hq
        simp only [hcc, if_true] at e7
        refine ⟨?_, by rw [hrc, p6, if_pos h, hcc]⟩
        rw [hr1]
        unfold rjj
        rw [if_neg (by omega)]
        unfold rll
        rw [if_neg (by omega)]
        unfold rlt
        rw [if_neg (by omega)]
      · have h3 := hp.2.1 h
        have h4 := hc.2.1 h
        have hcc : ccause A F j (A 25 0 0) = 11 := by unfold ccause; rw [if_pos h1, if_neg h2, if_neg (by omega), if_neg (by omega)]
        have hlv : rleave P j = P := by unfold rleave; rw [p2, if_neg h3.1, p11, p3, if_neg (by omega)]
        refine ⟨?_, by rw [hrc, p6, if_neg (by omega), if_pos h, hcc]⟩
        rw [hr1]
        unfold rjj
        rw [if_neg (by omega)]
        unfold rll
        rw [if_pos (by omega), hlv]
        unfold rlt
        rw [if_neg (by omega)]
  · refine ⟨by unfold ract; rw [if_neg (by omega)], ?_⟩
    unfold rcause ccause; rw [hheld, if_neg h1, if_neg h1]
theorem cqa_le (A : sT) (F : Nat → Int) (z : Int) : ∀ (n : Nat) (q : Int), cqa A F z n q ≤ q ∧ ∀ j, j < n → cqa A F z n q ≤ cquiet A F j z
  | 0, q => ⟨Int.le_refl q, fun j h => absurd h (Nat.not_lt_zero j)⟩
  | n + 1, q => by
    have h := cqa_le A F z n (min q (cquiet A F n z))
    refine ⟨?_, fun j hj => ?_⟩
    · show cqa A F z n (min q (cquiet A F n z)) ≤ q
      omega
    · show cqa A F z n (min q (cquiet A F n z)) ≤ cquiet A F j z
      by_cases e : j = n
      · subst e; omega
      · exact h.2 j (by omega)
theorem actA_no : ∀ (n : Nat) (X : sT), (∀ j, j < n → ract X j = X) → ractA n X = X
  | 0, _, _ => rfl
  | n + 1, X, h => by
    show ractA n (ract X n) = X
    rw [h n (by omega)]
    exact actA_no n X (fun j hj => h j (by omega))
theorem pst_7n (A : sT) (c : Nat → Int) (n : Nat) (k : Int) (i : Nat) : pst A c n k 7 i 0 = A 7 i 0 ∨ (i < n ∧ c i = 0 ∧ pst A c n k 7 i 0 = A 7 i 0 + k) := by
  unfold pst; rw [if_neg (by simp), if_neg (by simp)]
  by_cases h : 7 = 7 ∧ i < n ∧ 0 = 0 ∧ c i = 0
  · right; rw [if_pos h]; exact ⟨h.2.1, h.2.2.2, rfl⟩
  · left; rw [if_neg h]
theorem step_core {T : sT} {F : Nat → Int} {r : Int} (st : Int) (hI : Inv T) (hC : InvC T) (hB : InvB T) (hV : Cv T F r) (hr : T 25 0 0 < r) (h1 : 1 ≤ st) (hm : T 25 0 0 + st ≤ 1000000000) (hq : st = 1 ∨ st ≤ cqt (ractA (T 5 0 0).toNat T) F r) :
    cps (ractA (T 5 0 0).toNat T) F st = rrunL st.toNat T ∧ Inv (cps (ractA (T 5 0 0).toNat T) F st) ∧ InvC (cps (ractA (T 5 0 0).toNat T) F st) ∧ InvB (cps (ractA (T 5 0 0).toNat T) F st) ∧ Cv (cps (ractA (T 5 0 0).toNat T) F st) F r := by
  have h5 := hI.1
  obtain ⟨n, hn⟩ : ∃ n : Nat, (n : Int) = T 5 0 0 := ⟨(T 5 0 0).toNat, by omega⟩
  have en : (T 5 0 0).toNat = n := by omega
  have hAI := actA_I n T hI (by omega)
  have hAC := actA_C n T hI hC (by omega)
  have hPA := actA_PA n T hI hC hB (by omega) (fun j h1 h2 => absurd h2 (by omega))
  have hAv : ∀ {v i j : Nat}, v ∉ [6, 7, 8, 9, 10, 11, 22, 23, 24, 26, 27, 28, 29, 30] → ractA n T v i j = T v i j := fun h => actA_v n T h
  have hri : rinst T = rtick (rtmA n 0 (ractA n T)) := by unfold rinst; rw [en]
  rw [en] at hq ⊢
  generalize ractA n T = A at hAI hAC hPA hAv hri hq ⊢
  have a25 : A 25 0 0 = T 25 0 0 := hAv (by decide)
  have a5 : A 5 0 0 = T 5 0 0 := hAv (by decide)
  have hFt : ∀ t : Int, A 25 0 0 ≤ t → t < r → ∀ j : Nat, j < n → rheld (su A 25 0 0 t) j = F j := by
    intro t q1 q2 j hj
    rw [← hV.2.2 t (by omega) q2 j (by omega)]
    exact held_at (A := T) (fun v k hv => by rw [su_v (by have := in16 hv; omega)]; exact hAv (by have := in16 hv; simp only [List.mem_cons, List.not_mem_nil, or_false]; omega)) (by rw [su_v (by decide)]; exact hAv (by decide)) (su_same _ _ _ _ _) j
  have hFA : ∀ j : Nat, j < n → rheld A j = F j := fun j hj => by
    rw [← hFt (A 25 0 0) (Int.le_refl _) (by omega) j hj]
    exact held_at (fun _ _ _ => rfl) rfl rfl j
  have hcc : ∀ i, i < n → ccause A F i (A 25 0 0) = rcause A i := fun i hi => (cc_eq hAI.1 hAC (by omega) (hPA i (by omega)) (hFA i hi)).symm
  have hc0 : ∀ i, i < n → 0 ≤ ccause A F i (A 25 0 0) := fun i hi => by rw [hcc i hi]; exact (cause_B i hAI.1).1
  have hcp : ∀ k, cps A F k = pst A (fun i => ccause A F i (A 25 0 0)) n k := fun k => cps_eq (by omega) hc0
  have hq1 := cqa_le A F (A 25 0 0) n (r - A 25 0 0)
  have hcq : cqt A F r = cqa A F (A 25 0 0) n (r - A 25 0 0) := by unfold cqt; rw [show (A 5 0 0).toNat = n by omega]
  have hw : ∀ i, i < n → ccause A F i (A 25 0 0) = 0 → A 7 i 0 + st ≤ A 0 i 0 := by
    intro i hi hc
    have h2 := cc_work hc (hV.2.1 i (by omega)).2
    rcases hq with q | q
    · omega
    · have h3 := hq1.2 i hi
      rw [← hcq] at h3
      unfold cquiet at h3
      rw [if_pos hc] at h3
      omega
  -- the instants behind the first
  have hrun : ∀ m : Nat, 1 + (m : Int) ≤ st → rrunL m (pst A (fun i => ccause A F i (A 25 0 0)) n 1) = pst A (fun i => ccause A F i (A 25 0 0)) n (1 + m) := by
    intro m
    induction m with
    | zero => intro _; rfl
    | succ m ih =>
      intro hle
      rw [rrunL_add m 1, ih (by omega)]
      have hq2 : st ≤ cqt A F r := by rcases hq with q | q <;> omega
      rw [hcq] at hq2
      have hqa : ∀ j, j < n → ract (pst A (fun i => ccause A F i (A 25 0 0)) n (1 + m)) j = pst A (fun i => ccause A F i (A 25 0 0)) n (1 + m) ∧ rcause (pst A (fun i => ccause A F i (A 25 0 0)) n (1 + m)) j = ccause A F j (A 25 0 0) := fun j hj =>
        quiet_act (by omega) hAI.1 hAC hj (hPA j (by omega)) (fun t q1 q2 => hFt t q1 q2 j hj) (hV.2.1 j (by omega)).2 (by omega) (by omega) (by have := hq1.2 j hj; omega)
      show rinst _ = _
      unfold rinst
      have e5 : pst A (fun i => ccause A F i (A 25 0 0)) n (1 + m) 5 0 0 = A 5 0 0 := pst_v (by decide)
      rw [e5, show (A 5 0 0).toNat = n by omega, actA_no n _ (fun j hj => (hqa j hj).1), inst_eq (c := fun i => ccause A F i (A 25 0 0)) (fun i hi => ((hqa i hi).2).symm) hc0, pst_pst]
      congr 1
  have hall : cps A F st = rrunL st.toNat T := by
    obtain ⟨m, hm⟩ : ∃ m : Nat, st = 1 + (m : Int) := ⟨(st - 1).toNat, by omega⟩
    rw [hcp, show st.toNat = m + 1 by omega]
    show _ = rrunL m (rinst T)
    rw [hri, inst_eq (c := fun i => ccause A F i (A 25 0 0)) hcc hc0, hrun m (by omega), hm]
  refine ⟨hall, ?_, ?_, ?_, ?_⟩
  · rw [hcp]
    have pv : ∀ {v i j : Nat}, v ≠ 25 ∧ v ≠ 21 ∧ v ≠ 7 → pst A (fun i => ccause A F i (A 25 0 0)) n st v i j = A v i j := fun h => pst_v h
    have p25 := pst_25 A (fun i => ccause A F i (A 25 0 0)) n st
    have p7 := pst_7n A (fun i => ccause A F i (A 25 0 0)) n st
    generalize pst A (fun i => ccause A F i (A 25 0 0)) n st = P at pv p25 p7 ⊢
    obtain ⟨b1, b2, b3, b4, b5, b6⟩ := hAI.1
    refine ⟨by rw [pv (by decide)]; exact b1, by omega, by rw [pv (by decide)]; exact b3, fun i hi => ?_, fun i hi => ?_, fun k hk => ?_⟩
    · obtain ⟨m1, m2, m3, m4, m5, m6, m7, m8⟩ := b4 i hi
      refine ⟨by rw [pv (by decide)]; exact m1, ?_, by rw [pv (v := 8) (by decide), p25]; omega, by rw [pv (by decide)]; exact m4, by rw [pv (by decide)]; exact m5, by rw [pv (by decide)]; exact m6, fun q hq => ?_, fun j hj => ?_⟩
      · rcases p7 i with q | ⟨q1, q2, q3⟩
        · rw [q]; exact m2
        · have h2 := hw i q1 q2
          have h3 := (b5 i (by omega)).1
          omega
      · have := m7 q hq
        rw [pv (v := 9) (by decide), p25]; omega
      · rw [pv (v := 12) (by decide), pv (v := 13) (by decide), pv (v := 14) (by decide), pv (v := 15) (by decide)]; exact m8 j hj
    · rw [pv (by decide)] at hi
      have hl := b5 i hi
      unfold InvL
      rw [pv (v := 0) (by decide), pv (v := 1) (by decide), pv (v := 2) (by decide), pv (v := 3) (by decide), pv (v := 4) (by decide), pv (v := 5) (by decide)]
      exact hl
    · rw [pv (by decide)] at hk
      have hl := b6 k hk
      unfold InvR
      rw [pv (v := 16) (by decide), pv (v := 17) (by decide), pv (v := 18) (by decide), pv (v := 19) (by decide), pv (v := 5) (by decide)]
      exact hl
  · rw [hcp]
    intro i hi
    rw [pst_v (by decide)] at hi
    have hc := hAC i hi
    rw [pst_v (v := 6) (by decide), pst_v (v := 0) (by decide), pst_v (v := 8) (by decide), pst_25, pst_7 _ _ _ _ _ (by omega)]
    have hw1 := hw i (by omega)
    have hE := (hV.2.1 i (by omega)).2
    by_cases h0 : ccause A F i (A 25 0 0) = 0
    · have hwk := hw1 h0
      have h60 := ccause_0 h0 hE
      have hlt := cc_work h0 hE
      simp only [h0, if_true]
      have h3 := hc.1 h60
      refine ⟨fun _ => by omega, fun q => ?_, fun q => hc.2.2 (by omega)⟩
      have := hc.2.1 q
      omega
    · simp only [h0, if_false]
      refine ⟨fun q => by have := hc.1 q; omega, fun q => by have := hc.2.1 q; omega, fun q => hc.2.2 (by omega)⟩
  · rw [hcp]
    exact InvB_eq (S := T) ((pst_v (by decide)).trans (hAv (by decide))) (fun _ => (pst_v (by decide)).trans (hAv (by decide))) (fun _ => (pst_v (by decide)).trans (hAv (by decide))) hB
  · rw [hcp]
    refine ⟨hV.1, fun i hi => hV.2.1 i (by rw [pst_v (by decide)] at hi; omega), fun t q1 q2 j hj => ?_⟩
    rw [pst_25] at q1
    rw [pst_v (by decide)] at hj
    rw [← hV.2.2 t (by omega) q2 j (by omega)]
    exact held_at (A := T) (fun v k hv => by rw [su_v (by have := in16 hv; omega), pst_v (by have := in16 hv; omega)]; exact hAv (by have := in16 hv; simp only [List.mem_cons, List.not_mem_nil, or_false]; omega)) (by rw [su_v (by decide), pst_v (by decide)]; exact hAv (by decide)) (su_same _ _ _ _ _) j
theorem step_ok {T : sT} {F : Nat → Int} {r lf : Int} (hI : Inv T) (hC : InvC T) (hB : InvB T) (hV : Cv T F r) (hr : T 25 0 0 < r) (hl : 1 ≤ lf) (hm : T 25 0 0 + lf ≤ 1000000000) :
    cps (ractA (T 5 0 0).toNat T) F (max 1 (min lf (cqt (ractA (T 5 0 0).toNat T) F r))) = rrunL (max 1 (min lf (cqt (ractA (T 5 0 0).toNat T) F r))).toNat T ∧ Inv (cps (ractA (T 5 0 0).toNat T) F (max 1 (min lf (cqt (ractA (T 5 0 0).toNat T) F r)))) ∧ InvC (cps (ractA (T 5 0 0).toNat T) F (max 1 (min lf (cqt (ractA (T 5 0 0).toNat T) F r)))) ∧ InvB (cps (ractA (T 5 0 0).toNat T) F (max 1 (min lf (cqt (ractA (T 5 0 0).toNat T) F r)))) ∧ Cv (cps (ractA (T 5 0 0).toNat T) F (max 1 (min lf (cqt (ractA (T 5 0 0).toNat T) F r)))) F r :=
  step_core _ hI hC hB hV hr (by omega) (by omega) (by omega)
theorem clook_at (S : sT) : ∀ (i : Nat) (E : Nat → Int) (j : Nat), clook S i E j = if j < i then rheld S j else E j
  | 0, E, j => by rw [if_neg (Nat.not_lt_zero j)]; rfl
  | i + 1, E, j => by
    show clook S i (va_up E i (rheld S i)) j = _
    rw [clook_at S i]
    by_cases h : j = i
    · subst h; rw [if_neg (Nat.lt_irrefl j), if_pos (Nat.lt_succ_self j), va_up_self]
    · rw [va_up_ne _ _ h]
      by_cases h2 : j < i
      · rw [if_pos h2, if_pos (by omega)]
      · rw [if_neg h2, if_neg (by omega)]
theorem crt_le (S : sT) : ∀ (n : Nat) (q : Int), crt S n q ≤ q ∧ (∀ k, k < n → crt S n q ≤ rturn S k) ∧ (∀ z : Int, z < q → (∀ k, k < n → z < rturn S k) → z < crt S n q)
  | 0, q => ⟨Int.le_refl q, fun k h => absurd h (Nat.not_lt_zero k), fun z h _ => h⟩
  | n + 1, q => by
    have h := crt_le S n (min q (rturn S n))
    refine ⟨?_, fun k hk => ?_, fun z h1 h2 => ?_⟩
    · show crt S n (min q (rturn S n)) ≤ q
      omega
    · show crt S n (min q (rturn S n)) ≤ rturn S k
      by_cases e : k = n
      · subst e; omega
      · exact h.2.1 k (by omega)
    · show z < crt S n (min q (rturn S n))
      have := h2 n (by omega)
      exact h.2.2 z (by omega) (fun k hk => h2 k (by omega))
theorem rhl_t {S : sT} {t : Int} (m : Nat) : ∀ (n k : Nat), (∀ j, k ≤ j → j < k + n → ((S 17 j 0 ≤ t ∧ t < S 18 j 0) ↔ (S 17 j 0 ≤ S 25 0 0 ∧ S 25 0 0 < S 18 j 0))) → rhl (su S 25 0 0 t) m n k = rhl S m n k
  | 0, _, _ => rfl
  | n + 1, k, h => by
    rw [rhl_s, rhl_s, rhl_t m n (k + 1) (fun j h1 h2 => h j (by omega) (by omega)), su_same, su_v (v' := 16) (by decide), su_v (v' := 17) (by decide), su_v (v' := 18) (by decide), su_v (v' := 19) (by decide)]
    have hk := h k (Nat.le_refl k) (by omega)
    by_cases hc : (S 16 k 0 = -1 ∨ S 16 k 0 = (m : Int)) ∧ S 17 k 0 ≤ t ∧ t < S 18 k 0
    · rw [if_pos hc, if_pos ⟨hc.1, hk.mp hc.2⟩]
    · rw [if_neg hc, if_neg (fun q => hc ⟨q.1, hk.mpr q.2⟩)]
theorem look_ok {S : sT} (E : Nat → Int) (hI : Inv S) (h25 : S 25 0 0 < 1000000000) : Cv S (clook S (S 5 0 0).toNat E) (crt S (S 20 0 0).toNat 1000000000) ∧ S 25 0 0 < crt S (S 20 0 0).toNat 1000000000 := by
  have h20 := hI.2.2.1
  have h5 := hI.1
  have hc := crt_le S (S 20 0 0).toNat 1000000000
  have hgt : S 25 0 0 < crt S (S 20 0 0).toNat 1000000000 := hc.2.2 _ h25 (fun k hk => by
    unfold rturn
    split
    · assumption
    · split
      · assumption
      · exact h25)
  refine ⟨⟨⟨by have := hI.2.1; omega, hc.1⟩, fun i hi => ?_, fun t q1 q2 j hj => ?_⟩, hgt⟩
  · rw [clook_at, if_pos (by omega)]
    have := held_B i hI
    omega
  · rw [clook_at, if_pos (by omega)]
    unfold rheld
    rw [su_v (by decide)]
    refine rhl_t j _ 0 (fun k _ hk => ?_)
    have hr := hc.2.1 k (by omega)
    have hR := (hI.2.2.2.2.2 k (by omega)).2.1
    unfold rturn at hr
    split at hr
    · omega
    · split at hr <;> omega
