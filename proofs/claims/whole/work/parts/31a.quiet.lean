/-! Quiet tenths: while nothing can happen the instants only pass -/
/-- the state A when k tenths go by, machine i < n spending them by cause c i -/
def pst (A : sT) (c : Nat → Int) (n : Nat) (k : Int) : sT := fun v i j =>
  if v = 25 ∧ i = 0 ∧ j = 0 then A 25 0 0 + k else if v = 21 ∧ i < n ∧ (j : Int) = c i then A 21 i j + k else if v = 7 ∧ i < n ∧ j = 0 ∧ c i = 0 then A 7 i 0 + k else A v i j
theorem pst_v {A : sT} {c : Nat → Int} {n : Nat} {k : Int} {v i j : Nat} (h : v ≠ 25 ∧ v ≠ 21 ∧ v ≠ 7) : pst A c n k v i j = A v i j := by
  unfold pst; rw [if_neg (fun q => h.1 q.1), if_neg (fun q => h.2.1 q.1), if_neg (fun q => h.2.2 q.1)]
theorem pst_25 (A : sT) (c : Nat → Int) (n : Nat) (k : Int) : pst A c n k 25 0 0 = A 25 0 0 + k := by
  unfold pst; rw [if_pos ⟨rfl, rfl, rfl⟩]
theorem pst_7 (A : sT) (c : Nat → Int) (n : Nat) (k : Int) (i : Nat) (hi : i < n) : pst A c n k 7 i 0 = A 7 i 0 + (if c i = 0 then k else 0) := by
  unfold pst; rw [if_neg (by simp), if_neg (by simp)]
  by_cases h : c i = 0
  · rw [if_pos ⟨rfl, hi, rfl, h⟩, if_pos h]
  · rw [if_neg (fun q => h q.2.2.2), if_neg h]; omega
theorem pst_pst (A : sT) (c : Nat → Int) (n : Nat) (k m : Int) : pst (pst A c n k) c n m = pst A c n (k + m) := by
  funext v i j
  unfold pst
  by_cases h1 : v = 25 ∧ i = 0 ∧ j = 0
  · simp [h1]; omega
  · simp only [h1, if_false]
    by_cases h2 : v = 21 ∧ i < n ∧ (j : Int) = c i
    · obtain ⟨rfl, h2, h3⟩ := h2
      simp [h2, h3]; omega
    · simp only [h2, if_false]
      by_cases h3 : v = 7 ∧ i < n ∧ j = 0 ∧ c i = 0
      · obtain ⟨rfl, h3, rfl, h4⟩ := h3
        simp [h3, h4]; omega
      · simp only [h3, if_false]
theorem pst_c {A : sT} {c d : Nat → Int} {n : Nat} {k : Int} (h : ∀ i, i < n → c i = d i) : pst A c n k = pst A d n k := by
  funext v i j
  unfold pst
  by_cases hi : i < n
  · rw [h i hi]
  · simp [hi]
/-- machines lo .. n - 1 alone have spent -/
def pstp (A : sT) (c : Nat → Int) (lo n : Nat) (k : Int) : sT := fun v i j =>
  if v = 21 ∧ (lo ≤ i ∧ i < n) ∧ (j : Int) = c i then A 21 i j + k else if v = 7 ∧ (lo ≤ i ∧ i < n) ∧ j = 0 ∧ c i = 0 then A 7 i 0 + k else A v i j
theorem pstp_v {A : sT} {c : Nat → Int} {lo n : Nat} {k : Int} {v i j : Nat} (h : v ≠ 21 ∧ v ≠ 7) : pstp A c lo n k v i j = A v i j := by
  unfold pstp; rw [if_neg (fun q => h.1 q.1), if_neg (fun q => h.2 q.1)]
theorem pstp_i {A : sT} {c : Nat → Int} {lo n : Nat} {k : Int} {v i j : Nat} (h : ¬ (lo ≤ i ∧ i < n)) : pstp A c lo n k v i j = A v i j := by
  unfold pstp; rw [if_neg (fun q => h q.2.1), if_neg (fun q => h q.2.1)]
theorem pstp_all (A : sT) (c : Nat → Int) (n : Nat) (k : Int) : su (pstp A c 0 n k) 25 0 0 (A 25 0 0 + k) = pst A c n k := by
  funext v i j
  unfold su pstp pst
  simp only [Nat.zero_le, true_and]
theorem spend_eq {S : sT} {i : Nat} {c k : Int} (hc : 0 ≤ c) (v a b : Nat) : cspend S i c k v a b = if v = 21 ∧ a = i ∧ (b : Int) = c then S 21 a b + k else if v = 7 ∧ a = i ∧ b = 0 ∧ c = 0 then S 7 a 0 + k else S v a b := by
  unfold cspend
  by_cases h0 : c = 0
  · subst h0
    rw [if_pos rfl]
    unfold su
    by_cases h1 : v = 7 ∧ a = i ∧ b = 0
    · obtain ⟨rfl, rfl, rfl⟩ := h1; simp
    · rw [if_neg h1]
      by_cases h2 : v = 21 ∧ a = i ∧ b = (0 : Int).toNat
      · obtain ⟨rfl, rfl, h3⟩ := h2
        have h3 : b = 0 := h3
        subst h3; simp
      · rw [if_neg h2, if_neg (fun q => h2 ⟨q.1, q.2.1, by have := q.2.2; show b = 0; omega⟩), if_neg (fun q => h1 ⟨q.1, q.2.1, q.2.2.1⟩)]
  · rw [if_neg h0]
    unfold su
    by_cases h2 : v = 21 ∧ a = i ∧ b = c.toNat
    · obtain ⟨rfl, rfl, h3⟩ := h2
      rw [if_pos ⟨rfl, rfl, h3⟩, if_pos ⟨rfl, rfl, by omega⟩, h3]
    · rw [if_neg h2, if_neg (fun q => h2 ⟨q.1, q.2.1, by omega⟩), if_neg (fun q => h0 q.2.2.2)]
theorem cpass_eq {A : sT} {F : Nat → Int} {z k : Int} {n : Nat} {c : Nat → Int} (hc : ∀ i, i < n → c i = ccause A F i z) (hc0 : ∀ i, i < n → 0 ≤ c i) : ∀ (m : Nat), m ≤ n → cpass F z k m (pstp A c m n k) = pstp A c 0 n k
  | 0, _ => rfl
  | m + 1, hm => by
    show cpass F z k m (cspend (pstp A c (m + 1) n k) m (ccause (pstp A c (m + 1) n k) F m z) k) = _
    have e : ccause (pstp A c (m + 1) n k) F m z = c m := by
      rw [hc m (by omega)]
      unfold ccause
      rw [pstp_i (by omega), pstp_i (by omega), pstp_i (by omega), pstp_i (by omega)]
    rw [e, ← cpass_eq hc hc0 m (by omega)]
    congr 1
    funext v a b
    rw [spend_eq (hc0 m (by omega))]
    by_cases ha : a = m
    · subst ha
      rw [pstp_i (by omega), pstp_i (by omega), pstp_i (by omega)]
      unfold pstp
      have h1 : (a ≤ a ∧ a < n) := ⟨Nat.le_refl a, by omega⟩
      simp only [h1, true_and, and_self]
    · rw [if_neg (fun q => ha q.2.1), if_neg (fun q => ha q.2.1)]
      unfold pstp
      have h1 : (m + 1 ≤ a ∧ a < n) ↔ (m ≤ a ∧ a < n) := by omega
      simp only [h1]
theorem cps_eq {A : sT} {F : Nat → Int} {k : Int} {n : Nat} (hn : (n : Int) = A 5 0 0) (hc0 : ∀ i, i < n → 0 ≤ ccause A F i (A 25 0 0)) : cps A F k = pst A (fun i => ccause A F i (A 25 0 0)) n k := by
  unfold cps
  have e : (A 5 0 0).toNat = n := by omega
  have h := cpass_eq (A := A) (F := F) (z := A 25 0 0) (k := k) (n := n) (c := fun i => ccause A F i (A 25 0 0)) (fun _ _ => rfl) hc0 n (Nat.le_refl n)
  have h0 : pstp A (fun i => ccause A F i (A 25 0 0)) n n k = A := by funext v i j; exact pstp_i (by omega)
  rw [h0] at h
  rw [e, h, pstp_all]
/-- the reference's own tenth -/
def pst1 (A : sT) (c : Nat → Int) (lo : Nat) : sT := fun v i j =>
  if v = 21 ∧ i < lo ∧ (j : Int) = c i then A 21 i j + 1 else if v = 7 ∧ i < lo ∧ j = 0 ∧ c i = 0 then A 7 i 0 + 1 else A v i j
theorem tm_eq {S : sT} {i : Nat} (hc : 0 ≤ rcause S i) (v a b : Nat) : rtm S i v a b = if v = 21 ∧ a = i ∧ (b : Int) = rcause S i then S 21 a b + 1 else if v = 7 ∧ a = i ∧ b = 0 ∧ rcause S i = 0 then S 7 a 0 + 1 else S v a b := by
  unfold rtm
  unfold su
  by_cases h1 : v = 7 ∧ a = i ∧ b = 0
  · obtain ⟨rfl, rfl, rfl⟩ := h1
    by_cases h0 : rcause S a = 0
    · simp [h0]
    · simp [h0]
  · rw [if_neg h1]
    by_cases h2 : v = 21 ∧ a = i ∧ b = (rcause S i).toNat
    · obtain ⟨rfl, rfl, h3⟩ := h2
      rw [if_pos ⟨rfl, rfl, h3⟩, if_pos ⟨rfl, rfl, by omega⟩, h3]
    · rw [if_neg h2, if_neg (fun q => h2 ⟨q.1, q.2.1, by omega⟩), if_neg (fun q => h1 ⟨q.1, q.2.1, q.2.2.1⟩)]
theorem rcause_eq {S T : sT} (m : Nat) (h : ∀ v k, v ∈ [16, 17, 18, 19] → T v k 0 = S v k 0) (h25 : T 25 0 0 = S 25 0 0) (h20 : T 20 0 0 = S 20 0 0) (h8 : T 8 m 0 = S 8 m 0) (h6 : T 6 m 0 = S 6 m 0) : rcause T m = rcause S m := by
  unfold rcause; rw [rheld_eq m h h25 h20, h25, h8, h6]
theorem tmA_eq {A : sT} {n : Nat} {c : Nat → Int} (hc : ∀ i, i < n → c i = rcause A i) (hc0 : ∀ i, i < n → 0 ≤ c i) : ∀ (r m : Nat), m + r = n → rtmA r m (pst1 A c m) = pst1 A c n
  | 0, m, hm => by rw [show m = n by omega]; rfl
  | r + 1, m, hm => by
    show rtmA r (m + 1) (rtm (pst1 A c m) m) = _
    rw [← tmA_eq hc hc0 r (m + 1) (by omega)]
    congr 1
    have hv : ∀ v a b, v ≠ 21 → v ≠ 7 → pst1 A c m v a b = A v a b := fun v a b h1 h2 => by unfold pst1; rw [if_neg (fun q => h1 q.1), if_neg (fun q => h2 q.1)]
    have e : rcause (pst1 A c m) m = c m := by
      rw [hc m (by omega)]
      exact rcause_eq m (fun v k q => hv v k 0 (by simp only [List.mem_cons, List.not_mem_nil, or_false] at q; omega) (by simp only [List.mem_cons, List.not_mem_nil, or_false] at q; omega)) (hv _ _ _ (by decide) (by decide)) (hv _ _ _ (by decide) (by decide)) (hv _ _ _ (by decide) (by decide)) (hv _ _ _ (by decide) (by decide))
    funext v a b
    rw [tm_eq (by rw [e]; exact hc0 m (by omega)), e]
    by_cases ha : a = m
    · subst ha
      unfold pst1
      have h1 : ¬ a < a := Nat.lt_irrefl a
      have h2 : a < a + 1 := Nat.lt_succ_self a
      simp only [h1, h2, false_and, and_false, if_false, true_and]
    · rw [if_neg (fun q => ha q.2.1), if_neg (fun q => ha q.2.1)]
      unfold pst1
      have h1 : (a < m + 1) ↔ (a < m) := by omega
      simp only [h1]
theorem inst_eq {A : sT} {n : Nat} {c : Nat → Int} (hc : ∀ i, i < n → c i = rcause A i) (hc0 : ∀ i, i < n → 0 ≤ c i) : rtick (rtmA n 0 A) = pst A c n 1 := by
  have h := tmA_eq hc hc0 n 0 (by omega)
  have h0 : pst1 A c 0 = A := by funext v i j; unfold pst1; simp
  rw [h0] at h
  rw [h]
  unfold rtick
  have e : pst1 A c n 25 0 0 = A 25 0 0 := by unfold pst1; simp
  rw [e]
  funext v i j
  unfold su pst1 pst
  rfl
