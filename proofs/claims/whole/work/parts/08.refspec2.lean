/-! The reference's calls, behind thrown = 0 (S is the state with thrown = 0) -/
def rt0 (S : sT) : sT := su S 31 0 0 0
def rmachS (S : sT) (t a : Int) : sT :=
  if S 25 0 0 = 0 ∧ 1 ≤ t ∧ t ≤ 10000 ∧ (a = -1 ∨ (0 ≤ a ∧ a < S 5 0 0 ∧ S 2 a.toNat 0 = -1)) then
    (if S 5 0 0 = 12 then S else
      if a = -1 then su (su (su (su (su (su S 0 (S 5 0 0).toNat 0 t) 1 (S 5 0 0).toNat 0 a) 2 (S 5 0 0).toNat 0 (-1)) 3 (S 5 0 0).toNat 0 1) 4 (S 5 0 0).toNat 0 0) 5 0 0 (S 5 0 0 + 1)
      else su (su (su (su (su (su (su S 0 (S 5 0 0).toNat 0 t) 1 (S 5 0 0).toNat 0 a) 2 (S 5 0 0).toNat 0 (-1)) 3 (S 5 0 0).toNat 0 1) 4 (S 5 0 0).toNat 0 0) 2 a.toNat 0 (S 5 0 0)) 5 0 0 (S 5 0 0 + 1)) else S
def rmachV (S : sT) (t a : Int) : Int :=
  if S 25 0 0 = 0 ∧ 1 ≤ t ∧ t ≤ 10000 ∧ (a = -1 ∨ (0 ≤ a ∧ a < S 5 0 0 ∧ S 2 a.toNat 0 = -1)) then (if S 5 0 0 = 12 then -2 else S 5 0 0) else -1
def rbufS (S : sT) (m r d : Int) : sT := if S 25 0 0 ≤ 0 ∧ (0 ≤ m ∧ m < S 5 0 0) ∧ (1 ≤ r ∧ r ≤ 1000) ∧ (0 ≤ d ∧ d ≤ 10000) then su (su S 3 m.toNat 0 r) 4 m.toNat 0 d else S
def rbufV (S : sT) (m r d : Int) : Int := if S 25 0 0 ≤ 0 ∧ (0 ≤ m ∧ m < S 5 0 0) ∧ (1 ≤ r ∧ r ≤ 1000) ∧ (0 ≤ d ∧ d ≤ 10000) then S 3 m.toNat 0 else -1
def rfaultS (S : sT) (m a b t : Int) : sT :=
  if S 25 0 0 ≤ 0 ∧ (0 ≤ m ∧ m < S 5 0 0) ∧ (1 ≤ b ∧ b ≤ 1000000) ∧ (0 ≤ a ∧ a ≤ b) ∧ (0 ≤ t ∧ t ≤ 100000) ∧ ¬ S 15 m.toNat 0 = 4 then
    su (su (su (su S 12 m.toNat (S 15 m.toNat 0).toNat a) 13 m.toNat (S 15 m.toNat 0).toNat b) 14 m.toNat (S 15 m.toNat 0).toNat t) 15 m.toNat 0 (S 15 m.toNat 0 + 1) else S
def rtoldS (S : sT) (m f t c : Int) : sT :=
  if S 25 0 0 ≤ f ∧ f < t ∧ t ≤ 1000000000 ∧ ¬ S 20 0 0 = 64 then
    su (su (su (su (su S 16 (S 20 0 0).toNat 0 m) 17 (S 20 0 0).toNat 0 f) 18 (S 20 0 0).toNat 0 t) 19 (S 20 0 0).toNat 0 c) 20 0 0 (S 20 0 0 + 1) else S
def rrowS (S : sT) (m f t c : Int) : sT := if (0 ≤ m ∧ m < S 5 0 0) ∧ 4 ≤ c ∧ c ≤ 9 then rtoldS S m f t c else S
def rchangeS (S : sT) (f t : Int) : sT := if 1 ≤ t ∧ t ≤ 1000000 then rtoldS S (-1) f (f + t) 1 else S
def reventV (S : sT) (k w : Int) : Int := if 0 ≤ k ∧ k < S 30 0 0 ∧ k < 1000 then (if w = 0 then S 27 k.toNat 0 else if w = 1 then S 28 k.toNat 0 else if w = 2 then S 29 k.toNat 0 else -1) else -1
def rwth (S : sT) : Nat → Nat → Int → Int
  | 0, _, z => z
  | n + 1, m, z => rwth S n (m + 1) (z + (S 11 m 0 + (if S 6 m 0 = 0 then 0 else 1)))
def rwithin (S : sT) : Int := rwth S (S 5 0 0).toNat 0 0
def risM (S : sT) (m : Int) : Prop := 0 ≤ m ∧ m < S 5 0 0
/-- S behind thrown = 0 or 1 -/
def rtM (S : sT) (m : Int) : sT := su S 31 0 0 (if 0 ≤ m ∧ m < S 5 0 0 then 0 else 1)
def rlostV (S : sT) (m c : Int) : Int64 := if (0 ≤ m ∧ m < S 5 0 0) ∧ 0 ≤ c ∧ c < 12 then zL (S 21 m.toNat c.toNat) / zL (S 0 m.toNat 0) else zL (-1)
def rrejV (S : sT) (m : Int) : Int := if 0 ≤ m ∧ m < S 5 0 0 then S 22 m.toNat 0 else -1
def rtimeV (S : sT) (m c : Int) : Int := if (0 ≤ m ∧ m < S 5 0 0) ∧ 0 ≤ c ∧ c < 12 then S 21 m.toNat c.toNat else -1
def rsum (S : sT) (m : Nat) : Nat → Nat → Int → Int
  | 0, _, z => z
  | n + 1, c, z => rsum S m n (c + 1) (z + S 21 m c)
def rkl (S : sT) : Nat → Nat → Int → Bool → Int × Bool
  | 0, _, z, r => (z, r)
  | n + 1, m, z, r => rkl S n (m + 1) (z + S 22 m 0) (r && decide (zL (rsum S m 12 0 0) = zL (S 25 0 0)))
def rkf (S : sT) (K : Int × Bool) : Bool := K.2 && decide (zL K.1 = zL (S 23 0 0))
def rkeptV (S : sT) : Bool := rkf S (rkl S (S 5 0 0).toNat 0 (S 24 0 0 + rwithin S) true)
def rtoldP (S : sT) (f t : Int) : Prop := S 25 0 0 ≤ f ∧ f < t ∧ t ≤ 1000000000 ∧ ¬ S 20 0 0 = 64
