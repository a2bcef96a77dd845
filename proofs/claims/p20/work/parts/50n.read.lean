/-! reading a record -/
theorem take_2 {a p : Nat} (b : Nat → Int32) (ha : a < 2147483648) (hp : p + 2 ≤ 240) (hb : ∀ j, j < 2 → By (b (240 * (a % 4) + p + j))) : fX2_take b (nI a) (nI p) 2 = some (lN (lev b (240 * (a % 4) + p) 2)) := take_ok (cnt := 2) b ha hp (by omega) hb
theorem take_4 {a p : Nat} (b : Nat → Int32) (ha : a < 2147483648) (hp : p + 4 ≤ 240) (hb : ∀ j, j < 4 → By (b (240 * (a % 4) + p + j))) : fX2_take b (nI a) (nI p) 4 = some (lN (lev b (240 * (a % 4) + p) 4)) := take_ok (cnt := 4) b ha hp (by omega) hb
theorem take_8 {a p : Nat} (b : Nat → Int32) (ha : a < 2147483648) (hp : p + 8 ≤ 240) (hb : ∀ j, j < 8 → By (b (240 * (a % 4) + p + j))) : fX2_take b (nI a) (nI p) 8 = some (lN (lev b (240 * (a % 4) + p) 8)) := take_ok (cnt := 8) b ha hp (by omega) hb
/-- both read alike at p: a record, or none -/
def OutR (l p c : Nat) (rX : Option (Int32 × Int32 × Int32 × Int32 × Int32 × Int64)) (rM : Option (Int32 × Int32 × Int32 × Int32 × Int32 × Int32 × Int64)) : Prop :=
  (∃ (kind : Int32) (sz q i : Nat) (idX idM ver : Int32) (src : Int64), kz kind sz ∧ p + sz + 5 ≤ l ∧ q < 65536 ∧ (kind = 3 ∨ (idX = nI i ∧ idM = nI i ∧ i < 16)) ∧ rX = some (nI (sz + 5), kind, nI q, idX, ver, src) ∧ rM = some (if q ≤ c + 63 then 1 else 0, kind, nI q, idM, ver, nI (p + sz + 5), src)) ∨
  (∃ (k1 k2 k3 k4 m1 m2 m3 m4 m5 : Int32) (k5 m6 : Int64), rX = some (0, k1, k2, k3, k4, k5) ∧ rM = some (0, m1, m2, m3, m4, m5, m6))
theorem OutR_no {l p c : Nat} {rX : Option (Int32 × Int32 × Int32 × Int32 × Int32 × Int64)} {rM : Option (Int32 × Int32 × Int32 × Int32 × Int32 × Int32 × Int64)} (hX : ∃ (k1 k2 k3 k4 : Int32) (k5 : Int64), rX = some (0, k1, k2, k3, k4, k5)) (hM : ∃ (m1 m2 m3 m4 m5 : Int32) (m6 : Int64), rM = some (0, m1, m2, m3, m4, m5, m6)) : OutR l p c rX rM := by
  obtain ⟨k1, k2, k3, k4, k5, e1⟩ := hX
  obtain ⟨m1, m2, m3, m4, m5, m6, e2⟩ := hM
  exact Or.inr ⟨k1, k2, k3, k4, m1, m2, m3, m4, m5, k5, m6, e1, e2⟩
