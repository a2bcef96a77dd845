/-! is the query whole -/
def opn (x : Int32) : Nat := if x = 4 ∨ x = 5 then 2 else if x = 6 then 1 else 0
theorem opn_le (x : Int32) : opn x ≤ 2 := by unfold opn; split; omega; split <;> omega
def whl (k : Nat → Int32) : Nat → Nat → Nat → Bool
  | 0, _, w => decide (w = 0)
  | m + 1, i, w => if w = 0 then false else whl k m (i + 1) (w + opn (k i) - 1)
theorem operands_ok (x : Int32) : fX4_operandsOf x = some (nI (opn x)) := by
  rw [fX4_operandsOf]
  simp only [jp_e]
  unfold opn
  by_cases h4 : x = 4
  · rw [if_pos h4, if_pos (Or.inl h4)]; rfl
  · by_cases h5 : x = 5
    · rw [if_neg h4, if_pos h5, if_pos (Or.inr h5)]; rfl
    · rw [if_neg h4, if_neg h5, if_neg (show ¬ (x = 4 ∨ x = 5) from fun z => z.elim h4 h5)]
      by_cases h6 : x = 6
      · rw [if_pos h6, if_pos h6]; rfl
      · rw [if_neg h6, if_neg h6]; rfl
theorem opn_add {w : Nat} (hw : w ≠ 0) (x : Int32) : nI w + (nI (opn x) - 1) = nI (w + opn x - 1) := by
  show nI w + mI (opn x) = _
  obtain ⟨v, rfl⟩ : ∃ v, w = v + 1 := ⟨w - 1, by omega⟩
  rw [show nI (v + 1) + mI (opn x) = mI (opn x) + nI (v + 1) from Int32.add_comm _ _, m_add]
  congr 1
  omega
theorem wholeX_loop {n : Nat} (hn : n ≤ 15) (k : Nat → Int32) (J : Int32 → Option Int32) (hJ : ∀ w, w < 100 → J (nI w) = some (if w = 0 then 1 else 0)) : ∀ (m i : Nat), i + m = n → ∀ (f : Nat), m < f → ∀ w, w ≤ i + 1 → lo2 (sX4_isWhole_4 (nI n) J k) f (nI w) (nI i) = some (if whl k m i w = true then 1 else 0) := by
  intro m
  induction m with
  | zero =>
    intro i hi f hf w hw
    obtain ⟨f, rfl⟩ : ∃ z, f = z + 1 := ⟨f - 1, by omega⟩
    rw [lo2_s, sX4_isWhole_4, if_pos (by rw [n_le (by omega) (by omega)]; omega), hJ w (by omega)]
    unfold whl
    by_cases h : w = 0 <;> simp [h]
  | succ m ih =>
    intro i hi f hf w hw
    obtain ⟨f, rfl⟩ : ∃ z, f = z + 1 := ⟨f - 1, by omega⟩
    rw [lo2_s, sX4_isWhole_4, if_neg (by rw [n_le (by omega) (by omega)]; omega), if_neg (by rw [l15, n_le (by omega) (by omega)]; omega)]
    unfold whl
    by_cases h : w = 0
    · rw [if_pos h, if_pos (by rw [l0, n_eq (by omega) (by omega)]; omega)]
      rfl
    · have ho := opn_le (k i)
      rw [if_neg h, if_neg (by rw [l0, n_eq (by omega) (by omega)]; omega), rdI_n (by omega) (by omega), operands_ok, cal1_e, bnd_e, opn_add h, bnd_e, nI_1, bnd_e, ih (i + 1) (by omega) f (by omega) _ (by omega)]
theorem lo2_at {β : Type} {s : (Int32 → Int32 → Option β) → Int32 → Int32 → Option β} {f : Nat} {x y x' y' : Int32} {r : Option β} (h : lo2 s f x y = r) (hx : x' = x) (hy : y' = y) : lo2 s f x' y' = r := by rw [hx, hy]; exact h
theorem isWhole_ok {n : Nat} (hn : n ≤ 15) (k : Nat → Int32) : fX4_isWhole (nI n) k = some (if whl k n 0 1 = true then 1 else 0) := by
  rw [fX4_isWhole, jp_e]
  refine lo2_at (wholeX_loop hn k _ (fun w hw => ?_) n 0 (by omega) 1000 (by omega) 1 (by omega)) rfl rfl
  simp only [jp_e]
  by_cases h : w = 0
  · rw [if_pos h, if_pos (by rw [l0, n_eq (by omega) (by omega)]; omega)]; rfl
  · rw [if_neg h, if_neg (by rw [l0, n_eq (by omega) (by omega)]; omega)]; rfl
theorem whl_congr {k k' : Nat → Int32} : ∀ (m i w : Nat), (∀ j, i ≤ j → j < i + m → k j = k' j) → whl k m i w = whl k' m i w := by
  intro m
  induction m with
  | zero => intro i w h; rfl
  | succ m ih =>
    intro i w h
    unfold whl
    rw [h i (by omega) (by omega), ih (i + 1) _ (fun j h1 h2 => h j (by omega) (by omega))]

