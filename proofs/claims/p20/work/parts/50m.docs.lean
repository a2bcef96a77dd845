/-! get, known, refresh -/
def RR (rk rs : Nat → Int32) (ro : Nat → Int64) (sS : Nat → Int32) (sO : Nat → Int64) : Prop := ∀ i, i < 16 → sS i = (if rk i = 1 then rs i else -1) ∧ sO i = (if rk i = 1 then ro i else 0) ∧ (rk i = 1 → ∃ q : Nat, q < 1000000000 ∧ rs i = nI q)
theorem RR_of {kX sX vX kM sM vM a b a' : Nat → Int32} {oX oM d d' : Nat → Int64} (hD : RD kX sX vX oX kM sM vM oM) (hI : ID kX sX oX) : RR (cpf a kX 0 16) (cpf b sX 0 16) (cpf d oX 0 16) (cpf a' (fun j => if kM j = 1 then sM j else -1) 0 16) (cpf d' (fun j => if kM j = 1 then oM j else 0) 0 16) := by
  intro i hi
  obtain ⟨e1, e2, e3, e4⟩ := hD i hi
  rw [cpf_at _ _ (by omega) hi, cpf_at _ _ (by omega) hi, cpf_at _ _ (by omega) hi, cpf_at _ _ (by omega) hi, cpf_at _ _ (by omega) hi, e1, e2, e4]
  exact ⟨rfl, rfl, fun h => by rw [← e2]; exact (hI i hi).1 (by rw [e1]; exact h)⟩
theorem fgt_e {k s f k' s' f' : Nat → Int32} {c x : Int32} (h : ∀ i, i < 16 → k i = k' i ∧ s i = s' i ∧ f i = f' i) : ∀ i, i < 16 → fgt k s f c x 0 i = fgt k' s' f' c x 0 i := by
  intro i hi
  obtain ⟨h1, h2, h3⟩ := h i hi
  unfold fgt
  rw [h1, h2, h3]
theorem RD_fgt {kX sX vX kM sM vM : Nat → Int32} {oX oM : Nat → Int64} (hD : RD kX sX vX oX kM sM vM oM) (c : Int32) : RD (fgt kX sX kX c 0 0) (fgt kX sX sX c (-1) 0) (fgt kX sX vX c 0 0) oX (fgt kM sM kM c 0 0) (fgt kM sM sM c (-1) 0) (fgt kM sM vM c 0 0) oM := by
  intro i hi
  exact ⟨fgt_e (fun j hj => ⟨(hD j hj).1, (hD j hj).2.1, (hD j hj).1⟩) i hi, fgt_e (fun j hj => ⟨(hD j hj).1, (hD j hj).2.1, (hD j hj).2.1⟩) i hi, fgt_e (fun j hj => ⟨(hD j hj).1, (hD j hj).2.1, (hD j hj).2.2.1⟩) i hi, (hD i hi).2.2.2⟩
theorem fgt_1 {k s : Nat → Int32} {c : Int32} (i : Nat) : fgt k s k c 0 0 i = 1 ↔ k i = 1 := by
  unfold fgt
  by_cases h : 0 ≤ i ∧ i < 16 ∧ k i = 2 ∧ s i ≤ c
  · rw [if_pos h, h.2.2.1]
    exact ⟨fun e => absurd e (by decide), fun e => absurd e (by decide)⟩
  · rw [if_neg h]
theorem ID_fgt {k s : Nat → Int32} {o : Nat → Int64} (h : ID k s o) (c : Int32) : ID (fgt k s k c 0 0) (fgt k s s c (-1) 0) o := by
  intro i hi
  refine ⟨fun e => ?_, fun e => (h i hi).2 (fun e2 => e ((fgt_1 i).mpr e2))⟩
  have e1 := (fgt_1 i).mp e
  unfold fgt
  rw [if_neg (by rw [e1]; rintro ⟨_, _, hh, _⟩; exact absurd hh (by decide))]
  exact (h i hi).1 e1
