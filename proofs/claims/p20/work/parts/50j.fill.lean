/-! fill -/
noncomputable def mis (c : Nat) (a : Int64) : Nat → Nat → Nat
  | _, 0 => 0
  | q, m + 1 => (if q < c ∨ (q < c + 64 ∧ jb a (q - c) = true) then 0 else 1) + mis c a (q + 1) m
theorem mis_le (c : Nat) (a : Int64) : ∀ (m q : Nat), mis c a q m ≤ m := by
  intro m
  induction m with
  | zero => intro q; exact Nat.le_refl _
  | succ m ih => intro q; have := ih (q + 1); show _ + mis c a (q + 1) m ≤ m + 1; split <;> omega
theorem pr_iff {c q : Nat} {a : Int64} : (q < c ∨ (q < c + 64 ∧ jb a (q - c) = true)) ↔ pr c a q := by
  unfold pr
  constructor
  · rintro (e | e)
    · exact Or.inl e
    · exact Or.inr e.2
  · rintro (e | e)
    · exact Or.inl e
    · by_cases h : q < c + 64
      · exact Or.inr ⟨h, e⟩
      · rw [jb_big (by omega)] at e; cases e
theorem mis_congr {c c' : Nat} {a a' : Int64} : ∀ (m q : Nat), (∀ j, q ≤ j → (pr c a j ↔ pr c' a' j)) → mis c a q m = mis c' a' q m := by
  intro m
  induction m with
  | zero => intro q h; rfl
  | succ m ih =>
    intro q h
    show _ + mis c a (q + 1) m = _ + mis c' a' (q + 1) m
    rw [ih (q + 1) (fun j hj => h j (by omega))]
    congr 1
    have := h q (Nat.le_refl _)
    rw [← pr_iff, ← pr_iff] at this
    by_cases h1 : q < c ∨ (q < c + 64 ∧ jb a (q - c) = true)
    · rw [if_pos h1, if_pos (this.mp h1)]
    · rw [if_neg h1, if_neg (fun z => h1 (this.mpr z))]
