/-! ask -/
def RQ (n : Nat) (kX aX bX kM aM bM : Nat → Int32) : Prop := n ≤ 15 ∧ ∀ j, j < n → kX j = kM j ∧ aX j = aM j ∧ bX j = bM j ∧ (0 ≤ kX j ∧ kX j ≤ 6) ∧ (kX j = 1 ∨ kX j = 2 → 1 ≤ aX j ∧ aX j ≤ 15) ∧ (kX j = 2 → 1 ≤ bX j ∧ bX j ≤ 15)
theorem isWord_ok (x : Int32) : fX5_isWord x = some (if 1 ≤ x ∧ x ≤ 15 then 1 else 0) := by
  rw [fX5_isWord]
  simp only [jp_e]
  by_cases h1 : x < 1
  · rw [if_pos h1, if_neg (by grind)]; rfl
  · rw [if_neg h1]
    by_cases h2 : 15 < x
    · rw [if_pos h2, if_neg (by grind)]; rfl
    · rw [if_neg h2, if_pos (by grind)]; rfl
theorem isSort_ok (x : Int32) : fX5_isSort x = some (if 0 ≤ x ∧ x ≤ 2 then 1 else 0) := by
  rw [fX5_isSort]
  simp only [jp_e]
  by_cases h1 : x < 0
  · rw [if_pos h1, if_neg (by grind)]; rfl
  · rw [if_neg h1]
    by_cases h2 : 2 < x
    · rw [if_pos h2, if_neg (by grind)]; rfl
    · rw [if_neg h2, if_pos (by grind)]; rfl
def OutQ (rX : Option (Int32 × Int32 × (Nat → Int32) × (Nat → Int32) × (Nat → Int32))) (rM : Option (Int32 × (Nat → Int32) × (Nat → Int32) × (Nat → Int32) × Int32)) : Prop :=
  ∃ (r : Int32) (n : Nat) (kX aX bX kM aM bM : Nat → Int32), rX = some (r, nI n, kX, aX, bX) ∧ rM = some (r, kM, aM, bM, nI n) ∧ RQ n kX aX bX kM aM bM
theorem OutQ_eq {A A' : Option (Int32 × Int32 × (Nat → Int32) × (Nat → Int32) × (Nat → Int32))} {B B' : Option (Int32 × (Nat → Int32) × (Nat → Int32) × (Nat → Int32) × Int32)} (hA : A = A') (hB : B = B') (h : OutQ A' B') : OutQ A B := by rw [hA, hB]; exact h
theorem add_both {n : Nat} {kX aX bX kM aM bM : Nat → Int32} (hQ : RQ n kX aX bX kM aM bM) {x0 x1 x2 : Int32} (h0 : 0 ≤ x0 ∧ x0 ≤ 6) (h1 : x0 = 1 ∨ x0 = 2 → 1 ≤ x1 ∧ x1 ≤ 15) (h2 : x0 = 2 → 1 ≤ x2 ∧ x2 ≤ 15) :
    OutQ (cal5 (fX4_add (nI n) kX aX bX x0 x1 x2) (fun r1 u2 u3 u4 u5 => if r1 = 0 then some (-3, u2, u3, u4, u5) else some (u2, u2, u3, u4, u5)))
      (if nI n = 15 then (some ((-3), kM, aM, bM, nI n)) else (wrI kM 15 (nI n) x0 (fun g3 => (wrI aM 15 (nI n) x1 (fun g4 => (wrI bM 15 (nI n) x2 (fun g5 => (bnd (nI n + 1 : Int32) (fun z6 => (some (z6, g3, g4, g5, z6)))))))))) ) := by
  obtain ⟨hn, hq⟩ := hQ
  have hn0 : ¬ nI n < 0 := by rw [l0, n_lt (by omega) (by omega)]; omega
  by_cases h : n < 15
  · refine ⟨nI (n + 1), n + 1, upd kX n x0, upd aX n x1, upd bX n x2, upd kM n x0, upd aM n x1, upd bM n x2, ?_, ?_, by omega, fun j hj => ?_⟩
    · rw [fX4_add, jp_e, if_neg hn0, if_pos (by rw [l15, n_lt (by omega) (by omega)]; omega), wrI_n (by omega) (by omega), wrI_n (by omega) (by omega), wrI_n (by omega) (by omega), nI_1, bnd_e, cal5_e, if_neg (by decide)]
    · rw [if_neg (by rw [l15, n_eq (by omega) (by omega)]; omega), wrI_n (by omega) (by omega), wrI_n (by omega) (by omega), wrI_n (by omega) (by omega), nI_1, bnd_e]
    · by_cases e : j = n
      · subst e
        rw [upd_s, upd_s, upd_s, upd_s, upd_s, upd_s]
        exact ⟨rfl, rfl, rfl, h0, h1, h2⟩
      · rw [upd_o _ _ e, upd_o _ _ e, upd_o _ _ e, upd_o _ _ e, upd_o _ _ e, upd_o _ _ e]
        exact hq j (by omega)
  · refine ⟨-3, n, kX, aX, bX, kM, aM, bM, ?_, ?_, hn, hq⟩
    · rw [fX4_add, jp_e, if_neg hn0, if_neg (by rw [l15, n_lt (by omega) (by omega)]; omega), cal5_e, if_pos rfl]
    · rw [if_pos (by rw [l15, n_eq (by omega) (by omega)]; omega)]
