/-! write and replica -/
def RVe (c mx : Nat) (kX sX vX : Nat → Int32) (oX : Nat → Int64) (a : Int64) (kM sM vM : Nat → Int32) (oM : Nat → Int64) (d : Nat → Int32) : Prop :=
  RD kX sX vX oX kM sM vM oM ∧ ID kX sX oX ∧ RM a d ∧ (∀ b, jb a b = true → c + b < mx) ∧ c ≤ mx ∧ mx ≤ c + 64
/-- the answers of write, replica and fill: alike, and the states stay related; the checkpoint grows by at most K -/
def OutV (c a g s K : Nat) (rX : Option (Int32 × (Nat → Int32) × (Nat → Int32) × (Nat → Int32) × (Nat → Int64) × Int32 × Int32 × Int64 × (Nat → Int32) × (Nat → Int32) × (Nat → Int32) × Int32 × Int32 × Int32 × Int32 × Int64))
    (rM : Option (Int32 × (Nat → Int32) × (Nat → Int32) × (Nat → Int32) × (Nat → Int64) × (Nat → Int32) × Int32 × Int32 × (Nat → Int32) × (Nat → Int32) × (Nat → Int32))) : Prop :=
  ∃ (r : Int32) (kX sX vX : Nat → Int32) (oX : Nat → Int64) (c' mx' : Nat) (aX : Int64) (bX lX gX : Nat → Int32) (p1 p2 p3 p4 : Int32) (p5 : Int64) (kM sM vM : Nat → Int32) (oM : Nat → Int64) (d bM lM gM : Nat → Int32) (len : Nat → Nat),
    rX = some (r, kX, sX, vX, oX, mI c', mI mx', aX, bX, lX, gX, p1, p2, p3, p4, p5) ∧ rM = some (r, kM, sM, vM, oM, d, mI c', mI mx', bM, lM, gM) ∧
    RVe c' mx' kX sX vX oX aX kM sM vM oM d ∧ RLo a g s lX bX lM bM len ∧ RG a g gX gM ∧ c' ≤ c + K
theorem OutV_same {c mx a g s K : Nat} {kX sX vX kM sM vM d lX bX gX lM bM gM : Nat → Int32} {oX oM : Nat → Int64} {aX : Int64} {len : Nat → Nat} (hV : RVe c mx kX sX vX oX aX kM sM vM oM d) (hL : RLo a g s lX bX lM bM len) (hG : RG a g gX gM) (r p1 p2 p3 p4 : Int32) (p5 : Int64) :
    OutV c a g s K (some (r, kX, sX, vX, oX, mI c, mI mx, aX, bX, lX, gX, p1, p2, p3, p4, p5)) (some (r, kM, sM, vM, oM, d, mI c, mI mx, bM, lM, gM)) :=
  ⟨r, kX, sX, vX, oX, c, mx, aX, bX, lX, gX, p1, p2, p3, p4, p5, kM, sM, vM, oM, d, bM, lM, gM, len, rfl, rfl, hV, hL, hG, by omega⟩
theorem holds_ok {kX sX : Nat → Int32} {i : Nat} (hi : i < 16) {x : Int32} (hx : ¬ x < -2) : fX5_holds kX sX (nI i) x = some (if x = -1 ∨ (x = -2 ∧ ¬ kX i = 1) ∨ (0 ≤ x ∧ kX i = 1 ∧ sX i = x) then 1 else 0) := by
  rw [fX5_holds]
  by_cases h1 : x = -1
  · rw [if_pos h1, if_pos (Or.inl h1)]
  · rw [if_neg h1]
    by_cases h2 : x = -2
    · subst h2
      rw [if_pos rfl, isDocument_ok kX hi, cal1_e]
      simp only [jp_e]
      by_cases h3 : kX i = 1
      · rw [if_pos h3, if_neg (by decide), if_neg (by rintro (h | h | h); exact absurd h (by decide); exact h.2 h3; exact absurd h.1 (by decide))]; rfl
      · rw [if_neg h3, if_pos rfl, if_pos (Or.inr (Or.inl ⟨by trivial, h3⟩))]; rfl
    · rw [if_neg h2, isDocument_ok kX hi, cal1_e]
      simp only [jp_e]
      have h0 : 0 ≤ x := by grind
      by_cases h3 : kX i = 1
      · rw [if_pos h3, if_neg (by decide), seqOf_ok sX hi, cal1_e]
        by_cases h4 : sX i = x
        · rw [if_pos h4, if_pos (Or.inr (Or.inr ⟨h0, h3, h4⟩))]; rfl
        · rw [if_neg h4, if_neg (by rintro (h | h | h); exact h1 h; exact h2 h.1; exact h4 h.2.2)]; rfl
      · rw [if_neg h3, if_pos rfl, if_neg (by rintro (h | h | h); exact h1 h; exact h2 h.1; exact h3 h.2.1)]; rfl
theorem kz_of {x : Int32} (h : x = 1 ∨ x = 2 ∨ x = 3) : ∃ sz, kz x sz := by
  rcases h with rfl | rfl | rfl
  · exact ⟨14, Or.inl ⟨rfl, rfl⟩⟩
  · exact ⟨6, Or.inr (Or.inl ⟨rfl, rfl⟩)⟩
  · exact ⟨3, Or.inr (Or.inr ⟨rfl, rfl⟩)⟩
theorem OutV_eq {c a g s K : Nat} {A A' : Option (Int32 × (Nat → Int32) × (Nat → Int32) × (Nat → Int32) × (Nat → Int64) × Int32 × Int32 × Int64 × (Nat → Int32) × (Nat → Int32) × (Nat → Int32) × Int32 × Int32 × Int32 × Int32 × Int64)}
    {B B' : Option (Int32 × (Nat → Int32) × (Nat → Int32) × (Nat → Int32) × (Nat → Int64) × (Nat → Int32) × Int32 × Int32 × (Nat → Int32) × (Nat → Int32) × (Nat → Int32))} (hA : A = A') (hB : B = B') (h : OutV c a g s K A' B') : OutV c a g s K A B := by rw [hA, hB]; exact h
theorem conflict_M {sM : Nat → Int32} {i : Nat} (hi : i < 16) {x3 : Int32} (hx : ¬ x3 < -2) {γ : Type} (REF OK : Option γ) (K : Int32) : (if x3 = -2 then (if (if K = 1 then (1 : Int32) else 0) = 0 then (if x3 < 0 then OK else if (if K = 1 then (1 : Int32) else 0) = 0 then REF else rdI sM 16 (nI i) fun z27 => if z27 = x3 then OK else REF) else REF) else (if x3 < 0 then OK else if (if K = 1 then (1 : Int32) else 0) = 0 then REF else rdI sM 16 (nI i) fun z27 => if z27 = x3 then OK else REF)) = if (x3 = -1 ∨ (x3 = -2 ∧ ¬ K = 1) ∨ (0 ≤ x3 ∧ K = 1 ∧ sM i = x3)) then OK else REF := by
  rw [rdI_n hi (by omega)]
  by_cases h1 : x3 = -1
  · subst h1
    rw [if_neg (by decide), if_pos (by decide), if_pos (Or.inl rfl)]
  · by_cases h2 : x3 = -2
    · subst h2
      by_cases h3 : K = 1
      · rw [if_pos rfl, if_pos h3, if_neg (by decide), if_neg (by rintro (h | h | h); exact absurd h (by decide); exact h.2 h3; exact absurd h.1 (by decide))]
      · rw [if_pos rfl, if_neg h3, if_pos rfl, if_pos (by decide), if_pos (Or.inr (Or.inl ⟨by trivial, h3⟩))]
    · have h0 : 0 ≤ x3 := by grind
      rw [if_neg h2, if_neg (by grind)]
      by_cases h3 : K = 1
      · rw [if_pos h3, if_neg (by decide)]
        by_cases h4 : sM i = x3
        · rw [if_pos h4, if_pos (Or.inr (Or.inr ⟨h0, h3, h4⟩))]
        · rw [if_neg h4, if_neg (by rintro (h | h | h); exact h1 h; exact h2 h.1; exact h4 h.2.2)]
      · rw [if_neg h3, if_pos rfl, if_neg (by rintro (h | h | h); exact h1 h; exact h2 h.1; exact h3 h.2.1)]
theorem sizeX_no {x : Int32} (h : ¬ (x = 1 ∨ x = 2 ∨ x = 3)) : fX5_sizeOf x = some 0 := by
  rw [fX5_sizeOf, if_neg (fun e => h (Or.inl e)), if_neg (fun e => h (Or.inr (Or.inl e))), if_neg (fun e => h (Or.inr (Or.inr e)))]
