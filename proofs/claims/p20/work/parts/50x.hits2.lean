theorem lo5_at {γ δ β : Type} {s : (Int32 → Int32 → Int32 → γ → δ → Option β) → Int32 → Int32 → Int32 → γ → δ → Option β} {f : Nat} {x y z x' y' z' : Int32} {w : γ} {v : δ} {r : Option β} (h : lo5 s f x y z w v = r) (hx : x' = x) (hy : y' = y) (hz : z' = z) : lo5 s f x' y' z' w v = r := by rw [hx, hy, hz]; exact h
theorem isSort_y {x : Int32} (h : 0 ≤ x ∧ x ≤ 2) : fX5_isSort x = some 1 := by rw [isSort_ok, if_pos h]
theorem isSort_n {x : Int32} (h : ¬ (0 ≤ x ∧ x ≤ 2)) : fX5_isSort x = some 0 := by rw [isSort_ok, if_neg h]
theorem isWhole_y {n : Nat} {k : Nat → Int32} (hn : n ≤ 15) (h : whl k n 0 1 = true) : fX4_isWhole (nI n) k = some 1 := by rw [isWhole_ok hn, if_pos h]
theorem isWhole_n {n : Nat} {k : Nat → Int32} (hn : n ≤ 15) (h : ¬ whl k n 0 1 = true) : fX4_isWhole (nI n) k = some 0 := by rw [isWhole_ok hn, if_neg h]
theorem i10 : ¬ (1 : Int32) = 0 := by decide
/-- the first that comes behind a key and an id -/
noncomputable def qz_af (s : Int32) (sc : Nat → Int32) (ro : Nat → Int64) (x1 x2 : Int32) : Nat → Option Nat
  | 0 => none
  | q + 1 => @ite (Option Nat) ((0 ≤ sc q ∧ qz_bh s (qz_ky s sc ro q) (nI q) x1 x2) ∧ ∀ b, qz_af s sc ro x1 x2 q = some b → qz_bh s (qz_ky s sc ro b) (nI b) (qz_ky s sc ro q) (nI q)) (Classical.propDecidable _) (some q) (qz_af s sc ro x1 x2 q)
theorem af_y {s x1 x2 : Int32} {sc : Nat → Int32} {ro : Nat → Int64} {q : Nat} (h : (0 ≤ sc q ∧ qz_bh s (qz_ky s sc ro q) (nI q) x1 x2) ∧ ∀ b, qz_af s sc ro x1 x2 q = some b → qz_bh s (qz_ky s sc ro b) (nI b) (qz_ky s sc ro q) (nI q)) : qz_af s sc ro x1 x2 (q + 1) = some q := by
  rw [qz_af]; exact if_pos h
theorem af_n {s x1 x2 : Int32} {sc : Nat → Int32} {ro : Nat → Int64} {q : Nat} (h : ¬ ((0 ≤ sc q ∧ qz_bh s (qz_ky s sc ro q) (nI q) x1 x2) ∧ ∀ b, qz_af s sc ro x1 x2 q = some b → qz_bh s (qz_ky s sc ro b) (nI b) (qz_ky s sc ro q) (nI q))) : qz_af s sc ro x1 x2 (q + 1) = qz_af s sc ro x1 x2 q := by
  rw [qz_af]; exact if_neg h
theorem af_lt {s x1 x2 : Int32} {sc : Nat → Int32} {ro : Nat → Int64} : ∀ (q b : Nat), qz_af s sc ro x1 x2 q = some b → b < q := by
  intro q
  induction q with
  | zero => intro b h; cases h
  | succ q ih =>
    intro b h
    by_cases c : (0 ≤ sc q ∧ qz_bh s (qz_ky s sc ro q) (nI q) x1 x2) ∧ ∀ b, qz_af s sc ro x1 x2 q = some b → qz_bh s (qz_ky s sc ro b) (nI b) (qz_ky s sc ro q) (nI q)
    · rw [af_y c] at h; cases h; omega
    · rw [af_n c] at h; have := ih b h; omega
def qz_ob : Option Nat → Int32
  | none => -1
  | some b => nI b
theorem afX_loop (s x1 x2 : Int32) (sc : Nat → Int32) (ro : Nat → Int64) (J : Int32 → Option (Int32 × (Nat → Int32) × (Nat → Int32) × (Nat → Int32))) : ∀ (m q : Nat), q + m = 16 → ∀ (f : Nat), m < f → lo2 (sX5_after_39 J sc ro s x1 x2) f (qz_ob (qz_af s sc ro x1 x2 q)) (nI q) = J (qz_ob (qz_af s sc ro x1 x2 16)) := by
  intro m
  induction m with
  | zero =>
    intro q hq f hf
    obtain ⟨f, rfl⟩ : ∃ z, f = z + 1 := ⟨f - 1, by omega⟩
    obtain rfl : q = 16 := by omega
    rw [lo2_s, sX5_after_39, if_pos (by rw [l16, n_le (by omega) (by omega)]; omega)]
  | succ m ih =>
    intro q hq f hf
    obtain ⟨f, rfl⟩ : ∃ z, f = z + 1 := ⟨f - 1, by omega⟩
    have hI := ih (q + 1) (by omega) f (by omega)
    rw [lo2_s, sX5_after_39, if_neg (by rw [l16, n_le (by omega) (by omega)]; omega), rdI_n (by omega) (by omega), jp_e]
    try dsimp only
    rw [nI_1 q]
    by_cases h : 0 ≤ sc q
    · rw [if_neg (by grind), keyX_ok ro sc s (by omega), cal1_e]
      by_cases hb : qz_bh s (qz_ky s sc ro q) (nI q) x1 x2
      · rw [behind_y hb, cal1_e, if_neg (by decide)]
        simp only [jp_e]
        cases ha : qz_af s sc ro x1 x2 q with
        | none =>
          rw [af_y ⟨⟨h, hb⟩, fun b hb => by rw [ha] at hb; cases hb⟩] at hI
          rw [if_pos (show qz_ob none < 0 by decide), bnd_e]
          exact hI
        | some b =>
          have hlt := af_lt q b ha
          rw [show qz_ob (some b) = nI b from rfl, if_neg (show ¬ nI b < 0 by rw [l0, n_lt (by omega) (by omega)]; omega), keyX_ok ro sc s (by omega), cal1_e, cal1_e]
          by_cases hc : qz_bh s (qz_ky s sc ro b) (nI b) (qz_ky s sc ro q) (nI q)
          · rw [af_y ⟨⟨h, hb⟩, fun b' hb' => by rw [ha] at hb'; cases hb'; exact hc⟩] at hI
            rw [behind_y hc, cal1_e, if_neg (by decide), bnd_e]
            exact hI
          · rw [af_n (fun z => hc (z.2 b ha)), ha] at hI
            rw [behind_n hc, cal1_e, if_pos rfl, bnd_e]
            exact hI
      · rw [af_n (fun z => hb z.1.2)] at hI
        rw [behind_n hb, cal1_e, if_pos rfl, bnd_e, hI]
    · rw [af_n (fun z => h z.1.1)] at hI
      rw [if_pos (by grind), bnd_e, hI]
