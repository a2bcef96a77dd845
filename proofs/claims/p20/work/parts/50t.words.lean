/-! words of a source -/
def qz_wd (i : Nat) (x : Int64) : Int32 := Int64.toInt32 ((x.toUInt64 >>> ((nI (32 + 4 * i)).toInt64.toUInt64 &&& Int64.toUInt64 63)).toInt64) &&& 15
theorem wordAt_ok {i : Nat} (x : Int64) : fX4_wordAt (nI i) x = some (qz_wd i x) := by
  rw [fX4_wordAt, l4, n_mul, bnd_e, l32, n_add, bnd_e, bnd_e, bnd_e, bnd_e]
  rfl
theorem qz_shr (x : Int64) {k j : Nat} (hk : k < 64) : ((x.toUInt64 >>> UInt64.ofNat k).toInt64).toBitVec.getLsbD j = x.toBitVec.getLsbD (k + j) := by
  show (x.toUInt64 >>> UInt64.ofNat k).toBitVec.getLsbD j = _
  rw [UInt64.toBitVec_shiftRight]
  have e4 : ((UInt64.ofNat k).toBitVec % 64).toNat = k := by
    simp [UInt64.toBitVec_ofNat']
    omega
  rw [BitVec.ushiftRight_eq', e4, BitVec.getLsbD_ushiftRight]
  rfl
theorem qz_wd_M (x : Int64) {i : Nat} (hi : i < 8) : (Int64.toInt32 ((x.toUInt64 >>> ((Int32.toInt64 32).toUInt64 &&& Int64.toUInt64 63)).toInt64) >>> (nI (4 * i) &&& 31)) &&& 15 = qz_wd i x := by
  unfold qz_wd
  rw [show Int32.toInt64 32 = (nI 32).toInt64 from rfl, wb_cu _ (by omega), wb_cu _ (by omega)]
  apply Int32.toBitVec_inj.mp
  apply BitVec.eq_of_getLsbD_eq
  intro j hj
  have h15 : (15 : Int32).toBitVec = BitVec.ofNat 32 15 := rfl
  have e1 : ((nI (4 * i) &&& 31).toBitVec.smod 32).toNat = 4 * i := by
    revert hi
    revert i
    decide
  have s1 : ∀ (w : BitVec 64) (t : Nat), t < 32 → (BitVec.signExtend 32 w).getLsbD t = w.getLsbD t := by
    intro w t ht
    rw [BitVec.getLsbD_signExtend, decide_eq_true ht, Bool.true_and, if_pos (by omega)]
  simp only [Int32.toBitVec_and, BitVec.getLsbD_and, h15]
  by_cases h4 : j < 4
  · congr 1
    rw [Int32.toBitVec_shiftRight, BitVec.sshiftRight_eq', e1, BitVec.getLsbD_sshiftRight, if_pos (by omega), decide_eq_false (by omega), Bool.not_false, Bool.true_and]
    show (BitVec.signExtend 32 _).getLsbD _ = (BitVec.signExtend 32 _).getLsbD _
    rw [s1 _ _ (by omega), s1 _ _ hj, qz_shr x (by omega), qz_shr x (by omega), Nat.add_assoc]
  · have : (BitVec.ofNat 32 15).getLsbD j = false := by
      rw [BitVec.getLsbD_ofNat]
      simp
      intro _
      exact Nat.testBit_lt_two_pow (Nat.lt_of_lt_of_le (show 15 < 2 ^ 4 by decide) (Nat.pow_le_pow_right (by decide) (by omega)))
    rw [this, Bool.and_false, Bool.and_false]
def qz_live (x : Int64) : Nat → Bool
  | 0 => true
  | i + 1 => qz_live x i && !(decide (qz_wd i x = 0))
def qz_wv (x : Int64) (i : Nat) : Int32 := if qz_live x i = true ∧ i ≤ 7 then qz_wd i x else 0
theorem lo1_at {β : Type} {s : (Int32 → Option β) → Int32 → Option β} {f : Nat} {x x' : Int32} {r : Option β} (h : lo1 s f x = r) (hx : x' = x) : lo1 s f x' = r := by rw [hx]; exact h
def qz_cw (x : Int64) (a : Int32) : Nat → Nat → Nat
  | 0, _ => 0
  | m + 1, i => if qz_wd i x = 0 then 0 else (if qz_wd i x = a then 1 else 0) + qz_cw x a m (i + 1)
def qz_cp (x : Int64) (a b : Int32) : Nat → Nat → Nat
  | 0, _ => 0
  | m + 1, i => if qz_wd i x = 0 then 0 else (if qz_wd i x = a ∧ qz_wd (i + 1) x = b then 1 else 0) + qz_cp x a b m (i + 1)
theorem qz_cw_le (x : Int64) (a : Int32) : ∀ (m i : Nat), qz_cw x a m i ≤ m := by
  intro m
  induction m with
  | zero => intro i; exact Nat.le_refl _
  | succ m ih => intro i; have := ih (i + 1); unfold qz_cw; split; omega; split <;> omega
theorem qz_cp_le (x : Int64) (a b : Int32) : ∀ (m i : Nat), qz_cp x a b m i ≤ m := by
  intro m
  induction m with
  | zero => intro i; exact Nat.le_refl _
  | succ m ih => intro i; have := ih (i + 1); unfold qz_cp; split; omega; split <;> omega
theorem cwX_loop (x : Int64) (a : Int32) (J : Int32 → Option Int32) : ∀ (m i : Nat), i + m = 8 → ∀ (f : Nat), m < f → ∀ (acc : Nat), lo2 (sX4_countWord_5 J x a) f (nI acc) (nI i) = J (nI (acc + qz_cw x a m i)) := by
  intro m
  induction m with
  | zero =>
    intro i hi f hf acc
    obtain ⟨f, rfl⟩ : ∃ z, f = z + 1 := ⟨f - 1, by omega⟩
    rw [lo2_s, sX4_countWord_5, if_pos (by rw [l8, n_le (by omega) (by omega)]; omega)]
    rfl
  | succ m ih =>
    intro i hi f hf acc
    obtain ⟨f, rfl⟩ : ∃ z, f = z + 1 := ⟨f - 1, by omega⟩
    rw [lo2_s, sX4_countWord_5, if_neg (by rw [l8, n_le (by omega) (by omega)]; omega), wordAt_ok, cal1_e]
    unfold qz_cw
    by_cases h : qz_wd i x = 0
    · rw [if_pos h, if_pos h]; rfl
    · rw [if_neg h, if_neg h, cal1_e, jp_e]
      try dsimp only
      by_cases h2 : qz_wd i x = a
      · rw [if_pos h2, if_pos h2, nI_1, bnd_e, nI_1, bnd_e, ih (i + 1) (by omega) f (by omega), Nat.add_assoc]
      · rw [if_neg h2, if_neg h2, nI_1, bnd_e, ih (i + 1) (by omega) f (by omega), Nat.zero_add]
theorem qz_live_s (x : Int64) (i : Nat) : qz_live x (i + 1) = (qz_live x i && !(decide (qz_wd i x = 0))) := rfl
theorem cpX_loop (x : Int64) (a b : Int32) (J : Int32 → Option Int32) : ∀ (m i : Nat), i + m = 7 → ∀ (f : Nat), m < f → ∀ (acc : Nat), lo2 (sX4_countPhrase_6 J x a b) f (nI acc) (nI i) = J (nI (acc + qz_cp x a b m i)) := by
  intro m
  induction m with
  | zero =>
    intro i hi f hf acc
    obtain ⟨f, rfl⟩ : ∃ z, f = z + 1 := ⟨f - 1, by omega⟩
    rw [lo2_s, sX4_countPhrase_6, nI_1 i, bnd_e, if_pos (by rw [l8, n_le (by omega) (by omega)]; omega)]
    rfl
  | succ m ih =>
    intro i hi f hf acc
    obtain ⟨f, rfl⟩ : ∃ z, f = z + 1 := ⟨f - 1, by omega⟩
    rw [lo2_s, sX4_countPhrase_6, nI_1 i, bnd_e, if_neg (by rw [l8, n_le (by omega) (by omega)]; omega), wordAt_ok, cal1_e]
    unfold qz_cp
    by_cases h : qz_wd i x = 0
    · rw [if_pos h, if_pos h]; rfl
    · rw [if_neg h, if_neg h, cal1_e, jp_e]
      try dsimp only
      by_cases h2 : qz_wd i x = a
      · rw [if_pos h2, bnd_e, wordAt_ok, cal1_e]
        by_cases h3 : qz_wd (i + 1) x = b
        · rw [if_pos h3, if_pos ⟨h2, h3⟩, nI_1 acc, bnd_e, bnd_e, ih (i + 1) (by omega) f (by omega), Nat.add_assoc]
        · rw [if_neg h3, if_neg (fun z => h3 z.2), bnd_e, ih (i + 1) (by omega) f (by omega), Nat.zero_add]
      · rw [if_neg h2, if_neg (fun z => h2 z.1), bnd_e, ih (i + 1) (by omega) f (by omega), Nat.zero_add]
theorem qz_wv_i (x : Int64) {i : Nat} (h7 : i ≤ 7) : qz_wv x i = if qz_live x i = true then qz_wd i x else 0 := by
  unfold qz_wv
  by_cases h : qz_live x i = true
  · rw [if_pos h, if_pos ⟨h, h7⟩]
  · rw [if_neg h, if_neg (fun z => h z.1)]
theorem countWord_ok (a : Int32) (x : Int64) : fX4_countWord a x = some (nI (qz_cw x a 8 0)) := by
  rw [fX4_countWord, jp_e]
  try dsimp only
  refine Eq.trans (lo2_at (cwX_loop x a _ 8 0 (by omega) 1000 (by omega) 0) rfl rfl) ?_
  rw [Nat.zero_add]
theorem countPhrase_ok (a b : Int32) (x : Int64) : fX4_countPhrase a b x = some (nI (qz_cp x a b 7 0)) := by
  rw [fX4_countPhrase, jp_e]
  try dsimp only
  refine Eq.trans (lo2_at (cpX_loop x a b _ 7 0 (by omega) 1000 (by omega) 0) rfl rfl) ?_
  rw [Nat.zero_add]
/-- what a token without operands gives -/
def qz_lf (k a b : Int32) (x : Int64) : Nat := if k = 0 then 1 else if k = 1 then qz_cw x a 8 0 else if k = 2 then 2 * qz_cp x a b 7 0 else if k = 3 then (if a ≤ Int64.toInt32 x ∧ Int64.toInt32 x ≤ b then 1 else 0) else 0
theorem qz_lf_le (k a b : Int32) (x : Int64) : qz_lf k a b x ≤ 14 := by
  have h1 := qz_cw_le x a 8 0
  have h2 := qz_cp_le x a b 7 0
  unfold qz_lf
  split
  · omega
  · split
    · omega
    · split
      · omega
      · split
        · split <;> omega
        · omega
theorem range_ok (a b z : Int32) : (if z < a then some (0 : Int32) else if b < z then some 0 else some 1) = some (nI (if a ≤ z ∧ z ≤ b then 1 else 0)) := by
  by_cases h1 : z < a
  · rw [if_pos h1, if_neg (by grind)]; rfl
  · rw [if_neg h1]
    by_cases h2 : b < z
    · rw [if_pos h2, if_neg (by grind)]; rfl
    · rw [if_neg h2, if_pos (by grind)]; rfl
theorem leafScore_ok (k a b : Int32) (x : Int64) : fX4_leafScore k a b x = some (nI (qz_lf k a b x)) := by
  rw [fX4_leafScore]
  unfold qz_lf
  by_cases h0 : k = 0
  · rw [if_pos h0, if_pos h0]; rfl
  · rw [if_neg h0, if_neg h0]
    by_cases h1 : k = 1
    · rw [if_pos h1, if_pos h1, countWord_ok, cal1_e]
    · rw [if_neg h1, if_neg h1]
      by_cases h2 : k = 2
      · rw [if_pos h2, if_pos h2, countPhrase_ok, cal1_e, l2, n_mul, bnd_e]
      · rw [if_neg h2, if_neg h2]
        by_cases h3 : k = 3
        · rw [if_pos h3, if_pos h3]
          simp only [bnd_e, jp_e]
          exact range_ok a b _
        · rw [if_neg h3, if_neg h3]; rfl
