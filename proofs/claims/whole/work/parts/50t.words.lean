/-! words of a source -/
def qz_wd (i : Nat) (x : Int64) : Int32 := Int64.toInt32 ((x.toUInt64 >>> ((nI (32 + 4 * i)).toInt64.toUInt64 &&& Int64.toUInt64 63)).toInt64) &&& 15
theorem wordAt_ok {i : Nat} (x : Int64) : fX4_wordAt (nI i) x = some (qz_wd i x) := by
  rw [fX4_wordAt, l4, n_mul, bnd_e, l32, n_add, bnd_e, bnd_e, bnd_e, bnd_e]
  rfl
theorem qz_shr (x : Int64) {k j : Nat} (hk : k < 64) : ((x.toUInt64 >>> UInt64.ofNat k).toInt64).toBitVec.getLsbD j = x.toBitVec.getLsbD (k + j) := by
  show (x.toUInt64 >>> UInt64.ofNat k).toBitVec.getLsbD j = _
  rw [UInt64.toBitVec_shiftRight]
  have e4 : ((UInt64.ofNat k).toBitVec % 64).toNat = k := by
    simp [UInt64.toBitVec_ofNat']
    omega
  rw [BitVec.ushiftRight_eq', e4, BitVec.getLsbD_ushiftRight]
  rfl
theorem qz_wd_M (x : Int64) {i : Nat} (hi : i < 8) : (Int64.toInt32 ((x.toUInt64 >>> ((Int32.toInt64 32).toUInt64 &&& Int64.toUInt64 63)).toInt64) >>> (nI (4 * i) &&& 31)) &&& 15 = qz_wd i x := by
  unfold qz_wd
  rw [show Int32.toInt64 32 = (nI 32).toInt64 from rfl, wb_cu _ (by omega), wb_cu _ (by omega)]
  apply Int32.toBitVec_inj.mp
  apply BitVec.eq_of_getLsbD_eq
  intro j hj
  have h15 : (15 : Int32).toBitVec = BitVec.ofNat 32 15 := rfl
  have e1 : ((nI (4 * i) &&& 31).toBitVec.smod 32).toNat = 4 * i := by
    revert hi
    revert i
    decide
  have s1 : ∀ (w : BitVec 64) (t : Nat), t < 32 → (BitVec.signExtend 32 w).getLsbD t = w.getLsbD t := by
    intro w t ht
    rw [BitVec.getLsbD_signExtend, decide_eq_true ht, Bool.true_and, if_pos (by omega)]
  simp only [Int32.toBitVec_and, BitVec.getLsbD_and, h15]
  by_cases h4 : j < 4
  · congr 1
    rw [Int32.toBitVec_shiftRight, BitVec.sshiftRight_eq', e1, BitVec.getLsbD_sshiftRight, if_pos (by omega), decide_eq_false (by omega), Bool.not_false, Bool.true_and]
    show (BitVec.signExtend 32 _).getLsbD _ = (BitVec.signExtend 32 _).getLsbD _
    rw [s1 _ _ (by omega), s1 _ _ hj, qz_shr x (by omega), qz_shr x (by omega), Nat.add_assoc]
  · have : (BitVec.ofNat 32 15).getLsbD j = false := by
      rw [BitVec.getLsbD_ofNat]
      simp
      intro _
      exact Nat.testBit_lt_two_pow (Nat.lt_of_lt_of_le (show 15 < 2 ^ 4 by decide) (Nat.pow_le_pow_right (by decide) (by omega)))
    rw [this, Bool.and_false, Bool.and_false]
def qz_live (x : Int64) : Nat → Bool
  | 0 => true
  | i + 1 => qz_live x i && !(decide (qz_wd i x = 0))
def qz_wv (x : Int64) (i : Nat) : Int32 := if qz_live x i = true ∧ i ≤ 7 then qz_wd i x else 0
theorem word_loop (x : Int64) (t : Nat) (ht : t ≤ 8) (z : Int32) (hz : z = Int64.toInt32 ((x.toUInt64 >>> ((Int32.toInt64 32).toUInt64 &&& Int64.toUInt64 63)).toInt64)) (J : Option Int32) : ∀ (m i : Nat), i + m = t → ∀ (f : Nat), m < f → qz_live x i = true → lo1 (sX6_word_9 (nI t) J z) f (nI i) = if qz_live x t = true then J else some 0 := by
  intro m
  induction m with
  | zero =>
    intro i hi f hf hl
    obtain ⟨f, rfl⟩ : ∃ z, f = z + 1 := ⟨f - 1, by omega⟩
    obtain rfl : i = t := by omega
    rw [lo1_s, sX6_word_9, if_pos (by rw [n_le (by omega) (by omega)]; omega), if_pos hl]
  | succ m ih =>
    intro i hi f hf hl
    obtain ⟨f, rfl⟩ : ∃ z, f = z + 1 := ⟨f - 1, by omega⟩
    rw [lo1_s, sX6_word_9, if_neg (by rw [n_le (by omega) (by omega)]; omega), l4, n_mul, bnd_e, hz, bnd_e, bnd_e, qz_wd_M x (by omega)]
    by_cases h : qz_wd i x = 0
    · have hd : ∀ k, qz_live x (i + 1 + k) = false := by
        intro k
        induction k with
        | zero => show (qz_live x i && !(decide (qz_wd i x = 0))) = false; rw [decide_eq_true h, Bool.not_true, Bool.and_false]
        | succ k ihk => show (qz_live x (i + 1 + k) && _) = false; rw [ihk, Bool.false_and]
      have := hd (t - (i + 1))
      rw [show i + 1 + (t - (i + 1)) = t by omega] at this
      rw [if_pos h, this, if_neg (by decide)]
    · rw [if_neg h, nI_1, bnd_e, ← hz]
      refine ih (i + 1) (by omega) f (by omega) ?_
      show (qz_live x i && !(decide (qz_wd i x = 0))) = true
      rw [hl, decide_eq_false h]; rfl
theorem lo1_at {β : Type} {s : (Int32 → Option β) → Int32 → Option β} {f : Nat} {x x' : Int32} {r : Option β} (h : lo1 s f x = r) (hx : x' = x) : lo1 s f x' = r := by rw [hx]; exact h
theorem word_ok (x : Int64) {t : Nat} (ht : t ≤ 8) : fX6_word x (nI t) = some (qz_wv x t) := by
  rw [fX6_word, bnd_e, bnd_e, jp_e]
  try dsimp only
  refine Eq.trans (lo1_at (word_loop x t ht _ rfl _ t 0 (by omega) 1000 (by omega) rfl) rfl) ?_
  rw [jp_e]
  try dsimp only
  unfold qz_wv
  by_cases hl : qz_live x t = true
  · rw [if_pos hl]
    by_cases h7 : t ≤ 7
    · rw [if_pos (by rw [l7, n_le (by omega) (by omega)]; omega), if_pos ⟨hl, h7⟩, l4, n_mul, bnd_e, bnd_e, bnd_e, qz_wd_M x (by omega)]
    · rw [if_neg (by rw [l7, n_le (by omega) (by omega)]; omega), if_neg (fun h => h7 h.2)]
  · rw [if_neg hl, if_neg (fun h => hl h.1)]
def qz_cw (x : Int64) (a : Int32) : Nat → Nat → Nat
  | 0, _ => 0
  | m + 1, i => if qz_wd i x = 0 then 0 else (if qz_wd i x = a then 1 else 0) + qz_cw x a m (i + 1)
def qz_cp (x : Int64) (a b : Int32) : Nat → Nat → Nat
  | 0, _ => 0
  | m + 1, i => if qz_wd i x = 0 then 0 else (if qz_wd i x = a ∧ qz_wd (i + 1) x = b then 1 else 0) + qz_cp x a b m (i + 1)
theorem qz_cw_le (x : Int64) (a : Int32) : ∀ (m i : Nat), qz_cw x a m i ≤ m := by
  intro m
  induction m with
  | zero => intro i; exact Nat.le_refl _
  | succ m ih => intro i; have := ih (i + 1); unfold qz_cw; split; omega; split <;> omega
theorem qz_cp_le (x : Int64) (a b : Int32) : ∀ (m i : Nat), qz_cp x a b m i ≤ m := by
  intro m
  induction m with
  | zero => intro i; exact Nat.le_refl _
  | succ m ih => intro i; have := ih (i + 1); unfold qz_cp; split; omega; split <;> omega
theorem cwX_loop (x : Int64) (a : Int32) (J : Int32 → Option Int32) : ∀ (m i : Nat), i + m = 8 → ∀ (f : Nat), m < f → ∀ (acc : Nat), lo2 (sX4_countWord_5 J x a) f (nI acc) (nI i) = J (nI (acc + qz_cw x a m i)) := by
  intro m
  induction m with
  | zero =>
    intro i hi f hf acc
    obtain ⟨f, rfl⟩ : ∃ z, f = z + 1 := ⟨f - 1, by omega⟩
    rw [lo2_s, sX4_countWord_5, if_pos (by rw [l8, n_le (by omega) (by omega)]; omega)]
    rfl
  | succ m ih =>
    intro i hi f hf acc
    obtain ⟨f, rfl⟩ : ∃ z, f = z + 1 := ⟨f - 1, by omega⟩
    rw [lo2_s, sX4_countWord_5, if_neg (by rw [l8, n_le (by omega) (by omega)]; omega), wordAt_ok, cal1_e]
    unfold qz_cw
    by_cases h : qz_wd i x = 0
    · rw [if_pos h, if_pos h]; rfl
    · rw [if_neg h, if_neg h, cal1_e, jp_e]
      try dsimp only
      by_cases h2 : qz_wd i x = a
      · rw [if_pos h2, if_pos h2, nI_1, bnd_e, nI_1, bnd_e, ih (i + 1) (by omega) f (by omega), Nat.add_assoc]
      · rw [if_neg h2, if_neg h2, nI_1, bnd_e, ih (i + 1) (by omega) f (by omega), Nat.zero_add]
theorem qz_live_s (x : Int64) (i : Nat) : qz_live x (i + 1) = (qz_live x i && !(decide (qz_wd i x = 0))) := rfl
theorem cwM_loop (x : Int64) {a : Int32} (ha : a ≠ 0) (J : Int32 → Option Int32) : ∀ (m i : Nat), i + m = 8 → ∀ (f : Nat), m < f → ∀ (acc : Nat), lo2 (sX6_often_6 J x a 0) f (nI acc) (nI i) = J (nI (acc + if qz_live x i = true then qz_cw x a m i else 0)) := by
  intro m
  induction m with
  | zero =>
    intro i hi f hf acc
    obtain ⟨f, rfl⟩ : ∃ z, f = z + 1 := ⟨f - 1, by omega⟩
    rw [lo2_s, sX6_often_6, if_pos (by rw [l8, n_le (by omega) (by omega)]; omega)]
    unfold qz_cw
    split <;> rfl
  | succ m ih =>
    intro i hi f hf acc
    obtain ⟨f, rfl⟩ : ∃ z, f = z + 1 := ⟨f - 1, by omega⟩
    rw [lo2_s, sX6_often_6, if_neg (by rw [l8, n_le (by omega) (by omega)]; omega), word_ok x (by omega), cal1_e, nI_1, bnd_e, word_ok x (by omega), cal1_e, jp_e]
    try dsimp only
    have hw : qz_wv x i = if qz_live x i = true then qz_wd i x else 0 := by
      unfold qz_wv
      by_cases h : qz_live x i = true
      · rw [if_pos h, if_pos ⟨h, by omega⟩]
      · rw [if_neg h, if_neg (fun z => h z.1)]
    rw [hw]
    by_cases h : qz_live x i = true
    · rw [if_pos h, if_pos h]
      unfold qz_cw
      have hls := qz_live_s x i
      by_cases h0 : qz_wd i x = 0
      · rw [decide_eq_true h0, Bool.not_true, Bool.and_false] at hls
        rw [if_neg (by rw [h0]; exact fun e => ha e.symm), bnd_e, ih (i + 1) (by omega) f (by omega), hls, if_neg (by decide), if_pos h0]
      · rw [h, decide_eq_false h0] at hls
        rw [if_neg h0]
        by_cases h2 : qz_wd i x = a
        · rw [if_pos h2, if_pos h2, jp_e]
          try dsimp only
          rw [if_pos rfl, nI_1, bnd_e, bnd_e, ih (i + 1) (by omega) f (by omega), hls, if_pos (show (true && !false) = true from rfl), Nat.add_assoc]
        · rw [if_neg h2, if_neg h2, bnd_e, ih (i + 1) (by omega) f (by omega), hls, if_pos (show (true && !false) = true from rfl), Nat.zero_add]
    · have hls := qz_live_s x i
      rw [Bool.eq_false_iff.mpr h, Bool.false_and] at hls
      rw [if_neg h, if_neg (fun e => ha e.symm), bnd_e, ih (i + 1) (by omega) f (by omega), hls, if_neg (by decide), if_neg h]
theorem cpX_loop (x : Int64) (a b : Int32) (J : Int32 → Option Int32) : ∀ (m i : Nat), i + m = 7 → ∀ (f : Nat), m < f → ∀ (acc : Nat), lo2 (sX4_countPhrase_6 J x a b) f (nI acc) (nI i) = J (nI (acc + qz_cp x a b m i)) := by
  intro m
  induction m with
  | zero =>
    intro i hi f hf acc
    obtain ⟨f, rfl⟩ : ∃ z, f = z + 1 := ⟨f - 1, by omega⟩
    rw [lo2_s, sX4_countPhrase_6, nI_1 i, bnd_e, if_pos (by rw [l8, n_le (by omega) (by omega)]; omega)]
    rfl
  | succ m ih =>
    intro i hi f hf acc
    obtain ⟨f, rfl⟩ : ∃ z, f = z + 1 := ⟨f - 1, by omega⟩
    rw [lo2_s, sX4_countPhrase_6, nI_1 i, bnd_e, if_neg (by rw [l8, n_le (by omega) (by omega)]; omega), wordAt_ok, cal1_e]
    unfold qz_cp
    by_cases h : qz_wd i x = 0
    · rw [if_pos h, if_pos h]; rfl
    · rw [if_neg h, if_neg h, cal1_e, jp_e]
      try dsimp only
      by_cases h2 : qz_wd i x = a
      · rw [if_pos h2, bnd_e, wordAt_ok, cal1_e]
        by_cases h3 : qz_wd (i + 1) x = b
        · rw [if_pos h3, if_pos ⟨h2, h3⟩, nI_1 acc, bnd_e, bnd_e, ih (i + 1) (by omega) f (by omega), Nat.add_assoc]
        · rw [if_neg h3, if_neg (fun z => h3 z.2), bnd_e, ih (i + 1) (by omega) f (by omega), Nat.zero_add]
      · rw [if_neg h2, if_neg (fun z => h2 z.1), bnd_e, ih (i + 1) (by omega) f (by omega), Nat.zero_add]
theorem qz_wv_i (x : Int64) {i : Nat} (h7 : i ≤ 7) : qz_wv x i = if qz_live x i = true then qz_wd i x else 0 := by
  unfold qz_wv
  by_cases h : qz_live x i = true
  · rw [if_pos h, if_pos ⟨h, h7⟩]
  · rw [if_neg h, if_neg (fun z => h z.1)]
theorem cpM_loop (x : Int64) {a b : Int32} (ha : a ≠ 0) (hb : b ≠ 0) (J : Int32 → Option Int32) : ∀ (m i : Nat), i + m = 7 → ∀ (f : Nat), m + 1 < f → ∀ (acc : Nat), lo2 (sX6_often_6 J x a b) f (nI acc) (nI i) = J (nI (acc + if qz_live x i = true then qz_cp x a b m i else 0)) := by
  intro m
  induction m with
  | zero =>
    intro i hi f hf acc
    obtain ⟨f, rfl⟩ : ∃ z, f = z + 2 := ⟨f - 2, by omega⟩
    obtain rfl : i = 7 := by omega
    have hw8 : qz_wv x (7 + 1) = 0 := by unfold qz_wv; exact if_neg (fun z => by omega)
    have hend : lo2 (sX6_often_6 J x a b) (f + 1) (nI acc) (nI (7 + 1)) = J (nI acc) := by
      rw [lo2_s, sX6_often_6, if_pos (by rw [l8, n_le (by omega) (by omega)]; omega)]
    have hr : (acc + if qz_live x 7 = true then qz_cp x a b 0 7 else 0) = acc := by split <;> rfl
    rw [hr, lo2_s, sX6_often_6, if_neg (by rw [l8, n_le (by omega) (by omega)]; omega), word_ok x (by omega), cal1_e, nI_1 7, bnd_e, word_ok x (by omega), cal1_e, jp_e]
    try dsimp only
    rw [hw8]
    by_cases h : qz_wv x 7 = a
    · rw [if_pos h, jp_e]
      try dsimp only
      rw [if_neg hb, if_neg (fun e => hb e.symm), bnd_e, hend]
    · rw [if_neg h, bnd_e, hend]
  | succ m ih =>
    intro i hi f hf acc
    obtain ⟨f, rfl⟩ : ∃ z, f = z + 1 := ⟨f - 1, by omega⟩
    rw [lo2_s, sX6_often_6, if_neg (by rw [l8, n_le (by omega) (by omega)]; omega), word_ok x (by omega), cal1_e, nI_1 i, bnd_e, word_ok x (by omega), cal1_e, jp_e]
    try dsimp only
    rw [qz_wv_i x (show i ≤ 7 by omega), qz_wv_i x (show i + 1 ≤ 7 by omega)]
    by_cases h : qz_live x i = true
    · have hls := qz_live_s x i
      rw [if_pos h, if_pos h]
      unfold qz_cp
      by_cases h0 : qz_wd i x = 0
      · rw [decide_eq_true h0, Bool.not_true, Bool.and_false] at hls
        rw [if_neg (by rw [h0]; exact fun e => ha e.symm), bnd_e, ih (i + 1) (by omega) f (by omega), hls, if_neg (by decide), if_pos h0]
      · rw [h, decide_eq_false h0] at hls
        rw [hls]
        rw [if_neg h0, if_pos (show (true && !false) = true from rfl)]
        by_cases h2 : qz_wd i x = a
        · rw [if_pos h2, jp_e]
          try dsimp only
          rw [if_neg hb]
          by_cases h3 : qz_wd (i + 1) x = b
          · rw [if_pos h3, if_pos ⟨h2, h3⟩, nI_1 acc, bnd_e, bnd_e, ih (i + 1) (by omega) f (by omega), hls, if_pos (show (true && !false) = true from rfl), Nat.add_assoc]
          · rw [if_neg h3, if_neg (fun z => h3 z.2), bnd_e, ih (i + 1) (by omega) f (by omega), hls, if_pos (show (true && !false) = true from rfl), Nat.zero_add]
        · rw [if_neg h2, if_neg (fun z => h2 z.1), bnd_e, ih (i + 1) (by omega) f (by omega), hls, if_pos (show (true && !false) = true from rfl), Nat.zero_add]
    · have hls := qz_live_s x i
      rw [Bool.eq_false_iff.mpr h, Bool.false_and] at hls
      rw [if_neg h, if_neg (fun e => ha e.symm), bnd_e, ih (i + 1) (by omega) f (by omega), hls, if_neg (by decide), if_neg h]
theorem countWord_ok (a : Int32) (x : Int64) : fX4_countWord a x = some (nI (qz_cw x a 8 0)) := by
  rw [fX4_countWord, jp_e]
  try dsimp only
  refine Eq.trans (lo2_at (cwX_loop x a _ 8 0 (by omega) 1000 (by omega) 0) rfl rfl) ?_
  rw [Nat.zero_add]
theorem countPhrase_ok (a b : Int32) (x : Int64) : fX4_countPhrase a b x = some (nI (qz_cp x a b 7 0)) := by
  rw [fX4_countPhrase, jp_e]
  try dsimp only
  refine Eq.trans (lo2_at (cpX_loop x a b _ 7 0 (by omega) 1000 (by omega) 0) rfl rfl) ?_
  rw [Nat.zero_add]
theorem oftenW_ok {a : Int32} (ha : a ≠ 0) (x : Int64) : fX6_often x a 0 = some (nI (qz_cw x a 8 0)) := by
  rw [fX6_often, jp_e]
  try dsimp only
  refine Eq.trans (lo2_at (cwM_loop x ha _ 8 0 (by omega) 1000 (by omega) 0) rfl rfl) ?_
  rw [Nat.zero_add, if_pos (show qz_live x 0 = true from rfl)]
theorem oftenP_ok {a b : Int32} (ha : a ≠ 0) (hb : b ≠ 0) (x : Int64) : fX6_often x a b = some (nI (qz_cp x a b 7 0)) := by
  rw [fX6_often, jp_e]
  try dsimp only
  refine Eq.trans (lo2_at (cpM_loop x ha hb _ 7 0 (by omega) 1000 (by omega) 0) rfl rfl) ?_
  rw [Nat.zero_add, if_pos (show qz_live x 0 = true from rfl)]
/-- what a token without operands gives -/
def qz_lf (k a b : Int32) (x : Int64) : Nat := if k = 0 then 1 else if k = 1 then qz_cw x a 8 0 else if k = 2 then 2 * qz_cp x a b 7 0 else if k = 3 then (if a ≤ Int64.toInt32 x ∧ Int64.toInt32 x ≤ b then 1 else 0) else 0
theorem qz_lf_le (k a b : Int32) (x : Int64) : qz_lf k a b x ≤ 14 := by
  have h1 := qz_cw_le x a 8 0
  have h2 := qz_cp_le x a b 7 0
  unfold qz_lf
  split
  · omega
  · split
    · omega
    · split
      · omega
      · split
        · split <;> omega
        · omega
theorem range_ok (a b z : Int32) : (if z < a then some (0 : Int32) else if b < z then some 0 else some 1) = some (nI (if a ≤ z ∧ z ≤ b then 1 else 0)) := by
  by_cases h1 : z < a
  · rw [if_pos h1, if_neg (by grind)]; rfl
  · rw [if_neg h1]
    by_cases h2 : b < z
    · rw [if_pos h2, if_neg (by grind)]; rfl
    · rw [if_neg h2, if_pos (by grind)]; rfl
theorem leafScore_ok (k a b : Int32) (x : Int64) : fX4_leafScore k a b x = some (nI (qz_lf k a b x)) := by
  rw [fX4_leafScore]
  unfold qz_lf
  by_cases h0 : k = 0
  · rw [if_pos h0, if_pos h0]; rfl
  · rw [if_neg h0, if_neg h0]
    by_cases h1 : k = 1
    · rw [if_pos h1, if_pos h1, countWord_ok, cal1_e]
    · rw [if_neg h1, if_neg h1]
      by_cases h2 : k = 2
      · rw [if_pos h2, if_pos h2, countPhrase_ok, cal1_e, l2, n_mul, bnd_e]
      · rw [if_neg h2, if_neg h2]
        by_cases h3 : k = 3
        · rw [if_pos h3, if_pos h3]
          simp only [bnd_e, jp_e]
          exact range_ok a b _
        · rw [if_neg h3, if_neg h3]; rfl
theorem given_ok {i : Nat} (hi : i < 15) (kM aM bM : Nat → Int32) (h3 : 0 ≤ kM i ∧ kM i ≤ 3) (h1 : kM i = 1 ∨ kM i = 2 → aM i ≠ 0) (h2 : kM i = 2 → bM i ≠ 0) (x : Int64) : fX6_given kM aM bM (nI i) x = some (nI (qz_lf (kM i) (aM i) (bM i) x)) := by
  rw [fX6_given, bnd_e, rdI_n hi (by omega)]
  unfold qz_lf
  by_cases e1 : kM i = 1
  · rw [if_pos e1, rdI_n hi (by omega), oftenW_ok (h1 (Or.inl e1)), cal1_e, if_neg (by rw [e1]; decide), if_pos e1]
  · rw [if_neg e1, rdI_n hi (by omega)]
    by_cases e2 : kM i = 2
    · rw [if_pos e2, rdI_n hi (by omega), rdI_n hi (by omega), oftenP_ok (h1 (Or.inr e2)) (h2 e2), cal1_e, l2, n_mul, bnd_e, ← l2, if_neg (by rw [e2]; decide), if_neg (by rw [e2]; decide), if_pos e2]
    · rw [if_neg e2, rdI_n hi (by omega), if_neg e1, if_neg e2]
      simp only [jp_e]
      by_cases e0 : kM i = 0
      · rw [if_pos e0, if_pos e0]; rfl
      · rw [if_neg e0, if_neg e0, if_pos (by grind), rdI_n hi (by omega)]
        rw [← range_ok]
        by_cases c1 : Int64.toInt32 x < aM i
        · rw [if_pos c1, if_pos c1]
        · rw [if_neg c1, if_neg c1, rdI_n hi (by omega)]
