/-! the tokens of the law's query, out of the script -/
def celN (xs : Nat → Int32) (Ln j : Nat) : Int32 := if j < Ln then xs j else 0
theorem cell_ok {xs : Nat → Int32} {Ln j : Nat} (hL : Ln < 100000) (hj : j < 100000) : fL_cell xs Ln (nI j) = some (celN xs Ln j) := by
  rw [fL_cell]
  simp only [jp_e]
  unfold celN
  by_cases h : j < Ln
  · rw [show Int32.ofNat Ln = nI Ln from rfl, if_neg (by rw [n_le (by omega) (by omega)]; omega), rdI_n h (by omega), if_pos h]
  · rw [show Int32.ofNat Ln = nI Ln from rfl, if_pos (by rw [n_le (by omega) (by omega)]; omega), if_neg h]
def rwN (xs : Nat → Int32) (Ln k : Nat) : Nat := (celN xs Ln (72 + k) &&& 255).toNatClampNeg % 7
def rawN (xs : Nat → Int32) (Ln k m : Nat) : Nat := if 12 < k + m ∧ 3 < rwN xs Ln k then 1 else rwN xs Ln k
theorem rwN_lt (xs : Nat → Int32) (Ln k : Nat) : rwN xs Ln k < 7 := Nat.mod_lt _ (by omega)
theorem rawN_lt (xs : Nat → Int32) (Ln k m : Nat) : rawN xs Ln k m < 7 := by
  unfold rawN
  have := rwN_lt xs Ln k
  split <;> omega
theorem rawN_4 {xs : Nat → Int32} {Ln k m : Nat} (h : 12 < k + m) : rawN xs Ln k m < 4 := by
  unfold rawN
  by_cases h2 : 3 < rwN xs Ln k
  · rw [if_pos ⟨h, h2⟩]; omega
  · rw [if_neg (fun h3 => h2 h3.2)]; omega
theorem raw_ok {xs : Nat → Int32} {Ln k m : Nat} (hL : Ln < 100000) (hk : k < 1000) (hm : m < 1000) : fL_raw xs Ln (nI k) (nI m) = some (nI (rawN xs Ln k m)) := by
  obtain ⟨j, hj, ej⟩ := pk_andE (celN xs Ln (72 + k)) (m := 255) 8 rfl
  have er : rwN xs Ln k = j % 7 := by unfold rwN; rw [ej, n_cl (by omega)]
  have hrm : ∀ (K : Int32 → Option Int32), rmk (nI j) 7 K = K (nI (j % 7)) := by
    intro K
    unfold rmk
    rw [if_neg (by decide), l7, pk_rem (by omega) (by omega) (by omega)]
  have h7 := rwN_lt xs Ln k
  rw [fL_raw, show (72 : Int32) + nI k = nI (72 + k) from n_add 72 k, bnd_e, cell_ok hL (by omega), cal1_e, ej, bnd_e, hrm, n_add, bnd_e, jp_e, jp_e, ← er]
  unfold rawN
  by_cases h1 : 12 < k + m
  · rw [if_neg (by rw [show (12 : Int32) = nI 12 from rfl, n_le (by omega) (by omega)]; omega)]
    by_cases h2 : 3 < rwN xs Ln k
    · rw [if_neg (by rw [l3, n_le (by omega) (by omega)]; omega), if_pos ⟨h1, h2⟩]; rfl
    · rw [if_pos (by rw [l3, n_le (by omega) (by omega)]; omega), if_neg (fun h => h2 h.2)]
  · rw [if_pos (by rw [show (12 : Int32) = nI 12 from rfl, n_le (by omega) (by omega)]; omega), if_neg (fun h => h1 h.1)]
def arN (t : Nat) : Nat := if t < 4 then 0 else if t < 6 then 2 else 1
def mgT (xs : Nat → Int32) (Ln : Nat) : Nat → Nat
  | 0 => 1
  | k + 1 => mgT xs Ln k + arN (rawN xs Ln k (mgT xs Ln k)) - 1
def kN (xs : Nat → Int32) (Ln k : Nat) : Nat := rawN xs Ln k (mgT xs Ln k)
theorem mgT_s (xs : Nat → Int32) (Ln k : Nat) : mgT xs Ln (k + 1) = mgT xs Ln k + arN (kN xs Ln k) - 1 := rfl
theorem kN_lt (xs : Nat → Int32) (Ln k : Nat) : kN xs Ln k < 7 := rawN_lt _ _ _ _
theorem mgT_b (xs : Nat → Int32) (Ln : Nat) : ∀ k, (∀ j, j < k → 1 ≤ mgT xs Ln j) → k + mgT xs Ln k ≤ 14 := by
  intro k
  induction k with
  | zero => intro _; show 0 + 1 ≤ 14; omega
  | succ k ih =>
    intro h
    have h1 := ih (fun j hj => h j (by omega))
    have h2 := h k (by omega)
    rw [mgT_s]
    by_cases h3 : 12 < k + mgT xs Ln k
    · have h4 : kN xs Ln k < 4 := rawN_4 h3
      rw [show arN (kN xs Ln k) = 0 from if_pos h4]
      omega
    · have : arN (kN xs Ln k) ≤ 2 := by unfold arN; split; omega; split <;> omega
      omega
theorem tok_ex (xs : Nat → Int32) (Ln : Nat) : ∃ T, 1 ≤ T ∧ T ≤ 14 ∧ mgT xs Ln T = 0 ∧ ∀ j, j < T → 1 ≤ mgT xs Ln j := by
  have hs : ∀ k, (∃ T, T < k ∧ mgT xs Ln T = 0 ∧ ∀ j, j < T → 1 ≤ mgT xs Ln j) ∨ ∀ j, j < k → 1 ≤ mgT xs Ln j := by
    intro k
    induction k with
    | zero => exact Or.inr (fun j hj => absurd hj (Nat.not_lt_zero _))
    | succ k ih =>
      rcases ih with ⟨T, h1, h2, h3⟩ | h
      · exact Or.inl ⟨T, by omega, h2, h3⟩
      · by_cases h0 : mgT xs Ln k = 0
        · exact Or.inl ⟨k, by omega, h0, h⟩
        · refine Or.inr (fun j hj => ?_)
          by_cases e : j = k
          · subst e; omega
          · exact h j (by omega)
  rcases hs 15 with ⟨T, h1, h2, h3⟩ | h
  · refine ⟨T, ?_, by omega, h2, h3⟩
    by_cases e : T = 0
    · subst e; exact absurd (show (1 : Nat) = 0 from h2) (by decide)
    · omega
  · have := mgT_b xs Ln 14 (fun j hj => h j (by omega))
    have := h 14 (by omega)
    omega
theorem kind_loop {xs : Nat → Int32} {Ln T k : Nat} (hL : Ln < 100000) (hT : T ≤ 14) (h0 : mgT xs Ln T = 0) (h1 : ∀ j, j < T → 1 ≤ mgT xs Ln j) (hk : k ≤ T) (J55 : Int32 → Option Int32) : ∀ (d j : Nat), j + d = k → ∀ (f : Nat), d < f → (j < T ∨ d ≠ 0) →
    lo2 (sL_kind_4 (nI k) J55 xs Ln) f (nI (mgT xs Ln j)) (nI j) = if k < T then J55 (nI (mgT xs Ln k)) else some 9 := by
  intro d
  induction d with
  | zero =>
    intro j hj f hf hh
    obtain ⟨f, rfl⟩ : ∃ z, f = z + 1 := ⟨f - 1, by omega⟩
    obtain rfl : j = k := by omega
    rw [lo2_s, sL_kind_4, if_pos (by rw [n_le (by omega) (by omega)]; omega), if_pos (hh.resolve_right (fun h => h rfl))]
  | succ d ih =>
    intro j hj f hf _
    obtain ⟨f, rfl⟩ : ∃ z, f = z + 1 := ⟨f - 1, by omega⟩
    have hjT : j < T := by omega
    have hm1 := h1 j hjT
    have hmb := mgT_b xs Ln j (fun i hi => h1 i (by omega))
    have hkn := kN_lt xs Ln j
    have hj9 : jp (fun (k8 : Int32) => (bnd (nI (mgT xs Ln j) + k8 : Int32) (fun z9 => (if z9 = 0 then (some (9)) else (bnd (nI j + 1) (fun z10 => (lo2 (sL_kind_4 (nI k) J55 xs Ln) f z9 z10))))))) (fun J40 => (if 4 ≤ nI (kN xs Ln j) then (if 6 ≤ nI (kN xs Ln j) then (J40 0) else (J40 1)) else (J40 (-1)))) = if nI (mgT xs Ln (j + 1)) = 0 then some 9 else lo2 (sL_kind_4 (nI k) J55 xs Ln) f (nI (mgT xs Ln (j + 1))) (nI (j + 1)) := by
      rw [jp_e, mgT_s]
      unfold arN
      by_cases c4 : kN xs Ln j < 4
      · rw [if_neg (by rw [l4, n_le (by omega) (by omega)]; omega), if_pos c4]
        try dsimp only
        rw [n_p1 hm1, bnd_e, nI_1, bnd_e, show mgT xs Ln j + 0 - 1 = mgT xs Ln j - 1 by omega]
      · rw [if_pos (by rw [l4, n_le (by omega) (by omega)]; omega), if_neg c4]
        by_cases c6 : kN xs Ln j < 6
        · rw [if_neg (by rw [l6, n_le (by omega) (by omega)]; omega), if_pos c6]
          try dsimp only
          rw [nI_1, bnd_e, nI_1, bnd_e, show mgT xs Ln j + 2 - 1 = mgT xs Ln j + 1 by omega]
        · rw [if_pos (by rw [l6, n_le (by omega) (by omega)]; omega), if_neg c6]
          try dsimp only
          rw [Int32.add_zero, bnd_e, nI_1, bnd_e, show mgT xs Ln j + 1 - 1 = mgT xs Ln j by omega]
    rw [lo2_s, sL_kind_4, if_neg (by rw [n_le (by omega) (by omega)]; omega), raw_ok hL (by omega) (by omega), cal1_e]
    refine Eq.trans hj9 ?_
    by_cases hn : j + 1 < T
    · have hm2 := h1 (j + 1) hn
      have hmb2 := mgT_b xs Ln (j + 1) (fun i hi => h1 i (by omega))
      rw [if_neg (by rw [l0, n_eq (by omega) (by omega)]; omega)]
      exact ih (j + 1) (by omega) f (by omega) (Or.inl hn)
    · obtain rfl : j + 1 = T := by omega
      rw [h0, if_pos (show nI 0 = 0 from rfl), if_neg (by omega)]
section TOK
variable {xs : Nat → Int32} {Ln T : Nat}
theorem kind_ok (hL : Ln < 100000) (hT1 : 1 ≤ T) (hT : T ≤ 14) (h0 : mgT xs Ln T = 0) (h1 : ∀ j, j < T → 1 ≤ mgT xs Ln j) {k : Nat} (hk : k < T) : fL_kind xs Ln (nI k) = some (nI (kN xs Ln k)) := by
  have hmb := mgT_b xs Ln k (fun i hi => h1 i (by omega))
  rw [fL_kind, jp_e]
  refine Eq.trans (lo2_at (kind_loop hL hT h0 h1 (by omega) _ k 0 (by omega) 1000 (by omega) (Or.inl (by omega))) rfl rfl) ?_
  rw [if_pos hk, raw_ok hL (by omega) (by omega), cal1_e]
  rfl
theorem kind_T (hL : Ln < 100000) (hT1 : 1 ≤ T) (hT : T ≤ 14) (h0 : mgT xs Ln T = 0) (h1 : ∀ j, j < T → 1 ≤ mgT xs Ln j) : fL_kind xs Ln (nI T) = some 9 := by
  rw [fL_kind, jp_e]
  refine Eq.trans (lo2_at (kind_loop hL hT h0 h1 (Nat.le_refl _) _ T 0 (by omega) 1000 (by omega) (Or.inl (by omega))) rfl rfl) ?_
  rw [if_neg (by omega)]
theorem tok_loop (hL : Ln < 100000) (hT1 : 1 ≤ T) (hT : T ≤ 14) (h0 : mgT xs Ln T = 0) (h1 : ∀ j, j < T → 1 ≤ mgT xs Ln j) (J18 : Int32 → Option Int32) : ∀ (d j : Nat), j + d = T → ∀ (f : Nat), d < f → lo1 (sL_tokens_2 xs Ln J18) f (nI j) = J18 (nI T) := by
  intro d
  induction d with
  | zero =>
    intro j hj f hf
    obtain ⟨f, rfl⟩ : ∃ z, f = z + 1 := ⟨f - 1, by omega⟩
    obtain rfl : j = T := by omega
    rw [lo1_s, sL_tokens_2, kind_T hL hT1 hT h0 h1, cal1_e, if_pos (by decide)]
  | succ d ih =>
    intro j hj f hf
    obtain ⟨f, rfl⟩ : ∃ z, f = z + 1 := ⟨f - 1, by omega⟩
    have hk := kN_lt xs Ln j
    rw [lo1_s, sL_tokens_2, kind_ok hL hT1 hT h0 h1 (by omega), cal1_e, if_neg (by rw [show (9 : Int32) = nI 9 from rfl, n_le (by omega) (by omega)]; omega), nI_1, bnd_e]
    exact ih (j + 1) (by omega) f (by omega)
theorem tokens_ok (hL : Ln < 100000) (hT1 : 1 ≤ T) (hT : T ≤ 14) (h0 : mgT xs Ln T = 0) (h1 : ∀ j, j < T → 1 ≤ mgT xs Ln j) : fL_tokens xs Ln = some (nI T) := by
  rw [fL_tokens, jp_e]
  exact lo1_at (tok_loop hL hT1 hT h0 h1 _ T 0 (by omega) 1000 (by omega)) rfl
def aV (xs : Nat → Int32) (Ln k : Nat) : Int32 := if kN xs Ln k = 3 then (celN xs Ln (72 + k) >>> ((8 : Int32) &&& 31) &&& (7 : Int32)) - 4 else 1 + (celN xs Ln (72 + k) >>> ((8 : Int32) &&& 31) &&& (1 : Int32)) + (celN xs Ln (72 + k) >>> ((9 : Int32) &&& 31) &&& (1 : Int32))
def bV (xs : Nat → Int32) (Ln k : Nat) : Int32 := if kN xs Ln k = 3 then (celN xs Ln (72 + k) >>> ((11 : Int32) &&& 31) &&& (7 : Int32)) - 3 else 1 + (celN xs Ln (72 + k) >>> ((11 : Int32) &&& 31) &&& (1 : Int32)) + (celN xs Ln (72 + k) >>> ((12 : Int32) &&& 31) &&& (1 : Int32))
theorem one_two (x y : Int32) : ∃ j : Nat, 1 ≤ j ∧ j ≤ 3 ∧ 1 + (x &&& 1) + (y &&& 1) = nI j := by
  rcases and1 x with h | h <;> rcases and1 y with g | g <;> rw [h, g]
  · exact ⟨1, by omega, by omega, rfl⟩
  · exact ⟨2, by omega, by omega, rfl⟩
  · exact ⟨2, by omega, by omega, rfl⟩
  · exact ⟨3, by omega, by omega, rfl⟩
theorem aV_r {k : Nat} (h : ¬ kN xs Ln k = 3) : ∃ j : Nat, 1 ≤ j ∧ j ≤ 3 ∧ aV xs Ln k = nI j := by
  unfold aV
  rw [if_neg h]
  exact one_two _ _
theorem bV_r {k : Nat} (h : ¬ kN xs Ln k = 3) : ∃ j : Nat, 1 ≤ j ∧ j ≤ 3 ∧ bV xs Ln k = nI j := by
  unfold bV
  rw [if_neg h]
  exact one_two _ _
theorem a_ok (hL : Ln < 100000) (hT1 : 1 ≤ T) (hT : T ≤ 14) (h0 : mgT xs Ln T = 0) (h1 : ∀ j, j < T → 1 ≤ mgT xs Ln j) {k : Nat} (hk : k < T) : fL_a xs Ln (nI k) = some (aV xs Ln k) := by
  have h7 := kN_lt xs Ln k
  rw [fL_a, kind_ok hL hT1 hT h0 h1 hk, cal1_e, jp_e]
  unfold aV
  by_cases h3 : kN xs Ln k = 3
  · rw [if_pos (by rw [h3]; rfl), if_pos h3, show (72 : Int32) + nI k = nI (72 + k) from n_add 72 k, bnd_e, cell_ok hL (by omega), cal1_e]
    simp only [bnd_e]
  · rw [if_neg (by rw [l3, n_eq (by omega) (by omega)]; exact h3), if_neg h3, show (72 : Int32) + nI k = nI (72 + k) from n_add 72 k, bnd_e, cell_ok hL (by omega), cal1_e]
    simp only [bnd_e]
    rw [cell_ok hL (by omega), cal1_e]
theorem b_ok (hL : Ln < 100000) (hT1 : 1 ≤ T) (hT : T ≤ 14) (h0 : mgT xs Ln T = 0) (h1 : ∀ j, j < T → 1 ≤ mgT xs Ln j) {k : Nat} (hk : k < T) : fL_b xs Ln (nI k) = some (bV xs Ln k) := by
  have h7 := kN_lt xs Ln k
  rw [fL_b, kind_ok hL hT1 hT h0 h1 hk, cal1_e, jp_e]
  unfold bV
  by_cases h3 : kN xs Ln k = 3
  · rw [if_pos (by rw [h3]; rfl), if_pos h3, show (72 : Int32) + nI k = nI (72 + k) from n_add 72 k, bnd_e, cell_ok hL (by omega), cal1_e]
    simp only [bnd_e]
  · rw [if_neg (by rw [l3, n_eq (by omega) (by omega)]; exact h3), if_neg h3, show (72 : Int32) + nI k = nI (72 + k) from n_add 72 k, bnd_e, cell_ok hL (by omega), cal1_e]
    simp only [bnd_e]
    rw [cell_ok hL (by omega), cal1_e]
end TOK
/-! words of a source -/
theorem wd_nat (i : Nat) (x : Int64) (hi : i < 8) : qz_wd i x = nI (x.toBitVec.toNat / 2 ^ (32 + 4 * i) % 2 ^ 4) := by
  unfold qz_wd
  rw [wb_cu _ (by omega)]
  apply Int32.toBitVec_inj.mp
  apply BitVec.eq_of_getLsbD_eq
  intro j hj
  have h15 : (15 : Int32).toBitVec = BitVec.ofNat 32 15 := rfl
  have e3 : ((x.toUInt64 >>> UInt64.ofNat (32 + 4 * i)).toInt64).toBitVec.getLsbD j = x.toBitVec.getLsbD (32 + 4 * i + j) := by
    show (x.toUInt64 >>> UInt64.ofNat (32 + 4 * i)).toBitVec.getLsbD j = _
    rw [UInt64.toBitVec_shiftRight]
    have e4 : ((UInt64.ofNat (32 + 4 * i)).toBitVec % 64).toNat = 32 + 4 * i := by
      simp [UInt64.toBitVec_ofNat']
      omega
    rw [BitVec.ushiftRight_eq', e4, BitVec.getLsbD_ushiftRight]
    rfl
  have s1 : ∀ w : BitVec 64, (BitVec.signExtend 32 w).getLsbD j = w.getLsbD j := by
    intro w
    rw [BitVec.getLsbD_signExtend, decide_eq_true hj, Bool.true_and, if_pos (by omega)]
  have er : (nI (x.toBitVec.toNat / 2 ^ (32 + 4 * i) % 2 ^ 4)).toBitVec.getLsbD j = (decide (j < 4) && x.toBitVec.getLsbD (32 + 4 * i + j)) := by
    show (BitVec.ofNat 32 _).getLsbD j = _
    rw [BitVec.getLsbD_ofNat, decide_eq_true hj, Bool.true_and, Nat.testBit_mod_two_pow, Nat.testBit_div_two_pow, Nat.add_comm j]
    rfl
  rw [er]
  simp only [Int32.toBitVec_and, Int64.toBitVec_toInt32, BitVec.getLsbD_and, BitVec.getLsbD_setWidth, h15]
  rw [s1, e3]
  by_cases h8 : j < 4
  · have s2 : (BitVec.ofNat 32 15).getLsbD j = true := by
      rw [BitVec.getLsbD_ofNat]
      show (decide (j < 32) && Nat.testBit (2 ^ 4 - 1) j) = true
      rw [Nat.testBit_two_pow_sub_one, decide_eq_true hj, decide_eq_true h8]
      rfl
    rw [s2, Bool.and_true, decide_eq_true h8, Bool.true_and]
  · have s2 : (BitVec.ofNat 32 15).getLsbD j = false := by
      rw [BitVec.getLsbD_ofNat]
      show (decide (j < 32) && Nat.testBit (2 ^ 4 - 1) j) = false
      rw [Nat.testBit_two_pow_sub_one, decide_eq_false h8, Bool.and_false]
    rw [s2, Bool.and_false, decide_eq_false h8, Bool.false_and]
theorem text_nat (x : Int64) : (Int64.toInt32 (x >>> (Int32.toInt64 32 &&& 63))).toBitVec.toNat = x.toBitVec.toNat / 2 ^ 32 := by
  have hx := x.toBitVec.isLt
  have e : (Int64.toInt32 (x >>> (Int32.toInt64 32 &&& 63))).toBitVec = BitVec.ofNat 32 (x.toBitVec.toNat / 2 ^ 32) := by
    apply BitVec.eq_of_getLsbD_eq
    intro j hj
    have s1 : ∀ w : BitVec 64, (BitVec.signExtend 32 w).getLsbD j = w.getLsbD j := by
      intro w
      rw [BitVec.getLsbD_signExtend, decide_eq_true hj, Bool.true_and, if_pos (by omega)]
    have e1 : ((Int32.toInt64 32 &&& 63).toBitVec.smod 64).toNat = 32 := by decide
    rw [BitVec.getLsbD_ofNat, decide_eq_true hj, Bool.true_and, Nat.testBit_div_two_pow, Nat.add_comm j]
    simp only [Int64.toBitVec_toInt32]
    rw [s1, Int64.toBitVec_shiftRight, BitVec.sshiftRight_eq', e1, BitVec.getLsbD_sshiftRight, if_pos (by omega), decide_eq_false (by omega), Bool.not_false, Bool.true_and]
    rfl
  rw [e, BitVec.toNat_ofNat, Nat.mod_eq_of_lt]
  omega
theorem often_loop (x : Int64) {a b : Int32} (hb : b = 0 ∨ ¬ b = 0) (J58 : Int32 → Option Int32) : ∀ (m i : Nat), i + m = 8 → ∀ (f : Nat), m < f → ∀ (acc : Nat) (y : Int32), y.toBitVec.toNat = x.toBitVec.toNat / 2 ^ 32 / 2 ^ (4 * i) →
    lo2 (sL_often_14 J58 a b) f (nI acc) y = J58 (nI (acc + if b = 0 then qz_cw x a m i else qz_cp x a b (m - 1) i)) := by
  have hx := x.toBitVec.isLt
  intro m
  induction m with
  | zero =>
    intro i hi f hf acc y hy
    obtain ⟨f, rfl⟩ : ∃ z, f = z + 1 := ⟨f - 1, by omega⟩
    obtain rfl : i = 8 := by omega
    have hy0 : y &&& 15 = 0 := by
      rw [pk_and y (m := 15) 4 rfl, hy, show x.toBitVec.toNat / 2 ^ 32 / 2 ^ (4 * 8) = 0 from by rw [Nat.div_div_eq_div_mul]; exact Nat.div_eq_of_lt (by omega)]
      rfl
    rw [lo2_s, sL_often_14, hy0, bnd_e, if_pos rfl]
    have : (if b = 0 then qz_cw x a 0 8 else qz_cp x a b (0 - 1) 8) = 0 := by split <;> rfl
    rw [this]
    rfl
  | succ m ih =>
    intro i hi f hf acc y hy
    obtain ⟨f, rfl⟩ : ∃ z, f = z + 1 := ⟨f - 1, by omega⟩
    have hw : y &&& 15 = qz_wd i x := by
      rw [pk_and y (m := 15) 4 rfl, hy, wd_nat i x (by omega), Nat.div_div_eq_div_mul, ← Nat.pow_add]
    have hsh : ((Int32.toUInt32 y >>> (Int32.toUInt32 4 &&& Int32.toUInt32 31)).toInt32).toBitVec.toNat = x.toBitVec.toNat / 2 ^ 32 / 2 ^ (4 * (i + 1)) := by
      rw [pk_ushr y 4 4 rfl, hy, Nat.div_div_eq_div_mul _ (2 ^ (4 * i)), ← Nat.pow_add, show 4 * i + 4 = 4 * (i + 1) by omega]
    have hw2 : i < 7 → ((Int32.toUInt32 y >>> (Int32.toUInt32 4 &&& Int32.toUInt32 31)).toInt32) &&& 15 = qz_wd (i + 1) x := by
      intro h7
      rw [pk_and _ (m := 15) 4 rfl, hsh, wd_nat (i + 1) x (by omega), Nat.div_div_eq_div_mul, ← Nat.pow_add]
    have hw3 : i = 7 → ((Int32.toUInt32 y >>> (Int32.toUInt32 4 &&& Int32.toUInt32 31)).toInt32) &&& 15 = 0 := by
      intro h7
      subst h7
      rw [pk_and _ (m := 15) 4 rfl, hsh, show x.toBitVec.toNat / 2 ^ 32 / 2 ^ (4 * (7 + 1)) = 0 from by rw [Nat.div_div_eq_div_mul]; exact Nat.div_eq_of_lt (by omega)]
      rfl
    have hih := fun acc => ih (i + 1) (by omega) f (by omega) acc _ hsh
    rw [lo2_s, sL_often_14, hw, bnd_e]
    by_cases h0 : qz_wd i x = 0
    · rw [if_pos h0]
      have : (if b = 0 then qz_cw x a (m + 1) i else qz_cp x a b (m + 1 - 1) i) = 0 := by
        split
        · rw [qz_cw, if_pos h0]
        · rw [Nat.add_sub_cancel]
          cases m with
          | zero => rfl
          | succ m => rw [qz_cp, if_pos h0]
      rw [this]
      rfl
    · rw [if_neg h0, bnd_e, jp_e]
      by_cases ha : qz_wd i x = a
      · rw [if_pos ha, jp_e]
        try dsimp only
        by_cases hb0 : b = 0
        · rw [if_pos hb0, bnd_e]
          try dsimp only
          rw [bnd_e, nI_1, hih (acc + 1), if_pos hb0, if_pos hb0, qz_cw, if_neg h0, if_pos ha]
          congr 2; omega
        · rw [if_neg hb0, bnd_e, bnd_e]
          by_cases h7 : i = 7
          · subst h7
            obtain rfl : m = 0 := by omega
            rw [hw3 rfl, if_neg (fun h => hb0 h.symm)]
            try dsimp only
            rw [bnd_e, hih acc, if_neg hb0, if_neg hb0]
            rfl
          · rw [hw2 (by omega)]
            obtain ⟨m', rfl⟩ : ∃ z, m = z + 1 := ⟨m - 1, by omega⟩
            by_cases hb2 : qz_wd (i + 1) x = b
            · rw [if_pos hb2, bnd_e]
              try dsimp only
              rw [bnd_e, nI_1, hih (acc + 1), if_neg hb0, if_neg hb0, Nat.add_sub_cancel, Nat.add_sub_cancel, qz_cp, if_neg h0, if_pos ⟨ha, hb2⟩]
              congr 2; omega
            · rw [if_neg hb2]
              try dsimp only
              rw [bnd_e, hih acc, if_neg hb0, if_neg hb0, Nat.add_sub_cancel, Nat.add_sub_cancel, qz_cp, if_neg h0, if_neg (fun h => hb2 h.2), Nat.zero_add]
      · rw [if_neg ha]
        try dsimp only
        rw [bnd_e, hih acc]
        by_cases hb0 : b = 0
        · rw [if_pos hb0, if_pos hb0, qz_cw, if_neg h0, if_neg ha, Nat.zero_add]
        · rw [if_neg hb0, if_neg hb0, Nat.add_sub_cancel]
          cases m with
          | zero => rfl
          | succ m' => rw [Nat.add_sub_cancel, qz_cp, if_neg h0, if_neg (fun h => ha h.1), Nat.zero_add]
theorem often_ok (x : Int64) (a b : Int32) : fL_often x a b = some (nI (if b = 0 then qz_cw x a 8 0 else qz_cp x a b 7 0)) := by
  rw [fL_often, bnd_e, bnd_e, jp_e]
  have h := often_loop x (a := a) (b := b) (Decidable.em _) (fun y3 => some y3) 8 0 rfl 1000 (by omega) 0 _ (by rw [text_nat, Nat.mul_zero, Nat.pow_zero, Nat.div_one])
  rw [Nat.zero_add] at h
  exact h
def lfN (xs : Nat → Int32) (Ln k : Nat) (x : Int64) : Nat := qz_lf (nI (kN xs Ln k)) (aV xs Ln k) (bV xs Ln k) x
theorem value_ok {xs : Nat → Int32} {Ln T : Nat} (hL : Ln < 100000) (hT1 : 1 ≤ T) (hT : T ≤ 14) (h0 : mgT xs Ln T = 0) (h1 : ∀ j, j < T → 1 ≤ mgT xs Ln j) {k : Nat} (hk : k < T) (h4 : kN xs Ln k < 4) (x : Int64) : fL_value xs Ln (nI k) x = some (nI (lfN xs Ln k x)) := by
  have ha := a_ok hL hT1 hT h0 h1 hk
  have hb := b_ok hL hT1 hT h0 h1 hk
  rw [fL_value, kind_ok hL hT1 hT h0 h1 hk, cal1_e]
  unfold lfN qz_lf
  rcases (show kN xs Ln k = 0 ∨ kN xs Ln k = 1 ∨ kN xs Ln k = 2 ∨ kN xs Ln k = 3 by omega) with e | e | e | e
  · rw [e, if_neg (show ¬ nI 0 = 1 by decide), if_neg (show ¬ nI 0 = 2 by decide), jp_e, jp_e, if_pos (show nI 0 = 0 from rfl), if_pos (show nI 0 = 0 from rfl)]
    rfl
  · rw [e, if_pos (show nI 1 = 1 from rfl), ha, cal1_e, often_ok, cal1_e, if_pos rfl, if_neg (show ¬ nI 1 = 0 by decide), if_pos (show nI 1 = 1 from rfl)]
  · have hb0 : ¬ bV xs Ln k = 0 := by
      obtain ⟨j, j1, j2, ej⟩ := bV_r (xs := xs) (Ln := Ln) (k := k) (by omega)
      rw [ej, l0, n_eq (by omega) (by omega)]
      omega
    rw [e, if_neg (show ¬ nI 2 = 1 by decide), if_pos (show nI 2 = 2 from rfl), ha, cal1_e, hb, cal1_e, often_ok, cal1_e, if_neg hb0, bnd_e, l2, n_mul, if_neg (show ¬ nI 2 = 0 by decide), if_neg (show ¬ nI 2 = 1 by decide), if_pos (show nI 2 = nI 2 from rfl)]
  · rw [e, if_neg (show ¬ nI 3 = 1 by decide), if_neg (show ¬ nI 3 = 2 by decide), jp_e, jp_e, if_neg (show ¬ nI 3 = 0 by decide), bnd_e, ha, cal1_e, jp_e, if_neg (show ¬ nI 3 = 0 by decide), if_neg (show ¬ nI 3 = 1 by decide), if_neg (show ¬ nI 3 = 2 by decide), if_pos (show nI 3 = 3 from rfl)]
    by_cases c1 : Int64.toInt32 x < aV xs Ln k
    · rw [if_pos c1, if_neg (fun h => absurd h.1 (by grind))]; rfl
    · rw [if_neg c1, bnd_e, hb, cal1_e]
      by_cases c2 : bV xs Ln k < Int64.toInt32 x
      · rw [if_pos c2, if_neg (fun h => absurd h.2 (by grind))]; rfl
      · rw [if_neg c2, if_pos ⟨by grind, by grind⟩]; rfl
