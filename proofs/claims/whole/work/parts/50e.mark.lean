/-! which SEQ are processed: a long's bits against an array -/
def jb (a : Int64) (i : Nat) : Bool := a.toBitVec.getLsbD i
def RM (a : Int64) (d : Nat → Int32) : Prop := (∀ i, i < 64 → d i = if jb a i = true then 1 else 0) ∧ d 64 = 0
theorem jb_big {a : Int64} {i : Nat} (h : 64 ≤ i) : jb a i = false := BitVec.getLsbD_of_ge _ _ h
theorem jb_shr (a : Int64) (i : Nat) : jb ((Int64.toUInt64 a >>> ((Int32.toInt64 1).toUInt64 &&& Int64.toUInt64 63)).toInt64) i = jb a (i + 1) := by
  show (a.toUInt64 >>> ((Int32.toInt64 1).toUInt64 &&& Int64.toUInt64 63)).toBitVec.getLsbD i = _
  rw [show ((Int32.toInt64 1).toUInt64 &&& Int64.toUInt64 63) = UInt64.ofNat 1 from rfl, UInt64.toBitVec_shiftRight]
  have e4 : ((UInt64.ofNat 1).toBitVec % 64).toNat = 1 := rfl
  rw [BitVec.ushiftRight_eq', e4, BitVec.getLsbD_ushiftRight, Nat.add_comm]
  rfl
theorem jb_or (a : Int64) {z : Nat} (hz : z < 64) (i : Nat) : jb (a ||| ((1 : Int64) <<< ((nI z).toInt64 &&& 63))) i = (jb a i || decide (i = z)) := by
  rw [show (1 : Int64) = lN 1 from rfl, wb_shl 1 hz, Nat.one_mul]
  show (a ||| lN (2 ^ z)).toBitVec.getLsbD i = _
  rw [Int64.toBitVec_or, BitVec.getLsbD_or, wb_tb, BitVec.getLsbD_ofNat, Nat.testBit_two_pow]
  show (jb a i || (decide (i < 64) && decide (z = i))) = _
  congr 1
  by_cases h : i = z
  · subst h; simp [hz]
  · rw [decide_eq_false (show ¬ z = i from fun e => h e.symm), decide_eq_false h, Bool.and_false]
theorem jb_and1 (a : Int64) : lg_cmp (a &&& 1) 0 = 0 ↔ jb a 0 = false := by
  have h1 : a &&& 1 = 0 ↔ jb a 0 = false := by
    rw [← Int64.toBitVec_inj, Int64.toBitVec_and]
    show a.toBitVec &&& 1#64 = 0#64 ↔ a.toBitVec.getLsbD 0 = false
    rw [BitVec.and_one_eq_setWidth_ofBool_getLsbD]
    cases a.toBitVec.getLsbD 0 <;> decide
  rw [← h1]
  unfold lg_cmp
  by_cases h : a &&& 1 = 0
  · rw [h]; decide
  · split
    · exact ⟨fun e => absurd e (by decide), fun e => absurd e h⟩
    · exact ⟨fun e => absurd e (by decide), fun e => absurd e h⟩
theorem jb_andz (a : Int64) {z : Nat} (hz : z < 64) : lg_cmp ((Int64.toUInt64 a >>> ((nI z).toInt64.toUInt64 &&& Int64.toUInt64 63)).toInt64 &&& 1) 0 = 0 ↔ jb a z = false := by
  rw [jb_and1]
  have : jb ((Int64.toUInt64 a >>> ((nI z).toInt64.toUInt64 &&& Int64.toUInt64 63)).toInt64) 0 = jb a z := by
    show (a.toUInt64 >>> ((nI z).toInt64.toUInt64 &&& Int64.toUInt64 63)).toBitVec.getLsbD 0 = _
    rw [wb_cu _ hz, UInt64.toBitVec_shiftRight]
    have e4 : ((UInt64.ofNat z).toBitVec % 64).toNat = z := by
      simp [UInt64.toBitVec_ofNat']
      omega
    rw [BitVec.ushiftRight_eq', e4, BitVec.getLsbD_ushiftRight]
    rfl
  rw [this]
def shd (d : Nat → Int32) (i : Nat) : Nat → Int32 := fun j => if i ≤ j ∧ j < 64 then d (j + 1) else d j
theorem shd_loop (J : (Nat → Int32) → Option ((Int32) × (Nat → Int32) × (Nat → Int32) × (Nat → Int32) × (Nat → Int64) × (Nat → Int32) × (Int32) × (Int32))) :
    ∀ (m i : Nat), i + m = 64 → ∀ (n : Nat), m < n → ∀ (y : Int32), y = nI i → ∀ (d : Nat → Int32), (∀ j, j ≤ 64 → d j = 0 ∨ d j = 1) → lo2 (sX6_process_36 J) n y d = J (shd d i) := by
  intro m
  induction m with
  | zero =>
    intro i hi n hn y hy d hd
    subst hy
    obtain ⟨n, rfl⟩ : ∃ z, n = z + 1 := ⟨n - 1, by omega⟩
    obtain rfl : i = 64 := by omega
    rw [lo2_s, sX6_process_36, if_pos (by rw [l64, n_le (by omega) (by omega)]; omega)]
    congr 1
    funext j
    unfold shd
    rw [if_neg (by omega)]
  | succ m ih =>
    intro i hi n hn y hy d hd
    subst hy
    obtain ⟨n, rfl⟩ : ∃ z, n = z + 1 := ⟨n - 1, by omega⟩
    rw [lo2_s, sX6_process_36, if_neg (by rw [l64, n_le (by omega) (by omega)]; omega)]
    simp only [bnd_e]
    rw [nI_1, rdI_n (by omega) (by omega), wrZ_n (by omega) (by omega) (hd (i + 1) (by omega))]
    rw [ih (i + 1) (by omega) n (by omega) _ rfl _ (fun j hj => by
      unfold upd
      by_cases h : j = i
      · rw [if_pos h]; exact hd (i + 1) (by omega)
      · rw [if_neg h]; exact hd j hj)]
    congr 1
    funext j
    unfold shd upd
    by_cases h : j = i
    · subst h; rw [if_neg (by omega), if_pos rfl, if_pos (by omega)]
    · by_cases h2 : i + 1 ≤ j ∧ j < 64
      · rw [if_pos h2, if_neg (by omega), if_pos (by omega)]
      · rw [if_neg h2, if_neg h, if_neg (by omega)]
theorem RM_01 {a : Int64} {d : Nat → Int32} (h : RM a d) : ∀ j, j ≤ 64 → d j = 0 ∨ d j = 1 := by
  intro j hj
  by_cases h1 : j < 64
  · rw [h.1 j h1]; split
    · exact Or.inr rfl
    · exact Or.inl rfl
  · rw [show j = 64 by omega]; exact Or.inl h.2
theorem RM_shift {a : Int64} {d : Nat → Int32} (h : RM a d) : RM ((Int64.toUInt64 a >>> ((Int32.toInt64 1).toUInt64 &&& Int64.toUInt64 63)).toInt64) (upd (shd d 0) 64 0) := by
  refine ⟨fun i hi => ?_, upd_s _ _ _⟩
  rw [upd_o _ _ (by omega), jb_shr]
  unfold shd
  rw [if_pos (by omega)]
  by_cases h1 : i + 1 < 64
  · exact h.1 (i + 1) h1
  · rw [show i + 1 = 64 by omega, h.2, jb_big (by omega)]; rfl
theorem RM_set {a : Int64} {d : Nat → Int32} (h : RM a d) {z : Nat} (hz : z < 64) : RM (a ||| ((1 : Int64) <<< ((nI z).toInt64 &&& 63))) (upd d z 1) := by
  refine ⟨fun i hi => ?_, by rw [upd_o _ _ (by omega)]; exact h.2⟩
  rw [jb_or a hz]
  by_cases h1 : i = z
  · subst h1; rw [upd_s]; simp
  · rw [upd_o _ _ h1, h.1 i hi, decide_eq_false h1, Bool.or_false]
/-- SEQ q is processed -/
def pr (c : Nat) (a : Int64) (q : Nat) : Prop := q < c ∨ jb a (q - c) = true
theorem pr_shift {c : Nat} {a : Int64} (h : jb a 0 = true) (q : Nat) : pr (c + 1) ((Int64.toUInt64 a >>> ((Int32.toInt64 1).toUInt64 &&& Int64.toUInt64 63)).toInt64) q ↔ pr c a q := by
  unfold pr
  rw [jb_shr]
  by_cases h1 : q < c
  · exact ⟨fun _ => Or.inl h1, fun _ => Or.inl (by omega)⟩
  · by_cases h2 : q = c
    · subst h2; rw [Nat.sub_self]; exact ⟨fun _ => Or.inr h, fun _ => Or.inl (by omega)⟩
    · rw [show q - (c + 1) + 1 = q - c by omega]
      constructor
      · rintro (e | e)
        · omega
        · exact Or.inr e
      · rintro (e | e)
        · omega
        · exact Or.inr e
theorem pr_set {c z : Nat} (a : Int64) (hz : z < 64) (q : Nat) : pr c (a ||| ((1 : Int64) <<< ((nI z).toInt64 &&& 63))) q ↔ (pr c a q ∨ q = c + z) := by
  unfold pr
  rw [jb_or a hz, Bool.or_eq_true, decide_eq_true_eq]
  constructor
  · rintro (e | e | e)
    · exact Or.inl (Or.inl e)
    · exact Or.inl (Or.inr e)
    · by_cases h : q < c
      · exact Or.inl (Or.inl h)
      · exact Or.inr (by omega)
  · rintro ((e | e) | e)
    · exact Or.inl e
    · exact Or.inr (Or.inl e)
    · exact Or.inr (Or.inr (by omega))
theorem mark_both {mx : Nat} (hmx : mx < 1000000000) : ∀ (m i : Nat), i + m = 64 → ∀ (c : Nat) (a : Int64) (d : Nat → Int32), RM a d → (∀ b, m ≤ b → jb a b = false) → (∀ b, jb a b = true → c + b < mx) → c ≤ mx →
    ∃ (k : Nat) (a' : Int64) (d' : Nat → Int32), k ≤ m ∧ RM a' d' ∧ (∀ b, jb a' b = true → c + k + b < mx) ∧ c + k ≤ mx ∧
      (∀ (J : (Int32) → (Int64) → Option ((Int32) × (Int32) × (Int64))) (n : Nat) (y : Int32), m < n → y = nI i → lo3 (sX1_mark_33 J) n y (mI c) a = J (mI (c + k)) a') ∧
      (∀ (J : (Nat → Int32) → (Int32) → Option ((Int32) × (Nat → Int32) × (Nat → Int32) × (Nat → Int32) × (Nat → Int64) × (Nat → Int32) × (Int32) × (Int32))) (n : Nat), m < n → lo2 (sX6_process_14 J) n d (mI c) = J d' (mI (c + k))) ∧ (∀ q, pr (c + k) a' q ↔ pr c a q) := by
  intro m
  induction m with
  | zero =>
    intro i hi c a d hR hz hb hc
    refine ⟨0, a, d, Nat.le_refl _, hR, fun b h => by rw [Nat.add_zero]; exact hb b h, hc, fun J n y hn hy => ?_, fun J n hn => ?_, fun q => by rw [Nat.add_zero]⟩
    · subst hy
      obtain ⟨n, rfl⟩ : ∃ z, n = z + 1 := ⟨n - 1, by omega⟩
      rw [lo3_s, sX1_mark_33, if_pos (by rw [l64, n_le (by omega) (by omega)]; omega)]
      rfl
    · obtain ⟨n, rfl⟩ : ∃ z, n = z + 1 := ⟨n - 1, by omega⟩
      rw [lo2_s, sX6_process_14, show rdI d 65 0 = rdI d 65 (nI 0) from rfl, rdI_n (by omega) (by omega), hR.1 0 (by omega), hz 0 (by omega), if_neg (show ¬ false = true by decide), if_pos rfl]
      rfl
  | succ m ih =>
    intro i hi c a d hR hz hb hc
    by_cases h0 : jb a 0 = true
    · have hb0 := hb 0 h0
      obtain ⟨k, a', d', h1, h2, h3, h4, h5, h6, h7⟩ := ih (i + 1) (by omega) (c + 1) _ _ (RM_shift hR) (fun b hb => by rw [jb_shr]; exact hz (b + 1) (by omega)) (fun b h => by rw [jb_shr] at h; have := hb _ h; omega) (by omega)
      refine ⟨k + 1, a', d', by omega, h2, fun b h => by have := h3 b h; omega, by omega, fun J n y hn hy => ?_, fun J n hn => ?_, fun q => by rw [show c + (k + 1) = c + 1 + k by omega, h7 q, pr_shift h0]⟩
      · subst hy
        obtain ⟨n, rfl⟩ : ∃ z, n = z + 1 := ⟨n - 1, by omega⟩
        have h5 := h5 J n (nI (i + 1)) (by omega) rfl
        rw [lo3_s, sX1_mark_33, if_neg (by rw [l64, n_le (by omega) (by omega)]; omega)]
        simp only [bnd_e]
        rw [if_neg (fun e => by rw [(jb_and1 a).mp e] at h0; cases h0), nI_1, m_succ, ← m_of c, h5, show c + 1 + k = c + (k + 1) by omega]
      · obtain ⟨n, rfl⟩ : ∃ z, n = z + 1 := ⟨n - 1, by omega⟩
        have h6 := h6 J n (by omega)
        rw [lo2_s, sX6_process_14, show rdI d 65 0 = rdI d 65 (nI 0) from rfl, rdI_n (by omega) (by omega), hR.1 0 (by omega), if_pos h0, if_neg (by decide)]
        simp only [bnd_e, jp_e]
        rw [shd_loop _ 64 0 rfl 1000 (by omega) 0 rfl d (RM_01 hR), show wrZ (shd d 0) 65 64 0 = wrZ (shd d 0) 65 (nI 64) 0 from rfl, wrZ_n (by omega) (by omega) (Or.inl rfl), m_succ, ← m_of c, h6, show c + 1 + k = c + (k + 1) by omega]
    · have h0f : jb a 0 = false := by cases h : jb a 0 with | true => exact absurd h h0 | false => rfl
      refine ⟨0, a, d, Nat.zero_le _, hR, fun b h => by rw [Nat.add_zero]; exact hb b h, hc, fun J n y hn hy => ?_, fun J n hn => ?_, fun q => by rw [Nat.add_zero]⟩
      · subst hy
        obtain ⟨n, rfl⟩ : ∃ z, n = z + 1 := ⟨n - 1, by omega⟩
        rw [lo3_s, sX1_mark_33, if_neg (by rw [l64, n_le (by omega) (by omega)]; omega)]
        simp only [bnd_e]
        rw [if_pos ((jb_and1 a).mpr h0f)]
        rfl
      · obtain ⟨n, rfl⟩ : ∃ z, n = z + 1 := ⟨n - 1, by omega⟩
        rw [lo2_s, sX6_process_14, show rdI d 65 0 = rdI d 65 (nI 0) from rfl, rdI_n (by omega) (by omega), hR.1 0 (by omega), if_neg h0, if_pos rfl]
        rfl
