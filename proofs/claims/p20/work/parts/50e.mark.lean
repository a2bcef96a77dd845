/-! which SEQ are processed: a long's bits against an array -/
def jb (a : Int64) (i : Nat) : Bool := a.toBitVec.getLsbD i
def RM (a : Int64) (d : Nat → Int32) : Prop := (∀ i, i < 64 → d i = if jb a i = true then 1 else 0) ∧ d 64 = 0
theorem jb_big {a : Int64} {i : Nat} (h : 64 ≤ i) : jb a i = false := BitVec.getLsbD_of_ge _ _ h
theorem jb_shr (a : Int64) (i : Nat) : jb ((Int64.toUInt64 a >>> ((Int32.toInt64 1).toUInt64 &&& Int64.toUInt64 63)).toInt64) i = jb a (i + 1) := by
  show (a.toUInt64 >>> ((Int32.toInt64 1).toUInt64 &&& Int64.toUInt64 63)).toBitVec.getLsbD i = _
  rw [show ((Int32.toInt64 1).toUInt64 &&& Int64.toUInt64 63) = UInt64.ofNat 1 from rfl, UInt64.toBitVec_shiftRight]
  have e4 : ((UInt64.ofNat 1).toBitVec % 64).toNat = 1 := rfl
  rw [BitVec.ushiftRight_eq', e4, BitVec.getLsbD_ushiftRight, Nat.add_comm]
  rfl
theorem jb_or (a : Int64) {z : Nat} (hz : z < 64) (i : Nat) : jb (a ||| ((1 : Int64) <<< ((nI z).toInt64 &&& 63))) i = (jb a i || decide (i = z)) := by
  rw [show (1 : Int64) = lN 1 from rfl, wb_shl 1 hz, Nat.one_mul]
  show (a ||| lN (2 ^ z)).toBitVec.getLsbD i = _
  rw [Int64.toBitVec_or, BitVec.getLsbD_or, wb_tb, BitVec.getLsbD_ofNat, Nat.testBit_two_pow]
  show (jb a i || (decide (i < 64) && decide (z = i))) = _
  congr 1
  by_cases h : i = z
  · subst h; simp [hz]
  · rw [decide_eq_false (show ¬ z = i from fun e => h e.symm), decide_eq_false h, Bool.and_false]
theorem jb_and1 (a : Int64) : lg_cmp (a &&& 1) 0 = 0 ↔ jb a 0 = false := by
  have h1 : a &&& 1 = 0 ↔ jb a 0 = false := by
    rw [← Int64.toBitVec_inj, Int64.toBitVec_and]
    show a.toBitVec &&& 1#64 = 0#64 ↔ a.toBitVec.getLsbD 0 = false
    rw [BitVec.and_one_eq_setWidth_ofBool_getLsbD]
    cases a.toBitVec.getLsbD 0 <;> decide
  rw [← h1]
  unfold lg_cmp
  by_cases h : a &&& 1 = 0
  · rw [h]; decide
  · split
    · exact ⟨fun e => absurd e (by decide), fun e => absurd e h⟩
    · exact ⟨fun e => absurd e (by decide), fun e => absurd e h⟩
theorem jb_andz (a : Int64) {z : Nat} (hz : z < 64) : lg_cmp ((Int64.toUInt64 a >>> ((nI z).toInt64.toUInt64 &&& Int64.toUInt64 63)).toInt64 &&& 1) 0 = 0 ↔ jb a z = false := by
  rw [jb_and1]
  have : jb ((Int64.toUInt64 a >>> ((nI z).toInt64.toUInt64 &&& Int64.toUInt64 63)).toInt64) 0 = jb a z := by
    show (a.toUInt64 >>> ((nI z).toInt64.toUInt64 &&& Int64.toUInt64 63)).toBitVec.getLsbD 0 = _
    rw [wb_cu _ hz, UInt64.toBitVec_shiftRight]
    have e4 : ((UInt64.ofNat z).toBitVec % 64).toNat = z := by
      simp [UInt64.toBitVec_ofNat']
      omega
    rw [BitVec.ushiftRight_eq', e4, BitVec.getLsbD_ushiftRight]
    rfl
  rw [this]
def shd (d : Nat → Int32) (i : Nat) : Nat → Int32 := fun j => if i ≤ j ∧ j < 64 then d (j + 1) else d j
theorem RM_01 {a : Int64} {d : Nat → Int32} (h : RM a d) : ∀ j, j ≤ 64 → d j = 0 ∨ d j = 1 := by
  intro j hj
  by_cases h1 : j < 64
  · rw [h.1 j h1]; split
    · exact Or.inr rfl
    · exact Or.inl rfl
  · rw [show j = 64 by omega]; exact Or.inl h.2
theorem RM_shift {a : Int64} {d : Nat → Int32} (h : RM a d) : RM ((Int64.toUInt64 a >>> ((Int32.toInt64 1).toUInt64 &&& Int64.toUInt64 63)).toInt64) (upd (shd d 0) 64 0) := by
  refine ⟨fun i hi => ?_, upd_s _ _ _⟩
  rw [upd_o _ _ (by omega), jb_shr]
  unfold shd
  rw [if_pos (by omega)]
  by_cases h1 : i + 1 < 64
  · exact h.1 (i + 1) h1
  · rw [show i + 1 = 64 by omega, h.2, jb_big (by omega)]; rfl
theorem RM_set {a : Int64} {d : Nat → Int32} (h : RM a d) {z : Nat} (hz : z < 64) : RM (a ||| ((1 : Int64) <<< ((nI z).toInt64 &&& 63))) (upd d z 1) := by
  refine ⟨fun i hi => ?_, by rw [upd_o _ _ (by omega)]; exact h.2⟩
  rw [jb_or a hz]
  by_cases h1 : i = z
  · subst h1; rw [upd_s]; simp
  · rw [upd_o _ _ h1, h.1 i hi, decide_eq_false h1, Bool.or_false]
/-- SEQ q is processed -/
def pr (c : Nat) (a : Int64) (q : Nat) : Prop := q < c ∨ jb a (q - c) = true
theorem pr_shift {c : Nat} {a : Int64} (h : jb a 0 = true) (q : Nat) : pr (c + 1) ((Int64.toUInt64 a >>> ((Int32.toInt64 1).toUInt64 &&& Int64.toUInt64 63)).toInt64) q ↔ pr c a q := by
  unfold pr
  rw [jb_shr]
  by_cases h1 : q < c
  · exact ⟨fun _ => Or.inl h1, fun _ => Or.inl (by omega)⟩
  · by_cases h2 : q = c
    · subst h2; rw [Nat.sub_self]; exact ⟨fun _ => Or.inr h, fun _ => Or.inl (by omega)⟩
    · rw [show q - (c + 1) + 1 = q - c by omega]
      constructor
      · rintro (e | e)
        · omega
        · exact Or.inr e
      · rintro (e | e)
        · omega
        · exact Or.inr e
theorem pr_set {c z : Nat} (a : Int64) (hz : z < 64) (q : Nat) : pr c (a ||| ((1 : Int64) <<< ((nI z).toInt64 &&& 63))) q ↔ (pr c a q ∨ q = c + z) := by
  unfold pr
  rw [jb_or a hz, Bool.or_eq_true, decide_eq_true_eq]
  constructor
  · rintro (e | e | e)
    · exact Or.inl (Or.inl e)
    · exact Or.inl (Or.inr e)
    · by_cases h : q < c
      · exact Or.inl (Or.inl h)
      · exact Or.inr (by omega)
  · rintro ((e | e) | e)
    · exact Or.inl e
    · exact Or.inr (Or.inl e)
    · exact Or.inr (Or.inr (by omega))
