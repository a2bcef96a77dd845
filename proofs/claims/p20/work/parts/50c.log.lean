/-! bytes of a long, runs of them in an array -/
def byteOf (x : Int64) (k : Nat) : Int32 := Int64.toInt32 ((x.toUInt64 >>> ((nI (8 * k)).toInt64.toUInt64 &&& Int64.toUInt64 63)).toInt64) &&& 255
theorem byteOf_M (x : Int64) {k : Nat} (hk : k < 8) : Int64.toInt32 (x >>> ((nI (8 * k)).toInt64 &&& 63)) &&& 255 = byteOf x k := by
  unfold byteOf
  rw [wb_c _ (by omega), wb_cu _ (by omega)]
  apply Int32.toBitVec_inj.mp
  apply BitVec.eq_of_getLsbD_eq
  intro j hj
  have e1 : ((lN (8 * k)).toBitVec.smod 64).toNat = 8 * k := by
    rw [wb_tb, wb_sm _ (by omega)]; simp; omega
  have h255 : (255 : Int32).toBitVec = BitVec.ofNat 32 255 := rfl
  simp only [Int32.toBitVec_and, Int64.toBitVec_toInt32, BitVec.getLsbD_and, BitVec.getLsbD_setWidth, h255]
  by_cases h8 : j < 8
  · have e2 : (x >>> lN (8 * k)).toBitVec.getLsbD j = x.toBitVec.getLsbD (8 * k + j) := by
      rw [Int64.toBitVec_shiftRight, BitVec.sshiftRight_eq', e1, BitVec.getLsbD_sshiftRight, if_pos (by omega), decide_eq_false (by omega), Bool.not_false, Bool.true_and]
    have e3 : ((x.toUInt64 >>> UInt64.ofNat (8 * k)).toInt64).toBitVec.getLsbD j = x.toBitVec.getLsbD (8 * k + j) := by
      show (x.toUInt64 >>> UInt64.ofNat (8 * k)).toBitVec.getLsbD j = _
      rw [UInt64.toBitVec_shiftRight]
      have e4 : ((UInt64.ofNat (8 * k)).toBitVec % 64).toNat = 8 * k := by
        simp [UInt64.toBitVec_ofNat']
        omega
      rw [BitVec.ushiftRight_eq', e4, BitVec.getLsbD_ushiftRight]
      rfl
    have s1 : ∀ w : BitVec 64, (BitVec.signExtend 32 w).getLsbD j = w.getLsbD j := by
      intro w
      rw [BitVec.getLsbD_signExtend, decide_eq_true hj, Bool.true_and, if_pos (by omega)]
    rw [s1, s1, e2, e3]
  · have : (BitVec.ofNat 32 255).getLsbD j = false := by
      rw [BitVec.getLsbD_ofNat]
      simp
      intro _
      exact Nat.testBit_lt_two_pow (Nat.lt_of_lt_of_le (show 255 < 2 ^ 8 by decide) (Nat.pow_le_pow_right (by decide) (by omega)))
    rw [this, Bool.and_false, Bool.and_false]
theorem byteOf_lt (x : Int64) (k : Nat) : ∃ b : Nat, b < 256 ∧ byteOf x k = nI b := by
  obtain ⟨j, hj, e⟩ := pk_andE (Int64.toInt32 ((x.toUInt64 >>> ((nI (8 * k)).toInt64.toUInt64 &&& Int64.toUInt64 63)).toInt64)) (m := 255) 8 rfl
  exact ⟨j, by omega, e⟩
def stb (f : Nat → Int32) (p : Nat) (v : Int64) (n : Nat) : Nat → Int32 := fun j => if p ≤ j ∧ j < p + n then byteOf v (j - p) else f j
theorem stb_0 (f : Nat → Int32) (p : Nat) (v : Int64) : stb f p v 0 = f := by funext j; unfold stb; rw [if_neg (by omega)]
theorem stb_s (f : Nat → Int32) (p : Nat) (v : Int64) (n : Nat) : upd (stb f p v n) (p + n) (byteOf v n) = stb f p v (n + 1) := by
  funext j
  show (if j = p + n then byteOf v n else (if p ≤ j ∧ j < p + n then byteOf v (j - p) else f j)) = (if p ≤ j ∧ j < p + (n + 1) then byteOf v (j - p) else f j)
  by_cases h : j = p + n
  · subst h; rw [if_pos rfl, if_pos (by omega)]; congr 1; omega
  · rw [if_neg h]
    by_cases h2 : p ≤ j ∧ j < p + n
    · rw [if_pos h2, if_pos (by omega)]
    · rw [if_neg h2, if_neg (by omega)]
theorem upd_u (f : Nat → Int32) (k : Nat) (v w : Int32) : upd (upd f k v) k w = upd f k w := by funext j; unfold upd; by_cases h : j = k <;> simp [h]
theorem upd_id (f : Nat → Int32) {k : Nat} {v : Int32} (h : f k = v) : upd f k v = f := by
  funext j; unfold upd
  by_cases h2 : j = k
  · subst h2; simp [h]
  · simp [h2]
theorem rowOf_ok (a : Nat) (h : a < 2147483648) : fX2_rowOf (nI a) = some (nI (a % 4)) := by
  rw [fX2_rowOf, bnd_e, pk_andN (m := 3) (by omega) 2 rfl]
theorem putX_loop (J : (Nat → Int32) → (Nat → Int32) → Option ((Nat → Int32) × (Nat → Int32))) (v : Int64) (r l cnt : Nat) (hr : r < 4) (b : Nat → Int32) (le : Nat → Int32) (hl : le r = nI l) (hc : l + cnt ≤ 240) :
    ∀ (m i : Nat), i + m = cnt → ∀ (n : Nat), m < n → ∀ (y : Int32) (b2 l2 : Nat → Int32), y = nI i → b2 = stb b (240 * r + l) v i → l2 = upd le r (nI (l + i)) → lo3 (sX2_put_12 (nI cnt) J (nI r) v) n y b2 l2 = J (stb b (240 * r + l) v cnt) (upd le r (nI (l + cnt))) := by
  intro m
  induction m with
  | zero =>
    intro i hi n hn y b2 l2 hy hb2 hl2
    subst hy; subst hb2; subst hl2
    obtain ⟨n, rfl⟩ : ∃ z, n = z + 1 := ⟨n - 1, by omega⟩
    obtain rfl : i = cnt := by omega
    rw [lo3_s, sX2_put_12, if_pos (by rw [n_le (by omega) (by omega)]; omega)]
  | succ m ih =>
    intro i hi n hn y b2 l2 hy hb2 hl2
    subst hy; subst hb2; subst hl2
    obtain ⟨n, rfl⟩ : ∃ z, n = z + 1 := ⟨n - 1, by omega⟩
    rw [lo3_s, sX2_put_12, if_neg (by rw [n_le (by omega) (by omega)]; omega), rdI_n hr (by omega), jp_e, upd_s]
    rw [if_neg (by rw [l0, n_lt (by omega) (by omega)]; omega), if_neg (by rw [l240, n_le (by omega) (by omega)]; omega)]
    simp only [bnd_e]
    rw [show nI r * 240 = nI (r * 240) from by rw [l240, n_mul], n_add, show (8 : Int32) * nI i = nI (8 * i) from by rw [l8, n_mul]]
    rw [wrI_n (by omega) (by omega), wrI_n hr (by omega), nI_1, nI_1, upd_u]
    refine ih (i + 1) (by omega) n (by omega) _ _ _ rfl ?_ rfl
    rw [← stb_s]
    unfold byteOf
    congr 1
    omega
theorem putX_ok {cur r l cnt : Nat} (v : Int64) (hcur : cur < 2147483648) (hr : cur % 4 = r) (b le : Nat → Int32) (hl : le r = nI l) (hc : l + cnt ≤ 240) (hcnt : cnt ≤ 8) :
    fX2_put (nI cur) b le v (nI cnt) = some (stb b (240 * r + l) v cnt, upd le r (nI (l + cnt))) := by
  rw [fX2_put, rowOf_ok cur hcur, cal1_e, jp_e, hr]
  exact putX_loop _ v r l cnt (by omega) b le hl hc cnt 0 (by omega) 1000 (by omega) 0 b le rfl (stb_0 _ _ _).symm (upd_id _ (by rw [hl]; rfl)).symm
/-! the checksum -/
def crcStep (c : Int32) : Int32 := if c &&& 1 = 0 then (Int32.toUInt32 c >>> (Int32.toUInt32 1 &&& Int32.toUInt32 31)).toInt32 else (Int32.toUInt32 c >>> (Int32.toUInt32 1 &&& Int32.toUInt32 31)).toInt32 ^^^ (-306674912)
def crcBits : Nat → Int32 → Int32
  | 0, c => c
  | n + 1, c => crcBits n (crcStep c)
def crcAcc (f : Nat → Int32) : Nat → Nat → Int32 → Int32
  | _, 0, c => c
  | i, n + 1, c => crcAcc f (i + 1) n (crcBits 8 (c ^^^ f i))
theorem crcAcc_congr {f g : Nat → Int32} : ∀ (n i : Nat) (c : Int32), (∀ j, i ≤ j → j < i + n → f j = g j) → crcAcc f i n c = crcAcc g i n c := by
  intro n
  induction n with
  | zero => intro i c h; rfl
  | succ n ih =>
    intro i c h
    show crcAcc f (i + 1) n _ = crcAcc g (i + 1) n _
    rw [h i (Nat.le_refl _) (by omega)]
    exact ih (i + 1) _ (fun j h1 h2 => h j (by omega) (by omega))
theorem and1 (x : Int32) : x &&& 1 = 0 ∨ x &&& 1 = 1 := by
  obtain ⟨j, hj, e⟩ := pk_andE x (m := 1) 1 rfl
  rw [e]
  rcases (show j = 0 ∨ j = 1 by omega) with rfl | rfl
  · exact Or.inl rfl
  · exact Or.inr rfl
theorem crcX_bits (J : Int32 → Option Int32) : ∀ (m i : Nat), i + m = 8 → ∀ (n : Nat), m < n → ∀ (c y : Int32), y = nI i → lo2 (sX2_checksum_29 J) n c y = J (crcBits m c) := by
  intro m
  induction m with
  | zero =>
    intro i hi n hn c y hy
    subst hy
    obtain ⟨n, rfl⟩ : ∃ z, n = z + 1 := ⟨n - 1, by omega⟩
    obtain rfl : i = 8 := by omega
    rw [lo2_s, sX2_checksum_29, if_pos (by rw [l8, n_le (by omega) (by omega)]; omega)]; rfl
  | succ m ih =>
    intro i hi n hn c y hy
    subst hy
    obtain ⟨n, rfl⟩ : ∃ z, n = z + 1 := ⟨n - 1, by omega⟩
    rw [lo2_s, sX2_checksum_29, if_neg (by rw [l8, n_le (by omega) (by omega)]; omega)]
    simp only [bnd_e, jp_e]
    show _ = J (crcBits m (crcStep c))
    rw [← ih (i + 1) (by omega) n (by omega) (crcStep c) _ rfl, ← nI_1]
    unfold crcStep
    by_cases h : c &&& 1 = 0
    · rw [if_pos h, if_pos h]
    · rw [if_neg h, if_neg h]
theorem byteAt_ok {a p : Nat} (b : Nat → Int32) (ha : a < 2147483648) (hp : p < 240) : fX2_byteAt b (nI a) (nI p) = some (b (240 * (a % 4) + p)) := by
  rw [fX2_byteAt, jp_e, jp_e, if_neg (by rw [l0, n_lt (by omega) (by omega)]; omega), if_neg (by rw [l240, n_le (by omega) (by omega)]; omega), rowOf_ok a ha, cal1_e]
  simp only [bnd_e]
  rw [show nI (a % 4) * 240 = nI (a % 4 * 240) from by rw [l240, n_mul], n_add, rdI_n (by omega) (by omega)]
  congr 2
  omega
theorem crcX_loop (J : Int32 → Option Int32) (b : Nat → Int32) (a p cnt : Nat) (ha : a < 2147483648) (hp : p + cnt ≤ 240) : ∀ (m i : Nat), i + m = cnt → ∀ (n : Nat), m < n → ∀ (c y : Int32), y = nI i → lo2 (sX2_checksum_6 (nI cnt) J (nI p) b (nI a)) n c y = J (crcAcc (fun j => b (240 * (a % 4) + p + j)) i m c) := by
  intro m
  induction m with
  | zero =>
    intro i hi n hn c y hy
    subst hy
    obtain ⟨n, rfl⟩ : ∃ z, n = z + 1 := ⟨n - 1, by omega⟩
    obtain rfl : i = cnt := by omega
    rw [lo2_s, sX2_checksum_6, if_pos (by rw [n_le (by omega) (by omega)]; omega)]; rfl
  | succ m ih =>
    intro i hi n hn c y hy
    subst hy
    obtain ⟨n, rfl⟩ : ∃ z, n = z + 1 := ⟨n - 1, by omega⟩
    rw [lo2_s, sX2_checksum_6, if_neg (by rw [n_le (by omega) (by omega)]; omega)]
    simp only [bnd_e, jp_e]
    rw [n_add, byteAt_ok b ha (by omega), cal1_e, crcX_bits _ 8 0 rfl 1000 (by omega) _ 0 rfl, nI_1, ih (i + 1) (by omega) n (by omega) _ _ rfl]
    show _ = J (crcAcc _ (i + 1) m (crcBits 8 (c ^^^ b (240 * (a % 4) + p + i))))
    rw [Nat.add_assoc]
theorem checksum_ok {a p cnt : Nat} (b : Nat → Int32) (ha : a < 2147483648) (hp : p + cnt ≤ 240) : fX2_checksum b (nI a) (nI p) (nI cnt) = some (crcAcc (fun j => b (240 * (a % 4) + p + j)) 0 cnt (-1) ^^^ (-1)) := by
  rw [fX2_checksum, jp_e, crcX_loop _ b a p cnt ha hp cnt 0 (by omega) 1000 (by omega) (-1) 0 rfl, bnd_e]
