/-! a record's bytes; reading gives back what was written; what is altered or torn is broken -/
theorem byteOf_nat (v : Int64) {k : Nat} (hk : k < 8) : byteOf v k = nI (v.toBitVec.toNat / 2 ^ (8 * k) % 2 ^ 8) := by
  unfold byteOf
  rw [wb_cu _ (by omega)]
  apply Int32.toBitVec_inj.mp
  apply BitVec.eq_of_getLsbD_eq
  intro j hj
  have h255 : (255 : Int32).toBitVec = BitVec.ofNat 32 255 := rfl
  have e3 : ((v.toUInt64 >>> UInt64.ofNat (8 * k)).toInt64).toBitVec.getLsbD j = v.toBitVec.getLsbD (8 * k + j) := by
    show (v.toUInt64 >>> UInt64.ofNat (8 * k)).toBitVec.getLsbD j = _
    rw [UInt64.toBitVec_shiftRight]
    have e4 : ((UInt64.ofNat (8 * k)).toBitVec % 64).toNat = 8 * k := by
      simp [UInt64.toBitVec_ofNat']
      omega
    rw [BitVec.ushiftRight_eq', e4, BitVec.getLsbD_ushiftRight]
    rfl
  have s1 : ∀ w : BitVec 64, (BitVec.signExtend 32 w).getLsbD j = w.getLsbD j := by
    intro w
    rw [BitVec.getLsbD_signExtend, decide_eq_true hj, Bool.true_and, if_pos (by omega)]
  have er : (nI (v.toBitVec.toNat / 2 ^ (8 * k) % 2 ^ 8)).toBitVec.getLsbD j = (decide (j < 8) && v.toBitVec.getLsbD (8 * k + j)) := by
    show (BitVec.ofNat 32 _).getLsbD j = _
    rw [BitVec.getLsbD_ofNat, decide_eq_true hj, Bool.true_and, Nat.testBit_mod_two_pow, Nat.testBit_div_two_pow, Nat.add_comm j (8 * k)]
    rfl
  rw [er]
  simp only [Int32.toBitVec_and, Int64.toBitVec_toInt32, BitVec.getLsbD_and, BitVec.getLsbD_setWidth, h255]
  rw [s1, e3]
  by_cases h8 : j < 8
  · have s2 : (BitVec.ofNat 32 255).getLsbD j = true := by
      rw [BitVec.getLsbD_ofNat]
      show (decide (j < 32) && Nat.testBit (2 ^ 8 - 1) j) = true
      rw [Nat.testBit_two_pow_sub_one, decide_eq_true hj, decide_eq_true h8]
      rfl
    rw [s2, Bool.and_true, decide_eq_true h8, Bool.true_and]
  · have s2 : (BitVec.ofNat 32 255).getLsbD j = false := by
      rw [BitVec.getLsbD_ofNat]
      show (decide (j < 32) && Nat.testBit (2 ^ 8 - 1) j) = false
      rw [Nat.testBit_two_pow_sub_one, decide_eq_false h8, Bool.and_false]
    rw [s2, Bool.and_false, decide_eq_false h8, Bool.false_and]
theorem l_nat {n : Nat} (h : n < 2147483648) : (Int32.toInt64 (nI n)).toBitVec.toNat = n := by
  rw [nI_l h, wb_tb]
  simp
  omega
theorem byteOf_small {n : Nat} (h : n < 256) : byteOf (Int32.toInt64 (nI n)) 0 = nI n := by
  rw [byteOf_nat _ (by omega), l_nat (by omega)]
  congr 1
  simp
  omega
theorem lev_bytes {f : Nat → Int32} (v : Int64) : ∀ (m i q : Nat), i + m ≤ 8 → (∀ j, j < m → f (q + j) = byteOf v (i + j)) → lev f q m = v.toBitVec.toNat / 2 ^ (8 * i) % 2 ^ (8 * m) := by
  intro m
  induction m with
  | zero => intro i q _ _; show 0 = _; rw [Nat.mul_zero, Nat.pow_zero, Nat.mod_one]
  | succ m ih =>
    intro i q hi h
    show (f q).toNatClampNeg + 256 * lev f (q + 1) m = _
    have h0 := h 0 (by omega)
    rw [Nat.add_zero, Nat.add_zero] at h0
    rw [h0, byteOf_nat _ (by omega), n_cl (by omega), ih (i + 1) (q + 1) (by omega) (fun j hj => by have := h (j + 1) (by omega); rw [show q + 1 + j = q + (j + 1) by omega, show i + 1 + j = i + (j + 1) by omega]; exact this)]
    have e1 : v.toBitVec.toNat / 2 ^ (8 * (i + 1)) = v.toBitVec.toNat / 2 ^ (8 * i) / 256 := by
      rw [Nat.div_div_eq_div_mul, show 8 * (i + 1) = 8 * i + 8 by omega, Nat.pow_add]
    rw [e1, show 8 * (m + 1) = 8 + 8 * m by omega, Nat.pow_add, Nat.mod_mul]
theorem lN_self (v : Int64) : lN (v.toBitVec.toNat / 2 ^ (8 * 0) % 2 ^ (8 * 8)) = v := by
  rw [Nat.mul_zero, Nat.pow_zero, Nat.div_one, Nat.mod_eq_of_lt (by have := v.toBitVec.isLt; omega)]
  apply Int64.toBitVec_inj.mp
  show BitVec.ofNat 64 v.toBitVec.toNat = _
  rw [BitVec.ofNat_toNat, BitVec.setWidth_eq]
theorem nI_self (c : Int32) : nI ((Int32.toInt64 c).toBitVec.toNat / 2 ^ (8 * 0) % 2 ^ (8 * 4)) = c := by
  rw [Nat.mul_zero, Nat.pow_zero, Nat.div_one]
  apply Int32.toBitVec_inj.mp
  apply BitVec.eq_of_getLsbD_eq
  intro j hj
  show (BitVec.ofNat 32 _).getLsbD j = _
  rw [BitVec.getLsbD_ofNat, decide_eq_true hj, Bool.true_and, show 8 * 4 = 32 from rfl, Nat.testBit_mod_two_pow, decide_eq_true hj, Bool.true_and]
  show (Int32.toInt64 c).toBitVec.getLsbD j = _
  rw [Int32.toBitVec_toInt64, BitVec.getLsbD_signExtend, decide_eq_true (show j < 64 by omega), Bool.true_and, if_pos hj]
def crcR (kind : Int32) (sz : Nat) (seq id ver : Int32) (src : Int64) : Int32 := crcOf (stbs (fun _ => 0) 0 (body kind sz seq id ver src)) 0 (sz + 1)
theorem rcb_crc {kind : Int32} {sz : Nat} (hk : kz kind sz) (seq id ver : Int32) (src : Int64) {j : Nat} (hj : j < 4) : rcb kind sz seq id ver src (1 + sz + j) = byteOf (Int32.toInt64 (crcR kind sz seq id ver src)) (0 + j) := by
  unfold rcb recd
  rw [show stb (stbs (fun _ => 0) 0 (body kind sz seq id ver src)) (0 + (sz + 1)) (Int32.toInt64 (crcOf (stbs (fun _ => 0) 0 (body kind sz seq id ver src)) 0 (sz + 1))) 4 (1 + sz + j) = byteOf (Int32.toInt64 (crcOf (stbs (fun _ => 0) 0 (body kind sz seq id ver src)) 0 (sz + 1))) (1 + sz + j - (0 + (sz + 1))) from if_pos (by omega)]
  unfold crcR
  congr 1
  omega
theorem rcb_in {kind : Int32} {sz : Nat} (seq id ver : Int32) (src : Int64) {t : Nat} (ht : t < sz + 1) : rcb kind sz seq id ver src t = stbs (fun _ => 0) 0 (body kind sz seq id ver src) t := by
  unfold rcb recd
  exact if_neg (by omega)
theorem crc_rcb {kind : Int32} {sz : Nat} {seq id ver : Int32} {src : Int64} {f : Nat → Int32} {u : Nat} (h : ∀ t, t < sz + 1 → f (u + t) = rcb kind sz seq id ver src t) : crcOf f u (sz + 1) = crcR kind sz seq id ver src := by
  unfold crcR crcOf
  congr 1
  refine crcAcc_congr _ 0 _ (fun j h1 h2 => ?_)
  show f (u + j) = stbs _ 0 _ (0 + j)
  rw [h j (by omega), rcb_in _ _ _ _ (by omega), Nat.zero_add]
theorem bd1 (seq id ver : Int32) (src : Int64) : body 1 14 seq id ver src = [(Int32.toInt64 (nI 14), 1), (Int32.toInt64 1, 1), (Int32.toInt64 seq, 2), (Int32.toInt64 id, 1), (Int32.toInt64 ver, 2), (src, 8)] := rfl
theorem bd2 (seq id ver : Int32) (src : Int64) : body 2 6 seq id ver src = [(Int32.toInt64 (nI 6), 1), (Int32.toInt64 2, 1), (Int32.toInt64 seq, 2), (Int32.toInt64 id, 1), (Int32.toInt64 ver, 2)] := rfl
theorem rcb_f {kind : Int32} {sz : Nat} (hk : kz kind sz) (h3 : ¬ kind = 3) (seq id ver : Int32) (src : Int64) :
    rcb kind sz seq id ver src 0 = nI sz ∧ rcb kind sz seq id ver src 1 = kind ∧ (∀ j, j < 2 → rcb kind sz seq id ver src (2 + j) = byteOf (Int32.toInt64 seq) (0 + j)) ∧ rcb kind sz seq id ver src 4 = byteOf (Int32.toInt64 id) 0 ∧
    (∀ j, j < 2 → rcb kind sz seq id ver src (5 + j) = byteOf (Int32.toInt64 ver) (0 + j)) ∧ (kind = 1 → ∀ j, j < 8 → rcb kind sz seq id ver src (7 + j) = byteOf src (0 + j)) := by
  rcases hk with ⟨rfl, rfl⟩ | ⟨rfl, rfl⟩ | ⟨h, _⟩
  · refine ⟨?_, ?_, fun j hj => ?_, ?_, fun j hj => ?_, fun _ j hj => ?_⟩ <;> rw [rcb_in _ _ _ _ (by omega), bd1] <;> simp only [stbs, stb]
    · rw [if_neg (by omega), if_neg (by omega), if_neg (by omega), if_neg (by omega), if_neg (by omega), if_pos (by omega)]; exact byteOf_small (n := 14) (by omega)
    · rw [if_neg (by omega), if_neg (by omega), if_neg (by omega), if_neg (by omega), if_pos (by omega)]; exact byteOf_small (n := 1) (by omega)
    · rw [if_neg (by omega), if_neg (by omega), if_neg (by omega), if_pos (by omega)]; congr 1; omega
    · rw [if_neg (by omega), if_neg (by omega), if_pos (by omega)]
    · rw [if_neg (by omega), if_pos (by omega)]; congr 1; omega
    · rw [if_pos (by omega)]; congr 1; omega
  · refine ⟨?_, ?_, fun j hj => ?_, ?_, fun j hj => ?_, fun h => absurd h (by decide)⟩ <;> rw [rcb_in _ _ _ _ (by omega), bd2] <;> simp only [stbs, stb]
    · rw [if_neg (by omega), if_neg (by omega), if_neg (by omega), if_neg (by omega), if_pos (by omega)]; exact byteOf_small (n := 6) (by omega)
    · rw [if_neg (by omega), if_neg (by omega), if_neg (by omega), if_pos (by omega)]; exact byteOf_small (n := 2) (by omega)
    · rw [if_neg (by omega), if_neg (by omega), if_pos (by omega)]; congr 1; omega
    · rw [if_neg (by omega), if_pos (by omega)]
    · rw [if_pos (by omega)]; congr 1; omega
  · exact absurd h h3
theorem kz_uni {kind k2 : Int32} {sz s2 : Nat} (h : kz kind sz) (h2 : kz k2 s2) : (kind = k2 ↔ sz = s2) := by
  rcases h with ⟨rfl, rfl⟩ | ⟨rfl, rfl⟩ | ⟨rfl, rfl⟩ <;> rcases h2 with ⟨rfl, rfl⟩ | ⟨rfl, rfl⟩ | ⟨rfl, rfl⟩ <;> decide
/-- reading a whole record -/
theorem readX_ok {b l : Nat → Int32} {g p L sz q id ver : Nat} {kind : Int32} {src : Int64} (hg : g < 100000000) (hl : l (g % 4) = nI L) (hL : L ≤ 240) (hk : kz kind sz) (h3 : ¬ kind = 3) (hp : p + (sz + 5) ≤ L) (hq : q < 65536) (hid : id < 16) (hv : ver < 65536)
    (hr : ∀ t, t < sz + 5 → b (240 * (g % 4) + p + t) = rcb kind sz (nI q) (nI id) (nI ver) src t) (o1 o2 o3 o4 : Int32) (o5 : Int64) :
    fX2_read b l o1 o2 o3 o4 o5 (nI g) (nI p) = some (nI (sz + 5), kind, nI q, nI id, nI ver, if kind = 1 then src else 0) := by
  have hsz : 6 ≤ sz ∧ sz ≤ 14 := by
    rcases hk with ⟨_, h⟩ | ⟨_, h⟩ | ⟨h, _⟩
    · omega
    · omega
    · exact absurd h h3
  obtain ⟨f0, f1, f2, f4, f5, f7⟩ := rcb_f hk h3 (nI q) (nI id) (nI ver) src
  have hby : ∀ t, t < sz + 5 → By (b (240 * (g % 4) + p + t)) := fun t ht => by
    rw [hr t ht]
    exact recd_by hk (Nat.zero_le _) (by omega)
  have k0 : b (240 * (g % 4) + p) = nI sz := by have := hr 0 (by omega); rw [Nat.add_zero] at this; rw [this, f0]
  have k1 : b (240 * (g % 4) + (p + 1)) = kind := by rw [← Nat.add_assoc, hr 1 (by omega), f1]
  have k4 : b (240 * (g % 4) + (p + 4)) = nI id := by rw [← Nat.add_assoc, hr 4 (by omega), f4]; exact byteOf_small (by omega)
  have t2 : fX2_take b (nI g) (nI (p + 2)) 2 = some (lN q) := by
    rw [take_2 b (by omega) (by omega) (fun j hj => by rw [show 240 * (g % 4) + (p + 2) + j = 240 * (g % 4) + p + (2 + j) by omega]; exact hby _ (by omega)), lev_bytes (Int32.toInt64 (nI q)) 2 0 _ (by omega) (fun j hj => by rw [show 240 * (g % 4) + (p + 2) + j = 240 * (g % 4) + p + (2 + j) by omega, hr _ (by omega)]; exact f2 j hj), l_nat (by omega)]
    congr 2; omega
  have t5 : fX2_take b (nI g) (nI (p + 5)) 2 = some (lN ver) := by
    rw [take_2 b (by omega) (by omega) (fun j hj => by rw [show 240 * (g % 4) + (p + 5) + j = 240 * (g % 4) + p + (5 + j) by omega]; exact hby _ (by omega)), lev_bytes (Int32.toInt64 (nI ver)) 2 0 _ (by omega) (fun j hj => by rw [show 240 * (g % 4) + (p + 5) + j = 240 * (g % 4) + p + (5 + j) by omega, hr _ (by omega)]; exact f5 j hj), l_nat (by omega)]
    congr 2; omega
  have t7 : kind = 1 → fX2_take b (nI g) (nI (p + 7)) 8 = some src := by
    intro h1
    have : sz = 14 := by
      rcases hk with ⟨_, h⟩ | ⟨h, _⟩ | ⟨h, _⟩
      · exact h
      · rw [h1] at h; exact absurd h (by decide)
      · rw [h1] at h; exact absurd h (by decide)
    rw [take_8 b (by omega) (by omega) (fun j hj => by rw [show 240 * (g % 4) + (p + 7) + j = 240 * (g % 4) + p + (7 + j) by omega]; exact hby _ (by omega)), lev_bytes src 8 0 _ (by omega) (fun j hj => by rw [show 240 * (g % 4) + (p + 7) + j = 240 * (g % 4) + p + (7 + j) by omega, hr _ (by omega)]; exact f7 h1 j hj), lN_self]
  have tc : fX2_take b (nI g) (nI (p + 1 + sz)) 4 = some (lN (lev b (240 * (g % 4) + (p + 1 + sz)) 4)) := take_4 b (by omega) (by omega) (fun j hj => by rw [show 240 * (g % 4) + (p + 1 + sz) + j = 240 * (g % 4) + p + (1 + sz + j) by omega]; exact hby _ (by omega))
  have lc : nI (lev b (240 * (g % 4) + (p + 1 + sz)) 4) = crcR kind sz (nI q) (nI id) (nI ver) src := by
    rw [lev_bytes (Int32.toInt64 (crcR kind sz (nI q) (nI id) (nI ver) src)) 4 0 _ (by omega) (fun j hj => by rw [show 240 * (g % 4) + (p + 1 + sz) + j = 240 * (g % 4) + p + (1 + sz + j) by omega, hr _ (by omega)]; exact rcb_crc hk _ _ _ _ hj), nI_self]
  have ck : fX2_checksum b (nI g) (nI p) (nI (sz + 1)) = some (crcR kind sz (nI q) (nI id) (nI ver) src) := by
    rw [checksum_ok b (by omega) (by omega)]
    exact congrArg some (crc_rcb (f := b) (u := 240 * (g % 4) + p) (fun t ht => hr t (by omega)))
  have c5 : nI (sz + 5) - 5 = nI sz := by rw [l5, n_sub (by omega), show sz + 5 - 5 = sz by omega]
  have esz1 : nI sz + 1 = nI (sz + 1) := n_add sz 1
  have ep1 : nI p + 1 = nI (p + 1) := n_add p 1
  have ep2 : nI p + 2 = nI (p + 2) := n_add p 2
  have ep4 : nI p + 4 = nI (p + 4) := n_add p 4
  have ep5 : nI p + 5 = nI (p + 5) := n_add p 5
  have ep7 : nI p + 7 = nI (p + 7) := n_add p 7
  rw [fX2_read, lengthOf_ok (by omega) l hl, cal1_e, n_sub (by omega), bnd_e, if_pos (by rw [l8, n_le (by omega) (by omega)]; omega), ep1, bnd_e, byteAt_ok b (by omega) (by omega), cal1_e, k1, sizeX_ok hk, cal1_e, c5, bnd_e, jp_e, if_neg (by rw [l0, n_eq (by omega) (by omega)]; omega), if_neg (by rw [n_lt (by omega) (by omega)]; omega), byteAt_ok b (by omega) (by omega), cal1_e, k0, if_pos rfl, bnd_e, n_add, bnd_e, tc, cal1_e, lN_i, bnd_e, esz1, bnd_e, ck, cal1_e, if_pos lc]
  simp only [jp_e]
  rw [if_neg h3, ep4, bnd_e, byteAt_ok b (by omega) (by omega), cal1_e, k4, if_neg h3, if_neg h3, isId_n hid, cal1_e, if_neg (by decide), ep5, bnd_e, t5, cal1_e, lN_i, bnd_e]
  by_cases h1 : kind = 1
  · rw [if_pos h1, if_pos h1, ep7, bnd_e, t7 h1, cal1_e, ep2, bnd_e, t2, cal1_e, lN_i, bnd_e, fX3_become, cal5_e]
  · rw [if_neg h1, if_neg h1, ep2, bnd_e, t2, cal1_e, lN_i, bnd_e, fX3_become, cal5_e]
/-- a broken record -/
theorem readX_zero {b l : Nat → Int32} {g p L : Nat} (hg : g < 100000000) (hl : l (g % 4) = nI L) (hL : L ≤ 240) (hpL : p ≤ L) (hby : ∀ j, p + j < L → By (b (240 * (g % 4) + p + j)))
    (H : ∀ sz, kz (b (240 * (g % 4) + p + 1)) sz → p + (sz + 5) ≤ L → b (240 * (g % 4) + p) = nI sz → nI (lev b (240 * (g % 4) + (p + 1 + sz)) 4) ≠ crcOf b (240 * (g % 4) + p) (sz + 1)) (o1 o2 o3 o4 : Int32) (o5 : Int64) :
    fX2_read b l o1 o2 o3 o4 o5 (nI g) (nI p) = some (0, o1, o2, o3, o4, o5) := by
  have ep1 : nI p + 1 = nI (p + 1) := n_add p 1
  rw [fX2_read, lengthOf_ok (by omega) l hl, cal1_e, n_sub hpL, bnd_e]
  by_cases h8 : 8 ≤ L - p
  rotate_left
  · rw [if_neg (by rw [l8, n_le (by omega) (by omega)]; omega)]
  rw [if_pos (by rw [l8, n_le (by omega) (by omega)]; omega), ep1, bnd_e, byteAt_ok b (by omega) (by omega), cal1_e]
  by_cases hk : b (240 * (g % 4) + (p + 1)) = 1 ∨ b (240 * (g % 4) + (p + 1)) = 2 ∨ b (240 * (g % 4) + (p + 1)) = 3
  rotate_left
  · rw [sizeX_no hk, cal1_e, bnd_e, jp_e, if_pos rfl]
  obtain ⟨sz, hkz⟩ := kz_of hk
  have hsz : 3 ≤ sz ∧ sz ≤ 14 := by rcases hkz with ⟨_, h⟩ | ⟨_, h⟩ | ⟨_, h⟩ <;> omega
  have c5 : nI (sz + 5) - 5 = nI sz := by rw [l5, n_sub (by omega), show sz + 5 - 5 = sz by omega]
  have esz1 : nI sz + 1 = nI (sz + 1) := n_add sz 1
  rw [sizeX_ok hkz, cal1_e, c5, bnd_e, jp_e, if_neg (by rw [l0, n_eq (by omega) (by omega)]; omega)]
  by_cases h5 : L - p < sz + 5
  · rw [if_pos (by rw [n_lt (by omega) (by omega)]; omega)]
  rw [if_neg (by rw [n_lt (by omega) (by omega)]; omega), byteAt_ok b (by omega) (by omega), cal1_e]
  by_cases h0 : b (240 * (g % 4) + p) = nI sz
  rotate_left
  · rw [if_neg h0]
  have tc : fX2_take b (nI g) (nI (p + 1 + sz)) 4 = some (lN (lev b (240 * (g % 4) + (p + 1 + sz)) 4)) := take_4 b (by omega) (by omega) (fun j hj => by rw [show 240 * (g % 4) + (p + 1 + sz) + j = 240 * (g % 4) + p + (1 + sz + j) by omega]; exact hby _ (by omega))
  have ck : fX2_checksum b (nI g) (nI p) (nI (sz + 1)) = some (crcOf b (240 * (g % 4) + p) (sz + 1)) := checksum_ok b (by omega) (by omega)
  rw [if_pos h0, bnd_e, n_add, bnd_e, tc, cal1_e, lN_i, bnd_e, esz1, bnd_e, ck, cal1_e, if_neg (H sz (by rw [Nat.add_assoc]; exact hkz) (by omega) h0)]
/-! one byte that is another gives another checksum -/
theorem crcStep_bit (c : Int32) {i : Nat} (hi : i < 32) : (crcStep c).toBitVec.getLsbD i = (c.toBitVec.getLsbD (i + 1) ^^ (c.toBitVec.getLsbD 0 && (-306674912 : Int32).toBitVec.getLsbD i)) := by
  have hs : ((Int32.toUInt32 c >>> (Int32.toUInt32 1 &&& Int32.toUInt32 31)).toInt32).toBitVec.getLsbD i = c.toBitVec.getLsbD (i + 1) := by
    show (c.toUInt32 >>> (Int32.toUInt32 1 &&& Int32.toUInt32 31)).toBitVec.getLsbD i = _
    rw [show (Int32.toUInt32 1 &&& Int32.toUInt32 31) = UInt32.ofNat 1 from rfl, UInt32.toBitVec_shiftRight]
    have e4 : ((UInt32.ofNat 1).toBitVec % 32).toNat = 1 := rfl
    rw [BitVec.ushiftRight_eq', e4, BitVec.getLsbD_ushiftRight, Nat.add_comm]
    rfl
  have h0 : c &&& 1 = 0 ↔ c.toBitVec.getLsbD 0 = false := by
    rw [← Int32.toBitVec_inj, Int32.toBitVec_and]
    constructor
    · intro h
      have h2 := congrArg (fun w : BitVec 32 => w.getLsbD 0) h
      simp only [BitVec.getLsbD_and] at h2
      rw [show (1 : Int32).toBitVec.getLsbD 0 = true from rfl, show (0 : Int32).toBitVec.getLsbD 0 = false from rfl, Bool.and_true] at h2
      exact h2
    · intro h
      apply BitVec.eq_of_getLsbD_eq
      intro j hj
      rw [BitVec.getLsbD_and]
      by_cases e : j = 0
      · subst e; rw [h]; rfl
      · have : (1 : Int32).toBitVec.getLsbD j = false := by
          show (BitVec.ofNat 32 1).getLsbD j = false
          rw [BitVec.getLsbD_ofNat, show (1 : Nat) = 2 ^ 0 from rfl, Nat.testBit_two_pow, decide_eq_false (show ¬ (0 = j) by omega), Bool.and_false]
        rw [this, Bool.and_false]
        show false = (BitVec.ofNat 32 0).getLsbD j
        rw [BitVec.getLsbD_ofNat, Nat.zero_testBit, Bool.and_false]
  unfold crcStep
  by_cases h : c &&& 1 = 0
  · rw [if_pos h, hs, h0.mp h, Bool.false_and, Bool.xor_false]
  · rw [if_neg h, Int32.toBitVec_xor, BitVec.getLsbD_xor, hs]
    have : c.toBitVec.getLsbD 0 = true := by cases hh : c.toBitVec.getLsbD 0 with | true => rfl | false => exact absurd (h0.mpr hh) h
    rw [this, Bool.true_and]
theorem bx_c {a b c : Bool} (h : (a ^^ b) = (c ^^ b)) : a = c := by
  cases a <;> cases b <;> cases c <;> first | rfl | exact absurd h (by decide)
theorem crcStep_inj {c d : Int32} (h : crcStep c = crcStep d) : c = d := by
  have hb : ∀ i, i < 32 → (c.toBitVec.getLsbD (i + 1) ^^ (c.toBitVec.getLsbD 0 && (-306674912 : Int32).toBitVec.getLsbD i)) = (d.toBitVec.getLsbD (i + 1) ^^ (d.toBitVec.getLsbD 0 && (-306674912 : Int32).toBitVec.getLsbD i)) := fun i hi => by
    rw [← crcStep_bit c hi, ← crcStep_bit d hi, h]
  have h31 := hb 31 (by omega)
  rw [BitVec.getLsbD_of_ge c.toBitVec 32 (Nat.le_refl _), BitVec.getLsbD_of_ge d.toBitVec 32 (Nat.le_refl _), show (-306674912 : Int32).toBitVec.getLsbD 31 = true from rfl, Bool.and_true, Bool.and_true, Bool.false_xor, Bool.false_xor] at h31
  apply Int32.toBitVec_inj.mp
  apply BitVec.eq_of_getLsbD_eq
  intro j hj
  by_cases e : j = 0
  · rw [e]; exact h31
  · have := hb (j - 1) (by omega)
    rw [h31, show j - 1 + 1 = j by omega] at this
    exact bx_c this
theorem crcBits_inj : ∀ (m : Nat) {c d : Int32}, crcBits m c = crcBits m d → c = d := by
  intro m
  induction m with
  | zero => intro c d h; exact h
  | succ m ih => intro c d h; exact crcStep_inj (ih h)
theorem xor_l {x y z : Int32} (h : x ^^^ z = y ^^^ z) : x = y := by
  have h2 := congrArg (fun w => w ^^^ z) h
  simp only [Int32.xor_assoc, Int32.xor_self, Int32.xor_zero] at h2
  exact h2
theorem xor_r {x y z : Int32} (h : z ^^^ x = z ^^^ y) : x = y := by
  rw [Int32.xor_comm z x, Int32.xor_comm z y] at h
  exact xor_l h
/-- other states stay other -/
theorem crcAcc_inj {f : Nat → Int32} : ∀ (n i : Nat) {c d : Int32}, crcAcc f i n c = crcAcc f i n d → c = d := by
  intro n
  induction n with
  | zero => intro i c d h; exact h
  | succ n ih =>
    intro i c d h
    exact xor_l (crcBits_inj 8 (ih (i + 1) h))
theorem crcAcc_ne {f g : Nat → Int32} : ∀ (n i : Nat) {t : Nat} {c : Int32}, i ≤ t → t < i + n → f t ≠ g t → (∀ j, i ≤ j → j < i + n → j ≠ t → f j = g j) → crcAcc f i n c ≠ crcAcc g i n c := by
  intro n
  induction n with
  | zero => intro i t c h1 h2; omega
  | succ n ih =>
    intro i t c h1 h2 hne he h
    have h' : crcAcc f (i + 1) n (crcBits 8 (c ^^^ f i)) = crcAcc g (i + 1) n (crcBits 8 (c ^^^ g i)) := h
    by_cases e : t = i
    · rw [crcAcc_congr (f := f) (g := g) n (i + 1) _ (fun j j1 j2 => he j (by omega) (by omega) (by omega))] at h'
      rw [e] at hne
      exact hne (xor_r (crcBits_inj 8 (crcAcc_inj n (i + 1) h')))
    · rw [he i (Nat.le_refl _) (by omega) (fun h => e h.symm)] at h'
      exact ih (i + 1) (by omega) (by omega) hne (fun j j1 j2 j3 => he j (by omega) (by omega) j3) h'
theorem crcOf_ne {f g : Nat → Int32} {u n t : Nat} (ht : t < n) (hne : f (u + t) ≠ g (u + t)) (he : ∀ j, j < n → j ≠ t → f (u + j) = g (u + j)) : crcOf f u n ≠ crcOf g u n := by
  intro h
  exact crcAcc_ne n 0 (t := t) (Nat.zero_le _) (by omega) hne (fun j _ j2 j3 => he j (by omega) j3) (xor_l h)
/-- numbers of other bytes are other -/
theorem lev_ne {f g : Nat → Int32} : ∀ (n q : Nat) {t : Nat}, t < n → (∀ j, j < n → By (f (q + j)) ∧ By (g (q + j))) → f (q + t) ≠ g (q + t) → lev f q n ≠ lev g q n := by
  intro n
  induction n with
  | zero => intro q t h; omega
  | succ n ih =>
    intro q t ht hb hne h
    have h' : (f q).toNatClampNeg + 256 * lev f (q + 1) n = (g q).toNatClampNeg + 256 * lev g (q + 1) n := h
    obtain ⟨⟨x, hx, ex⟩, ⟨y, hy, ey⟩⟩ := hb 0 (by omega)
    rw [Nat.add_zero] at ex ey
    rw [ex, ey, n_cl (by omega), n_cl (by omega)] at h'
    by_cases e : t = 0
    · subst e
      rw [Nat.add_zero, ex, ey] at hne
      exact hne (by rw [show x = y by omega])
    · refine ih (q + 1) (t := t - 1) (by omega) (fun j hj => by have := hb (j + 1) (by omega); rw [show q + 1 + j = q + (j + 1) by omega]; exact this) (by rw [show q + 1 + (t - 1) = q + t by omega]; exact hne) (by omega)
/-- a record that is torn, or one of whose bytes is another, is broken -/
theorem readX_bad {b b' l : Nat → Int32} {g p L sz q id ver : Nat} {kind : Int32} {src : Int64} (hg : g < 100000000) (hl : l (g % 4) = nI L) (hL : L ≤ 240) (hpL : p ≤ L) (hk : kz kind sz) (h3 : ¬ kind = 3)
    (hr : ∀ t, t < sz + 5 → b (240 * (g % 4) + p + t) = rcb kind sz (nI q) (nI id) (nI ver) src t) (hby : ∀ j, p + j < L → By (b' (240 * (g % 4) + p + j)))
    (hbad : (L < p + (sz + 5) ∧ ∀ t, t < sz + 5 → b' (240 * (g % 4) + p + t) = b (240 * (g % 4) + p + t)) ∨ (∃ t, t < sz + 5 ∧ p + t < L ∧ b' (240 * (g % 4) + p + t) ≠ b (240 * (g % 4) + p + t) ∧ ∀ j, j < sz + 5 → j ≠ t → b' (240 * (g % 4) + p + j) = b (240 * (g % 4) + p + j))) (o1 o2 o3 o4 : Int32) (o5 : Int64) :
    fX2_read b' l o1 o2 o3 o4 o5 (nI g) (nI p) = some (0, o1, o2, o3, o4, o5) := by
  obtain ⟨f0, f1, f2, f4, f5, f7⟩ := rcb_f hk h3 (nI q) (nI id) (nI ver) src
  have hsz : 6 ≤ sz ∧ sz ≤ 14 := by
    rcases hk with ⟨_, h⟩ | ⟨_, h⟩ | ⟨h, _⟩
    · omega
    · omega
    · exact absurd h h3
  have hbb : ∀ t, t < sz + 5 → By (b (240 * (g % 4) + p + t)) := fun t ht => by
    rw [hr t ht]
    exact recd_by hk (Nat.zero_le _) (by omega)
  have k0 : b (240 * (g % 4) + p) = nI sz := by have := hr 0 (by omega); rw [Nat.add_zero] at this; rw [this, f0]
  have k1 : b (240 * (g % 4) + p + 1) = kind := by rw [hr 1 (by omega), f1]
  have lc : nI (lev b (240 * (g % 4) + (p + 1 + sz)) 4) = crcOf b (240 * (g % 4) + p) (sz + 1) := by
    rw [lev_bytes (Int32.toInt64 (crcR kind sz (nI q) (nI id) (nI ver) src)) 4 0 _ (by omega) (fun j hj => by rw [show 240 * (g % 4) + (p + 1 + sz) + j = 240 * (g % 4) + p + (1 + sz + j) by omega, hr _ (by omega)]; exact rcb_crc hk _ _ _ _ hj), nI_self]
    exact (crc_rcb (f := b) (u := 240 * (g % 4) + p) (fun t ht => hr t (by omega))).symm
  refine readX_zero hg hl hL hpL hby (fun sz' hk' hfit h0 => ?_) o1 o2 o3 o4 o5
  rcases hbad with ⟨ht, he⟩ | ⟨t, ht, htL, hne, he⟩
  · rw [he 1 (by omega), k1] at hk'
    have := (kz_uni hk hk').mp rfl
    omega
  · by_cases t0 : t = 0
    · subst t0
      rw [he 1 (by omega) (by omega), k1] at hk'
      have := (kz_uni hk hk').mp rfl
      subst this
      exact absurd (h0.trans k0.symm) hne
    have e0 : b' (240 * (g % 4) + p) = nI sz := by have := he 0 (by omega) (fun h => t0 h.symm); rw [Nat.add_zero] at this; rw [this, k0]
    have hss : sz' < 100 := by rcases hk' with ⟨_, h⟩ | ⟨_, h⟩ | ⟨_, h⟩ <;> omega
    obtain rfl : sz' = sz := by
      rw [e0, n_eq (by omega) (by omega)] at h0
      exact h0.symm
    by_cases t1 : t = 1
    · subst t1
      exact absurd (((kz_uni hk' hk).mpr rfl).trans k1.symm) hne
    intro hc
    by_cases tz : t < sz' + 1
    · have h1 : crcOf b' (240 * (g % 4) + p) (sz' + 1) ≠ crcOf b (240 * (g % 4) + p) (sz' + 1) := crcOf_ne tz hne (fun j j1 j2 => he j (by omega) j2)
      apply h1
      rw [← hc, ← lc]
      congr 1
      refine lev_congr 4 _ _ (fun j hj => ?_)
      rw [show 240 * (g % 4) + (p + 1 + sz') + j = 240 * (g % 4) + p + (1 + sz' + j) by omega]
      exact he _ (by omega) (by omega)
    · have h1 : crcOf b' (240 * (g % 4) + p) (sz' + 1) = crcOf b (240 * (g % 4) + p) (sz' + 1) := by
        unfold crcOf
        congr 1
        refine crcAcc_congr _ 0 _ (fun j j1 j2 => he j (by omega) (by omega))
      rw [h1, ← lc] at hc
      have hlt : ∀ f : Nat → Int32, (∀ j, j < 4 → By (f (240 * (g % 4) + (p + 1 + sz') + j))) → lev f (240 * (g % 4) + (p + 1 + sz')) 4 < 2 ^ 32 := fun f hf => lev_lt 4 _ hf
      have hb1 : ∀ j, j < 4 → By (b' (240 * (g % 4) + (p + 1 + sz') + j)) := fun j hj => by rw [show 240 * (g % 4) + (p + 1 + sz') + j = 240 * (g % 4) + p + (1 + sz' + j) by omega]; exact hby _ (by omega)
      have hb2 : ∀ j, j < 4 → By (b (240 * (g % 4) + (p + 1 + sz') + j)) := fun j hj => by rw [show 240 * (g % 4) + (p + 1 + sz') + j = 240 * (g % 4) + p + (1 + sz' + j) by omega]; exact hbb _ (by omega)
      have hne2 : lev b' (240 * (g % 4) + (p + 1 + sz')) 4 ≠ lev b (240 * (g % 4) + (p + 1 + sz')) 4 := lev_ne 4 _ (t := t - (sz' + 1)) (by omega) (fun j hj => ⟨hb1 j hj, hb2 j hj⟩) (by rw [show 240 * (g % 4) + (p + 1 + sz') + (t - (sz' + 1)) = 240 * (g % 4) + p + t by omega]; exact hne)
      have hv := congrArg Int32.toBitVec hc
      have hv2 := congrArg BitVec.toNat hv
      have ev : ∀ x : Nat, x < 2 ^ 32 → (nI x).toBitVec.toNat = x := fun x hx => by show x % 2 ^ 32 = x; exact Nat.mod_eq_of_lt hx
      rw [ev _ (hlt b' hb1), ev _ (hlt b hb2)] at hv2
      exact hne2 hv2
