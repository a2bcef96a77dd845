/-! numbers out of bytes, the lowest first -/
def By (x : Int32) : Prop := ∃ b : Nat, b < 256 ∧ x = nI b
def lev (f : Nat → Int32) : Nat → Nat → Nat
  | _, 0 => 0
  | q, n + 1 => (f q).toNatClampNeg + 256 * lev f (q + 1) n
theorem lev_congr {f g : Nat → Int32} : ∀ (n q : Nat) (r : Nat), (∀ j, j < n → f (q + j) = g (r + j)) → lev f q n = lev g r n := by
  intro n
  induction n with
  | zero => intro q r h; rfl
  | succ n ih =>
    intro q r h
    show (f q).toNatClampNeg + 256 * lev f (q + 1) n = (g r).toNatClampNeg + 256 * lev g (r + 1) n
    have h0 := h 0 (by omega)
    rw [Nat.add_zero, Nat.add_zero] at h0
    rw [h0, ih (q + 1) (r + 1) (fun j hj => by have := h (j + 1) (by omega); rw [show q + 1 + j = q + (j + 1) by omega, show r + 1 + j = r + (j + 1) by omega]; exact this)]
theorem lev_lt {f : Nat → Int32} : ∀ (n q : Nat), (∀ j, j < n → By (f (q + j))) → lev f q n < 2 ^ (8 * n) := by
  intro n
  induction n with
  | zero => intro q h; exact Nat.one_pos
  | succ n ih =>
    intro q h
    show (f q).toNatClampNeg + 256 * lev f (q + 1) n < _
    have h1 := ih (q + 1) (fun j hj => by have := h (j + 1) (by omega); rw [show q + 1 + j = q + (j + 1) by omega]; exact this)
    obtain ⟨b, hb, e⟩ := h 0 (by omega)
    rw [Nat.add_zero] at e
    rw [e, n_cl (by omega), show 8 * (n + 1) = 8 * n + 8 by omega, Nat.pow_add]
    omega
theorem takeX_loop (J : Int64 → Option Int64) (b : Nat → Int32) (a p cnt : Nat) (ha : a < 2147483648) (hp : p + cnt ≤ 240) (hc : cnt ≤ 8) (hb : ∀ j, j < cnt → By (b (240 * (a % 4) + p + j))) :
    ∀ (m i : Nat), i + m = cnt → ∀ (n : Nat), m < n → ∀ (y : Int32) (T : Nat) (x : Int64), y = nI i → x = lN T → T < 2 ^ (8 * i) → T + 2 ^ (8 * i) * lev b (240 * (a % 4) + p + i) m = lev b (240 * (a % 4) + p) cnt → lo2 (sX2_take_6 (nI cnt) J (nI p) b (nI a)) n x y = J (lN (lev b (240 * (a % 4) + p) cnt)) := by
  intro m
  induction m with
  | zero =>
    intro i hi n hn y T x hy hx hT hv
    subst hy; subst hx
    obtain ⟨n, rfl⟩ : ∃ z, n = z + 1 := ⟨n - 1, by omega⟩
    obtain rfl : i = cnt := by omega
    rw [lo2_s, sX2_take_6, if_pos (by rw [n_le (by omega) (by omega)]; omega), ← hv]
    rfl
  | succ m ih =>
    intro i hi n hn y T x hy hx hT hv
    subst hy; subst hx
    obtain ⟨n, rfl⟩ : ∃ z, n = z + 1 := ⟨n - 1, by omega⟩
    obtain ⟨c, hc1, ec⟩ := hb i (by omega)
    have ep : (2 : Nat) ^ (8 * (i + 1)) = 2 ^ (8 * i) * 256 := by rw [show 8 * (i + 1) = 8 * i + 8 by omega, Nat.pow_add]
    have e64 : (2 : Nat) ^ (8 * (i + 1)) ≤ 2 ^ 64 := Nat.pow_le_pow_right (by decide) (by omega)
    have hcm : c * 2 ^ (8 * i) ≤ 255 * 2 ^ (8 * i) := Nat.mul_le_mul_right _ (by omega)
    rw [lo2_s, sX2_take_6, if_neg (by rw [n_le (by omega) (by omega)]; omega)]
    simp only [bnd_e]
    rw [n_add, byteAt_ok b ha (by omega), cal1_e, ← Nat.add_assoc, ec, nI_l (by omega), show (8 : Int32) * nI i = nI (8 * i) from by rw [l8, n_mul], wb_shl c (by omega), g_or' (k := 8 * i) rfl hT (by omega), nI_1]
    refine ih (i + 1) (by omega) n (by omega) _ _ _ rfl rfl (by omega) ?_
    rw [← hv]
    show _ = T + 2 ^ (8 * i) * ((b (240 * (a % 4) + p + i)).toNatClampNeg + 256 * lev b (240 * (a % 4) + p + i + 1) m)
    rw [ec, n_cl (by omega), ep, Nat.mul_add, Nat.mul_assoc, Nat.mul_comm c, ← Nat.add_assoc, ← Nat.add_assoc]
theorem take_ok {a p cnt : Nat} (b : Nat → Int32) (ha : a < 2147483648) (hp : p + cnt ≤ 240) (hc : cnt ≤ 8) (hb : ∀ j, j < cnt → By (b (240 * (a % 4) + p + j))) : fX2_take b (nI a) (nI p) (nI cnt) = some (lN (lev b (240 * (a % 4) + p) cnt)) := by
  rw [fX2_take, jp_e]
  exact takeX_loop _ b a p cnt ha hp hc hb cnt 0 (by omega) 1000 (by omega) 0 0 0 rfl rfl (by decide) (by rw [Nat.mul_zero, Nat.pow_zero, Nat.one_mul, Nat.zero_add, Nat.add_zero])
