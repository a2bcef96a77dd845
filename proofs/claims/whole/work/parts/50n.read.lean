/-! reading a record -/
theorem take_2 {a p : Nat} (b : Nat → Int32) (ha : a < 2147483648) (hp : p + 2 ≤ 240) (hb : ∀ j, j < 2 → By (b (240 * (a % 4) + p + j))) : fX2_take b (nI a) (nI p) 2 = some (lN (lev b (240 * (a % 4) + p) 2)) := take_ok (cnt := 2) b ha hp (by omega) hb
theorem take_4 {a p : Nat} (b : Nat → Int32) (ha : a < 2147483648) (hp : p + 4 ≤ 240) (hb : ∀ j, j < 4 → By (b (240 * (a % 4) + p + j))) : fX2_take b (nI a) (nI p) 4 = some (lN (lev b (240 * (a % 4) + p) 4)) := take_ok (cnt := 4) b ha hp (by omega) hb
theorem take_8 {a p : Nat} (b : Nat → Int32) (ha : a < 2147483648) (hp : p + 8 ≤ 240) (hb : ∀ j, j < 8 → By (b (240 * (a % 4) + p + j))) : fX2_take b (nI a) (nI p) 8 = some (lN (lev b (240 * (a % 4) + p) 8)) := take_ok (cnt := 8) b ha hp (by omega) hb
theorem num_2 {p : Nat} (b : Nat → Int32) (hp : p + 2 ≤ 960) (hb : ∀ j, j < 2 → By (b (p + j))) : fX6_number b (nI p) 2 = some (lN (lev b p 2)) := number_ok (cnt := 2) b hp (by omega) hb
theorem num_4 {p : Nat} (b : Nat → Int32) (hp : p + 4 ≤ 960) (hb : ∀ j, j < 4 → By (b (p + j))) : fX6_number b (nI p) 4 = some (lN (lev b p 4)) := number_ok (cnt := 4) b hp (by omega) hb
theorem num_8 {p : Nat} (b : Nat → Int32) (hp : p + 8 ≤ 960) (hb : ∀ j, j < 8 → By (b (p + j))) : fX6_number b (nI p) 8 = some (lN (lev b p 8)) := number_ok (cnt := 8) b hp (by omega) hb
/-- both read alike at p: a record, or none -/
def OutR (l p c : Nat) (rX : Option (Int32 × Int32 × Int32 × Int32 × Int32 × Int64)) (rM : Option (Int32 × Int32 × Int32 × Int32 × Int32 × Int32 × Int64)) : Prop :=
  (∃ (kind : Int32) (sz q i : Nat) (idX idM ver : Int32) (src : Int64), kz kind sz ∧ p + sz + 5 ≤ l ∧ q < 65536 ∧ (kind = 3 ∨ (idX = nI i ∧ idM = nI i ∧ i < 16)) ∧ rX = some (nI (sz + 5), kind, nI q, idX, ver, src) ∧ rM = some (if q ≤ c + 63 then 1 else 0, kind, nI q, idM, ver, nI (p + sz + 5), src)) ∨
  (∃ (k1 k2 k3 k4 m1 m2 m3 m4 m5 : Int32) (k5 m6 : Int64), rX = some (0, k1, k2, k3, k4, k5) ∧ rM = some (0, m1, m2, m3, m4, m5, m6))
theorem OutR_no {l p c : Nat} {rX : Option (Int32 × Int32 × Int32 × Int32 × Int32 × Int64)} {rM : Option (Int32 × Int32 × Int32 × Int32 × Int32 × Int32 × Int64)} (hX : ∃ (k1 k2 k3 k4 : Int32) (k5 : Int64), rX = some (0, k1, k2, k3, k4, k5)) (hM : ∃ (m1 m2 m3 m4 m5 : Int32) (m6 : Int64), rM = some (0, m1, m2, m3, m4, m5, m6)) : OutR l p c rX rM := by
  obtain ⟨k1, k2, k3, k4, k5, e1⟩ := hX
  obtain ⟨m1, m2, m3, m4, m5, m6, e2⟩ := hM
  exact Or.inr ⟨k1, k2, k3, k4, m1, m2, m3, m4, m5, k5, m6, e1, e2⟩
theorem read_both {a g s i p c : Nat} {lX bX lM bM : Nat → Int32} {len : Nat → Nat} (hL : RLo a g s lX bX lM bM len) (ha : a < 100000000) (hc : c < 1000000000) (hi : i < g) (hp : p ≤ len i) (o1 o2 o3 o4 r1 r2 r3 r4 r5 : Int32) (o5 r6 : Int64) :
    OutR (len i) p c (fX2_read bX lX o1 o2 o3 o4 o5 (nI (a + i)) (nI p)) (fX6_reads (mI c) bM lM r1 r2 r3 r4 r5 r6 (nI i) (nI p)) := by
  obtain ⟨hg1, hg4, hs0, hR⟩ := hL
  obtain ⟨q1, q2, q3, q4, q5⟩ := hR i hi
  have eX : ∀ (K : Int32 → Option (Int32 × Int32 × Int32 × Int32 × Int32 × Int64)), cal1 (fX2_lengthOf lX (nI (a + i))) (fun r1 => bnd (r1 - nI p) K) = K (nI (len i - p)) := by
    intro K
    rw [lengthOf_ok (by omega) lX q2, cal1_e, n_sub hp, bnd_e]
  have eM : ∀ (K : Int32 → Int32 → Option (Int32 × Int32 × Int32 × Int32 × Int32 × Int32 × Int64)), (bnd (240 * nI i : Int32) (fun z1 => (bnd (z1 + nI p : Int32) (fun z2 => (rdI lM 4 (nI i) (fun z3 => (bnd (z3 - nI p : Int32) (fun z4 => K z2 z4)))))))) = K (nI (240 * i + p)) (nI (len i - p)) := by
    intro K
    rw [l240, n_mul, bnd_e, n_add, bnd_e, rdI_n (by omega) (by omega), q3, n_sub hp, bnd_e]
  by_cases h2 : 2 ≤ len i - p
  rotate_left
  · refine OutR_no ?_ ?_
    · rw [fX2_read, eX, if_neg (by rw [l8, n_le (by omega) (by omega)]; omega)]
      exact ⟨_, _, _, _, _, rfl⟩
    · rw [fX6_reads, eM, if_neg (by rw [l2, n_le (by omega) (by omega)]; omega)]
      exact ⟨_, _, _, _, _, _, rfl⟩
  obtain ⟨kind, k1⟩ : ∃ z, bM (240 * i + p + 1) = z := ⟨_, rfl⟩
  have k1X : bX (240 * ((a + i) % 4) + (p + 1)) = kind := by rw [q4 (p + 1) (by omega)]; exact k1
  obtain ⟨b0, k0⟩ : ∃ z, bM (240 * i + p) = z := ⟨_, rfl⟩
  have k0X : bX (240 * ((a + i) % 4) + p) = b0 := by rw [q4 p (by omega)]; exact k0
  have hM2 : (2 : Int32) ≤ nI (len i - p) := by rw [l2, n_le (by omega) (by omega)]; omega
  have ep1 : nI p + 1 = nI (p + 1) := n_add p 1
  have em1 : nI (240 * i + p) + 1 = nI (240 * i + p + 1) := n_add _ 1
  by_cases hk : kind = 1 ∨ kind = 2 ∨ kind = 3
  rotate_left
  · refine OutR_no ?_ ?_
    · rw [fX2_read, eX]
      by_cases h8 : 8 ≤ len i - p
      · rw [if_pos (by rw [l8, n_le (by omega) (by omega)]; omega), ep1, bnd_e, byteAt_ok bX (by omega) (by omega), cal1_e, k1X, sizeX_no hk, cal1_e, bnd_e, jp_e, if_pos rfl]
        exact ⟨_, _, _, _, _, rfl⟩
      · rw [if_neg (by rw [l8, n_le (by omega) (by omega)]; omega)]
        exact ⟨_, _, _, _, _, rfl⟩
    · rw [fX6_reads, eM, if_pos hM2, rdI_n (by omega) (by omega), em1, bnd_e, rdI_n (by omega) (by omega), k1, in_no (by intro h; apply hk; grind), cal1_e, jp_e, if_pos rfl]
      exact ⟨_, _, _, _, _, _, rfl⟩
  obtain ⟨sz, hkz⟩ := kz_of hk
  have hsz : 3 ≤ sz ∧ sz ≤ 14 := by rcases hkz with ⟨_, h⟩ | ⟨_, h⟩ | ⟨_, h⟩ <;> omega
  have hin : fX6_in kind 1 3 = some 1 := by rcases hk with rfl | rfl | rfl <;> exact in_yes (by decide) (by decide)
  have eM2 : ∀ (K : Int32 → Int32 → Int32 → Option (Int32 × Int32 × Int32 × Int32 × Int32 × Int32 × Int64)), (rdI bM 960 (nI (240 * i + p)) (fun z5 => (bnd (nI (240 * i + p) + 1 : Int32) (fun z6 => (rdI bM 960 z6 (fun z7 => (cal1 (fX6_in z7 1 3) (fun r8 => K z5 z7 r8)))))))) = K b0 kind 1 := by
    intro K
    rw [rdI_n (by omega) (by omega), em1, bnd_e, rdI_n (by omega) (by omega), k0, k1, hin, cal1_e]
  by_cases hl : p + sz + 5 ≤ len i ∧ b0 = nI sz
  rotate_left
  · refine OutR_no ?_ ?_
    · rw [fX2_read, eX]
      by_cases h8 : 8 ≤ len i - p
      · rw [if_pos (by rw [l8, n_le (by omega) (by omega)]; omega), ep1, bnd_e, byteAt_ok bX (by omega) (by omega), cal1_e, k1X, sizeX_ok hkz, cal1_e, bnd_e, jp_e, if_neg (by rw [l0, n_eq (by omega) (by omega)]; omega)]
        by_cases h5 : len i - p < sz + 5
        · rw [if_pos (by rw [n_lt (by omega) (by omega)]; omega)]
          exact ⟨_, _, _, _, _, rfl⟩
        · rw [if_neg (by rw [n_lt (by omega) (by omega)]; omega), byteAt_ok bX (by omega) (by omega), cal1_e, k0X, l5, n_sub (by omega), if_neg (by intro h; rw [show sz + 5 - 5 = sz by omega] at h; exact hl ⟨by omega, h⟩)]
          exact ⟨_, _, _, _, _, rfl⟩
      · rw [if_neg (by rw [l8, n_le (by omega) (by omega)]; omega)]
        exact ⟨_, _, _, _, _, rfl⟩
    · rw [fX6_reads, eM, if_pos hM2, eM2, jp_e, if_neg (by decide), sizeM_ok hkz, cal1_e]
      by_cases hb : b0 = nI sz
      · subst hb
        rw [if_pos rfl, show nI sz + 5 = nI (sz + 5) from n_add sz 5, bnd_e, if_neg (by rw [n_le (by omega) (by omega)]; intro h; exact hl ⟨by omega, rfl⟩)]
        exact ⟨_, _, _, _, _, _, rfl⟩
      · rw [if_neg hb]
        exact ⟨_, _, _, _, _, _, rfl⟩
  obtain ⟨hl, rfl⟩ := hl
  have hfX : ∀ (K N : Option (Int32 × Int32 × Int32 × Int32 × Int32 × Int64)), fX2_read bX lX o1 o2 o3 o4 o5 (nI (a + i)) (nI p) = fX2_read bX lX o1 o2 o3 o4 o5 (nI (a + i)) (nI p) := fun _ _ => rfl
  have hcrc := crcOf_RB (l := p) (n := sz + 1) (pX := 240 * ((a + i) % 4)) (pM := 240 * i) (bX := bX) (bM := bM) (fun j hj => q4 j (by omega))
  have hby : ∀ j, j < len i → By (bX (240 * ((a + i) % 4) + j)) := fun j hj => by rw [q4 j hj]; exact q5 j hj
  have hlev : ∀ u n, u + n ≤ len i → lev bX (240 * ((a + i) % 4) + u) n = lev bM (240 * i + u) n := fun u n h => lev_congr n _ _ (fun j hj => by rw [Nat.add_assoc, Nat.add_assoc]; exact q4 (u + j) (by omega))
  have tk4 : fX2_take bX (nI (a + i)) (nI (p + 1 + sz)) 4 = some (lN (lev bM (240 * i + (p + 1 + sz)) 4)) := by
    rw [take_4 bX (by omega) (by omega) (fun j hj => by rw [Nat.add_assoc]; exact hby _ (by omega)), hlev _ _ (by omega)]
  have nm4 : fX6_number bM (nI (240 * i + p + sz + 1)) 4 = some (lN (lev bM (240 * i + (p + 1 + sz)) 4)) := by
    rw [show 240 * i + p + sz + 1 = 240 * i + (p + 1 + sz) by omega, num_4 bM (by omega) (fun j hj => by rw [Nat.add_assoc]; exact q5 _ (by omega))]
  have ckX : fX2_checksum bX (nI (a + i)) (nI p) (nI (sz + 1)) = some (crcOf bM (240 * i + p) (sz + 1)) := by
    rw [← hcrc]; exact checksum_ok bX (by omega) (by omega)
  have ckM : fX6_sum bM (nI (240 * i + p)) (nI (sz + 1)) = some (crcOf bM (240 * i + p) (sz + 1)) := sum_ok bM (by omega) (by omega)
  have c5 : nI (sz + 5) - 5 = nI sz := by rw [l5, n_sub (by omega), show sz + 5 - 5 = sz by omega]
  have esz1 : nI sz + 1 = nI (sz + 1) := n_add sz 1
  have esz5 : nI sz + 5 = nI (sz + 5) := n_add sz 5
  by_cases hcs : nI (lev bM (240 * i + (p + 1 + sz)) 4) = crcOf bM (240 * i + p) (sz + 1)
  rotate_left
  · refine OutR_no ?_ ?_
    · rw [fX2_read, eX, if_pos (by rw [l8, n_le (by omega) (by omega)]; omega), ep1, bnd_e, byteAt_ok bX (by omega) (by omega), cal1_e, k1X, sizeX_ok hkz, cal1_e, c5, bnd_e, jp_e, if_neg (by rw [l0, n_eq (by omega) (by omega)]; omega), if_neg (by rw [n_lt (by omega) (by omega)]; omega), byteAt_ok bX (by omega) (by omega), cal1_e, k0X, if_pos rfl, bnd_e, n_add, bnd_e, tk4, cal1_e, lN_i, bnd_e, esz1, bnd_e, ckX, cal1_e, if_neg hcs]
      exact ⟨_, _, _, _, _, rfl⟩
    · rw [fX6_reads, eM, if_pos hM2, eM2, jp_e, if_neg (by decide), sizeM_ok hkz, cal1_e, if_pos rfl, esz5, bnd_e, if_pos (by rw [n_le (by omega) (by omega)]; omega), esz1, bnd_e, ckM, cal1_e, n_add, bnd_e, show nI (240 * i + p + sz) + 1 = nI (240 * i + p + sz + 1) from n_add _ 1, bnd_e, nm4, cal1_e, lN_i, bnd_e, if_neg (fun h => hcs h.symm)]
      exact ⟨_, _, _, _, _, _, rfl⟩
  obtain ⟨q, hq⟩ : ∃ z, lev bM (240 * i + (p + 2)) 2 = z := ⟨_, rfl⟩
  have hq2 : q < 65536 := by
    rw [← hq]
    exact lev_lt 2 (240 * i + (p + 2)) (fun j hj => by rw [Nat.add_assoc]; exact q5 _ (by omega))
  have sqX : fX2_take bX (nI (a + i)) (nI (p + 2)) 2 = some (lN q) := by
    rw [take_2 bX (by omega) (by omega) (fun j hj => by rw [Nat.add_assoc]; exact hby _ (by omega)), hlev _ _ (by omega), hq]
  have sqM : fX6_number bM (nI (240 * i + p + 2)) 2 = some (lN q) := by
    rw [Nat.add_assoc, num_2 bM (by omega) (fun j hj => by rw [Nat.add_assoc]; exact q5 _ (by omega)), hq]
  have ep2 : nI p + 2 = nI (p + 2) := n_add p 2
  have ep4 : nI p + 4 = nI (p + 4) := n_add p 4
  have ep5 : nI p + 5 = nI (p + 5) := n_add p 5
  have ep7 : nI p + 7 = nI (p + 7) := n_add p 7
  have em2 : nI (240 * i + p) + 2 = nI (240 * i + p + 2) := n_add _ 2
  have em4 : nI (240 * i + p) + 4 = nI (240 * i + p + 4) := n_add _ 4
  have em5 : nI (240 * i + p) + 5 = nI (240 * i + p + 5) := n_add _ 5
  have em7 : nI (240 * i + p) + 7 = nI (240 * i + p + 7) := n_add _ 7
  have een : nI (p + sz) + 5 = nI (p + sz + 5) := n_add _ 5
  have hch : ∀ (A B : Option (Int32 × Int32 × Int32 × Int32 × Int32 × Int32 × Int64)), (bnd (mI c + 64 : Int32) (fun z31 => if z31 < nI q then A else B)) = if q ≤ c + 63 then B else A := by
    intro A B
    rw [bnd_e, show mI c + 64 = nI (c + 63) from m_add c 63]
    by_cases h : q ≤ c + 63
    · rw [if_pos h, if_neg (by rw [n_lt (by omega) (by omega)]; omega)]
    · rw [if_neg h, if_pos (by rw [n_lt (by omega) (by omega)]; omega)]
  have hfin : ∀ (id ver : Int32) (src : Int64), (if q ≤ c + 63 then zok 1 (some ((1 : Int32), kind, nI q, id, ver, nI (p + sz + 5), src)) else zok 0 (some ((0 : Int32), kind, nI q, id, ver, nI (p + sz + 5), src))) = some (if q ≤ c + 63 then 1 else 0, kind, nI q, id, ver, nI (p + sz + 5), src) := by
    intro id ver src
    by_cases h : q ≤ c + 63
    · rw [if_pos h, if_pos h, zok_1]
    · rw [if_neg h, if_neg h, zok_0]
  by_cases h3 : kind = 3
  · have h1 : ¬ kind = 1 := by rw [h3]; decide
    refine Or.inl ⟨kind, sz, q, 0, -1, 0, 0, 0, hkz, hl, hq2, Or.inl h3, ?_, ?_⟩
    · rw [fX2_read, eX, if_pos (by rw [l8, n_le (by omega) (by omega)]; omega), ep1, bnd_e, byteAt_ok bX (by omega) (by omega), cal1_e, k1X, sizeX_ok hkz, cal1_e, c5, bnd_e, jp_e, if_neg (by rw [l0, n_eq (by omega) (by omega)]; omega), if_neg (by rw [n_lt (by omega) (by omega)]; omega), byteAt_ok bX (by omega) (by omega), cal1_e, k0X, if_pos rfl, bnd_e, n_add, bnd_e, tk4, cal1_e, lN_i, bnd_e, esz1, bnd_e, ckX, cal1_e, if_pos hcs]
      simp only [jp_e]
      rw [if_pos h3, if_pos h3, if_pos h3, if_neg h1, ep2, bnd_e, sqX, cal1_e, lN_i, bnd_e, fX3_become, cal5_e]
    · rw [fX6_reads, eM, if_pos hM2, eM2, jp_e, if_neg (by decide), sizeM_ok hkz, cal1_e, if_pos rfl, esz5, bnd_e, if_pos (by rw [n_le (by omega) (by omega)]; omega), esz1, bnd_e, ckM, cal1_e, n_add, bnd_e, show nI (240 * i + p + sz) + 1 = nI (240 * i + p + sz + 1) from n_add _ 1, bnd_e, nm4, cal1_e, lN_i, bnd_e, if_pos hcs.symm, em2, bnd_e, sqM, cal1_e, lN_i, bnd_e]
      simp only [jp_e]
      rw [if_pos h3, if_pos h3, if_neg h1, n_add, bnd_e, een, bnd_e, if_neg (by decide), hch, hfin]
  · obtain ⟨j, hj, k4⟩ := q5 (p + 4) (by omega)
    have k4M : bM (240 * i + p + 4) = nI j := k4
    have k4X : bX (240 * ((a + i) % 4) + (p + 4)) = nI j := by rw [q4 (p + 4) (by omega)]; exact k4
    have hs6 : 6 ≤ sz := by rcases hkz with ⟨_, h⟩ | ⟨_, h⟩ | ⟨h, _⟩ <;> first | omega | exact absurd h h3
    obtain ⟨v, hv⟩ : ∃ z, lev bM (240 * i + (p + 5)) 2 = z := ⟨_, rfl⟩
    have svX : fX2_take bX (nI (a + i)) (nI (p + 5)) 2 = some (lN v) := by
      rw [take_2 bX (by omega) (by omega) (fun j hj => by rw [Nat.add_assoc]; exact hby _ (by omega)), hlev _ _ (by omega), hv]
    have svM : fX6_number bM (nI (240 * i + p + 5)) 2 = some (lN v) := by
      rw [Nat.add_assoc, num_2 bM (by omega) (fun j hj => by rw [Nat.add_assoc]; exact q5 _ (by omega)), hv]
    have ssr : kind = 1 → fX2_take bX (nI (a + i)) (nI (p + 7)) 8 = some (lN (lev bM (240 * i + (p + 7)) 8)) ∧ fX6_number bM (nI (240 * i + p + 7)) 8 = some (lN (lev bM (240 * i + (p + 7)) 8)) := by
      intro h1
      have : sz = 14 := by
        rcases hkz with ⟨_, h⟩ | ⟨h, _⟩ | ⟨h, _⟩
        · exact h
        · rw [h1] at h; exact absurd h (by decide)
        · rw [h1] at h; exact absurd h (by decide)
      constructor
      · rw [take_8 bX (by omega) (by omega) (fun j hj => by rw [Nat.add_assoc]; exact hby _ (by omega)), hlev _ _ (by omega)]
      · rw [Nat.add_assoc, num_8 bM (by omega) (fun j hj => by rw [Nat.add_assoc]; exact q5 _ (by omega))]
    have eXp : fX2_read bX lX o1 o2 o3 o4 o5 (nI (a + i)) (nI p) = if j < 16 then some (nI (sz + 5), kind, nI q, nI j, nI v, if kind = 1 then lN (lev bM (240 * i + (p + 7)) 8) else 0) else some (0, o1, o2, o3, o4, o5) := by
      rw [fX2_read, eX, if_pos (by rw [l8, n_le (by omega) (by omega)]; omega), ep1, bnd_e, byteAt_ok bX (by omega) (by omega), cal1_e, k1X, sizeX_ok hkz, cal1_e, c5, bnd_e, jp_e, if_neg (by rw [l0, n_eq (by omega) (by omega)]; omega), if_neg (by rw [n_lt (by omega) (by omega)]; omega), byteAt_ok bX (by omega) (by omega), cal1_e, k0X, if_pos rfl, bnd_e, n_add, bnd_e, tk4, cal1_e, lN_i, bnd_e, esz1, bnd_e, ckX, cal1_e, if_pos hcs]
      simp only [jp_e]
      rw [if_neg h3, ep4, bnd_e, byteAt_ok bX (by omega) (by omega), cal1_e, k4X, if_neg h3, if_neg h3]
      by_cases hj16 : j < 16
      · rw [if_pos hj16, isId_n hj16, cal1_e, if_neg (by decide), ep5, bnd_e, svX, cal1_e, lN_i, bnd_e]
        by_cases h1 : kind = 1
        · rw [if_pos h1, if_pos h1, ep7, bnd_e, (ssr h1).1, cal1_e, ep2, bnd_e, sqX, cal1_e, lN_i, bnd_e, fX3_become, cal5_e]
        · rw [if_neg h1, if_neg h1, ep2, bnd_e, sqX, cal1_e, lN_i, bnd_e, fX3_become, cal5_e]
      · rw [if_neg hj16, isId_no (by intro h; have := h.2; rw [l16, n_lt (by omega) (by omega)] at this; exact hj16 this), cal1_e, if_pos rfl]
    have eMp : fX6_reads (mI c) bM lM r1 r2 r3 r4 r5 r6 (nI i) (nI p) = some (if j < 16 then (if q ≤ c + 63 then 1 else 0) else 0, kind, nI q, nI j, nI v, nI (p + sz + 5), if kind = 1 then lN (lev bM (240 * i + (p + 7)) 8) else 0) := by
      rw [fX6_reads, eM, if_pos hM2, eM2, jp_e, if_neg (by decide), sizeM_ok hkz, cal1_e, if_pos rfl, esz5, bnd_e, if_pos (by rw [n_le (by omega) (by omega)]; omega), esz1, bnd_e, ckM, cal1_e, n_add, bnd_e, show nI (240 * i + p + sz) + 1 = nI (240 * i + p + sz + 1) from n_add _ 1, bnd_e, nm4, cal1_e, lN_i, bnd_e, if_pos hcs.symm, em2, bnd_e, sqM, cal1_e, lN_i, bnd_e]
      simp only [jp_e]
      rw [if_neg h3, em4, bnd_e, rdI_n (by omega) (by omega), k4M, if_neg h3, em5, bnd_e, svM, cal1_e, lN_i, bnd_e]
      by_cases h1 : kind = 1
      · rw [if_pos h1, if_pos h1, em7, bnd_e, (ssr h1).2, cal1_e, n_add, bnd_e, een, bnd_e]
        by_cases hj16 : j < 16
        · rw [if_pos hj16, if_neg (by rw [l16, n_le (by omega) (by omega)]; omega), hch, hfin]
        · rw [if_neg hj16, if_pos (by rw [l16, n_le (by omega) (by omega)]; omega), zok_0]
      · rw [if_neg h1, if_neg h1, n_add, bnd_e, een, bnd_e]
        by_cases hj16 : j < 16
        · rw [if_pos hj16, if_neg (by rw [l16, n_le (by omega) (by omega)]; omega), hch, hfin]
        · rw [if_neg hj16, if_pos (by rw [l16, n_le (by omega) (by omega)]; omega), zok_0]
    by_cases hj16 : j < 16
    · rw [if_pos hj16] at eXp eMp
      exact Or.inl ⟨kind, sz, q, j, nI j, nI j, nI v, _, hkz, hl, hq2, Or.inr ⟨rfl, rfl, hj16⟩, eXp, eMp⟩
    · rw [if_neg hj16] at eXp eMp
      exact Or.inr ⟨_, _, _, _, _, _, _, _, _, _, _, eXp, eMp⟩
