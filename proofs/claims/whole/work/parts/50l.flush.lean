/-! flush -/
def RC (oc omx : Nat) (kX sX vX : Nat → Int32) (oX : Nat → Int64) (kM sM vM : Nat → Int32) (oM : Nat → Int64) : Prop := RD kX sX vX oX kM sM vM oM ∧ ID kX sX oX ∧ oc ≤ omx ∧ omx ≤ oc + 64
theorem RD_cpf {k s v k' s' v' a b c a' b' c' : Nat → Int32} {o o' d d' : Nat → Int64} (h : RD k s v o k' s' v' o') : RD (cpf a k 0 16) (cpf b s 0 16) (cpf c v 0 16) (cpf d o 0 16) (cpf a' k' 0 16) (cpf b' s' 0 16) (cpf c' v' 0 16) (cpf d' o' 0 16) := by
  intro i hi
  rw [cpf_at _ _ (by omega) hi, cpf_at _ _ (by omega) hi, cpf_at _ _ (by omega) hi, cpf_at _ _ (by omega) hi, cpf_at _ _ (by omega) hi, cpf_at _ _ (by omega) hi, cpf_at _ _ (by omega) hi, cpf_at _ _ (by omega) hi]
  exact h i hi
theorem ID_cpf {k s a b : Nat → Int32} {o d : Nat → Int64} (h : ID k s o) : ID (cpf a k 0 16) (cpf b s 0 16) (cpf d o 0 16) := by
  intro i hi
  rw [cpf_at _ _ (by omega) hi, cpf_at _ _ (by omega) hi, cpf_at _ _ (by omega) hi]
  exact h i hi
theorem going_both {a g : Nat} (hg1 : 1 ≤ g) (hg4 : g ≤ 4) (ha : a < 100000000) {gX gM : Nat → Int32} (hG : RG a g gX gM) (c : Int32) (J : Int32 → Option ((Int32) × (Nat → Int32) × (Nat → Int32) × (Nat → Int32) × (Nat → Int64) × (Int32) × (Int32) × (Int32) × (Nat → Int32) × (Nat → Int32) × (Nat → Int32) × (Int32) × (Int32) × (Int32))) :
    ∀ (m i : Nat), i + m = g → ∀ (n : Nat), m < n → ∃ k, k ≤ g ∧ lo2 (sX2_countUpTo_7 (nI (a + (g - 1))) (fun y => some y) gX c) n (nI i) (nI (a + i)) = some (nI k) ∧ lo1 (sX6_flush_12 (nI g) J gM c) n (nI i) = J (nI k) := by
  intro m
  induction m with
  | zero =>
    intro i hi n hn
    obtain ⟨n, rfl⟩ : ∃ z, n = z + 1 := ⟨n - 1, by omega⟩
    refine ⟨i, by omega, ?_, ?_⟩
    · rw [lo2_s, sX2_countUpTo_7, if_pos (by rw [n_lt (by omega) (by omega)]; omega)]
    · rw [lo1_s, sX6_flush_12, if_pos (by rw [n_le (by omega) (by omega)]; omega)]
  | succ m ih =>
    intro i hi n hn
    obtain ⟨n, rfl⟩ : ∃ z, n = z + 1 := ⟨n - 1, by omega⟩
    obtain ⟨k, hk, e1, e2⟩ := ih (i + 1) (by omega) n (by omega)
    have hg := hG i (by omega)
    by_cases h : gM i ≤ c
    · refine ⟨k, hk, ?_, ?_⟩
      · rw [lo2_s, sX2_countUpTo_7, if_neg (by rw [n_lt (by omega) (by omega)]; omega), rowOf_ok _ (by omega), cal1_e, rdI_n (by omega) (by omega), hg, if_pos h, nI_1, bnd_e, nI_1, bnd_e]
        exact e1
      · rw [lo1_s, sX6_flush_12, if_neg (by rw [n_le (by omega) (by omega)]; omega), rdI_n (by omega) (by omega), if_neg (by grind), nI_1, bnd_e]
        exact e2
    · refine ⟨i, by omega, ?_, ?_⟩
      · rw [lo2_s, sX2_countUpTo_7, if_neg (by rw [n_lt (by omega) (by omega)]; omega), rowOf_ok _ (by omega), cal1_e, rdI_n (by omega) (by omega), hg, if_neg h]
      · rw [lo1_s, sX6_flush_12, if_neg (by rw [n_le (by omega) (by omega)]; omega), rdI_n (by omega) (by omega), if_pos (by grind)]
theorem flushDocs_loop (J : (Nat → Int32) → (Nat → Int32) → (Nat → Int32) → (Nat → Int64) → Option ((Int32) × (Nat → Int32) × (Nat → Int32) × (Nat → Int32) × (Nat → Int64) × (Int32) × (Int32) × (Int32) × (Nat → Int32) × (Nat → Int32) × (Nat → Int32) × (Int32) × (Int32) × (Int32))) (k s v : Nat → Int32) (o : Nat → Int64) :
    ∀ (m i : Nat), i + m = 16 → ∀ (n : Nat), m < n → ∀ (y : Int32) (a b c : Nat → Int32) (d : Nat → Int64), y = nI i → lo5 (sX6_flush_59 J k s v o) n y a b c d = J (cpf a k i 16) (cpf b s i 16) (cpf c v i 16) (cpf d o i 16) := by
  intro m
  induction m with
  | zero =>
    intro i hi n hn y a b c d hy
    subst hy
    obtain rfl : i = 16 := by omega
    obtain ⟨n, rfl⟩ : ∃ z, n = z + 1 := ⟨n - 1, by omega⟩
    rw [lo5_s, sX6_flush_59, if_pos (by rw [l16, n_le (by omega) (by omega)]; omega), cpf_n, cpf_n, cpf_n, cpf_n]
  | succ m ih =>
    intro i hi n hn y a b c d hy
    subst hy
    obtain ⟨n, rfl⟩ : ∃ z, n = z + 1 := ⟨n - 1, by omega⟩
    rw [lo5_s, sX6_flush_59, if_neg (by rw [l16, n_le (by omega) (by omega)]; omega), rdI_n (by omega) (by omega), wrI_n (by omega) (by omega), rdI_n (by omega) (by omega), wrI_n (by omega) (by omega), rdI_n (by omega) (by omega), wrI_n (by omega) (by omega), rdJ_n (by omega) (by omega), wrJ_n (by omega) (by omega), nI_1, bnd_e, ih (i + 1) (by omega) n (by omega) _ _ _ _ _ rfl, cpf_s _ _ (by omega), cpf_s _ _ (by omega), cpf_s _ _ (by omega), cpf_sL _ _ (by omega)]
def shf (b : Nat → Int32) (s i : Nat) : Nat → Int32 := fun j => if j < i then b (j + s) else b j
theorem shf_0 (b : Nat → Int32) (s : Nat) : shf b s 0 = b := by funext j; unfold shf; rw [if_neg (by omega)]
theorem shf_s (b : Nat → Int32) (s i : Nat) : upd (shf b s i) i (shf b s i (i + s)) = shf b s (i + 1) := by
  have e : shf b s i (i + s) = b (i + s) := by unfold shf; rw [if_neg (by omega)]
  rw [e]
  funext j
  by_cases h : j = i
  · subst h; rw [upd_s]; unfold shf; rw [if_pos (by omega)]
  · rw [upd_o _ _ h]; unfold shf
    by_cases h2 : j < i
    · rw [if_pos h2, if_pos (by omega)]
    · rw [if_neg h2, if_neg (by omega)]
theorem shiftBytes_loop (J : (Nat → Int32) → Option ((Int32) × (Nat → Int32) × (Nat → Int32) × (Nat → Int32) × (Nat → Int64) × (Int32) × (Int32) × (Int32) × (Nat → Int32) × (Nat → Int32) × (Nat → Int32) × (Int32) × (Int32) × (Int32))) (b : Nat → Int32) {k : Nat} (hk : k ≤ 4) :
    ∀ (m i : Nat), i + m = 240 * (4 - k) → ∀ (n : Nat), m < n → ∀ (y : Int32), y = nI i → lo2 (sX6_flush_137 (nI k) J) n y (shf b (240 * k) i) = J (shf b (240 * k) (240 * (4 - k))) := by
  intro m
  have e4 : (4 : Int32) - nI k = nI (4 - k) := by rw [l4, n_sub hk]
  induction m with
  | zero =>
    intro i hi n hn y hy
    subst hy
    obtain ⟨n, rfl⟩ : ∃ z, n = z + 1 := ⟨n - 1, by omega⟩
    rw [lo2_s, sX6_flush_137, e4, bnd_e, l240, n_mul, bnd_e, if_pos (by rw [n_le (by omega) (by omega)]; omega), show i = 240 * (4 - k) by omega]
  | succ m ih =>
    intro i hi n hn y hy
    subst hy
    obtain ⟨n, rfl⟩ : ∃ z, n = z + 1 := ⟨n - 1, by omega⟩
    rw [lo2_s, sX6_flush_137, e4, bnd_e, l240, n_mul, bnd_e, if_neg (by rw [n_le (by omega) (by omega)]; omega), n_mul, bnd_e, n_add, bnd_e, rdI_n (by omega) (by omega), wrI_n (by omega) (by omega), nI_1, bnd_e, shf_s, ih (i + 1) (by omega) n (by omega) _ rfl]
theorem shiftRows_loop (J : (Nat → Int32) → (Nat → Int32) → Option ((Int32) × (Nat → Int32) × (Nat → Int32) × (Nat → Int32) × (Nat → Int64) × (Int32) × (Int32) × (Int32) × (Nat → Int32) × (Nat → Int32) × (Nat → Int32) × (Int32) × (Int32) × (Int32))) (l gr : Nat → Int32) {k g : Nat} (hk : k ≤ g) (hg : g ≤ 4) :
    ∀ (m i : Nat), i + m = g - k → ∀ (n : Nat), m < n → ∀ (y : Int32), y = nI (i + k) → lo3 (sX6_flush_174 (nI g) J (nI k)) n y (shf l k i) (shf gr k i) = J (shf l k (g - k)) (shf gr k (g - k)) := by
  intro m
  induction m with
  | zero =>
    intro i hi n hn y hy
    subst hy
    obtain ⟨n, rfl⟩ : ∃ z, n = z + 1 := ⟨n - 1, by omega⟩
    rw [lo3_s, sX6_flush_174, if_pos (by rw [n_le (by omega) (by omega)]; omega), show i = g - k by omega]
  | succ m ih =>
    intro i hi n hn y hy
    subst hy
    obtain ⟨n, rfl⟩ : ∃ z, n = z + 1 := ⟨n - 1, by omega⟩
    rw [lo3_s, sX6_flush_174, if_neg (by rw [n_le (by omega) (by omega)]; omega), n_sub (by omega), bnd_e, show i + k - k = i by omega, rdI_n (by omega) (by omega), wrI_n (by omega) (by omega), bnd_e, rdI_n (by omega) (by omega), wrI_n (by omega) (by omega), nI_1, bnd_e, shf_s, shf_s, ih (i + 1) (by omega) n (by omega) _ (by rw [show i + 1 + k = i + k + 1 by omega])]
theorem shift_RLo {a g s k : Nat} {lX bX gX lM bM gM : Nat → Int32} {len : Nat → Nat} (hL : RLo a g s lX bX lM bM len) (hG : RG a g gX gM) (hk : k ≤ g) (h4 : g - k < 4) :
    RLo (a + k) (g - k + 1) 0 (upd lX ((a + g) % 4) 0) bX (upd (shf lM k (g - k)) (g - k) 0) (shf bM (240 * k) (240 * (4 - k))) (fun i => if i = g - k then 0 else len (i + k)) ∧ RG (a + k) (g - k + 1) (upd gX ((a + g) % 4) (-1)) (upd (shf gM k (g - k)) (g - k) (-1)) := by
  obtain ⟨hg1, hg4, hs0, hR⟩ := hL
  refine ⟨⟨by omega, by omega, by omega, fun i hi => ?_⟩, fun i hi => ?_⟩
  · by_cases h : i = g - k
    · subst h
      dsimp only
      rw [if_pos rfl, show a + k + (g - k) = a + g by omega]
      exact ⟨by omega, upd_s _ _ _, upd_s _ _ _, fun j hj => by omega, fun j hj => by omega⟩
    · dsimp only
      rw [if_neg h]
      obtain ⟨p1, p2, p3, p4, p5⟩ := hR (i + k) (by omega)
      have hb : ∀ j, j < 240 → shf bM (240 * k) (240 * (4 - k)) (240 * i + j) = bM (240 * (i + k) + j) := by
        intro j hj
        unfold shf
        rw [if_pos (by omega), show 240 * i + j + 240 * k = 240 * (i + k) + j by omega]
      rw [show a + k + i = a + (i + k) by omega]
      refine ⟨p1, by rw [upd_o _ _ (by omega)]; exact p2, ?_, fun j hj => ?_, fun j hj => ?_⟩
      · rw [upd_o _ _ h]; unfold shf; rw [if_pos (by omega)]; exact p3
      · rw [hb j (by omega)]; exact p4 j hj
      · rw [hb j (by omega)]; exact p5 j hj
  · by_cases h : i = g - k
    · subst h; rw [show a + k + (g - k) = a + g by omega, upd_s, upd_s]
    · rw [show a + k + i = a + (i + k) by omega, upd_o _ _ (by omega), upd_o _ _ h]
      unfold shf
      rw [if_pos (by omega)]
      exact hG (i + k) (by omega)
theorem flush_both {c mx oc omx a g s : Nat} {kX sX vX kM sM vM d lX bX gX lM bM gM ck cs cv dk ds dv : Nat → Int32} {oX oM co dO : Nat → Int64} {aX ca : Int64} {len : Nat → Nat} (hV : RVe c mx kX sX vX oX aX kM sM vM oM d) (hC : RC oc omx ck cs cv co dk ds dv dO) (hL : RLo a g s lX bX lM bM len) (hG : RG a g gX gM) (ha : a < 100000000) (p : Int32) :
    ∃ (r : Int32) (ck' cs' cv' : Nat → Int32) (co' : Nat → Int64) (oc' omx' : Nat) (ca' : Int64) (a' g' s' : Nat) (lX' gX' : Nat → Int32) (p' : Int32) (dk' ds' dv' : Nat → Int32) (dO' : Nat → Int64) (bM' lM' gM' : Nat → Int32) (len' : Nat → Nat),
      fX5_flush kX sX vX oX (mI c) (mI mx) ck cs cv co (mI oc) (mI omx) ca (nI a) (nI (a + (g - 1))) (nI s) lX gX p 0 = some (r, ck', cs', cv', co', mI oc', mI omx', ca', nI a', nI (a' + (g' - 1)), nI s', lX', gX', p') ∧
      fX6_flush kM sM vM dk ds dv oM dO (mI c) (mI mx) p (mI oc) (mI omx) 0 bM lM gM (nI a) (nI g) (nI s) = some (r, dk', ds', dv', dO', p', mI oc', mI omx', bM', lM', gM', nI a', nI g', nI s') ∧
      RC oc' omx' ck' cs' cv' co' dk' ds' dv' dO' ∧ RLo a' g' s' lX' bX lM' bM' len' ∧ RG a' g' gX' gM' ∧ a' ≤ a + 4 ∧ (oc' = oc ∨ oc' = c) := by
  obtain ⟨hD, hI, hM, hb, hc1, hc2⟩ := hV
  have hL0 := hL
  obtain ⟨hg1, hg4, hs0, hR⟩ := hL
  obtain ⟨q1, q2, q3, q4, q5⟩ := hR (g - 1) (by omega)
  obtain ⟨k, hk, e1, e2⟩ := going_both hg1 hg4 ha hG (mI c) (fun y1 => (bnd (nI g - y1 : Int32) (fun z2 => (if z2 = 4 then (some ((-3), dk, ds, dv, dO, p, mI oc, mI omx, bM, lM, gM, nI a, nI g, nI s)) else (cal3 (fX6_settle (mI c) p lM (nI g) (nI s)) (fun r3 u4 u5 => (jp (fun (w7 : Nat → Int32) (w8 : Nat → Int32) (w9 : Nat → Int32) (w10 : Nat → Int64) => (jp (fun (w11 : Nat → Int32) => (jp (fun (w12 : Nat → Int32) (w13 : Nat → Int32) => (bnd (nI a + y1 : Int32) (fun z14 => (bnd (nI g - y1 : Int32) (fun z15 => (cal4 (fX6_begin w12 w13 z15 u5) (fun u16 u17 u18 u19 => (some (y1, w7, w8, w9, w10, u4, mI c, mI mx, w11, u16, u17, z14, u18, u19))))))))) (fun J216 => (lo3 (sX6_flush_174 (nI g) J216 y1) 1000 y1 lM gM)))) (fun J172 => (lo2 (sX6_flush_137 y1 J172) 1000 0 bM)))) (fun J119 => (lo5 (sX6_flush_59 J119 kM sM vM oM) 1000 0 dk ds dv dO))))))))) g 0 (by omega) 1000 (by omega)
  have eX : fX2_countUpTo (nI a) (nI (a + (g - 1))) gX (mI c) = some (nI k) := by
    rw [fX2_countUpTo, jp_e]; exact e1
  by_cases h4 : g - k < 4
  · have hsh := shift_RLo hL0 hG hk h4
    refine ⟨nI k, cpf ck kX 0 16, cpf cs sX 0 16, cpf cv vX 0 16, cpf co oX 0 16, c, mx, 0, a + k, g - k + 1, 0, _, _, mI c, cpf dk kM 0 16, cpf ds sM 0 16, cpf dv vM 0 16, cpf dO oM 0 16, _, _, _, _, ?_, ?_, ⟨RD_cpf hD, ID_cpf hI, hc1, hc2⟩, hsh.1, hsh.2, by omega, Or.inr rfl⟩
    · rw [fX5_flush, if_pos rfl, eX, cal1_e, countL_ok hg1, cal1_e, n_sub hk, bnd_e, if_pos (by rw [l4, n_lt (by omega) (by omega)]; omega), syncCurrent_ok (by omega) q2 hs0, cal2_e, startFrom_ok, cal7_e, n_add, bnd_e, beginX_ok (by omega), cal4_e, show a + (g - 1) + 1 = a + g by omega, show a + k + (g - k + 1 - 1) = a + g by omega]
      rfl
    · rw [fX6_flush, if_pos rfl, jp_e]
      refine Eq.trans e2 ?_
      rw [n_sub hk, bnd_e, if_neg (by rw [l4, n_eq (by omega) (by omega)]; omega), settle_ok (mI c) p hg1 hg4 q3 hs0, cal3_e, jp_e, flushDocs_loop _ kM sM vM oM 16 0 (by omega) 1000 (by omega) 0 dk ds dv dO rfl]
      have f1 := fun J => shiftBytes_loop J bM (show k ≤ 4 by omega) (240 * (4 - k)) 0 (by omega) 1000 (by omega) 0 rfl
      have f2 := fun J => shiftRows_loop J lM gM hk hg4 (g - k) 0 (by omega) 1000 (by omega) (nI k) (by rw [Nat.zero_add])
      rw [shf_0] at f1
      rw [shf_0, shf_0] at f2
      rw [jp_e, f1]
      try dsimp only
      rw [jp_e, f2]
      try dsimp only
      rw [n_add, bnd_e, bnd_e, beginM_ok h4, cal4_e]
      rfl
  · refine ⟨-3, ck, cs, cv, co, oc, omx, ca, a, g, s, lX, gX, p, dk, ds, dv, dO, bM, lM, gM, len, ?_, ?_, hC, hL0, hG, by omega, Or.inl rfl⟩
    · rw [fX5_flush, if_pos rfl, eX, cal1_e, countL_ok hg1, cal1_e, n_sub hk, bnd_e, if_neg (by rw [l4, n_lt (by omega) (by omega)]; omega)]
    · rw [fX6_flush, if_pos rfl, jp_e]
      refine Eq.trans e2 ?_
      rw [n_sub hk, bnd_e, if_pos (by rw [l4, n_eq (by omega) (by omega)]; omega)]
