/-! write and replica -/
def RVe (c mx : Nat) (kX sX vX : Nat → Int32) (oX : Nat → Int64) (a : Int64) (kM sM vM : Nat → Int32) (oM : Nat → Int64) (d : Nat → Int32) : Prop :=
  RD kX sX vX oX kM sM vM oM ∧ ID kX sX oX ∧ RM a d ∧ (∀ b, jb a b = true → c + b < mx) ∧ c ≤ mx ∧ mx ≤ c + 64
/-- the answers of write, replica and fill: alike, and the states stay related; the checkpoint grows by at most K -/
def OutV (c a g s K : Nat) (rX : Option (Int32 × (Nat → Int32) × (Nat → Int32) × (Nat → Int32) × (Nat → Int64) × Int32 × Int32 × Int64 × (Nat → Int32) × (Nat → Int32) × (Nat → Int32) × Int32 × Int32 × Int32 × Int32 × Int64))
    (rM : Option (Int32 × (Nat → Int32) × (Nat → Int32) × (Nat → Int32) × (Nat → Int64) × (Nat → Int32) × Int32 × Int32 × (Nat → Int32) × (Nat → Int32) × (Nat → Int32))) : Prop :=
  ∃ (r : Int32) (kX sX vX : Nat → Int32) (oX : Nat → Int64) (c' mx' : Nat) (aX : Int64) (bX lX gX : Nat → Int32) (p1 p2 p3 p4 : Int32) (p5 : Int64) (kM sM vM : Nat → Int32) (oM : Nat → Int64) (d bM lM gM : Nat → Int32) (len : Nat → Nat),
    rX = some (r, kX, sX, vX, oX, mI c', mI mx', aX, bX, lX, gX, p1, p2, p3, p4, p5) ∧ rM = some (r, kM, sM, vM, oM, d, mI c', mI mx', bM, lM, gM) ∧
    RVe c' mx' kX sX vX oX aX kM sM vM oM d ∧ RLo a g s lX bX lM bM len ∧ RG a g gX gM ∧ c' ≤ c + K
theorem OutV_same {c mx a g s K : Nat} {kX sX vX kM sM vM d lX bX gX lM bM gM : Nat → Int32} {oX oM : Nat → Int64} {aX : Int64} {len : Nat → Nat} (hV : RVe c mx kX sX vX oX aX kM sM vM oM d) (hL : RLo a g s lX bX lM bM len) (hG : RG a g gX gM) (r p1 p2 p3 p4 : Int32) (p5 : Int64) :
    OutV c a g s K (some (r, kX, sX, vX, oX, mI c, mI mx, aX, bX, lX, gX, p1, p2, p3, p4, p5)) (some (r, kM, sM, vM, oM, d, mI c, mI mx, bM, lM, gM)) :=
  ⟨r, kX, sX, vX, oX, c, mx, aX, bX, lX, gX, p1, p2, p3, p4, p5, kM, sM, vM, oM, d, bM, lM, gM, len, rfl, rfl, hV, hL, hG, by omega⟩
theorem step_both {c mx a g s sz q i : Nat} {kX sX vX kM sM vM d lX bX gX lM bM gM : Nat → Int32} {oX oM : Nat → Int64} {aX : Int64} {len : Nat → Nat} (hV : RVe c mx kX sX vX oX aX kM sM vM oM d) (hL : RLo a g s lX bX lM bM len) (hG : RG a g gX gM) (ha : a < 100000000) (hmx : mx < 800000000)
    {kind idX idM ver : Int32} {src : Int64} (hk : kz kind sz) (hq1 : c ≤ q) (hq2 : q < c + 64) (hid : kind = 3 ∨ (idX = nI i ∧ idM = nI i ∧ i < 16)) (hc : len (g - 1) + sz + 5 ≤ 240) :
    ∃ (r : Int32) (kX' sX' vX' : Nat → Int32) (oX' : Nat → Int64) (c' : Nat) (aX' : Int64) (bX' lX' gX' kM' sM' vM' : Nat → Int32) (oM' : Nat → Int64) (d' bM' lM' gM' : Nat → Int32),
      fX5_append kX sX vX oX (mI c) (mI mx) aX (nI (a + (g - 1))) bX lX gX kind (nI q) idX ver src = some (r, kX', sX', vX', oX', mI c', mI (max mx (q + 1)), aX', bX', lX', gX') ∧
      fX6_append bM lM gM (nI g) kind idM (nI q) ver src = some (bM', lM', gM') ∧
      fX6_process kM sM vM oM d (mI c) (mI mx) kind idM (nI q) ver src = some (r, kM', sM', vM', oM', d', mI c', mI (max mx (q + 1))) ∧
      RVe c' (max mx (q + 1)) kX' sX' vX' oX' aX' kM' sM' vM' oM' d' ∧ RLo a g s lX' bX' lM' bM' (fun i => if i = g - 1 then len (g - 1) + (sz + 5) else len i) ∧ RG a g gX' gM' ∧ c ≤ c' ∧ c' ≤ c + 64 ∧ (r = 0 ∨ r = 1) ∧ (∀ q', pr c' aX' q' ↔ (pr c aX q' ∨ q' = q)) := by
  obtain ⟨hD, hI, hM, hb, hc1, hc2⟩ := hV
  have h12 : kind = 3 ∨ ((kind = 1 ∨ kind = 2) ∧ idX = nI i ∧ idM = nI i ∧ i < 16) := by
    rcases hid with h | h
    · exact Or.inl h
    · rcases hk with ⟨e, _⟩ | ⟨e, _⟩ | ⟨e, _⟩
      · exact Or.inr ⟨Or.inl e, h⟩
      · exact Or.inr ⟨Or.inr e, h⟩
      · exact Or.inl e
  obtain ⟨r, kX', sX', vX', oX', kM', sM', vM', oM', k, a', d', e1, e2, hD', hI', hM', hb', hc', hk64, hr, hpr⟩ := process_both (ver := ver) (src := src) hD hI hM hb hc1 hq1 hq2 (by omega) h12
  have hid2 : kind = 3 ∨ idX = idM := by
    rcases hid with h | ⟨h, h2, _⟩
    · exact Or.inl h
    · exact Or.inr (by rw [h, h2])
  obtain ⟨bX', lX', gX', bM', lM', gM', e3, e4, hL', hG'⟩ := append_both hL hG ha hk (nI q) (v1 := ver) (v2 := ver) (src := src) (src2 := src) hid2 (Or.inr rfl) (Or.inr rfl) rfl hc
  refine ⟨r, kX', sX', vX', oX', c + k, a', bX', lX', gX', kM', sM', vM', oM', d', bM', lM', gM', ?_, e4, e2, ⟨hD', hI', hM', hb', hc', by omega⟩, hL', hG', by omega, by omega, hr, hpr⟩
  rw [fX5_append, e3, cal3_e, e1, cal8_e, zok_b hr]
theorem holds_ok {kX sX : Nat → Int32} {i : Nat} (hi : i < 16) {x : Int32} (hx : ¬ x < -2) : fX5_holds kX sX (nI i) x = some (if x = -1 ∨ (x = -2 ∧ ¬ kX i = 1) ∨ (0 ≤ x ∧ kX i = 1 ∧ sX i = x) then 1 else 0) := by
  rw [fX5_holds]
  by_cases h1 : x = -1
  · rw [if_pos h1, if_pos (Or.inl h1)]
  · rw [if_neg h1]
    by_cases h2 : x = -2
    · subst h2
      rw [if_pos rfl, isDocument_ok kX hi, cal1_e]
      simp only [jp_e]
      by_cases h3 : kX i = 1
      · rw [if_pos h3, if_neg (by decide), if_neg (by rintro (h | h | h); exact absurd h (by decide); exact h.2 h3; exact absurd h.1 (by decide))]; rfl
      · rw [if_neg h3, if_pos rfl, if_pos (Or.inr (Or.inl ⟨by trivial, h3⟩))]; rfl
    · rw [if_neg h2, isDocument_ok kX hi, cal1_e]
      simp only [jp_e]
      have h0 : 0 ≤ x := by grind
      by_cases h3 : kX i = 1
      · rw [if_pos h3, if_neg (by decide), seqOf_ok sX hi, cal1_e]
        by_cases h4 : sX i = x
        · rw [if_pos h4, if_pos (Or.inr (Or.inr ⟨h0, h3, h4⟩))]; rfl
        · rw [if_neg h4, if_neg (by rintro (h | h | h); exact h1 h; exact h2 h.1; exact h4 h.2.2)]; rfl
      · rw [if_neg h3, if_pos rfl, if_neg (by rintro (h | h | h); exact h1 h; exact h2 h.1; exact h3 h.2.1)]; rfl
theorem kz_of {x : Int32} (h : x = 1 ∨ x = 2 ∨ x = 3) : ∃ sz, kz x sz := by
  rcases h with rfl | rfl | rfl
  · exact ⟨14, Or.inl ⟨rfl, rfl⟩⟩
  · exact ⟨6, Or.inr (Or.inl ⟨rfl, rfl⟩)⟩
  · exact ⟨3, Or.inr (Or.inr ⟨rfl, rfl⟩)⟩
theorem OutV_eq {c a g s K : Nat} {A A' : Option (Int32 × (Nat → Int32) × (Nat → Int32) × (Nat → Int32) × (Nat → Int64) × Int32 × Int32 × Int64 × (Nat → Int32) × (Nat → Int32) × (Nat → Int32) × Int32 × Int32 × Int32 × Int32 × Int64)}
    {B B' : Option (Int32 × (Nat → Int32) × (Nat → Int32) × (Nat → Int32) × (Nat → Int64) × (Nat → Int32) × Int32 × Int32 × (Nat → Int32) × (Nat → Int32) × (Nat → Int32))} (hA : A = A') (hB : B = B') (h : OutV c a g s K A' B') : OutV c a g s K A B := by rw [hA, hB]; exact h
theorem conflict_M {sM : Nat → Int32} {i : Nat} (hi : i < 16) {x3 : Int32} (hx : ¬ x3 < -2) {γ : Type} (REF OK : Option γ) (K : Int32) : (if x3 = -2 then (if (if K = 1 then (1 : Int32) else 0) = 0 then (if x3 < 0 then OK else if (if K = 1 then (1 : Int32) else 0) = 0 then REF else rdI sM 16 (nI i) fun z27 => if z27 = x3 then OK else REF) else REF) else (if x3 < 0 then OK else if (if K = 1 then (1 : Int32) else 0) = 0 then REF else rdI sM 16 (nI i) fun z27 => if z27 = x3 then OK else REF)) = if (x3 = -1 ∨ (x3 = -2 ∧ ¬ K = 1) ∨ (0 ≤ x3 ∧ K = 1 ∧ sM i = x3)) then OK else REF := by
  rw [rdI_n hi (by omega)]
  by_cases h1 : x3 = -1
  · subst h1
    rw [if_neg (by decide), if_pos (by decide), if_pos (Or.inl rfl)]
  · by_cases h2 : x3 = -2
    · subst h2
      by_cases h3 : K = 1
      · rw [if_pos rfl, if_pos h3, if_neg (by decide), if_neg (by rintro (h | h | h); exact absurd h (by decide); exact h.2 h3; exact absurd h.1 (by decide))]
      · rw [if_pos rfl, if_neg h3, if_pos rfl, if_pos (by decide), if_pos (Or.inr (Or.inl ⟨by trivial, h3⟩))]
    · have h0 : 0 ≤ x3 := by grind
      rw [if_neg h2, if_neg (by grind)]
      by_cases h3 : K = 1
      · rw [if_pos h3, if_neg (by decide)]
        by_cases h4 : sM i = x3
        · rw [if_pos h4, if_pos (Or.inr (Or.inr ⟨h0, h3, h4⟩))]
        · rw [if_neg h4, if_neg (by rintro (h | h | h); exact h1 h; exact h2 h.1; exact h4 h.2.2)]
      · rw [if_neg h3, if_pos rfl, if_neg (by rintro (h | h | h); exact h1 h; exact h2 h.1; exact h3 h.2.1)]
theorem write_both {c mx a g s : Nat} {kX sX vX kM sM vM d lX bX gX lM bM gM : Nat → Int32} {oX oM : Nat → Int64} {aX : Int64} {len : Nat → Nat} (hV : RVe c mx kX sX vX oX aX kM sM vM oM d) (hL : RLo a g s lX bX lM bM len) (hG : RG a g gX gM) (ha : a < 100000000) (hc : c < 100000000) (p1 p2 p3 p4 : Int32) (p5 : Int64) (x0 x1 : Int32) (x2 : Int64) (x3 : Int32) :
    OutV c a g s 64 (fX5_write kX sX vX oX (mI c) (mI mx) aX (nI (a + (g - 1))) bX lX gX p1 p2 p3 p4 p5 0 x0 x1 x2 x3) (fX6_write kM sM vM oM d (mI c) (mI mx) 0 bM lM gM (nI g) x0 x1 x2 x3) := by
  have hS := fun r p1 p2 p3 p4 p5 => OutV_same (K := 64) hV hL hG r p1 p2 p3 p4 p5
  have hc1 := hV.2.2.2.2.1
  have hc2 := hV.2.2.2.2.2
  by_cases hk : x0 = 1 ∨ x0 = 2
  · have hX : ∀ (A B : Option (Int32 × (Nat → Int32) × (Nat → Int32) × (Nat → Int32) × (Nat → Int64) × Int32 × Int32 × Int64 × (Nat → Int32) × (Nat → Int32) × (Nat → Int32) × Int32 × Int32 × Int32 × Int32 × Int64)), (if x0 = 1 then A else if x0 = 2 then A else B) = A := by
      intro A B
      rcases hk with rfl | rfl
      · rw [if_pos rfl]
      · rw [if_neg (by decide), if_pos rfl]
    have hin : fX6_in x0 1 2 = some 1 := by rcases hk with rfl | rfl <;> exact in_yes (by decide) (by decide)
    by_cases hid : 0 ≤ x1 ∧ x1 < 16
    · obtain ⟨i, hi, rfl⟩ := id_of hid
      obtain ⟨e1, e2, e3, e4⟩ := hV.1 i hi
      have hin2 : fX6_in (nI i) 0 15 = some 1 := in_yes (by grind) (by grind)
      by_cases hx : -2 ≤ x3
      · have hx' : ¬ x3 < -2 := by grind
        by_cases hcf : (x3 = -1 ∨ (x3 = -2 ∧ ¬ kX i = 1) ∨ (0 ≤ x3 ∧ kX i = 1 ∧ sX i = x3))
        · have hcM : (x3 = -1 ∨ (x3 = -2 ∧ ¬ kM i = 1) ∨ (0 ≤ x3 ∧ kM i = 1 ∧ sM i = x3)) := by rw [← e1, ← e2]; exact hcf
          obtain ⟨sz, hkz⟩ := kz_of (x := x0) (by rcases hk with h | h; exact Or.inl h; exact Or.inr (Or.inl h))
          have hsz : sz ≤ 14 := by rcases hkz with ⟨_, h⟩ | ⟨_, h⟩ | ⟨_, h⟩ <;> omega
          have hql := (hL.2.2.2 (g - 1) (by have := hL.1; omega)).1
          by_cases hfit : len (g - 1) + 1 * (sz + 5) ≤ 240 ∧ mx < c + 64
          · obtain ⟨r, kX', sX', vX', oX', c', aX', bX', lX', gX', kM', sM', vM', oM', d', bM', lM', gM', f1, f2, f3, f4, f5, f6, f7, f8, f9, f10⟩ := step_both (kind := x0) (idX := nI i) (idM := nI i) (ver := vX i + 1 &&& 65535) (src := x2) (q := mx) hV hL hG ha (by omega) hkz hc1 hfit.2 (Or.inr ⟨rfl, rfl, hi⟩) (by omega)
            refine ⟨nI mx, kX', sX', vX', oX', c', max mx (mx + 1), aX', bX', lX', gX', x0, nI mx, nI i, vX i + 1 &&& 65535, x2, kM', sM', vM', oM', d', bM', lM', gM', _, ?_, ?_, f4, f5, f6, f8⟩
            · rw [fX5_write, if_pos rfl]
              simp only [jp_e]
              rw [hX, isId_n hi, cal1_e, if_neg (by decide), if_pos hx, holds_ok hi hx', cal1_e, if_pos hcf, if_neg (by decide), m_succ, bnd_e, room_ok hL ha, cal1_e, sizeX_ok hkz, cal1_e, if_neg (by rw [n_lt (by omega) (by omega)]; omega), bnd_e, show mI c + 64 = nI (c + 63) from m_add c 63, if_pos (by rw [n_le (by omega) (by omega)]; omega), versionOf_ok vX hi, cal1_e, bnd_e, bnd_e, fX3_become, cal5_e, f1, cal11_e]
            · rw [fX6_write, if_pos rfl, hin, cal1_e, jp_e, if_neg (by decide), hin2, cal1_e, if_neg (by decide), if_pos hx, rdI_n hi (by omega), jp_ite, jp_e, jp_e, jp_e, conflict_M hi hx', if_pos hcM, m_succ, bnd_e, show fX6_fits lM (nI g) x0 1 = fX6_fits lM (nI g) x0 (nI 1) from rfl, fits_ok hL hkz (by omega), if_pos hfit.1, cal1_e, jp_e, if_neg (by decide), bnd_e, show mI c + 64 = nI (c + 63) from m_add c 63, if_pos (by rw [n_le (by omega) (by omega)]; omega), rdI_n hi (by omega), bnd_e, bnd_e, ← e3, f2, cal3_e, f3, cal8_e]
          · refine OutV_eq ?_ ?_ (hS (-3) p1 p2 p3 p4 p5)
            · rw [fX5_write, if_pos rfl]
              simp only [jp_e]
              rw [hX, isId_n hi, cal1_e, if_neg (by decide), if_pos hx, holds_ok hi hx', cal1_e, if_pos hcf, if_neg (by decide), m_succ, bnd_e, room_ok hL ha, cal1_e, sizeX_ok hkz, cal1_e]
              by_cases hf2 : len (g - 1) + 1 * (sz + 5) ≤ 240
              · rw [if_neg (by rw [n_lt (by omega) (by omega)]; omega), bnd_e, show mI c + 64 = nI (c + 63) from m_add c 63, if_neg (by rw [n_le (by omega) (by omega)]; omega)]
              · rw [if_pos (by rw [n_lt (by omega) (by omega)]; omega)]
            · rw [fX6_write, if_pos rfl, hin, cal1_e, jp_e, if_neg (by decide), hin2, cal1_e, if_neg (by decide), if_pos hx, rdI_n hi (by omega), jp_ite, jp_e, jp_e, jp_e, conflict_M hi hx', if_pos hcM, m_succ, bnd_e, show fX6_fits lM (nI g) x0 1 = fX6_fits lM (nI g) x0 (nI 1) from rfl, fits_ok hL hkz (by omega), cal1_e, jp_e]
              by_cases hf2 : len (g - 1) + 1 * (sz + 5) ≤ 240
              · rw [if_pos hf2, if_neg (by decide), bnd_e, show mI c + 64 = nI (c + 63) from m_add c 63, if_neg (by rw [n_le (by omega) (by omega)]; omega)]
              · rw [if_neg hf2, if_pos rfl]
        · have hcM : ¬ (x3 = -1 ∨ (x3 = -2 ∧ ¬ kM i = 1) ∨ (0 ≤ x3 ∧ kM i = 1 ∧ sM i = x3)) := by rw [← e1, ← e2]; exact hcf
          refine OutV_eq ?_ ?_ (hS (-2) p1 p2 p3 p4 p5)
          · rw [fX5_write, if_pos rfl]
            simp only [jp_e]
            rw [hX, isId_n hi, cal1_e, if_neg (by decide), if_pos hx, holds_ok hi hx', cal1_e, if_neg hcf, if_pos rfl]
          · rw [fX6_write, if_pos rfl, hin, cal1_e, jp_e, if_neg (by decide), hin2, cal1_e, if_neg (by decide), if_pos hx, rdI_n hi (by omega), jp_ite, jp_e, jp_e, jp_e, conflict_M hi hx', if_neg hcM]
      · refine OutV_eq ?_ ?_ (hS (-1) p1 p2 p3 p4 p5)
        · rw [fX5_write, if_pos rfl]
          simp only [jp_e]
          rw [hX, isId_n hi, cal1_e, if_neg (by decide), if_neg hx]
        · rw [fX6_write, if_pos rfl, hin, cal1_e, jp_e, if_neg (by decide), hin2, cal1_e, if_neg (by decide), if_neg hx]
    · refine OutV_eq ?_ ?_ (hS (-1) p1 p2 p3 p4 p5)
      · rw [fX5_write, if_pos rfl]
        simp only [jp_e]
        rw [hX, isId_no hid, cal1_e, if_pos rfl]
      · rw [fX6_write, if_pos rfl, hin, cal1_e, jp_e, if_neg (by decide), in_no (by intro h; exact hid ⟨h.1, by grind⟩), cal1_e, if_pos rfl]
  · refine OutV_eq ?_ ?_ (hS (-1) p1 p2 p3 p4 p5)
    · rw [fX5_write, if_pos rfl]
      simp only [jp_e]
      rw [if_neg (fun h => hk (Or.inl h)), if_neg (fun h => hk (Or.inr h))]
    · rw [fX6_write, if_pos rfl, in_no (by intro h; apply hk; grind), cal1_e, jp_e, if_pos rfl]
theorem in_ok (v a b : Int32) : fX6_in v a b = some (if a ≤ v ∧ v ≤ b then 1 else 0) := by
  by_cases h : a ≤ v ∧ v ≤ b
  · rw [if_pos h, in_yes h.1 h.2]
  · rw [if_neg h, in_no h]
theorem sizeX_no {x : Int32} (h : ¬ (x = 1 ∨ x = 2 ∨ x = 3)) : fX5_sizeOf x = some 0 := by
  rw [fX5_sizeOf, if_neg (fun e => h (Or.inl e)), if_neg (fun e => h (Or.inr (Or.inl e))), if_neg (fun e => h (Or.inr (Or.inr e)))]
theorem replica_both {c mx a g s : Nat} {kX sX vX kM sM vM d lX bX gX lM bM gM : Nat → Int32} {oX oM : Nat → Int64} {aX : Int64} {len : Nat → Nat} (hV : RVe c mx kX sX vX oX aX kM sM vM oM d) (hL : RLo a g s lX bX lM bM len) (hG : RG a g gX gM) (ha : a < 100000000) (hc : c < 100000000) (p1 p2 p3 p4 : Int32) (p5 : Int64) (x0 x1 x2 x3 : Int32) (x4 : Int64) :
    OutV c a g s 64 (fX5_replica kX sX vX oX (mI c) (mI mx) aX (nI (a + (g - 1))) bX lX gX p1 p2 p3 p4 p5 0 x0 x1 x2 x3 x4) (fX6_replica kM sM vM oM d (mI c) (mI mx) 0 bM lM gM (nI g) x0 x1 x2 x3 x4) := by
  have hS := fun r => OutV_same (K := 64) hV hL hG r p1 p2 p3 p4 p5
  have hc1 := hV.2.2.2.2.1
  have hc2 := hV.2.2.2.2.2
  have hM := hV.2.2.1
  by_cases hk : x0 = 1 ∨ x0 = 2 ∨ x0 = 3
  · obtain ⟨sz, hkz⟩ := kz_of hk
    have hsz : sz ≤ 14 := by rcases hkz with ⟨_, h⟩ | ⟨_, h⟩ | ⟨_, h⟩ <;> omega
    have hin : fX6_in x0 1 3 = some 1 := by rcases hk with rfl | rfl | rfl <;> exact in_yes (by decide) (by decide)
    have hz : ¬ nI (sz + 5) = 0 := by rw [l0, n_eq (by omega) (by omega)]; omega
    by_cases hq : 0 ≤ x2 ∧ x2 ≤ nI (c + 63)
    · obtain ⟨q, hq31, rfl⟩ := n_of (x := x2) (by grind)
      have hq2 : q ≤ c + 63 := by have := hq.2; rw [n_le (by omega) (by omega)] at this; exact this
      have hn0 : ¬ nI q < 0 := by rw [l0, n_lt (by omega) (by omega)]; omega
      have hinq : fX6_in (nI q) 0 (nI (c + 63)) = some 1 := in_yes hq.1 hq.2
      -- id and version
      by_cases hv : x0 = 3 ∨ ((0 ≤ x1 ∧ x1 < 16) ∧ (1 ≤ x3 ∧ x3 ≤ 60000))
      · have hXv : ∀ (A : Option (Int32 × (Nat → Int32) × (Nat → Int32) × (Nat → Int32) × (Nat → Int64) × Int32 × Int32 × Int64 × (Nat → Int32) × (Nat → Int32) × (Nat → Int32) × Int32 × Int32 × Int32 × Int32 × Int64)) (B : Option (Int32 × (Nat → Int32) × (Nat → Int32) × (Nat → Int32) × (Nat → Int64) × Int32 × Int32 × Int64 × (Nat → Int32) × (Nat → Int32) × (Nat → Int32) × Int32 × Int32 × Int32 × Int32 × Int64)), (if x0 = 3 then A else cal1 (fX5_isId x1) (fun r29 => if r29 = 0 then B else if x3 < 1 then B else if x3 ≤ 60000 then A else B)) = A := by
          intro A B
          rcases hv with h | ⟨h1, h2⟩
          · rw [if_pos h]
          · by_cases h3 : x0 = 3
            · rw [if_pos h3]
            · obtain ⟨i, hi, rfl⟩ := id_of h1
              rw [if_neg h3, isId_n hi, cal1_e, if_neg (by decide), if_neg (by grind), if_pos h2.2]
        have hMv : ∀ (A B : Option (Int32 × (Nat → Int32) × (Nat → Int32) × (Nat → Int32) × (Nat → Int64) × (Nat → Int32) × Int32 × Int32 × (Nat → Int32) × (Nat → Int32) × (Nat → Int32))), (if x0 = 3 then A else cal1 (fX6_in x1 0 15) (fun r24 => if r24 = 0 then B else cal1 (fX6_in x3 1 60000) (fun r26 => if r26 = 0 then B else A))) = A := by
          intro A B
          rcases hv with h | ⟨h1, h2⟩
          · rw [if_pos h]
          · by_cases h3 : x0 = 3
            · rw [if_pos h3]
            · rw [if_neg h3, in_yes h1.1 (by grind), cal1_e, if_neg (by decide), in_yes h2.1 h2.2, cal1_e, if_neg (by decide)]
        by_cases hd : q < c ∨ (q < c + 64 ∧ jb aX (q - c) = true)
        · refine OutV_eq ?_ ?_ (hS 0)
          · rw [fX5_replica, if_pos rfl, sizeX_ok hkz, cal1_e]
            simp only [jp_e]
            rw [if_neg hz, if_neg hn0, bnd_e, show mI c + 64 = nI (c + 63) from m_add c 63, if_pos hq.2, hXv, isProcessed_ok (by omega) (by omega), cal1_e, if_pos hd, if_neg (by decide)]
          · rw [fX6_replica, if_pos rfl, hin, cal1_e]
            simp only [jp_e]
            rw [if_neg (by decide), bnd_e, show mI c + 64 = nI (c + 63) from m_add c 63, hinq, cal1_e, if_neg (by decide), hMv, isDone_ok hM (by omega) (by omega), cal1_e, if_pos hd, if_neg (by decide)]
        · have hql := (hL.2.2.2 (g - 1) (by have := hL.1; omega)).1
          by_cases hfit : len (g - 1) + 1 * (sz + 5) ≤ 240
          · have hi : ∃ i, x0 = 3 ∨ (x1 = nI i ∧ x1 = nI i ∧ i < 16) := by
              rcases hv with h | ⟨h1, _⟩
              · exact ⟨0, Or.inl h⟩
              · obtain ⟨i, hi, e⟩ := id_of h1; exact ⟨i, Or.inr ⟨e, e, hi⟩⟩
            obtain ⟨i, hi⟩ := hi
            obtain ⟨r, kX', sX', vX', oX', c', aX', bX', lX', gX', kM', sM', vM', oM', d', bM', lM', gM', f1, f2, f3, f4, f5, f6, f7, f8, f9, f10⟩ := step_both (kind := x0) (idX := x1) (idM := x1) (ver := x3) (src := x4) (q := q) hV hL hG ha (by omega) hkz (by omega) (by omega) hi (by omega)
            refine ⟨if r = 0 then 2 else 1, kX', sX', vX', oX', c', max mx (q + 1), aX', bX', lX', gX', x0, nI q, x1, x3, x4, kM', sM', vM', oM', d', bM', lM', gM', _, ?_, ?_, f4, f5, f6, f8⟩
            · rw [fX5_replica, if_pos rfl, sizeX_ok hkz, cal1_e]
              simp only [jp_ite]
              simp only [jp_e]
              rw [if_neg hz, if_neg hn0, bnd_e, show mI c + 64 = nI (c + 63) from m_add c 63, if_pos hq.2, hXv, isProcessed_ok (by omega) (by omega), cal1_e, if_neg hd, if_pos rfl, room_ok hL ha, cal1_e, cal1_e, if_pos (by rw [n_le (by omega) (by omega)]; omega), fX3_become, cal5_e, f1, cal11_e]
            · rw [fX6_replica, if_pos rfl, hin, cal1_e]
              simp only [jp_ite]
              simp only [jp_e]
              rw [if_neg (by decide), bnd_e, show mI c + 64 = nI (c + 63) from m_add c 63, hinq, cal1_e, if_neg (by decide), hMv, isDone_ok hM (by omega) (by omega), cal1_e, if_neg hd, if_pos rfl, show fX6_fits lM (nI g) x0 1 = fX6_fits lM (nI g) x0 (nI 1) from rfl, fits_ok hL hkz (by omega), if_pos hfit, cal1_e, if_neg (by decide), f2, cal3_e, f3, cal8_e]
          · refine OutV_eq ?_ ?_ (hS (-3))
            · rw [fX5_replica, if_pos rfl, sizeX_ok hkz, cal1_e]
              simp only [jp_e]
              rw [if_neg hz, if_neg hn0, bnd_e, show mI c + 64 = nI (c + 63) from m_add c 63, if_pos hq.2, hXv, isProcessed_ok (by omega) (by omega), cal1_e, if_neg hd, if_pos rfl, room_ok hL ha, cal1_e, cal1_e, if_neg (by rw [n_le (by omega) (by omega)]; omega)]
            · rw [fX6_replica, if_pos rfl, hin, cal1_e]
              simp only [jp_e]
              rw [if_neg (by decide), bnd_e, show mI c + 64 = nI (c + 63) from m_add c 63, hinq, cal1_e, if_neg (by decide), hMv, isDone_ok hM (by omega) (by omega), cal1_e, if_neg hd, if_pos rfl, show fX6_fits lM (nI g) x0 1 = fX6_fits lM (nI g) x0 (nI 1) from rfl, fits_ok hL hkz (by omega), if_neg hfit, cal1_e, if_pos rfl]
      · have h3 : ¬ x0 = 3 := fun h => hv (Or.inl h)
        refine OutV_eq ?_ ?_ (hS (-1))
        · rw [fX5_replica, if_pos rfl, sizeX_ok hkz, cal1_e]
          simp only [jp_e]
          rw [if_neg hz, if_neg hn0, bnd_e, show mI c + 64 = nI (c + 63) from m_add c 63, if_pos hq.2, if_neg h3]
          by_cases h1 : 0 ≤ x1 ∧ x1 < 16
          · obtain ⟨i, hi, rfl⟩ := id_of h1
            rw [isId_n hi, cal1_e, if_neg (by decide)]
            by_cases h4 : x3 < 1
            · rw [if_pos h4]
            · rw [if_neg h4, if_neg (fun h5 => hv (Or.inr ⟨h1, by grind, h5⟩))]
          · rw [isId_no h1, cal1_e, if_pos rfl]
        · rw [fX6_replica, if_pos rfl, hin, cal1_e]
          simp only [jp_e]
          rw [if_neg (by decide), bnd_e, show mI c + 64 = nI (c + 63) from m_add c 63, hinq, cal1_e, if_neg (by decide), if_neg h3]
          by_cases h1 : 0 ≤ x1 ∧ x1 < 16
          · rw [in_yes h1.1 (by grind), cal1_e, if_neg (by decide), in_no (fun h => hv (Or.inr ⟨h1, h⟩)), cal1_e, if_pos rfl]
          · rw [in_no (by intro h; exact h1 ⟨h.1, by grind⟩), cal1_e, if_pos rfl]
    · refine OutV_eq ?_ ?_ (hS (-1))
      · rw [fX5_replica, if_pos rfl, sizeX_ok hkz, cal1_e]
        simp only [jp_e]
        rw [if_neg hz]
        by_cases h0 : x2 < 0
        · rw [if_pos h0]
        · rw [if_neg h0, bnd_e, show mI c + 64 = nI (c + 63) from m_add c 63, if_neg (fun h => hq ⟨by grind, h⟩)]
      · rw [fX6_replica, if_pos rfl, hin, cal1_e]
        simp only [jp_e]
        rw [if_neg (by decide), bnd_e, show mI c + 64 = nI (c + 63) from m_add c 63, in_no hq, cal1_e, if_pos rfl]
  · refine OutV_eq ?_ ?_ (hS (-1))
    · rw [fX5_replica, if_pos rfl, sizeX_no hk, cal1_e]
      simp only [jp_e]
      rw [if_pos trivial]
    · rw [fX6_replica, if_pos rfl, in_no (by intro h; apply hk; grind), cal1_e]
      simp only [jp_e]
      rw [if_pos trivial]
