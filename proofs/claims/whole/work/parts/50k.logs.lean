/-! sync, crash, flip, info -/
theorem n_xor (a b : Nat) : nI a ^^^ nI b = nI (a ^^^ b) := by
  rw [← Int32.toBitVec_inj, Int32.toBitVec_xor]
  exact (BitVec.ofNat_xor).symm
theorem By_xor {x y : Int32} (hx : By x) (hy : By y) : By (x ^^^ y) := by
  obtain ⟨a, ha, rfl⟩ := hx
  obtain ⟨b, hb, rfl⟩ := hy
  exact ⟨a ^^^ b, Nat.xor_lt_two_pow (n := 8) (by omega) (by omega), n_xor a b⟩
theorem unsynced_ok {a g s l : Nat} {lX : Nat → Int32} (ha : a + (g - 1) < 2147483648) (hl : lX ((a + (g - 1)) % 4) = nI l) (hs : s ≤ l) : fX2_unsynced (nI (a + (g - 1))) (nI s) lX = some (nI (l - s)) := by
  rw [fX2_unsynced, lengthOf_ok ha lX hl, cal1_e, n_sub hs, bnd_e]
theorem syncCurrent_ok {a g s l : Nat} {lX : Nat → Int32} (ha : a + (g - 1) < 2147483648) (hl : lX ((a + (g - 1)) % 4) = nI l) (hs : s ≤ l) : fX2_syncCurrent (nI (a + (g - 1))) (nI s) lX = some (nI (l - s), nI l) := by
  rw [fX2_syncCurrent, unsynced_ok ha hl hs, cal1_e, lengthOf_ok ha lX hl, cal1_e]
theorem countL_ok {a g : Nat} (hg : 1 ≤ g) : fX2_count (nI a) (nI (a + (g - 1))) = some (nI g) := by
  rw [fX2_count, n_sub (by omega), bnd_e, l1, n_add, bnd_e, show a + (g - 1) - a + 1 = g by omega]
theorem beginX_ok {q : Nat} (hq : q < 2147483646) (s : Int32) (lX gX : Nat → Int32) : fX2_begin (nI q) s lX gX = some (nI (q + 1), 0, upd lX ((q + 1) % 4) 0, upd gX ((q + 1) % 4) (-1)) := by
  rw [fX2_begin, show nI q + 1 = nI (q + 1) from n_add q 1, bnd_e, rowOf_ok (q + 1) (by omega), cal1_e, wrI_n (by omega) (by omega), fX2_forgetSeqs, rowOf_ok (q + 1) (by omega), cal1_e, wrI_n (by omega) (by omega), cal1_e]
theorem beginM_ok {g : Nat} (hg : g < 4) (s : Int32) (lM gM : Nat → Int32) : fX6_begin lM gM (nI g) s = some (upd lM g 0, upd gM g (-1), nI (g + 1), 0) := by
  rw [fX6_begin, wrI_n (by omega) (by omega), wrI_n (by omega) (by omega), l1, n_add, bnd_e]
theorem settle_ok {g s l : Nat} {lM : Nat → Int32} (cM p : Int32) (hg : 1 ≤ g) (hg4 : g ≤ 4) (hl : lM (g - 1) = nI l) (hs : s ≤ l) : fX6_settle cM p lM (nI g) (nI s) = some (nI (l - s), cM, nI l) := by
  rw [fX6_settle, show nI g - 1 = nI (g - 1) from by rw [l1, n_sub hg], bnd_e, rdI_n (by omega) (by omega), hl, n_sub hs, bnd_e, bnd_e, rdI_n (by omega) (by omega), hl]
/-- a new generation: the log stays related -/
theorem begin_both {a g s : Nat} {lX bX gX lM bM gM : Nat → Int32} {len : Nat → Nat} (hL : RLo a g s lX bX lM bM len) (hG : RG a g gX gM) (hg : g < 4) :
    RLo a (g + 1) 0 (upd lX ((a + (g - 1) + 1) % 4) 0) bX (upd lM g 0) bM (fun i => if i = g then 0 else len i) ∧ RG a (g + 1) (upd gX ((a + (g - 1) + 1) % 4) (-1)) (upd gM g (-1)) := by
  obtain ⟨hg1, hg4, hs0, hR⟩ := hL
  have e : (a + (g - 1) + 1) % 4 = (a + g) % 4 := by rw [show a + (g - 1) + 1 = a + g by omega]
  rw [e]
  refine ⟨⟨by omega, by omega, by omega, fun i hi => ?_⟩, fun i hi => ?_⟩
  · by_cases h : i = g
    · subst h
      dsimp only
      rw [if_pos rfl]
      exact ⟨by omega, upd_s _ _ _, upd_s _ _ _, fun j hj => by omega, fun j hj => by omega⟩
    · dsimp only
      rw [if_neg h]
      obtain ⟨p1, p2, p3, p4, p5⟩ := hR i (by omega)
      exact ⟨p1, by rw [upd_o _ _ (by omega)]; exact p2, by rw [upd_o _ _ h]; exact p3, p4, p5⟩
  · by_cases h : i = g
    · subst h; rw [upd_s, upd_s]
    · rw [upd_o _ _ (by omega), upd_o _ _ h]; exact hG i (by omega)
theorem RLo_sync {a g s s' : Nat} {lX bX lM bM : Nat → Int32} {len : Nat → Nat} (hL : RLo a g s lX bX lM bM len) (h : s' ≤ len (g - 1)) : RLo a g s' lX bX lM bM len := ⟨hL.1, hL.2.1, h, hL.2.2.2⟩
theorem sync_both {a g s : Nat} {lX bX gX lM bM gM : Nat → Int32} {len : Nat → Nat} (hL : RLo a g s lX bX lM bM len) (hG : RG a g gX gM) (ha : a < 100000000) (c p x0 : Int32) :
    ∃ (r : Int32) (g' s' : Nat) (lX' gX' lM' gM' : Nat → Int32) (p' : Int32) (len' : Nat → Nat),
      fX5_sync c (nI a) (nI (a + (g - 1))) (nI s) lX gX p 0 x0 = some (r, nI (a + (g' - 1)), nI s', lX', gX', p') ∧
      fX6_sync c p 0 lM gM (nI a) (nI g) (nI s) x0 = some (r, p', lM', gM', nI g', nI s') ∧
      RLo a g' s' lX' bX lM' bM len' ∧ RG a g' gX' gM' := by
  have hL0 := hL
  obtain ⟨hg1, hg4, hs0, hR⟩ := hL
  obtain ⟨q1, q2, q3, q4, q5⟩ := hR (g - 1) (by omega)
  by_cases h0 : x0 = 0
  · refine ⟨nI (len (g - 1) - s), g, len (g - 1), lX, gX, lM, gM, c, len, ?_, ?_, RLo_sync hL0 (Nat.le_refl _), hG⟩
    · rw [fX5_sync, if_pos rfl, syncCurrent_ok (by omega) q2 hs0, cal2_e, if_pos h0, jp_e, if_pos h0]
    · rw [fX6_sync, if_pos rfl, settle_ok c p hg1 hg4 q3 hs0, cal3_e, if_pos h0, jp_e, if_pos h0]
  · by_cases h4 : g < 4
    · have hb := begin_both (RLo_sync hL0 (Nat.le_refl _)) hG h4
      refine ⟨nI (a + g), g + 1, 0, _, _, _, _, c, _, ?_, ?_, hb.1, hb.2⟩
      · rw [fX5_sync, if_pos rfl, syncCurrent_ok (by omega) q2 hs0, cal2_e, if_neg h0, beginX_ok (by omega), cal4_e, jp_e, if_neg h0, countL_ok hg1, cal1_e, if_pos (by rw [l4, n_lt (by omega) (by omega)]; omega), show a + (g - 1) + 1 = a + g by omega, show a + (g + 1 - 1) = a + g by omega]
        rfl
      · rw [fX6_sync, if_pos rfl, settle_ok c p hg1 hg4 q3 hs0, cal3_e, if_neg h0, beginM_ok h4, cal4_e, n_add, bnd_e, show a + (g + 1) = a + g + 1 by omega, m_pred, bnd_e, jp_e, if_neg h0, if_neg (by rw [l4, n_eq (by omega) (by omega)]; omega)]
        rfl
    · refine ⟨-3, g, s, lX, gX, lM, gM, p, len, ?_, ?_, hL0, hG⟩
      · rw [fX5_sync, if_pos rfl, jp_e, if_neg h0, countL_ok hg1, cal1_e, if_neg (by rw [l4, n_lt (by omega) (by omega)]; omega)]
      · rw [fX6_sync, if_pos rfl, jp_e, if_neg h0, if_pos (by rw [l4, n_eq (by omega) (by omega)]; omega)]
theorem crash_both {a g s : Nat} {lX bX lM bM : Nat → Int32} {len : Nat → Nat} (hL : RLo a g s lX bX lM bM len) (ha : a < 100000000) (x0 : Int32) :
    ∃ (r : Int32) (lX' lM' : Nat → Int32) (d' : Int32) (len' : Nat → Nat),
      fX5_crash (nI (a + (g - 1))) (nI s) lX 0 x0 = some (r, lX', d') ∧ fX6_crash 0 lM (nI g) (nI s) x0 = some (r, d', lM') ∧
      RLo a g s lX' bX lM' bM len' ∧ (d' = 0 ∧ lX' = lX ∧ lM' = lM ∨ d' = 1) := by
  have hL0 := hL
  obtain ⟨hg1, hg4, hs0, hR⟩ := hL
  obtain ⟨q1, q2, q3, q4, q5⟩ := hR (g - 1) (by omega)
  have hM : ∀ (k : Int32 → Option (Int32 × Int32 × (Nat → Int32))), cal1 (fX6_current (nI g)) k = k (nI (g - 1)) := by
    intro k
    rw [show nI g = nI (g - 1 + 1) by rw [show g - 1 + 1 = g by omega], current_ok (by omega), cal1_e]
  by_cases h : 0 ≤ x0 ∧ x0 ≤ nI (len (g - 1) - s)
  · obtain ⟨k, hk, rfl⟩ := n_of (x := x0) (by grind)
    have hk2 : k ≤ len (g - 1) - s := by have := h.2; rw [n_le (by omega) (by omega)] at this; exact this
    refine ⟨nI (len (g - 1) - s - k), upd lX ((a + (g - 1)) % 4) (nI (s + k)), upd lM (g - 1) (nI (s + k)), 1, fun i => if i = g - 1 then s + k else len i, ?_, ?_, ⟨hg1, hg4, ?_, fun i hi => ?_⟩, Or.inr rfl⟩
    · rw [fX5_crash, if_pos rfl, unsynced_ok (by omega) q2 hs0, cal1_e, jp_e, if_neg (by rw [l0, n_lt (by omega) (by omega)]; omega), if_pos h.2, n_add, bnd_e, fX2_cutCurrent, rowOf_ok _ (by omega), cal1_e, wrI_n (by omega) (by omega), cal1_e, n_sub hk2, bnd_e]
    · rw [fX6_crash, if_pos rfl, hM, rdI_n (by omega) (by omega), q3, n_sub hs0, bnd_e, in_yes h.1 h.2, cal1_e, if_neg (by decide), rdI_n (by omega) (by omega), q3, n_sub hs0, bnd_e, n_sub hk2, bnd_e, n_add, bnd_e, wrI_n (by omega) (by omega)]
    · dsimp only; rw [if_pos rfl]; omega
    · by_cases e : i = g - 1
      · subst e
        dsimp only
        rw [if_pos rfl]
        exact ⟨by omega, upd_s _ _ _, upd_s _ _ _, fun j hj => q4 j (by omega), fun j hj => q5 j (by omega)⟩
      · dsimp only
        rw [if_neg e]
        obtain ⟨p1, p2, p3, p4, p5⟩ := hR i hi
        exact ⟨p1, by rw [upd_o _ _ (by omega)]; exact p2, by rw [upd_o _ _ e]; exact p3, p4, p5⟩
  · refine ⟨-1, lX, lM, 0, len, ?_, ?_, hL0, Or.inl ⟨rfl, rfl, rfl⟩⟩
    · rw [fX5_crash, if_pos rfl, unsynced_ok (by omega) q2 hs0, cal1_e, jp_e]
      by_cases h1 : x0 < 0
      · rw [if_pos h1]
      · rw [if_neg h1, if_neg (fun h2 => h ⟨by grind, h2⟩)]
    · rw [fX6_crash, if_pos rfl, hM, rdI_n (by omega) (by omega), q3, n_sub hs0, bnd_e, in_no h, cal1_e, if_pos rfl]
theorem crash_down {cur s d x0 : Int32} {lX lM : Nat → Int32} {gen sM : Int32} (hd : ¬ d = 0) : fX5_crash cur s lX d x0 = some (-4, lX, d) ∧ fX6_crash d lM gen sM x0 = some (-4, d, lM) := by
  rw [fX5_crash, if_neg hd, fX6_crash, if_neg hd]; exact ⟨rfl, rfl⟩
theorem sync_down {c o cur s p d x0 : Int32} {lX gX lM gM : Nat → Int32} {cM o2 gen sM p2 : Int32} (hd : ¬ d = 0) : fX5_sync c o cur s lX gX p d x0 = some (-4, cur, s, lX, gX, p) ∧ fX6_sync cM p2 d lM gM o2 gen sM x0 = some (-4, p2, lM, gM, gen, sM) := by
  rw [fX5_sync, if_neg hd, fX6_sync, if_neg hd]; exact ⟨rfl, rfl⟩

theorem flip_both {a g s : Nat} {lX bX lM bM : Nat → Int32} {len : Nat → Nat} (hL : RLo a g s lX bX lM bM len) (ha : a < 100000000) (x0 x1 x2 : Int32) :
    ∃ (r : Int32) (bX' bM' : Nat → Int32),
      fX5_flip (nI a) (nI (a + (g - 1))) bX lX x0 x1 x2 = some (r, bX') ∧ fX6_flip bM lM (nI a) (nI g) x0 x1 x2 = some (r, bM') ∧ RLo a g s lX bX' lM bM' len := by
  have hL0 := hL
  obtain ⟨hg1, hg4, hs0, hR⟩ := hL
  have e3 : nI (a + g) - 1 = nI (a + (g - 1)) := by rw [l1, n_sub (by omega), show a + g - 1 = a + (g - 1) by omega]
  by_cases h0 : nI a ≤ x0 ∧ x0 ≤ nI (a + (g - 1))
  · obtain ⟨q, hq, rfl⟩ := n_of (x := x0) (by
      intro h
      have : nI a < 0 := by grind
      rw [l0, n_lt (by omega) (by omega)] at this; omega)
    have h1 := h0.1
    have h2 := h0.2
    rw [n_le (by omega) (by omega)] at h1 h2
    obtain ⟨i, rfl⟩ : ∃ i, q = a + i := ⟨q - a, by omega⟩
    have hi : i < g := by omega
    obtain ⟨q1, q2, q3, q4, q5⟩ := hR i hi
    have hX1 : ¬ nI (a + i) < nI a := by rw [n_lt (by omega) (by omega)]; omega
    have hX2 : ¬ nI (a + (g - 1)) < nI (a + i) := by rw [n_lt (by omega) (by omega)]; omega
    have ez : nI (a + i) - nI a = nI i := by rw [n_sub (by omega), show a + i - a = i by omega]
    have hz9 : nI (len i) - 1 = mI (len i) := rfl
    by_cases hx2 : 0 ≤ x2 ∧ x2 ≤ 255
    · by_cases hx1 : 0 ≤ x1 ∧ x1 < nI (len i)
      · obtain ⟨j, hj, rfl⟩ := n_of (x := x1) (by grind)
        have hj2 : j < len i := by have := hx1.2; rw [n_lt (by omega) (by omega)] at this; exact this
        have hn0 : ¬ nI j < 0 := by grind
        have eb : bX (240 * ((a + i) % 4) + j) = bM (240 * i + j) := q4 j hj2
        refine ⟨bM (240 * i + j) ^^^ x2, upd bX (240 * ((a + i) % 4) + j) (bM (240 * i + j) ^^^ x2), upd bM (240 * i + j) (bM (240 * i + j) ^^^ x2), ?_, ?_, ⟨hg1, hg4, hs0, fun i' hi' => ?_⟩⟩
        · rw [fX5_flip, fX2_hasByte]
          simp only [jp_e]
          rw [if_neg hX1, if_neg hX2, if_neg hn0, rowOf_ok _ (by omega), cal1_e, rdI_n (by omega) (by omega), q2, if_neg (by rw [n_le (by omega) (by omega)]; omega), zok_1, cal1_e, if_neg (by decide), if_neg (by grind), if_pos hx2.2, fX2_change, jp_e, if_neg hn0, if_pos (by rw [l240, n_lt (by omega) (by omega)]; omega), rowOf_ok _ (by omega), cal1_e, l240, n_mul, bnd_e, n_add, bnd_e, Nat.mul_comm ((a + i) % 4) 240, rdI_n (by omega) (by omega), bnd_e, wrI_n (by omega) (by omega), rdI_n (by omega) (by omega), cal2_e, upd_s, eb]
        · rw [fX6_flip, ez, bnd_e, n_add, bnd_e, e3, bnd_e, in_yes h0.1 h0.2, cal1_e, jp_e, if_neg (by decide), in_yes hx2.1 hx2.2, cal1_e, if_neg (by decide), rdI_n (by omega) (by omega), q3, hz9, bnd_e, in_yes hx1.1 (by rw [nm_le (by omega) (by omega)]; omega), cal1_e, if_neg (by decide), l240, n_mul, bnd_e, n_add, bnd_e, rdI_n (by omega) (by omega), bnd_e, wrI_n (by omega) (by omega), bnd_e, n_add, bnd_e, rdI_n (by omega) (by omega), upd_s]
        · obtain ⟨p1, p2, p3, p4, p5⟩ := hR i' hi'
          have hby : By (bM (240 * i + j) ^^^ x2) := by
            refine By_xor (q5 j hj2) ?_
            obtain ⟨k, hk, rfl⟩ := n_of (x := x2) (by grind)
            have := hx2.2
            rw [l255, n_le (by omega) (by omega)] at this
            exact ⟨k, by omega, rfl⟩
          by_cases e : i' = i
          · subst e
            refine ⟨p1, p2, p3, fun j' hj' => ?_, fun j' hj' => ?_⟩
            · by_cases e2 : j' = j
              · subst e2; rw [upd_s, upd_s]
              · rw [upd_o _ _ (by omega), upd_o _ _ (by omega)]; exact p4 j' hj'
            · by_cases e2 : j' = j
              · subst e2; rw [upd_s]; exact hby
              · rw [upd_o _ _ (by omega)]; exact p5 j' hj'
          · refine ⟨p1, p2, p3, fun j' hj' => ?_, fun j' hj' => ?_⟩
            · rw [upd_o _ _ (by omega), upd_o _ _ (by omega)]; exact p4 j' hj'
            · rw [upd_o _ _ (by omega)]; exact p5 j' hj'
      · refine ⟨-1, bX, bM, ?_, ?_, hL0⟩
        · rw [fX5_flip, fX2_hasByte]
          simp only [jp_e]
          rw [if_neg hX1, if_neg hX2]
          by_cases hn0 : x1 < 0
          · rw [if_pos hn0, zok_0, cal1_e, if_pos rfl]
          · rw [if_neg hn0, rowOf_ok _ (by omega), cal1_e, rdI_n (by omega) (by omega), q2, if_pos (by grind), zok_0, cal1_e, if_pos rfl]
        · rw [fX6_flip, ez, bnd_e, n_add, bnd_e, e3, bnd_e, in_yes h0.1 h0.2, cal1_e, jp_e, if_neg (by decide), in_yes hx2.1 hx2.2, cal1_e, if_neg (by decide), rdI_n (by omega) (by omega), q3, hz9, bnd_e, in_no ?_, cal1_e, if_pos rfl]
          intro h
          obtain ⟨j, hj, rfl⟩ := n_of (x := x1) (by grind)
          have := h.2
          rw [nm_le (by omega) (by omega)] at this
          exact hx1 ⟨h.1, by rw [n_lt (by omega) (by omega)]; omega⟩
    · refine ⟨-1, bX, bM, ?_, ?_, hL0⟩
      · have hh : ∃ r, fX2_hasByte (nI a) (nI (a + (g - 1))) lX (nI (a + i)) x1 = some r := by
          rw [fX2_hasByte]
          simp only [jp_e]
          rw [if_neg hX1, if_neg hX2]
          by_cases hn0 : x1 < 0
          · rw [if_pos hn0, zok_0]; exact ⟨_, rfl⟩
          · rw [if_neg hn0, rowOf_ok _ (by omega), cal1_e, rdI_n (by omega) (by omega), q2]
            by_cases hl : nI (len i) ≤ x1
            · rw [if_pos hl, zok_0]; exact ⟨_, rfl⟩
            · rw [if_neg hl, zok_1]; exact ⟨_, rfl⟩
        obtain ⟨r, hr⟩ := hh
        rw [fX5_flip, hr, cal1_e, jp_e]
        by_cases hr0 : r = 0
        · rw [if_pos hr0]
        · rw [if_neg hr0]
          by_cases h4 : x2 < 0
          · rw [if_pos h4]
          · rw [if_neg h4, if_neg (fun h5 => hx2 ⟨by grind, h5⟩)]
      · rw [fX6_flip, ez, bnd_e, n_add, bnd_e, e3, bnd_e, in_yes h0.1 h0.2, cal1_e, jp_e, if_neg (by decide), in_no hx2, cal1_e, if_pos rfl]
  · refine ⟨-1, bX, bM, ?_, ?_, hL0⟩
    · rw [fX5_flip, fX2_hasByte]
      simp only [jp_e]
      by_cases h1 : x0 < nI a
      · rw [if_pos h1, zok_0, cal1_e, if_pos rfl]
      · rw [if_neg h1, if_pos (by grind), zok_0, cal1_e, if_pos rfl]
    · rw [fX6_flip, bnd_e, n_add, bnd_e, e3, bnd_e, in_no h0, cal1_e, jp_e, if_pos rfl]
theorem ite_ex {α : Type} {c : Prop} [Decidable c] {A A' B B' : Option α} (h1 : c → ∃ r, A = some r ∧ B = some r) (h2 : ¬ c → ∃ r, A' = some r ∧ B' = some r) : ∃ r, (if c then A else A') = some r ∧ (if c then B else B') = some r := by
  by_cases h : c
  · rw [if_pos h, if_pos h]; exact h1 h
  · rw [if_neg h, if_neg h]; exact h2 h
theorem info_both {a g s : Nat} {lX bX lM bM : Nat → Int32} {len : Nat → Nat} (hL : RLo a g s lX bX lM bM len) (ha : a < 100000000) (c mx oc om p d : Int32) (rk : Nat → Int32) {cM mM : Int32} (hc : d = 0 → cM = c ∧ mM = mx) (x0 : Int32) :
    ∃ r, fX5_info c mx oc om rk (nI a) (nI (a + (g - 1))) (nI s) lX p d x0 = some r ∧ fX6_info cM mM p oc om d lM (nI a) (nI g) (nI s) (nI (cnt1 rk 16)) x0 = some r := by
  obtain ⟨hg1, hg4, hs0, hR⟩ := hL
  obtain ⟨q1, q2, q3, q4, q5⟩ := hR (g - 1) (by omega)
  rw [fX5_info, fX6_info]
  simp only [jp_e]
  rw [countL_ok hg1, lengthOf_ok (by omega) lX q2, count_ok, show nI g - 1 = nI (g - 1) from by rw [l1, n_sub hg1], cal1_e, cal1_e, cal1_e, bnd_e, rdI_n (by omega) (by omega), q3]
  by_cases hd : d = 0
  · obtain ⟨rfl, rfl⟩ := hc hd
    simp only [if_pos hd]
    repeat (refine ite_ex (fun _ => ⟨_, rfl, rfl⟩) (fun _ => ?_))
    exact ⟨_, rfl, rfl⟩
  · simp only [if_neg hd]
    repeat (refine ite_ex (fun _ => ⟨_, rfl, rfl⟩) (fun _ => ?_))
    exact ⟨_, rfl, rfl⟩
