/-! replaying a generation -/
def RGn (a n : Nat) (gX gM : Nat → Int32) : Prop := ∀ i, i < n → gX ((a + i) % 4) = gM i
def GenO (a g s i l C R0 : Nat) (x0 : Int32) (J176 J77 : Int32 → (Nat → Int32) → (Nat → Int32) → (Nat → Int32) → (Nat → Int64) → Int32 → Int32 → Int64 → (Nat → Int32) → Int32 → Int32 → Int32 → Int32 → Int64 → Int32 → Option (Int32 × (Nat → Int32) × (Nat → Int32) × (Nat → Int32) × (Nat → Int64) × Int32 × Int32 × Int64 × (Nat → Int32) × Int32 × Int32 × Int32 × Int32 × Int64 × Int32)) (J183 : Int32 → Int32 → (Nat → Int32) → (Nat → Int32) → (Nat → Int32) → (Nat → Int64) → (Nat → Int32) → Int32 → Int32 → (Nat → Int32) → Int32 → Int32 → Int32 → Int32 → Int32 → Int64 → Option ((Int32) × (Nat → Int32) × (Nat → Int32) × (Nat → Int32) × (Nat → Int32) × (Nat → Int64) × (Nat → Int64) × (Nat → Int32) × (Int32) × (Int32) × (Int32) × (Int32) × (Nat → Int32) × (Nat → Int32) × (Int32) × (Int32) × (Int32) × (Int32) × (Int32) × (Int32) × (Int64) × (Int32))) (J89 : (Nat → Int32) → (Nat → Int32) → (Nat → Int32) → (Nat → Int64) → (Nat → Int32) → Int32 → Int32 → (Nat → Int32) → Int32 → Int32 → Int32 → Int32 → Int32 → Int64 → Option ((Int32) × (Nat → Int32) × (Nat → Int32) × (Nat → Int32) × (Nat → Int32) × (Nat → Int64) × (Nat → Int64) × (Nat → Int32) × (Int32) × (Int32) × (Int32) × (Int32) × (Nat → Int32) × (Nat → Int32) × (Int32) × (Int32) × (Int32) × (Int32) × (Int32) × (Int32) × (Int64) × (Int32))) (sS : Nat → Int32) (sO : Nat → Int64) (pe dn : Int32) (lM : Nat → Int32) (vis : Int32) (rX : Option (Int32 × (Nat → Int32) × (Nat → Int32) × (Nat → Int32) × (Nat → Int64) × Int32 × Int32 × Int64 × (Nat → Int32) × Int32 × Int32 × Int32 × Int32 × Int64 × Int32)) (rM : Option ((Int32) × (Nat → Int32) × (Nat → Int32) × (Nat → Int32) × (Nat → Int32) × (Nat → Int64) × (Nat → Int64) × (Nat → Int32) × (Int32) × (Int32) × (Int32) × (Int32) × (Nat → Int32) × (Nat → Int32) × (Int32) × (Int32) × (Int32) × (Int32) × (Int32) × (Int32) × (Int64) × (Int32))) : Prop :=
  ∃ (kX sX vX : Nat → Int32) (oX : Nat → Int64) (c mx : Nat) (aX : Int64) (gX : Nat → Int32) (o1 o2 o3 o4 : Int32) (o5 : Int64) (R p : Nat) (kM sM vM : Nat → Int32) (oM : Nat → Int64) (d gM : Nat → Int32) (r1 r2 r3 r4 r5 : Int32) (r6 : Int64),
    (p ≤ l ∧ RVe c mx kX sX vX oX aX kM sM vM oM d ∧ RGn a (i + 1) gX gM ∧ c ≤ C ∧ R ≤ R0 ∧ (x0 < 0 ∨ nI R ≤ x0) ∧
      ((p = l ∧ rX = J176 (nI p) kX sX vX oX (mI c) (mI mx) aX gX o1 o2 o3 o4 o5 (nI R) ∧ rM = J183 (nI R) (-1) kM sM vM oM d (mI c) (mI mx) gM r1 r2 r3 r4 r5 r6) ∨
       (p < l ∧ rX = J77 (nI p) kX sX vX oX (mI c) (mI mx) aX gX o1 o2 o3 o4 o5 (nI R) ∧
         ((i = g - 1 ∧ s ≤ p ∧ rM = J183 (nI R) (nI p) kM sM vM oM d (mI c) (mI mx) gM r1 r2 r3 r4 r5 r6) ∨ (¬ (i = g - 1 ∧ s ≤ p) ∧ rM = J89 kM sM vM oM d (mI c) (mI mx) gM r1 r2 r3 r4 r5 r6))))) ∨
    (rX = some (-4, kX, sX, vX, oX, mI c, mI mx, aX, gX, o1, o2, o3, o4, o5, nI R) ∧ ∃ cM mM gM', rM = some (-4, kM, sM, vM, sS, oM, sO, d, cM, mM, pe, dn, lM, gM', nI s, r1, r2, r3, r4, r5, r6, vis))
theorem gen_loop {a g s i : Nat} {lX bX lM bM : Nat → Int32} {len : Nat → Nat} (hL : RLo a g s lX bX lM bM len) (ha : a < 100000000) (hi : i < g) (x0 : Int32) (J176 J77 : Int32 → (Nat → Int32) → (Nat → Int32) → (Nat → Int32) → (Nat → Int64) → Int32 → Int32 → Int64 → (Nat → Int32) → Int32 → Int32 → Int32 → Int32 → Int64 → Int32 → Option (Int32 × (Nat → Int32) × (Nat → Int32) × (Nat → Int32) × (Nat → Int64) × Int32 × Int32 × Int64 × (Nat → Int32) × Int32 × Int32 × Int32 × Int32 × Int64 × Int32)) (J183 : Int32 → Int32 → (Nat → Int32) → (Nat → Int32) → (Nat → Int32) → (Nat → Int64) → (Nat → Int32) → Int32 → Int32 → (Nat → Int32) → Int32 → Int32 → Int32 → Int32 → Int32 → Int64 → Option ((Int32) × (Nat → Int32) × (Nat → Int32) × (Nat → Int32) × (Nat → Int32) × (Nat → Int64) × (Nat → Int64) × (Nat → Int32) × (Int32) × (Int32) × (Int32) × (Int32) × (Nat → Int32) × (Nat → Int32) × (Int32) × (Int32) × (Int32) × (Int32) × (Int32) × (Int32) × (Int64) × (Int32))) (J89 : (Nat → Int32) → (Nat → Int32) → (Nat → Int32) → (Nat → Int64) → (Nat → Int32) → Int32 → Int32 → (Nat → Int32) → Int32 → Int32 → Int32 → Int32 → Int32 → Int64 → Option ((Int32) × (Nat → Int32) × (Nat → Int32) × (Nat → Int32) × (Nat → Int32) × (Nat → Int64) × (Nat → Int64) × (Nat → Int32) × (Int32) × (Int32) × (Int32) × (Int32) × (Nat → Int32) × (Nat → Int32) × (Int32) × (Int32) × (Int32) × (Int32) × (Int32) × (Int32) × (Int64) × (Int32))) (sS : Nat → Int32) (sO : Nat → Int64) (pe dn vis : Int32) {C R0 : Nat} (hC : C < 100000000) (hR0 : R0 < 100000000) :
    ∀ (m p n R c mx f1 f2 : Nat) (kX sX vX : Nat → Int32) (oX : Nat → Int64) (aX : Int64) (gX : Nat → Int32) (o1 o2 o3 o4 : Int32) (o5 : Int64) (kM sM vM : Nat → Int32) (oM : Nat → Int64) (d gM : Nat → Int32) (r1 r2 r3 r4 r5 : Int32) (r6 : Int64),
      len i - p ≤ m → p ≤ len i → 8 * n ≤ p → m < f1 → m + 1 < f2 → c + 64 * (len i - p) ≤ C → R + (len i - p) ≤ R0 → (x0 < 0 ∨ nI R ≤ x0) → RVe c mx kX sX vX oX aX kM sM vM oM d → RGn a (i + 1) gX gM →
      GenO a g s i (len i) C R0 x0 J176 J77 J183 J89 sS sO pe dn lM vis (lo16 (sX5_replayGeneration_23 J176 (nI (len i)) bX lX (nI (a + i)) J77 x0) f1 (nI p) (nI n) kX sX vX oX (mI c) (mI mx) aX gX o1 o2 o3 o4 o5 (nI R))
        (lo17 (sX6_recover_40 lM (nI i) J183 bM (nI g) J89 (nI s) x0 sS sO pe dn vis) f2 (nI R) (-1) (nI p) kM sM vM oM d (mI c) (mI mx) gM r1 r2 r3 r4 r5 r6) := by
  have hL0 := hL
  obtain ⟨hg1, hg4, hs0, hR⟩ := hL
  obtain ⟨q1, q2, q3, q4, q5⟩ := hR i hi
  have hs240 : s ≤ 240 := Nat.le_trans hs0 (hR (g - 1) (by omega)).1
  have hcur : ∀ (K : Int32 → Option ((Int32) × (Nat → Int32) × (Nat → Int32) × (Nat → Int32) × (Nat → Int32) × (Nat → Int64) × (Nat → Int64) × (Nat → Int32) × (Int32) × (Int32) × (Int32) × (Int32) × (Nat → Int32) × (Nat → Int32) × (Int32) × (Int32) × (Int32) × (Int32) × (Int32) × (Int32) × (Int64) × (Int32))), cal1 (fX6_current (nI g)) K = K (nI (g - 1)) := by
    intro K
    rw [show nI g = nI (g - 1 + 1) by rw [show g - 1 + 1 = g by omega], current_ok (by omega), cal1_e]
  intro m
  induction m with
  | zero =>
    intro p n R c mx f1 f2 kX sX vX oX aX gX o1 o2 o3 o4 o5 kM sM vM oM d gM r1 r2 r3 r4 r5 r6 hm hp hn hf1 hf2 hc hr hx hV hG
    obtain ⟨f1, rfl⟩ : ∃ z, f1 = z + 1 := ⟨f1 - 1, by omega⟩
    obtain ⟨f2, rfl⟩ : ∃ z, f2 = z + 1 := ⟨f2 - 1, by omega⟩
    obtain rfl : p = len i := by omega
    refine ⟨kX, sX, vX, oX, c, mx, aX, gX, o1, o2, o3, o4, o5, R, len i, kM, sM, vM, oM, d, gM, r1, r2, r3, r4, r5, r6, Or.inl ⟨hp, hV, hG, by omega, by omega, hx, Or.inl ⟨rfl, ?_, ?_⟩⟩⟩
    · rw [lo16_s, sX5_replayGeneration_23, if_neg (by rw [l240, n_le (by omega) (by omega)]; omega), if_pos (by rw [n_le (by omega) (by omega)]; omega)]
    · rw [lo17_s, sX6_recover_40, rdI_n (by omega) (by omega), q3, if_pos (by rw [n_le (by omega) (by omega)]; omega)]
  | succ m ih =>
    intro p n R c mx f1 f2 kX sX vX oX aX gX o1 o2 o3 o4 o5 kM sM vM oM d gM r1 r2 r3 r4 r5 r6 hm hp hn hf1 hf2 hc hr hx hV hG
    obtain ⟨f1, rfl⟩ : ∃ z, f1 = z + 1 := ⟨f1 - 1, by omega⟩
    obtain ⟨f2, rfl⟩ : ∃ z, f2 = z + 2 := ⟨f2 - 2, by omega⟩
    have h240 : ¬ (240 : Int32) ≤ nI n := by rw [l240, n_le (by omega) (by omega)]; omega
    have hm1 : ¬ (0 : Int32) ≤ -1 := by decide
    by_cases hpl : p = len i
    · refine ⟨kX, sX, vX, oX, c, mx, aX, gX, o1, o2, o3, o4, o5, R, p, kM, sM, vM, oM, d, gM, r1, r2, r3, r4, r5, r6, Or.inl ⟨hp, hV, hG, by omega, by omega, hx, Or.inl ⟨hpl, ?_, ?_⟩⟩⟩
      · rw [lo16_s, sX5_replayGeneration_23, if_neg h240, if_pos (by rw [n_le (by omega) (by omega)]; omega)]
      · rw [lo17_s, sX6_recover_40, rdI_n (by omega) (by omega), q3, if_pos (by rw [n_le (by omega) (by omega)]; omega)]
    · have hpl2 : ¬ nI (len i) ≤ nI p := by rw [n_le (by omega) (by omega)]; omega
      have hbad : ∀ (k1 k2 k3 k4 m1 m2 m3 m4 m5 : Int32) (k5 m6 : Int64),
          fX6_reads (mI c) bM lM r1 r2 r3 r4 r5 r6 (nI i) (nI p) = some (0, m1, m2, m3, m4, m5, m6) →
          lo16 (sX5_replayGeneration_23 J176 (nI (len i)) bX lX (nI (a + i)) J77 x0) (f1 + 1) (nI p) (nI n) kX sX vX oX (mI c) (mI mx) aX gX o1 o2 o3 o4 o5 (nI R) = J77 (nI p) kX sX vX oX (mI c) (mI mx) aX gX k1 k2 k3 k4 k5 (nI R) →
          GenO a g s i (len i) C R0 x0 J176 J77 J183 J89 sS sO pe dn lM vis (lo16 (sX5_replayGeneration_23 J176 (nI (len i)) bX lX (nI (a + i)) J77 x0) (f1 + 1) (nI p) (nI n) kX sX vX oX (mI c) (mI mx) aX gX o1 o2 o3 o4 o5 (nI R))
            (lo17 (sX6_recover_40 lM (nI i) J183 bM (nI g) J89 (nI s) x0 sS sO pe dn vis) (f2 + 2) (nI R) (-1) (nI p) kM sM vM oM d (mI c) (mI mx) gM r1 r2 r3 r4 r5 r6) := by
        intro k1 k2 k3 k4 m1 m2 m3 m4 m5 k5 m6 hM hX
        refine ⟨kX, sX, vX, oX, c, mx, aX, gX, k1, k2, k3, k4, k5, R, p, kM, sM, vM, oM, d, gM, m1, m2, m3, m4, m5, m6, Or.inl ⟨hp, hV, hG, by omega, by omega, hx, Or.inr ⟨by omega, hX, ?_⟩⟩⟩
        have hne : ∀ (x y : Option ((Int32) × (Nat → Int32) × (Nat → Int32) × (Nat → Int32) × (Nat → Int32) × (Nat → Int64) × (Nat → Int64) × (Nat → Int32) × (Int32) × (Int32) × (Int32) × (Int32) × (Nat → Int32) × (Nat → Int32) × (Int32) × (Int32) × (Int32) × (Int32) × (Int32) × (Int32) × (Int64) × (Int32))), (if nI i < nI (g - 1) then x else y) = if i < g - 1 then x else y := by
          intro x y
          by_cases h : i < g - 1
          · rw [if_pos h, if_pos (by rw [n_lt (by omega) (by omega)]; omega)]
          · rw [if_neg h, if_neg (by rw [n_lt (by omega) (by omega)]; omega)]
        by_cases h : i = g - 1 ∧ s ≤ p
        · refine Or.inl ⟨h.1, h.2, ?_⟩
          rw [lo17_s, sX6_recover_40, rdI_n (by omega) (by omega), q3, if_neg hpl2, if_neg hm1, hM, cal7_e, if_pos rfl, hcur, hne, if_neg (by omega), if_pos (by rw [n_le (by omega) (by omega)]; omega), lo17_s, sX6_recover_40, rdI_n (by omega) (by omega), q3, if_neg hpl2, if_pos (by rw [l0, n_le (by omega) (by omega)]; omega)]
        · refine Or.inr ⟨h, ?_⟩
          rw [lo17_s, sX6_recover_40, rdI_n (by omega) (by omega), q3, if_neg hpl2, if_neg hm1, hM, cal7_e, if_pos rfl, hcur, hne]
          by_cases h2 : i < g - 1
          · rw [if_pos h2]
          · rw [if_neg h2, if_neg (by rw [n_le (by omega) (by omega)]; omega)]
      rcases read_both (c := c) hL0 ha (by omega) hi hp o1 o2 o3 o4 r1 r2 r3 r4 r5 o5 r6 with ⟨kind, sz, q, j, idX, idM, ver, src, hkz, hpl3, hq, hid, eX, eM⟩ | ⟨k1, k2, k3, k4, m1, m2, m3, m4, m5, k5, m6, eX, eM⟩
      · have hsz : 3 ≤ sz ∧ sz ≤ 14 := by rcases hkz with ⟨_, h⟩ | ⟨_, h⟩ | ⟨_, h⟩ <;> omega
        have hr0 : ¬ nI (sz + 5) = 0 := by rw [l0, n_eq (by omega) (by omega)]; omega
        by_cases hqc : q ≤ c + 63
        · rw [if_pos hqc] at eM
          obtain ⟨hD, hI, hM, hb, hc1, hc2⟩ := hV
          have hgi := hG i (by omega)
          have hG' : RGn a (i + 1) (upd gX ((a + i) % 4) (if gX ((a + i) % 4) < nI q then nI q else gX ((a + i) % 4))) (upd gM i (if gM i < nI q then nI q else gM i)) := by
            intro i' hi'
            by_cases e : i' = i
            · subst e; rw [upd_s, upd_s, hgi]
            · rw [upd_o _ _ (by omega), upd_o _ _ e]; exact hG i' hi'
          have eXs : ∀ f, lo16 (sX5_replayGeneration_23 J176 (nI (len i)) bX lX (nI (a + i)) J77 x0) (f + 1) (nI p) (nI n) kX sX vX oX (mI c) (mI mx) aX gX o1 o2 o3 o4 o5 (nI R) =
              if (if q < c ∨ (q < c + 64 ∧ jb aX (q - c) = true) then (1 : Int32) else 0) = 0 then
                (if x0 < 0 then cal8 (fX1_process kX sX vX oX (mI c) (mI mx) aX kind (nI q) idX ver src) (fun r76 u77 u78 u79 u80 u81 u82 u83 => lo16 (sX5_replayGeneration_23 J176 (nI (len i)) bX lX (nI (a + i)) J77 x0) f (nI (p + (sz + 5))) (nI (n + 1)) u77 u78 u79 u80 u81 u82 u83 (upd gX ((a + i) % 4) (if gX ((a + i) % 4) < nI q then nI q else gX ((a + i) % 4))) kind (nI q) idX ver src (nI (R + 1)))
                 else if nI R < x0 then cal8 (fX1_process kX sX vX oX (mI c) (mI mx) aX kind (nI q) idX ver src) (fun r76 u77 u78 u79 u80 u81 u82 u83 => lo16 (sX5_replayGeneration_23 J176 (nI (len i)) bX lX (nI (a + i)) J77 x0) f (nI (p + (sz + 5))) (nI (n + 1)) u77 u78 u79 u80 u81 u82 u83 (upd gX ((a + i) % 4) (if gX ((a + i) % 4) < nI q then nI q else gX ((a + i) % 4))) kind (nI q) idX ver src (nI (R + 1)))
                 else some (-4, kX, sX, vX, oX, mI c, mI mx, aX, upd gX ((a + i) % 4) (if gX ((a + i) % 4) < nI q then nI q else gX ((a + i) % 4)), kind, nI q, idX, ver, src, nI R))
              else lo16 (sX5_replayGeneration_23 J176 (nI (len i)) bX lX (nI (a + i)) J77 x0) f (nI (p + (sz + 5))) (nI (n + 1)) kX sX vX oX (mI c) (mI mx) aX (upd gX ((a + i) % 4) (if gX ((a + i) % 4) < nI q then nI q else gX ((a + i) % 4))) kind (nI q) idX ver src (nI R) := by
            intro f
            rw [lo16_s, sX5_replayGeneration_23, if_neg h240, if_neg hpl2, eX, cal6_e, if_neg hr0, show mI c + 64 = nI (c + 63) from m_add c 63, bnd_e, if_pos (by rw [n_le (by omega) (by omega)]; omega), noteSeq_ok (by omega), cal1_e, isProcessed_ok (by omega) (by omega), cal1_e]
            simp only [jp_e, bnd_e]
            rw [nI_1, nI_1, n_add]
          have eMs : ∀ f, lo17 (sX6_recover_40 lM (nI i) J183 bM (nI g) J89 (nI s) x0 sS sO pe dn vis) (f + 1) (nI R) (-1) (nI p) kM sM vM oM d (mI c) (mI mx) gM r1 r2 r3 r4 r5 r6 =
              if (if q < c ∨ (q < c + 64 ∧ jb aX (q - c) = true) then (1 : Int32) else 0) = 0 then
                (if x0 < 0 then cal8 (fX6_process kM sM vM oM d (mI c) (mI mx) kind idM (nI q) ver src) (fun r125 u126 u127 u128 u129 u130 u131 u132 => lo17 (sX6_recover_40 lM (nI i) J183 bM (nI g) J89 (nI s) x0 sS sO pe dn vis) f (nI (R + 1)) (-1) (nI (p + sz + 5)) u126 u127 u128 u129 u130 u131 u132 (upd gM i (if gM i < nI q then nI q else gM i)) kind (nI q) idM ver (nI (p + sz + 5)) src)
                 else if nI R = x0 then some (-4, kM, sM, vM, sS, oM, sO, d, mI c, mI mx, pe, dn, lM, gM, nI s, kind, nI q, idM, ver, nI (p + sz + 5), src, vis)
                 else cal8 (fX6_process kM sM vM oM d (mI c) (mI mx) kind idM (nI q) ver src) (fun r125 u126 u127 u128 u129 u130 u131 u132 => lo17 (sX6_recover_40 lM (nI i) J183 bM (nI g) J89 (nI s) x0 sS sO pe dn vis) f (nI (R + 1)) (-1) (nI (p + sz + 5)) u126 u127 u128 u129 u130 u131 u132 (upd gM i (if gM i < nI q then nI q else gM i)) kind (nI q) idM ver (nI (p + sz + 5)) src))
              else lo17 (sX6_recover_40 lM (nI i) J183 bM (nI g) J89 (nI s) x0 sS sO pe dn vis) f (nI R) (-1) (nI (p + sz + 5)) kM sM vM oM d (mI c) (mI mx) (upd gM i (if gM i < nI q then nI q else gM i)) kind (nI q) idM ver (nI (p + sz + 5)) src := by
            intro f
            rw [lo17_s, sX6_recover_40, rdI_n (by omega) (by omega), q3, if_neg hpl2, if_neg hm1, eM, cal7_e, if_neg (by decide), isDone_ok hM (by omega) (by omega), cal1_e]
            simp only [jp_e, bnd_e]
            simp only [rdI_n (show i < 4 by omega) (show 4 < 2147483648 by omega)]
            rw [nI_1]
            by_cases hgq : gM i < nI q
            · simp only [if_pos hgq, if_neg (show ¬ nI q ≤ gM i by grind), wrI_n (show i < 4 by omega) (show 4 < 2147483648 by omega)]
            · simp only [if_neg hgq, if_pos (show nI q ≤ gM i by grind), upd_id gM (k := i) rfl]
          have epp : p + sz + 5 = p + (sz + 5) := by omega
          rw [eXs, eMs (f2 + 1), epp]
          by_cases hdone : q < c ∨ (q < c + 64 ∧ jb aX (q - c) = true)
          · rw [if_pos hdone, if_neg (show ¬ (1 : Int32) = 0 by decide), if_neg (show ¬ (1 : Int32) = 0 by decide)]
            exact ih (p + (sz + 5)) (n + 1) R c mx f1 (f2 + 1) _ _ _ _ _ _ _ _ _ _ _ _ _ _ _ _ _ _ _ _ _ _ _ (by omega) (by omega) (by omega) (by omega) (by omega) (by omega) (by omega) hx ⟨hD, hI, hM, hb, hc1, hc2⟩ hG'
          · have h12 : kind = 3 ∨ ((kind = 1 ∨ kind = 2) ∧ idX = nI j ∧ idM = nI j ∧ j < 16) := by
              rcases hid with h | h
              · exact Or.inl h
              · rcases hkz with ⟨e, _⟩ | ⟨e, _⟩ | ⟨e, _⟩
                · exact Or.inr ⟨Or.inl e, h⟩
                · exact Or.inr ⟨Or.inr e, h⟩
                · exact Or.inl e
            obtain ⟨r, kX', sX', vX', oX', kM', sM', vM', oM', k, a', d', e1, e2, hD', hI', hM', hb', hc', hk64, hr01, hpr⟩ := process_both (ver := ver) (src := src) (q := q) hD hI hM hb hc1 (by omega) (by omega) (by omega) h12
            have hgo : x0 < 0 ∨ nI (R + 1) ≤ x0 → GenO a g s i (len i) C R0 x0 J176 J77 J183 J89 sS sO pe dn lM vis (lo16 (sX5_replayGeneration_23 J176 (nI (len i)) bX lX (nI (a + i)) J77 x0) f1 (nI (p + (sz + 5))) (nI (n + 1)) kX' sX' vX' oX' (mI (c + k)) (mI (max mx (q + 1))) a' (upd gX ((a + i) % 4) (if gX ((a + i) % 4) < nI q then nI q else gX ((a + i) % 4))) kind (nI q) idX ver src (nI (R + 1)))
                (lo17 (sX6_recover_40 lM (nI i) J183 bM (nI g) J89 (nI s) x0 sS sO pe dn vis) (f2 + 1) (nI (R + 1)) (-1) (nI (p + (sz + 5))) kM' sM' vM' oM' d' (mI (c + k)) (mI (max mx (q + 1))) (upd gM i (if gM i < nI q then nI q else gM i)) kind (nI q) idM ver (nI (p + (sz + 5))) src) := fun hx' =>
              ih (p + (sz + 5)) (n + 1) (R + 1) (c + k) (max mx (q + 1)) f1 (f2 + 1) _ _ _ _ _ _ _ _ _ _ _ _ _ _ _ _ _ _ _ _ _ _ _ (by omega) (by omega) (by omega) (by omega) (by omega) (by omega) (by omega) hx' ⟨hD', hI', hM', hb', hc', by omega⟩ hG'
            rw [if_neg hdone, if_pos rfl, if_pos rfl, e1, e2, cal8_e, cal8_e]
            by_cases hx0 : x0 < 0
            · rw [if_pos hx0, if_pos hx0]
              exact hgo (Or.inl hx0)
            · obtain ⟨t, ht, rfl⟩ := n_of hx0
              have hRt : R ≤ t := by
                rcases hx with h | h
                · exact absurd h hx0
                · rw [n_le (by omega) (by omega)] at h; exact h
              rw [if_neg hx0, if_neg hx0]
              by_cases hlt : R < t
              · rw [if_pos (show nI R < nI t by rw [n_lt (by omega) (by omega)]; omega), if_neg (show ¬ nI R = nI t by rw [n_eq (by omega) (by omega)]; omega)]
                exact hgo (Or.inr (by rw [n_le (by omega) (by omega)]; omega))
              · rw [if_neg (show ¬ nI R < nI t by rw [n_lt (by omega) (by omega)]; omega), if_pos (show nI R = nI t by rw [n_eq (by omega) (by omega)]; omega)]
                exact ⟨_, _, _, _, c, mx, _, _, _, _, _, _, _, R, p, kM, sM, vM, oM, d, gM, _, _, _, _, _, _, Or.inr ⟨rfl, _, _, _, rfl⟩⟩
        · rw [if_neg hqc] at eM
          refine hbad kind (nI q) idX ver _ _ _ _ _ src _ eM ?_
          rw [lo16_s, sX5_replayGeneration_23, if_neg h240, if_neg hpl2, eX, cal6_e, if_neg hr0, show mI c + 64 = nI (c + 63) from m_add c 63, bnd_e, if_neg (by rw [n_le (by omega) (by omega)]; omega)]
      · refine hbad k1 k2 k3 k4 _ _ _ _ _ k5 _ eM ?_
        rw [lo16_s, sX5_replayGeneration_23, if_neg h240, if_neg hpl2, eX, cal6_e, if_pos rfl]
