/-! fill -/
noncomputable def mis (c : Nat) (a : Int64) : Nat → Nat → Nat
  | _, 0 => 0
  | q, m + 1 => (if q < c ∨ (q < c + 64 ∧ jb a (q - c) = true) then 0 else 1) + mis c a (q + 1) m
theorem mis_le (c : Nat) (a : Int64) : ∀ (m q : Nat), mis c a q m ≤ m := by
  intro m
  induction m with
  | zero => intro q; exact Nat.le_refl _
  | succ m ih => intro q; have := ih (q + 1); show _ + mis c a (q + 1) m ≤ m + 1; split <;> omega
theorem pr_iff {c q : Nat} {a : Int64} : (q < c ∨ (q < c + 64 ∧ jb a (q - c) = true)) ↔ pr c a q := by
  unfold pr
  constructor
  · rintro (e | e)
    · exact Or.inl e
    · exact Or.inr e.2
  · rintro (e | e)
    · exact Or.inl e
    · by_cases h : q < c + 64
      · exact Or.inr ⟨h, e⟩
      · rw [jb_big (by omega)] at e; cases e
theorem mis_congr {c c' : Nat} {a a' : Int64} : ∀ (m q : Nat), (∀ j, q ≤ j → (pr c a j ↔ pr c' a' j)) → mis c a q m = mis c' a' q m := by
  intro m
  induction m with
  | zero => intro q h; rfl
  | succ m ih =>
    intro q h
    show _ + mis c a (q + 1) m = _ + mis c' a' (q + 1) m
    rw [ih (q + 1) (fun j hj => h j (by omega))]
    congr 1
    have := h q (Nat.le_refl _)
    rw [← pr_iff, ← pr_iff] at this
    by_cases h1 : q < c ∨ (q < c + 64 ∧ jb a (q - c) = true)
    · rw [if_pos h1, if_pos (this.mp h1)]
    · rw [if_neg h1, if_neg (fun z => h1 (this.mpr z))]
theorem missX_loop (J : Int32 → Option Int32) {c mx : Nat} {a : Int64} (hc : c < 100000000) (hmx : mx ≤ c + 64) : ∀ (m q : Nat), q + m = mx → ∀ (n : Nat), m < n → ∀ (x y : Int32) (k : Nat), x = nI k → y = nI q → lo2 (sX1_countMissing_9 (mI mx) J (mI c) a) n x y = J (nI (k + mis c a q m)) := by
  intro m
  induction m with
  | zero =>
    intro q hq n hn x y k hx hy
    subst hx; subst hy
    obtain ⟨n, rfl⟩ : ∃ z, n = z + 1 := ⟨n - 1, by omega⟩
    rw [lo2_s, sX1_countMissing_9, if_pos (by rw [mn_lt (by omega) (by omega)]; omega)]; rfl
  | succ m ih =>
    intro q hq n hn x y k hx hy
    subst hx; subst hy
    obtain ⟨n, rfl⟩ : ∃ z, n = z + 1 := ⟨n - 1, by omega⟩
    rw [lo2_s, sX1_countMissing_9, if_neg (by rw [mn_lt (by omega) (by omega)]; omega), isProcessed_ok (by omega) (by omega), cal1_e]
    simp only [bnd_e, jp_e]
    show _ = J (nI (k + (_ + mis c a (q + 1) m)))
    by_cases h : q < c ∨ (q < c + 64 ∧ jb a (q - c) = true)
    · rw [if_pos h, if_neg (by decide), nI_1, ih (q + 1) (by omega) n (by omega) _ _ k rfl rfl, if_pos h, Nat.zero_add]
    · rw [if_neg h, if_pos rfl, nI_1, nI_1, ih (q + 1) (by omega) n (by omega) _ _ (k + 1) rfl rfl, if_neg h, Nat.add_assoc]
theorem missM_loop (J : Int32 → Option (Int32 × (Nat → Int32) × (Nat → Int32) × (Nat → Int32) × (Nat → Int64) × (Nat → Int32) × Int32 × Int32 × (Nat → Int32) × (Nat → Int32) × (Nat → Int32))) {c mx : Nat} {a : Int64} {d : Nat → Int32} (hM : RM a d) (hc : c < 100000000) (hmx : mx ≤ c + 64) : ∀ (m q : Nat), q + m = mx → ∀ (n : Nat), m < n → ∀ (x y : Int32) (k : Nat), x = nI k → y = nI q → lo2 (sX6_fill_19 (mI mx) J d (mI c)) n x y = J (nI (k + mis c a q m)) := by
  intro m
  induction m with
  | zero =>
    intro q hq n hn x y k hx hy
    subst hx; subst hy
    obtain ⟨n, rfl⟩ : ∃ z, n = z + 1 := ⟨n - 1, by omega⟩
    rw [lo2_s, sX6_fill_19, if_pos (by rw [mn_lt (by omega) (by omega)]; omega)]; rfl
  | succ m ih =>
    intro q hq n hn x y k hx hy
    subst hx; subst hy
    obtain ⟨n, rfl⟩ : ∃ z, n = z + 1 := ⟨n - 1, by omega⟩
    rw [lo2_s, sX6_fill_19, if_neg (by rw [mn_lt (by omega) (by omega)]; omega), isDone_ok hM (by omega) (by omega), cal1_e]
    simp only [bnd_e, jp_e]
    show _ = J (nI (k + (_ + mis c a (q + 1) m)))
    by_cases h : q < c ∨ (q < c + 64 ∧ jb a (q - c) = true)
    · rw [if_pos h, if_neg (by decide), nI_1, ih (q + 1) (by omega) n (by omega) _ _ k rfl rfl, if_pos h, Nat.zero_add]
    · rw [if_neg h, if_pos rfl, nI_1, nI_1, ih (q + 1) (by omega) n (by omega) _ _ (k + 1) rfl rfl, if_neg h, Nat.add_assoc]
theorem fill_loop {mx a g s : Nat} (ha : a < 100000000) (hmx : mx < 700000000) : ∀ (m q : Nat), q + m = mx → ∀ (c : Nat) (kX sX vX : Nat → Int32) (oX : Nat → Int64) (aX : Int64) (bX lX gX kM sM vM : Nat → Int32) (oM : Nat → Int64) (d bM lM gM : Nat → Int32) (len : Nat → Nat) (p1 p2 p3 p4 : Int32) (p5 : Int64),
    RVe c mx kX sX vX oX aX kM sM vM oM d → RLo a g s lX bX lM bM len → RG a g gX gM → len (g - 1) + mis c aX q m * 8 ≤ 240 →
    ∃ (c' : Nat) (kX' sX' vX' : Nat → Int32) (oX' : Nat → Int64) (aX' : Int64) (bX' lX' gX' kM' sM' vM' : Nat → Int32) (oM' : Nat → Int64) (d' bM' lM' gM' : Nat → Int32) (len' : Nat → Nat) (p1' p2' p3' p4' : Int32) (p5' : Int64),
      (∀ (J : (Nat → Int32) → (Nat → Int32) → (Nat → Int32) → (Nat → Int64) → Int32 → Int32 → Int64 → (Nat → Int32) → (Nat → Int32) → (Nat → Int32) → Int32 → Int32 → Int32 → Int32 → Int64 → Option (Int32 × (Nat → Int32) × (Nat → Int32) × (Nat → Int32) × (Nat → Int64) × Int32 × Int32 × Int64 × (Nat → Int32) × (Nat → Int32) × (Nat → Int32) × Int32 × Int32 × Int32 × Int32 × Int64)) (n : Nat) (y : Int32), m < n → y = nI q → lo16 (sX5_fill_55 (mI mx) J (nI (a + (g - 1)))) n y kX sX vX oX (mI c) (mI mx) aX bX lX gX p1 p2 p3 p4 p5 = J kX' sX' vX' oX' (mI c') (mI mx) aX' bX' lX' gX' p1' p2' p3' p4' p5') ∧
      (∀ (J : (Nat → Int32) → (Nat → Int32) → (Nat → Int32) → (Nat → Int64) → (Nat → Int32) → Int32 → Int32 → (Nat → Int32) → (Nat → Int32) → (Nat → Int32) → Option (Int32 × (Nat → Int32) × (Nat → Int32) × (Nat → Int32) × (Nat → Int64) × (Nat → Int32) × Int32 × Int32 × (Nat → Int32) × (Nat → Int32) × (Nat → Int32))) (n : Nat) (y : Int32), m < n → y = nI q → lo11 (sX6_fill_65 J (nI g)) n y kM sM vM oM d (mI c) (mI mx) bM lM gM = J kM' sM' vM' oM' d' (mI c') (mI mx) bM' lM' gM') ∧
      RVe c' mx kX' sX' vX' oX' aX' kM' sM' vM' oM' d' ∧ RLo a g s lX' bX' lM' bM' len' ∧ RG a g gX' gM' ∧ c' ≤ c + m * 64 := by
  intro m
  induction m with
  | zero =>
    intro q hq c kX sX vX oX aX bX lX gX kM sM vM oM d bM lM gM len p1 p2 p3 p4 p5 hV hL hG hroom
    refine ⟨c, kX, sX, vX, oX, aX, bX, lX, gX, kM, sM, vM, oM, d, bM, lM, gM, len, p1, p2, p3, p4, p5, fun J n y hn hy => ?_, fun J n y hn hy => ?_, hV, hL, hG, by omega⟩
    · subst hy
      obtain ⟨n, rfl⟩ : ∃ z, n = z + 1 := ⟨n - 1, by omega⟩
      rw [lo16_s, sX5_fill_55, if_pos (by rw [mn_lt (by omega) (by omega)]; omega)]
    · subst hy
      obtain ⟨n, rfl⟩ : ∃ z, n = z + 1 := ⟨n - 1, by omega⟩
      rw [lo11_s, sX6_fill_65, if_pos (by rw [mn_lt (by omega) (by omega)]; omega)]
  | succ m ih =>
    intro q hq c kX sX vX oX aX bX lX gX kM sM vM oM d bM lM gM len p1 p2 p3 p4 p5 hV hL hG hroom
    have hc1 := hV.2.2.2.2.1
    have hc2 := hV.2.2.2.2.2
    have hM := hV.2.2.1
    have hmis : mis c aX q (m + 1) = (if q < c ∨ (q < c + 64 ∧ jb aX (q - c) = true) then 0 else 1) + mis c aX (q + 1) m := rfl
    by_cases h : q < c ∨ (q < c + 64 ∧ jb aX (q - c) = true)
    · rw [if_pos h, Nat.zero_add] at hmis
      obtain ⟨c', kX', sX', vX', oX', aX', bX', lX', gX', kM', sM', vM', oM', d', bM', lM', gM', len', p1', p2', p3', p4', p5', e1, e2, e3, e4, e5, e6⟩ := ih (q + 1) (by omega) c kX sX vX oX aX bX lX gX kM sM vM oM d bM lM gM len p1 p2 p3 p4 p5 hV hL hG (by rw [← hmis]; exact hroom)
      refine ⟨c', kX', sX', vX', oX', aX', bX', lX', gX', kM', sM', vM', oM', d', bM', lM', gM', len', p1', p2', p3', p4', p5', fun J n y hn hy => ?_, fun J n y hn hy => ?_, e3, e4, e5, by omega⟩
      · subst hy
        obtain ⟨n, rfl⟩ : ∃ z, n = z + 1 := ⟨n - 1, by omega⟩
        rw [lo16_s, sX5_fill_55, if_neg (by rw [mn_lt (by omega) (by omega)]; omega), isProcessed_ok (by omega) (by omega), cal1_e, if_pos h]
        simp only [bnd_e, jp_e]
        rw [if_neg (by decide), nI_1, e1 J n _ (by omega) rfl]
      · subst hy
        obtain ⟨n, rfl⟩ : ∃ z, n = z + 1 := ⟨n - 1, by omega⟩
        rw [lo11_s, sX6_fill_65, if_neg (by rw [mn_lt (by omega) (by omega)]; omega), isDone_ok hM (by omega) (by omega), cal1_e, if_pos h]
        simp only [bnd_e, jp_e]
        rw [if_neg (by decide), nI_1, e2 J n _ (by omega) rfl]
    · rw [if_neg h] at hmis
      obtain ⟨r, kX1, sX1, vX1, oX1, c1, aX1, bX1, lX1, gX1, kM1, sM1, vM1, oM1, d1, bM1, lM1, gM1, f1, f2, f3, f4, f5, f6, f7, f8, f9, f10⟩ := step_both (kind := 3) (sz := 3) (idX := -1) (idM := 0) (ver := 0) (src := 0) (q := q) (i := 0) hV hL hG ha (by omega) (Or.inr (Or.inr ⟨rfl, rfl⟩)) (by omega) (by omega) (Or.inl rfl) (by omega)
      rw [show max mx (q + 1) = mx by omega] at f1 f3 f4
      have hmis2 : mis c1 aX1 (q + 1) m = mis c aX (q + 1) m := mis_congr m (q + 1) (fun j hj => by
        rw [f10 j]
        exact ⟨fun e => by rcases e with e | e; exact e; omega, fun e => Or.inl e⟩)
      obtain ⟨c', kX', sX', vX', oX', aX', bX', lX', gX', kM', sM', vM', oM', d', bM', lM', gM', len', p1', p2', p3', p4', p5', e1, e2, e3, e4, e5, e6⟩ := ih (q + 1) (by omega) c1 kX1 sX1 vX1 oX1 aX1 bX1 lX1 gX1 kM1 sM1 vM1 oM1 d1 bM1 lM1 gM1 _ 3 (nI q) (-1) 0 0 f4 f5 f6 (by rw [if_pos rfl, hmis2]; omega)
      refine ⟨c', kX', sX', vX', oX', aX', bX', lX', gX', kM', sM', vM', oM', d', bM', lM', gM', len', p1', p2', p3', p4', p5', fun J n y hn hy => ?_, fun J n y hn hy => ?_, e3, e4, e5, by omega⟩
      · subst hy
        obtain ⟨n, rfl⟩ : ∃ z, n = z + 1 := ⟨n - 1, by omega⟩
        rw [lo16_s, sX5_fill_55, if_neg (by rw [mn_lt (by omega) (by omega)]; omega), isProcessed_ok (by omega) (by omega), cal1_e, if_neg h]
        simp only [bnd_e, jp_e]
        rw [if_pos trivial, fX3_become, cal5_e, f1, cal11_e, nI_1, e1 J n _ (by omega) rfl]
      · subst hy
        obtain ⟨n, rfl⟩ : ∃ z, n = z + 1 := ⟨n - 1, by omega⟩
        rw [lo11_s, sX6_fill_65, if_neg (by rw [mn_lt (by omega) (by omega)]; omega), isDone_ok hM (by omega) (by omega), cal1_e, if_neg h]
        simp only [bnd_e, jp_e]
        rw [if_pos trivial, f2, cal3_e, f3, cal8_e, nI_1, e2 J n _ (by omega) rfl]
theorem fill_both {c mx a g s : Nat} {kX sX vX kM sM vM d lX bX gX lM bM gM : Nat → Int32} {oX oM : Nat → Int64} {aX : Int64} {len : Nat → Nat} (hV : RVe c mx kX sX vX oX aX kM sM vM oM d) (hL : RLo a g s lX bX lM bM len) (hG : RG a g gX gM) (ha : a < 100000000) (hc : c < 100000000) (p1 p2 p3 p4 : Int32) (p5 : Int64) :
    OutV c a g s 4096 (fX5_fill kX sX vX oX (mI c) (mI mx) aX (nI (a + (g - 1))) bX lX gX p1 p2 p3 p4 p5 0) (fX6_fill kM sM vM oM d (mI c) (mI mx) 0 bM lM gM (nI g)) := by
  have hS := fun r => OutV_same (K := 4096) hV hL hG r p1 p2 p3 p4 p5
  have hc1 := hV.2.2.2.2.1
  have hc2 := hV.2.2.2.2.2
  have hM := hV.2.2.1
  have hql := (hL.2.2.2 (g - 1) (by have := hL.1; omega)).1
  have hm := mis_le c aX (mx - c) c
  have hmX : fX1_countMissing (mI c) (mI mx) aX = some (nI (mis c aX c (mx - c))) := by
    rw [fX1_countMissing, bnd_e, m_succ, jp_e, missX_loop _ hc hc2 (mx - c) c (by omega) 1000 (by omega) 0 _ 0 rfl rfl, Nat.zero_add]
  by_cases hfit : len (g - 1) + mis c aX c (mx - c) * 8 ≤ 240
  · obtain ⟨c', kX', sX', vX', oX', aX', bX', lX', gX', kM', sM', vM', oM', d', bM', lM', gM', len', p1', p2', p3', p4', p5', e1, e2, e3, e4, e5, e6⟩ := fill_loop (mx := mx) ha (by omega) (mx - c) c (by omega) c kX sX vX oX aX bX lX gX kM sM vM oM d bM lM gM len p1 p2 p3 p4 p5 hV hL hG hfit
    refine ⟨nI (mis c aX c (mx - c)), kX', sX', vX', oX', c', mx, aX', bX', lX', gX', p1', p2', p3', p4', p5', kM', sM', vM', oM', d', bM', lM', gM', len', ?_, ?_, e3, e4, e5, by omega⟩
    · rw [fX5_fill, if_pos rfl, hmX, cal1_e, room_ok hL ha, cal1_e, show fX5_sizeOf 3 = some (nI 8) from rfl, cal1_e, bnd_e, n_mul, if_pos (by rw [n_le (by omega) (by omega)]; omega), bnd_e, m_succ, jp_e, e1 _ 1000 _ (by omega) rfl]
    · rw [fX6_fill, if_pos rfl, bnd_e, m_succ, jp_e, missM_loop _ hM hc hc2 (mx - c) c (by omega) 1000 (by omega) 0 _ 0 rfl rfl, Nat.zero_add, fits_ok hL (sz := 3) (Or.inr (Or.inr ⟨rfl, rfl⟩)) (by omega), if_pos hfit, cal1_e, if_neg (by decide), bnd_e, jp_e, e2 _ 1000 _ (by omega) rfl]
  · refine OutV_eq ?_ ?_ (hS (-3))
    · rw [fX5_fill, if_pos rfl, hmX, cal1_e, room_ok hL ha, cal1_e, show fX5_sizeOf 3 = some (nI 8) from rfl, cal1_e, bnd_e, n_mul, if_neg (by rw [n_le (by omega) (by omega)]; omega)]
    · rw [fX6_fill, if_pos rfl, bnd_e, m_succ, jp_e, missM_loop _ hM hc hc2 (mx - c) c (by omega) 1000 (by omega) 0 _ 0 rfl rfl, Nat.zero_add, fits_ok hL (sz := 3) (Or.inr (Or.inr ⟨rfl, rfl⟩)) (by omega), if_neg hfit, cal1_e, if_pos rfl]
