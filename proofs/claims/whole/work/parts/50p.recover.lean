/-! recover -/
theorem syncedOf_ok {a g s i : Nat} {lX bX lM bM : Nat → Int32} {len : Nat → Nat} (hL : RLo a g s lX bX lM bM len) (ha : a < 100000000) (hi : i < g) : fX2_syncedOf (nI (a + (g - 1))) (nI s) lX (nI (a + i)) = some (nI (if i = g - 1 then s else len i)) := by
  obtain ⟨hg1, hg4, hs0, hR⟩ := hL
  obtain ⟨q1, q2, q3, q4, q5⟩ := hR i hi
  rw [fX2_syncedOf, jp_e]
  by_cases h : i = g - 1
  · rw [if_pos (by rw [n_eq (by omega) (by omega)]; omega), if_pos h]
  · rw [if_neg (by rw [n_eq (by omega) (by omega)]; omega), if_neg h, lengthOf_ok (by omega) lX q2, cal1_e]
def RecO (a g s l C : Nat) (J65 : (Int32) → (Nat → Int32) → (Nat → Int32) → (Nat → Int32) → (Nat → Int64) → (Int32) → (Int32) → (Int64) → (Nat → Int32) → (Int32) → (Int32) → (Int32) → (Int32) → (Int64) → (Int32) → Option ((Int32) × (Nat → Int32) × (Nat → Int32) × (Nat → Int32) × (Nat → Int64) × (Int32) × (Int32) × (Int64) × (Nat → Int32) × (Nat → Int32) × (Nat → Int32) × (Nat → Int64) × (Int32) × (Nat → Int32) × (Nat → Int32) × (Int32) × (Int32) × (Int32) × (Int32) × (Int64) × (Int32) × (Int32) × (Int32))) (J189 : (Int32) → (Int32) → (Nat → Int32) → (Nat → Int32) → (Nat → Int32) → (Nat → Int64) → (Nat → Int32) → (Int32) → (Int32) → (Nat → Int32) → (Int32) → (Int32) → (Int32) → (Int32) → (Int32) → (Int64) → Option ((Int32) × (Nat → Int32) × (Nat → Int32) × (Nat → Int32) × (Nat → Int32) × (Nat → Int64) × (Nat → Int64) × (Nat → Int32) × (Int32) × (Int32) × (Int32) × (Int32) × (Nat → Int32) × (Nat → Int32) × (Int32) × (Int32) × (Int32) × (Int32) × (Int32) × (Int32) × (Int64) × (Int32))) (J89 : (Nat → Int32) → (Nat → Int32) → (Nat → Int32) → (Nat → Int64) → (Nat → Int32) → (Int32) → (Int32) → (Nat → Int32) → (Int32) → (Int32) → (Int32) → (Int32) → (Int32) → (Int64) → Option ((Int32) × (Nat → Int32) × (Nat → Int32) × (Nat → Int32) × (Nat → Int32) × (Nat → Int64) × (Nat → Int64) × (Nat → Int32) × (Int32) × (Int32) × (Int32) × (Int32) × (Nat → Int32) × (Nat → Int32) × (Int32) × (Int32) × (Int32) × (Int32) × (Int32) × (Int32) × (Int64) × (Int32))) (sS : Nat → Int32) (sO : Nat → Int64) (rk rs rv : Nat → Int32) (ro : Nat → Int64) (pe peM dn : Int32) (lX lM : Nat → Int32) (vis : Int32) (rX : Option ((Int32) × (Nat → Int32) × (Nat → Int32) × (Nat → Int32) × (Nat → Int64) × (Int32) × (Int32) × (Int64) × (Nat → Int32) × (Nat → Int32) × (Nat → Int32) × (Nat → Int64) × (Int32) × (Nat → Int32) × (Nat → Int32) × (Int32) × (Int32) × (Int32) × (Int32) × (Int64) × (Int32) × (Int32) × (Int32))) (rM : Option ((Int32) × (Nat → Int32) × (Nat → Int32) × (Nat → Int32) × (Nat → Int32) × (Nat → Int64) × (Nat → Int64) × (Nat → Int32) × (Int32) × (Int32) × (Int32) × (Int32) × (Nat → Int32) × (Nat → Int32) × (Int32) × (Int32) × (Int32) × (Int32) × (Int32) × (Int32) × (Int64) × (Int32))) : Prop :=
  ∃ (kX sX vX : Nat → Int32) (oX : Nat → Int64) (c mx : Nat) (aX : Int64) (gX : Nat → Int32) (o1 o2 o3 o4 : Int32) (o5 : Int64) (R e : Nat) (kM sM vM : Nat → Int32) (oM : Nat → Int64) (d gM : Nat → Int32) (r1 r2 r3 r4 r5 : Int32) (r6 : Int64) (y : Int32),
    (s ≤ e ∧ e ≤ l ∧ RVe c mx kX sX vX oX aX kM sM vM oM d ∧ RGn a g gX gM ∧ c ≤ C ∧ ((y = -1 ∧ e = l) ∨ y = nI e) ∧
      rX = J65 (nI e) kX sX vX oX (mI c) (mI mx) aX gX o1 o2 o3 o4 o5 (nI R) ∧ rM = J189 (nI R) y kM sM vM oM d (mI c) (mI mx) gM r1 r2 r3 r4 r5 r6) ∨
    (∃ r cM mM, rX = some (r, kX, sX, vX, oX, mI c, mI mx, aX, rk, rs, rv, ro, nI s, lX, gX, o1, o2, o3, o4, o5, pe, nI R, dn) ∧
      (rM = some (r, kM, sM, vM, sS, oM, sO, d, cM, mM, peM, dn, lM, gM, nI s, r1, r2, r3, r4, r5, r6, vis) ∨ (r = -5 ∧ rM = J89 kM sM vM oM d cM mM gM r1 r2 r3 r4 r5 r6)))
theorem rec_loop {a g s : Nat} {lX bX lM bM : Nat → Int32} {len : Nat → Nat} (hL : RLo a g s lX bX lM bM len) (ha : a < 100000000) (x0 : Int32) (J65 : (Int32) → (Nat → Int32) → (Nat → Int32) → (Nat → Int32) → (Nat → Int64) → (Int32) → (Int32) → (Int64) → (Nat → Int32) → (Int32) → (Int32) → (Int32) → (Int32) → (Int64) → (Int32) → Option ((Int32) × (Nat → Int32) × (Nat → Int32) × (Nat → Int32) × (Nat → Int64) × (Int32) × (Int32) × (Int64) × (Nat → Int32) × (Nat → Int32) × (Nat → Int32) × (Nat → Int64) × (Int32) × (Nat → Int32) × (Nat → Int32) × (Int32) × (Int32) × (Int32) × (Int32) × (Int64) × (Int32) × (Int32) × (Int32))) (J189 : (Int32) → (Int32) → (Nat → Int32) → (Nat → Int32) → (Nat → Int32) → (Nat → Int64) → (Nat → Int32) → (Int32) → (Int32) → (Nat → Int32) → (Int32) → (Int32) → (Int32) → (Int32) → (Int32) → (Int64) → Option ((Int32) × (Nat → Int32) × (Nat → Int32) × (Nat → Int32) × (Nat → Int32) × (Nat → Int64) × (Nat → Int64) × (Nat → Int32) × (Int32) × (Int32) × (Int32) × (Int32) × (Nat → Int32) × (Nat → Int32) × (Int32) × (Int32) × (Int32) × (Int32) × (Int32) × (Int32) × (Int64) × (Int32))) (J89 : (Nat → Int32) → (Nat → Int32) → (Nat → Int32) → (Nat → Int64) → (Nat → Int32) → (Int32) → (Int32) → (Nat → Int32) → (Int32) → (Int32) → (Int32) → (Int32) → (Int32) → (Int64) → Option ((Int32) × (Nat → Int32) × (Nat → Int32) × (Nat → Int32) × (Nat → Int32) × (Nat → Int64) × (Nat → Int64) × (Nat → Int32) × (Int32) × (Int32) × (Int32) × (Int32) × (Nat → Int32) × (Nat → Int32) × (Int32) × (Int32) × (Int32) × (Int32) × (Int32) × (Int32) × (Int64) × (Int32))) (sS : Nat → Int32) (sO : Nat → Int64) (rk rs rv : Nat → Int32) (ro : Nat → Int64) (pe peM dn vis : Int32) {C : Nat} (hC : C < 100000000) :
    ∀ (m i R c mx f1 f2 : Nat) (y : Int32) (kX sX vX : Nat → Int32) (oX : Nat → Int64) (aX : Int64) (gX : Nat → Int32) (o1 o2 o3 o4 : Int32) (o5 : Int64) (kM sM vM : Nat → Int32) (oM : Nat → Int64) (d gM : Nat → Int32) (r1 r2 r3 r4 r5 : Int32) (r6 : Int64),
      i + (m + 1) = g → m + 1 < f1 → m + 1 < f2 → c + 15360 * (g - i) ≤ C → R ≤ 240 * i → (x0 < 0 ∨ nI R ≤ x0) → RVe c mx kX sX vX oX aX kM sM vM oM d → RGn a i gX gM →
      RecO a g s (len (g - 1)) C J65 J189 J89 sS sO rk rs rv ro pe peM dn lX lM vis (lo16 (sX5_recover_35 (nI (a + (g - 1))) J65 (nI s) bX lX x0 rk rs rv ro pe dn) f1 y (nI (a + i)) kX sX vX oX (mI c) (mI mx) aX gX o1 o2 o3 o4 o5 (nI R))
        (lo17 (sX6_recover_20 (nI g) J189 lM bM J89 (nI s) x0 sS sO peM dn vis) f2 (nI R) (-1) (nI i) kM sM vM oM d (mI c) (mI mx) gM r1 r2 r3 r4 r5 r6) := by
  have hL0 := hL
  obtain ⟨hg1, hg4, hs0, hR⟩ := hL
  have step : ∀ (i R c mx f1 f2 : Nat) (y : Int32) (kX sX vX : Nat → Int32) (oX : Nat → Int64) (aX : Int64) (gX : Nat → Int32) (o1 o2 o3 o4 : Int32) (o5 : Int64) (kM sM vM : Nat → Int32) (oM : Nat → Int64) (d gM : Nat → Int32) (r1 r2 r3 r4 r5 : Int32) (r6 : Int64),
      i < g → c + 15360 ≤ C → R ≤ 240 * i → (x0 < 0 ∨ nI R ≤ x0) → RVe c mx kX sX vX oX aX kM sM vM oM d → RGn a i gX gM →
      (∀ (kX sX vX : Nat → Int32) (oX : Nat → Int64) (c' mx : Nat) (aX : Int64) (gX : Nat → Int32) (o1 o2 o3 o4 : Int32) (o5 : Int64) (R' e : Nat) (kM sM vM : Nat → Int32) (oM : Nat → Int64) (d gM : Nat → Int32) (r1 r2 r3 r4 r5 : Int32) (r6 : Int64) (z : Int32),
        e ≤ len i → (i < g - 1 → z = -1) → (i = g - 1 → s ≤ e) → ((z = -1 ∧ e = len i) ∨ z = nI e) → c' ≤ c + 15360 → R' ≤ 240 * (i + 1) → (x0 < 0 ∨ nI R' ≤ x0) → RVe c' mx kX sX vX oX aX kM sM vM oM d → RGn a (i + 1) gX gM →
        RecO a g s (len (g - 1)) C J65 J189 J89 sS sO rk rs rv ro pe peM dn lX lM vis (lo16 (sX5_recover_35 (nI (a + (g - 1))) J65 (nI s) bX lX x0 rk rs rv ro pe dn) f1 (nI e) (nI (a + (i + 1))) kX sX vX oX (mI c') (mI mx) aX gX o1 o2 o3 o4 o5 (nI R')) (lo17 (sX6_recover_20 (nI g) J189 lM bM J89 (nI s) x0 sS sO peM dn vis) f2 (nI R') z (nI (i + 1)) kM sM vM oM d (mI c') (mI mx) gM r1 r2 r3 r4 r5 r6)) →
      RecO a g s (len (g - 1)) C J65 J189 J89 sS sO rk rs rv ro pe peM dn lX lM vis (lo16 (sX5_recover_35 (nI (a + (g - 1))) J65 (nI s) bX lX x0 rk rs rv ro pe dn) (f1 + 1) y (nI (a + i)) kX sX vX oX (mI c) (mI mx) aX gX o1 o2 o3 o4 o5 (nI R))
        (lo17 (sX6_recover_20 (nI g) J189 lM bM J89 (nI s) x0 sS sO peM dn vis) (f2 + 1) (nI R) (-1) (nI i) kM sM vM oM d (mI c) (mI mx) gM r1 r2 r3 r4 r5 r6) := by
    intro i R c mx f1 f2 y kX sX vX oX aX gX o1 o2 o3 o4 o5 kM sM vM oM d gM r1 r2 r3 r4 r5 r6 hi hc hr hx hV hG hnext
    obtain ⟨q1, q2, q3, q4, q5⟩ := hR i hi
    have hs240 : s ≤ 240 := Nat.le_trans hs0 (hR (g - 1) (by omega)).1
    have hXe : lo16 (sX5_recover_35 (nI (a + (g - 1))) J65 (nI s) bX lX x0 rk rs rv ro pe dn) (f1 + 1) y (nI (a + i)) kX sX vX oX (mI c) (mI mx) aX gX o1 o2 o3 o4 o5 (nI R) = cal15 (lo16 (sX5_replayGeneration_23 (fun (y5 : Int32) (w6 w7 w8 : Nat → Int32) (w9 : Nat → Int64) (w10 w11 : Int32) (w12 : Int64) (w13 : Nat → Int32) (w14 w15 w16 w17 : Int32) (w18 : Int64) (w19 : Int32) => (some (y5, w6, w7, w8, w9, w10, w11, w12, w13, w14, w15, w16, w17, w18, w19))) (nI (len i)) bX lX (nI (a + i)) (fun (y5 : Int32) (w6 w7 w8 : Nat → Int32) (w9 : Nat → Int64) (w10 w11 : Int32) (w12 : Int64) (w13 : Nat → Int32) (w14 w15 w16 w17 : Int32) (w18 : Int64) (w19 : Int32) => (cal1 (fX2_syncedOf (nI (a + (g - 1))) (nI s) lX (nI (a + i))) (fun r35 => (jp (fun (k37 : Int32) => (some (k37, w6, w7, w8, w9, w10, w11, w12, w13, w14, w15, w16, w17, w18, w19))) (fun J95 => (if r35 ≤ y5 then (J95 y5) else (J95 (-5)))))))) x0) 1000 (nI 0) (nI 0) kX sX vX oX (mI c) (mI mx) aX (upd gX ((a + i) % 4) (-1)) o1 o2 o3 o4 o5 (nI R)) (fun r50 u51 u52 u53 u54 u55 u56 u57 u58 u59 u60 u61 u62 u63 u64 => if 0 ≤ r50 then lo16 (sX5_recover_35 (nI (a + (g - 1))) J65 (nI s) bX lX x0 rk rs rv ro pe dn) f1 r50 (nI (a + (i + 1))) u51 u52 u53 u54 u55 u56 u57 u58 u59 u60 u61 u62 u63 u64 else some (r50, u51, u52, u53, u54, u55, u56, u57, rk, rs, rv, ro, nI s, lX, u58, u59, u60, u61, u62, u63, pe, u64, dn)) := by
      rw [lo16_s, sX5_recover_35, if_neg (by rw [n_lt (by omega) (by omega)]; omega), fX5_replayGeneration, lengthOf_ok (by omega) lX q2, cal1_e, fX2_forgetSeqs, rowOf_ok _ (by omega), cal1_e, wrI_n (by omega) (by omega), cal1_e, jp_e, jp_e, nI_1]
      rfl
    have hMe : lo17 (sX6_recover_20 (nI g) J189 lM bM J89 (nI s) x0 sS sO peM dn vis) (f2 + 1) (nI R) (-1) (nI i) kM sM vM oM d (mI c) (mI mx) gM r1 r2 r3 r4 r5 r6 = lo17 (sX6_recover_40 lM (nI i) (fun (y68 y69 : Int32) (w70 w71 w72 : Nat → Int32) (w73 : Nat → Int64) (w74 : Nat → Int32) (w75 w76 : Int32) (w77 : Nat → Int32) (w78 w79 w80 w81 w82 : Int32) (w83 : Int64) => lo17 (sX6_recover_20 (nI g) J189 lM bM J89 (nI s) x0 sS sO peM dn vis) f2 y68 y69 (nI (i + 1)) w70 w71 w72 w73 w74 w75 w76 w77 w78 w79 w80 w81 w82 w83) bM (nI g) J89 (nI s) x0 sS sO peM dn vis) 1000 (nI R) (-1) (nI 0) kM sM vM oM d (mI c) (mI mx) (upd gM i (-1)) r1 r2 r3 r4 r5 r6 := by
      rw [lo17_s, sX6_recover_20, if_neg (by rw [n_le (by omega) (by omega)]; omega), wrI_n (by omega) (by omega), jp_e, nI_1]
      rfl
    have hG1 : RGn a (i + 1) (upd gX ((a + i) % 4) (-1)) (upd gM i (-1)) := by
      intro i' hi'
      by_cases e : i' = i
      · subst e; rw [upd_s, upd_s]
      · rw [upd_o _ _ (by omega), upd_o _ _ e]; exact hG i' (by omega)
    have key := gen_loop hL0 ha hi x0 (fun (y5 : Int32) (w6 w7 w8 : Nat → Int32) (w9 : Nat → Int64) (w10 w11 : Int32) (w12 : Int64) (w13 : Nat → Int32) (w14 w15 w16 w17 : Int32) (w18 : Int64) (w19 : Int32) => (some (y5, w6, w7, w8, w9, w10, w11, w12, w13, w14, w15, w16, w17, w18, w19))) (fun (y5 : Int32) (w6 w7 w8 : Nat → Int32) (w9 : Nat → Int64) (w10 w11 : Int32) (w12 : Int64) (w13 : Nat → Int32) (w14 w15 w16 w17 : Int32) (w18 : Int64) (w19 : Int32) => (cal1 (fX2_syncedOf (nI (a + (g - 1))) (nI s) lX (nI (a + i))) (fun r35 => (jp (fun (k37 : Int32) => (some (k37, w6, w7, w8, w9, w10, w11, w12, w13, w14, w15, w16, w17, w18, w19))) (fun J95 => (if r35 ≤ y5 then (J95 y5) else (J95 (-5)))))))) (fun (y68 y69 : Int32) (w70 w71 w72 : Nat → Int32) (w73 : Nat → Int64) (w74 : Nat → Int32) (w75 w76 : Int32) (w77 : Nat → Int32) (w78 w79 w80 w81 w82 : Int32) (w83 : Int64) => lo17 (sX6_recover_20 (nI g) J189 lM bM J89 (nI s) x0 sS sO peM dn vis) f2 y68 y69 (nI (i + 1)) w70 w71 w72 w73 w74 w75 w76 w77 w78 w79 w80 w81 w82 w83) J89 sS sO peM dn vis (C := c + 15360) (R0 := R + 240) (by omega) (by omega) (len i) 0 0 R c mx 1000 1000 kX sX vX oX aX (upd gX ((a + i) % 4) (-1)) o1 o2 o3 o4 o5 kM sM vM oM d (upd gM i (-1)) r1 r2 r3 r4 r5 r6 (by omega) (by omega) (by omega) (by omega) (by omega) (by omega) (by omega) hx hV hG1
    rw [hXe, hMe]
    obtain ⟨kX, sX, vX, oX, c', mx', aX, gX', p1, p2, p3, p4, p5, R', p, kM, sM, vM, oM, d, gM', t1, t2, t3, t4, t5, t6, h⟩ := key
    have hge : ∀ e, e ≤ len i → (0 : Int32) ≤ nI e := fun e he => by rw [l0, n_le (by omega) (by omega)]; omega
    rcases h with ⟨hp, hV', hG', hc', hr', hx', h⟩ | ⟨eX, cM, mM, gM2, eM⟩
    · rcases h with ⟨hpl, eX, eM⟩ | ⟨hpl, eX, h⟩
      · rw [eX, eM, cal15_e, if_pos (hge p hp)]
        exact hnext _ _ _ _ _ _ _ _ _ _ _ _ _ _ p _ _ _ _ _ _ _ _ _ _ _ _ (-1) hp (fun _ => rfl) (fun h => by subst h; omega) (Or.inl ⟨rfl, hpl⟩) hc' (by omega) hx' hV' hG'
      · rcases h with ⟨hi1, hsp, eM⟩ | ⟨hno, eM⟩
        · rw [eX, eM]
          dsimp only
          rw [syncedOf_ok hL0 ha hi, cal1_e, jp_e, if_pos hi1, if_pos (by rw [n_le (by omega) (by omega)]; omega), cal15_e, if_pos (hge p hp)]
          exact hnext _ _ _ _ _ _ _ _ _ _ _ _ _ _ p _ _ _ _ _ _ _ _ _ _ _ _ (nI p) hp (fun h => by omega) (fun _ => hsp) (Or.inr rfl) hc' (by omega) hx' hV' hG'
        · have hb : ¬ nI (if i = g - 1 then s else len i) ≤ nI p := by
            by_cases h : i = g - 1
            · rw [if_pos h, n_le (by omega) (by omega)]; omega
            · rw [if_neg h, n_le (by omega) (by omega)]; omega
          rw [eX, eM]
          dsimp only
          rw [syncedOf_ok hL0 ha hi, cal1_e, jp_e, if_neg hb, cal15_e, if_neg (show ¬ (0 : Int32) ≤ -5 by decide)]
          exact ⟨_, _, _, _, _, _, _, _, _, _, _, _, _, _, 0, _, _, _, _, _, _, _, _, _, _, _, _, 0, Or.inr ⟨-5, _, _, rfl, Or.inr ⟨rfl, rfl⟩⟩⟩
    · rw [eX, eM, cal15_e, if_neg (show ¬ (0 : Int32) ≤ -4 by decide)]
      exact ⟨_, _, _, _, _, _, _, _, _, _, _, _, _, _, 0, _, _, _, _, _, _, _, _, _, _, _, _, 0, Or.inr ⟨-4, _, _, rfl, Or.inl rfl⟩⟩
  intro m
  induction m with
  | zero =>
    intro i R c mx f1 f2 y kX sX vX oX aX gX o1 o2 o3 o4 o5 kM sM vM oM d gM r1 r2 r3 r4 r5 r6 hi hf1 hf2 hc hr hx hV hG
    obtain ⟨f1, rfl⟩ : ∃ z, f1 = z + 2 := ⟨f1 - 2, by omega⟩
    obtain ⟨f2, rfl⟩ : ∃ z, f2 = z + 2 := ⟨f2 - 2, by omega⟩
    have hi1 : i = g - 1 := by omega
    refine step i R c mx (f1 + 1) (f2 + 1) y kX sX vX oX aX gX o1 o2 o3 o4 o5 kM sM vM oM d gM r1 r2 r3 r4 r5 r6 (by omega) (by omega) hr hx hV hG ?_
    intro kX sX vX oX c' mx aX gX o1 o2 o3 o4 o5 R' e kM sM vM oM d gM r1 r2 r3 r4 r5 r6 z h1 h2 h3 h4 h5 h6 h7 h8 h9
    refine ⟨kX, sX, vX, oX, c', mx, aX, gX, o1, o2, o3, o4, o5, R', e, kM, sM, vM, oM, d, gM, r1, r2, r3, r4, r5, r6, z, Or.inl ⟨h3 hi1, by rw [← hi1]; exact h1, h8, ?_, by omega, by rw [← hi1]; exact h4, ?_, ?_⟩⟩
    · intro i' hi'; exact h9 i' (by omega)
    · rw [lo16_s, sX5_recover_35, if_pos (by rw [n_lt (by omega) (by omega)]; omega)]
    · rw [lo17_s, sX6_recover_20, if_pos (by rw [n_le (by omega) (by omega)]; omega)]
  | succ m ih =>
    intro i R c mx f1 f2 y kX sX vX oX aX gX o1 o2 o3 o4 o5 kM sM vM oM d gM r1 r2 r3 r4 r5 r6 hi hf1 hf2 hc hr hx hV hG
    obtain ⟨f1, rfl⟩ : ∃ z, f1 = z + 1 := ⟨f1 - 1, by omega⟩
    obtain ⟨f2, rfl⟩ : ∃ z, f2 = z + 1 := ⟨f2 - 1, by omega⟩
    refine step i R c mx f1 f2 y kX sX vX oX aX gX o1 o2 o3 o4 o5 kM sM vM oM d gM r1 r2 r3 r4 r5 r6 (by omega) (by omega) hr hx hV hG ?_
    intro kX sX vX oX c' mx aX gX o1 o2 o3 o4 o5 R' e kM sM vM oM d gM r1 r2 r3 r4 r5 r6 z h1 h2 h3 h4 h5 h6 h7 h8 h9
    rw [h2 (by omega)]
    exact ih (i + 1) R' c' mx f1 f2 _ _ _ _ _ _ _ _ _ _ _ _ _ _ _ _ _ _ _ _ _ _ _ _ (by omega) (by omega) (by omega) (by omega) h6 h7 h8 h9
