theorem RLo_cut {a g s e : Nat} {lX bX lM bM lM' : Nat → Int32} {len : Nat → Nat} (hL : RLo a g s lX bX lM bM len) (he : e ≤ len (g - 1)) (hM : lM' (g - 1) = nI e) (hM2 : ∀ i, i ≠ g - 1 → lM' i = lM i) :
    RLo a g e (upd lX ((a + (g - 1)) % 4) (nI e)) bX lM' bM (fun i => if i = g - 1 then e else len i) := by
  obtain ⟨hg1, hg4, hs0, hR⟩ := hL
  refine ⟨hg1, hg4, by dsimp only; rw [if_pos rfl]; omega, fun i hi => ?_⟩
  obtain ⟨p1, p2, p3, p4, p5⟩ := hR i hi
  by_cases h : i = g - 1
  · subst h
    dsimp only
    rw [if_pos rfl]
    exact ⟨by omega, upd_s _ _ _, hM, fun j hj => p4 j (by omega), fun j hj => p5 j (by omega)⟩
  · dsimp only
    rw [if_neg h]
    exact ⟨p1, by rw [upd_o _ _ (by omega)]; exact p2, by rw [hM2 i h]; exact p3, p4, p5⟩
theorem recover_both {oc omx a g s : Nat} {kX sX vX kM sM vM d lX bX gX lM bM gM ck cs cv dk ds dv rk rs rv sS : Nat → Int32} {oX oM co dO ro sO : Nat → Int64} {aX : Int64} {len : Nat → Nat} (hC : RC oc omx ck cs cv co dk ds dv dO) (hL : RLo a g s lX bX lM bM len) (ha : a < 100000000) (hoc : oc < 90000000) {cX mX cM mM pe rep dn vis o1 o2 o3 o4 r1 r2 r3 r4 r5 : Int32} {o5 r6 : Int64} (hd : ¬ dn = 0) (x0 : Int32) :
    ∃ (r : Int32) (kX' sX' vX' : Nat → Int32) (oX' : Nat → Int64) (c mx : Nat) (aX' : Int64) (rk' rs' rv' : Nat → Int32) (ro' : Nat → Int64) (s' : Nat) (lX' gX' : Nat → Int32) (p1 p2 p3 p4 : Int32) (p5 : Int64) (pe' rep' dn' : Int32) (kM' sM' vM' sS' : Nat → Int32) (oM' sO' : Nat → Int64) (d' : Nat → Int32) (cM' mM' : Int32) (lM' gM' : Nat → Int32) (t1 t2 t3 t4 t5 : Int32) (t6 : Int64) (vis' : Int32) (len' : Nat → Nat),
      fX5_recover kX sX vX oX cX mX aX ck cs cv co (mI oc) (mI omx) rk rs rv ro (nI a) (nI (a + (g - 1))) (nI s) bX lX gX o1 o2 o3 o4 o5 pe rep dn x0 = some (r, kX', sX', vX', oX', mI c, mI mx, aX', rk', rs', rv', ro', nI s', lX', gX', p1, p2, p3, p4, p5, pe', rep', dn') ∧
      fX6_recover kM sM vM dk ds dv sS oM dO sO d cM mM pe (mI oc) (mI omx) dn bM lM gM (nI g) (nI s) r1 r2 r3 r4 r5 r6 vis x0 = some (r, kM', sM', vM', sS', oM', sO', d', cM', mM', pe', dn', lM', gM', nI s', t1, t2, t3, t4, t5, t6, vis') ∧
      RLo a g s' lX' bX lM' bM len' ∧
      ((dn' = 0 ∧ cM' = mI c ∧ mM' = mI mx ∧ RVe c mx kX' sX' vX' oX' aX' kM' sM' vM' oM' d' ∧ RG a g gX' gM' ∧ c ≤ oc + 61440 ∧ RR rk' rs' ro' sS' sO' ∧ vis' = nI (cnt1 rk' 16)) ∨
       (dn' = dn ∧ rk' = rk ∧ rs' = rs ∧ ro' = ro ∧ sS' = sS ∧ sO' = sO ∧ vis' = vis)) := by
  have hL0 := hL
  obtain ⟨hg1, hg4, hs0, hR⟩ := hL
  obtain ⟨q1, q2, q3, q4, q5⟩ := hR (g - 1) (by omega)
  obtain ⟨hD, hI, hc1, hc2⟩ := hC
  have hj0 : ∀ b, jb 0 b = false := fun b => BitVec.getLsbD_zero
  have hV : RVe oc omx (cpf kX ck 0 16) (cpf sX cs 0 16) (cpf vX cv 0 16) (cpf oX co 0 16) 0 (cpf kM dk 0 16) (cpf sM ds 0 16) (cpf vM dv 0 16) (cpf oM dO 0 16) (cpf d (fun _ => 0) 0 65) := by
    refine ⟨RD_cpf hD, ID_cpf hI, ⟨fun i hi => ?_, ?_⟩, fun b hb => ?_, hc1, hc2⟩
    · rw [cpf_at _ _ (by omega) (by omega), hj0]; rfl
    · rw [cpf_at _ _ (by omega) (by omega)]
    · rw [hj0] at hb; cases hb
  have key := rec_loop hL0 ha x0
    (fun (y9 : Int32) (w10 w11 w12 : Nat → Int32) (w13 : Nat → Int64) (w14 w15 : Int32) (w16 : Int64) (w17 : Nat → Int32) (w18 w19 w20 w21 : Int32) (w22 : Int64) (w23 : Int32) => (cal1 (fX2_cutCurrent (nI (a + (g - 1))) lX y9) (fun u24 => (cal2 (fX2_syncCurrent (nI (a + (g - 1))) (nI s) u24) (fun r26 u27 => (cal4 (fX0_copyFrom rk rs rv ro w10 w11 w12 w13) (fun u29 u30 u31 u32 => (some (w23, w10, w11, w12, w13, w14, w15, w16, u29, u30, u31, u32, u27, u24, w17, w18, w19, w20, w21, w22, w14, w23, 0)))))))))
    (fun (y9 y10 : Int32) (w11 w12 w13 : Nat → Int32) (w14 : Nat → Int64) (w15 : Nat → Int32) (w16 w17 : Int32) (w18 : Nat → Int32) (w19 w20 w21 w22 w23 : Int32) (w24 : Int64) => (jp (fun (w25 : Nat → Int32) => (cal3 (fX6_settle w16 pe w25 (nI g) (nI s)) (fun r26 u27 u28 => (cal3 (fX6_show w11 w12 sS w14 sO vis) (fun u30 u31 u32 => (some (y9, w11, w12, w13, u30, w14, u31, w15, w16, w17, u27, 0, w25, w18, u28, w19, w20, w21, w22, w23, w24, u32))))))) (fun J205 => (if y10 < 0 then (J205 lM) else (bnd (nI g - 1 : Int32) (fun z34 => (wrI lM 4 z34 y10 (fun g35 => (J205 g35)))))))))
    (fun (w36 w37 w38 : Nat → Int32) (w39 : Nat → Int64) (w40 : Nat → Int32) (w41 w42 : Int32) (w43 : Nat → Int32) (w44 w45 w46 w47 w48 : Int32) (w49 : Int64) => (some ((-5), w36, w37, w38, sS, w39, sO, w40, w41, w42, pe, dn, lM, w43, nI s, w44, w45, w46, w47, w48, w49, vis)))
    sS sO rk rs rv ro pe pe dn vis (C := oc + 61440) (by omega) (g - 1) 0 0 oc omx 1000 1000 0 _ _ _ _ _ gX o1 o2 o3 o4 o5 _ _ _ _ _ gM r1 r2 r3 r4 r5 r6 (by omega) (by omega) (by omega) (by omega) (by omega) (by
      by_cases h : x0 < 0
      · exact Or.inl h
      · exact Or.inr (show (0 : Int32) ≤ x0 by grind)) hV (fun i hi => by omega)
  obtain ⟨kX1, sX1, vX1, oX1, c, mx, aX1, gX1, p1, p2, p3, p4, p5, R, e, kM1, sM1, vM1, oM1, d1, gM1, t1, t2, t3, t4, t5, t6, y, h⟩ := key
  rcases h with ⟨hse, hel, hV1, hG1, hcC, hy, eX, eM⟩ | ⟨r, cM1, mM1, eX, eM⟩
  · have hcut : fX2_cutCurrent (nI (a + (g - 1))) lX (nI e) = some (upd lX ((a + (g - 1)) % 4) (nI e)) := by
      rw [fX2_cutCurrent, rowOf_ok _ (by omega), cal1_e, wrI_n (by omega) (by omega)]
    have hsy := syncCurrent_ok (a := a) (g := g) (s := s) (l := e) (lX := upd lX ((a + (g - 1)) % 4) (nI e)) (by omega) (upd_s _ _ _) hse
    obtain ⟨lM', hl1, hl2, hl3⟩ : ∃ lM' : Nat → Int32, lM' (g - 1) = nI e ∧ (∀ i, i ≠ g - 1 → lM' i = lM i) ∧ ∀ (J : (Nat → Int32) → Option ((Int32) × (Nat → Int32) × (Nat → Int32) × (Nat → Int32) × (Nat → Int32) × (Nat → Int64) × (Nat → Int64) × (Nat → Int32) × (Int32) × (Int32) × (Int32) × (Int32) × (Nat → Int32) × (Nat → Int32) × (Int32) × (Int32) × (Int32) × (Int32) × (Int32) × (Int32) × (Int64) × (Int32))), (if y < 0 then (J lM) else (bnd (nI g - 1 : Int32) (fun z34 => (wrI lM 4 z34 y (fun g35 => (J g35)))))) = J lM' := by
      rcases hy with ⟨h1, h2⟩ | h1
      · exact ⟨lM, by rw [h2]; exact q3, fun _ _ => rfl, fun J => by rw [h1, if_pos (show (-1 : Int32) < 0 by decide)]⟩
      · exact ⟨upd lM (g - 1) (nI e), upd_s _ _ _, fun i hi => upd_o _ _ hi, fun J => by rw [h1, if_neg (show ¬ nI e < 0 by rw [l0, n_lt (by omega) (by omega)]; omega), show nI g - 1 = nI (g - 1) from by rw [l1, n_sub hg1], bnd_e, wrI_n (by omega) (by omega)]⟩
    have hst := settle_ok (g := g) (s := s) (l := e) (lM := lM') (mI c) pe hg1 hg4 hl1 hse
    dsimp only at eX eM
    rw [hcut, cal1_e, hsy, cal2_e, copyFrom_ok, cal4_e] at eX
    have h1 := eM.trans (jp_e _ _)
    have h2 := h1.trans (hl3 (fun w25 => cal3 (fX6_settle (mI c) pe w25 (nI g) (nI s)) (fun r26 u27 u28 => (cal3 (fX6_show kM1 sM1 sS oM1 sO vis) (fun u30 u31 u32 => some (nI R, kM1, sM1, vM1, u30, oM1, u31, d1, mI c, mI mx, u27, 0, w25, gM1, u28, t1, t2, t3, t4, t5, t6, u32))))))
    have h3 := h2.trans ((congrArg (fun z => cal3 z _) hst).trans ((cal3_e _ _ _ _).trans ((congrArg (fun z => cal3 z _) (show_ok _ _ _ _ _ _)).trans (cal3_e _ _ _ _))))
    refine ⟨nI R, kX1, sX1, vX1, oX1, c, mx, aX1, cpf rk kX1 0 16, cpf rs sX1 0 16, cpf rv vX1 0 16, cpf ro oX1 0 16, e, upd lX ((a + (g - 1)) % 4) (nI e), gX1, p1, p2, p3, p4, p5, mI c, nI R, 0, kM1, sM1, vM1, cpf sS (fun j => if kM1 j = 1 then sM1 j else -1) 0 16, oM1, cpf sO (fun j => if kM1 j = 1 then oM1 j else 0) 0 16, d1, mI c, mI mx, lM', gM1, t1, t2, t3, t4, t5, t6, nI (cnt1 kM1 16), _, ?_, ?_, RLo_cut hL0 hel hl1 hl2, Or.inl ⟨rfl, rfl, rfl, hV1, hG1, hcC, RR_of hV1.1 hV1.2.1, ?_⟩⟩
    · rw [fX5_recover, if_neg hd, startFrom_ok, cal7_e, jp_e]
      exact eX
    · rw [fX6_recover, if_neg hd, load_ok, cal7_e, jp_e, jp_e]
      exact h3
    · exact congrArg nI (cnt1_congr (fun i hi => by rw [cpf_at _ _ (by omega) hi, (hV1.1 i hi).1]))
  · dsimp only at eM
    have eM2 : ∃ (cM2 mM2 : Int32) (z1 z2 z3 : Nat → Int32) (z4 : Nat → Int64) (z5 z6 : Nat → Int32) (y1 y2 y3 y4 y5 : Int32) (y6 : Int64), fX6_recover kM sM vM dk ds dv sS oM dO sO d cM mM pe (mI oc) (mI omx) dn bM lM gM (nI g) (nI s) r1 r2 r3 r4 r5 r6 vis x0 = some (r, z1, z2, z3, sS, z4, sO, z5, cM2, mM2, pe, dn, lM, z6, nI s, y1, y2, y3, y4, y5, y6, vis) := by
      rcases eM with eM | ⟨hr5, eM⟩
      · refine ⟨cM1, mM1, kM1, sM1, vM1, oM1, d1, gM1, t1, t2, t3, t4, t5, t6, ?_⟩
        rw [fX6_recover, if_neg hd, load_ok, cal7_e, jp_e, jp_e]
        exact eM
      · subst hr5
        refine ⟨cM1, mM1, kM1, sM1, vM1, oM1, d1, gM1, t1, t2, t3, t4, t5, t6, ?_⟩
        rw [fX6_recover, if_neg hd, load_ok, cal7_e, jp_e, jp_e]
        exact eM
    obtain ⟨cM2, mM2, z1, z2, z3, z4, z5, z6, y1, y2, y3, y4, y5, y6, eM2⟩ := eM2
    refine ⟨r, kX1, sX1, vX1, oX1, c, mx, aX1, rk, rs, rv, ro, s, lX, gX1, p1, p2, p3, p4, p5, pe, nI R, dn, z1, z2, z3, sS, z4, sO, z5, cM2, mM2, lM, z6, y1, y2, y3, y4, y5, y6, vis, len, ?_, eM2, hL0, Or.inr ⟨rfl, rfl, rfl, rfl, rfl, rfl, rfl⟩⟩
    rw [fX5_recover, if_neg hd, startFrom_ok, cal7_e, jp_e]
    exact eX
