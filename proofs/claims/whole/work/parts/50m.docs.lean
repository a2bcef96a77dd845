/-! get, known, refresh -/
def RR (rk rs : Nat → Int32) (ro : Nat → Int64) (sS : Nat → Int32) (sO : Nat → Int64) : Prop := ∀ i, i < 16 → sS i = (if rk i = 1 then rs i else -1) ∧ sO i = (if rk i = 1 then ro i else 0) ∧ (rk i = 1 → ∃ q : Nat, q < 1000000000 ∧ rs i = nI q)
theorem RR_of {kX sX vX kM sM vM a b a' : Nat → Int32} {oX oM d d' : Nat → Int64} (hD : RD kX sX vX oX kM sM vM oM) (hI : ID kX sX oX) : RR (cpf a kX 0 16) (cpf b sX 0 16) (cpf d oX 0 16) (cpf a' (fun j => if kM j = 1 then sM j else -1) 0 16) (cpf d' (fun j => if kM j = 1 then oM j else 0) 0 16) := by
  intro i hi
  obtain ⟨e1, e2, e3, e4⟩ := hD i hi
  rw [cpf_at _ _ (by omega) hi, cpf_at _ _ (by omega) hi, cpf_at _ _ (by omega) hi, cpf_at _ _ (by omega) hi, cpf_at _ _ (by omega) hi, e1, e2, e4]
  exact ⟨rfl, rfl, fun h => by rw [← e2]; exact (hI i hi).1 (by rw [e1]; exact h)⟩
theorem get_both {kX sX vX kM sM vM : Nat → Int32} {oX oM : Nat → Int64} (hD : RD kX sX vX oX kM sM vM oM) (hI : ID kX sX oX) (x0 : Int32) : ∃ r, fX5_get oX 0 x0 = some r ∧ fX6_get kM oM 0 x0 = some r := by
  by_cases h : 0 ≤ x0 ∧ x0 < 16
  · obtain ⟨i, hi, rfl⟩ := id_of h
    obtain ⟨e1, e2, e3, e4⟩ := hD i hi
    refine ⟨oX i, ?_, ?_⟩
    · rw [fX5_get, if_pos rfl, isId_n hi, cal1_e, if_neg (by decide), sourceOf_ok _ hi, cal1_e]
    · rw [fX6_get, if_pos rfl, in_yes h.1 (by grind), cal1_e, jp_e, if_neg (by decide), rdI_n hi (by omega)]
      by_cases hk : kM i = 1
      · rw [if_pos hk, rdJ_n hi (by omega), e4]
      · rw [if_neg hk, (hI i hi).2 (by rw [e1]; exact hk)]
  · refine ⟨-1, ?_, ?_⟩
    · rw [fX5_get, if_pos rfl, isId_no h, cal1_e, if_pos rfl]
    · rw [fX6_get, if_pos rfl, in_no (by intro h2; exact h ⟨h2.1, by grind⟩), cal1_e, jp_e, if_pos rfl]
theorem known_both {kX sX vX kM sM vM rk rs sS : Nat → Int32} {oX oM ro sO : Nat → Int64} (hD : RD kX sX vX oX kM sM vM oM) (hR : RR rk rs ro sS sO) (x0 x1 : Int32) : ∃ r, fX5_known kX sX vX rk rs 0 x0 x1 = some r ∧ fX6_known kM sM vM sS 0 x0 x1 = some r := by
  by_cases h : 0 ≤ x0 ∧ x0 < 16
  · obtain ⟨i, hi, rfl⟩ := id_of h
    obtain ⟨e1, e2, e3, e4⟩ := hD i hi
    obtain ⟨f1, f2, f3⟩ := hR i hi
    rw [fX5_known, fX6_known, if_pos rfl, if_pos rfl, isId_n hi, in_yes h.1 (by grind), cal1_e, cal1_e, if_neg (show ¬ (1 : Int32) = 0 by decide), if_neg (show ¬ (1 : Int32) = 0 by decide), kindOf_ok _ hi, seqOf_ok _ hi, versionOf_ok _ hi, isDocument_ok _ hi, seqOf_ok _ hi, rdI_n hi (by omega), rdI_n hi (by omega), rdI_n hi (by omega), rdI_n hi (by omega), rdI_n hi (by omega), e1, e2, e3, f1]
    simp only [jp_e]
    rw [cal1_e, cal1_e, cal1_e, cal1_e, cal1_e, cal1_e]
    refine ite_ex (fun _ => ⟨_, rfl, rfl⟩) (fun _ => ?_)
    refine ite_ex (fun _ => ⟨_, rfl, rfl⟩) (fun _ => ?_)
    refine ite_ex (fun _ => ⟨_, rfl, rfl⟩) (fun _ => ?_)
    refine ite_ex (fun _ => ?_) (fun _ => ite_ex (fun _ => ?_) (fun _ => ⟨_, rfl, rfl⟩))
    · by_cases hk : rk i = 1
      · obtain ⟨q, hq, e⟩ := f3 hk
        rw [if_pos hk, if_pos hk, e, if_neg (show ¬ (1 : Int32) = 0 by decide), if_neg (show ¬ nI q < 0 by rw [l0, n_lt (by omega) (by omega)]; omega)]
        exact ⟨_, rfl, rfl⟩
      · rw [if_neg hk, if_neg hk, if_pos rfl, if_pos (show (-1 : Int32) < 0 by decide)]
        exact ⟨_, rfl, rfl⟩
    · by_cases hk : rk i = 1
      · rw [if_pos hk, if_pos hk, if_neg (show ¬ (1 : Int32) = 0 by decide)]
        exact ⟨_, rfl, rfl⟩
      · rw [if_neg hk, if_neg hk, if_pos rfl]
        exact ⟨_, rfl, rfl⟩
  · refine ⟨-1, ?_, ?_⟩
    · rw [fX5_known, if_pos rfl, isId_no h, cal1_e, if_pos rfl]
    · rw [fX6_known, if_pos rfl, in_no (by intro h2; exact h ⟨h2.1, by grind⟩), cal1_e, if_pos rfl]
theorem fgt_e {k s f k' s' f' : Nat → Int32} {c x : Int32} (h : ∀ i, i < 16 → k i = k' i ∧ s i = s' i ∧ f i = f' i) : ∀ i, i < 16 → fgt k s f c x 0 i = fgt k' s' f' c x 0 i := by
  intro i hi
  obtain ⟨h1, h2, h3⟩ := h i hi
  unfold fgt
  rw [h1, h2, h3]
theorem RD_fgt {kX sX vX kM sM vM : Nat → Int32} {oX oM : Nat → Int64} (hD : RD kX sX vX oX kM sM vM oM) (c : Int32) : RD (fgt kX sX kX c 0 0) (fgt kX sX sX c (-1) 0) (fgt kX sX vX c 0 0) oX (fgt kM sM kM c 0 0) (fgt kM sM sM c (-1) 0) (fgt kM sM vM c 0 0) oM := by
  intro i hi
  exact ⟨fgt_e (fun j hj => ⟨(hD j hj).1, (hD j hj).2.1, (hD j hj).1⟩) i hi, fgt_e (fun j hj => ⟨(hD j hj).1, (hD j hj).2.1, (hD j hj).2.1⟩) i hi, fgt_e (fun j hj => ⟨(hD j hj).1, (hD j hj).2.1, (hD j hj).2.2.1⟩) i hi, (hD i hi).2.2.2⟩
theorem fgt_1 {k s : Nat → Int32} {c : Int32} (i : Nat) : fgt k s k c 0 0 i = 1 ↔ k i = 1 := by
  unfold fgt
  by_cases h : 0 ≤ i ∧ i < 16 ∧ k i = 2 ∧ s i ≤ c
  · rw [if_pos h, h.2.2.1]
    exact ⟨fun e => absurd e (by decide), fun e => absurd e (by decide)⟩
  · rw [if_neg h]
theorem ID_fgt {k s : Nat → Int32} {o : Nat → Int64} (h : ID k s o) (c : Int32) : ID (fgt k s k c 0 0) (fgt k s s c (-1) 0) o := by
  intro i hi
  refine ⟨fun e => ?_, fun e => (h i hi).2 (fun e2 => e ((fgt_1 i).mpr e2))⟩
  have e1 := (fgt_1 i).mp e
  unfold fgt
  rw [if_neg (by rw [e1]; rintro ⟨_, _, hh, _⟩; exact absurd hh (by decide))]
  exact (h i hi).1 e1
theorem refresh_both {kX sX vX kM sM vM rk rs rv sS : Nat → Int32} {oX oM ro sO : Nat → Int64} (hD : RD kX sX vX oX kM sM vM oM) (hI : ID kX sX oX) (c vis : Int32) :
    ∃ (r : Int32) (kX' sX' vX' rk' rs' rv' : Nat → Int32) (ro' : Nat → Int64) (kM' sM' vM' sS' : Nat → Int32) (sO' : Nat → Int64),
      fX5_refresh kX sX vX oX c rk rs rv ro 0 = some (r, kX', sX', vX', rk', rs', rv', ro') ∧ fX6_refresh kM sM vM sS oM sO c 0 vis = some (r, kM', sM', vM', sS', sO', nI (cnt1 rk' 16)) ∧
      RD kX' sX' vX' oX kM' sM' vM' oM ∧ ID kX' sX' oX ∧ RR rk' rs' ro' sS' sO' := by
  have hc : cnt1 kM 16 = cnt1 (cpf rk (fgt kX sX kX c 0 0) 0 16) 16 := cnt1_congr (fun i hi => by rw [cpf_at _ _ (by omega) hi, fgt_1, (hD i hi).1])
  refine ⟨nI (cnt1 kM 16), fgt kX sX kX c 0 0, fgt kX sX sX c (-1) 0, fgt kX sX vX c 0 0, cpf rk (fgt kX sX kX c 0 0) 0 16, cpf rs (fgt kX sX sX c (-1) 0) 0 16, cpf rv (fgt kX sX vX c 0 0) 0 16, cpf ro oX 0 16, fgt kM sM kM c 0 0, fgt kM sM sM c (-1) 0, fgt kM sM vM c 0 0, cpf sS (fun j => if kM j = 1 then sM j else -1) 0 16, cpf sO (fun j => if kM j = 1 then oM j else 0) 0 16, ?_, ?_, RD_fgt hD c, ID_fgt hI c, ?_⟩
  · rw [fX5_refresh, if_pos rfl, forget_ok, cal3_e, copyFrom_ok, cal4_e, count_ok, cal1_e, hc]
  · rw [fX6_refresh, if_pos rfl, show_ok, cal3_e, jp_e, forgetM_loop _ c 16 0 rfl 1000 (by omega) 0 rfl kM sM vM, ← hc]
  · intro i hi
    obtain ⟨e1, e2, e3, e4⟩ := hD i hi
    rw [cpf_at _ _ (by omega) hi, cpf_at _ _ (by omega) hi, cpf_at _ _ (by omega) hi, cpf_at _ _ (by omega) hi, cpf_at _ _ (by omega) hi]
    have hs : kM i = 1 → fgt kX sX sX c (-1) 0 i = sM i := by
      intro h
      unfold fgt
      rw [if_neg (by rw [e1, h]; rintro ⟨_, _, hh, _⟩; exact absurd hh (by decide)), e2]
    by_cases h : kM i = 1
    · have h1 : fgt kX sX kX c 0 0 i = 1 := (fgt_1 i).mpr (by rw [e1]; exact h)
      rw [if_pos h, if_pos h, if_pos h1, if_pos h1, hs h, e4]
      exact ⟨rfl, rfl, fun _ => by rw [← e2]; exact (hI i hi).1 (by rw [e1]; exact h)⟩
    · have h1 : ¬ fgt kX sX kX c 0 0 i = 1 := fun e => h (by rw [← e1]; exact (fgt_1 i).mp e)
      rw [if_neg h, if_neg h, if_neg h1, if_neg h1]
      exact ⟨rfl, rfl, fun e => absurd e h1⟩
