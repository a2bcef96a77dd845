/-! an operation is processed: the class and the reference -/
def RD (k s v : Nat → Int32) (o : Nat → Int64) (k' s' v' : Nat → Int32) (o' : Nat → Int64) : Prop := ∀ i, i < 16 → k i = k' i ∧ s i = s' i ∧ v i = v' i ∧ o i = o' i
def ID (k s : Nat → Int32) (o : Nat → Int64) : Prop := ∀ i, i < 16 → (k i = 1 → ∃ q : Nat, q < 1000000000 ∧ s i = nI q) ∧ (k i ≠ 1 → o i = 0)
theorem RD_upd {k s v k' s' v' : Nat → Int32} {o o' : Nat → Int64} (h : RD k s v o k' s' v' o') (i : Nat) (a b c : Int32) (d : Int64) : RD (upd k i a) (upd s i b) (upd v i c) (vp_updL o i d) (upd k' i a) (upd s' i b) (upd v' i c) (vp_updL o' i d) := by
  intro j hj
  by_cases e : j = i
  · subst e; rw [upd_s, upd_s, upd_s, upd_s, upd_s, upd_s, updL_s, updL_s]; exact ⟨rfl, rfl, rfl, rfl⟩
  · rw [upd_o _ _ e, upd_o _ _ e, upd_o _ _ e, upd_o _ _ e, upd_o _ _ e, upd_o _ _ e, updL_o _ _ e, updL_o _ _ e]; exact h j hj
theorem ID_upd {k s : Nat → Int32} {o : Nat → Int64} (h : ID k s o) (i : Nat) (a : Int32) (d : Int64) {q : Nat} (hq : q < 1000000000) (hd : a ≠ 1 → d = 0) : ID (upd k i a) (upd s i (nI q)) (vp_updL o i d) := by
  intro j hj
  by_cases e : j = i
  · subst e; rw [upd_s, upd_s, updL_s]; exact ⟨fun _ => ⟨q, hq, rfl⟩, hd⟩
  · rw [upd_o _ _ e, upd_o _ _ e, updL_o _ _ e]; exact h j hj
theorem isProcessed_ok {a : Int64} {q c : Nat} (hq : q < 1000000000) (hc : c < 1000000000) : fX1_isProcessed (mI c) a (nI q) = some (if q < c ∨ (q < c + 64 ∧ jb a (q - c) = true) then 1 else 0) := by
  rw [fX1_isProcessed, bnd_e, bnd_e, m_sub]
  by_cases h : q < c
  · have hneg : ¬ (0 : Int32) ≤ nI q - nI c := by
      have := pk_sneg (a := q) (b := c) (by omega) h
      grind
    rw [if_neg hneg, if_pos (Or.inl h)]
  · rw [n_sub (by omega), if_pos (by rw [l0, n_le (by omega) (by omega)]; omega), jp_e, jp_e]
    by_cases h2 : q < c + 64
    · rw [if_neg (by rw [l64, n_le (by omega) (by omega)]; omega)]
      simp only [bnd_e]
      by_cases h3 : jb a (q - c) = true
      · rw [if_neg (fun e => by rw [(jb_andz a (by omega)).mp e] at h3; cases h3), if_pos (Or.inr ⟨h2, h3⟩)]; rfl
      · have h3f : jb a (q - c) = false := by cases h : jb a (q - c) with | true => exact absurd h h3 | false => rfl
        rw [if_pos ((jb_andz a (by omega)).mpr h3f), if_neg (by intro e; rcases e with e | e; exact h e; exact h3 e.2)]; rfl
    · rw [if_pos (by rw [l64, n_le (by omega) (by omega)]; omega), if_neg (by intro e; rcases e with e | e; exact h e; exact h2 e.1)]; rfl
theorem isDone_ok {a : Int64} {d : Nat → Int32} (hR : RM a d) {q c : Nat} (hq : q < c + 64) (hc : c < 1000000000) : fX6_isDone d (mI c) (nI q) = some (if q < c ∨ (q < c + 64 ∧ jb a (q - c) = true) then 1 else 0) := by
  rw [fX6_isDone, jp_e, jp_e]
  by_cases h : q < c
  · rw [if_pos (by rw [nm_le (by omega) (by omega)]; exact h), if_pos (Or.inl h)]; rfl
  · rw [if_neg (by rw [nm_le (by omega) (by omega)]; exact h), bnd_e, bnd_e, m_sub, n_sub (by omega), rdI_n (by omega) (by omega), hR.1 (q - c) (by omega)]
    by_cases h3 : jb a (q - c) = true
    · rw [if_pos h3, if_neg (by decide), if_pos (Or.inr ⟨hq, h3⟩)]; rfl
    · rw [if_neg h3, if_pos rfl, if_neg (by intro e; rcases e with e | e; exact h e; exact h3 e.2)]; rfl
theorem mark_ok {mx c q : Nat} {a : Int64} {d : Nat → Int32} (hM : RM a d) (hb : ∀ b, jb a b = true → c + b < mx) (hc : c ≤ mx) (hq1 : c ≤ q) (hq2 : q < c + 64) (hmx : mx < 900000000) :
    ∃ (k : Nat) (a' : Int64) (d' : Nat → Int32), k ≤ 64 ∧ RM a' d' ∧ (∀ b, jb a' b = true → c + k + b < max mx (q + 1)) ∧ c + k ≤ max mx (q + 1) ∧
      fX1_mark (mI c) (mI mx) a (nI q) = some (mI (c + k), mI (max mx (q + 1)), a') ∧
      (∀ (J : (Nat → Int32) → (Int32) → Option ((Int32) × (Nat → Int32) × (Nat → Int32) × (Nat → Int32) × (Nat → Int64) × (Nat → Int32) × (Int32) × (Int32))), lo2 (sX6_process_14 J) 1000 (upd d (q - c) 1) (mI c) = J d' (mI (c + k))) ∧ (∀ q', pr (c + k) a' q' ↔ (pr c a q' ∨ q' = q)) := by
  obtain ⟨k, a', d', h1, h2, h3, h4, h5, h6, h7⟩ := mark_both (mx := max mx (q + 1)) (by omega) 64 0 rfl c _ _ (RM_set hM (show q - c < 64 by omega)) (fun b hb => jb_big hb) (fun b h => by
    rw [jb_or a (by omega)] at h
    rcases (Bool.or_eq_true _ _).mp h with h | h
    · have := hb b h; omega
    · have := of_decide_eq_true h; omega) (by omega)
  refine ⟨k, a', d', h1, h2, h3, h4, ?_, fun J => h6 J 1000 (by omega), fun q' => by rw [h7 q', pr_set a (by omega), show c + (q - c) = q by omega]⟩
  rw [fX1_mark, bnd_e, bnd_e, m_sub, n_sub hq1, jp_e, if_neg (by rw [l0, n_lt (by omega) (by omega)]; omega), if_neg (by rw [l64, n_le (by omega) (by omega)]; omega), bnd_e, bnd_e]
  dsimp only
  rw [jp_e, h5 _ 1000 0 (by omega) rfl, bnd_e]
  by_cases h : mx < q + 1
  · rw [if_pos (by rw [mn_lt (by omega) (by omega)]; exact h), show max mx (q + 1) = q + 1 by omega, m_of]
  · rw [if_neg (by rw [mn_lt (by omega) (by omega)]; exact h), show max mx (q + 1) = mx by omega]
theorem process_both {kX sX vX kM sM vM : Nat → Int32} {oX oM : Nat → Int64} {kind id idM ver : Int32} {q c mx i : Nat} {src : Int64} {a : Int64} {d : Nat → Int32}
    (hD : RD kX sX vX oX kM sM vM oM) (hI : ID kX sX oX) (hM : RM a d) (hb : ∀ b, jb a b = true → c + b < mx) (hc : c ≤ mx) (hq1 : c ≤ q) (hq2 : q < c + 64) (hmx : mx < 900000000)
    (hk : kind = 3 ∨ ((kind = 1 ∨ kind = 2) ∧ id = nI i ∧ idM = nI i ∧ i < 16)) :
    ∃ (r : Int32) (kX' sX' vX' : Nat → Int32) (oX' : Nat → Int64) (kM' sM' vM' : Nat → Int32) (oM' : Nat → Int64) (k : Nat) (a' : Int64) (d' : Nat → Int32),
      fX1_process kX sX vX oX (mI c) (mI mx) a kind (nI q) id ver src = some (r, kX', sX', vX', oX', mI (c + k), mI (max mx (q + 1)), a') ∧
      fX6_process kM sM vM oM d (mI c) (mI mx) kind idM (nI q) ver src = some (r, kM', sM', vM', oM', d', mI (c + k), mI (max mx (q + 1))) ∧
      RD kX' sX' vX' oX' kM' sM' vM' oM' ∧ ID kX' sX' oX' ∧ RM a' d' ∧ (∀ b, jb a' b = true → c + k + b < max mx (q + 1)) ∧ c + k ≤ max mx (q + 1) ∧ k ≤ 64 ∧ (r = 0 ∨ r = 1) ∧ (∀ q', pr (c + k) a' q' ↔ (pr c a q' ∨ q' = q)) := by
  obtain ⟨k, a', d', h1, h2, h3, h4, h5, h6, h7⟩ := mark_ok hM hb hc hq1 hq2 hmx
  have hmaxM : (if nI q ≤ mI mx then mI mx else nI q) = mI (max mx (q + 1)) := by
    by_cases h : q < mx
    · rw [if_pos (by rw [nm_le (by omega) (by omega)]; exact h), show max mx (q + 1) = mx by omega]
    · rw [if_neg (by rw [nm_le (by omega) (by omega)]; exact h), show max mx (q + 1) = q + 1 by omega, m_of]
  rcases hk with rfl | ⟨hk, rfl, rfl, hi⟩
  · refine ⟨0, kX, sX, vX, oX, kM, sM, vM, oM, k, a', d', ?_, ?_, hD, hI, h2, h3, h4, h1, Or.inl rfl, h7⟩
    · rw [fX1_process, h5, cal3_e, fX0_learn, jp_e, if_pos rfl, cal5_e]; rfl
    · rw [fX6_process, bnd_e, bnd_e, m_sub, n_sub hq1, wrZ_n (by omega) (by omega) (Or.inr rfl), jp_e, h6, jp_ite, hmaxM, jp_e, if_pos rfl]
  · have hk3 : ¬ kind = 3 := by rcases hk with rfl | rfl <;> decide
    obtain ⟨e1, e2, e3, e4⟩ := hD i hi
    by_cases hs : sX i < nI q
    · refine ⟨1, upd kX i kind, upd sX i (nI q), upd vX i ver, vp_updL oX i (if kind = 1 then src else 0), upd kM i kind, upd sM i (nI q), upd vM i ver, vp_updL oM i (if kind = 1 then src else 0), k, a', d', ?_, ?_, RD_upd hD i _ _ _ _, ID_upd hI i _ _ (by omega) (fun h => if_neg h), h2, h3, h4, h1, Or.inr rfl, h7⟩
      · rw [fX1_process, h5, cal3_e, fX0_learn, jp_e, if_neg hk3, isId_n hi, cal1_e, if_neg (by decide), rdI_n hi (by omega), if_pos hs, wrI_n hi (by omega), wrI_n hi (by omega), wrI_n hi (by omega), jp_ite, wrJ_n hi (by omega), cal5_e]; rfl
      · rw [fX6_process, bnd_e, bnd_e, m_sub, n_sub hq1, wrZ_n (by omega) (by omega) (Or.inr rfl), jp_e, h6, jp_ite, hmaxM, jp_e, if_neg hk3, rdI_n hi (by omega), ← e2, if_pos hs, wrI_n hi (by omega), wrI_n hi (by omega), wrI_n hi (by omega), jp_ite, wrJ_n hi (by omega)]
    · refine ⟨0, kX, sX, vX, oX, kM, sM, vM, oM, k, a', d', ?_, ?_, hD, hI, h2, h3, h4, h1, Or.inl rfl, h7⟩
      · rw [fX1_process, h5, cal3_e, fX0_learn, jp_e, if_neg hk3, isId_n hi, cal1_e, if_neg (by decide), rdI_n hi (by omega), if_neg hs, cal5_e]; rfl
      · rw [fX6_process, bnd_e, bnd_e, m_sub, n_sub hq1, wrZ_n (by omega) (by omega) (Or.inr rfl), jp_e, h6, jp_ite, hmaxM, jp_e, if_neg hk3, rdI_n hi (by omega), ← e2, if_neg hs]
