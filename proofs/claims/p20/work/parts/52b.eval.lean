/-! the law's evaluation of its query for one document, against the class's -/
def KQ (xs : Nat → Int32) (Ln : Nat) : Nat → Int32 := fun j => nI (kN xs Ln j)
def mtc (xs : Nat → Int32) (Ln T : Nat) (x : Int64) : Bool := (qz_run (KQ xs Ln) (aV xs Ln) (bV xs Ln) x T 0 (fun _ => false) (fun _ => 0)).1
def scr (xs : Nat → Int32) (Ln T : Nat) (x : Int64) : Nat := (qz_run (KQ xs Ln) (aV xs Ln) (bV xs Ln) x T 0 (fun _ => false) (fun _ => 0)).2
theorem qz_run_cg {k k' a a' b b' : Nat → Int32} (x : Int64) : ∀ (j t : Nat) (h : Nat → Bool) (p : Nat → Nat), (∀ i, i < j → k i = k' i ∧ a i = a' i ∧ b i = b' i) → qz_run k a b x j t h p = qz_run k' a' b' x j t h p := by
  intro j
  induction j with
  | zero => intro t h p _; rfl
  | succ j ih =>
    intro t h p hc
    obtain ⟨e1, e2, e3⟩ := hc j (by omega)
    have hih := fun t h p => ih t h p (fun i hi => hc i (by omega))
    rw [qz_run, qz_run, e1, e2, e3, hih, hih, hih]
theorem opn_ar {t : Nat} (h : t < 7) : opn (nI t) = arN t := by
  rcases (show t = 0 ∨ t = 1 ∨ t = 2 ∨ t = 3 ∨ t = 4 ∨ t = 5 ∨ t = 6 by omega) with rfl | rfl | rfl | rfl | rfl | rfl | rfl <;> decide
theorem whl_ok {xs : Nat → Int32} {Ln T : Nat} (h0 : mgT xs Ln T = 0) (h1 : ∀ j, j < T → 1 ≤ mgT xs Ln j) {k : Nat → Int32} {n : Nat} (hn : n ≤ T) (hk : ∀ j, j < n → k j = nI (kN xs Ln j)) : ∀ (m i : Nat), i + m = n → whl k m i (mgT xs Ln i) = decide (n = T) := by
  intro m
  induction m with
  | zero =>
    intro i hi
    obtain rfl : i = n := by omega
    show decide (mgT xs Ln i = 0) = _
    by_cases e : i = T
    · rw [decide_eq_true e, e, decide_eq_true h0]
    · rw [decide_eq_false e, decide_eq_false (by have := h1 i (by omega); omega)]
  | succ m ih =>
    intro i hi
    have h2 := h1 i (by omega)
    rw [whl, if_neg (by omega), hk i (by omega), opn_ar (kN_lt _ _ _)]
    exact ih (i + 1) (by omega)
theorem whl_T {xs : Nat → Int32} {Ln T : Nat} (h0 : mgT xs Ln T = 0) (h1 : ∀ j, j < T → 1 ≤ mgT xs Ln j) {k : Nat → Int32} {n : Nat} (hn : n ≤ T) (hk : ∀ j, j < n → k j = nI (kN xs Ln j)) : whl k n 0 1 = decide (n = T) := whl_ok h0 h1 hn hk n 0 (by omega)
/-! a stack of bits in an int -/
theorem bt1 : ∀ i, i < 32 → (1 : Int32).toBitVec.getLsbD i = decide (i = 0) := by decide
theorem bt0 : ∀ i, i < 32 → (0 : Int32).toBitVec.getLsbD i = false := by decide
theorem btm2 : ∀ i, i < 32 → (-2 : Int32).toBitVec.getLsbD i = !decide (i = 0) := by decide
def bitR (t : Nat) (h : Nat → Bool) (y : Int32) : Prop := (∀ i, i < t → y.toBitVec.getLsbD i = h (t - 1 - i)) ∧ ∀ i, t ≤ i → i < 32 → y.toBitVec.getLsbD i = false
theorem bt_shl (y : Int32) {i : Nat} (hi : i < 32) : (y <<< ((1 : Int32) &&& 31)).toBitVec.getLsbD i = (!decide (i < 1) && y.toBitVec.getLsbD (i - 1)) := by
  rw [Int32.toBitVec_shiftLeft]
  have e1 : (((1 : Int32) &&& 31).toBitVec.smod 32).toNat = 1 := by decide
  rw [BitVec.shiftLeft_eq', e1, BitVec.getLsbD_shiftLeft, decide_eq_true hi, Bool.true_and]
theorem bt_shr (y : Int32) {i : Nat} (hi : i < 32) (h31 : y.toBitVec.getLsbD 31 = false) : (y >>> ((1 : Int32) &&& 31)).toBitVec.getLsbD i = y.toBitVec.getLsbD (i + 1) := by
  rw [Int32.toBitVec_shiftRight]
  have e1 : (((1 : Int32) &&& 31).toBitVec.smod 32).toNat = 1 := by decide
  rw [BitVec.sshiftRight_eq', e1, BitVec.getLsbD_sshiftRight, decide_eq_false (by omega), Bool.not_false, Bool.true_and]
  by_cases h : 1 + i < 32
  · rw [if_pos h, Nat.add_comm]
  · rw [if_neg h, BitVec.getLsbD_of_ge _ (i + 1) (by omega), BitVec.msb_eq_getLsbD_last]
    exact h31
theorem bit_leaf {t : Nat} {h : Nat → Bool} {y : Int32} (hr : bitR t h y) (v : Bool) : bitR (t + 1) (qz_fs h t v) (y <<< ((1 : Int32) &&& 31) ||| (if v = true then 1 else 0)) ∨ 32 ≤ t := by
  by_cases ht : 32 ≤ t
  · exact Or.inr ht
  refine Or.inl ⟨fun i hi => ?_, fun i hi hi2 => ?_⟩
  · rw [Int32.toBitVec_or, BitVec.getLsbD_or, bt_shl y (by omega)]
    have ev : (if v = true then (1 : Int32) else 0).toBitVec.getLsbD i = (v && decide (i = 0)) := by
      cases v
      · rw [if_neg (by decide), bt0 i (by omega)]; rfl
      · rw [if_pos rfl, bt1 i (by omega)]; rfl
    rw [ev]
    by_cases e : i = 0
    · subst e
      rw [decide_eq_true (by omega), Bool.not_true, Bool.false_and, Bool.false_or, decide_eq_true rfl, Bool.and_true, show t + 1 - 1 - 0 = t by omega, qz_fs_s]
    · rw [decide_eq_false (by omega), Bool.not_false, Bool.true_and, decide_eq_false e, Bool.and_false, Bool.or_false, hr.1 (i - 1) (by omega), qz_fs_o _ _ (by omega)]
      congr 1; omega
  · rw [Int32.toBitVec_or, BitVec.getLsbD_or, bt_shl y hi2, hr.2 (i - 1) (by omega) (by omega), Bool.and_false, Bool.false_or]
    cases v
    · rw [if_neg (by decide), bt0 i hi2]
    · rw [if_pos rfl, bt1 i hi2, decide_eq_false (by omega)]
theorem bit_not {t : Nat} {h : Nat → Bool} {y : Int32} (hr : bitR t h y) (ht : 1 ≤ t) (ht2 : t < 31) : bitR t (qz_fs h (t - 1) (!(h (t - 1)))) (y ^^^ 1) := by
  refine ⟨fun i hi => ?_, fun i hi hi2 => ?_⟩
  · rw [Int32.toBitVec_xor, BitVec.getLsbD_xor, bt1 i (by omega), hr.1 i hi]
    by_cases e : i = 0
    · subst e
      rw [decide_eq_true rfl, Bool.xor_true, show t - 1 - 0 = t - 1 by omega, qz_fs_s]
    · rw [decide_eq_false e, Bool.xor_false, qz_fs_o _ _ (by omega)]
  · rw [Int32.toBitVec_xor, BitVec.getLsbD_xor, bt1 i hi2, hr.2 i hi hi2, decide_eq_false (by omega)]
    rfl
theorem bit_and {t : Nat} {h : Nat → Bool} {y : Int32} (hr : bitR t h y) (ht : 2 ≤ t) (ht2 : t < 31) : bitR (t - 1) (qz_fs h (t - 2) (h (t - 2) && h (t - 1))) (y >>> ((1 : Int32) &&& 31) &&& ((y &&& 1) ||| -2)) := by
  have h31 := hr.2 31 (by omega) (by omega)
  refine ⟨fun i hi => ?_, fun i hi hi2 => ?_⟩
  · rw [Int32.toBitVec_and, BitVec.getLsbD_and, bt_shr y (by omega) h31, Int32.toBitVec_or, BitVec.getLsbD_or, Int32.toBitVec_and, BitVec.getLsbD_and, bt1 i (by omega), btm2 i (by omega), hr.1 (i + 1) (by omega)]
    by_cases e : i = 0
    · subst e
      rw [decide_eq_true rfl, Bool.and_true, Bool.not_true, Bool.or_false, hr.1 0 (by omega), show t - 1 - 1 - 0 = t - 2 by omega, qz_fs_s, show t - 1 - (0 + 1) = t - 2 by omega, show t - 1 - 0 = t - 1 by omega]
    · rw [decide_eq_false e, Bool.and_false, Bool.not_false, Bool.false_or, Bool.and_true, qz_fs_o _ _ (by omega)]
      congr 1; omega
  · rw [Int32.toBitVec_and, BitVec.getLsbD_and, bt_shr y hi2 h31]
    have : y.toBitVec.getLsbD (i + 1) = false := by
      by_cases e : i + 1 < 32
      · exact hr.2 (i + 1) (by omega) e
      · exact BitVec.getLsbD_of_ge _ _ (by omega)
    rw [this, Bool.false_and]
theorem bit_or {t : Nat} {h : Nat → Bool} {y : Int32} (hr : bitR t h y) (ht : 2 ≤ t) (ht2 : t < 31) : bitR (t - 1) (qz_fs h (t - 2) (h (t - 2) || h (t - 1))) (y >>> ((1 : Int32) &&& 31) ||| (y &&& 1)) := by
  have h31 := hr.2 31 (by omega) (by omega)
  refine ⟨fun i hi => ?_, fun i hi hi2 => ?_⟩
  · rw [Int32.toBitVec_or, BitVec.getLsbD_or, bt_shr y (by omega) h31, Int32.toBitVec_and, BitVec.getLsbD_and, bt1 i (by omega), hr.1 (i + 1) (by omega)]
    by_cases e : i = 0
    · subst e
      rw [decide_eq_true rfl, Bool.and_true, hr.1 0 (by omega), show t - 1 - 1 - 0 = t - 2 by omega, qz_fs_s, show t - 1 - (0 + 1) = t - 2 by omega, show t - 1 - 0 = t - 1 by omega]
    · rw [decide_eq_false e, Bool.and_false, Bool.or_false, qz_fs_o _ _ (by omega)]
      congr 1; omega
  · rw [Int32.toBitVec_or, BitVec.getLsbD_or, bt_shr y hi2 h31, Int32.toBitVec_and, BitVec.getLsbD_and, bt1 i hi2, decide_eq_false (by omega), Bool.and_false, Bool.or_false]
    by_cases e : i + 1 < 32
    · exact hr.2 (i + 1) (by omega) e
    · exact BitVec.getLsbD_of_ge _ _ (by omega)
theorem kq_c {xs : Nat → Int32} {Ln j t : Nat} (h : kN xs Ln j = t) : KQ xs Ln j = nI t := by unfold KQ; rw [h]
theorem mat_loop {xs : Nat → Int32} {Ln T : Nat} (hL : Ln < 100000) (hT1 : 1 ≤ T) (hT : T ≤ 14) (h0 : mgT xs Ln T = 0) (h1 : ∀ j, j < T → 1 ≤ mgT xs Ln j) (x : Int64) (J102 : Int32 → Option Int32) :
    ∀ (j : Nat), j ≤ T → ∀ (f : Nat), j < f → ∀ (h : Nat → Bool) (p : Nat → Nat) (y : Int32), bitR (mgT xs Ln j) h y → ∃ y', lo2 (sL_matches_10 J102 xs Ln x) f y (mI j) = J102 y' ∧ y'.toBitVec.getLsbD 0 = (qz_run (KQ xs Ln) (aV xs Ln) (bV xs Ln) x j (mgT xs Ln j) h p).1 := by
  intro j
  induction j with
  | zero =>
    intro hj f hf h p y hy
    obtain ⟨f, rfl⟩ : ∃ z, f = z + 1 := ⟨f - 1, by omega⟩
    refine ⟨y, ?_, hy.1 0 (show 0 < 1 by omega)⟩
    rw [lo2_s, sL_matches_10, if_pos (by decide)]
  | succ j ih =>
    intro hj f hf h p y hy
    obtain ⟨f, rfl⟩ : ∃ z, f = z + 1 := ⟨f - 1, by omega⟩
    have hmb := mgT_b xs Ln (j + 1) (fun i hi => h1 i (by omega))
    have hmj := h1 j (by omega)
    have hmbj := mgT_b xs Ln j (fun i hi => h1 i (by omega))
    have hk7 := kN_lt xs Ln j
    have hs := mgT_s xs Ln j
    rw [lo2_s, sL_matches_10, if_neg (by rw [m_of, l0, n_lt (by omega) (by omega)]; omega), m_of, kind_ok hL hT1 hT h0 h1 (by omega), cal1_e, jp_e]
    have hpr : nI j + (-1) = mI j := by rw [← m_of j]; exact m_minus j
    by_cases c4 : kN xs Ln j < 4
    · have har : arN (kN xs Ln j) = 0 := if_pos c4
      have hb := (bit_leaf hy (decide (0 < lfN xs Ln j x))).resolve_right (by omega)
      rw [show mgT xs Ln (j + 1) + 1 = mgT xs Ln j by omega] at hb
      have hle := qz_lf_le (nI (kN xs Ln j)) (aV xs Ln j) (bV xs Ln j) x
      obtain ⟨y', q1, q2⟩ := ih (by omega) f (by omega) _ (qz_fs p (mgT xs Ln (j + 1)) (lfN xs Ln j x)) _ hb
      refine ⟨y', ?_, ?_⟩
      · rw [if_neg (by rw [l4, n_le (by omega) (by omega)]; omega), bnd_e, value_ok hL hT1 hT h0 h1 (by omega) c4, cal1_e, jp_ite]
        try dsimp only
        rw [bnd_e, bnd_e, hpr]
        have ev : (if nI (lfN xs Ln j x) ≤ 0 then (0 : Int32) else 1) = if decide (0 < lfN xs Ln j x) = true then 1 else 0 := by
          have hle2 : lfN xs Ln j x ≤ 14 := hle
          by_cases hz : 0 < lfN xs Ln j x
          · rw [decide_eq_true hz, if_pos rfl, if_neg (by rw [l0, n_le (by omega) (by omega)]; omega)]
          · rw [decide_eq_false hz, if_pos (by rw [l0, n_le (by omega) (by omega)]; omega), if_neg (show ¬ (false = true) by decide)]
        rw [ev]
        exact q1
      · rw [q2, qz_run]
        have n4 : ¬ (KQ xs Ln j = 4 ∨ KQ xs Ln j = 5) := by
          unfold KQ
          rw [l4, l5, n_eq (by omega) (by omega), n_eq (by omega) (by omega)]; omega
        have n6 : ¬ KQ xs Ln j = 6 := by
          unfold KQ
          rw [l6, n_eq (by omega) (by omega)]; omega
        rw [if_neg n4, if_neg n6, show mgT xs Ln (j + 1) + 1 = mgT xs Ln j by omega]
        rfl
    · rw [if_pos (by rw [l4, n_le (by omega) (by omega)]; omega)]
      by_cases c6 : kN xs Ln j = 6
      · have har : arN (kN xs Ln j) = 1 := by rw [c6]; rfl
        have hb := bit_not hy (by omega) (by omega)
        rw [show mgT xs Ln (j + 1) = mgT xs Ln j by omega] at hb
        obtain ⟨y', q1, q2⟩ := ih (by omega) f (by omega) _ (qz_fs p (mgT xs Ln j - 1) 0) _ hb
        refine ⟨y', ?_, ?_⟩
        · rw [if_pos (by rw [c6]; rfl), bnd_e]
          try dsimp only
          rw [bnd_e, hpr]
          exact q1
        · rw [q2, qz_run, kq_c c6, if_neg (show ¬ (nI 6 = 4 ∨ nI 6 = 5) by decide), if_pos (show nI 6 = 6 from rfl), show mgT xs Ln (j + 1) = mgT xs Ln j by omega]
      · have har : arN (kN xs Ln j) = 2 := by unfold arN; rw [if_neg c4, if_pos (by omega)]
        rw [if_neg (by rw [l6, n_eq (by omega) (by omega)]; exact c6), bnd_e, bnd_e, jp_e]
        by_cases c5 : kN xs Ln j = 4
        · have hb := bit_and hy (by omega) (by omega)
          rw [show mgT xs Ln (j + 1) - 1 = mgT xs Ln j by omega] at hb
          obtain ⟨y', q1, q2⟩ := ih (by omega) f (by omega) _ (qz_fs p (mgT xs Ln (j + 1) - 2) (p (mgT xs Ln (j + 1) - 2) + p (mgT xs Ln (j + 1) - 1))) _ hb
          refine ⟨y', ?_, ?_⟩
          · rw [if_pos (by rw [c5]; rfl), bnd_e, bnd_e]
            try dsimp only
            rw [bnd_e, hpr]
            exact q1
          · rw [q2, qz_run, kq_c c5, if_pos (show nI 4 = 4 ∨ nI 4 = 5 from Or.inl rfl), show mgT xs Ln (j + 1) - 1 = mgT xs Ln j by omega, if_pos (show nI 4 = 4 from rfl)]
        · have hb := bit_or hy (by omega) (by omega)
          rw [show mgT xs Ln (j + 1) - 1 = mgT xs Ln j by omega] at hb
          obtain ⟨y', q1, q2⟩ := ih (by omega) f (by omega) _ (qz_fs p (mgT xs Ln (j + 1) - 2) (p (mgT xs Ln (j + 1) - 2) + p (mgT xs Ln (j + 1) - 1))) _ hb
          have c55 : kN xs Ln j = 5 := by omega
          refine ⟨y', ?_, ?_⟩
          · rw [if_neg (by rw [l4, n_eq (by omega) (by omega)]; exact c5), bnd_e]
            try dsimp only
            rw [bnd_e, hpr]
            exact q1
          · rw [q2, qz_run, kq_c c55, if_pos (show nI 5 = 4 ∨ nI 5 = 5 from Or.inr rfl), show mgT xs Ln (j + 1) - 1 = mgT xs Ln j by omega, if_neg (show ¬ nI 5 = 4 by decide)]
theorem matches_ok {xs : Nat → Int32} {Ln T : Nat} (hL : Ln < 100000) (hT1 : 1 ≤ T) (hT : T ≤ 14) (h0 : mgT xs Ln T = 0) (h1 : ∀ j, j < T → 1 ≤ mgT xs Ln j) (x : Int64) : fL_matches xs Ln x = some (if mtc xs Ln T x = true then 1 else 0) := by
  rw [fL_matches, tokens_ok hL hT1 hT h0 h1, cal1_e, bnd_e, jp_e]
  obtain ⟨y', q1, q2⟩ := mat_loop hL hT1 hT h0 h1 x (fun y4 => (bnd (y4 &&& 1 : Int32) (fun z5 => (jp (fun (k6 : Int32) => (zok k6 (some (k6)))) (fun J114 => (if z5 = 1 then (J114 1) else (J114 0))))))) T (Nat.le_refl _) 1000 (by omega) (fun _ => false) (fun _ => 0) 0 (by
    rw [h0]
    exact ⟨fun i hi => absurd hi (Nat.not_lt_zero _), fun i _ hi => bt0 i hi⟩)
  rw [h0] at q2
  refine Eq.trans q1 ?_
  try dsimp only
  rw [bnd_e, jp_e]
  have hb : (y' &&& 1).toBitVec.getLsbD 0 = mtc xs Ln T x := by
    rw [Int32.toBitVec_and, BitVec.getLsbD_and, bt1 0 (by omega), q2, decide_eq_true rfl, Bool.and_true]
    rfl
  rcases and1 y' with e | e
  · rw [e] at hb ⊢
    rw [if_neg (by decide), ← hb, if_neg (by decide)]
    exact zok_0
  · rw [e] at hb ⊢
    rw [if_pos rfl, ← hb, if_pos (by decide)]
    exact zok_1
/-! the score, from the first token to the last -/
def qkN (xs : Nat → Int32) (Ln : Nat) : Nat → Nat
  | 0 => 0
  | j + 1 => if 0 < qkN xs Ln j then qkN xs Ln j + arN (kN xs Ln j) - 1 else if kN xs Ln j = 6 then 1 else 0
def nkN (xs : Nat → Int32) (Ln : Nat) (x : Int64) : Nat → Nat
  | 0 => 0
  | j + 1 => if 0 < qkN xs Ln j then nkN xs Ln x j else if kN xs Ln j < 4 then nkN xs Ln x j + lfN xs Ln j x else nkN xs Ln x j
def sumP (p : Nat → Nat) : Nat → Nat
  | 0 => 0
  | n + 1 => sumP p n + p n
theorem sumP_cg {p p' : Nat → Nat} : ∀ (n : Nat), (∀ i, i < n → p i = p' i) → sumP p n = sumP p' n := by
  intro n
  induction n with
  | zero => intro _; rfl
  | succ n ih => intro h; show sumP p n + p n = sumP p' n + p' n; rw [ih (fun i hi => h i (by omega)), h n (by omega)]
theorem sumP_s (p : Nat → Nat) (n : Nat) : sumP p (n + 1) = sumP p n + p n := rfl
theorem run_sum {xs : Nat → Int32} {Ln T : Nat} (h1 : ∀ j, j < T → 1 ≤ mgT xs Ln j) (x : Int64) : ∀ (j : Nat), j ≤ T → ∀ (h : Nat → Bool) (p : Nat → Nat), (qz_run (KQ xs Ln) (aV xs Ln) (bV xs Ln) x j (mgT xs Ln j) h p).2 = nkN xs Ln x j + sumP p (mgT xs Ln j - qkN xs Ln j) := by
  intro j
  induction j with
  | zero => intro _ h p; show p 0 = 0 + (0 + p 0); omega
  | succ j ih =>
    intro hj h p
    have hmj := h1 j (by omega)
    have hk7 := kN_lt xs Ln j
    have hs := mgT_s xs Ln j
    have hih := ih (by omega)
    rw [qz_run]
    by_cases c4 : kN xs Ln j < 4
    · have har : arN (kN xs Ln j) = 0 := if_pos c4
      have n4 : ¬ (KQ xs Ln j = 4 ∨ KQ xs Ln j = 5) := by
        unfold KQ
        rw [l4, l5, n_eq (by omega) (by omega), n_eq (by omega) (by omega)]; omega
      have n6 : ¬ KQ xs Ln j = 6 := by
        unfold KQ
        rw [l6, n_eq (by omega) (by omega)]; omega
      rw [if_neg n4, if_neg n6, show mgT xs Ln (j + 1) + 1 = mgT xs Ln j by omega, hih]
      show nkN xs Ln x j + _ = nkN xs Ln x (j + 1) + sumP p (mgT xs Ln (j + 1) - qkN xs Ln (j + 1))
      rw [nkN, qkN]
      by_cases hq : 0 < qkN xs Ln j
      · rw [if_pos hq, if_pos hq, har, show mgT xs Ln (j + 1) - (qkN xs Ln j + 0 - 1) = mgT xs Ln j - qkN xs Ln j by omega]
        congr 1
        exact sumP_cg _ (fun i hi => qz_fs_o _ _ (by omega))
      · rw [if_neg hq, if_pos c4, if_neg hq, if_neg (by omega), show mgT xs Ln j - qkN xs Ln j = mgT xs Ln (j + 1) + 1 by omega, sumP_s, qz_fs_s, sumP_cg (p' := p) _ (fun i hi => qz_fs_o _ _ (by omega)), Nat.sub_zero]
        show nkN xs Ln x j + (sumP p (mgT xs Ln (j + 1)) + lfN xs Ln j x) = _
        omega
    · by_cases c6 : kN xs Ln j = 6
      · have har : arN (kN xs Ln j) = 1 := by rw [c6]; rfl
        rw [kq_c c6, if_neg (by decide), if_pos (show nI 6 = 6 from rfl), show mgT xs Ln (j + 1) = mgT xs Ln j by omega, hih, nkN, qkN]
        by_cases hq : 0 < qkN xs Ln j
        · rw [if_pos hq, if_pos hq, har, show qkN xs Ln j + 1 - 1 = qkN xs Ln j by omega]
          congr 1
          exact sumP_cg _ (fun i hi => qz_fs_o _ _ (by omega))
        · rw [if_neg hq, if_neg c4, if_neg hq, if_pos c6, show mgT xs Ln j - qkN xs Ln j = mgT xs Ln j - 1 + 1 by omega, sumP_s, qz_fs_s, sumP_cg (p' := p) _ (fun i hi => qz_fs_o _ _ (by omega)), Nat.add_zero]
      · have har : arN (kN xs Ln j) = 2 := by unfold arN; rw [if_neg c4, if_pos (by omega)]
        have h45 : KQ xs Ln j = 4 ∨ KQ xs Ln j = 5 := by
          rcases (show kN xs Ln j = 4 ∨ kN xs Ln j = 5 by omega) with e | e
          · exact Or.inl (kq_c e)
          · exact Or.inr (kq_c e)
        rw [if_pos h45, show mgT xs Ln (j + 1) - 1 = mgT xs Ln j by omega, hih, nkN, qkN]
        by_cases hq : 0 < qkN xs Ln j
        · rw [if_pos hq, if_pos hq, har, show mgT xs Ln (j + 1) - (qkN xs Ln j + 2 - 1) = mgT xs Ln j - qkN xs Ln j by omega]
          congr 1
          exact sumP_cg _ (fun i hi => qz_fs_o _ _ (by omega))
        · rw [if_neg hq, if_neg c4, if_neg hq, if_neg c6, show mgT xs Ln j - qkN xs Ln j = mgT xs Ln (j + 1) - 2 + 1 by omega, sumP_s, qz_fs_s, sumP_cg (p' := p) _ (fun i hi => qz_fs_o _ _ (by omega)), show mgT xs Ln (j + 1) - 0 = mgT xs Ln (j + 1) - 2 + 1 + 1 by omega, sumP_s, sumP_s, show mgT xs Ln (j + 1) - 2 + 1 = mgT xs Ln (j + 1) - 1 by omega, show mgT xs Ln (j + 1) - 1 = mgT xs Ln j by omega]
          omega
theorem qk_le (xs : Nat → Int32) (Ln : Nat) : ∀ j, qkN xs Ln j ≤ j := by
  intro j
  induction j with
  | zero => exact Nat.le_refl _
  | succ j ih =>
    have : arN (kN xs Ln j) ≤ 2 := by unfold arN; split; omega; split <;> omega
    rw [qkN]
    split
    · omega
    · split <;> omega
theorem nk_le (xs : Nat → Int32) (Ln : Nat) (x : Int64) : ∀ j, nkN xs Ln x j ≤ 14 * j := by
  intro j
  induction j with
  | zero => exact Nat.le_refl _
  | succ j ih =>
    have : lfN xs Ln j x ≤ 14 := qz_lf_le _ _ _ _
    rw [nkN]
    split
    · omega
    · split <;> omega
theorem score_loop {xs : Nat → Int32} {Ln T : Nat} (hL : Ln < 100000) (hT1 : 1 ≤ T) (hT : T ≤ 14) (h0 : mgT xs Ln T = 0) (h1 : ∀ j, j < T → 1 ≤ mgT xs Ln j) (x : Int64) (J99 : Int32 → Option Int32) :
    ∀ (d j : Nat), j + d = T → ∀ (f : Nat), d < f → lo3 (sL_score_14 (nI T) J99 xs Ln x) f (nI (nkN xs Ln x j)) (nI (qkN xs Ln j)) (nI j) = J99 (nI (nkN xs Ln x T)) := by
  intro d
  induction d with
  | zero =>
    intro j hj f hf
    obtain ⟨f, rfl⟩ : ∃ z, f = z + 1 := ⟨f - 1, by omega⟩
    obtain rfl : j = T := by omega
    rw [lo3_s, sL_score_14, if_pos (by rw [n_le (by omega) (by omega)]; omega)]
  | succ d ih =>
    intro j hj f hf
    obtain ⟨f, rfl⟩ : ∃ z, f = z + 1 := ⟨f - 1, by omega⟩
    have hih := ih (j + 1) (by omega) f (by omega)
    have hk7 := kN_lt xs Ln j
    have hq := qk_le xs Ln j
    have hn := nk_le xs Ln x j
    rw [nkN, qkN] at hih
    rw [lo3_s, sL_score_14, if_neg (by rw [n_le (by omega) (by omega)]; omega), kind_ok hL hT1 hT h0 h1 (by omega), cal1_e, jp_e]
    by_cases hq0 : 0 < qkN xs Ln j
    · rw [if_pos hq0, if_pos hq0] at hih
      rw [if_neg (by rw [l0, n_le (by omega) (by omega)]; omega), jp_e]
      unfold arN at hih
      by_cases c4 : kN xs Ln j < 4
      · rw [if_pos c4, show qkN xs Ln j + 0 - 1 = qkN xs Ln j - 1 by omega] at hih
        rw [if_neg (by rw [l4, n_le (by omega) (by omega)]; omega)]
        try dsimp only
        rw [n_p1 hq0, bnd_e]
        try dsimp only
        rw [nI_1, bnd_e]
        exact hih
      · rw [if_neg c4] at hih
        rw [if_pos (by rw [l4, n_le (by omega) (by omega)]; omega)]
        by_cases c6 : kN xs Ln j < 6
        · rw [if_pos c6, show qkN xs Ln j + 2 - 1 = qkN xs Ln j + 1 by omega] at hih
          rw [if_neg (by rw [l6, n_le (by omega) (by omega)]; omega)]
          try dsimp only
          rw [nI_1, bnd_e]
          try dsimp only
          rw [nI_1, bnd_e]
          exact hih
        · rw [if_neg c6, show qkN xs Ln j + 1 - 1 = qkN xs Ln j by omega] at hih
          rw [if_pos (by rw [l6, n_le (by omega) (by omega)]; omega)]
          try dsimp only
          rw [Int32.add_zero, bnd_e]
          try dsimp only
          rw [nI_1, bnd_e]
          exact hih
    · rw [if_neg hq0, if_neg hq0] at hih
      rw [if_pos (by rw [l0, n_le (by omega) (by omega)]; omega)]
      by_cases c6 : kN xs Ln j = 6
      · rw [if_neg (by omega), if_pos c6] at hih
        rw [if_pos (by rw [c6]; rfl)]
        try dsimp only
        rw [nI_1, bnd_e]
        exact hih
      · rw [if_neg c6] at hih
        rw [if_neg (by rw [l6, n_eq (by omega) (by omega)]; exact c6)]
        have hq00 : qkN xs Ln j = 0 := by omega
        by_cases c4 : kN xs Ln j < 4
        · rw [if_pos c4] at hih
          rw [if_neg (by rw [l4, n_le (by omega) (by omega)]; omega), value_ok hL hT1 hT h0 h1 (by omega) c4, cal1_e, n_add, bnd_e]
          try dsimp only
          rw [nI_1, bnd_e, hq00]
          exact hih
        · rw [if_neg c4] at hih
          rw [if_pos (by rw [l4, n_le (by omega) (by omega)]; omega)]
          try dsimp only
          rw [nI_1, bnd_e, hq00]
          exact hih
theorem score_ok {xs : Nat → Int32} {Ln T : Nat} (hL : Ln < 100000) (hT1 : 1 ≤ T) (hT : T ≤ 14) (h0 : mgT xs Ln T = 0) (h1 : ∀ j, j < T → 1 ≤ mgT xs Ln j) (x : Int64) : fL_score xs Ln x = some (nI (scr xs Ln T x)) := by
  rw [fL_score, tokens_ok hL hT1 hT h0 h1, cal1_e, jp_e]
  have h := score_loop hL hT1 hT h0 h1 x (fun y3 => some y3) T 0 (by omega) 1000 (by omega)
  refine Eq.trans h ?_
  have hr := run_sum h1 x T (Nat.le_refl _) (fun _ => false) (fun _ => 0)
  rw [h0, Nat.zero_sub] at hr
  have hr2 : scr xs Ln T x = nkN xs Ln x T := hr
  rw [hr2]
theorem scr_le {xs : Nat → Int32} {Ln T : Nat} (h0 : mgT xs Ln T = 0) (h1 : ∀ j, j < T → 1 ≤ mgT xs Ln j) (hT : T ≤ 14) (x : Int64) : scr xs Ln T x ≤ 196 := by
  have hr := run_sum h1 x T (Nat.le_refl _) (fun _ => false) (fun _ => 0)
  rw [h0, Nat.zero_sub] at hr
  have hr2 : scr xs Ln T x = nkN xs Ln x T := hr
  have := nk_le xs Ln x T
  omega
theorem key_ok {xs : Nat → Int32} {Ln T : Nat} (hL : Ln < 100000) (hT1 : 1 ≤ T) (hT : T ≤ 14) (h0 : mgT xs Ln T = 0) (h1 : ∀ j, j < T → 1 ≤ mgT xs Ln j) (s : Int32) (x : Int64) : fL_key xs Ln s x = some (if s = 0 then nI (scr xs Ln T x) else Int64.toInt32 x) := by
  rw [fL_key, jp_e]
  by_cases h : s = 0
  · rw [if_pos h, if_pos h, score_ok hL hT1 hT h0 h1, cal1_e]
  · rw [if_neg h, if_neg h, bnd_e]
theorem before_ok (s a i b j : Int32) : ∃ r, fL_before s a i b j = some r ∧ (r = 0 ∨ r = 1) ∧ (r = 1 ↔ qz_bh s b j a i) := by
  rw [fL_before, jp_e]
  unfold qz_bh
  have h01 : ¬ (0 : Int32) = 1 := by decide
  by_cases h1 : a = b
  · rw [if_pos h1, if_pos h1.symm]
    by_cases h2 : j ≤ i
    · rw [if_pos h2]
      exact ⟨0, zok_0, Or.inl rfl, fun h => absurd h h01, fun h => absurd h (by grind)⟩
    · rw [if_neg h2]
      exact ⟨1, zok_1, Or.inr rfl, fun _ => by grind, fun _ => rfl⟩
  · rw [if_neg h1, if_neg (show ¬ b = a from fun h => h1 h.symm)]
    by_cases h2 : s = 1
    · rw [if_pos h2, if_pos h2]
      by_cases h3 : b ≤ a
      · rw [if_pos h3]
        exact ⟨0, zok_0, Or.inl rfl, fun h => absurd h h01, fun h => absurd h (by grind)⟩
      · rw [if_neg h3]
        exact ⟨1, zok_1, Or.inr rfl, fun _ => by grind, fun _ => rfl⟩
    · rw [if_neg h2, if_neg h2]
      by_cases h3 : a ≤ b
      · rw [if_pos h3]
        exact ⟨0, zok_0, Or.inl rfl, fun h => absurd h h01, fun h => absurd h (by grind)⟩
      · rw [if_neg h3]
        exact ⟨1, zok_1, Or.inr rfl, fun _ => by grind, fun _ => rfl⟩
