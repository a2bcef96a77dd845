/-! the value of a query on a source: a stack machine from the last token to the first -/
def qz_b (b : Bool) : Int32 := if b = true then 1 else 0
theorem qz_b01 (b : Bool) : qz_b b = 0 ∨ qz_b b = 1 := by cases b; exact Or.inl rfl; exact Or.inr rfl
theorem qz_b0 (b : Bool) : qz_b b = 0 ↔ b = false := by cases b <;> decide
def qz_fs {α : Type} (f : Nat → α) (i : Nat) (v : α) : Nat → α := fun j => if j = i then v else f j
theorem qz_fs_s {α : Type} (f : Nat → α) (i : Nat) (v : α) : qz_fs f i v i = v := if_pos rfl
theorem qz_fs_o {α : Type} (f : Nat → α) {i j : Nat} (v : α) (h : j ≠ i) : qz_fs f i v j = f j := if_neg h
def qz_run (k a b : Nat → Int32) (x : Int64) : Nat → Nat → (Nat → Bool) → (Nat → Nat) → Bool × Nat
  | 0, _, h, p => (h 0, p 0)
  | j + 1, t, h, p =>
    if k j = 4 ∨ k j = 5 then qz_run k a b x j (t - 1) (qz_fs h (t - 2) (if k j = 4 then h (t - 2) && h (t - 1) else h (t - 2) || h (t - 1))) (qz_fs p (t - 2) (p (t - 2) + p (t - 1)))
    else if k j = 6 then qz_run k a b x j t (qz_fs h (t - 1) (!(h (t - 1)))) (qz_fs p (t - 1) 0)
    else qz_run k a b x j (t + 1) (qz_fs h t (decide (0 < qz_lf (k j) (a j) (b j) x))) (qz_fs p t (qz_lf (k j) (a j) (b j) x))
theorem qz_run_le (k a b : Nat → Int32) (x : Int64) : ∀ (j t : Nat) (h : Nat → Bool) (p : Nat → Nat) (B : Nat), 14 ≤ B → (∀ i, p i ≤ B) → (qz_run k a b x j t h p).2 ≤ 2 ^ j * B := by
  intro j
  induction j with
  | zero => intro t h p B hB hp; show p 0 ≤ 2 ^ 0 * B; rw [Nat.pow_zero, Nat.one_mul]; exact hp 0
  | succ j ih =>
    intro t h p B hB hp
    have e : 2 ^ (j + 1) * B = 2 ^ j * (2 * B) := by rw [Nat.pow_succ, Nat.mul_assoc]
    rw [e]
    have hl := qz_lf_le (k j) (a j) (b j) x
    unfold qz_run
    split
    · refine ih _ _ _ _ (by omega) (fun i => ?_)
      unfold qz_fs
      have h1 := hp (t - 2)
      have h2 := hp (t - 1)
      have h3 := hp i
      split <;> omega
    · split
      · refine ih _ _ _ _ (by omega) (fun i => ?_)
        unfold qz_fs
        have h3 := hp i
        split <;> omega
      · refine ih _ _ _ _ (by omega) (fun i => ?_)
        unfold qz_fs
        have h3 := hp i
        split <;> omega
/-- the score of a document with this source, -1 if it doesn't match -/
def qz_val (k a b : Nat → Int32) (n : Nat) (x : Int64) : Int32 := if (qz_run k a b x n 0 (fun _ => false) (fun _ => 0)).1 = true then nI (qz_run k a b x n 0 (fun _ => false) (fun _ => 0)).2 else -1
theorem qz_val_or (k a b : Nat → Int32) {n : Nat} (hn : n ≤ 15) (x : Int64) : qz_val k a b n x = -1 ∨ 0 ≤ qz_val k a b n x := by
  have h := qz_run_le k a b x n 0 (fun _ => false) (fun _ => 0) 14 (by omega) (fun _ => by omega)
  have h2 : 2 ^ n ≤ 2 ^ 15 := Nat.pow_le_pow_right (by decide) hn
  unfold qz_val
  split
  · right
    rw [l0, n_le (by omega) (by omega)]
    omega
  · left; rfl
/-- how many queries are wanted before a token -/
def qz_wt (k : Nat → Int32) : Nat → Nat
  | 0 => 1
  | i + 1 => qz_wt k i + opn (k i) - 1
theorem qz_wt_of {k : Nat → Int32} : ∀ (m i : Nat), whl k m i (qz_wt k i) = true → (∀ j, i ≤ j → j < i + m → 1 ≤ qz_wt k j) ∧ qz_wt k (i + m) = 0 := by
  intro m
  induction m with
  | zero =>
    intro i h
    unfold whl at h
    exact ⟨fun j h1 h2 => by omega, of_decide_eq_true h⟩
  | succ m ih =>
    intro i h
    unfold whl at h
    by_cases h0 : qz_wt k i = 0
    · rw [if_pos h0] at h; cases h
    · rw [if_neg h0] at h
      obtain ⟨h1, h2⟩ := ih (i + 1) h
      refine ⟨fun j h3 h4 => ?_, by rw [← h2]; congr 1; omega⟩
      by_cases e : j = i
      · subst e; omega
      · exact h1 j (by omega) (by omega)
theorem qz_wt_le {k : Nat → Int32} {n : Nat} (hw : ∀ j, j < n → 1 ≤ qz_wt k j) (h0 : qz_wt k n = 0) : ∀ (m i : Nat), i + m = n → qz_wt k i ≤ m := by
  intro m
  induction m with
  | zero => intro i hi; rw [show i = n by omega, h0]; exact Nat.le_refl _
  | succ m ih =>
    intro i hi
    have h1 := ih (i + 1) (by omega)
    have h2 : qz_wt k (i + 1) = qz_wt k i + opn (k i) - 1 := rfl
    omega
def qz_rel (t : Nat) (h : Nat → Bool) (p : Nat → Nat) (m s : Nat → Int32) : Prop := ∀ i, i < t → m i = qz_b (h i) ∧ s i = nI (p i)
theorem qz_rel_upd {T i : Nat} {h : Nat → Bool} {p : Nat → Nat} {m s : Nat → Int32} (v : Bool) (q : Nat) (hr : ∀ l, l < T → l ≠ i → m l = qz_b (h l) ∧ s l = nI (p l)) : qz_rel T (qz_fs h i v) (qz_fs p i q) (upd m i (qz_b v)) (upd s i (nI q)) := by
  intro l hl
  by_cases e : l = i
  · subst e; rw [upd_s, upd_s, qz_fs_s, qz_fs_s]; exact ⟨rfl, rfl⟩
  · rw [upd_o _ _ e, upd_o _ _ e, qz_fs_o _ _ e, qz_fs_o _ _ e]; exact hr l hl e
theorem openLeaf_ok {i p : Nat} (hi : i < 15) (hp : p < 15) (k a b m s : Nat → Int32) (x : Int64) : fX4_openLeaf k a b m s (nI i) (nI p) x = some (upd m p (qz_b (decide (0 < qz_lf (k i) (a i) (b i) x))), upd s p (nI (qz_lf (k i) (a i) (b i) x))) := by
  have hl := qz_lf_le (k i) (a i) (b i) x
  rw [fX4_openLeaf, rdI_n hi (by omega), rdI_n hi (by omega), rdI_n hi (by omega), leafScore_ok, cal1_e, wrI_n hp (by omega), jp_e]
  try dsimp only
  by_cases h : 0 < qz_lf (k i) (a i) (b i) x
  · rw [if_neg (by rw [l0, n_le (by omega) (by omega)]; omega), wrZ_n hp (by omega) (Or.inr rfl), decide_eq_true h]; rfl
  · rw [if_pos (by rw [l0, n_le (by omega) (by omega)]; omega), wrZ_n hp (by omega) (Or.inl rfl), decide_eq_false h]; rfl
theorem joinNot_ok {p : Nat} (hp : p < 15) {m s : Nat → Int32} {h : Bool} (hm : m p = qz_b h) : fX4_joinOpen m s 6 (nI p) = some (upd m p (qz_b (!h)), upd s p (nI 0)) := by
  rw [fX4_joinOpen, if_pos rfl, rdI_n hp (by omega), jp_e]
  try dsimp only
  rw [hm]
  cases h
  · rw [if_pos (show qz_b false = 0 from rfl), wrZ_n hp (by omega) (Or.inr rfl), wrI_n hp (by omega)]; rfl
  · rw [if_neg (by decide), wrZ_n hp (by omega) (Or.inl rfl), wrI_n hp (by omega)]; rfl
theorem joinBin_ok {k : Int32} (hk : k = 4 ∨ k = 5) {p : Nat} (hp : p + 1 < 15) {m s : Nat → Int32} {h1 h2 : Bool} {q1 q2 : Nat} (hm1 : m p = qz_b h1) (hm2 : m (p + 1) = qz_b h2) (hs1 : s p = nI q1) (hs2 : s (p + 1) = nI q2) :
    fX4_joinOpen m s k (nI p) = some (upd m p (qz_b (if k = 4 then h1 && h2 else h1 || h2)), upd s p (nI (q1 + q2))) := by
  have h6 : ¬ k = 6 := by rcases hk with rfl | rfl <;> decide
  rw [fX4_joinOpen, if_neg h6, nI_1 p, bnd_e, if_pos (by rw [l15, n_lt (by omega) (by omega)]; omega), rdI_n (by omega) (by omega), bnd_e, rdI_n (by omega) (by omega), hm1, hm2]
  simp only [jp_e, bnd_e]
  have hw : ∀ v : Int32, v = 0 ∨ v = 1 → (wrZ m 15 (nI p) v fun g6 => rdI s 15 (nI p) fun z7 => rdI s 15 (nI (p + 1)) fun z9 => wrI s 15 (nI p) (z7 + z9) fun g11 => some (g6, g11)) = some (upd m p v, upd s p (nI (q1 + q2))) := by
    intro v hv
    rw [wrZ_n (by omega) (by omega) hv, rdI_n (by omega) (by omega), rdI_n (by omega) (by omega), hs1, hs2, n_add, wrI_n (by omega) (by omega)]
  rw [hw 0 (Or.inl rfl), hw 1 (Or.inr rfl)]
  rcases hk with rfl | rfl
  · rw [if_pos rfl, if_pos rfl]
    cases h1 <;> cases h2 <;> rfl
  · rw [if_neg (show ¬ (5 : Int32) = 4 from by decide), if_neg (show ¬ (5 : Int32) = 4 from by decide)]
    cases h1 <;> cases h2 <;> rfl
theorem m_minus (j : Nat) : mI (j + 1) + (-1) = mI j := by
  rw [m_of]
  show nI j + (-1) = nI j - 1
  rw [Int32.sub_eq_add_neg]
theorem scoreX_loop {n : Nat} (hn : n ≤ 15) {k a b : Nat → Int32} (x : Int64) (hw : ∀ j, j < n → 1 ≤ qz_wt k j) (h0 : qz_wt k n = 0) (J : Int32 → (Nat → Int32) → (Nat → Int32) → Option (Int32 × (Nat → Int32) × (Nat → Int32))) (J2 : (Nat → Int32) → (Nat → Int32) → Option (Int32 × (Nat → Int32) × (Nat → Int32))) :
    ∀ (j : Nat), j ≤ n → ∀ (f : Nat), j < f → ∀ (h : Nat → Bool) (p : Nat → Nat) (m s : Nat → Int32), qz_rel (qz_wt k j) h p m s →
      ∃ m' s', lo4 (sX4_scoreOf_15 J k J2 a b x) f (nI (qz_wt k j)) (mI j) m s = J (nI (qz_wt k 0)) m' s' ∧ (1 ≤ n → m' 0 = qz_b (qz_run k a b x j (qz_wt k j) h p).1 ∧ s' 0 = nI (qz_run k a b x j (qz_wt k j) h p).2) := by
  intro j
  induction j with
  | zero =>
    intro hj f hf h p m s hr
    obtain ⟨f, rfl⟩ : ∃ z, f = z + 1 := ⟨f - 1, by omega⟩
    refine ⟨m, s, ?_, fun h1 => hr 0 (hw 0 h1)⟩
    rw [lo4_s, sX4_scoreOf_15, if_pos (by rw [l0, mn_lt (by omega) (by omega)]; omega)]
  | succ j ih =>
    intro hj f hf h p m s hr
    obtain ⟨f, rfl⟩ : ∃ z, f = z + 1 := ⟨f - 1, by omega⟩
    have e1 : qz_wt k (j + 1) = qz_wt k j + opn (k j) - 1 := rfl
    have e2 := hw j (by omega)
    have e3 := qz_wt_le hw h0 (n - j) j (by omega)
    have e4 := opn_le (k j)
    have e5 := qz_wt_le hw h0 (n - (j + 1)) (j + 1) (by omega)
    generalize ht : qz_wt k (j + 1) = t at *
    rw [lo4_s, sX4_scoreOf_15, if_neg (by rw [m_of, l0, n_lt (by omega) (by omega)]; omega)]
    rw [show mI (j + 1) = nI j from m_of j, rdI_n (by omega) (by omega), operands_ok, cal1_e, if_neg (by rw [n_lt (by omega) (by omega)]; omega), n_sub (by omega), bnd_e, if_pos (by rw [l15, n_lt (by omega) (by omega)]; omega), bnd_e, nI_1, bnd_e, jp_e]
    try dsimp only
    have eM : nI j + (-1) = mI j := by rw [← m_of j]; exact m_minus j
    rw [eM]
    simp only [bnd_e]
    unfold qz_run
    by_cases hb : k j = 4 ∨ k j = 5
    · have eo : opn (k j) = 2 := by unfold opn; rw [if_pos hb]
      rw [eo] at e1 ⊢
      rw [if_neg (by decide), rdI_n (by omega) (by omega), m_pred, joinBin_ok hb (p := t - 2) (by omega) (hr (t - 2) (by omega)).1 (show m (t - 2 + 1) = qz_b (h (t - 1)) from by rw [show t - 2 + 1 = t - 1 by omega]; exact (hr (t - 1) (by omega)).1) (hr (t - 2) (by omega)).2 (show s (t - 2 + 1) = nI (p (t - 1)) from by rw [show t - 2 + 1 = t - 1 by omega]; exact (hr (t - 1) (by omega)).2), cal2_e, if_pos hb]
      rw [show t - 2 + 1 = qz_wt k j by omega]
      have := ih (by omega) f (by omega) (qz_fs h (t - 2) (if k j = 4 then h (t - 2) && h (t - 1) else h (t - 2) || h (t - 1))) (qz_fs p (t - 2) (p (t - 2) + p (t - 1))) _ _ (qz_rel_upd _ _ (fun l hl hn => hr l (by omega)))
      rw [show t - 1 = qz_wt k j by omega] at this ⊢
      exact this
    · rw [if_neg hb]
      by_cases h6 : k j = 6
      · have eo : opn (k j) = 1 := by unfold opn; rw [if_neg hb, if_pos h6]
        rw [eo] at e1 ⊢
        rw [if_neg (by decide), rdI_n (by omega) (by omega), m_pred, h6, joinNot_ok (p := t - 1) (by omega) (hr (t - 1) (by omega)).1, cal2_e, if_pos rfl]
        rw [show t - 1 + 1 = qz_wt k j by omega]
        have := ih (by omega) f (by omega) (qz_fs h (t - 1) (!(h (t - 1)))) (qz_fs p (t - 1) 0) _ _ (qz_rel_upd _ _ (fun l hl hn => hr l (by omega)))
        rw [show qz_wt k j = t by omega] at this ⊢
        exact this
      · have eo : opn (k j) = 0 := by unfold opn; rw [if_neg hb, if_neg h6]
        rw [eo] at e1 ⊢
        rw [if_pos (show nI 0 = 0 from rfl), m_pred, openLeaf_ok (by omega) (by omega), cal2_e, if_neg h6, show t - 0 + 1 = qz_wt k j by omega, show t - 0 = t from rfl]
        have := ih (by omega) f (by omega) (qz_fs h t (decide (0 < qz_lf (k j) (a j) (b j) x))) (qz_fs p t (qz_lf (k j) (a j) (b j) x)) _ _ (qz_rel_upd _ _ (fun l hl hn => hr l (by omega)))
        rw [show qz_wt k j = t + 1 by omega] at this ⊢
        exact this
theorem n_m1 {t : Nat} (h : 1 ≤ t) : nI t - 1 = nI (t - 1) := by rw [l1, n_sub h]
theorem n_p1 {t : Nat} (h : 1 ≤ t) : nI t + (-1) = nI (t - 1) := by rw [← n_m1 h, Int32.sub_eq_add_neg]
theorem rdI_0 {β : Type} {f : Nat → Int32} {n : Nat} {k : Int32 → Option β} (h : 0 < n) (hn : n < 2147483648) : rdI f n 0 k = k (f 0) := rdI_n (i := 0) h hn
theorem lo4_at {γ δ β : Type} {s : (Int32 → Int32 → γ → δ → Option β) → Int32 → Int32 → γ → δ → Option β} {f : Nat} {x y x' y' : Int32} {w : γ} {v : δ} {r : Option β} (h : lo4 s f x y w v = r) (hx : x' = x) (hy : y' = y) : lo4 s f x' y' w v = r := by rw [hx, hy]; exact h
