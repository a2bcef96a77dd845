theorem scoreX_run {n : Nat} (hn : n ≤ 15) {k a b : Nat → Int32} (x : Int64) (hwh : whl k n 0 1 = true) (J : Int32 → (Nat → Int32) → (Nat → Int32) → Option (Int32 × (Nat → Int32) × (Nat → Int32))) (J2 : (Nat → Int32) → (Nat → Int32) → Option (Int32 × (Nat → Int32) × (Nat → Int32))) (m s : Nat → Int32)
    (hJ : ∀ m' s' : Nat → Int32, m' 0 = qz_b (qz_run k a b x n 0 (fun _ => false) (fun _ => 0)).1 → s' 0 = nI (qz_run k a b x n 0 (fun _ => false) (fun _ => 0)).2 → J (nI 1) m' s' = some (qz_val k a b n x, m', s')) :
    ∃ m' s', lo4 (sX4_scoreOf_15 J k J2 a b x) 1000 0 (nI n - 1) m s = some (qz_val k a b n x, m', s') := by
  obtain ⟨hw, h0⟩ := qz_wt_of n 0 hwh
  rw [Nat.zero_add] at h0
  have hn1 : 1 ≤ n := by
    by_cases e : n = 0
    · subst e; exact absurd (show (1 : Nat) = 0 from h0) (by decide)
    · omega
  obtain ⟨m', s', e, hv⟩ := scoreX_loop hn x (fun j hj => hw j (by omega) (by omega)) h0 J J2 n (Nat.le_refl n) 1000 (by omega) (fun _ => false) (fun _ => 0) m s (fun i hi => by omega)
  obtain ⟨v1, v2⟩ := hv hn1
  rw [h0] at e v1 v2
  exact ⟨m', s', Eq.trans (lo4_at e rfl rfl) (hJ m' s' v1 v2)⟩
theorem scoreOf_ok {n : Nat} (hn : n ≤ 15) {k a b : Nat → Int32} (x : Int64) (hwh : whl k n 0 1 = true) (m s : Nat → Int32) : ∃ m' s', fX4_scoreOf (nI n) k a b m s x = some (qz_val k a b n x, m', s') := by
  rw [fX4_scoreOf, if_neg (by rw [l15, n_lt (by omega) (by omega)]; omega), bnd_e, bnd_e, jp_e]
  try dsimp only
  rw [jp_e]
  try dsimp only
  refine scoreX_run hn x hwh _ _ m s (fun m' s' h1 h2 => ?_)
  simp only [jp_e]
  rw [if_pos (show nI 1 = 1 from rfl), rdI_0 (by omega) (by omega), h1]
  unfold qz_val
  by_cases hv : (qz_run k a b x n 0 (fun _ => false) (fun _ => 0)).1 = true
  · rw [hv, if_neg (by decide), if_pos rfl, rdI_0 (by omega) (by omega), h2]
  · rw [if_pos ((qz_b0 _).mpr (Bool.eq_false_iff.mpr hv)), if_neg hv]
/-- the score of each id -/
def qz_sc (rk : Nat → Int32) (ro : Nat → Int64) (k a b : Nat → Int32) (n i : Nat) : Int32 := if rk i = 1 then qz_val k a b n (ro i) else -1
theorem qz_sc_or (rk : Nat → Int32) (ro : Nat → Int64) (k a b : Nat → Int32) {n : Nat} (hn : n ≤ 15) (i : Nat) : qz_sc rk ro k a b n i = -1 ∨ 0 ≤ qz_sc rk ro k a b n i := by
  unfold qz_sc
  split
  · exact qz_val_or k a b hn (ro i)
  · exact Or.inl rfl
theorem qz_sc_rk {rk : Nat → Int32} {ro : Nat → Int64} {k a b : Nat → Int32} {n i : Nat} (h : 0 ≤ qz_sc rk ro k a b n i) : rk i = 1 := by
  unfold qz_sc at h
  by_cases e : rk i = 1
  · exact e
  · rw [if_neg e] at h; exact absurd h (by decide)
theorem scoreAll_loop {n : Nat} (hn : n ≤ 15) {k a b : Nat → Int32} (hwh : whl k n 0 1 = true) (rk : Nat → Int32) (ro : Nat → Int64) (J : (Nat → Int32) → (Nat → Int32) → (Nat → Int32) → Option ((Nat → Int32) × (Nat → Int32) × (Nat → Int32))) :
    ∀ (m i : Nat), i + m = 16 → ∀ (f : Nat), m < f → ∀ (w1 w2 w3 : Nat → Int32), (∀ j, j < i → w3 j = qz_sc rk ro k a b n j) →
      ∃ w1' w2' w3', lo4 (sX5_scoreAll_2 J rk ro (nI n) k a b) f (nI i) w1 w2 w3 = J w1' w2' w3' ∧ ∀ j, j < 16 → w3' j = qz_sc rk ro k a b n j := by
  intro m
  induction m with
  | zero =>
    intro i hi f hf w1 w2 w3 hw
    obtain ⟨f, rfl⟩ : ∃ z, f = z + 1 := ⟨f - 1, by omega⟩
    refine ⟨w1, w2, w3, ?_, fun j hj => hw j (by omega)⟩
    rw [lo4_s, sX5_scoreAll_2, if_pos (by rw [l16, n_le (by omega) (by omega)]; omega)]
  | succ m ih =>
    intro i hi f hf w1 w2 w3 hw
    obtain ⟨f, rfl⟩ : ∃ z, f = z + 1 := ⟨f - 1, by omega⟩
    have hS : ∀ v, v = qz_sc rk ro k a b n i → ∀ j, j < i + 1 → upd w3 i v j = qz_sc rk ro k a b n j := by
      intro v hv j hj
      by_cases e : j = i
      · subst e; rw [upd_s, hv]
      · rw [upd_o _ _ e]; exact hw j (by omega)
    rw [lo4_s, sX5_scoreAll_2, if_neg (by rw [l16, n_le (by omega) (by omega)]; omega), isDocument_ok rk (by omega), cal1_e, jp_e]
    try dsimp only
    by_cases e : rk i = 1
    · obtain ⟨m', s', es⟩ := scoreOf_ok hn (a := a) (b := b) (ro i) hwh w1 w2
      obtain ⟨w1', w2', w3', g1, g2⟩ := ih (i + 1) (by omega) f (by omega) m' s' (upd w3 i (qz_val k a b n (ro i))) (hS _ (by unfold qz_sc; rw [if_pos e]))
      refine ⟨w1', w2', w3', ?_, g2⟩
      rw [if_pos e, if_neg (by decide), sourceOf_ok ro (by omega), cal1_e, es, cal3_e, wrI_n (by omega) (by omega), nI_1 i, bnd_e, g1]
    · obtain ⟨w1', w2', w3', g1, g2⟩ := ih (i + 1) (by omega) f (by omega) w1 w2 (upd w3 i (-1)) (hS _ (by unfold qz_sc; rw [if_neg e]))
      refine ⟨w1', w2', w3', ?_, g2⟩
      rw [if_neg e, if_pos rfl, wrI_n (by omega) (by omega), nI_1 i, bnd_e, g1]
theorem lo4_c {α γ δ ε β : Type} {s : (α → γ → δ → ε → Option β) → α → γ → δ → ε → Option β} {f : Nat} {x x' : α} {y : γ} {w : δ} {v : ε} {r : Option β} (h : lo4 s f x y w v = r) (hx : x' = x) : lo4 s f x' y w v = r := by rw [hx]; exact h
theorem scoreAll_ok {n : Nat} (hn : n ≤ 15) {k a b : Nat → Int32} (hwh : whl k n 0 1 = true) (rk : Nat → Int32) (ro : Nat → Int64) (m s c : Nat → Int32) :
    ∃ m' s' c', fX5_scoreAll rk ro (nI n) k a b m s c = some (m', s', c') ∧ ∀ j, j < 16 → c' j = qz_sc rk ro k a b n j := by
  rw [fX5_scoreAll, jp_e]
  try dsimp only
  obtain ⟨w1, w2, w3, g1, g2⟩ := scoreAll_loop hn hwh rk ro (a := a) (b := b) (fun (w1 : Nat → Int32) (w2 : Nat → Int32) (w3 : Nat → Int32) => (some (w1, w2, w3))) 16 0 rfl 1000 (by omega) m s c (fun j hj => by omega)
  exact ⟨w1, w2, w3, lo4_c g1 rfl, g2⟩

