/-! the law's checks of the answers about a query -/
section ANS
variable {xs : Nat → Int32} {Ln T : Nat} {k s v rk rs qk qa qb : Nat → Int32} {o ro : Nat → Int64}
theorem ans4_loop (hL : Ln < 100000) (hT1 : 1 ≤ T) (hT : T ≤ 14) (h0 : mgT xs Ln T = 0) (h1 : ∀ j, j < T → 1 ≤ mgT xs Ln j) (hv : VIS k o rk ro) (J41 : Int32 → Option (Int32 × (Nat → Int32) × (Nat → Int32) × (Nat → Int32))) :
    ∀ (m i : Nat), i + m = 8 → ∀ (f : Nat), m < f → lo2 (sL_answers_4 J41 k s v rk rs 0 o xs Ln) f (nI (qz_ct (fun j => 0 ≤ lsc xs Ln T k o j) i)) (nI i) = J41 (nI (qz_ct (fun j => 0 ≤ lsc xs Ln T k o j) 8)) := by
  intro m
  induction m with
  | zero =>
    intro i hi f hf
    obtain ⟨f, rfl⟩ : ∃ z, f = z + 1 := ⟨f - 1, by omega⟩
    obtain rfl : i = 8 := by omega
    rw [lo2_s, sL_answers_4, if_pos (by rw [l8, n_le (by omega) (by omega)]; omega)]
  | succ m ih =>
    intro i hi f hf
    obtain ⟨f, rfl⟩ : ∃ z, f = z + 1 := ⟨f - 1, by omega⟩
    have hih := ih (i + 1) (by omega) f (by omega)
    have hi16 : i < 16 := by omega
    have hvi := (hv i hi16).1
    have hp := lsc_p (k := k) (o := o) h0 h1 hT i
    rw [lo2_s, sL_answers_4, if_neg (by rw [l8, n_le (by omega) (by omega)]; omega), known3 _ _ _ _ _ hi16, cal1_e, jp_e]
    by_cases hk : k i = 1
    · rw [if_pos (hvi.mpr hk), if_pos rfl, getU _ hi16, cal1_e, matches_ok hL hT1 hT h0 h1, cal1_e]
      by_cases hm : mtc xs Ln T (o i) = true
      · rw [if_pos hm, if_neg (by decide), bnd_e]
        try dsimp only
        rw [bnd_e, nI_1, nI_1, ← ct_y (P := fun j => 0 ≤ lsc xs Ln T k o j) (hp.mpr ⟨hk, hm⟩)]
        exact hih
      · rw [if_neg hm, if_pos rfl]
        try dsimp only
        rw [bnd_e, nI_1, ← ct_n (P := fun j => 0 ≤ lsc xs Ln T k o j) (fun h => hm (hp.mp h).2)]
        exact hih
    · rw [if_neg (fun h => hk (hvi.mp h)), if_neg (by decide)]
      try dsimp only
      rw [bnd_e, nI_1, ← ct_n (P := fun j => 0 ≤ lsc xs Ln T k o j) (fun h => hk (hp.mp h).1)]
      exact hih
theorem ky_ok (hv : VIS k o rk ro) {i : Nat} (hi : i < 16) (hm : k i = 1 ∧ mtc xs Ln T (o i) = true) (x0 : Int32) : qz_ky x0 (lsc xs Ln T k o) ro i = if x0 = 0 then nI (scr xs Ln T (o i)) else Int64.toInt32 (o i) := by
  unfold qz_ky
  rw [(hv i hi).2]
  by_cases h : x0 = 0
  · rw [if_pos h, if_pos h]; exact if_pos hm
  · rw [if_neg h, if_neg h]
theorem rank_loop (hL : Ln < 100000) (hT1 : 1 ≤ T) (hT : T ≤ 14) (h0 : mgT xs Ln T = 0) (h1 : ∀ j, j < T → 1 ≤ mgT xs Ln j) (hv : VIS k o rk ro) {id : Nat} (x0 own : Int32) (hown : own = qz_ky x0 (lsc xs Ln T k o) ro id) (J228 : Int32 → Option (Int32 × (Nat → Int32) × (Nat → Int32) × (Nat → Int32))) :
    ∀ (m i : Nat), i + m = 8 → ∀ (f : Nat), m < f → lo2 (sL_answers_164 J228 k s v rk rs 0 o xs Ln x0 own (nI id)) f (nI (qz_ct (qz_pb x0 (lsc xs Ln T k o) ro id) i)) (nI i) = J228 (nI (qz_ct (qz_pb x0 (lsc xs Ln T k o) ro id) 8)) := by
  intro m
  induction m with
  | zero =>
    intro i hi f hf
    obtain ⟨f, rfl⟩ : ∃ z, f = z + 1 := ⟨f - 1, by omega⟩
    obtain rfl : i = 8 := by omega
    rw [lo2_s, sL_answers_164, if_pos (by rw [l8, n_le (by omega) (by omega)]; omega)]
  | succ m ih =>
    intro i hi f hf
    obtain ⟨f, rfl⟩ : ∃ z, f = z + 1 := ⟨f - 1, by omega⟩
    have hih := ih (i + 1) (by omega) f (by omega)
    have hi16 : i < 16 := by omega
    have hvi := (hv i hi16).1
    have hp := lsc_p (k := k) (o := o) h0 h1 hT i
    rw [lo2_s, sL_answers_164, if_neg (by rw [l8, n_le (by omega) (by omega)]; omega), known3 _ _ _ _ _ hi16, cal1_e, jp_e]
    by_cases hk : k i = 1
    · rw [if_pos (hvi.mpr hk), if_pos rfl, getU _ hi16, cal1_e, matches_ok hL hT1 hT h0 h1, cal1_e]
      by_cases hm : mtc xs Ln T (o i) = true
      · obtain ⟨r, e1, e2, e3⟩ := before_ok x0 (qz_ky x0 (lsc xs Ln T k o) ro i) (nI i) own (nI id)
        rw [if_pos hm, if_neg (by decide), cal1_e, key_ok hL hT1 hT h0 h1, cal1_e, ← ky_ok hv hi16 ⟨hk, hm⟩ x0, e1, cal1_e]
        by_cases hr : r = 1
        · have hpb : qz_pb x0 (lsc xs Ln T k o) ro id i := ⟨hp.mpr ⟨hk, hm⟩, by rw [← hown]; exact e3.mp hr⟩
          rw [hr, if_neg (by decide), bnd_e]
          try dsimp only
          rw [bnd_e, nI_1, nI_1, ← ct_y (P := qz_pb x0 (lsc xs Ln T k o) ro id) hpb]
          exact hih
        · have hpb : ¬ qz_pb x0 (lsc xs Ln T k o) ro id i := fun h => hr (e3.mpr (by have := h.2; rw [← hown] at this; exact this))
          rw [e2.resolve_right hr, if_pos rfl]
          try dsimp only
          rw [bnd_e, nI_1, ← ct_n (P := qz_pb x0 (lsc xs Ln T k o) ro id) hpb]
          exact hih
      · rw [if_neg hm, if_pos rfl]
        try dsimp only
        rw [bnd_e, nI_1, ← ct_n (P := qz_pb x0 (lsc xs Ln T k o) ro id) (fun h => hm (hp.mp h.1).2)]
        exact hih
    · rw [if_neg (fun h => hk (hvi.mp h)), if_neg (by decide)]
      try dsimp only
      rw [bnd_e, nI_1, ← ct_n (P := qz_pb x0 (lsc xs Ln T k o) ro id) (fun h => hk (hp.mp h.1).1)]
      exact hih
theorem id_loop (hL : Ln < 100000) (hT1 : 1 ≤ T) (hT : T ≤ 14) (h0 : mgT xs Ln T = 0) (h1 : ∀ j, j < T → 1 ≤ mgT xs Ln j) (hv : VIS k o rk ro) (hq : QRL xs Ln T qk qa qb) (hk8 : ∀ i, 8 ≤ i → i < 16 → ¬ k i = 1) {x0 : Int32} (hx0 : 0 ≤ x0 ∧ x0 ≤ 2) (J285 J277 : (Nat → Int32) → (Nat → Int32) → (Nat → Int32) → Option (Int32 × (Nat → Int32) × (Nat → Int32) × (Nat → Int32))) :
    ∀ (d i : Nat), i + d = 8 → ∀ (f : Nat), d < f → ∀ (m w c : Nat → Int32), ∃ m' w' c', lo4 (sL_answers_73 J285 o 0 k s v rk rs ro (nI T) qk qa qb xs Ln x0 J277) f (nI i) m w c = J285 m' w' c' := by
  intro d
  induction d with
  | zero =>
    intro i hi f hf m w c
    obtain ⟨f, rfl⟩ : ∃ z, f = z + 1 := ⟨f - 1, by omega⟩
    refine ⟨m, w, c, ?_⟩
    rw [lo4_s, sL_answers_73, if_pos (by rw [l8, n_le (by omega) (by omega)]; omega)]
  | succ d ih =>
    intro i hi f hf m w c
    obtain ⟨f, rfl⟩ : ∃ z, f = z + 1 := ⟨f - 1, by omega⟩
    have hi16 : i < 16 := by omega
    have hvi := (hv i hi16).1
    have hp := lsc_p (k := k) (o := o) h0 h1 hT i
    obtain ⟨m1, w1, c1, e1⟩ := scoreN hT h0 h1 hq hv hi16 m w c
    rw [lo4_s, sL_answers_73, if_neg (by rw [l8, n_le (by omega) (by omega)]; omega), getU _ hi16, cal1_e, known3 _ _ _ _ _ hi16, cal1_e, jp_e, jp_e]
    by_cases hm : k i = 1 ∧ mtc xs Ln T (o i) = true
    · have hs := hp.mpr hm
      have hl : lsc xs Ln T k o i = nI (scr xs Ln T (o i)) := if_pos hm
      have h8 : ∀ (P : Nat → Prop), (∀ j, P j → 0 ≤ lsc xs Ln T k o j) → qz_ct P 16 = qz_ct P 8 := fun P hP => ct_ext (by omega) (fun j a b hj => hk8 j a b ((lsc_p (k := k) (o := o) h0 h1 hT j).mp (hP j hj)).1)
      obtain ⟨R, hR⟩ : ∃ R, R = qz_ct (qz_pb x0 (lsc xs Ln T k o) ro i) 16 := ⟨_, rfl⟩
      have hR8 := h8 (qz_pb x0 (lsc xs Ln T k o) ro i) (fun j h => h.1)
      have hRle := ct_le (qz_pb x0 (lsc xs Ln T k o) ro i) 16
      obtain ⟨m2, w2, c2, e2⟩ := hitN hT h0 h1 hq hv hx0 R (by omega) m1 w1 c1
      obtain ⟨m3, w3, c3, e3⟩ := afterN hT h0 h1 hq hv hx0 (qz_ky x0 (lsc xs Ln T k o) ro i) (nI i) m2 w2 c2
      obtain ⟨m4, w4, c4, e4⟩ := hitN hT h0 h1 hq hv hx0 (R + 1) (by omega) m3 w3 c3
      obtain ⟨m5, w5, c5, e5⟩ := afterN hT h0 h1 hq hv hx0 (qz_ky x0 (lsc xs Ln T k o) ro i) (mI i) m4 w4 c4
      obtain ⟨m6, w6, c6, e6⟩ := ih (i + 1) (by omega) f (by omega) m5 w5 c5
      have hpk : qz_pk x0 (lsc xs Ln T k o) ro (nI R) i := ⟨hs, by rw [hR]⟩
      have hls : qz_ls (qz_pk x0 (lsc xs Ln T k o) ro (nI R)) 16 = nI i := ls_of hi16 hpk (fun j hj hpj => pk_uni hj hi16 hpj hpk)
      have hsr := succ_rank (s := x0) (ro := ro) hi16 hs
      rw [← hR] at hsr
      have hsa := self_after (s := x0) (ro := ro) hi16 hs
      have hrl := fun J => rank_loop (s := s) (v := v) (rs := rs) hL hT1 hT h0 h1 hv (id := i) x0 _ rfl J 8 0 rfl 1000 (by omega)
      refine ⟨m6, w6, c6, ?_⟩
      rw [if_pos (hvi.mpr hm.1), if_pos rfl, matches_ok hL hT1 hT h0 h1, cal1_e, if_pos hm.2, if_neg (by decide)]
      try dsimp only
      rw [e1, cal4_e, jp_e, if_neg (by decide), score_ok hL hT1 hT h0 h1, cal1_e]
      try dsimp only
      rw [if_pos hl, jp_e, if_neg (by decide), key_ok hL hT1 hT h0 h1, cal1_e, ← ky_ok hv hi16 hm x0, jp_e]
      refine Eq.trans (hrl _) ?_
      rw [← hR8, ← hR]
      try dsimp only
      rw [e2, cal4_e, if_pos hls, e3, cal4_e, nI_1, bnd_e, e4, cal4_e, if_pos hsr, bnd_e, show nI i - 1 = mI i from rfl, e5, cal4_e, if_pos hsa, nI_1, bnd_e]
      exact e6
    · have hl : lsc xs Ln T k o i = -1 := if_neg hm
      obtain ⟨m6, w6, c6, e6⟩ := ih (i + 1) (by omega) f (by omega) m1 w1 c1
      refine ⟨m6, w6, c6, ?_⟩
      by_cases hk : k i = 1
      · rw [if_pos (hvi.mpr hk), if_pos rfl, matches_ok hL hT1 hT h0 h1, cal1_e, if_neg (fun h => hm ⟨hk, h⟩), if_pos rfl]
        try dsimp only
        rw [e1, cal4_e, jp_e, if_pos rfl]
        try dsimp only
        rw [if_pos hl, jp_e, if_pos rfl]
        try dsimp only
        rw [nI_1, bnd_e]
        exact e6
      · rw [if_neg (fun h => hk (hvi.mp h)), if_neg (by decide)]
        try dsimp only
        rw [e1, cal4_e, jp_e, if_pos rfl]
        try dsimp only
        rw [if_pos hl, jp_e, if_pos rfl]
        try dsimp only
        rw [nI_1, bnd_e]
        exact e6
theorem sort_loop (hL : Ln < 100000) (hT1 : 1 ≤ T) (hT : T ≤ 14) (h0 : mgT xs Ln T = 0) (h1 : ∀ j, j < T → 1 ≤ mgT xs Ln j) (hv : VIS k o rk ro) (hq : QRL xs Ln T qk qa qb) (hk8 : ∀ i, 8 ≤ i → i < 16 → ¬ k i = 1) (J291 J277 J68 : (Nat → Int32) → (Nat → Int32) → (Nat → Int32) → Option (Int32 × (Nat → Int32) × (Nat → Int32) × (Nat → Int32))) :
    ∀ (d i : Nat), i + d = 3 → ∀ (f : Nat), d < f → ∀ (m w c : Nat → Int32), ∃ m' w' c', lo4 (sL_answers_43 J291 rk ro (nI T) qk qa qb 0 (nI (qz_ct (fun j => 0 ≤ lsc xs Ln T k o j) 16)) o k s v rs xs Ln J277 J68) f (nI i) m w c = J291 m' w' c' := by
  intro d
  induction d with
  | zero =>
    intro i hi f hf m w c
    obtain ⟨f, rfl⟩ : ∃ z, f = z + 1 := ⟨f - 1, by omega⟩
    refine ⟨m, w, c, ?_⟩
    rw [lo4_s, sL_answers_43, if_pos (by rw [l3, n_le (by omega) (by omega)]; omega)]
  | succ d ih =>
    intro i hi f hf m w c
    obtain ⟨f, rfl⟩ : ∃ z, f = z + 1 := ⟨f - 1, by omega⟩
    have hct := ct_le (fun j => 0 ≤ lsc xs Ln T k o j) 16
    have hx0 : 0 ≤ nI i ∧ nI i ≤ 2 := by
      rw [l0, l2, n_le (by omega) (by omega), n_le (by omega) (by omega)]; omega
    obtain ⟨m1, w1, c1, e1⟩ := hitM hT h0 h1 hq hv hx0 m w c
    obtain ⟨m2, w2, c2, e2⟩ := hitN hT h0 h1 hq hv hx0 (qz_ct (fun j => 0 ≤ lsc xs Ln T k o j) 16) (by omega) m1 w1 c1
    have hnone : qz_ls (qz_pk (nI i) (lsc xs Ln T k o) ro (nI (qz_ct (fun j => 0 ≤ lsc xs Ln T k o j) 16))) 16 = -1 := by
      refine ls_none (fun j hj hp => ?_)
      have h3 := rank_lt (s := nI i) (ro := ro) hj hp.1
      have h4 := hp.2
      rw [n_eq (by omega) (by omega)] at h4
      omega
    obtain ⟨m3, w3, c3, e3⟩ := id_loop (s := s) (v := v) (rs := rs) hL hT1 hT h0 h1 hv hq hk8 hx0 (fun (w25 : Nat → Int32) (w26 : Nat → Int32) (w27 : Nat → Int32) => (bnd (nI i + 1) (fun z28 => (lo4 (sL_answers_43 J291 rk ro (nI T) qk qa qb 0 (nI (qz_ct (fun j => 0 ≤ lsc xs Ln T k o j) 16)) o k s v rs xs Ln J277 J68) f z28 w25 w26 w27)))) J277 8 0 rfl 1000 (by omega) m2 w2 c2
    obtain ⟨m4, w4, c4, e4⟩ := ih (i + 1) (by omega) f (by omega) m3 w3 c3
    refine ⟨m4, w4, c4, ?_⟩
    rw [lo4_s, sL_answers_43, if_neg (by rw [l3, n_le (by omega) (by omega)]; omega), e1, cal4_e, if_pos rfl, e2, cal4_e, if_pos hnone, jp_e]
    refine Eq.trans e3 ?_
    try dsimp only
    rw [nI_1, bnd_e]
    exact e4
theorem answers_ok (hL : Ln < 100000) (hT1 : 1 ≤ T) (hT : T ≤ 14) (h0 : mgT xs Ln T = 0) (h1 : ∀ j, j < T → 1 ≤ mgT xs Ln j) (hv : VIS k o rk ro) (hq : QRL xs Ln T qk qa qb) (hk8 : ∀ i, 8 ≤ i → i < 16 → ¬ k i = 1) (m w c : Nat → Int32) :
    ∃ m' w' c', fL_answers xs Ln k s v o rk rs ro (nI T) qk qa qb m w c 0 = some (1, m', w', c') := by
  have h8 : qz_ct (fun j => 0 ≤ lsc xs Ln T k o j) 16 = qz_ct (fun j => 0 ≤ lsc xs Ln T k o j) 8 := ct_ext (by omega) (fun j a b hj => hk8 j a b ((lsc_p (k := k) (o := o) h0 h1 hT j).mp hj).1)
  obtain ⟨m1, w1, c1, e1⟩ := sort_loop (s := s) (v := v) (rs := rs) hL hT1 hT h0 h1 hv hq hk8 (fun (w2 : Nat → Int32) (w3 : Nat → Int32) (w4 : Nat → Int32) => (some (1, w2, w3, w4))) (fun (w8 : Nat → Int32) (w9 : Nat → Int32) (w10 : Nat → Int32) => (some (0, w8, w9, w10))) (fun (w5 : Nat → Int32) (w6 : Nat → Int32) (w7 : Nat → Int32) => (some (0, w5, w6, w7))) 3 0 rfl 1000 (by omega) m w c
  refine ⟨m1, w1, c1, ?_⟩
  rw [fL_answers, jp_e]
  refine Eq.trans (ans4_loop (s := s) (v := v) (rs := rs) hL hT1 hT h0 h1 hv _ 8 0 rfl 1000 (by omega)) ?_
  rw [← h8]
  try dsimp only
  rw [jp_e, jp_e, jp_e]
  exact e1
/-! what the class shows of a query, as one number -/
theorem hitsK_loop (hT : T ≤ 14) (h0 : mgT xs Ln T = 0) (h1 : ∀ j, j < T → 1 ≤ mgT xs Ln j) (hv : VIS k o rk ro) (hq : QRL xs Ln T qk qa qb) {x0 : Int32} (hx0 : 0 ≤ x0 ∧ x0 ≤ 2) :
    ∀ (d j : Nat), j + d = 10 → ∀ (acc : Int64), ∃ acc' : Int64, ∀ (J40 : Int64 → (Nat → Int32) → (Nat → Int32) → (Nat → Int32) → Option (Int64 × (Nat → Int32) × (Nat → Int32) × (Nat → Int32))) (f : Nat), d < f → ∀ (m w c : Nat → Int32), ∃ m' w' c', lo5 (sL_hits_12 J40 rk ro (nI T) qk qa qb 0 x0) f acc (mI j) m w c = J40 acc' m' w' c' := by
  intro d
  induction d with
  | zero =>
    intro j hj acc
    refine ⟨acc, fun J40 f hf m w c => ⟨m, w, c, ?_⟩⟩
    obtain ⟨f, rfl⟩ : ∃ z, f = z + 1 := ⟨f - 1, by omega⟩
    rw [lo5_s, sL_hits_12, if_pos (by rw [show (9 : Int32) = nI 9 from rfl, nm_le (by omega) (by omega)]; omega)]
  | succ d ih =>
    intro j hj acc
    have n9 : ¬ (9 : Int32) ≤ mI j := by rw [show (9 : Int32) = nI 9 from rfl, nm_le (by omega) (by omega)]; omega
    by_cases hj0 : j = 0
    · obtain ⟨acc', h2⟩ := ih (j + 1) (by omega) (acc * 31 + Int32.toInt64 (nI (qz_ct (fun j => 0 ≤ lsc xs Ln T k o j) 16)))
      refine ⟨acc', fun J40 f hf m w c => ?_⟩
      obtain ⟨f, rfl⟩ : ∃ z, f = z + 1 := ⟨f - 1, by omega⟩
      obtain ⟨m1, w1, c1, e1⟩ := hitM hT h0 h1 hq hv hx0 m w c
      obtain ⟨m2, w2, c2, e2⟩ := h2 J40 f (by omega) m1 w1 c1
      refine ⟨m2, w2, c2, ?_⟩
      subst hj0
      rw [lo5_s, sL_hits_12, if_neg n9, bnd_e, show (mI 0 : Int32) = -1 from rfl, e1, cal4_e, bnd_e, bnd_e, show (-1 : Int32) + 1 = mI (0 + 1) from rfl, bnd_e]
      exact e2
    · obtain ⟨i, rfl⟩ : ∃ z, j = z + 1 := ⟨j - 1, by omega⟩
      obtain ⟨acc', h2⟩ := ih (i + 1 + 1) (by omega) (acc * 31 + Int32.toInt64 (qz_ls (qz_pk x0 (lsc xs Ln T k o) ro (nI i)) 16))
      refine ⟨acc', fun J40 f hf m w c => ?_⟩
      obtain ⟨f, rfl⟩ : ∃ z, f = z + 1 := ⟨f - 1, by omega⟩
      obtain ⟨m1, w1, c1, e1⟩ := hitN hT h0 h1 hq hv hx0 i (by omega) m w c
      obtain ⟨m2, w2, c2, e2⟩ := h2 J40 f (by omega) m1 w1 c1
      refine ⟨m2, w2, c2, ?_⟩
      rw [lo5_s, sL_hits_12, if_neg n9, bnd_e, m_of, e1, cal4_e, bnd_e, bnd_e, nI_1, ← m_of (i + 1), bnd_e]
      exact e2
theorem hitsS_loop (hT : T ≤ 14) (h0 : mgT xs Ln T = 0) (h1 : ∀ j, j < T → 1 ≤ mgT xs Ln j) (hv : VIS k o rk ro) (hq : QRL xs Ln T qk qa qb) :
    ∀ (d i : Nat), i + d = 3 → ∀ (acc : Int64), ∃ acc' : Int64, ∀ (J46 : Int64 → (Nat → Int32) → (Nat → Int32) → (Nat → Int32) → Option (Int64 × (Nat → Int32) × (Nat → Int32) × (Nat → Int32))) (f : Nat), d < f → ∀ (m w c : Nat → Int32), ∃ m' w' c', lo5 (sL_hits_4 J46 rk ro (nI T) qk qa qb 0) f acc (nI i) m w c = J46 acc' m' w' c' := by
  intro d
  induction d with
  | zero =>
    intro i hi acc
    refine ⟨acc, fun J46 f hf m w c => ⟨m, w, c, ?_⟩⟩
    obtain ⟨f, rfl⟩ : ∃ z, f = z + 1 := ⟨f - 1, by omega⟩
    rw [lo5_s, sL_hits_4, if_pos (by rw [l3, n_le (by omega) (by omega)]; omega)]
  | succ d ih =>
    intro i hi acc
    have hx0 : 0 ≤ nI i ∧ nI i ≤ 2 := by
      rw [l0, l2, n_le (by omega) (by omega), n_le (by omega) (by omega)]; omega
    obtain ⟨acc1, g1⟩ := hitsK_loop hT h0 h1 hv hq hx0 10 0 rfl acc
    obtain ⟨acc2, g2⟩ := ih (i + 1) (by omega) acc1
    refine ⟨acc2, fun J46 f hf m w c => ?_⟩
    obtain ⟨f, rfl⟩ : ∃ z, f = z + 1 := ⟨f - 1, by omega⟩
    obtain ⟨m1, w1, c1, e1⟩ := g1 (fun (y10 : Int64) (w11 : Nat → Int32) (w12 : Nat → Int32) (w13 : Nat → Int32) => (bnd (nI i + 1) (fun z14 => (lo5 (sL_hits_4 J46 rk ro (nI T) qk qa qb 0) f y10 z14 w11 w12 w13)))) 1000 (by omega) m w c
    obtain ⟨m2, w2, c2, e2⟩ := g2 J46 f (by omega) m1 w1 c1
    refine ⟨m2, w2, c2, ?_⟩
    rw [lo5_s, sL_hits_4, if_neg (by rw [l3, n_le (by omega) (by omega)]; omega), jp_e]
    refine Eq.trans e1 ?_
    try dsimp only
    rw [nI_1, bnd_e]
    exact e2
theorem hits_ok (hT : T ≤ 14) (h0 : mgT xs Ln T = 0) (h1 : ∀ j, j < T → 1 ≤ mgT xs Ln j) (hv : VIS k o rk ro) (hq : QRL xs Ln T qk qa qb) : ∃ H : Int64, ∀ (m w c : Nat → Int32), ∃ m' w' c', fL_hits rk ro (nI T) qk qa qb m w c 0 = some (H, m', w', c') := by
  obtain ⟨H, h⟩ := hitsS_loop hT h0 h1 hv hq 3 0 rfl 0
  refine ⟨H, fun m w c => ?_⟩
  rw [fL_hits, jp_e]
  exact h (fun (y1 : Int64) (w2 : Nat → Int32) (w3 : Nat → Int32) (w4 : Nat → Int32) => (some (y1, w2, w3, w4))) 1000 (by omega) m w c
/-! asking -/
theorem ask_ok {n kk : Nat} (hn : n < 15) (hk : kk < 7) {a b : Int32} (ha : kk = 1 ∨ kk = 2 → 1 ≤ a ∧ a ≤ 15) (hb : kk = 2 → 1 ≤ b ∧ b ≤ 15) (qk qa qb : Nat → Int32) : fX5_ask (nI n) qk qa qb (nI kk) a b = some (nI (n + 1), nI (n + 1), upd qk n (nI kk), upd qa n a, upd qb n b) := by
  have hadd : cal5 (fX4_add (nI n) qk qa qb (nI kk) a b) (fun r1 u2 u3 u4 u5 => if r1 = 0 then some (-3, u2, u3, u4, u5) else some (u2, u2, u3, u4, u5)) = some (nI (n + 1), nI (n + 1), upd qk n (nI kk), upd qa n a, upd qb n b) := by
    rw [fX4_add, jp_e, if_neg (by rw [l0, n_lt (by omega) (by omega)]; omega), if_pos (by rw [l15, n_lt (by omega) (by omega)]; omega), wrI_n (by omega) (by omega), wrI_n (by omega) (by omega), wrI_n (by omega) (by omega), nI_1, bnd_e, cal5_e, if_neg (by decide)]
  have e7 : ¬ nI kk = 7 := by rw [l7, n_eq (by omega) (by omega)]; omega
  rw [fX5_ask]
  simp only [jp_e]
  rw [if_neg (by rw [l0, n_lt (by omega) (by omega)]; omega), if_pos (by rw [l7, n_le (by omega) (by omega)]; omega), isWord_ok, isWord_ok, cal1_e, cal1_e]
  by_cases e1 : kk = 1
  · have h1 : nI kk = 1 := by rw [e1]; rfl
    have h2 : ¬ nI kk = 2 := by rw [e1]; decide
    rw [if_pos h1, if_pos (ha (Or.inl e1)), if_neg (by decide), if_neg h2, if_neg e7]
    exact hadd
  · have h1 : ¬ nI kk = 1 := by rw [l1, n_eq (by omega) (by omega)]; exact e1
    by_cases e2 : kk = 2
    · have h2 : nI kk = 2 := by rw [e2]; rfl
      rw [if_neg h1, if_pos h2, if_pos (ha (Or.inr e2)), if_neg (by decide), if_pos h2, if_pos (hb e2), if_neg (by decide), if_neg e7]
      exact hadd
    · have h2 : ¬ nI kk = 2 := by rw [l2, n_eq (by omega) (by omega)]; exact e2
      rw [if_neg h1, if_neg h2, if_neg h2, if_neg e7]
      exact hadd
theorem ask_loop (hL : Ln < 100000) (hT1 : 1 ≤ T) (hT : T ≤ 14) (h0 : mgT xs Ln T = 0) (h1 : ∀ j, j < T → 1 ≤ mgT xs Ln j) (rk : Nat → Int32) (ro : Nat → Int64) (J112 J104 : Int32 → (Nat → Int32) → (Nat → Int32) → (Nat → Int32) → (Nat → Int32) → (Nat → Int32) → (Nat → Int32) → Option Int32) :
    ∀ (d n : Nat), n + d = T → ∀ (f : Nat), d < f → ∀ (qk qa qb m w c : Nat → Int32), QRL xs Ln n qk qa qb → ∃ (qk' qa' qb' m' w' c' : Nat → Int32), QRL xs Ln T qk' qa' qb' ∧ lo8 (sL_law_59 (nI T) J112 rk ro 0 xs Ln J104) f (nI n) (nI n) qk qa qb m w c = J112 (nI T) qk' qa' qb' m' w' c' := by
  intro d
  induction d with
  | zero =>
    intro n hn f hf qk qa qb m w c hq
    obtain ⟨f, rfl⟩ : ∃ z, f = z + 1 := ⟨f - 1, by omega⟩
    obtain rfl : n = T := by omega
    refine ⟨qk, qa, qb, m, w, c, hq, ?_⟩
    rw [lo8_s, sL_law_59, if_pos (by rw [n_le (by omega) (by omega)]; omega)]
  | succ d ih =>
    intro n hn f hf qk qa qb m w c hq
    obtain ⟨f, rfl⟩ : ∃ z, f = z + 1 := ⟨f - 1, by omega⟩
    have hr : ∀ x : Int32, (∃ j : Nat, 1 ≤ j ∧ j ≤ 3 ∧ x = nI j) → 1 ≤ x ∧ x ≤ 15 := by
      rintro x ⟨j, j1, j2, rfl⟩
      rw [l1, l15, n_le (by omega) (by omega), n_le (by omega) (by omega)]
      omega
    have hask := ask_ok (show n < 15 by omega) (kN_lt xs Ln n) (a := aV xs Ln n) (b := bV xs Ln n) (fun h => hr _ (aV_r (by omega))) (fun h => hr _ (bV_r (by omega))) qk qa qb
    have hq' : QRL xs Ln (n + 1) (upd qk n (nI (kN xs Ln n))) (upd qa n (aV xs Ln n)) (upd qb n (bV xs Ln n)) := by
      intro j hj
      by_cases e : j = n
      · subst e; exact ⟨upd_s _ _ _, upd_s _ _ _, upd_s _ _ _⟩
      · rw [upd_o _ _ e, upd_o _ _ e, upd_o _ _ e]; exact hq j (by omega)
    obtain ⟨qk', qa', qb', m', w', c', g1, g2⟩ := ih (n + 1) (by omega) f (by omega) _ _ _ m w c hq'
    refine ⟨qk', qa', qb', m', w', c', g1, ?_⟩
    rw [lo8_s, sL_law_59, if_neg (by rw [n_le (by omega) (by omega)]; omega), hitB h0 h1 (by omega) (by omega) hq, cal4_e, if_pos rfl, kind_ok hL hT1 hT h0 h1 (by omega), cal1_e, a_ok hL hT1 hT h0 h1 (by omega), cal1_e, b_ok hL hT1 hT h0 h1 (by omega), cal1_e, hask, cal5_e, nI_1, bnd_e, if_pos rfl, bnd_e]
    exact g2
end ANS
