theorem rkM_loop {rk rs sS k a b kM aM bM : Nat → Int32} {ro sO : Nat → Int64} {n : Nat} (hR : RR rk rs ro sS sO) (hq : RQ n k a b kM aM bM) (hwh : whl k n 0 1 = true) {sc : Nat → Int32} (hsc : ∀ j, j < 16 → sc j = qz_sc rk ro k a b n j) (s : Int32) (i : Nat) (J : Int32 → (Nat → Int32) → (Nat → Int32) → Option (Int32 × (Nat → Int32) × (Nat → Int32))) :
    ∀ (m q : Nat), q + m = 16 → ∀ (f : Nat), m < f → ∀ (w v : Nat → Int32), ∃ w' v', lo4 (sX6_hit_69 J sS sO kM aM bM (nI n) s (qz_ky s sc ro i) (nI i)) f (nI (qz_ct (qz_pb s sc ro i) q)) (nI q) w v = J (nI (qz_ct (qz_pb s sc ro i) 16)) w' v' := by
  intro m
  induction m with
  | zero =>
    intro q hq2 f hf w v
    obtain ⟨f, rfl⟩ : ∃ z, f = z + 1 := ⟨f - 1, by omega⟩
    obtain rfl : q = 16 := by omega
    refine ⟨w, v, ?_⟩
    rw [lo4_s, sX6_hit_69, if_pos (by rw [l16, n_le (by omega) (by omega)]; omega)]
  | succ m ih =>
    intro q hq2 f hf w v
    obtain ⟨f, rfl⟩ : ∃ z, f = z + 1 := ⟨f - 1, by omega⟩
    obtain ⟨w1, v1, e1⟩ := worth_ok hR hq hwh (show q < 16 by omega) w v
    rw [lo4_s, sX6_hit_69, if_neg (by rw [l16, n_le (by omega) (by omega)]; omega), e1, cal3_e, ← hsc q (by omega), jp_e]
    try dsimp only
    simp only [jp_e]
    rw [nI_1 q]
    by_cases h : 0 ≤ sc q
    · obtain ⟨w2, v2, e2⟩ := keyM_ok hR hq hwh (show q < 16 by omega) (hsc q (by omega)) h s w1 v1
      rw [if_pos h, e2, cal3_e, if_neg (by grind)]
      by_cases hb : qz_bh s (qz_ky s sc ro i) (nI i) (qz_ky s sc ro q) (nI q)
      · obtain ⟨w3, v3, e3⟩ := ih (q + 1) (by omega) f (by omega) w2 v2
        rw [ct_y (P := qz_pb s sc ro i) ⟨h, hb⟩] at e3
        refine ⟨w3, v3, ?_⟩
        rw [before_y hb, cal1_e, if_neg (by decide), nI_1 _, bnd_e, bnd_e, e3]
      · obtain ⟨w3, v3, e3⟩ := ih (q + 1) (by omega) f (by omega) w2 v2
        rw [ct_n (P := qz_pb s sc ro i) (fun z => hb z.2)] at e3
        refine ⟨w3, v3, ?_⟩
        rw [before_n hb, cal1_e, if_pos rfl, bnd_e, e3]
    · obtain ⟨w3, v3, e3⟩ := ih (q + 1) (by omega) f (by omega) w1 v1
      rw [ct_n (P := qz_pb s sc ro i) (fun z => h z.1)] at e3
      refine ⟨w3, v3, ?_⟩
      rw [if_neg h, if_pos (by grind), bnd_e, e3]
theorem hitM_loop {rk rs sS k a b kM aM bM : Nat → Int32} {ro sO : Nat → Int64} {n : Nat} (hR : RR rk rs ro sS sO) (hq : RQ n k a b kM aM bM) (hwh : whl k n 0 1 = true) {sc : Nat → Int32} (hsc : ∀ j, j < 16 → sc j = qz_sc rk ro k a b n j) (s x1 : Int32) (J : Int32 → Int32 → (Nat → Int32) → (Nat → Int32) → Option (Int32 × (Nat → Int32) × (Nat → Int32))) :
    ∀ (m q : Nat), q + m = 16 → ∀ (f : Nat), m < f → ∀ (w v : Nat → Int32), ∃ w' v', lo5 (sX6_hit_28 J sS sO kM aM bM (nI n) s x1) f (nI (qz_ct (fun o => 0 ≤ sc o) q)) (qz_ls (qz_pk s sc ro x1) q) (nI q) w v = J (nI (qz_ct (fun o => 0 ≤ sc o) 16)) (qz_ls (qz_pk s sc ro x1) 16) w' v' := by
  intro m
  induction m with
  | zero =>
    intro q hq2 f hf w v
    obtain ⟨f, rfl⟩ : ∃ z, f = z + 1 := ⟨f - 1, by omega⟩
    obtain rfl : q = 16 := by omega
    refine ⟨w, v, ?_⟩
    rw [lo5_s, sX6_hit_28, if_pos (by rw [l16, n_le (by omega) (by omega)]; omega)]
  | succ m ih =>
    intro q hq2 f hf w v
    obtain ⟨f, rfl⟩ : ∃ z, f = z + 1 := ⟨f - 1, by omega⟩
    obtain ⟨w1, v1, e1⟩ := worth_ok hR hq hwh (show q < 16 by omega) w v
    rw [lo5_s, sX6_hit_28, if_neg (by rw [l16, n_le (by omega) (by omega)]; omega), e1, cal3_e, ← hsc q (by omega), jp_e]
    try dsimp only
    rw [nI_1 q]
    by_cases h : 0 ≤ sc q
    · obtain ⟨w2, v2, e2⟩ := keyM_ok hR hq hwh (show q < 16 by omega) (hsc q (by omega)) h s w1 v1
      rw [if_pos h, nI_1 _, bnd_e, e2, cal3_e, jp_e]
      try dsimp only
      have hr := rkM_loop hR hq hwh hsc s q (fun (y27 : Int32) (w28 : Nat → Int32) (w29 : Nat → Int32) => if y27 = x1 then bnd (nI (q + 1)) (fun z21 => lo5 (sX6_hit_28 J sS sO kM aM bM (nI n) s x1) f (nI (qz_ct (fun o => 0 ≤ sc o) q + 1)) (nI q) z21 w28 w29) else bnd (nI (q + 1)) (fun z21 => lo5 (sX6_hit_28 J sS sO kM aM bM (nI n) s x1) f (nI (qz_ct (fun o => 0 ≤ sc o) q + 1)) (qz_ls (qz_pk s sc ro x1) q) z21 w28 w29)) 16 0 (by omega) 1000 (by omega) w2 v2
      obtain ⟨w3, v3, e3⟩ := hr
      obtain ⟨w4, v4, e4⟩ := ih (q + 1) (by omega) f (by omega) w3 v3
      rw [ct_y (P := fun o => 0 ≤ sc o) h] at e4
      refine ⟨w4, v4, Eq.trans (lo4_at e3 rfl rfl) ?_⟩
      by_cases e : nI (qz_ct (qz_pb s sc ro q) 16) = x1
      · rw [ls_y (show qz_pk s sc ro x1 q from ⟨h, e⟩)] at e4
        rw [if_pos e, bnd_e, e4]
      · rw [ls_n (P := qz_pk s sc ro x1) (fun z => e z.2)] at e4
        rw [if_neg e, bnd_e, e4]
    · obtain ⟨w4, v4, e4⟩ := ih (q + 1) (by omega) f (by omega) w1 v1
      rw [ct_n (P := fun o => 0 ≤ sc o) h, ls_n (P := qz_pk s sc ro x1) (fun z => h z.1)] at e4
      refine ⟨w4, v4, ?_⟩
      rw [if_neg h, bnd_e, e4]
theorem lo5_at {γ δ β : Type} {s : (Int32 → Int32 → Int32 → γ → δ → Option β) → Int32 → Int32 → Int32 → γ → δ → Option β} {f : Nat} {x y z x' y' z' : Int32} {w : γ} {v : δ} {r : Option β} (h : lo5 s f x y z w v = r) (hx : x' = x) (hy : y' = y) (hz : z' = z) : lo5 s f x' y' z' w v = r := by rw [hx, hy, hz]; exact h
theorem isBad_ok {n : Nat} {k a b kM aM bM : Nat → Int32} (hq : RQ n k a b kM aM bM) (x0 : Int32) : fX6_isBad kM (nI n) x0 = some (if 0 ≤ x0 ∧ x0 ≤ 2 ∧ whl k n 0 1 = true then 0 else 1) := by
  have hk : ∀ j, j < n → 0 ≤ kM j ∧ kM j ≤ 6 := fun j hj => by rw [← (hq.2 j hj).1]; exact (hq.2 j hj).2.2.2.1
  have hc : whl kM n 0 1 = whl k n 0 1 := whl_congr n 0 1 (fun j h1 h2 => ((hq.2 j (by omega)).1).symm)
  rw [fX6_isBad, in_ok, cal1_e]
  simp only [jp_e]
  by_cases h : 0 ≤ x0 ∧ x0 ≤ 2
  · rw [if_pos h, if_neg (by decide), isQuery_ok hq.1 kM hk, cal1_e, hc]
    by_cases hw : whl k n 0 1 = true
    · rw [if_pos hw, if_neg (by decide), if_pos ⟨h.1, h.2, hw⟩]; rfl
    · rw [if_neg hw, if_pos rfl, if_neg (fun z => hw z.2.2)]; rfl
  · rw [if_neg h, if_pos rfl, if_neg (fun z => h ⟨z.1, z.2.1⟩)]; rfl
theorem isBad_y {n : Nat} {k a b kM aM bM : Nat → Int32} (hq : RQ n k a b kM aM bM) {x0 : Int32} (h : 0 ≤ x0 ∧ x0 ≤ 2) (hw : whl k n 0 1 = true) : fX6_isBad kM (nI n) x0 = some 0 := by
  rw [isBad_ok hq, if_pos (show 0 ≤ x0 ∧ x0 ≤ 2 ∧ whl k n 0 1 = true from ⟨h.1, h.2, hw⟩)]
theorem isBad_n {n : Nat} {k a b kM aM bM : Nat → Int32} (hq : RQ n k a b kM aM bM) {x0 : Int32} (h : ¬ ((0 ≤ x0 ∧ x0 ≤ 2) ∧ whl k n 0 1 = true)) : fX6_isBad kM (nI n) x0 = some 1 := by
  rw [isBad_ok hq, if_neg (show ¬ (0 ≤ x0 ∧ x0 ≤ 2 ∧ whl k n 0 1 = true) from fun z => h ⟨⟨z.1, z.2.1⟩, z.2.2⟩)]
theorem isSort_y {x : Int32} (h : 0 ≤ x ∧ x ≤ 2) : fX5_isSort x = some 1 := by rw [isSort_ok, if_pos h]
theorem isSort_n {x : Int32} (h : ¬ (0 ≤ x ∧ x ≤ 2)) : fX5_isSort x = some 0 := by rw [isSort_ok, if_neg h]
theorem isWhole_y {n : Nat} {k : Nat → Int32} (hn : n ≤ 15) (h : whl k n 0 1 = true) : fX4_isWhole (nI n) k = some 1 := by rw [isWhole_ok hn, if_pos h]
theorem isWhole_n {n : Nat} {k : Nat → Int32} (hn : n ≤ 15) (h : ¬ whl k n 0 1 = true) : fX4_isWhole (nI n) k = some 0 := by rw [isWhole_ok hn, if_neg h]
theorem i10 : ¬ (1 : Int32) = 0 := by decide
theorem hitM_ok {rk rs sS k a b kM aM bM : Nat → Int32} {ro sO : Nat → Int64} {n : Nat} (hR : RR rk rs ro sS sO) (hq : RQ n k a b kM aM bM) (hwh : whl k n 0 1 = true) {sc : Nat → Int32} (hsc : ∀ j, j < 16 → sc j = qz_sc rk ro k a b n j) {x0 : Int32} (h0 : 0 ≤ x0 ∧ x0 ≤ 2) (x1 : Int32) (w v : Nat → Int32) :
    ∃ w' v', fX6_hit sS sO 0 kM aM bM w v (nI n) x0 x1 = some (if x1 = -1 then nI (qz_ct (fun o => 0 ≤ sc o) 16) else qz_ls (qz_pk x0 sc ro x1) 16, w', v') := by
  rw [fX6_hit, if_pos rfl, isBad_y hq h0 hwh, cal1_e, if_pos rfl, jp_e]
  simp only [jp_e]
  obtain ⟨w', v', e⟩ := hitM_loop hR hq hwh hsc x0 x1 (fun (y3 : Int32) (y4 : Int32) (w5 : Nat → Int32) (w6 : Nat → Int32) => if x1 = (-1) then some (y3, w5, w6) else some (y4, w5, w6)) 16 0 (by omega) 1000 (by omega) w v
  refine ⟨w', v', Eq.trans (lo5_at e rfl rfl rfl) ?_⟩
  by_cases h : x1 = -1
  · rw [if_pos h, if_pos h]
  · rw [if_neg h, if_neg h]
theorem hit_both {rk rs sS k a b kM aM bM : Nat → Int32} {ro sO : Nat → Int64} {n : Nat} (hR : RR rk rs ro sS sO) (hq : RQ n k a b kM aM bM) (x0 x1 : Int32) (m s c w v : Nat → Int32) :
    ∃ r m' s' c' w' v', fX5_hit rk ro (nI n) k a b m s c 0 x0 x1 = some (r, m', s', c') ∧ fX6_hit sS sO 0 kM aM bM w v (nI n) x0 x1 = some (r, w', v') := by
  by_cases hb : (0 ≤ x0 ∧ x0 ≤ 2) ∧ whl k n 0 1 = true
  · obtain ⟨h0, hw⟩ := hb
    obtain ⟨m', s', c', e1, hsc⟩ := scoreAll_ok hq.1 (a := a) (b := b) hw rk ro m s c
    obtain ⟨w', v', eM⟩ := hitM_ok hR hq hw hsc h0 x1 w v
    by_cases h1 : x1 < -1
    · have hn : ∀ i, i < 16 → ¬ qz_pk x0 c' ro x1 i := by
        intro i hi z
        have c1 := ct_le (qz_pb x0 c' ro i) 16
        have h3 : 0 ≤ x1 := by rw [← z.2, l0, n_le (by omega) (by omega)]; omega
        grind
      refine ⟨-1, m, s, c, w', v', ?_, ?_⟩
      · rw [fX5_hit, if_pos rfl, isSort_y h0, cal1_e, jp_e]
        try dsimp only
        rw [if_neg i10, if_pos h1]
      · rw [eM, if_neg (show ¬ x1 = -1 by grind), ls_none hn]
    · by_cases h2 : x1 = -1
      · refine ⟨nI (qz_ct (fun o => 0 ≤ c' o) 16), m', s', c', w', v', ?_, by rw [eM, if_pos h2]⟩
        rw [fX5_hit, if_pos rfl, isSort_y h0, cal1_e, jp_e]
        try dsimp only
        rw [if_neg i10, if_neg h1, isWhole_y hq.1 hw, cal1_e, if_neg i10, e1, cal3_e, if_pos h2, cmX_ok, cal1_e]
      · refine ⟨qz_ls (qz_pk x0 c' ro x1) 16, m', s', c', w', v', ?_, by rw [eM, if_neg h2]⟩
        rw [fX5_hit, if_pos rfl, isSort_y h0, cal1_e, jp_e]
        try dsimp only
        rw [if_neg i10, if_neg h1, isWhole_y hq.1 hw, cal1_e, if_neg i10, e1, cal3_e, if_neg h2, jp_e]
        exact lo1_at (hitX_loop x0 c' ro x1 m' s' 16 0 (by omega) 1000 (by omega) (fun j hj => by omega)) rfl
  · refine ⟨-1, m, s, c, w, v, ?_, ?_⟩
    · rw [fX5_hit, if_pos rfl]
      by_cases h0 : 0 ≤ x0 ∧ x0 ≤ 2
      · rw [isSort_y h0, cal1_e, jp_e]
        try dsimp only
        rw [if_neg i10]
        by_cases h1 : x1 < -1
        · rw [if_pos h1]
        · rw [if_neg h1, isWhole_n hq.1 (fun z => hb ⟨h0, z⟩), cal1_e, if_pos rfl]
      · rw [isSort_n h0, cal1_e, jp_e]
        try dsimp only
        rw [if_pos rfl]
    · rw [fX6_hit, if_pos rfl, isBad_n hq hb, cal1_e, if_neg i10]
theorem hit_down {rk ro sS sO : Nat → Int32} {n d x0 x1 : Int32} {ro2 sO2 : Nat → Int64} {k a b kM aM bM m s c w v : Nat → Int32} {nM : Int32} (hd : ¬ d = 0) : fX5_hit rk ro2 n k a b m s c d x0 x1 = some (-4, m, s, c) ∧ fX6_hit sS sO2 d kM aM bM w v nM x0 x1 = some (-4, w, v) := by
  rw [fX5_hit, fX6_hit, if_neg hd, if_neg hd]; exact ⟨rfl, rfl⟩
/-- the first that comes behind a key and an id -/
noncomputable def qz_af (s : Int32) (sc : Nat → Int32) (ro : Nat → Int64) (x1 x2 : Int32) : Nat → Option Nat
  | 0 => none
  | q + 1 => @ite (Option Nat) ((0 ≤ sc q ∧ qz_bh s (qz_ky s sc ro q) (nI q) x1 x2) ∧ ∀ b, qz_af s sc ro x1 x2 q = some b → qz_bh s (qz_ky s sc ro b) (nI b) (qz_ky s sc ro q) (nI q)) (Classical.propDecidable _) (some q) (qz_af s sc ro x1 x2 q)
theorem af_y {s x1 x2 : Int32} {sc : Nat → Int32} {ro : Nat → Int64} {q : Nat} (h : (0 ≤ sc q ∧ qz_bh s (qz_ky s sc ro q) (nI q) x1 x2) ∧ ∀ b, qz_af s sc ro x1 x2 q = some b → qz_bh s (qz_ky s sc ro b) (nI b) (qz_ky s sc ro q) (nI q)) : qz_af s sc ro x1 x2 (q + 1) = some q := by
  rw [qz_af]; exact if_pos h
theorem af_n {s x1 x2 : Int32} {sc : Nat → Int32} {ro : Nat → Int64} {q : Nat} (h : ¬ ((0 ≤ sc q ∧ qz_bh s (qz_ky s sc ro q) (nI q) x1 x2) ∧ ∀ b, qz_af s sc ro x1 x2 q = some b → qz_bh s (qz_ky s sc ro b) (nI b) (qz_ky s sc ro q) (nI q))) : qz_af s sc ro x1 x2 (q + 1) = qz_af s sc ro x1 x2 q := by
  rw [qz_af]; exact if_neg h
theorem af_lt {s x1 x2 : Int32} {sc : Nat → Int32} {ro : Nat → Int64} : ∀ (q b : Nat), qz_af s sc ro x1 x2 q = some b → b < q := by
  intro q
  induction q with
  | zero => intro b h; cases h
  | succ q ih =>
    intro b h
    by_cases c : (0 ≤ sc q ∧ qz_bh s (qz_ky s sc ro q) (nI q) x1 x2) ∧ ∀ b, qz_af s sc ro x1 x2 q = some b → qz_bh s (qz_ky s sc ro b) (nI b) (qz_ky s sc ro q) (nI q)
    · rw [af_y c] at h; cases h; omega
    · rw [af_n c] at h; have := ih b h; omega
def qz_ob : Option Nat → Int32
  | none => -1
  | some b => nI b
theorem afX_loop (s x1 x2 : Int32) (sc : Nat → Int32) (ro : Nat → Int64) (J : Int32 → Option (Int32 × (Nat → Int32) × (Nat → Int32) × (Nat → Int32))) : ∀ (m q : Nat), q + m = 16 → ∀ (f : Nat), m < f → lo2 (sX5_after_39 J sc ro s x1 x2) f (qz_ob (qz_af s sc ro x1 x2 q)) (nI q) = J (qz_ob (qz_af s sc ro x1 x2 16)) := by
  intro m
  induction m with
  | zero =>
    intro q hq f hf
    obtain ⟨f, rfl⟩ : ∃ z, f = z + 1 := ⟨f - 1, by omega⟩
    obtain rfl : q = 16 := by omega
    rw [lo2_s, sX5_after_39, if_pos (by rw [l16, n_le (by omega) (by omega)]; omega)]
  | succ m ih =>
    intro q hq f hf
    obtain ⟨f, rfl⟩ : ∃ z, f = z + 1 := ⟨f - 1, by omega⟩
    have hI := ih (q + 1) (by omega) f (by omega)
    rw [lo2_s, sX5_after_39, if_neg (by rw [l16, n_le (by omega) (by omega)]; omega), rdI_n (by omega) (by omega), jp_e]
    try dsimp only
    rw [nI_1 q]
    by_cases h : 0 ≤ sc q
    · rw [if_neg (by grind), keyX_ok ro sc s (by omega), cal1_e]
      by_cases hb : qz_bh s (qz_ky s sc ro q) (nI q) x1 x2
      · rw [behind_y hb, cal1_e, if_neg (by decide)]
        simp only [jp_e]
        cases ha : qz_af s sc ro x1 x2 q with
        | none =>
          rw [af_y ⟨⟨h, hb⟩, fun b hb => by rw [ha] at hb; cases hb⟩] at hI
          rw [if_pos (show qz_ob none < 0 by decide), bnd_e]
          exact hI
        | some b =>
          have hlt := af_lt q b ha
          rw [show qz_ob (some b) = nI b from rfl, if_neg (show ¬ nI b < 0 by rw [l0, n_lt (by omega) (by omega)]; omega), keyX_ok ro sc s (by omega), cal1_e, cal1_e]
          by_cases hc : qz_bh s (qz_ky s sc ro b) (nI b) (qz_ky s sc ro q) (nI q)
          · rw [af_y ⟨⟨h, hb⟩, fun b' hb' => by rw [ha] at hb'; cases hb'; exact hc⟩] at hI
            rw [behind_y hc, cal1_e, if_neg (by decide), bnd_e]
            exact hI
          · rw [af_n (fun z => hc (z.2 b ha)), ha] at hI
            rw [behind_n hc, cal1_e, if_pos rfl, bnd_e]
            exact hI
      · rw [af_n (fun z => hb z.1.2)] at hI
        rw [behind_n hb, cal1_e, if_pos rfl, bnd_e, hI]
    · rw [af_n (fun z => h z.1.1)] at hI
      rw [if_pos (by grind), bnd_e, hI]
theorem afM_loop {rk rs sS k a b kM aM bM : Nat → Int32} {ro sO : Nat → Int64} {n : Nat} (hR : RR rk rs ro sS sO) (hq : RQ n k a b kM aM bM) (hwh : whl k n 0 1 = true) {sc : Nat → Int32} (hsc : ∀ j, j < 16 → sc j = qz_sc rk ro k a b n j) (s x1 x2 : Int32) (J : Int32 → (Nat → Int32) → (Nat → Int32) → Option (Int32 × (Nat → Int32) × (Nat → Int32))) :
    ∀ (m q : Nat), q + m = 16 → ∀ (f : Nat), m < f → ∀ (y : Int32) (w v : Nat → Int32), (∀ b, qz_af s sc ro x1 x2 q = some b → y = qz_ky s sc ro b) → ∃ w' v', lo5 (sX6_after_29 J sS sO kM aM bM (nI n) s x1 x2) f (qz_ob (qz_af s sc ro x1 x2 q)) y (nI q) w v = J (qz_ob (qz_af s sc ro x1 x2 16)) w' v' := by
  intro m
  induction m with
  | zero =>
    intro q hq2 f hf y w v hy
    obtain ⟨f, rfl⟩ : ∃ z, f = z + 1 := ⟨f - 1, by omega⟩
    obtain rfl : q = 16 := by omega
    refine ⟨w, v, ?_⟩
    rw [lo5_s, sX6_after_29, if_pos (by rw [l16, n_le (by omega) (by omega)]; omega)]
  | succ m ih =>
    intro q hq2 f hf y w v hy
    obtain ⟨f, rfl⟩ : ∃ z, f = z + 1 := ⟨f - 1, by omega⟩
    obtain ⟨w1, v1, e1⟩ := worth_ok hR hq hwh (show q < 16 by omega) w v
    rw [lo5_s, sX6_after_29, if_neg (by rw [l16, n_le (by omega) (by omega)]; omega), e1, cal3_e, ← hsc q (by omega), jp_e]
    try dsimp only
    rw [nI_1 q]
    by_cases h : 0 ≤ sc q
    · obtain ⟨w2, v2, e2⟩ := keyM_ok hR hq hwh (show q < 16 by omega) (hsc q (by omega)) h s w1 v1
      rw [if_pos h, e2, cal3_e]
      by_cases hb : qz_bh s (qz_ky s sc ro q) (nI q) x1 x2
      · rw [before_y hb, cal1_e, if_neg (by decide)]
        simp only [jp_e]
        cases ha : qz_af s sc ro x1 x2 q with
        | none =>
          have hA := af_y (q := q) ⟨⟨h, hb⟩, fun b hb => by rw [ha] at hb; cases hb⟩
          obtain ⟨w3, v3, e3⟩ := ih (q + 1) (by omega) f (by omega) (qz_ky s sc ro q) w2 v2 (fun b hb => by rw [hA] at hb; cases hb; rfl)
          rw [hA] at e3
          refine ⟨w3, v3, ?_⟩
          rw [if_pos (show qz_ob none < 0 by decide), bnd_e]
          exact e3
        | some b =>
          have hlt := af_lt q b ha
          have hy2 := hy b ha
          subst hy2
          rw [show qz_ob (some b) = nI b from rfl, if_neg (show ¬ nI b < 0 by rw [l0, n_lt (by omega) (by omega)]; omega)]
          by_cases hc : qz_bh s (qz_ky s sc ro b) (nI b) (qz_ky s sc ro q) (nI q)
          · have hA := af_y (q := q) ⟨⟨h, hb⟩, fun b' hb' => by rw [ha] at hb'; cases hb'; exact hc⟩
            obtain ⟨w3, v3, e3⟩ := ih (q + 1) (by omega) f (by omega) (qz_ky s sc ro q) w2 v2 (fun b hb => by rw [hA] at hb; cases hb; rfl)
            rw [hA] at e3
            refine ⟨w3, v3, ?_⟩
            rw [before_y hc, cal1_e, if_neg (by decide), bnd_e]
            exact e3
          · have hA := af_n (q := q) (fun z => hc (z.2 b ha))
            obtain ⟨w3, v3, e3⟩ := ih (q + 1) (by omega) f (by omega) (qz_ky s sc ro b) w2 v2 (fun b' hb => by rw [hA, ha] at hb; cases hb; rfl)
            rw [hA, ha] at e3
            refine ⟨w3, v3, ?_⟩
            rw [before_n hc, cal1_e, if_pos rfl, bnd_e]
            exact e3
      · have hA := af_n (s := s) (x1 := x1) (x2 := x2) (sc := sc) (ro := ro) (q := q) (fun z => hb z.1.2)
        obtain ⟨w3, v3, e3⟩ := ih (q + 1) (by omega) f (by omega) y w2 v2 (fun b hb => hy b (by rw [hA] at hb; exact hb))
        rw [hA] at e3
        refine ⟨w3, v3, ?_⟩
        rw [before_n hb, cal1_e, if_pos rfl, bnd_e, e3]
    · have hA := af_n (s := s) (x1 := x1) (x2 := x2) (sc := sc) (ro := ro) (q := q) (fun z => h z.1.1)
      obtain ⟨w3, v3, e3⟩ := ih (q + 1) (by omega) f (by omega) y w1 v1 (fun b hb => hy b (by rw [hA] at hb; exact hb))
      rw [hA] at e3
      refine ⟨w3, v3, ?_⟩
      rw [if_neg h, bnd_e, e3]
theorem after_both {rk rs sS k a b kM aM bM : Nat → Int32} {ro sO : Nat → Int64} {n : Nat} (hR : RR rk rs ro sS sO) (hq : RQ n k a b kM aM bM) (x0 x1 x2 : Int32) (m s c w v : Nat → Int32) :
    ∃ r m' s' c' w' v', fX5_after rk ro (nI n) k a b m s c 0 x0 x1 x2 = some (r, m', s', c') ∧ fX6_after sS sO 0 kM aM bM w v (nI n) x0 x1 x2 = some (r, w', v') := by
  by_cases hb : (0 ≤ x0 ∧ x0 ≤ 2) ∧ whl k n 0 1 = true
  · obtain ⟨h0, hw⟩ := hb
    obtain ⟨m', s', c', e1, hsc⟩ := scoreAll_ok hq.1 (a := a) (b := b) hw rk ro m s c
    obtain ⟨w', v', eM⟩ := afM_loop hR hq hw hsc x0 x1 x2 (fun (y3 : Int32) (w4 : Nat → Int32) (w5 : Nat → Int32) => some (y3, w4, w5)) 16 0 (by omega) 1000 (by omega) 0 w v (fun b hb => by cases hb)
    refine ⟨qz_ob (qz_af x0 c' ro x1 x2 16), m', s', c', w', v', ?_, ?_⟩
    · rw [fX5_after, if_pos rfl, isSort_y h0, cal1_e, jp_e]
      try dsimp only
      rw [if_neg i10, isWhole_y hq.1 hw, cal1_e, if_neg i10, e1, cal3_e, jp_e]
      exact lo2_at (afX_loop x0 x1 x2 c' ro _ 16 0 (by omega) 1000 (by omega)) rfl rfl
    · rw [fX6_after, if_pos rfl, isBad_y hq h0 hw, cal1_e, if_pos rfl, jp_e]
      exact lo5_at eM rfl rfl rfl
  · refine ⟨-1, m, s, c, w, v, ?_, ?_⟩
    · rw [fX5_after, if_pos rfl]
      by_cases h0 : 0 ≤ x0 ∧ x0 ≤ 2
      · rw [isSort_y h0, cal1_e, jp_e]
        try dsimp only
        rw [if_neg i10, isWhole_n hq.1 (fun z => hb ⟨h0, z⟩), cal1_e, if_pos rfl]
      · rw [isSort_n h0, cal1_e, jp_e]
        try dsimp only
        rw [if_pos rfl]
    · rw [fX6_after, if_pos rfl, isBad_n hq hb, cal1_e, if_neg i10]
theorem after_down {rk : Nat → Int32} {n d x0 x1 x2 : Int32} {ro2 sO2 : Nat → Int64} {k a b kM aM bM m s c w v sS : Nat → Int32} {nM : Int32} (hd : ¬ d = 0) : fX5_after rk ro2 n k a b m s c d x0 x1 x2 = some (-4, m, s, c) ∧ fX6_after sS sO2 d kM aM bM w v nM x0 x1 x2 = some (-4, w, v) := by
  rw [fX5_after, fX6_after, if_neg hd, if_neg hd]; exact ⟨rfl, rfl⟩
theorem score_both {rk rs sS k a b kM aM bM : Nat → Int32} {ro sO : Nat → Int64} {n : Nat} (hR : RR rk rs ro sS sO) (hq : RQ n k a b kM aM bM) (x0 : Int32) (m s c w v : Nat → Int32) :
    ∃ r m' s' c' w' v', fX5_score rk ro (nI n) k a b m s c 0 x0 = some (r, m', s', c') ∧ fX6_score sS sO 0 kM aM bM w v (nI n) x0 = some (r, w', v') := by
  have hk : ∀ j, j < n → 0 ≤ kM j ∧ kM j ≤ 6 := fun j hj => by rw [← (hq.2 j hj).1]; exact (hq.2 j hj).2.2.2.1
  have hc : whl kM n 0 1 = whl k n 0 1 := whl_congr n 0 1 (fun j h1 h2 => ((hq.2 j (by omega)).1).symm)
  by_cases h0 : 0 ≤ x0 ∧ x0 < 16
  · obtain ⟨i, hi, rfl⟩ := id_of h0
    have h15 : nI i ≤ 15 := by rw [l15, n_le (by omega) (by omega)]; omega
    by_cases hw : whl k n 0 1 = true
    · obtain ⟨m', s', c', e1, hsc⟩ := scoreAll_ok hq.1 (a := a) (b := b) hw rk ro m s c
      obtain ⟨w', v', e2⟩ := worth_ok hR hq hw hi w v
      refine ⟨qz_sc rk ro k a b n i, m', s', c', w', v', ?_, ?_⟩
      · rw [fX5_score, if_pos rfl, isId_n hi, cal1_e, jp_e]
        try dsimp only
        rw [if_neg i10, isWhole_y hq.1 hw, cal1_e, if_neg i10, e1, cal3_e, rdI_n hi (by omega), hsc i hi, jp_e]
        try dsimp only
        rcases qz_sc_or rk ro k a b hq.1 i with h | h
        · rw [h, if_pos (by decide)]
        · rw [if_neg (by grind), rdI_n hi (by omega), hsc i hi]
      · rw [fX6_score, if_pos rfl, in_yes h0.1 h15, cal1_e, jp_e]
        try dsimp only
        rw [if_neg i10, isQuery_ok hq.1 kM hk, hc, if_pos hw, cal1_e, if_neg i10, e2, cal3_e]
    · refine ⟨-1, m, s, c, w, v, ?_, ?_⟩
      · rw [fX5_score, if_pos rfl, isId_n hi, cal1_e, jp_e]
        try dsimp only
        rw [if_neg i10, isWhole_n hq.1 hw, cal1_e, if_pos rfl]
      · rw [fX6_score, if_pos rfl, in_yes h0.1 h15, cal1_e, jp_e]
        try dsimp only
        rw [if_neg i10, isQuery_ok hq.1 kM hk, hc, if_neg hw, cal1_e, if_pos rfl]
  · refine ⟨-1, m, s, c, w, v, ?_, ?_⟩
    · rw [fX5_score, if_pos rfl, isId_no h0, cal1_e, jp_e]
      try dsimp only
      rw [if_pos rfl]
    · rw [fX6_score, if_pos rfl, in_no (fun z => h0 ⟨z.1, by grind⟩), cal1_e, jp_e]
      try dsimp only
      rw [if_pos rfl]
theorem score_down {rk : Nat → Int32} {n d x0 : Int32} {ro2 sO2 : Nat → Int64} {k a b kM aM bM m s c w v sS : Nat → Int32} {nM : Int32} (hd : ¬ d = 0) : fX5_score rk ro2 n k a b m s c d x0 = some (-4, m, s, c) ∧ fX6_score sS sO2 d kM aM bM w v nM x0 = some (-4, w, v) := by
  rw [fX5_score, fX6_score, if_neg hd, if_neg hd]; exact ⟨rfl, rfl⟩
