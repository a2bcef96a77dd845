/-! hit, after, score -/
/-- the key of a document in a sort -/
def qz_ky (s : Int32) (sc : Nat → Int32) (ro : Nat → Int64) (i : Nat) : Int32 := if s = 0 then sc i else Int64.toInt32 (ro i)
/-- the first comes behind the second in a sort -/
def qz_bh (s x i y j : Int32) : Prop := if x = y then j < i else if s = 1 then y < x else x < y
theorem behind_y {s x i y j : Int32} (h : qz_bh s x i y j) : fX5_isBehind s x i y j = some 1 := by
  unfold qz_bh at h
  rw [fX5_isBehind]
  simp only [jp_e]
  by_cases e : x = y
  · rw [if_pos e] at h ⊢
    rw [if_neg (by grind)]; rfl
  · rw [if_neg e] at h ⊢
    by_cases e2 : s = 1
    · rw [if_pos e2] at h ⊢
      rw [if_neg (by grind)]; rfl
    · rw [if_neg e2] at h ⊢
      rw [if_neg (by grind)]; rfl
theorem behind_n {s x i y j : Int32} (h : ¬ qz_bh s x i y j) : fX5_isBehind s x i y j = some 0 := by
  unfold qz_bh at h
  rw [fX5_isBehind]
  simp only [jp_e]
  by_cases e : x = y
  · rw [if_pos e] at h ⊢
    rw [if_pos (by grind)]; rfl
  · rw [if_neg e] at h ⊢
    by_cases e2 : s = 1
    · rw [if_pos e2] at h ⊢
      rw [if_pos (by grind)]; rfl
    · rw [if_neg e2] at h ⊢
      rw [if_pos (by grind)]; rfl
theorem bh_tr {s x i y j z k : Int32} (h1 : qz_bh s x i y j) (h2 : qz_bh s y j z k) : qz_bh s x i z k := by
  unfold qz_bh at *
  split at h1 <;> split at h2 <;> split <;> (try split at h1) <;> (try split at h2) <;> (try split) <;> grind
theorem bh_ir {s x i : Int32} : ¬ qz_bh s x i x i := by unfold qz_bh; rw [if_pos rfl]; grind
theorem bh_tot {s x i y j : Int32} (h : i ≠ j) : qz_bh s x i y j ∨ qz_bh s y j x i := by
  unfold qz_bh
  by_cases e : x = y
  · rw [if_pos e, if_pos e.symm]; grind
  · rw [if_neg e, if_neg (show ¬ y = x from fun z => e z.symm)]
    by_cases e2 : s = 1
    · rw [if_pos e2, if_pos e2]; grind
    · rw [if_neg e2, if_neg e2]; grind
theorem keyX_ok (ro : Nat → Int64) (w : Nat → Int32) (s : Int32) {i : Nat} (hi : i < 16) : fX5_keyOf ro w s (nI i) = some (qz_ky s w ro i) := by
  rw [fX5_keyOf, isId_n hi, cal1_e, if_neg (by decide)]
  simp only [jp_e]
  unfold qz_ky
  by_cases h : s = 0
  · rw [if_pos h, if_pos h, rdI_n hi (by omega)]
  · rw [if_neg h, if_neg h, sourceOf_ok ro hi, cal1_e, bnd_e]
/-- how many below a number are so -/
noncomputable def qz_ct (P : Nat → Prop) : Nat → Nat
  | 0 => 0
  | n + 1 => qz_ct P n + @ite Nat (P n) (Classical.propDecidable (P n)) 1 0
theorem ct_y {P : Nat → Prop} {n : Nat} (h : P n) : qz_ct P (n + 1) = qz_ct P n + 1 := by
  show qz_ct P n + @ite Nat (P n) (Classical.propDecidable (P n)) 1 0 = _
  rw [if_pos h]
theorem ct_n {P : Nat → Prop} {n : Nat} (h : ¬ P n) : qz_ct P (n + 1) = qz_ct P n := by
  show qz_ct P n + @ite Nat (P n) (Classical.propDecidable (P n)) 1 0 = _
  rw [if_neg h, Nat.add_zero]
theorem ct_le (P : Nat → Prop) (n : Nat) : qz_ct P n ≤ n := by
  induction n with
  | zero => exact Nat.le_refl _
  | succ n ih =>
    by_cases h : P n
    · rw [ct_y h]; omega
    · rw [ct_n h]; omega
theorem ct_mono {P Q : Nat → Prop} {n : Nat} (h : ∀ i, i < n → P i → Q i) : qz_ct P n ≤ qz_ct Q n := by
  induction n with
  | zero => exact Nat.le_refl _
  | succ n ih =>
    have := ih (fun i hi => h i (by omega))
    by_cases hp : P n
    · rw [ct_y hp, ct_y (h n (by omega) hp)]; omega
    · rw [ct_n hp]
      by_cases hq : Q n
      · rw [ct_y hq]; omega
      · rw [ct_n hq]; omega
theorem ct_lt {P Q : Nat → Prop} {n j : Nat} (h : ∀ i, i < n → P i → Q i) (hj : j < n) (h1 : Q j) (h2 : ¬ P j) : qz_ct P n < qz_ct Q n := by
  induction n with
  | zero => omega
  | succ n ih =>
    by_cases e : j = n
    · subst e
      have := ct_mono (P := P) (Q := Q) (n := j) (fun i hi => h i (by omega))
      rw [ct_n h2, ct_y h1]; omega
    · have := ih (fun i hi => h i (by omega)) (by omega)
      by_cases hp : P n
      · rw [ct_y hp, ct_y (h n (by omega) hp)]; omega
      · rw [ct_n hp]
        by_cases hq : Q n
        · rw [ct_y hq]; omega
        · rw [ct_n hq]; omega
/-- the last below a number that is so -/
noncomputable def qz_ls (P : Nat → Prop) : Nat → Int32
  | 0 => -1
  | n + 1 => @ite Int32 (P n) (Classical.propDecidable (P n)) (nI n) (qz_ls P n)
theorem ls_y {P : Nat → Prop} {n : Nat} (h : P n) : qz_ls P (n + 1) = nI n := by
  show @ite Int32 (P n) (Classical.propDecidable (P n)) (nI n) (qz_ls P n) = _
  rw [if_pos h]
theorem ls_n {P : Nat → Prop} {n : Nat} (h : ¬ P n) : qz_ls P (n + 1) = qz_ls P n := by
  show @ite Int32 (P n) (Classical.propDecidable (P n)) (nI n) (qz_ls P n) = _
  rw [if_neg h]
theorem ls_none {P : Nat → Prop} {n : Nat} (h : ∀ i, i < n → ¬ P i) : qz_ls P n = -1 := by
  induction n with
  | zero => rfl
  | succ n ih => rw [ls_n (h n (by omega))]; exact ih (fun i hi => h i (by omega))
theorem ls_of {P : Nat → Prop} {n q : Nat} (hq : q < n) (hp : P q) (hu : ∀ i, i < n → P i → i = q) : qz_ls P n = nI q := by
  induction n with
  | zero => omega
  | succ n ih =>
    by_cases e : n = q
    · subst e; exact ls_y hp
    · rw [ls_n (fun z => e (hu n (by omega) z))]
      exact ih (by omega) (fun i hi => hu i (by omega))
theorem cmX_loop (sc : Nat → Int32) (J : Int32 → Option Int32) : ∀ (m i : Nat), i + m = 16 → ∀ (f : Nat), m < f → lo2 (sX5_countMatches_4 J sc) f (nI (qz_ct (fun o => 0 ≤ sc o) i)) (nI i) = J (nI (qz_ct (fun o => 0 ≤ sc o) 16)) := by
  intro m
  induction m with
  | zero =>
    intro i hi f hf
    obtain ⟨f, rfl⟩ : ∃ z, f = z + 1 := ⟨f - 1, by omega⟩
    obtain rfl : i = 16 := by omega
    rw [lo2_s, sX5_countMatches_4, if_pos (by rw [l16, n_le (by omega) (by omega)]; omega)]
  | succ m ih =>
    intro i hi f hf
    obtain ⟨f, rfl⟩ : ∃ z, f = z + 1 := ⟨f - 1, by omega⟩
    have hI := ih (i + 1) (by omega) f (by omega)
    rw [lo2_s, sX5_countMatches_4, if_neg (by rw [l16, n_le (by omega) (by omega)]; omega), rdI_n (by omega) (by omega), jp_e]
    try dsimp only
    rw [nI_1 i]
    by_cases h : 0 ≤ sc i
    · rw [ct_y (P := fun o => 0 ≤ sc o) h] at hI
      rw [if_neg (by grind), nI_1 _, bnd_e, bnd_e, hI]
    · rw [ct_n (P := fun o => 0 ≤ sc o) h] at hI
      rw [if_pos (by grind), bnd_e, hI]
theorem cmX_ok (sc : Nat → Int32) : fX5_countMatches sc = some (nI (qz_ct (fun o => 0 ≤ sc o) 16)) := by
  rw [fX5_countMatches, jp_e]
  try dsimp only
  exact lo2_at (cmX_loop sc _ 16 0 (by omega) 1000 (by omega)) rfl rfl
/-- the other comes before a document -/
def qz_pb (s : Int32) (sc : Nat → Int32) (ro : Nat → Int64) (i o : Nat) : Prop := 0 ≤ sc o ∧ qz_bh s (qz_ky s sc ro i) (nI i) (qz_ky s sc ro o) (nI o)
theorem rkX_loop (s : Int32) (sc : Nat → Int32) (ro : Nat → Int64) {i : Nat} (hi : i < 16) (J : Int32 → Option Int32) : ∀ (m q : Nat), q + m = 16 → ∀ (f : Nat), m < f → lo2 (sX5_rankOf_5 J sc ro s (nI i)) f (nI (qz_ct (qz_pb s sc ro i) q)) (nI q) = J (nI (qz_ct (qz_pb s sc ro i) 16)) := by
  intro m
  induction m with
  | zero =>
    intro q hq f hf
    obtain ⟨f, rfl⟩ : ∃ z, f = z + 1 := ⟨f - 1, by omega⟩
    obtain rfl : q = 16 := by omega
    rw [lo2_s, sX5_rankOf_5, if_pos (by rw [l16, n_le (by omega) (by omega)]; omega)]
  | succ m ih =>
    intro q hq f hf
    obtain ⟨f, rfl⟩ : ∃ z, f = z + 1 := ⟨f - 1, by omega⟩
    have hI := ih (q + 1) (by omega) f (by omega)
    rw [lo2_s, sX5_rankOf_5, if_neg (by rw [l16, n_le (by omega) (by omega)]; omega), rdI_n (by omega) (by omega), jp_e]
    try dsimp only
    rw [nI_1 q]
    by_cases h : 0 ≤ sc q
    · rw [if_neg (by grind), keyX_ok ro sc s hi, cal1_e, keyX_ok ro sc s (by omega), cal1_e]
      by_cases hb : qz_bh s (qz_ky s sc ro i) (nI i) (qz_ky s sc ro q) (nI q)
      · rw [ct_y (P := qz_pb s sc ro i) ⟨h, hb⟩] at hI
        rw [behind_y hb, cal1_e, if_neg (by decide), nI_1 _, bnd_e, bnd_e, hI]
      · rw [ct_n (P := qz_pb s sc ro i) (fun z => hb z.2)] at hI
        rw [behind_n hb, cal1_e, if_pos rfl, bnd_e, hI]
    · rw [ct_n (P := qz_pb s sc ro i) (fun z => h z.1)] at hI
      rw [if_pos (by grind), bnd_e, hI]
theorem rankX_ok (s : Int32) (sc : Nat → Int32) (ro : Nat → Int64) {i : Nat} (hi : i < 16) : fX5_rankOf ro sc s (nI i) = some (nI (qz_ct (qz_pb s sc ro i) 16)) := by
  rw [fX5_rankOf, jp_e]
  try dsimp only
  exact lo2_at (rkX_loop s sc ro hi _ 16 0 (by omega) 1000 (by omega)) rfl rfl
theorem rank_ne {s : Int32} {sc : Nat → Int32} {ro : Nat → Int64} {i j : Nat} (hi : i < 16) (hj : j < 16) (hsi : 0 ≤ sc i) (hsj : 0 ≤ sc j) (h : qz_ct (qz_pb s sc ro i) 16 = qz_ct (qz_pb s sc ro j) 16) : i = j := by
  by_cases e : i = j
  · exact e
  · exfalso
    have lt : ∀ i j : Nat, i < 16 → j < 16 → 0 ≤ sc j → qz_bh s (qz_ky s sc ro i) (nI i) (qz_ky s sc ro j) (nI j) → qz_ct (qz_pb s sc ro j) 16 < qz_ct (qz_pb s sc ro i) 16 := by
      intro i j hi hj hsj hb
      exact ct_lt (fun o ho z => ⟨z.1, bh_tr hb z.2⟩) hj ⟨hsj, hb⟩ (fun z => bh_ir z.2)
    have hne : nI i ≠ nI j := fun z => e (by rwa [n_eq (by omega) (by omega)] at z)
    rcases bh_tot (s := s) (x := qz_ky s sc ro i) (y := qz_ky s sc ro j) hne with hb | hb
    · have := lt i j hi hj hsj hb; omega
    · have := lt j i hj hi hsi hb; omega
/-- the document is the one of this rank -/
def qz_pk (s : Int32) (sc : Nat → Int32) (ro : Nat → Int64) (x1 : Int32) (i : Nat) : Prop := 0 ≤ sc i ∧ nI (qz_ct (qz_pb s sc ro i) 16) = x1
theorem pk_uni {s : Int32} {sc : Nat → Int32} {ro : Nat → Int64} {x1 : Int32} {i j : Nat} (hi : i < 16) (hj : j < 16) (h1 : qz_pk s sc ro x1 i) (h2 : qz_pk s sc ro x1 j) : i = j := by
  have c1 := ct_le (qz_pb s sc ro i) 16
  have c2 := ct_le (qz_pb s sc ro j) 16
  have e : nI (qz_ct (qz_pb s sc ro i) 16) = nI (qz_ct (qz_pb s sc ro j) 16) := h1.2.trans h2.2.symm
  rw [n_eq (by omega) (by omega)] at e
  exact rank_ne hi hj h1.1 h2.1 e
theorem hitX_loop (s : Int32) (sc : Nat → Int32) (ro : Nat → Int64) (x1 : Int32) (u5 u6 : Nat → Int32) : ∀ (m q : Nat), q + m = 16 → ∀ (f : Nat), m < f → (∀ j, j < q → ¬ qz_pk s sc ro x1 j) → lo1 (sX5_hit_50 (some (-1, u5, u6, sc)) sc ro s x1 u5 u6) f (nI q) = some (qz_ls (qz_pk s sc ro x1) 16, u5, u6, sc) := by
  intro m
  induction m with
  | zero =>
    intro q hq f hf hn
    obtain ⟨f, rfl⟩ : ∃ z, f = z + 1 := ⟨f - 1, by omega⟩
    obtain rfl : q = 16 := by omega
    rw [lo1_s, sX5_hit_50, if_pos (by rw [l16, n_le (by omega) (by omega)]; omega), ls_none hn]
  | succ m ih =>
    intro q hq f hf hn
    obtain ⟨f, rfl⟩ : ∃ z, f = z + 1 := ⟨f - 1, by omega⟩
    rw [lo1_s, sX5_hit_50, if_neg (by rw [l16, n_le (by omega) (by omega)]; omega), rdI_n (by omega) (by omega), jp_e]
    try dsimp only
    rw [nI_1 q, bnd_e]
    have hI : ¬ qz_pk s sc ro x1 q → lo1 (sX5_hit_50 (some (-1, u5, u6, sc)) sc ro s x1 u5 u6) f (nI (q + 1)) = some (qz_ls (qz_pk s sc ro x1) 16, u5, u6, sc) := by
      intro hk
      refine ih (q + 1) (by omega) f (by omega) (fun j hj => ?_)
      by_cases e : j = q
      · subst e; exact hk
      · exact hn j (by omega)
    by_cases h : 0 ≤ sc q
    · rw [if_neg (by grind), rankX_ok s sc ro (by omega), cal1_e]
      by_cases e : nI (qz_ct (qz_pb s sc ro q) 16) = x1
      · rw [if_pos e, ls_of (by omega) (show qz_pk s sc ro x1 q from ⟨h, e⟩) (fun i hi hp => pk_uni hi (by omega) hp ⟨h, e⟩)]
      · rw [if_neg e, hI (fun z => e z.2)]
    · rw [if_pos (by grind), hI (fun z => h z.1)]

