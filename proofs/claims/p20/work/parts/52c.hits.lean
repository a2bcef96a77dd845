/-! the class's answers about a query, and the order of documents -/
def lsc (xs : Nat → Int32) (Ln T : Nat) (k : Nat → Int32) (o : Nat → Int64) (i : Nat) : Int32 := if k i = 1 ∧ mtc xs Ln T (o i) = true then nI (scr xs Ln T (o i)) else -1
/-- the class's query is the law's -/
def QRL (xs : Nat → Int32) (Ln n : Nat) (qk qa qb : Nat → Int32) : Prop := ∀ j, j < n → qk j = KQ xs Ln j ∧ qa j = aV xs Ln j ∧ qb j = bV xs Ln j
theorem ct_cg {P Q : Nat → Prop} : ∀ {n : Nat}, (∀ i, i < n → (P i ↔ Q i)) → qz_ct P n = qz_ct Q n := by
  intro n
  induction n with
  | zero => intro _; rfl
  | succ n ih =>
    intro h
    have h1 := ih (fun i hi => h i (by omega))
    by_cases hp : P n
    · rw [ct_y hp, ct_y ((h n (by omega)).mp hp), h1]
    · rw [ct_n hp, ct_n (fun hq => hp ((h n (by omega)).mpr hq)), h1]
theorem ls_cg {P Q : Nat → Prop} : ∀ {n : Nat}, (∀ i, i < n → (P i ↔ Q i)) → qz_ls P n = qz_ls Q n := by
  intro n
  induction n with
  | zero => intro _; rfl
  | succ n ih =>
    intro h
    have h1 := ih (fun i hi => h i (by omega))
    by_cases hp : P n
    · rw [ls_y hp, ls_y ((h n (by omega)).mp hp)]
    · rw [ls_n hp, ls_n (fun hq => hp ((h n (by omega)).mpr hq)), h1]
/-- none of the later ones -/
theorem ct_ext {P : Nat → Prop} : ∀ {m n : Nat}, n ≤ m → (∀ i, n ≤ i → i < m → ¬ P i) → qz_ct P m = qz_ct P n := by
  intro m
  induction m with
  | zero => intro n h _; obtain rfl : n = 0 := by omega
            rfl
  | succ m ih =>
    intro n h hp
    by_cases e : n = m + 1
    · rw [e]
    · rw [ct_n (hp m (by omega) (by omega)), ih (by omega) (fun i a b => hp i a (by omega))]
theorem ct_one {P Q : Nat → Prop} {j : Nat} (hj : Q j) (hj2 : ¬ P j) : ∀ {n : Nat}, j < n → (∀ i, i < n → i ≠ j → (P i ↔ Q i)) → qz_ct Q n = qz_ct P n + 1 := by
  intro n
  induction n with
  | zero => intro h; omega
  | succ n ih =>
    intro hn h
    by_cases e : n = j
    · subst e
      rw [ct_y hj, ct_n hj2, ct_cg (P := Q) (Q := P) (fun i hi => (h i (by omega) (by omega)).symm)]
    · have h1 := ih (by omega) (fun i a b => h i (by omega) b)
      by_cases hp : P n
      · rw [ct_y hp, ct_y ((h n (by omega) e).mp hp), h1]
      · rw [ct_n hp, ct_n (fun hq => hp ((h n (by omega) e).mpr hq)), h1]
theorem ky_cg {s : Int32} {c c' : Nat → Int32} {ro : Nat → Int64} {i : Nat} (h : c i = c' i) : qz_ky s c ro i = qz_ky s c' ro i := by
  unfold qz_ky; rw [h]
theorem pb_cg {s : Int32} {c c' : Nat → Int32} {ro : Nat → Int64} (h : ∀ j, j < 16 → c j = c' j) {i o : Nat} (hi : i < 16) (ho : o < 16) : qz_pb s c ro i o ↔ qz_pb s c' ro i o := by
  unfold qz_pb; rw [h o ho, ky_cg (h i hi), ky_cg (h o ho)]
theorem pk_cg {s : Int32} {c c' : Nat → Int32} {ro : Nat → Int64} (h : ∀ j, j < 16 → c j = c' j) {i : Nat} (x1 : Int32) (hi : i < 16) : qz_pk s c ro x1 i ↔ qz_pk s c' ro x1 i := by
  unfold qz_pk; rw [h i hi, ct_cg (fun o ho => pb_cg h hi ho)]
theorem af_cg {s : Int32} {c c' : Nat → Int32} {ro : Nat → Int64} (h : ∀ j, j < 16 → c j = c' j) (x1 x2 : Int32) : ∀ {n : Nat}, n ≤ 16 → qz_af s c ro x1 x2 n = qz_af s c' ro x1 x2 n := by
  intro n
  induction n with
  | zero => intro _; rfl
  | succ n ih =>
    intro hn
    have h1 := ih (by omega)
    have hiff : ((0 ≤ c n ∧ qz_bh s (qz_ky s c ro n) (nI n) x1 x2) ∧ ∀ b, qz_af s c ro x1 x2 n = some b → qz_bh s (qz_ky s c ro b) (nI b) (qz_ky s c ro n) (nI n)) ↔ ((0 ≤ c' n ∧ qz_bh s (qz_ky s c' ro n) (nI n) x1 x2) ∧ ∀ b, qz_af s c' ro x1 x2 n = some b → qz_bh s (qz_ky s c' ro b) (nI b) (qz_ky s c' ro n) (nI n)) := by
      rw [h n (by omega), ky_cg (h n (by omega)), h1]
      constructor
      · intro ⟨a, b⟩
        refine ⟨a, fun q hq => ?_⟩
        have := b q hq
        rw [ky_cg (h q (by have := af_lt n q hq; omega))] at this
        exact this
      · intro ⟨a, b⟩
        refine ⟨a, fun q hq => ?_⟩
        have := b q hq
        rw [ky_cg (h q (by have := af_lt n q hq; omega))]
        exact this
    by_cases hp : (0 ≤ c n ∧ qz_bh s (qz_ky s c ro n) (nI n) x1 x2) ∧ ∀ b, qz_af s c ro x1 x2 n = some b → qz_bh s (qz_ky s c ro b) (nI b) (qz_ky s c ro n) (nI n)
    · rw [af_y hp, af_y (hiff.mp hp)]
    · rw [af_n hp, af_n (fun hq => hp (hiff.mpr hq)), h1]
/-! the order -/
theorem bh_as {s x i y j : Int32} (h1 : qz_bh s x i y j) (h2 : qz_bh s y j x i) : False := bh_ir (bh_tr h1 h2)
/-- the first one behind a key and an id -/
theorem af_spec (s x1 x2 : Int32) (sc : Nat → Int32) (ro : Nat → Int64) : ∀ (n : Nat), n ≤ 16 →
    (∀ b, qz_af s sc ro x1 x2 n = some b → b < n ∧ 0 ≤ sc b ∧ qz_bh s (qz_ky s sc ro b) (nI b) x1 x2 ∧ ∀ i, i < n → 0 ≤ sc i → qz_bh s (qz_ky s sc ro i) (nI i) x1 x2 → i = b ∨ qz_bh s (qz_ky s sc ro i) (nI i) (qz_ky s sc ro b) (nI b)) ∧
    (qz_af s sc ro x1 x2 n = none → ∀ i, i < n → 0 ≤ sc i → ¬ qz_bh s (qz_ky s sc ro i) (nI i) x1 x2) := by
  intro n
  induction n with
  | zero => intro _; exact ⟨fun b h => (by cases h), fun _ i hi => absurd hi (Nat.not_lt_zero _)⟩
  | succ n ih =>
    intro hn
    obtain ⟨ih1, ih2⟩ := ih (by omega)
    by_cases hp : (0 ≤ sc n ∧ qz_bh s (qz_ky s sc ro n) (nI n) x1 x2) ∧ ∀ b, qz_af s sc ro x1 x2 n = some b → qz_bh s (qz_ky s sc ro b) (nI b) (qz_ky s sc ro n) (nI n)
    · rw [af_y hp]
      refine ⟨fun b h => ?_, fun h => (by cases h)⟩
      cases h
      refine ⟨by omega, hp.1.1, hp.1.2, fun i hi h1 h2 => ?_⟩
      by_cases e : i = n
      · exact Or.inl e
      · right
        cases hb : qz_af s sc ro x1 x2 n with
        | none => exact absurd h2 (ih2 hb i (by omega) h1)
        | some b =>
          obtain ⟨b1, b2, b3, b4⟩ := ih1 b hb
          rcases b4 i (by omega) h1 h2 with e2 | h3
          · rw [e2]; exact hp.2 b hb
          · exact bh_tr h3 (hp.2 b hb)
    · rw [af_n hp]
      refine ⟨fun b h => ?_, fun h i hi h1 h2 => ?_⟩
      · obtain ⟨b1, b2, b3, b4⟩ := ih1 b h
        refine ⟨by omega, b2, b3, fun i hi h1 h2 => ?_⟩
        by_cases e : i = n
        · subst e
          right
          have hne : nI i ≠ nI b := by intro hh; rw [n_eq (by omega) (by omega)] at hh; omega
          rcases bh_tot (s := s) (x := qz_ky s sc ro i) (y := qz_ky s sc ro b) hne with g | g
          · exact g
          · exact absurd ⟨⟨h1, h2⟩, fun b' hb' => by rw [h] at hb'; cases hb'; exact g⟩ hp
        · exact b4 i (by omega) h1 h2
      · by_cases e : i = n
        · subst e
          exact hp ⟨⟨h1, h2⟩, fun b hb => by rw [h] at hb; cases hb⟩
        · exact ih2 h i (by omega) h1 h2
theorem pb_self {s : Int32} {sc : Nat → Int32} {ro : Nat → Int64} {i : Nat} : ¬ qz_pb s sc ro i i := fun h => bh_ir h.2
/-- the successor has the next rank -/
theorem succ_rank {s : Int32} {sc : Nat → Int32} {ro : Nat → Int64} {id : Nat} (hid : id < 16) (hs : 0 ≤ sc id) : qz_ob (qz_af s sc ro (qz_ky s sc ro id) (nI id) 16) = qz_ls (qz_pk s sc ro (nI (qz_ct (qz_pb s sc ro id) 16 + 1))) 16 := by
  obtain ⟨a1, a2⟩ := af_spec s (qz_ky s sc ro id) (nI id) sc ro 16 (Nat.le_refl _)
  have hne : ∀ i j : Nat, i < 16 → j < 16 → i ≠ j → nI i ≠ nI j := fun i j hi hj h hh => by rw [n_eq (by omega) (by omega)] at hh; exact h hh
  cases hb : qz_af s sc ro (qz_ky s sc ro id) (nI id) 16 with
  | none =>
    have h := a2 hb
    refine (ls_none (fun i hi hpk => ?_)).symm
    obtain ⟨p1, p2⟩ := hpk
    have c1 := ct_le (qz_pb s sc ro i) 16
    have c2 := ct_le (qz_pb s sc ro id) 16
    rw [n_eq (by omega) (by omega)] at p2
    by_cases e : i = id
    · subst e; omega
    · rcases bh_tot (s := s) (x := qz_ky s sc ro i) (y := qz_ky s sc ro id) (hne i id hi hid e) with g | g
      · exact h i hi p1 g
      · have hm : ∀ o, o < 16 → qz_pb s sc ro i o → qz_pb s sc ro id o := fun o ho hp => ⟨hp.1, bh_tr g hp.2⟩
        have := ct_mono hm
        omega
  | some b =>
    obtain ⟨b1, b2, b3, b4⟩ := a1 b hb
    have hcount : qz_ct (qz_pb s sc ro b) 16 = qz_ct (qz_pb s sc ro id) 16 + 1 := by
      refine ct_one (j := id) ⟨hs, b3⟩ pb_self hid (fun i hi hine => ⟨fun hp => ⟨hp.1, bh_tr b3 hp.2⟩, fun hp => ⟨hp.1, ?_⟩⟩)
      rcases bh_tot (s := s) (x := qz_ky s sc ro id) (y := qz_ky s sc ro i) (hne id i hid hi (fun h => hine h.symm)) with g | g
      · exact g
      · rcases b4 i hi hp.1 g with e | g2
        · subst e; exact absurd hp pb_self
        · exact absurd g2 (fun g2 => bh_as g2 hp.2)
    have hpkb : qz_pk s sc ro (nI (qz_ct (qz_pb s sc ro id) 16 + 1)) b := ⟨b2, by rw [hcount]⟩
    exact (ls_of b1 hpkb (fun i hi hp => pk_uni hi b1 hp hpkb)).symm
/-- the first one behind its own key and the id before it is itself -/
theorem self_after {s : Int32} {sc : Nat → Int32} {ro : Nat → Int64} {id : Nat} (hid : id < 16) (hs : 0 ≤ sc id) : qz_ob (qz_af s sc ro (qz_ky s sc ro id) (mI id) 16) = nI id := by
  obtain ⟨a1, a2⟩ := af_spec s (qz_ky s sc ro id) (mI id) sc ro 16 (Nat.le_refl _)
  have hself : qz_bh s (qz_ky s sc ro id) (nI id) (qz_ky s sc ro id) (mI id) := by
    unfold qz_bh
    rw [if_pos rfl, mn_lt (by omega) (by omega)]
    omega
  cases hb : qz_af s sc ro (qz_ky s sc ro id) (mI id) 16 with
  | none => exact absurd hself (a2 hb id hid hs)
  | some b =>
    obtain ⟨b1, b2, b3, b4⟩ := a1 b hb
    show nI b = nI id
    by_cases e : b = id
    · rw [e]
    · exfalso
      have hg := (b4 id hid hs hself).resolve_left (fun h => e h.symm)
      -- id is behind b, and b is behind (key of id, id - 1)
      unfold qz_bh at hg b3
      by_cases hk : qz_ky s sc ro id = qz_ky s sc ro b
      · rw [if_pos hk, n_lt (by omega) (by omega)] at hg
        rw [if_pos hk.symm, mn_lt (by omega) (by omega)] at b3
        omega
      · rw [if_neg hk] at hg
        rw [if_neg (fun h => hk h.symm)] at b3
        by_cases h1 : s = 1
        · rw [if_pos h1] at hg b3; grind
        · rw [if_neg h1] at hg b3; grind
theorem rank_lt {s : Int32} {sc : Nat → Int32} {ro : Nat → Int64} {i : Nat} (hi : i < 16) (hs : 0 ≤ sc i) : qz_ct (qz_pb s sc ro i) 16 < qz_ct (fun o => 0 ≤ sc o) 16 := ct_lt (fun o _ h => h.1) hi hs pb_self
/-! the class's calls -/
section XC2
variable {xs : Nat → Int32} {Ln T : Nat} {k rk qk qa qb : Nat → Int32} {o ro : Nat → Int64}
theorem scAll (hT : T ≤ 14) (h0 : mgT xs Ln T = 0) (h1 : ∀ j, j < T → 1 ≤ mgT xs Ln j) (hq : QRL xs Ln T qk qa qb) (hv : VIS k o rk ro) (m s c : Nat → Int32) : ∃ m' s' c', fX5_scoreAll rk ro (nI T) qk qa qb m s c = some (m', s', c') ∧ ∀ j, j < 16 → c' j = lsc xs Ln T k o j := by
  have hw : whl qk T 0 1 = true := by rw [whl_T h0 h1 (Nat.le_refl _) (fun j hj => (hq j hj).1), decide_eq_true rfl]
  obtain ⟨m', s', c', e1, hsc⟩ := scoreAll_ok (show T ≤ 15 by omega) (a := qa) (b := qb) hw rk ro m s c
  refine ⟨m', s', c', e1, fun j hj => ?_⟩
  rw [hsc j hj]
  obtain ⟨v1, v2⟩ := hv j hj
  unfold qz_sc lsc qz_val
  rw [qz_run_cg (ro j) T 0 _ _ hq, v2]
  by_cases hk : k j = 1
  · rw [if_pos (v1.mpr hk)]
    by_cases hm : mtc xs Ln T (o j) = true
    · exact (if_pos hm).trans (if_pos ⟨hk, hm⟩).symm
    · exact (if_neg hm).trans (if_neg (fun h => hm h.2)).symm
  · rw [if_neg (fun h => hk (v1.mp h)), if_neg (fun h => hk h.1)]
theorem hitN (hT : T ≤ 14) (h0 : mgT xs Ln T = 0) (h1 : ∀ j, j < T → 1 ≤ mgT xs Ln j) (hq : QRL xs Ln T qk qa qb) (hv : VIS k o rk ro) {x0 : Int32} (hs : 0 ≤ x0 ∧ x0 ≤ 2) (r : Nat) (hr : r < 1000) (m s c : Nat → Int32) : ∃ m' s' c', fX5_hit rk ro (nI T) qk qa qb m s c 0 x0 (nI r) = some (qz_ls (qz_pk x0 (lsc xs Ln T k o) ro (nI r)) 16, m', s', c') := by
  have hw : whl qk T 0 1 = true := by rw [whl_T h0 h1 (Nat.le_refl _) (fun j hj => (hq j hj).1), decide_eq_true rfl]
  obtain ⟨m', s', c', e1, hsc⟩ := scAll hT h0 h1 hq hv m s c
  refine ⟨m', s', c', ?_⟩
  have n1 : ¬ nI r < -1 := by
    intro h
    have h5 := Int32.lt_iff_toInt_lt.mp h
    rw [nI_toInt (by omega), show (-1 : Int32).toInt = -1 from rfl] at h5
    omega
  have n2 : ¬ nI r = -1 := by
    intro h
    have h5 := congrArg Int32.toInt h
    rw [nI_toInt (by omega), show (-1 : Int32).toInt = -1 from rfl] at h5
    omega
  rw [fX5_hit, if_pos rfl, isSort_y hs, cal1_e, jp_e]
  try dsimp only
  rw [if_neg i10, if_neg n1, isWhole_y (show T ≤ 15 by omega) hw, cal1_e, if_neg i10, e1, cal3_e, if_neg n2, jp_e]
  refine Eq.trans (lo1_at (hitX_loop x0 c' ro (nI r) m' s' 16 0 (by omega) 1000 (by omega) (fun j hj => by omega)) rfl) ?_
  rw [ls_cg (fun i hi => pk_cg hsc (nI r) hi)]
theorem hitM (hT : T ≤ 14) (h0 : mgT xs Ln T = 0) (h1 : ∀ j, j < T → 1 ≤ mgT xs Ln j) (hq : QRL xs Ln T qk qa qb) (hv : VIS k o rk ro) {x0 : Int32} (hs : 0 ≤ x0 ∧ x0 ≤ 2) (m s c : Nat → Int32) : ∃ m' s' c', fX5_hit rk ro (nI T) qk qa qb m s c 0 x0 (-1) = some (nI (qz_ct (fun j => 0 ≤ lsc xs Ln T k o j) 16), m', s', c') := by
  have hw : whl qk T 0 1 = true := by rw [whl_T h0 h1 (Nat.le_refl _) (fun j hj => (hq j hj).1), decide_eq_true rfl]
  obtain ⟨m', s', c', e1, hsc⟩ := scAll hT h0 h1 hq hv m s c
  refine ⟨m', s', c', ?_⟩
  rw [fX5_hit, if_pos rfl, isSort_y hs, cal1_e, jp_e]
  try dsimp only
  rw [if_neg i10, if_neg (show ¬ (-1 : Int32) < -1 by decide), isWhole_y (show T ≤ 15 by omega) hw, cal1_e, if_neg i10, e1, cal3_e, if_pos rfl, cmX_ok, cal1_e, ct_cg (P := fun o => 0 ≤ c' o) (Q := fun j => 0 ≤ lsc xs Ln T k o j) (fun i hi => by rw [hsc i hi])]
theorem hitB (h0 : mgT xs Ln T = 0) (h1 : ∀ j, j < T → 1 ≤ mgT xs Ln j) {n : Nat} (hn : n < T) (hn2 : n ≤ 15) (hq : QRL xs Ln n qk qa qb) (m s c : Nat → Int32) : fX5_hit rk ro (nI n) qk qa qb m s c 0 0 0 = some (-1, m, s, c) := by
  have hw : ¬ whl qk n 0 1 = true := by rw [whl_T h0 h1 (by omega) (fun j hj => (hq j hj).1), decide_eq_false (by omega)]; decide
  rw [fX5_hit, if_pos rfl, isSort_y ⟨by decide, by decide⟩, cal1_e, jp_e]
  try dsimp only
  rw [if_neg i10, if_neg (show ¬ (0 : Int32) < -1 by decide), isWhole_n hn2 hw, cal1_e, if_pos rfl]
theorem afterN (hT : T ≤ 14) (h0 : mgT xs Ln T = 0) (h1 : ∀ j, j < T → 1 ≤ mgT xs Ln j) (hq : QRL xs Ln T qk qa qb) (hv : VIS k o rk ro) {x0 : Int32} (hs : 0 ≤ x0 ∧ x0 ≤ 2) (x1 x2 : Int32) (m s c : Nat → Int32) : ∃ m' s' c', fX5_after rk ro (nI T) qk qa qb m s c 0 x0 x1 x2 = some (qz_ob (qz_af x0 (lsc xs Ln T k o) ro x1 x2 16), m', s', c') := by
  have hw : whl qk T 0 1 = true := by rw [whl_T h0 h1 (Nat.le_refl _) (fun j hj => (hq j hj).1), decide_eq_true rfl]
  obtain ⟨m', s', c', e1, hsc⟩ := scAll hT h0 h1 hq hv m s c
  refine ⟨m', s', c', ?_⟩
  rw [fX5_after, if_pos rfl, isSort_y hs, cal1_e, jp_e]
  try dsimp only
  rw [if_neg i10, isWhole_y (show T ≤ 15 by omega) hw, cal1_e, if_neg i10, e1, cal3_e, jp_e]
  refine Eq.trans (lo2_at (afX_loop x0 x1 x2 c' ro _ 16 0 (by omega) 1000 (by omega)) rfl rfl) ?_
  rw [af_cg hsc x1 x2 (Nat.le_refl _)]
theorem scoreN (hT : T ≤ 14) (h0 : mgT xs Ln T = 0) (h1 : ∀ j, j < T → 1 ≤ mgT xs Ln j) (hq : QRL xs Ln T qk qa qb) (hv : VIS k o rk ro) {i : Nat} (hi : i < 16) (m s c : Nat → Int32) : ∃ m' s' c', fX5_score rk ro (nI T) qk qa qb m s c 0 (nI i) = some (lsc xs Ln T k o i, m', s', c') := by
  have hw : whl qk T 0 1 = true := by rw [whl_T h0 h1 (Nat.le_refl _) (fun j hj => (hq j hj).1), decide_eq_true rfl]
  obtain ⟨m', s', c', e1, hsc⟩ := scAll hT h0 h1 hq hv m s c
  refine ⟨m', s', c', ?_⟩
  rw [fX5_score, if_pos rfl, isId_n hi, cal1_e, jp_e]
  try dsimp only
  rw [if_neg i10, isWhole_y (show T ≤ 15 by omega) hw, cal1_e, if_neg i10, e1, cal3_e, rdI_n hi (by omega), hsc i hi, jp_e]
  try dsimp only
  by_cases hm : k i = 1 ∧ mtc xs Ln T (o i) = true
  · have hle := scr_le h0 h1 hT (o i)
    have hl : lsc xs Ln T k o i = nI (scr xs Ln T (o i)) := if_pos hm
    rw [hl, if_neg (by rw [l0, n_lt (by omega) (by omega)]; omega), rdI_n hi (by omega), hsc i hi, hl]
  · have hl : lsc xs Ln T k o i = -1 := if_neg hm
    rw [hl, if_pos (by decide)]
theorem lsc_p (h0 : mgT xs Ln T = 0) (h1 : ∀ j, j < T → 1 ≤ mgT xs Ln j) (hT : T ≤ 14) (i : Nat) : 0 ≤ lsc xs Ln T k o i ↔ (k i = 1 ∧ mtc xs Ln T (o i) = true) := by
  unfold lsc
  by_cases hm : k i = 1 ∧ mtc xs Ln T (o i) = true
  · have hle := scr_le h0 h1 hT (o i)
    rw [if_pos hm, l0, n_le (by omega) (by omega)]
    exact ⟨fun _ => hm, fun _ => by omega⟩
  · rw [if_neg hm]
    exact ⟨fun h => absurd h (by decide), fun h => absurd h hm⟩
end XC2
