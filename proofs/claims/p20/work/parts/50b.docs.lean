/-! loops over the documents -/
theorem copy_loop (J : (Nat → Int32) → (Nat → Int32) → (Nat → Int32) → (Nat → Int64) → Option ((Nat → Int32) × (Nat → Int32) × (Nat → Int32) × (Nat → Int64))) (k s v : Nat → Int32) (o : Nat → Int64) :
    ∀ (m i : Nat), i + m = 16 → ∀ (n : Nat), m < n → ∀ (y : Int32), y = nI i → ∀ (a b c : Nat → Int32) (d : Nat → Int64), lo5 (sX0_copyFrom_2 J k s v o) n y a b c d = J (cpf a k i 16) (cpf b s i 16) (cpf c v i 16) (cpf d o i 16) := by
  intro m
  induction m with
  | zero =>
    intro i hi n hn y hy a b c d
    subst hy
    obtain ⟨n, rfl⟩ : ∃ z, n = z + 1 := ⟨n - 1, by omega⟩
    obtain rfl : i = 16 := by omega
    rw [lo5_s, sX0_copyFrom_2]
    rw [if_pos (by rw [l16, n_le (by omega) (by omega)]; omega), cpf_n, cpf_n, cpf_n, cpf_n]
  | succ m ih =>
    intro i hi n hn y hy a b c d
    subst hy
    obtain ⟨n, rfl⟩ : ∃ z, n = z + 1 := ⟨n - 1, by omega⟩
    rw [lo5_s, sX0_copyFrom_2]
    rw [if_neg (by rw [l16, n_le (by omega) (by omega)]; omega)]
    rw [rdI_n (by omega) (by omega), wrI_n (by omega) (by omega), rdI_n (by omega) (by omega), wrI_n (by omega) (by omega), rdI_n (by omega) (by omega), wrI_n (by omega) (by omega), rdJ_n (by omega) (by omega), wrJ_n (by omega) (by omega)]
    simp only [bnd_e]
    rw [nI_1, ih (i + 1) (by omega) n (by omega) _ rfl, cpf_s _ _ (by omega), cpf_s _ _ (by omega), cpf_s _ _ (by omega), cpf_sL _ _ (by omega)]
theorem copyFrom_ok (a b c : Nat → Int32) (d : Nat → Int64) (k s v : Nat → Int32) (o : Nat → Int64) : fX0_copyFrom a b c d k s v o = some (cpf a k 0 16, cpf b s 0 16, cpf c v 0 16, cpf d o 0 16) := by
  rw [fX0_copyFrom, jp_e]
  exact copy_loop _ k s v o 16 0 rfl 1000 (by omega) 0 rfl a b c d
theorem startFrom_ok (a b c : Nat → Int32) (d : Nat → Int64) (k s v : Nat → Int32) (o : Nat → Int64) (c1 m1 : Int32) (ah : Int64) (oc om : Int32) : fX1_startFrom a b c d c1 m1 ah k s v o oc om = some (cpf a k 0 16, cpf b s 0 16, cpf c v 0 16, cpf d o 0 16, oc, om, 0) := by
  rw [fX1_startFrom, copyFrom_ok, cal4_e]
/-- how many places below n hold 1 -/
def cnt1 (k : Nat → Int32) : Nat → Nat
  | 0 => 0
  | n + 1 => cnt1 k n + (if k n = 1 then 1 else 0)
theorem cnt1_y {k : Nat → Int32} {n : Nat} (h : k n = 1) : cnt1 k (n + 1) = cnt1 k n + 1 := by
  show cnt1 k n + (if k n = 1 then 1 else 0) = _
  rw [if_pos h]
theorem cnt1_n {k : Nat → Int32} {n : Nat} (h : ¬ k n = 1) : cnt1 k (n + 1) = cnt1 k n := by
  show cnt1 k n + (if k n = 1 then 1 else 0) = _
  rw [if_neg h]; rfl
theorem cnt1_le (k : Nat → Int32) (n : Nat) : cnt1 k n ≤ n := by
  induction n with
  | zero => exact Nat.le_refl _
  | succ n ih => show cnt1 k n + _ ≤ n + 1; split <;> omega
theorem cnt1_congr {k k' : Nat → Int32} {n : Nat} (h : ∀ i, i < n → (k i = 1 ↔ k' i = 1)) : cnt1 k n = cnt1 k' n := by
  induction n with
  | zero => rfl
  | succ n ih =>
    show cnt1 k n + _ = cnt1 k' n + _
    rw [ih (fun i hi => h i (by omega))]
    have := h n (by omega)
    by_cases h1 : k n = 1
    · rw [if_pos h1, if_pos (this.mp h1)]
    · rw [if_neg h1, if_neg (fun z => h1 (this.mpr z))]
theorem kindOf_ok (k : Nat → Int32) {i : Nat} (h : i < 16) : fX0_kindOf k (nI i) = some (k i) := by
  rw [fX0_kindOf, isId_n h, cal1_e, jp_e]
  rw [if_neg (by decide), rdI_n h (by omega)]
theorem seqOf_ok (k : Nat → Int32) {i : Nat} (h : i < 16) : fX0_seqOf k (nI i) = some (k i) := by
  rw [fX0_seqOf, isId_n h, cal1_e, jp_e]
  rw [if_neg (by decide), rdI_n h (by omega)]
theorem versionOf_ok (k : Nat → Int32) {i : Nat} (h : i < 16) : fX0_versionOf k (nI i) = some (k i) := by
  rw [fX0_versionOf, isId_n h, cal1_e, jp_e]
  rw [if_neg (by decide), rdI_n h (by omega)]
theorem sourceOf_ok (k : Nat → Int64) {i : Nat} (h : i < 16) : fX0_sourceOf k (nI i) = some (k i) := by
  rw [fX0_sourceOf, isId_n h, cal1_e, jp_e]
  rw [if_neg (by decide), rdJ_n h (by omega)]
theorem isDocument_ok (k : Nat → Int32) {i : Nat} (h : i < 16) : fX0_isDocument k (nI i) = some (if k i = 1 then 1 else 0) := by
  rw [fX0_isDocument, kindOf_ok k h, cal1_e, jp_e]
  by_cases h1 : k i = 1
  · rw [if_pos h1, if_pos h1]; rfl
  · rw [if_neg h1, if_neg h1]; rfl
theorem count_loop (J : Int32 → Option Int32) (k : Nat → Int32) : ∀ (m i : Nat), i + m = 16 → ∀ (n : Nat), m < n → ∀ (x y : Int32), x = nI (cnt1 k i) → y = nI i → lo2 (sX0_count_4 J k) n x y = J (nI (cnt1 k 16)) := by
  intro m
  induction m with
  | zero =>
    intro i hi n hn x y hx hy
    subst hx; subst hy
    obtain ⟨n, rfl⟩ : ∃ z, n = z + 1 := ⟨n - 1, by omega⟩
    obtain rfl : i = 16 := by omega
    rw [lo2_s, sX0_count_4]
    rw [if_pos (by rw [l16, n_le (by omega) (by omega)]; omega)]
  | succ m ih =>
    intro i hi n hn x y hx hy
    subst hx; subst hy
    obtain ⟨n, rfl⟩ : ∃ z, n = z + 1 := ⟨n - 1, by omega⟩
    have hI := ih (i + 1) (by omega) n (by omega) _ _ rfl rfl
    rw [lo2_s, sX0_count_4]
    rw [if_neg (by rw [l16, n_le (by omega) (by omega)]; omega)]
    rw [isDocument_ok k (by omega), cal1_e]
    simp only [bnd_e, jp_e]
    rw [← hI]
    by_cases h1 : k i = 1
    · rw [if_pos h1, if_neg (by decide), nI_1, nI_1, cnt1_y h1]
    · rw [if_neg h1, if_pos rfl, nI_1, cnt1_n h1]
theorem count_ok (k : Nat → Int32) : fX0_count k = some (nI (cnt1 k 16)) := by
  rw [fX0_count, jp_e]
  exact count_loop _ k 16 0 rfl 1000 (by omega) 0 0 rfl rfl
/-- tombstones up to c are forgotten, from place i on -/
def fgt (k s f : Nat → Int32) (c x : Int32) (i : Nat) : Nat → Int32 := fun j => if i ≤ j ∧ j < 16 ∧ k j = 2 ∧ s j ≤ c then x else f j
theorem fgt_16 (k s f : Nat → Int32) (c x : Int32) : fgt k s f c x 16 = f := by funext j; unfold fgt; rw [if_neg (by omega)]
theorem fgt_no {k s f : Nat → Int32} {c x : Int32} {i : Nat} (h : ¬ (k i = 2 ∧ s i ≤ c)) : fgt k s f c x i = fgt k s f c x (i + 1) := by
  funext j; unfold fgt
  by_cases h1 : j = i
  · subst h1; rw [if_neg (fun z => h z.2.2), if_neg (by omega)]
  · by_cases h2 : i + 1 ≤ j ∧ j < 16 ∧ k j = 2 ∧ s j ≤ c
    · rw [if_pos h2, if_pos ⟨by omega, h2.2⟩]
    · rw [if_neg h2, if_neg (fun z => h2 ⟨by omega, z.2⟩)]
theorem fgt_yes {k s f : Nat → Int32} {c x a b : Int32} {i : Nat} (hi : i < 16) (h : k i = 2 ∧ s i ≤ c) : fgt k s f c x i = fgt (upd k i a) (upd s i b) (upd f i x) c x (i + 1) := by
  funext j; unfold fgt
  by_cases h1 : j = i
  · subst h1; rw [if_pos ⟨Nat.le_refl _, hi, h⟩, if_neg (by omega), upd_s]
  · rw [upd_o _ _ h1, upd_o _ _ h1, upd_o _ _ h1]
    by_cases h2 : i + 1 ≤ j ∧ j < 16 ∧ k j = 2 ∧ s j ≤ c
    · rw [if_pos h2, if_pos ⟨by omega, h2.2⟩]
    · rw [if_neg h2, if_neg (fun z => h2 ⟨by omega, z.2⟩)]
theorem forget_loop (J : (Nat → Int32) → (Nat → Int32) → (Nat → Int32) → Option ((Nat → Int32) × (Nat → Int32) × (Nat → Int32))) (c : Int32) :
    ∀ (m i : Nat), i + m = 16 → ∀ (n : Nat), m < n → ∀ (y : Int32), y = nI i → ∀ (k s v : Nat → Int32), lo4 (sX0_forgetTombstones_2 J c) n y k s v = J (fgt k s k c 0 i) (fgt k s s c (-1) i) (fgt k s v c 0 i) := by
  intro m
  induction m with
  | zero =>
    intro i hi n hn y hy k s v
    subst hy
    obtain ⟨n, rfl⟩ : ∃ z, n = z + 1 := ⟨n - 1, by omega⟩
    obtain rfl : i = 16 := by omega
    rw [lo4_s, sX0_forgetTombstones_2]
    rw [if_pos (by rw [l16, n_le (by omega) (by omega)]; omega), fgt_16, fgt_16, fgt_16]
  | succ m ih =>
    intro i hi n hn y hy k s v
    subst hy
    obtain ⟨n, rfl⟩ : ∃ z, n = z + 1 := ⟨n - 1, by omega⟩
    rw [lo4_s, sX0_forgetTombstones_2]
    rw [if_neg (by rw [l16, n_le (by omega) (by omega)]; omega)]
    rw [rdI_n (by omega) (by omega)]
    simp only [bnd_e, jp_e]
    by_cases h1 : k i = 2
    · rw [if_pos h1, rdI_n (by omega) (by omega)]
      by_cases h2 : c < s i
      · have hno : ¬ (k i = 2 ∧ s i ≤ c) := by grind
        rw [if_pos h2, nI_1, ih (i + 1) (by omega) n (by omega) _ rfl, fgt_no hno, fgt_no hno, fgt_no hno]
      · have hy : k i = 2 ∧ s i ≤ c := by grind
        rw [if_neg h2, wrI_n (by omega) (by omega), wrI_n (by omega) (by omega), wrI_n (by omega) (by omega), nI_1, ih (i + 1) (by omega) n (by omega) _ rfl]
        rw [fgt_yes (a := 0) (b := -1) (f := k) (by omega) hy, fgt_yes (a := 0) (b := -1) (f := s) (by omega) hy, fgt_yes (a := 0) (b := -1) (f := v) (by omega) hy]
    · have hno : ¬ (k i = 2 ∧ s i ≤ c) := fun z => h1 z.1
      rw [if_neg h1, nI_1, ih (i + 1) (by omega) n (by omega) _ rfl, fgt_no hno, fgt_no hno, fgt_no hno]
theorem forget_ok (k s v : Nat → Int32) (c : Int32) : fX0_forgetTombstones k s v c = some (fgt k s k c 0 0, fgt k s s c (-1) 0, fgt k s v c 0 0) := by
  rw [fX0_forgetTombstones, jp_e]
  exact forget_loop _ c 16 0 rfl 1000 (by omega) 0 rfl k s v
