/-! the two new objects -/
theorem init0_loop (J : (Nat → Int32) → Option ((Nat → Int32) × (Nat → Int32) × (Nat → Int32) × (Nat → Int64))) : ∀ (m i : Nat), i + m = 16 → ∀ (f : Nat), m < f → ∀ (w : Nat → Int32), lo2 (sX0_init_38 J) f (nI i) w = J (cpf w (fun _ => -1) i 16) := by
  intro m
  induction m with
  | zero =>
    intro i hi f hf w
    obtain ⟨f, rfl⟩ : ∃ z, f = z + 1 := ⟨f - 1, by omega⟩
    obtain rfl : i = 16 := by omega
    rw [lo2_s, sX0_init_38, if_pos (by rw [l16, n_le (by omega) (by omega)]; omega), cpf_n]
  | succ m ih =>
    intro i hi f hf w
    obtain ⟨f, rfl⟩ : ∃ z, f = z + 1 := ⟨f - 1, by omega⟩
    rw [lo2_s, sX0_init_38, if_neg (by rw [l16, n_le (by omega) (by omega)]; omega), wrI_n (by omega) (by omega), nI_1 i, bnd_e, ih (i + 1) (by omega) f (by omega), ← cpf_s w (fun _ => -1) (show i < 16 by omega)]
theorem lo2_c {α γ β : Type} {s : (α → γ → Option β) → α → γ → Option β} {f : Nat} {x x' : α} {y : γ} {r : Option β} (h : lo2 s f x y = r) (hx : x' = x) : lo2 s f x' y = r := by rw [hx]; exact h
def ini : Nat → Int32 := cpf (fun _ => 0) (fun _ => -1) 0 16
theorem ini_i {i : Nat} (h : i < 16) : ini i = -1 := cpf_at _ _ (by omega) h
theorem init0_ok : fX0_init = some ((fun _ => 0), ini, (fun _ => 0), (fun _ => 0)) := by
  rw [fX0_init, jp_e]
  exact lo2_c (init0_loop _ 16 0 rfl 1000 (by omega) _) rfl
theorem init1_ok : fX1_init = some ((fun _ => 0), ini, (fun _ => 0), (fun _ => 0), (-1), (-1), 0) := by
  rw [fX1_init, init0_ok, cal4_e]
theorem init2_ok : fX2_init = some (0, 0, 0, (fun _ => 0), (fun _ => 0), upd (fun _ => 0) 0 (-1)) := by
  rw [fX2_init]
  exact wrI_n (i := 0) (by omega) (by omega)
theorem init5_ok : fX5_init = some ((fun _ => 0), ini, (fun _ => 0), (fun _ => 0), (-1), (-1), 0, (fun _ => 0), ini, (fun _ => 0), (fun _ => 0), (-1), (-1), 0, (fun _ => 0), ini, (fun _ => 0), (fun _ => 0), 0, 0, 0, (fun _ => 0), (fun _ => 0), upd (fun _ => 0) 0 (-1), 0, (fun _ => 0), (fun _ => 0), (fun _ => 0), (fun _ => 0), (fun _ => 0), 3, (-1), (-1), 0, 0, (fun _ => 0), (-1), 0, 0) := by
  rw [fX5_init, init1_ok, cal7_e, cal7_e, init0_ok, cal4_e, init2_ok, cal6_e, fX4_init, cal6_e, fX3_init, cal5_e]
theorem init6_loop (J : (Nat → Int32) → (Nat → Int32) → (Nat → Int32) → Option ((Nat → Int32) × (Nat → Int32) × (Nat → Int32) × (Nat → Int32) × (Nat → Int32) × (Nat → Int32) × (Nat → Int32) × (Nat → Int64) × (Nat → Int64) × (Nat → Int64) × (Nat → Int32) × (Int32) × (Int32) × (Int32) × (Int32) × (Int32) × (Int32) × (Nat → Int32) × (Nat → Int32) × (Nat → Int32) × (Int32) × (Int32) × (Int32) × (Int32) × (Int32) × (Int32) × (Int32) × (Int32) × (Int64) × (Nat → Int32) × (Nat → Int32) × (Nat → Int32) × (Nat → Int32) × (Nat → Int32) × (Int32) × (Int32))) : ∀ (m i : Nat), i + m = 16 → ∀ (f : Nat), m < f → ∀ (a b c : Nat → Int32), lo4 (sX6_init_194 J) f (nI i) a b c = J (cpf a (fun _ => -1) i 16) (cpf b (fun _ => -1) i 16) (cpf c (fun _ => -1) i 16) := by
  intro m
  induction m with
  | zero =>
    intro i hi f hf a b c
    obtain ⟨f, rfl⟩ : ∃ z, f = z + 1 := ⟨f - 1, by omega⟩
    obtain rfl : i = 16 := by omega
    rw [lo4_s, sX6_init_194, if_pos (by rw [l16, n_le (by omega) (by omega)]; omega), cpf_n, cpf_n, cpf_n]
  | succ m ih =>
    intro i hi f hf a b c
    obtain ⟨f, rfl⟩ : ∃ z, f = z + 1 := ⟨f - 1, by omega⟩
    rw [lo4_s, sX6_init_194, if_neg (by rw [l16, n_le (by omega) (by omega)]; omega), wrI_n (by omega) (by omega), wrI_n (by omega) (by omega), wrI_n (by omega) (by omega), nI_1 i, bnd_e, ih (i + 1) (by omega) f (by omega), ← cpf_s a (fun _ => -1) (show i < 16 by omega), ← cpf_s b (fun _ => -1) (show i < 16 by omega), ← cpf_s c (fun _ => -1) (show i < 16 by omega)]
theorem init6_ok : fX6_init = some ((fun _ => 0), ini, (fun _ => 0), (fun _ => 0), ini, (fun _ => 0), ini, (fun _ => 0), (fun _ => 0), (fun _ => 0), (fun _ => 0), (-1), (-1), (-1), (-1), (-1), 0, (fun _ => 0), (fun _ => 0), upd (fun _ => 0) 0 (-1), 0, 1, 0, 0, 0, 0, 0, 0, 0, (fun _ => 0), (fun _ => 0), (fun _ => 0), (fun _ => 0), (fun _ => 0), 0, 0) := by
  rw [fX6_init]
  refine Eq.trans (wrI_n (i := 0) (by omega) (by omega)) ?_
  rw [jp_e]
  exact lo4_c (init6_loop _ 16 0 rfl 1000 (by omega) _ _ _) rfl
