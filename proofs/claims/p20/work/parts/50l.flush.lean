/-! flush -/
def RC (oc omx : Nat) (kX sX vX : Nat → Int32) (oX : Nat → Int64) (kM sM vM : Nat → Int32) (oM : Nat → Int64) : Prop := RD kX sX vX oX kM sM vM oM ∧ ID kX sX oX ∧ oc ≤ omx ∧ omx ≤ oc + 64
theorem RD_cpf {k s v k' s' v' a b c a' b' c' : Nat → Int32} {o o' d d' : Nat → Int64} (h : RD k s v o k' s' v' o') : RD (cpf a k 0 16) (cpf b s 0 16) (cpf c v 0 16) (cpf d o 0 16) (cpf a' k' 0 16) (cpf b' s' 0 16) (cpf c' v' 0 16) (cpf d' o' 0 16) := by
  intro i hi
  rw [cpf_at _ _ (by omega) hi, cpf_at _ _ (by omega) hi, cpf_at _ _ (by omega) hi, cpf_at _ _ (by omega) hi, cpf_at _ _ (by omega) hi, cpf_at _ _ (by omega) hi, cpf_at _ _ (by omega) hi, cpf_at _ _ (by omega) hi]
  exact h i hi
theorem ID_cpf {k s a b : Nat → Int32} {o d : Nat → Int64} (h : ID k s o) : ID (cpf a k 0 16) (cpf b s 0 16) (cpf d o 0 16) := by
  intro i hi
  rw [cpf_at _ _ (by omega) hi, cpf_at _ _ (by omega) hi, cpf_at _ _ (by omega) hi]
  exact h i hi
def shf (b : Nat → Int32) (s i : Nat) : Nat → Int32 := fun j => if j < i then b (j + s) else b j
theorem shf_0 (b : Nat → Int32) (s : Nat) : shf b s 0 = b := by funext j; unfold shf; rw [if_neg (by omega)]
theorem shf_s (b : Nat → Int32) (s i : Nat) : upd (shf b s i) i (shf b s i (i + s)) = shf b s (i + 1) := by
  have e : shf b s i (i + s) = b (i + s) := by unfold shf; rw [if_neg (by omega)]
  rw [e]
  funext j
  by_cases h : j = i
  · subst h; rw [upd_s]; unfold shf; rw [if_pos (by omega)]
  · rw [upd_o _ _ h]; unfold shf
    by_cases h2 : j < i
    · rw [if_pos h2, if_pos (by omega)]
    · rw [if_neg h2, if_neg (by omega)]
theorem shift_RLo {a g s k : Nat} {lX bX gX lM bM gM : Nat → Int32} {len : Nat → Nat} (hL : RLo a g s lX bX lM bM len) (hG : RG a g gX gM) (hk : k ≤ g) (h4 : g - k < 4) :
    RLo (a + k) (g - k + 1) 0 (upd lX ((a + g) % 4) 0) bX (upd (shf lM k (g - k)) (g - k) 0) (shf bM (240 * k) (240 * (4 - k))) (fun i => if i = g - k then 0 else len (i + k)) ∧ RG (a + k) (g - k + 1) (upd gX ((a + g) % 4) (-1)) (upd (shf gM k (g - k)) (g - k) (-1)) := by
  obtain ⟨hg1, hg4, hs0, hR⟩ := hL
  refine ⟨⟨by omega, by omega, by omega, fun i hi => ?_⟩, fun i hi => ?_⟩
  · by_cases h : i = g - k
    · subst h
      dsimp only
      rw [if_pos rfl, show a + k + (g - k) = a + g by omega]
      exact ⟨by omega, upd_s _ _ _, upd_s _ _ _, fun j hj => by omega, fun j hj => by omega⟩
    · dsimp only
      rw [if_neg h]
      obtain ⟨p1, p2, p3, p4, p5⟩ := hR (i + k) (by omega)
      have hb : ∀ j, j < 240 → shf bM (240 * k) (240 * (4 - k)) (240 * i + j) = bM (240 * (i + k) + j) := by
        intro j hj
        unfold shf
        rw [if_pos (by omega), show 240 * i + j + 240 * k = 240 * (i + k) + j by omega]
      rw [show a + k + i = a + (i + k) by omega]
      refine ⟨p1, by rw [upd_o _ _ (by omega)]; exact p2, ?_, fun j hj => ?_, fun j hj => ?_⟩
      · rw [upd_o _ _ h]; unfold shf; rw [if_pos (by omega)]; exact p3
      · rw [hb j (by omega)]; exact p4 j hj
      · rw [hb j (by omega)]; exact p5 j hj
  · by_cases h : i = g - k
    · subst h; rw [show a + k + (g - k) = a + g by omega, upd_s, upd_s]
    · rw [show a + k + i = a + (i + k) by omega, upd_o _ _ (by omega), upd_o _ _ h]
      unfold shf
      rw [if_pos (by omega)]
      exact hG (i + k) (by omega)
