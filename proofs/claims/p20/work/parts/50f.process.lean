/-! an operation is processed: the class and the reference -/
def RD (k s v : Nat → Int32) (o : Nat → Int64) (k' s' v' : Nat → Int32) (o' : Nat → Int64) : Prop := ∀ i, i < 16 → k i = k' i ∧ s i = s' i ∧ v i = v' i ∧ o i = o' i
def ID (k s : Nat → Int32) (o : Nat → Int64) : Prop := ∀ i, i < 16 → (k i = 1 → ∃ q : Nat, q < 1000000000 ∧ s i = nI q) ∧ (k i ≠ 1 → o i = 0)
theorem RD_upd {k s v k' s' v' : Nat → Int32} {o o' : Nat → Int64} (h : RD k s v o k' s' v' o') (i : Nat) (a b c : Int32) (d : Int64) : RD (upd k i a) (upd s i b) (upd v i c) (vp_updL o i d) (upd k' i a) (upd s' i b) (upd v' i c) (vp_updL o' i d) := by
  intro j hj
  by_cases e : j = i
  · subst e; rw [upd_s, upd_s, upd_s, upd_s, upd_s, upd_s, updL_s, updL_s]; exact ⟨rfl, rfl, rfl, rfl⟩
  · rw [upd_o _ _ e, upd_o _ _ e, upd_o _ _ e, upd_o _ _ e, upd_o _ _ e, upd_o _ _ e, updL_o _ _ e, updL_o _ _ e]; exact h j hj
theorem ID_upd {k s : Nat → Int32} {o : Nat → Int64} (h : ID k s o) (i : Nat) (a : Int32) (d : Int64) {q : Nat} (hq : q < 1000000000) (hd : a ≠ 1 → d = 0) : ID (upd k i a) (upd s i (nI q)) (vp_updL o i d) := by
  intro j hj
  by_cases e : j = i
  · subst e; rw [upd_s, upd_s, updL_s]; exact ⟨fun _ => ⟨q, hq, rfl⟩, hd⟩
  · rw [upd_o _ _ e, upd_o _ _ e, updL_o _ _ e]; exact h j hj
theorem isProcessed_ok {a : Int64} {q c : Nat} (hq : q < 1000000000) (hc : c < 1000000000) : fX1_isProcessed (mI c) a (nI q) = some (if q < c ∨ (q < c + 64 ∧ jb a (q - c) = true) then 1 else 0) := by
  rw [fX1_isProcessed, bnd_e, bnd_e, m_sub]
  by_cases h : q < c
  · have hneg : ¬ (0 : Int32) ≤ nI q - nI c := by
      have := pk_sneg (a := q) (b := c) (by omega) h
      grind
    rw [if_neg hneg, if_pos (Or.inl h)]
  · rw [n_sub (by omega), if_pos (by rw [l0, n_le (by omega) (by omega)]; omega), jp_e, jp_e]
    by_cases h2 : q < c + 64
    · rw [if_neg (by rw [l64, n_le (by omega) (by omega)]; omega)]
      simp only [bnd_e]
      by_cases h3 : jb a (q - c) = true
      · rw [if_neg (fun e => by rw [(jb_andz a (by omega)).mp e] at h3; cases h3), if_pos (Or.inr ⟨h2, h3⟩)]; rfl
      · have h3f : jb a (q - c) = false := by cases h : jb a (q - c) with | true => exact absurd h h3 | false => rfl
        rw [if_pos ((jb_andz a (by omega)).mpr h3f), if_neg (by intro e; rcases e with e | e; exact h e; exact h3 e.2)]; rfl
    · rw [if_pos (by rw [l64, n_le (by omega) (by omega)]; omega), if_neg (by intro e; rcases e with e | e; exact h e; exact h2 e.1)]; rfl
