/-! sync, crash, flip, info -/
theorem n_xor (a b : Nat) : nI a ^^^ nI b = nI (a ^^^ b) := by
  rw [← Int32.toBitVec_inj, Int32.toBitVec_xor]
  exact (BitVec.ofNat_xor).symm
theorem By_xor {x y : Int32} (hx : By x) (hy : By y) : By (x ^^^ y) := by
  obtain ⟨a, ha, rfl⟩ := hx
  obtain ⟨b, hb, rfl⟩ := hy
  exact ⟨a ^^^ b, Nat.xor_lt_two_pow (n := 8) (by omega) (by omega), n_xor a b⟩
theorem unsynced_ok {a g s l : Nat} {lX : Nat → Int32} (ha : a + (g - 1) < 2147483648) (hl : lX ((a + (g - 1)) % 4) = nI l) (hs : s ≤ l) : fX2_unsynced (nI (a + (g - 1))) (nI s) lX = some (nI (l - s)) := by
  rw [fX2_unsynced, lengthOf_ok ha lX hl, cal1_e, n_sub hs, bnd_e]
theorem syncCurrent_ok {a g s l : Nat} {lX : Nat → Int32} (ha : a + (g - 1) < 2147483648) (hl : lX ((a + (g - 1)) % 4) = nI l) (hs : s ≤ l) : fX2_syncCurrent (nI (a + (g - 1))) (nI s) lX = some (nI (l - s), nI l) := by
  rw [fX2_syncCurrent, unsynced_ok ha hl hs, cal1_e, lengthOf_ok ha lX hl, cal1_e]
theorem countL_ok {a g : Nat} (hg : 1 ≤ g) : fX2_count (nI a) (nI (a + (g - 1))) = some (nI g) := by
  rw [fX2_count, n_sub (by omega), bnd_e, l1, n_add, bnd_e, show a + (g - 1) - a + 1 = g by omega]
theorem beginX_ok {q : Nat} (hq : q < 2147483646) (s : Int32) (lX gX : Nat → Int32) : fX2_begin (nI q) s lX gX = some (nI (q + 1), 0, upd lX ((q + 1) % 4) 0, upd gX ((q + 1) % 4) (-1)) := by
  rw [fX2_begin, show nI q + 1 = nI (q + 1) from n_add q 1, bnd_e, rowOf_ok (q + 1) (by omega), cal1_e, wrI_n (by omega) (by omega), fX2_forgetSeqs, rowOf_ok (q + 1) (by omega), cal1_e, wrI_n (by omega) (by omega), cal1_e]
/-- a new generation: the log stays related -/
theorem begin_both {a g s : Nat} {lX bX gX lM bM gM : Nat → Int32} {len : Nat → Nat} (hL : RLo a g s lX bX lM bM len) (hG : RG a g gX gM) (hg : g < 4) :
    RLo a (g + 1) 0 (upd lX ((a + (g - 1) + 1) % 4) 0) bX (upd lM g 0) bM (fun i => if i = g then 0 else len i) ∧ RG a (g + 1) (upd gX ((a + (g - 1) + 1) % 4) (-1)) (upd gM g (-1)) := by
  obtain ⟨hg1, hg4, hs0, hR⟩ := hL
  have e : (a + (g - 1) + 1) % 4 = (a + g) % 4 := by rw [show a + (g - 1) + 1 = a + g by omega]
  rw [e]
  refine ⟨⟨by omega, by omega, by omega, fun i hi => ?_⟩, fun i hi => ?_⟩
  · by_cases h : i = g
    · subst h
      dsimp only
      rw [if_pos rfl]
      exact ⟨by omega, upd_s _ _ _, upd_s _ _ _, fun j hj => by omega, fun j hj => by omega⟩
    · dsimp only
      rw [if_neg h]
      obtain ⟨p1, p2, p3, p4, p5⟩ := hR i (by omega)
      exact ⟨p1, by rw [upd_o _ _ (by omega)]; exact p2, by rw [upd_o _ _ h]; exact p3, p4, p5⟩
  · by_cases h : i = g
    · subst h; rw [upd_s, upd_s]
    · rw [upd_o _ _ (by omega), upd_o _ _ h]; exact hG i (by omega)
theorem RLo_sync {a g s s' : Nat} {lX bX lM bM : Nat → Int32} {len : Nat → Nat} (hL : RLo a g s lX bX lM bM len) (h : s' ≤ len (g - 1)) : RLo a g s' lX bX lM bM len := ⟨hL.1, hL.2.1, h, hL.2.2.2⟩
theorem ite_ex {α : Type} {c : Prop} [Decidable c] {A A' B B' : Option α} (h1 : c → ∃ r, A = some r ∧ B = some r) (h2 : ¬ c → ∃ r, A' = some r ∧ B' = some r) : ∃ r, (if c then A else A') = some r ∧ (if c then B else B') = some r := by
  by_cases h : c
  · rw [if_pos h, if_pos h]; exact h1 h
  · rw [if_neg h, if_neg h]; exact h2 h
