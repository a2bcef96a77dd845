theorem RLo_cut {a g s e : Nat} {lX bX lM bM lM' : Nat → Int32} {len : Nat → Nat} (hL : RLo a g s lX bX lM bM len) (he : e ≤ len (g - 1)) (hM : lM' (g - 1) = nI e) (hM2 : ∀ i, i ≠ g - 1 → lM' i = lM i) :
    RLo a g e (upd lX ((a + (g - 1)) % 4) (nI e)) bX lM' bM (fun i => if i = g - 1 then e else len i) := by
  obtain ⟨hg1, hg4, hs0, hR⟩ := hL
  refine ⟨hg1, hg4, by dsimp only; rw [if_pos rfl]; omega, fun i hi => ?_⟩
  obtain ⟨p1, p2, p3, p4, p5⟩ := hR i hi
  by_cases h : i = g - 1
  · subst h
    dsimp only
    rw [if_pos rfl]
    exact ⟨by omega, upd_s _ _ _, hM, fun j hj => p4 j (by omega), fun j hj => p5 j (by omega)⟩
  · dsimp only
    rw [if_neg h]
    exact ⟨p1, by rw [upd_o _ _ (by omega)]; exact p2, by rw [hM2 i h]; exact p3, p4, p5⟩
