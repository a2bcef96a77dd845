/-! recovery -/
theorem PS_ge (e : Nat → Int32) {a b : Nat} (h : a ≤ b) : PS e a + 11 * (b - a) ≤ PS e b := by
  obtain ⟨d, rfl⟩ : ∃ d, b = a + d := ⟨b - a, by omega⟩
  clear h
  induction d with
  | zero => rw [Nat.add_zero]; omega
  | succ d ih =>
    have := rl_le (e (a + d))
    rw [← Nat.add_assoc, PS_s]
    omega
theorem jb_0 (i : Nat) : jb 0 i = false := by
  show (0#64).getLsbD i = false
  exact BitVec.getLsbD_zero
def GRl (gr : Nat → Int32) (a g n : Nat) : Prop := ∀ i, a ≤ i → i < g → ∃ m, m ≤ n ∧ gr (i % 4) = mI m
theorem GRl_note {gr : Nat → Int32} {a g n : Nat} (h : GRl gr a (g + 1) n) (hq : g ≤ a + 3) (hn : n < 1000000) (haq : a ≤ g) : GRl (upd gr (g % 4) (if gr (g % 4) < nI n then nI n else gr (g % 4))) a (g + 1) (n + 1) :=
  fun i h1 h2 => GR_note (fun i h1 h2 => h i h1 (by omega)) hq hn haq i h1 (by omega)
/-- a generation's records one behind another, to its end or to a broken one -/
theorem gen_loop {e V b l : Nat → Int32} {a g n0 Sg L M : Nat} {stop : Int32} (hg : g < 100000000) (hag : a ≤ g) (hga : g ≤ a + 3) (hl : l (g % 4) = nI L) (hL : L ≤ 240) (hSM : Sg ≤ M) (hM : M ≤ 1000) (hn0 : n0 ≤ Sg) (hV : VB V M) (hpM : PS e M - PS e Sg ≤ L)
    (hrec : ∀ j, Sg ≤ j → j < M → RecB b (240 * (g % 4) + (PS e j - PS e Sg)) e V j) (he : Prop)
    (hend : (he → PS e M - PS e Sg = L) ∧ (¬ he → PS e M - PS e Sg < L ∧ ∀ (o1 o2 o3 o4 : Int32) (o5 : Int64), fX2_read b l o1 o2 o3 o4 o5 (nI g) (nI (PS e M - PS e Sg)) = some (0, o1, o2, o3, o4, o5)))
    (J176 J77 : Int32 → (Nat → Int32) → (Nat → Int32) → (Nat → Int32) → (Nat → Int64) → (Int32) → (Int32) → (Int64) → (Nat → Int32) → (Int32) → (Int32) → (Int32) → (Int32) → (Int64) → (Int32) → Option (Int32 × (Nat → Int32) × (Nat → Int32) × (Nat → Int32) × (Nat → Int64) × (Int32) × (Int32) × (Int64) × (Nat → Int32) × (Int32) × (Int32) × (Int32) × (Int32) × (Int64) × (Int32))) : ∀ (m j : Nat), j + m = M → Sg ≤ j → ∀ (f : Nat), m < f → ∀ (k : Nat → Int32) (s : Nat → Int32) (v : Nat → Int32) (o : Nat → Int64) (c : Int32) (mx : Int32) (ah : Int64) (gr : Nat → Int32) (o1 : Int32) (o2 : Int32) (o3 : Int32) (o4 : Int32) (o5 : Int64) (rp : Int32), c = mI j → mx = mI j → ah = 0 → rp = nI (j - n0) → DR e V j k s v o → GRl gr a (g + 1) j → ∀ (y z : Int32), y = nI (PS e j - PS e Sg) → z = nI (j - Sg) →
    ((stop < 0 ∨ nI (M - n0) ≤ stop) → ∃ (k' : Nat → Int32) (s' : Nat → Int32) (v' : Nat → Int32) (o' : Nat → Int64) (c' : Int32) (mx' : Int32) (ah' : Int64) (gr' : Nat → Int32) (o1' : Int32) (o2' : Int32) (o3' : Int32) (o4' : Int32) (o5' : Int64) (rp' : Int32), c' = mI M ∧ mx' = mI M ∧ ah' = 0 ∧ rp' = nI (M - n0) ∧ DR e V M k' s' v' o' ∧ GRl gr' a (g + 1) M ∧
      (he → lo16 (sX5_replayGeneration_23 J176 (nI L) b l (nI g) J77 stop) f y z k s v o c mx ah gr o1 o2 o3 o4 o5 rp = J176 (nI L) k' s' v' o' c' mx' ah' gr' o1' o2' o3' o4' o5' rp') ∧ (¬ he → lo16 (sX5_replayGeneration_23 J176 (nI L) b l (nI g) J77 stop) f y z k s v o c mx ah gr o1 o2 o3 o4 o5 rp = J77 (nI (PS e M - PS e Sg)) k' s' v' o' c' mx' ah' gr' o1' o2' o3' o4' o5' rp')) ∧
    (¬ (stop < 0 ∨ nI (M - n0) ≤ stop) → (stop < 0 ∨ nI (j - n0) ≤ stop) → ∃ (k' : Nat → Int32) (s' : Nat → Int32) (v' : Nat → Int32) (o' : Nat → Int64) (c' : Int32) (mx' : Int32) (ah' : Int64) (gr' : Nat → Int32) (o1' : Int32) (o2' : Int32) (o3' : Int32) (o4' : Int32) (o5' : Int64) (rp' : Int32), lo16 (sX5_replayGeneration_23 J176 (nI L) b l (nI g) J77 stop) f y z k s v o c mx ah gr o1 o2 o3 o4 o5 rp = some (-4, k', s', v', o', c', mx', ah', gr', o1', o2', o3', o4', o5', rp')) := by
  intro m
  induction m with
  | zero =>
    intro j hj hSj f hf k s v o c mx ah gr o1 o2 o3 o4 o5 rp hc hmx hah hrp hD hG y z hy hz
    subst hc; subst hmx; subst hah; subst hrp; subst hy; subst hz
    obtain ⟨f, rfl⟩ : ∃ z, f = z + 1 := ⟨f - 1, by omega⟩
    obtain rfl : j = M := by omega
    have hge := PS_ge e hSj
    refine ⟨fun _ => ⟨k, s, v, o, mI j, mI j, 0, gr, o1, o2, o3, o4, o5, nI (j - n0), rfl, rfl, rfl, rfl, hD, hG, fun h => ?_, fun h => ?_⟩, fun h1 h2 => absurd h2 h1⟩
    · rw [lo16_s, sX5_replayGeneration_23, if_neg (by rw [l240, n_le (by omega) (by omega)]; omega), hend.1 h, if_pos (by rw [n_le (by omega) (by omega)]; omega)]
    · obtain ⟨h1, h2⟩ := hend.2 h
      rw [lo16_s, sX5_replayGeneration_23, if_neg (by rw [l240, n_le (by omega) (by omega)]; omega), if_neg (by rw [n_le (by omega) (by omega)]; omega), h2, cal6_e, if_pos rfl]
  | succ m ih =>
    intro j hj hSj f hf k s v o c mx ah gr o1 o2 o3 o4 o5 rp hc hmx hah hrp hD hG y z hy hz
    subst hc; subst hmx; subst hah; subst hrp; subst hy; subst hz
    obtain ⟨f, rfl⟩ : ∃ z, f = z + 1 := ⟨f - 1, by omega⟩
    have hjM : j < M := by omega
    have hge := PS_ge e hSj
    have hlt := PS_lt e hjM
    have hmo := PS_mono e hSj
    have hrl := rl_le (e j)
    have hrz : rl (e j) = szC (e j) + 5 := rfl
    obtain ⟨hid, hid8⟩ := id_C (e j)
    obtain ⟨ver, hv1, hv2, hv3⟩ := hV j hjM
    have hr := hrec j hSj hjM
    have hrd : fX2_read b l o1 o2 o3 o4 o5 (nI g) (nI (PS e j - PS e Sg)) = some (nI (szC (e j) + 5), kdC (e j), nI j, nI (idN (e j)), nI ver, if kdC (e j) = 1 then srcC (e j) else 0) := by
      refine readX_ok hg hl hL (kz_C (e j)) (kd_3 (e j)) (by omega) (by omega) (by omega) (by omega) (fun t ht => ?_) o1 o2 o3 o4 o5
      rw [hr t ht]
      unfold opb
      rw [hid, hv3]
    have hD' := DR_step hD (V j)
    rw [upd_id V rfl, hv3] at hD'
    have hG' := GRl_note hG hga (by omega) hag
    have eov : (if kdC (e j) = 1 then (if kdC (e j) = 1 then srcC (e j) else 0) else 0) = ovC (e j) := by
      unfold ovC
      by_cases h1 : kdC (e j) = 1
      · rw [if_pos h1, if_pos h1]
      · rw [if_neg h1, if_neg h1]
    have hpr := processU (k := k) (v := v) (o := o) (ver := nI ver) (src := if kdC (e j) = 1 then srcC (e j) else 0) (show j < 900000000 by omega) (show idN (e j) < 16 by omega) (kd_3 (e j)) (DR_seq hD (show idN (e j) < 16 by omega) (by omega))
    rw [eov] at hpr
    have step : (stop < 0 ∨ nI (j - n0) < stop) → lo16 (sX5_replayGeneration_23 J176 (nI L) b l (nI g) J77 stop) (f + 1) (nI (PS e j - PS e Sg)) (nI (j - Sg)) k s v o (mI j) (mI j) 0 gr o1 o2 o3 o4 o5 (nI (j - n0)) =
        lo16 (sX5_replayGeneration_23 J176 (nI L) b l (nI g) J77 stop) f (nI (PS e (j + 1) - PS e Sg)) (nI (j + 1 - Sg)) (upd k (idN (e j)) (kdC (e j))) (upd s (idN (e j)) (nI j)) (upd v (idN (e j)) (nI ver)) (vp_updL o (idN (e j)) (ovC (e j))) (mI (j + 1)) (mI (j + 1)) 0 (upd gr (g % 4) (if gr (g % 4) < nI j then nI j else gr (g % 4))) (kdC (e j)) (nI j) (nI (idN (e j))) (nI ver) (if kdC (e j) = 1 then srcC (e j) else 0) (nI (j + 1 - n0)) := by
      intro hst
      have e1 : nI (PS e j - PS e Sg) + nI (szC (e j) + 5) = nI (PS e (j + 1) - PS e Sg) := by rw [n_add, PS_s]; congr 1; omega
      have e2 : nI (j - Sg) + 1 = nI (j + 1 - Sg) := by rw [nI_1]; congr 1; omega
      have e3 : nI (j - n0) + 1 = nI (j + 1 - n0) := by rw [nI_1]; congr 1; omega
      rw [lo16_s, sX5_replayGeneration_23, if_neg (by rw [l240, n_le (by omega) (by omega)]; omega), if_neg (by rw [n_le (by omega) (by omega)]; omega), hrd, cal6_e, if_neg (by rw [l0, n_eq (by omega) (by omega)]; omega), bnd_e, show mI j + 64 = nI (j + 63) from m_add j 63, if_pos (by rw [n_le (by omega) (by omega)]; omega), noteSeq_ok (by omega), cal1_e, isProcessed_ok (by omega) (by omega), cal1_e, jp_e]
      rw [if_neg (show ¬ (j < j ∨ (j < j + 64 ∧ jb 0 (j - j) = true)) from fun h => by rcases h with h | h; omega; rw [jb_0] at h; exact absurd h.2 (by decide)), if_pos rfl]
      simp only [jp_e]
      rw [hpr, cal8_e]
      by_cases hs : stop < 0
      · rw [if_pos hs]
        simp only [bnd_e]
        rw [e1, e2, e3]
      · rw [if_neg hs, if_pos (hst.resolve_left hs)]
        simp only [bnd_e]
        rw [e1, e2, e3]
    have halt : ¬ (stop < 0 ∨ nI (j - n0) < stop) → lo16 (sX5_replayGeneration_23 J176 (nI L) b l (nI g) J77 stop) (f + 1) (nI (PS e j - PS e Sg)) (nI (j - Sg)) k s v o (mI j) (mI j) 0 gr o1 o2 o3 o4 o5 (nI (j - n0)) = some (-4, k, s, v, o, mI j, mI j, 0, upd gr (g % 4) (if gr (g % 4) < nI j then nI j else gr (g % 4)), kdC (e j), nI j, nI (idN (e j)), nI ver, (if kdC (e j) = 1 then srcC (e j) else 0), nI (j - n0)) := by
      intro hst
      rw [lo16_s, sX5_replayGeneration_23, if_neg (by rw [l240, n_le (by omega) (by omega)]; omega), if_neg (by rw [n_le (by omega) (by omega)]; omega), hrd, cal6_e, if_neg (by rw [l0, n_eq (by omega) (by omega)]; omega), bnd_e, show mI j + 64 = nI (j + 63) from m_add j 63, if_pos (by rw [n_le (by omega) (by omega)]; omega), noteSeq_ok (by omega), cal1_e, isProcessed_ok (by omega) (by omega), cal1_e, jp_e]
      rw [if_neg (show ¬ (j < j ∨ (j < j + 64 ∧ jb 0 (j - j) = true)) from fun h => by rcases h with h | h; omega; rw [jb_0] at h; exact absurd h.2 (by decide)), if_pos rfl, jp_e, if_neg (fun h => hst (Or.inl h)), if_neg (fun h => hst (Or.inr h))]
    have hih := ih (j + 1) (by omega) (by omega) f (by omega) _ _ _ _ (mI (j + 1)) (mI (j + 1)) 0 _ (kdC (e j)) (nI j) (nI (idN (e j))) (nI ver) (if kdC (e j) = 1 then srcC (e j) else 0) (nI (j + 1 - n0)) rfl rfl rfl rfl hD' hG' _ _ rfl rfl
    constructor
    · intro hs
      have hs' : stop < 0 ∨ nI (j - n0) < stop := by
        rcases hs with h | h
        · exact Or.inl h
        · refine Or.inr ?_
          have : nI (j - n0) < nI (M - n0) := by rw [n_lt (by omega) (by omega)]; omega
          grind
      obtain ⟨k', s', v', o', c', mx', ah', gr', o1', o2', o3', o4', o5', rp', q1, q2, q3, q4, q5, q6, q7, q8⟩ := hih.1 hs
      exact ⟨k', s', v', o', c', mx', ah', gr', o1', o2', o3', o4', o5', rp', q1, q2, q3, q4, q5, q6, fun h => (step hs').trans (q7 h), fun h => (step hs').trans (q8 h)⟩
    · intro hs hj0
      by_cases hs' : stop < 0 ∨ nI (j - n0) < stop
      · have hj1 : stop < 0 ∨ nI (j + 1 - n0) ≤ stop := by
          rcases hs' with h | h
          · exact Or.inl h
          · refine Or.inr ?_
            obtain ⟨t, ht, et⟩ := n_of (x := stop) (by
              intro hneg
              exact hs (Or.inl hneg))
            rw [et, n_lt (by omega) (by omega)] at h
            rw [et, n_le (by omega) (by omega)]
            omega
        obtain ⟨k', s', v', o', c', mx', ah', gr', o1', o2', o3', o4', o5', rp', q1⟩ := hih.2 hs hj1
        exact ⟨k', s', v', o', c', mx', ah', gr', o1', o2', o3', o4', o5', rp', (step hs').trans q1⟩
      · exact ⟨_, _, _, _, _, _, _, _, _, _, _, _, _, _, halt hs'⟩
/-- one generation -/
theorem gen_ok {e V b l : Nat → Int32} {a g cq sy n0 Sg L M : Nat} {stop : Int32} (hg : g < 100000000) (hag : a ≤ g) (hga : g ≤ a + 3) (hl : l (g % 4) = nI L) (hL : L ≤ 240) (hSM : Sg ≤ M) (hM : M ≤ 1000) (hn0 : n0 ≤ Sg) (hV : VB V M) (hpM : PS e M - PS e Sg ≤ L)
    (hrec : ∀ j, Sg ≤ j → j < M → RecB b (240 * (g % 4) + (PS e j - PS e Sg)) e V j) (he : Prop)
    (hend : (he → PS e M - PS e Sg = L) ∧ (¬ he → PS e M - PS e Sg < L ∧ ∀ (o1 o2 o3 o4 : Int32) (o5 : Int64), fX2_read b l o1 o2 o3 o4 o5 (nI g) (nI (PS e M - PS e Sg)) = some (0, o1, o2, o3, o4, o5)))
    (hcq : ¬ he → cq = g) (hsy : sy ≤ 240) {k : Nat → Int32} {s : Nat → Int32} {v : Nat → Int32} {o : Nat → Int64} {c : Int32} {mx : Int32} {ah : Int64} {gr : Nat → Int32} {o1 : Int32} {o2 : Int32} {o3 : Int32} {o4 : Int32} {o5 : Int64} {rp : Int32} (hc : c = mI Sg) (hmx : mx = mI Sg) (hah : ah = 0) (hrp : rp = nI (Sg - n0)) (hD : DR e V Sg k s v o) (hG : GRl gr a g Sg) :
    ((stop < 0 ∨ nI (M - n0) ≤ stop) → ∃ (k' : Nat → Int32) (s' : Nat → Int32) (v' : Nat → Int32) (o' : Nat → Int64) (c' : Int32) (mx' : Int32) (ah' : Int64) (gr' : Nat → Int32) (o1' : Int32) (o2' : Int32) (o3' : Int32) (o4' : Int32) (o5' : Int64) (rp' : Int32), c' = mI M ∧ mx' = mI M ∧ ah' = 0 ∧ rp' = nI (M - n0) ∧ DR e V M k' s' v' o' ∧ GRl gr' a (g + 1) M ∧
      fX5_replayGeneration k s v o c mx ah (nI cq) (nI sy) b l gr o1 o2 o3 o4 o5 rp (nI g) stop = some ((if PS e M - PS e Sg = L ∨ sy ≤ PS e M - PS e Sg then nI (PS e M - PS e Sg) else -5), k', s', v', o', c', mx', ah', gr', o1', o2', o3', o4', o5', rp')) ∧
    (¬ (stop < 0 ∨ nI (M - n0) ≤ stop) → (stop < 0 ∨ nI (Sg - n0) ≤ stop) → ∃ (k' : Nat → Int32) (s' : Nat → Int32) (v' : Nat → Int32) (o' : Nat → Int64) (c' : Int32) (mx' : Int32) (ah' : Int64) (gr' : Nat → Int32) (o1' : Int32) (o2' : Int32) (o3' : Int32) (o4' : Int32) (o5' : Int64) (rp' : Int32), fX5_replayGeneration k s v o c mx ah (nI cq) (nI sy) b l gr o1 o2 o3 o4 o5 rp (nI g) stop = some (-4, k', s', v', o', c', mx', ah', gr', o1', o2', o3', o4', o5', rp')) := by
  have hfg : fX2_forgetSeqs gr (nI g) = some (upd gr (g % 4) (-1)) := by
    rw [fX2_forgetSeqs, rowOf_ok _ (by omega), cal1_e, wrI_n (by omega) (by omega)]
  have hG' : GRl (upd gr (g % 4) (-1)) a (g + 1) Sg := by
    intro i i1 i2
    by_cases e : i = g
    · subst e; exact ⟨0, by omega, upd_s _ _ _⟩
    · rw [upd_o _ _ (by omega)]; exact hG i i1 (by omega)
  have hs0 : ¬ he → fX2_syncedOf (nI cq) (nI sy) l (nI g) = some (nI sy) := by
    intro h
    rw [hcq h, fX2_syncedOf]
    simp only [jp_e]
    rw [if_pos trivial]
  have hgM := PS_ge e hSM
  have H := fun J176 J77 => gen_loop (stop := stop) hg hag hga hl hL hSM hM hn0 hV hpM hrec he hend J176 J77 (M - Sg) Sg (by omega) (Nat.le_refl _) 1000 (by omega) k s v o c mx ah (upd gr (g % 4) (-1)) o1 o2 o3 o4 o5 rp hc hmx hah hrp hD hG' 0 0 (by rw [Nat.sub_self]; rfl) (by rw [Nat.sub_self]; rfl)
  have hX : fX5_replayGeneration k s v o c mx ah (nI cq) (nI sy) b l gr o1 o2 o3 o4 o5 rp (nI g) stop = lo16 (sX5_replayGeneration_23 (fun (y5 : Int32) (w6 : Nat → Int32) (w7 : Nat → Int32) (w8 : Nat → Int32) (w9 : Nat → Int64) (w10 : Int32) (w11 : Int32) (w12 : Int64) (w13 : Nat → Int32) (w14 : Int32) (w15 : Int32) (w16 : Int32) (w17 : Int32) (w18 : Int64) (w19 : Int32) => some (y5, w6, w7, w8, w9, w10, w11, w12, w13, w14, w15, w16, w17, w18, w19)) (nI L) b l (nI g) (fun (y20 : Int32) (w21 : Nat → Int32) (w22 : Nat → Int32) (w23 : Nat → Int32) (w24 : Nat → Int64) (w25 : Int32) (w26 : Int32) (w27 : Int64) (w28 : Nat → Int32) (w29 : Int32) (w30 : Int32) (w31 : Int32) (w32 : Int32) (w33 : Int64) (w34 : Int32) => (cal1 (fX2_syncedOf (nI cq) (nI sy) l (nI g)) (fun r35 => (jp (fun (k37 : Int32) => (some (k37, w21, w22, w23, w24, w25, w26, w27, w28, w29, w30, w31, w32, w33, w34))) (fun J95 => (if r35 ≤ y20 then (J95 y20) else (J95 (-5)))))))) stop) 1000 0 0 k s v o c mx ah (upd gr (g % 4) (-1)) o1 o2 o3 o4 o5 rp := by
    rw [fX5_replayGeneration, lengthOf_ok (by omega) l hl, cal1_e, hfg, cal1_e, jp_e, jp_e]
  rw [hX]
  constructor
  · intro hs
    obtain ⟨k', s', v', o', c', mx', ah', gr', o1', o2', o3', o4', o5', rp', q1, q2, q3, q4, q5, q6, q7, q8⟩ := (H _ _).1 hs
    refine ⟨k', s', v', o', c', mx', ah', gr', o1', o2', o3', o4', o5', rp', q1, q2, q3, q4, q5, q6, ?_⟩
    by_cases h : he
    · rw [q7 h, if_pos (Or.inl (hend.1 h)), hend.1 h]
    · obtain ⟨h1, -⟩ := hend.2 h
      rw [q8 h]
      rw [hs0 h, cal1_e, jp_e]
      by_cases h2 : sy ≤ PS e M - PS e Sg
      · rw [if_pos (by rw [n_le (by omega) (by omega)]; exact h2), if_pos (Or.inr h2)]
      · rw [if_neg (by rw [n_le (by omega) (by omega)]; exact h2), if_neg (by omega)]
  · intro hs hs2
    exact (H _ _).2 hs hs2
/-- a shard that is down: its commit, and a log whose records are whole up to operation M -/
def DNR (e V : Nat → Int32) (n0 a q M L : Nat) (S : Nat → Nat) (b l : Nat → Int32) : Prop :=
  a ≤ q ∧ q ≤ a + 3 ∧ q ≤ 1000 ∧ M ≤ 1000 ∧ VB V M ∧ S a = n0 ∧ (∀ g, a ≤ g → g < q → S g ≤ S (g + 1) ∧ l (g % 4) = nI (PS e (S (g + 1)) - PS e (S g)) ∧ PS e (S (g + 1)) - PS e (S g) ≤ 240 ∧ ∀ j, S g ≤ j → j < S (g + 1) → RecB b (240 * (g % 4) + (PS e j - PS e (S g))) e V j) ∧
  S q ≤ M ∧ l (q % 4) = nI L ∧ L ≤ 240 ∧ (∀ j, S q ≤ j → j < M → RecB b (240 * (q % 4) + (PS e j - PS e (S q))) e V j) ∧ PS e M - PS e (S q) ≤ L ∧
  (PS e M - PS e (S q) = L ∨ (PS e M - PS e (S q) < L ∧ ∀ (o1 o2 o3 o4 : Int32) (o5 : Int64), fX2_read b l o1 o2 o3 o4 o5 (nI q) (nI (PS e M - PS e (S q))) = some (0, o1, o2, o3, o4, o5)))
theorem DNR_S {e V : Nat → Int32} {n0 a q M L : Nat} {S : Nat → Nat} {b l : Nat → Int32} (h : DNR e V n0 a q M L S b l) : ∀ (d g : Nat), a ≤ g → g + d ≤ q → S g ≤ S (g + d) := by
  intro d
  induction d with
  | zero => intro g _ _; exact Nat.le_refl _
  | succ d ih => intro g h1 h2; exact Nat.le_trans (ih g h1 (by omega)) (h.2.2.2.2.2.2.1 (g + d) (by omega) (by omega)).1
/-- over the generations -/
theorem rec_loop {e V b l : Nat → Int32} {n0 a q M L sy : Nat} {S : Nat → Nat} (h : DNR e V n0 a q M L S b l) (hsy : sy ≤ 240) {stop : Int32} (J65 : Int32 → (Nat → Int32) → (Nat → Int32) → (Nat → Int32) → (Nat → Int64) → (Int32) → (Int32) → (Int64) → (Nat → Int32) → (Int32) → (Int32) → (Int32) → (Int32) → (Int64) → (Int32) → Option (Int32 × (Nat → Int32) × (Nat → Int32) × (Nat → Int32) × (Nat → Int64) × (Int32) × (Int32) × (Int64) × (Nat → Int32) × (Nat → Int32) × (Nat → Int32) × (Nat → Int64) × (Int32) × (Nat → Int32) × (Nat → Int32) × (Int32) × (Int32) × (Int32) × (Int32) × (Int64) × (Int32) × (Int32) × (Int32))) (rk rs rv : Nat → Int32) (ro : Nat → Int64) (per dn : Int32) :
    ∀ (m g : Nat), g + m = q + 1 → a ≤ g → ∀ (f : Nat), m < f → ∀ (en : Int32) (k : Nat → Int32) (s : Nat → Int32) (v : Nat → Int32) (o : Nat → Int64) (c : Int32) (mx : Int32) (ah : Int64) (gr : Nat → Int32) (o1 : Int32) (o2 : Int32) (o3 : Int32) (o4 : Int32) (o5 : Int64) (rp : Int32), c = mI (if g = q + 1 then M else S g) → mx = mI (if g = q + 1 then M else S g) → ah = 0 → rp = nI ((if g = q + 1 then M else S g) - n0) → DR e V (if g = q + 1 then M else S g) k s v o → GRl gr a g (if g = q + 1 then M else S g) → (g = q + 1 → en = nI (PS e M - PS e (S q))) → (stop < 0 ∨ nI ((if g = q + 1 then M else S g) - n0) ≤ stop) →
    ((stop < 0 ∨ nI (M - n0) ≤ stop) → g = q + 1 ∨ PS e M - PS e (S q) = L ∨ sy ≤ PS e M - PS e (S q) → ∃ (k' : Nat → Int32) (s' : Nat → Int32) (v' : Nat → Int32) (o' : Nat → Int64) (c' : Int32) (mx' : Int32) (ah' : Int64) (gr' : Nat → Int32) (o1' : Int32) (o2' : Int32) (o3' : Int32) (o4' : Int32) (o5' : Int64) (rp' : Int32), c' = mI M ∧ mx' = mI M ∧ ah' = 0 ∧ rp' = nI (M - n0) ∧ DR e V M k' s' v' o' ∧ GRl gr' a (q + 1) M ∧
      lo16 (sX5_recover_35 (nI q) J65 (nI sy) b l stop rk rs rv ro per dn) f en (nI g) k s v o c mx ah gr o1 o2 o3 o4 o5 rp = J65 (nI (PS e M - PS e (S q))) k' s' v' o' c' mx' ah' gr' o1' o2' o3' o4' o5' rp') ∧
    ((stop < 0 ∨ nI (M - n0) ≤ stop) → ¬ (g = q + 1 ∨ PS e M - PS e (S q) = L ∨ sy ≤ PS e M - PS e (S q)) → ∃ (k' : Nat → Int32) (s' : Nat → Int32) (v' : Nat → Int32) (o' : Nat → Int64) (c' : Int32) (mx' : Int32) (ah' : Int64) (gr' : Nat → Int32) (o1' : Int32) (o2' : Int32) (o3' : Int32) (o4' : Int32) (o5' : Int64) (rp' : Int32), lo16 (sX5_recover_35 (nI q) J65 (nI sy) b l stop rk rs rv ro per dn) f en (nI g) k s v o c mx ah gr o1 o2 o3 o4 o5 rp = some (-5, k', s', v', o', c', mx', ah', rk, rs, rv, ro, nI sy, l, gr', o1', o2', o3', o4', o5', per, rp', dn)) ∧
    (¬ (stop < 0 ∨ nI (M - n0) ≤ stop) → ∃ (k' : Nat → Int32) (s' : Nat → Int32) (v' : Nat → Int32) (o' : Nat → Int64) (c' : Int32) (mx' : Int32) (ah' : Int64) (gr' : Nat → Int32) (o1' : Int32) (o2' : Int32) (o3' : Int32) (o4' : Int32) (o5' : Int64) (rp' : Int32), lo16 (sX5_recover_35 (nI q) J65 (nI sy) b l stop rk rs rv ro per dn) f en (nI g) k s v o c mx ah gr o1 o2 o3 o4 o5 rp = some (-4, k', s', v', o', c', mx', ah', rk, rs, rv, ro, nI sy, l, gr', o1', o2', o3', o4', o5', per, rp', dn)) := by
  have h0 := h
  obtain ⟨haq, hqa, hq, hM, hV, hSa, hgen, hSq, hl, hL, hrec, hpM, hend⟩ := h
  intro m
  induction m with
  | zero =>
    intro g hg hag f hf en k s v o c mx ah gr o1 o2 o3 o4 o5 rp hc hmx hah hrp hD hG hen hst
    obtain ⟨f, rfl⟩ : ∃ z, f = z + 1 := ⟨f - 1, by omega⟩
    obtain rfl : g = q + 1 := by omega
    rw [if_pos rfl] at hc hmx hrp hD hG hst
    refine ⟨fun _ _ => ⟨k, s, v, o, c, mx, ah, gr, o1, o2, o3, o4, o5, rp, hc, hmx, hah, hrp, hD, hG, ?_⟩, fun _ h => absurd (Or.inl rfl) h, fun h => absurd hst h⟩
    rw [lo16_s, sX5_recover_35, if_pos (by rw [n_lt (by omega) (by omega)]; omega), hen rfl]
  | succ m ih =>
    intro g hg hag f hf en k s v o c mx ah gr o1 o2 o3 o4 o5 rp hc hmx hah hrp hD hG hen hst
    obtain ⟨f, rfl⟩ : ∃ z, f = z + 1 := ⟨f - 1, by omega⟩
    have hgq : ¬ g = q + 1 := by omega
    rw [if_neg hgq] at hc hmx hrp hD hG hst
    have hn0g : n0 ≤ S g := by
      have := DNR_S h0 (g - a) a (Nat.le_refl _) (by omega)
      rw [show a + (g - a) = g by omega, hSa] at this
      exact this
    by_cases hlast : g = q
    · subst hlast
      have H := gen_ok (stop := stop) (cq := g) (by omega) hag (by omega) hl hL hSq hM hn0g hV hpM hrec (PS e M - PS e (S g) = L) ⟨fun h => h, fun h => hend.resolve_left h⟩ (fun _ => rfl) hsy (o1 := o1) (o2 := o2) (o3 := o3) (o4 := o4) (o5 := o5) hc hmx hah hrp hD hG
      refine ⟨fun hs hok => ?_, fun hs hok => ?_, fun hs => ?_⟩
      · obtain ⟨k', s', v', o', c', mx', ah', gr', o1', o2', o3', o4', o5', rp', q1, q2, q3, q4, q5, q6, q7⟩ := H.1 hs
        rw [if_pos (hok.resolve_left hgq)] at q7
        have hih := (ih (g + 1) (by omega) (by omega) f (by omega) (nI (PS e M - PS e (S g))) k' s' v' o' c' mx' ah' gr' o1' o2' o3' o4' o5' rp' (by rw [if_pos rfl]; exact q1) (by rw [if_pos rfl]; exact q2) q3 (by rw [if_pos rfl]; exact q4) (by rw [if_pos rfl]; exact q5) (by rw [if_pos rfl]; exact q6) (fun _ => rfl) (by rw [if_pos rfl]; exact hs)).1 hs (Or.inl rfl)
        obtain ⟨k2, s2, v2, o2, c2, mx2, ah2, gr2, o12, o22, o32, o42, o52, rp2, w1, w2, w3, w4, w5, w6, w7⟩ := hih
        refine ⟨k2, s2, v2, o2, c2, mx2, ah2, gr2, o12, o22, o32, o42, o52, rp2, w1, w2, w3, w4, w5, w6, ?_⟩
        rw [lo16_s, sX5_recover_35, if_neg (by rw [n_lt (by omega) (by omega)]; omega), q7, cal15_e, if_pos (by rw [l0, n_le (by omega) (by omega)]; omega), nI_1, bnd_e]
        exact w7
      · obtain ⟨k', s', v', o', c', mx', ah', gr', o1', o2', o3', o4', o5', rp', q1, q2, q3, q4, q5, q6, q7⟩ := H.1 hs
        rw [if_neg (fun h => hok (Or.inr h))] at q7
        refine ⟨k', s', v', o', c', mx', ah', gr', o1', o2', o3', o4', o5', rp', ?_⟩
        rw [lo16_s, sX5_recover_35, if_neg (by rw [n_lt (by omega) (by omega)]; omega), q7, cal15_e, if_neg (by decide)]
      · obtain ⟨k', s', v', o', c', mx', ah', gr', o1', o2', o3', o4', o5', rp', q7⟩ := H.2 hs hst
        refine ⟨k', s', v', o', c', mx', ah', gr', o1', o2', o3', o4', o5', rp', ?_⟩
        rw [lo16_s, sX5_recover_35, if_neg (by rw [n_lt (by omega) (by omega)]; omega), q7, cal15_e, if_neg (by decide)]
    · obtain ⟨d1, d2, d3, d4⟩ := hgen g hag (by omega)
      have hSgM : S (g + 1) ≤ M := by
        have := DNR_S h0 (q - (g + 1)) (g + 1) (by omega) (by omega)
        rw [show g + 1 + (q - (g + 1)) = q by omega] at this
        omega
      have H := gen_ok (stop := stop) (cq := q) (sy := sy) (by omega) hag (by omega) d2 d3 d1 (by omega) hn0g (VB_le hV hSgM) (Nat.le_refl _) d4 True ⟨fun _ => rfl, fun h => absurd trivial h⟩ (fun h => absurd trivial h) hsy (o1 := o1) (o2 := o2) (o3 := o3) (o4 := o4) (o5 := o5) hc hmx hah hrp hD hG
      by_cases hs1 : stop < 0 ∨ nI (S (g + 1) - n0) ≤ stop
      · obtain ⟨k', s', v', o', c', mx', ah', gr', o1', o2', o3', o4', o5', rp', q1, q2, q3, q4, q5, q6, q7⟩ := H.1 hs1
        rw [if_pos (Or.inl rfl)] at q7
        have hne : ¬ g + 1 = q + 1 := by omega
        have hih := ih (g + 1) (by omega) (by omega) f (by omega) (nI (PS e (S (g + 1)) - PS e (S g))) k' s' v' o' c' mx' ah' gr' o1' o2' o3' o4' o5' rp' (by rw [if_neg hne]; exact q1) (by rw [if_neg hne]; exact q2) q3 (by rw [if_neg hne]; exact q4) (by rw [if_neg hne]; exact q5) (by rw [if_neg hne]; exact q6) (fun h => absurd h hne) (by rw [if_neg hne]; exact hs1)
        have hstep : lo16 (sX5_recover_35 (nI q) J65 (nI sy) b l stop rk rs rv ro per dn) (f + 1) en (nI g) k s v o c mx ah gr o1 o2 o3 o4 o5 rp = lo16 (sX5_recover_35 (nI q) J65 (nI sy) b l stop rk rs rv ro per dn) f (nI (PS e (S (g + 1)) - PS e (S g))) (nI (g + 1)) k' s' v' o' c' mx' ah' gr' o1' o2' o3' o4' o5' rp' := by
          rw [lo16_s, sX5_recover_35, if_neg (by rw [n_lt (by omega) (by omega)]; omega), q7, cal15_e, if_pos (by rw [l0, n_le (by omega) (by omega)]; omega), nI_1, bnd_e]
        refine ⟨fun hs hok => ?_, fun hs hok => ?_, fun hs => ?_⟩
        · obtain ⟨k2, s2, v2, o2, c2, mx2, ah2, gr2, o12, o22, o32, o42, o52, rp2, w1, w2, w3, w4, w5, w6, w7⟩ := hih.1 hs (Or.inr (hok.resolve_left hgq))
          exact ⟨k2, s2, v2, o2, c2, mx2, ah2, gr2, o12, o22, o32, o42, o52, rp2, w1, w2, w3, w4, w5, w6, hstep.trans w7⟩
        · obtain ⟨k2, s2, v2, o2, c2, mx2, ah2, gr2, o12, o22, o32, o42, o52, rp2, w7⟩ := hih.2.1 hs (fun h => hok (h.elim (fun h => absurd h hne) Or.inr))
          exact ⟨k2, s2, v2, o2, c2, mx2, ah2, gr2, o12, o22, o32, o42, o52, rp2, hstep.trans w7⟩
        · obtain ⟨k2, s2, v2, o2, c2, mx2, ah2, gr2, o12, o22, o32, o42, o52, rp2, w7⟩ := hih.2.2 hs
          exact ⟨k2, s2, v2, o2, c2, mx2, ah2, gr2, o12, o22, o32, o42, o52, rp2, hstep.trans w7⟩
      · have hsM : ¬ (stop < 0 ∨ nI (M - n0) ≤ stop) := by
          intro h
          rcases h with h | h
          · exact hs1 (Or.inl h)
          · refine hs1 (Or.inr ?_)
            have : nI (S (g + 1) - n0) ≤ nI (M - n0) := by rw [n_le (by omega) (by omega)]; omega
            grind
        obtain ⟨k', s', v', o', c', mx', ah', gr', o1', o2', o3', o4', o5', rp', q7⟩ := H.2 hs1 hst
        refine ⟨fun hs _ => absurd hs hsM, fun hs _ => absurd hs hsM, fun _ => ⟨k', s', v', o', c', mx', ah', gr', o1', o2', o3', o4', o5', rp', ?_⟩⟩
        rw [lo16_s, sX5_recover_35, if_neg (by rw [n_lt (by omega) (by omega)]; omega), q7, cal15_e, if_neg (by decide)]
theorem recX {e V b l : Nat → Int32} {n0 a q M L sy : Nat} {S : Nat → Nat} (h : DNR e V n0 a q M L S b l) (hsy : sy ≤ 240) {ck cs cv : Nat → Int32} {co : Nat → Int64} (hC : DR e V n0 ck cs cv co) (stop : Int32) (hst : stop < 0 ∨ 0 ≤ stop) (k s v rk rs rv : Nat → Int32) (o ro : Nat → Int64) (c mx : Int32) (ah : Int64) (gr : Nat → Int32) (o1 o2 o3 o4 : Int32) (o5 : Int64) (per rp : Int32) :
    ((stop < 0 ∨ nI (M - n0) ≤ stop) → PS e M - PS e (S q) = L ∨ sy ≤ PS e M - PS e (S q) → ∃ (k' s' v' : Nat → Int32) (o' : Nat → Int64) (rk' rs' rv' : Nat → Int32) (ro' : Nat → Int64) (gr' : Nat → Int32) (o1' o2' o3' o4' : Int32) (o5' : Int64),
      fX5_recover k s v o c mx ah ck cs cv co (mI n0) (mI n0) rk rs rv ro (nI a) (nI q) (nI sy) b l gr o1 o2 o3 o4 o5 per rp 1 stop = some (nI (M - n0), k', s', v', o', mI M, mI M, 0, rk', rs', rv', ro', nI (PS e M - PS e (S q)), upd l (q % 4) (nI (PS e M - PS e (S q))), gr', o1', o2', o3', o4', o5', mI M, nI (M - n0), 0) ∧
      DR e V M k' s' v' o' ∧ GRl gr' a (q + 1) M ∧ VIS k' o' rk' ro') ∧
    ((stop < 0 ∨ nI (M - n0) ≤ stop) → ¬ (PS e M - PS e (S q) = L ∨ sy ≤ PS e M - PS e (S q)) → ∃ (k' : Nat → Int32) (s' : Nat → Int32) (v' : Nat → Int32) (o' : Nat → Int64) (c' : Int32) (mx' : Int32) (ah' : Int64) (gr' : Nat → Int32) (o1' : Int32) (o2' : Int32) (o3' : Int32) (o4' : Int32) (o5' : Int64) (rp' : Int32),
      fX5_recover k s v o c mx ah ck cs cv co (mI n0) (mI n0) rk rs rv ro (nI a) (nI q) (nI sy) b l gr o1 o2 o3 o4 o5 per rp 1 stop = some (-5, k', s', v', o', c', mx', ah', rk, rs, rv, ro, nI sy, l, gr', o1', o2', o3', o4', o5', per, rp', 1)) ∧
    (¬ (stop < 0 ∨ nI (M - n0) ≤ stop) → ∃ (k' : Nat → Int32) (s' : Nat → Int32) (v' : Nat → Int32) (o' : Nat → Int64) (c' : Int32) (mx' : Int32) (ah' : Int64) (gr' : Nat → Int32) (o1' : Int32) (o2' : Int32) (o3' : Int32) (o4' : Int32) (o5' : Int64) (rp' : Int32),
      fX5_recover k s v o c mx ah ck cs cv co (mI n0) (mI n0) rk rs rv ro (nI a) (nI q) (nI sy) b l gr o1 o2 o3 o4 o5 per rp 1 stop = some (-4, k', s', v', o', c', mx', ah', rk, rs, rv, ro, nI sy, l, gr', o1', o2', o3', o4', o5', per, rp', 1)) := by
  have h0 := h
  obtain ⟨haq, hqa, hq, hM, hV, hSa, hgen, hSq, hl, hL, hrec, hpM, hend⟩ := h
  have hne : ¬ a = q + 1 := by omega
  have H := fun J65 => rec_loop (stop := stop) h0 hsy J65 rk rs rv ro per 1 (q + 1 - a) a (by omega) (Nat.le_refl _) 1000 (by omega) 0 (cpf k ck 0 16) (cpf s cs 0 16) (cpf v cv 0 16) (cpf o co 0 16) (mI n0) (mI n0) 0 gr o1 o2 o3 o4 o5 0 (by rw [if_neg hne, hSa]) (by rw [if_neg hne, hSa]) rfl (by rw [if_neg hne, hSa, Nat.sub_self]; rfl) (by rw [if_neg hne, hSa]; exact DR_cpf hC k s v o) (fun i i1 i2 => by omega) (fun h => absurd h hne) (by
    rw [if_neg hne, hSa, Nat.sub_self]
    exact hst)
  refine ⟨fun hs hok => ?_, fun hs hok => ?_, fun hs => ?_⟩
  · obtain ⟨k', s', v', o', c', mx', ah', gr', o1', o2', o3', o4', o5', rp', q1, q2, q3, q4, q5, q6, q7⟩ := (H _).1 hs (Or.inr hok)
    subst q1; subst q2; subst q3; subst q4
    refine ⟨k', s', v', o', cpf rk k' 0 16, cpf rs s' 0 16, cpf rv v' 0 16, cpf ro o' 0 16, gr', o1', o2', o3', o4', o5', ?_, q5, q6, fun i hi => ?_⟩
    · rw [fX5_recover, if_neg (by decide), startFrom_ok, cal7_e, jp_e]
      refine q7.trans ?_
      rw [fX2_cutCurrent, rowOf_ok _ (by omega), cal1_e, wrI_n (by omega) (by omega), cal1_e, fX2_syncCurrent, fX2_unsynced, lengthOf_ok (by omega) _ (upd_s _ _ _), cal1_e, bnd_e, cal1_e, cal1_e, cal2_e, copyFrom_ok, cal4_e]
    · rw [cpf_at _ _ (by omega) hi, cpf_at _ _ (by omega) hi]
      exact ⟨Iff.rfl, rfl⟩
  · obtain ⟨k', s', v', o', c', mx', ah', gr', o1', o2', o3', o4', o5', rp', q7⟩ := (H _).2.1 hs (fun h => hok (h.resolve_left hne))
    refine ⟨k', s', v', o', c', mx', ah', gr', o1', o2', o3', o4', o5', rp', ?_⟩
    rw [fX5_recover, if_neg (by decide), startFrom_ok, cal7_e, jp_e]
    exact q7
  · obtain ⟨k', s', v', o', c', mx', ah', gr', o1', o2', o3', o4', o5', rp', q7⟩ := (H _).2.2 hs
    refine ⟨k', s', v', o', c', mx', ah', gr', o1', o2', o3', o4', o5', rp', ?_⟩
    rw [fX5_recover, if_neg (by decide), startFrom_ok, cal7_e, jp_e]
    exact q7
