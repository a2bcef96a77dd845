/-! a new object -/
theorem init0_loop (J : (Nat → Int32) → Option ((Nat → Int32) × (Nat → Int32) × (Nat → Int32) × (Nat → Int64))) : ∀ (m i : Nat), i + m = 16 → ∀ (f : Nat), m < f → ∀ (w : Nat → Int32), lo2 (sX0_init_38 J) f (nI i) w = J (cpf w (fun _ => -1) i 16) := by
  intro m
  induction m with
  | zero =>
    intro i hi f hf w
    obtain ⟨f, rfl⟩ : ∃ z, f = z + 1 := ⟨f - 1, by omega⟩
    obtain rfl : i = 16 := by omega
    rw [lo2_s, sX0_init_38, if_pos (by rw [l16, n_le (by omega) (by omega)]; omega), cpf_n]
  | succ m ih =>
    intro i hi f hf w
    obtain ⟨f, rfl⟩ : ∃ z, f = z + 1 := ⟨f - 1, by omega⟩
    rw [lo2_s, sX0_init_38, if_neg (by rw [l16, n_le (by omega) (by omega)]; omega), wrI_n (by omega) (by omega), nI_1 i, bnd_e, ih (i + 1) (by omega) f (by omega), ← cpf_s w (fun _ => -1) (show i < 16 by omega)]
theorem lo2_c {α γ β : Type} {s : (α → γ → Option β) → α → γ → Option β} {f : Nat} {x x' : α} {y : γ} {r : Option β} (h : lo2 s f x y = r) (hx : x' = x) : lo2 s f x' y = r := by rw [hx]; exact h
def ini : Nat → Int32 := cpf (fun _ => 0) (fun _ => -1) 0 16
theorem ini_i {i : Nat} (h : i < 16) : ini i = -1 := cpf_at _ _ (by omega) h
theorem init0_ok : fX0_init = some ((fun _ => 0), ini, (fun _ => 0), (fun _ => 0)) := by
  rw [fX0_init, jp_e]
  exact lo2_c (init0_loop _ 16 0 rfl 1000 (by omega) _) rfl
theorem init1_ok : fX1_init = some ((fun _ => 0), ini, (fun _ => 0), (fun _ => 0), (-1), (-1), 0) := by
  rw [fX1_init, init0_ok, cal4_e]
theorem init2_ok : fX2_init = some (0, 0, 0, (fun _ => 0), (fun _ => 0), upd (fun _ => 0) 0 (-1)) := by
  rw [fX2_init]
  exact wrI_n (i := 0) (by omega) (by omega)
theorem init5_ok : fX5_init = some ((fun _ => 0), ini, (fun _ => 0), (fun _ => 0), (-1), (-1), 0, (fun _ => 0), ini, (fun _ => 0), (fun _ => 0), (-1), (-1), 0, (fun _ => 0), ini, (fun _ => 0), (fun _ => 0), 0, 0, 0, (fun _ => 0), (fun _ => 0), upd (fun _ => 0) 0 (-1), 0, (fun _ => 0), (fun _ => 0), (fun _ => 0), (fun _ => 0), (fun _ => 0), 3, (-1), (-1), 0, 0, (fun _ => 0), (-1), 0, 0) := by
  rw [fX5_init, init1_ok, cal7_e, cal7_e, init0_ok, cal4_e, init2_ok, cal6_e, fX4_init, cal6_e, fX3_init, cal5_e]
theorem PS_0 (e : Nat → Int32) : PS e 0 = 0 := rfl
theorem initU (e : Nat → Int32) : UPR e 0 0 0 (fun _ => 0) ini (fun _ => 0) (fun _ => 0) (-1) (-1) 0 (fun _ => 0) ini (fun _ => 0) (fun _ => 0) (-1) (-1) 0 0 0 (fun _ => 0) (fun _ => 0) (upd (fun _ => 0) 0 (-1)) (-1) := by
  refine ⟨fun _ => 0, 0, 0, 0, 0, fun _ => 0, ⟨rfl, rfl, rfl, DR_0 e _ (fun i hi => ⟨rfl, ini_i hi, rfl, rfl⟩)⟩, ⟨DR_0 e _ (fun i hi => ⟨rfl, ini_i hi, rfl, rfl⟩), rfl, rfl⟩, ⟨fun q hq => absurd hq (Nat.not_lt_zero _), Nat.le_refl _, by omega⟩, ⟨rfl, rfl, Nat.le_refl _, ⟨Nat.le_refl _, by omega, fun g g1 g2 => ⟨Nat.le_refl _, rfl, ?_, fun j j1 j2 => absurd (show j < 0 from j2) (Nat.not_lt_zero _)⟩⟩, rfl, rfl, fun i i1 i2 => ⟨0, Nat.le_refl _, ?_⟩⟩, ⟨Nat.le_refl _, Nat.le_refl _, rfl, rfl, Nat.le_refl _⟩⟩
  · show PS e 0 - PS e 0 ≤ 240
    omega
  · obtain rfl : i = 0 := by omega
    rfl
/-- the first of the law's loops for the other shard -/
theorem same1_loop {e xs : Nat → Int32} {Ln M1 : Nat} (hLn : Ln < 100000) (hM : M1 ≤ cnw xs Ln 8 32) (he : ∀ m, 8 + m < Ln → m < 32 → wrB (xs (8 + m)) = true → cnw xs Ln 8 m < M1 → e (cnw xs Ln 8 m) = xs (8 + m)) (J74 : Int32 → (Nat → Int32) → (Nat → Int32) → (Nat → Int32) → (Nat → Int64) → (Int32) → (Int32) → (Int64) → (Nat → Int32) → (Nat → Int32) → (Nat → Int32) → (Nat → Int64) → (Int32) → (Int32) → (Int64) → (Int32) → (Int32) → (Int32) → (Nat → Int32) → (Nat → Int32) → (Nat → Int32) → (Int32) → (Int32) → (Int32) → (Int32) → (Int64) → (Int32) → Option (Int32)) :
    ∀ (d m : Nat), m + d = 32 → ∀ (f : Nat), d < f → ∀ (k : Nat → Int32) (s : Nat → Int32) (v : Nat → Int32) (o : Nat → Int64) (c : Int32) (mx : Int32) (ah : Int64) (ck : Nat → Int32) (cs : Nat → Int32) (cv : Nat → Int32) (co : Nat → Int64) (cc : Int32) (cm : Int32) (ca : Int64) (old : Int32) (cur : Int32) (sy : Int32) (b : Nat → Int32) (l : Nat → Int32) (g : Nat → Int32) (p1 : Int32) (p2 : Int32) (p3 : Int32) (p4 : Int32) (p5 : Int64) (per : Int32) (B : Nat), cnw xs Ln 8 m ≤ M1 → UPR e (cnw xs Ln 8 m) B 0 k s v o c mx ah ck cs cv co cc cm old cur sy b l g per → B + 2 * d ≤ 1000 →
    ∃ (k' : Nat → Int32) (s' : Nat → Int32) (v' : Nat → Int32) (o' : Nat → Int64) (c' : Int32) (mx' : Int32) (ah' : Int64) (ck' : Nat → Int32) (cs' : Nat → Int32) (cv' : Nat → Int32) (co' : Nat → Int64) (cc' : Int32) (cm' : Int32) (ca' : Int64) (old' : Int32) (cur' : Int32) (sy' : Int32) (b' : Nat → Int32) (l' : Nat → Int32) (g' : Nat → Int32) (p1' : Int32) (p2' : Int32) (p3' : Int32) (p4' : Int32) (p5' : Int64) (per' : Int32), lo28 (sL_same_16 J74 Ln (nI M1) xs 0) f (nI (cnw xs Ln 8 m)) (nI (8 + m)) k s v o c mx ah ck cs cv co cc cm ca old cur sy b l g p1 p2 p3 p4 p5 per = J74 (nI M1) k' s' v' o' c' mx' ah' ck' cs' cv' co' cc' cm' ca' old' cur' sy' b' l' g' p1' p2' p3' p4' p5' per' ∧ UPR e M1 (B + 2 * d) 0 k' s' v' o' c' mx' ah' ck' cs' cv' co' cc' cm' old' cur' sy' b' l' g' per' := by
  have hM32 : M1 ≤ 32 := Nat.le_trans hM (cnw_le xs Ln 8 32)
  intro d
  induction d with
  | zero =>
    intro m hm f hf k s v o c mx ah ck cs cv co cc cm ca old cur sy b l g p1 p2 p3 p4 p5 per B hc h hB
    obtain ⟨f, rfl⟩ : ∃ z, f = z + 1 := ⟨f - 1, by omega⟩
    obtain rfl : m = 32 := by omega
    have e1 : cnw xs Ln 8 32 = M1 := by omega
    refine ⟨k, s, v, o, c, mx, ah, ck, cs, cv, co, cc, cm, ca, old, cur, sy, b, l, g, p1, p2, p3, p4, p5, per, ?_, by rw [← e1]; exact h⟩
    rw [lo28_s, sL_same_16, if_pos (by rw [show (40 : Int32) = nI 40 from rfl, n_le (by omega) (by omega)]; omega), e1]
  | succ d ih =>
    intro m hm f hf k s v o c mx ah ck cs cv co cc cm ca old cur sy b l g p1 p2 p3 p4 p5 per B hc h hB
    obtain ⟨f, rfl⟩ : ∃ z, f = z + 1 := ⟨f - 1, by omega⟩
    have n40 : ¬ (40 : Int32) ≤ nI (8 + m) := by rw [show (40 : Int32) = nI 40 from rfl, n_le (by omega) (by omega)]; omega
    by_cases hl : 8 + m < Ln
    rotate_left
    · have hz : ∀ j, cnw xs Ln 8 (m + j) = cnw xs Ln 8 m := by
        intro j
        induction j with
        | zero => rfl
        | succ j ihj => rw [← Nat.add_assoc, cnw_n (fun h => by omega), ihj]
      have e1 := hz (d + 1)
      rw [hm] at e1
      have e2 : cnw xs Ln 8 m = M1 := by omega
      refine ⟨k, s, v, o, c, mx, ah, ck, cs, cv, co, cc, cm, ca, old, cur, sy, b, l, g, p1, p2, p3, p4, p5, per, ?_, by rw [← e2]; exact UPR_B h (by omega) (by omega)⟩
      rw [lo28_s, sL_same_16, if_neg n40, show Int32.ofNat Ln = nI Ln from rfl, if_pos (by rw [n_le (by omega) (by omega)]; omega), e2]
    have nLn : ¬ Int32.ofNat Ln ≤ nI (8 + m) := by rw [show Int32.ofNat Ln = nI Ln from rfl, n_le (by omega) (by omega)]; omega
    by_cases hdone : cnw xs Ln 8 m = M1
    · refine ⟨k, s, v, o, c, mx, ah, ck, cs, cv, co, cc, cm, ca, old, cur, sy, b, l, g, p1, p2, p3, p4, p5, per, ?_, by rw [← hdone]; exact UPR_B h (by omega) (by omega)⟩
      rw [lo28_s, sL_same_16, if_neg n40, if_neg nLn, hdone, if_pos (by rw [n_le (by omega) (by omega)]; omega)]
    have hlt : ¬ nI M1 ≤ nI (cnw xs Ln 8 m) := by rw [n_le (by omega) (by omega)]; omega
    by_cases hw : wrB (xs (8 + m)) = true
    · obtain ⟨k', s', v', o', c', mx', ah', ck', cs', cv', co', cc', cm', ca', old', cur', sy', b', l', g', r1, r2, r3, r4, r5, per', ha, hU, -, -⟩ := applyU h (by omega) (he m hl (by omega) hw (by omega)) ca p1 p2 p3 p4 p5
      rw [← cnw_y ⟨hl, hw⟩] at hU
      obtain ⟨k2, s2, v2, o2, c2, mx2, ah2, ck2, cs2, cv2, co2, cc2, cm2, ca2, old2, cur2, sy2, b2, l2, g2, p12, p22, p32, p42, p52, per2, q1, q2⟩ := ih (m + 1) (by omega) f (by omega) k' s' v' o' c' mx' ah' ck' cs' cv' co' cc' cm' ca' old' cur' sy' b' l' g' r1 r2 r3 r4 r5 per' (B + 2) (by rw [cnw_y ⟨hl, hw⟩]; omega) hU (by omega)
      refine ⟨k2, s2, v2, o2, c2, mx2, ah2, ck2, cs2, cv2, co2, cc2, cm2, ca2, old2, cur2, sy2, b2, l2, g2, p12, p22, p32, p42, p52, per2, ?_, UPR_B q2 (by omega) (by omega)⟩
      rw [lo28_s, sL_same_16, if_neg n40, if_neg nLn, if_neg hlt, rdI_n hl (by omega), writes_ok, cal1_e, if_pos hw, jp_e, if_neg (by decide), rdI_n hl (by omega), ha, cal27_e, if_pos rfl, nI_1, bnd_e]
      try dsimp only
      rw [nI_1, bnd_e, ← cnw_y ⟨hl, hw⟩]
      exact q1
    · have ec : cnw xs Ln 8 (m + 1) = cnw xs Ln 8 m := cnw_n (fun h => hw h.2)
      obtain ⟨k2, s2, v2, o2, c2, mx2, ah2, ck2, cs2, cv2, co2, cc2, cm2, ca2, old2, cur2, sy2, b2, l2, g2, p12, p22, p32, p42, p52, per2, q1, q2⟩ := ih (m + 1) (by omega) f (by omega) k s v o c mx ah ck cs cv co cc cm ca old cur sy b l g p1 p2 p3 p4 p5 per (B + 2) (by omega) (by rw [ec]; exact UPR_B h (by omega) (by omega)) (by omega)
      refine ⟨k2, s2, v2, o2, c2, mx2, ah2, ck2, cs2, cv2, co2, cc2, cm2, ca2, old2, cur2, sy2, b2, l2, g2, p12, p22, p32, p42, p52, per2, ?_, UPR_B q2 (by omega) (by omega)⟩
      rw [lo28_s, sL_same_16, if_neg n40, if_neg nLn, if_neg hlt, rdI_n hl (by omega), writes_ok, cal1_e, if_neg hw, jp_e, if_pos rfl]
      try dsimp only
      rw [nI_1, bnd_e, ← ec]
      exact q1
/-- the second of them -/
theorem same2_loop {e xs : Nat → Int32} {Ln M1 M2 : Nat} (hLn : Ln < 100000) (hM12 : M1 ≤ M2) (hM1 : M1 ≤ 32) (hM : M2 ≤ M1 + cnw xs Ln 40 32) (he : ∀ m, 40 + m < Ln → m < 32 → wrB (xs (40 + m)) = true → M1 + cnw xs Ln 40 m < M2 → e (M1 + cnw xs Ln 40 m) = xs (40 + m)) (J136 : Int32 → (Nat → Int32) → (Nat → Int32) → (Nat → Int32) → (Nat → Int64) → (Int32) → (Int32) → (Int64) → (Nat → Int32) → (Nat → Int32) → (Nat → Int32) → (Nat → Int64) → (Int32) → (Int32) → (Int64) → (Int32) → (Int32) → (Int32) → (Nat → Int32) → (Nat → Int32) → (Nat → Int32) → (Int32) → (Int32) → (Int32) → (Int32) → (Int64) → (Int32) → Option (Int32)) :
    ∀ (d m : Nat), m + d = 32 → ∀ (f : Nat), d < f → ∀ (k : Nat → Int32) (s : Nat → Int32) (v : Nat → Int32) (o : Nat → Int64) (c : Int32) (mx : Int32) (ah : Int64) (ck : Nat → Int32) (cs : Nat → Int32) (cv : Nat → Int32) (co : Nat → Int64) (cc : Int32) (cm : Int32) (ca : Int64) (old : Int32) (cur : Int32) (sy : Int32) (b : Nat → Int32) (l : Nat → Int32) (g : Nat → Int32) (p1 : Int32) (p2 : Int32) (p3 : Int32) (p4 : Int32) (p5 : Int64) (per : Int32) (B : Nat), M1 + cnw xs Ln 40 m ≤ M2 → UPR e (M1 + cnw xs Ln 40 m) B 0 k s v o c mx ah ck cs cv co cc cm old cur sy b l g per → B + 2 * d ≤ 1000 →
    ∃ (k' : Nat → Int32) (s' : Nat → Int32) (v' : Nat → Int32) (o' : Nat → Int64) (c' : Int32) (mx' : Int32) (ah' : Int64) (ck' : Nat → Int32) (cs' : Nat → Int32) (cv' : Nat → Int32) (co' : Nat → Int64) (cc' : Int32) (cm' : Int32) (ca' : Int64) (old' : Int32) (cur' : Int32) (sy' : Int32) (b' : Nat → Int32) (l' : Nat → Int32) (g' : Nat → Int32) (p1' : Int32) (p2' : Int32) (p3' : Int32) (p4' : Int32) (p5' : Int64) (per' : Int32), lo28 (sL_same_78 J136 Ln (mI M2) xs 0) f (nI (M1 + cnw xs Ln 40 m)) (nI (40 + m)) k s v o c mx ah ck cs cv co cc cm ca old cur sy b l g p1 p2 p3 p4 p5 per = J136 (nI M2) k' s' v' o' c' mx' ah' ck' cs' cv' co' cc' cm' ca' old' cur' sy' b' l' g' p1' p2' p3' p4' p5' per' ∧ UPR e M2 (B + 2 * d) 0 k' s' v' o' c' mx' ah' ck' cs' cv' co' cc' cm' old' cur' sy' b' l' g' per' := by
  have hM32 : M2 ≤ 64 := by have := cnw_le xs Ln 40 32; omega
  intro d
  induction d with
  | zero =>
    intro m hm f hf k s v o c mx ah ck cs cv co cc cm ca old cur sy b l g p1 p2 p3 p4 p5 per B hc h hB
    obtain ⟨f, rfl⟩ : ∃ z, f = z + 1 := ⟨f - 1, by omega⟩
    obtain rfl : m = 32 := by omega
    have e1 : M1 + cnw xs Ln 40 32 = M2 := by omega
    refine ⟨k, s, v, o, c, mx, ah, ck, cs, cv, co, cc, cm, ca, old, cur, sy, b, l, g, p1, p2, p3, p4, p5, per, ?_, by rw [← e1]; exact h⟩
    rw [lo28_s, sL_same_78, if_pos (by rw [show (72 : Int32) = nI 72 from rfl, n_le (by omega) (by omega)]; omega), e1]
  | succ d ih =>
    intro m hm f hf k s v o c mx ah ck cs cv co cc cm ca old cur sy b l g p1 p2 p3 p4 p5 per B hc h hB
    obtain ⟨f, rfl⟩ : ∃ z, f = z + 1 := ⟨f - 1, by omega⟩
    have n72 : ¬ (72 : Int32) ≤ nI (40 + m) := by rw [show (72 : Int32) = nI 72 from rfl, n_le (by omega) (by omega)]; omega
    by_cases hl : 40 + m < Ln
    rotate_left
    · have hz : ∀ j, cnw xs Ln 40 (m + j) = cnw xs Ln 40 m := by
        intro j
        induction j with
        | zero => rfl
        | succ j ihj => rw [← Nat.add_assoc, cnw_n (fun h => by omega), ihj]
      have e1 := hz (d + 1)
      rw [hm] at e1
      have e2 : M1 + cnw xs Ln 40 m = M2 := by omega
      refine ⟨k, s, v, o, c, mx, ah, ck, cs, cv, co, cc, cm, ca, old, cur, sy, b, l, g, p1, p2, p3, p4, p5, per, ?_, by rw [← e2]; exact UPR_B h (by omega) (by omega)⟩
      rw [lo28_s, sL_same_78, if_neg n72, show Int32.ofNat Ln = nI Ln from rfl, if_pos (by rw [n_le (by omega) (by omega)]; omega), e2]
    have nLn : ¬ Int32.ofNat Ln ≤ nI (40 + m) := by rw [show Int32.ofNat Ln = nI Ln from rfl, n_le (by omega) (by omega)]; omega
    by_cases hdone : M1 + cnw xs Ln 40 m = M2
    · refine ⟨k, s, v, o, c, mx, ah, ck, cs, cv, co, cc, cm, ca, old, cur, sy, b, l, g, p1, p2, p3, p4, p5, per, ?_, by rw [← hdone]; exact UPR_B h (by omega) (by omega)⟩
      rw [lo28_s, sL_same_78, if_neg n72, if_neg nLn, hdone, if_pos (by rw [mn_lt (by omega) (by omega)]; omega)]
    have hlt : ¬ mI M2 < nI (M1 + cnw xs Ln 40 m) := by rw [mn_lt (by omega) (by omega)]; omega
    by_cases hw : wrB (xs (40 + m)) = true
    · obtain ⟨k', s', v', o', c', mx', ah', ck', cs', cv', co', cc', cm', ca', old', cur', sy', b', l', g', r1, r2, r3, r4, r5, per', ha, hU, -, -⟩ := applyU h (by omega) (he m hl (by omega) hw (by omega)) ca p1 p2 p3 p4 p5
      rw [Nat.add_assoc, ← cnw_y ⟨hl, hw⟩] at hU
      obtain ⟨k2, s2, v2, o2, c2, mx2, ah2, ck2, cs2, cv2, co2, cc2, cm2, ca2, old2, cur2, sy2, b2, l2, g2, p12, p22, p32, p42, p52, per2, q1, q2⟩ := ih (m + 1) (by omega) f (by omega) k' s' v' o' c' mx' ah' ck' cs' cv' co' cc' cm' ca' old' cur' sy' b' l' g' r1 r2 r3 r4 r5 per' (B + 2) (by rw [cnw_y ⟨hl, hw⟩]; omega) hU (by omega)
      refine ⟨k2, s2, v2, o2, c2, mx2, ah2, ck2, cs2, cv2, co2, cc2, cm2, ca2, old2, cur2, sy2, b2, l2, g2, p12, p22, p32, p42, p52, per2, ?_, UPR_B q2 (by omega) (by omega)⟩
      rw [lo28_s, sL_same_78, if_neg n72, if_neg nLn, if_neg hlt, rdI_n hl (by omega), writes_ok, cal1_e, if_pos hw, jp_e, if_neg (by decide), rdI_n hl (by omega), ha, cal27_e, if_pos rfl, nI_1, bnd_e]
      try dsimp only
      rw [nI_1, bnd_e, Nat.add_assoc, ← cnw_y ⟨hl, hw⟩]
      exact q1
    · have ec : cnw xs Ln 40 (m + 1) = cnw xs Ln 40 m := cnw_n (fun h => hw h.2)
      obtain ⟨k2, s2, v2, o2, c2, mx2, ah2, ck2, cs2, cv2, co2, cc2, cm2, ca2, old2, cur2, sy2, b2, l2, g2, p12, p22, p32, p42, p52, per2, q1, q2⟩ := ih (m + 1) (by omega) f (by omega) k s v o c mx ah ck cs cv co cc cm ca old cur sy b l g p1 p2 p3 p4 p5 per (B + 2) (by omega) (by rw [ec]; exact UPR_B h (by omega) (by omega)) (by omega)
      refine ⟨k2, s2, v2, o2, c2, mx2, ah2, ck2, cs2, cv2, co2, cc2, cm2, ca2, old2, cur2, sy2, b2, l2, g2, p12, p22, p32, p42, p52, per2, ?_, UPR_B q2 (by omega) (by omega)⟩
      rw [lo28_s, sL_same_78, if_neg n72, if_neg nLn, if_neg hlt, rdI_n hl (by omega), writes_ok, cal1_e, if_neg hw, jp_e, if_pos rfl]
      try dsimp only
      rw [nI_1, bnd_e, ← ec]
      exact q1
theorem cmp_self (x : Int64) : lg_cmp x x = 0 := by
  unfold lg_cmp
  simp
/-- all ids alike -/
theorem same3_loop {e V1 V2 : Nat → Int32} {n : Nat} {k s v k2 s2 v2 rk rs yk ys : Nat → Int32} {o o2 ro : Nat → Int64} (h1 : DR e V1 n k s v o) (h2 : DR e V2 n k2 s2 v2 o2) (hv : VIS k o rk ro) (J264 J256 : Option Int32) :
    ∀ (m i : Nat), i + m = 8 → ∀ (f : Nat), m < f → lo1 (sL_same_149 J264 k2 s2 v2 yk ys 0 o 0 o2 k s v rk rs J256) f (nI i) = J264 := by
  intro m
  induction m with
  | zero =>
    intro i hi f hf
    obtain ⟨f, rfl⟩ : ∃ z, f = z + 1 := ⟨f - 1, by omega⟩
    rw [lo1_s, sL_same_149, if_pos (by rw [l8, n_le (by omega) (by omega)]; omega)]
  | succ m ih =>
    intro i hi f hf
    obtain ⟨f, rfl⟩ : ∃ z, f = z + 1 := ⟨f - 1, by omega⟩
    have hih := ih (i + 1) (by omega) f (by omega)
    have hi16 : i < 16 := by omega
    have hvi := (hv i hi16).1
    rw [lo1_s, sL_same_149, if_neg (by rw [l8, n_le (by omega) (by omega)]; omega), known0 _ _ _ _ _ hi16, cal1_e, jp_ite]
    simp only [jp_e]
    rw [getU _ hi16, cal1_e, getU _ hi16, cal1_e, bnd_e]
    rcases DR_src h1 hi16 with ⟨q, a1, a2, a3, a4, a5⟩ | ⟨a1, a2, a3⟩ <;> rcases DR_src h2 hi16 with ⟨q', b1, b2, b3, b4, b5⟩ | ⟨b1, b2, b3⟩
    · have := IL_uni a1 b1
      subst this
      rw [a5, b5, cmp_self, if_pos rfl, known0 _ _ _ _ _ hi16, cal1_e, a3, b3, if_pos rfl, if_pos rfl, if_pos rfl, if_neg (by decide), known1 _ _ _ _ _ hi16, cal1_e, known1 _ _ _ _ _ hi16, cal1_e, a4, b4, if_pos rfl, known3 _ _ _ _ _ hi16, cal1_e, if_neg (by decide), if_pos (hvi.mpr a3), if_pos rfl, nI_1, bnd_e]
      exact hih
    · exact absurd ⟨q, a1, a2⟩ b1
    · exact absurd ⟨q', b1, b2⟩ a1
    · rw [a3, b3, cmp_self, if_pos rfl, known0 _ _ _ _ _ hi16, cal1_e, if_neg b2, if_neg a2, if_pos rfl, if_pos rfl, known3 _ _ _ _ _ hi16, cal1_e, if_pos rfl, if_neg (fun h => a2 (hvi.mp h)), if_pos rfl, nI_1, bnd_e]
      exact hih
theorem sameU {e xs : Nat → Int32} {Ln M1 M2 B P0 : Nat} (hLn : Ln < 100000) (hM : M1 ≤ cnw xs Ln 8 32) (he : ∀ m, 8 + m < Ln → m < 32 → wrB (xs (8 + m)) = true → cnw xs Ln 8 m < M1 → e (cnw xs Ln 8 m) = xs (8 + m)) (hM12 : M1 ≤ M2) (hM2 : M2 ≤ M1 + cnw xs Ln 40 32) (he2 : ∀ m, 40 + m < Ln → m < 32 → wrB (xs (40 + m)) = true → M1 + cnw xs Ln 40 m < M2 → e (M1 + cnw xs Ln 40 m) = xs (40 + m))
    {k s v : Nat → Int32} {o : Nat → Int64} {c mx : Int32} {ah : Int64} {ck cs cv : Nat → Int32} {co : Nat → Int64} {cc cm old cur sy : Int32} {b l g : Nat → Int32} {per : Int32} (h : UPR e M2 B P0 k s v o c mx ah ck cs cv co cc cm old cur sy b l g per) {rk rs : Nat → Int32} {ro : Nat → Int64} (hv : VIS k o rk ro) : fL_same xs Ln k s v o rk rs 0 (nI M1) (mI M2) = some 1 := by
  have hM32 : M1 ≤ 32 := Nat.le_trans hM (cnw_le xs Ln 8 32)
  have hM64 : M2 ≤ 64 := by have := cnw_le xs Ln 40 32; omega
  rw [fL_same, init5_ok, cal39_e, jp_e]
  obtain ⟨k', s', v', o', c', mx', ah', ck', cs', cv', co', cc', cm', ca', old', cur', sy', b', l', g', p1', p2', p3', p4', p5', per', h1, h2⟩ := same1_loop hLn hM he _ 32 0 rfl 1000 (by omega) _ _ _ _ _ _ _ _ _ _ _ _ _ 0 _ _ _ _ _ _ 3 (-1) (-1) 0 0 _ 0 (Nat.zero_le _) (initU e) (by omega)
  refine Eq.trans h1 ?_
  try dsimp only
  rw [jp_e]
  obtain ⟨k2, s2, v2, o2, c2, mx2, ah2, ck2, cs2, cv2, co2, cc2, cm2, ca2, old2, cur2, sy2, b2, l2, g2, p12, p22, p32, p42, p52, per2, g1, g2⟩ := same2_loop hLn hM12 hM32 hM2 he2 _ 32 0 rfl 1000 (by omega) k' s' v' o' c' mx' ah' ck' cs' cv' co' cc' cm' ca' old' cur' sy' b' l' g' p1' p2' p3' p4' p5' per' (0 + 2 * 32) (by show M1 + 0 ≤ M2; omega) h2 (by omega)
  refine Eq.trans g1 ?_
  try dsimp only
  obtain ⟨V, n0, p, a, q, S, ⟨-, -, -, hD⟩, -⟩ := h
  obtain ⟨V', n0', p', a', q', S', ⟨-, -, -, hD'⟩, -⟩ := g2
  rw [m_succ, bnd_e, if_pos rfl, jp_e, jp_e]
  exact same3_loop hD hD' hv _ _ 8 0 rfl 1000 (by omega)
