/-! the law -/
theorem UPR_cg {e e' : Nat → Int32} {n B P0 : Nat} {k s v : Nat → Int32} {o : Nat → Int64} {c mx : Int32} {ah : Int64} {ck cs cv : Nat → Int32} {co : Nat → Int64} {cc cm old cur sy : Int32} {b l g : Nat → Int32} {per : Int32} (he : ∀ j, j < n → e j = e' j) (h : UPR e n B P0 k s v o c mx ah ck cs cv co cc cm old cur sy b l g per) : UPR e' n B P0 k s v o c mx ah ck cs cv co cc cm old cur sy b l g per := by
  obtain ⟨V, n0, p, a, q, S, ⟨h1, h2, h3, hD⟩, ⟨hC, h4, h5⟩, h6, ⟨h7, h8, h9, hLG, hSa, hSq, hG⟩, ⟨g1, g2, g3, g4, g5⟩⟩ := h
  have hS : ∀ r, a ≤ r → r ≤ q + 1 → S r ≤ n := fun r r1 r2 => by rw [← hSq]; exact S_le2 hLG r1 r2 (Nat.le_refl _)
  have haq := hLG.1
  have hps : ∀ r, r ≤ n → PS e r = PS e' r := fun r hr => PS_congr (fun j hj => he j (by omega))
  have hn0 : n0 ≤ n := by rw [← hSa]; exact hS a (Nat.le_refl _) (by omega)
  refine ⟨V, n0, p, a, q, S, ⟨h1, h2, h3, DR_congr he (fun _ _ => rfl) hD⟩, ⟨DR_congr (fun j hj => he j (by omega)) (fun _ _ => rfl) hC, h4, h5⟩, h6, ⟨h7, h8, h9, ⟨hLG.1, hLG.2.1, fun r r1 r2 => ?_⟩, hSa, hSq, hG⟩, ⟨g1, g2, ?_, g4, g5⟩⟩
  · obtain ⟨d1, d2, d3, d4⟩ := hLG.2.2 r r1 r2
    have e1 := hS r r1 (by omega)
    have e2 := hS (r + 1) (by omega) (by omega)
    rw [← hps _ e1, ← hps _ e2]
    refine ⟨d1, d2, d3, fun j j1 j2 => ?_⟩
    rw [← hps j (by omega)]
    exact RecB_congr (he j (by omega)) rfl (d4 j j1 j2)
  · rw [← hps p g2, ← hps _ (hS q haq (by omega))]; exact g3
theorem UPR_8 {e : Nat → Int32} {n B P0 : Nat} {k s v : Nat → Int32} {o : Nat → Int64} {c mx : Int32} {ah : Int64} {ck cs cv : Nat → Int32} {co : Nat → Int64} {cc cm old cur sy : Int32} {b l g : Nat → Int32} {per : Int32} (h : UPR e n B P0 k s v o c mx ah ck cs cv co cc cm old cur sy b l g per) : ∀ i, 8 ≤ i → i < 16 → ¬ k i = 1 := by
  obtain ⟨V, n0, p, a, q, S, ⟨-, -, -, hD⟩, -⟩ := h
  intro i i1 i2 hk
  obtain ⟨r, ⟨a1, a2, a3⟩, -⟩ := (DR_doc hD i2).mp hk
  have := (id_C (e r)).2
  omega
theorem cnw_add (xs : Nat → Int32) (Ln a : Nat) : ∀ m, cnw xs Ln a (1 + m) = cnw xs Ln a 1 + cnw xs Ln (a + 1) m := by
  intro m
  induction m with
  | zero => rfl
  | succ m ih =>
    have e1 : cnw xs Ln a (1 + (m + 1)) = cnw xs Ln a (1 + m) + (if a + (1 + m) < Ln ∧ wrB (xs (a + (1 + m))) = true then 1 else 0) := rfl
    have e2 : cnw xs Ln (a + 1) (m + 1) = cnw xs Ln (a + 1) m + (if a + 1 + m < Ln ∧ wrB (xs (a + 1 + m)) = true then 1 else 0) := rfl
    rw [e1, e2, ih, show a + 1 + m = a + (1 + m) by omega, Nat.add_assoc]
theorem lo8_lit {A3 A4 A5 A6 A7 A8 β : Type} {s : (Int32 → Int32 → A3 → A4 → A5 → A6 → A7 → A8 → Option β) → Int32 → Int32 → A3 → A4 → A5 → A6 → A7 → A8 → Option β} {f : Nat} {x y x' y' : Int32} {a3 : A3} {a4 : A4} {a5 : A5} {a6 : A6} {a7 : A7} {a8 : A8} {r : Option β} (h : lo8 s f x y a3 a4 a5 a6 a7 a8 = r) (hx : x' = x) (hy : y' = y) : lo8 s f x' y' a3 a4 a5 a6 a7 a8 = r := by rw [hx, hy]; exact h
theorem law_pure {L : Nat} {xs : Nat → Int32} (hL260 : L ≤ 260) : fL_law xs L = some 1 := by
  have hL : L < 100000 := by omega
  obtain ⟨T, hT1, hT, h0, h1⟩ := tok_ex xs L
  have n10 : ¬ (1 : Int32) = 0 := by decide
  have hm1 : ∀ M : Nat, M < 100000 → ¬ mI M < -1 := fun M hM => by rw [lm1, mm_lt (by omega) (by omega)]; omega
  obtain ⟨k1, s1, v1, o1, c1, mx1, ah1, ck1, cs1, cv1, co1, cc1, cm1, ca1, rk1, rs1, rv1, ro1, old1, cur1, sy1, b1, l1, g1, p11, p21, p31, p41, p51, per1, ht1, hU1, -⟩ := turns_ok (e := nth xs L 8 32) (xs := xs) (a := 8) (en := 40) (n1 := 0) (B := 0) (P0 := 0) hL (by omega) (by omega) (by omega) (fun m m1 m2 hw => by rw [Nat.zero_add]; exact nth_at ⟨m1, hw⟩ (by omega)) (ca := 0) (rk := fun _ => 0) (rs := ini) (rv := fun _ => 0) (ro := fun _ => 0) (p1 := 3) (p2 := -1) (p3 := -1) (p4 := 0) (p5 := 0) (initU _) (by omega)
  rw [Nat.zero_add, Nat.zero_add] at hU1
  rw [fL_law, init5_ok, cal39_e, show (8 : Int32) = nI 8 from rfl, show (40 : Int32) = nI 40 from rfl, show (41 : Int32) = nI 41 from rfl, show (72 : Int32) = nI 72 from rfl, ht1, cal31_e, if_neg n10, show fL_cell xs L 0 = some (celN xs L 0) from cell_ok (j := 0) hL (by omega), cal1_e]
  obtain ⟨M1, k2, s2, v2, o2, c2, mx2, ah2, rk2, rs2, rv2, ro2, sy2, b2, l2, g2, p12, p22, p32, p42, p52, per2, rp2, hc1, hU2, hv2, hM1n, -⟩ := crashU (rk := rk1) (rs := rs1) (rv := rv1) (ro := ro1) (p1 := p11) (p2 := p21) (p3 := p31) (p4 := p41) (p5 := p51) (rp := 0) hU1 (celN xs L 0)
  have hM1c : M1 ≤ cnw xs L 8 32 := hM1n
  have hM32 : M1 ≤ 32 := Nat.le_trans hM1c (cnw_le xs L 8 32)
  rw [hc1, cal24_e, jp_e, if_neg (hm1 M1 (by omega)), m_succ, bnd_e]
  obtain ⟨e2, he2⟩ : ∃ e2 : Nat → Int32, e2 = fun j => if j < M1 then nth xs L 8 32 j else nth xs L 40 32 (j - M1) := ⟨_, rfl⟩
  have ea : ∀ m, 8 + m < L → m < 32 → wrB (xs (8 + m)) = true → cnw xs L 8 m < M1 → e2 (cnw xs L 8 m) = xs (8 + m) := by
    intro m m1 m2 hw hlt
    rw [he2]
    show (if _ then _ else _) = _
    rw [if_pos hlt]
    exact nth_at ⟨m1, hw⟩ m2
  have eb : ∀ m, 40 + m < L → m < 32 → wrB (xs (40 + m)) = true → e2 (M1 + cnw xs L 40 m) = xs (40 + m) := by
    intro m m1 m2 hw
    rw [he2]
    show (if _ then _ else _) = _
    rw [if_neg (by omega), Nat.add_sub_cancel_left]
    exact nth_at ⟨m1, hw⟩ m2
  have hU2' : UPR e2 M1 (2 * (40 - 8)) M1 k2 s2 v2 o2 c2 mx2 ah2 ck1 cs1 cv1 co1 cc1 cm1 old1 cur1 sy2 b2 l2 g2 per2 := UPR_cg (fun j hj => by rw [he2]; show _ = (if _ then _ else _); rw [if_pos hj]) hU2
  have hs1 := sameU (M1 := M1) (M2 := M1) hL hM1c ea (Nat.le_refl _) (Nat.le_add_right _ _) (fun m _ _ _ h => by omega) hU2' hv2 (rs := rs2)
  rw [hs1, cal1_e, if_neg n10, tokens_ok hL hT1 hT h0 h1, cal1_e, jp_e, jp_e]
  obtain ⟨qk, qa, qb, w1, w2, w3, hq, hask⟩ := ask_loop hL hT1 hT h0 h1 rk2 ro2 _ _ T 0 (by omega) 1000 (by omega) (fun _ => 0) (fun _ => 0) (fun _ => 0) (fun _ => 0) (fun _ => 0) (fun _ => 0) (fun j hj => absurd hj (Nat.not_lt_zero _))
  refine Eq.trans (lo8_lit hask rfl rfl) ?_
  try dsimp only
  obtain ⟨w4, w5, w6, hans⟩ := answers_ok (s := s2) (v := v2) (rs := rs2) hL hT1 hT h0 h1 hv2 hq (UPR_8 hU2') w1 w2 w3
  obtain ⟨H, hH⟩ := hits_ok hT h0 h1 hv2 hq
  obtain ⟨w7, w8, w9, hh1⟩ := hH w4 w5 w6
  obtain ⟨k3, s3, v3, o3, c3, mx3, ah3, ck3, cs3, cv3, co3, cc3, cm3, ca3, rk3, rs3, rv3, ro3, old3, cur3, sy3, b3, l3, g3, p13, p23, p33, p43, p53, per3, ht2, hU3, hr3⟩ := turns_ok (e := e2) (xs := xs) (a := 40) (en := 41) (n1 := M1) hL (by omega) (by omega) (by omega) (fun m m1 m2 hw => eb m m1 (by omega) hw) (ca := ca1) (rk := rk2) (rs := rs2) (rv := rv2) (ro := ro2) (p1 := p12) (p2 := p22) (p3 := p32) (p4 := p42) (p5 := p52) hU2' (by omega)
  rw [hans, cal4_e, if_neg n10, hh1, cal4_e, ht2, cal31_e, jp_e, if_neg n10]
  refine jp_P (P := fun X => X = some 1) (fun J183 h183 => ?_)
  have hJ : ∀ x1 x2 x3, J183 x1 x2 x3 = some 1 := by
    intro x1 x2 x3
    rw [h183]
    clear h183
    obtain ⟨k4, s4, v4, o4, c4, mx4, ah4, ck4, cs4, cv4, co4, cc4, cm4, ca4, rk4, rs4, rv4, ro4, old4, cur4, sy4, b4, l4, g4, p14, p24, p34, p44, p54, per4, ht3, hU4, -⟩ := turns_ok (e := e2) (xs := xs) (a := 41) (en := 72) hL (by omega) (by omega) (by omega) (fun m m1 m2 hw => by
      have h3 := eb (1 + m) (by omega) (by omega) (by rw [show 40 + (1 + m) = 41 + m by omega]; exact hw)
      rw [cnw_add, ← Nat.add_assoc, show 40 + (1 + m) = 41 + m by omega] at h3
      exact h3) (ca := ca3) (rk := rk3) (rs := rs3) (rv := rv3) (ro := ro3) (p1 := p13) (p2 := p23) (p3 := p33) (p4 := p43) (p5 := p53) hU3 (by omega)
    have hn2 : M1 + cnw xs L 40 (41 - 40) + cnw xs L 41 (72 - 41) = M1 + cnw xs L 40 32 := by
      have h9 : cnw xs L 40 (1 + 31) = cnw xs L 40 1 + cnw xs L 41 31 := cnw_add xs L 40 31
      show M1 + cnw xs L 40 1 + cnw xs L 41 31 = M1 + cnw xs L 40 (1 + 31)
      omega
    rw [hn2] at hU4
    obtain ⟨k5, s5, v5, rk5, rs5, rv5, ro5, hr, hU5, hv5, hct⟩ := refreshU hU4 rk4 rs4 rv4 ro4
    obtain ⟨w10, w11, w12, hans2⟩ := answers_ok (s := s5) (v := v5) (rs := rs5) hL hT1 hT h0 h1 hv5 hq (UPR_8 hU5) x1 x2 x3
    obtain ⟨M2, k6, s6, v6, o6, c6, mx6, ah6, rk6, rs6, rv6, ro6, sy6, b6, l6, g6, p16, p26, p36, p46, p56, per6, rp6, hc2, hU6, hv6, hM2n, hM12⟩ := crashU (rk := rk5) (rs := rs5) (rv := rv5) (ro := ro5) (p1 := p14) (p2 := p24) (p3 := p34) (p4 := p44) (p5 := p54) (rp := rp2) hU5 (celN xs L 1)
    have hc40 := cnw_le xs L 40 32
    have hs2 := sameU (M1 := M1) (M2 := M2) hL hM1c ea hM12 hM2n (fun m m1 m2 hw _ => eb m m1 m2 hw) hU6 hv6 (rs := rs6)
    obtain ⟨w13, w14, w15, hans3⟩ := answers_ok (s := s6) (v := v6) (rs := rs6) hL hT1 hT h0 h1 hv6 hq (UPR_8 hU6) w10 w11 w12
    try dsimp only
    rw [ht3, cal31_e, if_neg n10, docs_ok, cal1_e, hr, cal8_e, jp_e, if_pos (by rw [hct]), hans2, cal4_e, if_neg n10, show fL_cell xs L 1 = some (celN xs L 1) from cell_ok (j := 1) hL (by omega), cal1_e, hc2, cal24_e, jp_e, jp_e, if_neg (hm1 M2 (by omega)), bnd_e, hs2, cal1_e, if_neg n10, hans3, cal4_e, if_neg n10]
  clear h183
  rw [jp_e]
  have hJ171 : (rk3 = rk2 ∧ ro3 = ro2) → cal4 (fL_hits rk3 ro3 (nI T) qk qa qb w7 w8 w9 0) (fun r253 u254 u255 u256 => (bnd (lg_cmp r253 H : Int32) (fun z258 => (if z258 = 0 then (J183 u254 u255 u256) else (some 0))))) = some 1 := by
    intro hrr
    obtain ⟨w16, w17, w18, hh2⟩ := hH w7 w8 w9
    rw [hrr.1, hrr.2, hh2, cal4_e, bnd_e, cmp_self, if_pos rfl]
    exact hJ _ _ _
  by_cases hlen : L < 41
  · rw [if_pos (by rw [show Int32.ofNat L = nI L from rfl, n_lt (by omega) (by omega)]; exact hlen)]
    exact hJ171 (hr3 (fun j j1 j2 => by omega))
  · obtain ⟨hz, hz16⟩ := pk_C (xs 40)
    rw [if_neg (by rw [show Int32.ofNat L = nI L from rfl, n_lt (by omega) (by omega)]; exact hlen), rdI_n (by omega) (by omega), bnd_e, hz]
    by_cases h13 : pkN (xs 40) = 13
    · rw [if_pos (by rw [h13]; rfl)]
      exact hJ _ _ _
    · rw [if_neg (by rw [show (13 : Int32) = nI 13 from rfl, n_eq (by omega) (by omega)]; exact h13), rdI_n (by omega) (by omega), bnd_e, hz]
      by_cases h14 : pkN (xs 40) = 14
      · rw [if_pos (by rw [h14]; rfl)]
        exact hJ _ _ _
      · rw [if_neg (by rw [l14, n_eq (by omega) (by omega)]; exact h14)]
        exact hJ171 (hr3 (fun j j1 j2 => by
          obtain rfl : j = 0 := by omega
          exact fun h => h.elim h13 h14))
