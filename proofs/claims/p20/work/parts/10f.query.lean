def fX4_add (v_size : Int32) (v_kinds : Nat → Int32) (v_as : Nat → Int32) (v_bs : Nat → Int32) (x0 : Int32) (x1 : Int32) (x2 : Int32) : Option ((Int32) × (Int32) × (Nat → Int32) × (Nat → Int32) × (Nat → Int32)) :=
  (jp (some (0, v_size, v_kinds, v_as, v_bs)) (fun J16 => (if v_size < 0 then J16 else (if v_size < 15 then (wrI v_kinds 15 v_size x0 (fun g1 => (wrI v_as 15 v_size x1 (fun g2 => (wrI v_bs 15 v_size x2 (fun g3 => (bnd (v_size + 1 : Int32) (fun z4 => (some (1, z4, g1, g2, g3)))))))))) else J16))))
theorem inX4_add_4 : ∀ w ∈ wsX40, w ∈ wsX4_add := fun _ h => List.mem_cons_of_mem _ (List.mem_append_right _ h)
set_option maxRecDepth 100000 in
set_option maxHeartbeats 8000000 in
theorem cX4_add_ok (L : XL) (a_this a_kinds a_as a_bs a_openMatches a_openScores : Nat) (v_size : Int32) (v_kinds : Nat → Int32) (v_as : Nat → Int32) (v_bs : Nat → Int32) (x0 : Int32) (x1 : Int32) (x2 : Int32) {t : (Int32) × (Int32) × (Nat → Int32) × (Nat → Int32) × (Nat → Int32)} (hf : fX4_add v_size v_kinds v_as v_bs x0 x1 x2 = some t) : xM L yX4_add wsX4_add ({ frames := 0, cells := 0, slots := 0, locals := 0 }) [.ref a_this, .int x0, .int x1, .int x2] [(a_this, .inr (4, [.int v_size, .ref a_kinds, .ref a_as, .ref a_bs, .ref a_openMatches, .ref a_openScores])), (a_kinds, .inl (L.2.2.1, 15, .inl v_kinds)), (a_as, .inl (L.2.2.1, 15, .inl v_as)), (a_bs, .inl (L.2.2.1, 15, .inl v_bs))] 0 0 (some (.int t.1)) (fun _ : Unit => [(a_this, .inr (4, [.int t.2.1, .ref a_kinds, .ref a_as, .ref a_bs, .ref a_openMatches, .ref a_openScores])), (a_kinds, .inl (L.2.2.1, 15, .inl t.2.2.1)), (a_as, .inl (L.2.2.1, 15, .inl t.2.2.2.1)), (a_bs, .inl (L.2.2.1, 15, .inl t.2.2.2.2))]) := by
  refine enter_z (own := RX4) (by decide) rfl rfl (Nat.le_of_ble_eq_true rfl) ?_
  intro X hXL C _ hret
  subst hXL
  unfold fX4_add at hf
  show G X 0 0 [(a_this, .inr (4, [.int v_size, .ref a_kinds, .ref a_as, .ref a_bs, .ref a_openMatches, .ref a_openScores])), (a_kinds, .inl (X.1.2.2.1, 15, .inl v_kinds)), (a_as, .inl (X.1.2.2.1, 15, .inl v_as)), (a_bs, .inl (X.1.2.2.1, 15, .inl v_bs))] [(0, .ref a_this), (1, .int x0), (2, .int x1), (3, .int x2)] 0 []
  refine g_aload_n C dX4_add_0 rfl 0 rfl ?_
  refine g_get C inX4_add_4 0 rfl rfl 0 (by decide) (List.mem_of_getElem? (i := 1) rfl) rfl rfl dX4_add_1 ?_
  obtain ⟨J16, eJ16, hf⟩ := jp_x hf
  have hJ16 : J16 = some t → G X 0 0 [(a_this, .inr (4, [.int v_size, .ref a_kinds, .ref a_as, .ref a_bs, .ref a_openMatches, .ref a_openScores])), (a_kinds, .inl (X.1.2.2.1, 15, .inl v_kinds)), (a_as, .inl (X.1.2.2.1, 15, .inl v_as)), (a_bs, .inl (X.1.2.2.1, 15, .inl v_bs))] [] 16 [] := by
    intro  hf
    have hf := app0 eJ16 hf
    refine g_iconst (v := 0) C dX4_add_16 (by decide) ?_
    rw [← Option.some.inj hf] at hret
    exact hret () _ _ (show narrow .boolean (.int (0 : Int32)) = .int 0 from rfl) dX4_add_17
  refine g_if_lt C dX4_add_4 (tgt := 16) (by decide) hf (fun hf => ?_) (fun hf => ?_)
  · exact g_lv [] rfl (hJ16 hf)
  · refine g_aload_n C dX4_add_7 rfl 0 rfl ?_
    refine g_get C inX4_add_4 0 rfl rfl 0 (by decide) (List.mem_of_getElem? (i := 1) rfl) rfl rfl dX4_add_8 ?_
    refine g_bipush (v := 15) C dX4_add_11 (by decide) ?_
    refine g_icmp_lt C dX4_add_13 (tgt := 18) (by decide) hf (fun hf => ?_) (fun hf => ?_)
    · refine g_aload_n C dX4_add_18 rfl 0 rfl ?_
      refine g_get C inX4_add_4 0 rfl rfl 1 (by decide) (List.mem_of_getElem? (i := 2) rfl) rfl rfl dX4_add_19 ?_
      refine g_aload_n C dX4_add_22 rfl 0 rfl ?_
      refine g_get C inX4_add_4 0 rfl rfl 0 (by decide) (List.mem_of_getElem? (i := 1) rfl) rfl rfl dX4_add_23 ?_
      refine g_iload_n C dX4_add_26 rfl 1 rfl ?_
      refine g_iastore (Wd2 := fun g1 => [(a_this, .inr (4, [.int v_size, .ref a_kinds, .ref a_as, .ref a_bs, .ref a_openMatches, .ref a_openScores])), (a_kinds, .inl (X.1.2.2.1, 15, .inl g1)), (a_as, .inl (X.1.2.2.1, 15, .inl v_as)), (a_bs, .inl (X.1.2.2.1, 15, .inl v_bs))]) C 1 rfl dX4_add_27 hf (fun _ => rfl) (fun g1 hf => ?_)
      refine g_aload_n C dX4_add_28 rfl 0 rfl ?_
      refine g_get C inX4_add_4 0 rfl rfl 2 (by decide) (List.mem_of_getElem? (i := 3) rfl) rfl rfl dX4_add_29 ?_
      refine g_aload_n C dX4_add_32 rfl 0 rfl ?_
      refine g_get C inX4_add_4 0 rfl rfl 0 (by decide) (List.mem_of_getElem? (i := 1) rfl) rfl rfl dX4_add_33 ?_
      refine g_iload_n C dX4_add_36 rfl 2 rfl ?_
      refine g_iastore (Wd2 := fun g2 => [(a_this, .inr (4, [.int v_size, .ref a_kinds, .ref a_as, .ref a_bs, .ref a_openMatches, .ref a_openScores])), (a_kinds, .inl (X.1.2.2.1, 15, .inl g1)), (a_as, .inl (X.1.2.2.1, 15, .inl g2)), (a_bs, .inl (X.1.2.2.1, 15, .inl v_bs))]) C 2 rfl dX4_add_37 hf (fun _ => rfl) (fun g2 hf => ?_)
      refine g_aload_n C dX4_add_38 rfl 0 rfl ?_
      refine g_get C inX4_add_4 0 rfl rfl 3 (by decide) (List.mem_of_getElem? (i := 4) rfl) rfl rfl dX4_add_39 ?_
      refine g_aload_n C dX4_add_42 rfl 0 rfl ?_
      refine g_get C inX4_add_4 0 rfl rfl 0 (by decide) (List.mem_of_getElem? (i := 1) rfl) rfl rfl dX4_add_43 ?_
      refine g_iload_n C dX4_add_46 rfl 3 rfl ?_
      refine g_iastore (Wd2 := fun g3 => [(a_this, .inr (4, [.int v_size, .ref a_kinds, .ref a_as, .ref a_bs, .ref a_openMatches, .ref a_openScores])), (a_kinds, .inl (X.1.2.2.1, 15, .inl g1)), (a_as, .inl (X.1.2.2.1, 15, .inl g2)), (a_bs, .inl (X.1.2.2.1, 15, .inl g3))]) C 3 rfl dX4_add_47 hf (fun _ => rfl) (fun g3 hf => ?_)
      refine g_aload_n C dX4_add_48 rfl 0 rfl ?_
      refine g_dup C dX4_add_49 rfl ?_
      refine g_get C inX4_add_4 0 rfl rfl 0 (by decide) (List.mem_of_getElem? (i := 1) rfl) rfl rfl dX4_add_50 ?_
      refine g_iconst (v := 1) C dX4_add_53 (by decide) ?_
      refine g_iadd C dX4_add_54 hf (fun z4 hf => ?_)
      refine g_put (Wd2 := [(a_this, .inr (4, [.int z4, .ref a_kinds, .ref a_as, .ref a_bs, .ref a_openMatches, .ref a_openScores])), (a_kinds, .inl (X.1.2.2.1, 15, .inl g1)), (a_as, .inl (X.1.2.2.1, 15, .inl g2)), (a_bs, .inl (X.1.2.2.1, 15, .inl g3))]) C inX4_add_4 tyX4 tyX4_ok nmX4 0 rfl rfl 0 (by decide) (List.mem_of_getElem? (i := 1) rfl) rfl rfl rfl rfl (Nat.le_of_ble_eq_true rfl) dX4_add_55 rfl ?_
      refine g_iconst (v := 1) C dX4_add_58 (by decide) ?_
      rw [← Option.some.inj hf] at hret
      exact hret () _ _ (show narrow .boolean (.int (1 : Int32)) = .int 1 from rfl) dX4_add_59
    · exact g_lv [] rfl (hJ16 hf)
def fX4_operandsOf (x0 : Int32) : Option ((Int32)) :=
  (jp (some (2)) (fun J10 => (if x0 = 4 then J10 else (if x0 = 5 then J10 else (jp (fun (k1 : Int32) => (some (k1))) (fun J23 => (if x0 = 6 then (J23 1) else (J23 0))))))))
set_option maxRecDepth 100000 in
set_option maxHeartbeats 8000000 in
theorem cX4_operandsOf_ok (L : XL)  (x0 : Int32) {t : (Int32)} (hf : fX4_operandsOf x0 = some t) : xM L yX4_operandsOf wsX4_operandsOf ({ frames := 0, cells := 0, slots := 0, locals := 0 }) [.int x0] [] 0 0 (some (.int t)) (fun _ : Unit => []) := by
  refine enter_i (own := RX4) (by decide) rfl rfl (Nat.le_of_ble_eq_true rfl) ?_
  intro X hXL C _ hret
  subst hXL
  unfold fX4_operandsOf at hf
  show G X 0 0 [] [(0, .int x0)] 0 []
  refine g_iload_n C dX4_operandsOf_0 rfl 0 rfl ?_
  refine g_iconst (v := 4) C dX4_operandsOf_1 (by decide) ?_
  obtain ⟨J10, eJ10, hf⟩ := jp_x hf
  have hJ10 : J10 = some t → G X 0 0 [] [] 10 [] := by
    intro  hf
    have hf := app0 eJ10 hf
    refine g_iconst (v := 2) C dX4_operandsOf_10 (by decide) ?_
    rw [← Option.some.inj hf] at hret
    exact hret () _ _ dX4_operandsOf_11
  refine g_icmp_eq C dX4_operandsOf_2 (tgt := 10) (by decide) hf (fun hf => ?_) (fun hf => ?_)
  · exact g_lv [] rfl (hJ10 hf)
  · refine g_iload_n C dX4_operandsOf_5 rfl 0 rfl ?_
    refine g_iconst (v := 5) C dX4_operandsOf_6 (by decide) ?_
    refine g_icmp_ne C dX4_operandsOf_7 (tgt := 12) (by decide) hf (fun hf => ?_) (fun hf => ?_)
    · refine g_iload_n C dX4_operandsOf_12 rfl 0 rfl ?_
      refine g_bipush (v := 6) C dX4_operandsOf_13 (by decide) ?_
      obtain ⟨J23, eJ23, hf⟩ := jp_x hf
      have hJ23 : ∀ (k1 : Int32), J23 k1 = some t → G X 0 0 [] [] 23 [.int k1] := by
        intro k1 hf
        have hf := app1 eJ23 hf
        rw [← Option.some.inj hf] at hret
        exact hret () _ _ dX4_operandsOf_23
      refine g_icmp_ne C dX4_operandsOf_15 (tgt := 22) (by decide) hf (fun hf => ?_) (fun hf => ?_)
      · refine g_iconst (v := 0) C dX4_operandsOf_22 (by decide) ?_
        exact g_lv [] rfl (hJ23 0 hf)
      · refine g_iconst (v := 1) C dX4_operandsOf_18 (by decide) ?_
        refine g_goto C dX4_operandsOf_19 (tgt := 23) (by decide) ?_
        exact g_lv [] rfl (hJ23 1 hf)
    · exact g_lv [] rfl (hJ10 hf)
def sX4_isWhole_4 (v_size : Int32) (J44 : (Int32) → Option ((Int32))) (v_kinds : Nat → Int32) (R4 : (Int32) → (Int32) → Option ((Int32))) (y3 : Int32) (y4 : Int32) : Option ((Int32)) :=
  (if v_size ≤ y4 then (J44 y3) else (if 15 ≤ y4 then (J44 y3) else (if y3 = 0 then (some (0)) else (rdI v_kinds 15 y4 (fun z5 => (cal1 (fX4_operandsOf z5) (fun r6 => (bnd (r6 - 1 : Int32) (fun z8 => (bnd (y3 + z8 : Int32) (fun z9 => (bnd (y4 + 1) (fun z10 => (R4 z9 z10))))))))))))))
def fX4_isWhole (v_size : Int32) (v_kinds : Nat → Int32) : Option ((Int32)) :=
  (jp (fun (y1 : Int32) => (jp (fun (k2 : Int32) => (zok k2 (some (k2)))) (fun J53 => (if y1 = 0 then (J53 1) else (J53 0))))) (fun J44 => (lo2 (sX4_isWhole_4 v_size J44 v_kinds) 1000 1 0)))
theorem inX4_isWhole_4 : ∀ w ∈ wsX40, w ∈ wsX4_isWhole := fun _ h => List.mem_cons_of_mem _ (List.mem_append_right _ h)
set_option maxRecDepth 100000 in
set_option maxHeartbeats 8000000 in
theorem cX4_isWhole_ok (L : XL) (a_this a_kinds a_as a_bs a_openMatches a_openScores : Nat) (v_size : Int32) (v_kinds : Nat → Int32)  {t : (Int32)} (hf : fX4_isWhole v_size v_kinds = some t) : xM L yX4_isWhole wsX4_isWhole ({ frames := 1, cells := 0, slots := 0, locals := 20 }) [.ref a_this] [(a_this, .inr (4, [.int v_size, .ref a_kinds, .ref a_as, .ref a_bs, .ref a_openMatches, .ref a_openScores])), (a_kinds, .inl (L.2.2.1, 15, .inl v_kinds))] 0 0 (some (.int t)) (fun _ : Unit => [(a_this, .inr (4, [.int v_size, .ref a_kinds, .ref a_as, .ref a_bs, .ref a_openMatches, .ref a_openScores])), (a_kinds, .inl (L.2.2.1, 15, .inl v_kinds))]) := by
  refine enter_z (own := RX4) (by decide) rfl rfl (Nat.le_of_ble_eq_true rfl) ?_
  intro X hXL C _ hret
  subst hXL
  unfold fX4_isWhole at hf
  show G X 0 0 [(a_this, .inr (4, [.int v_size, .ref a_kinds, .ref a_as, .ref a_bs, .ref a_openMatches, .ref a_openScores])), (a_kinds, .inl (X.1.2.2.1, 15, .inl v_kinds))] [(0, .ref a_this)] 0 []
  refine g_iconst (v := 1) C dX4_isWhole_0 (by decide) ?_
  refine g_istore_n (lv2 := [(1, .int 1), (0, .ref a_this)]) C dX4_isWhole_1 rfl (by decide) rfl ?_
  refine g_iconst (v := 0) C dX4_isWhole_2 (by decide) ?_
  refine g_istore_n (lv2 := [(2, .int 0), (1, .int 1), (0, .ref a_this)]) C dX4_isWhole_3 rfl (by decide) rfl ?_
  obtain ⟨J44, eJ44, hf⟩ := jp_x hf
  have hJ44 : ∀ (y1 : Int32), J44 y1 = some t → G X 0 0 [(a_this, .inr (4, [.int v_size, .ref a_kinds, .ref a_as, .ref a_bs, .ref a_openMatches, .ref a_openScores])), (a_kinds, .inl (X.1.2.2.1, 15, .inl v_kinds))] [(1, .int y1)] 44 [] := by
    intro y1 hf
    have hf := app1 eJ44 hf
    refine g_iload_n C dX4_isWhole_44 rfl 0 rfl ?_
    obtain ⟨J53, eJ53, hf⟩ := jp_x hf
    have hJ53 : ∀ (k2 : Int32), J53 k2 = some t → G X 0 0 [(a_this, .inr (4, [.int v_size, .ref a_kinds, .ref a_as, .ref a_bs, .ref a_openMatches, .ref a_openScores])), (a_kinds, .inl (X.1.2.2.1, 15, .inl v_kinds))] [] 53 [.int k2] := by
      intro k2 hf
      have hf := app1 eJ53 hf
      obtain ⟨hz, hf⟩ := zok_x hf
      rw [← Option.some.inj hf] at hret
      exact hret () _ _ hz dX4_isWhole_53
    refine g_if_ne C dX4_isWhole_45 (tgt := 52) (by decide) hf (fun hf => ?_) (fun hf => ?_)
    · refine g_iconst (v := 0) C dX4_isWhole_52 (by decide) ?_
      exact g_lv [] rfl (hJ53 0 hf)
    · refine g_iconst (v := 1) C dX4_isWhole_48 (by decide) ?_
      refine g_goto C dX4_isWhole_49 (tgt := 53) (by decide) ?_
      exact g_lv [] rfl (hJ53 1 hf)
  have hL4 : ∀ (n : Nat) (y3 : Int32) (y4 : Int32), lo2 (sX4_isWhole_4 v_size J44 v_kinds) n y3 y4 = some t → G X 0 0 [(a_this, .inr (4, [.int v_size, .ref a_kinds, .ref a_as, .ref a_bs, .ref a_openMatches, .ref a_openScores])), (a_kinds, .inl (X.1.2.2.1, 15, .inl v_kinds))] [(0, .ref a_this), (1, .int y3), (2, .int y4)] 4 [] := by
    intro n
    induction n with
    | zero => intro y3 y4 hf; exact (lo2_z hf).elim
    | succ n ih4 =>
      intro y3 y4 hf
      obtain ⟨R4, eR4, hf⟩ := lo2_x hf
      unfold sX4_isWhole_4 at hf
      refine g_iload_n C dX4_isWhole_4 rfl 2 rfl ?_
      refine g_aload_n C dX4_isWhole_5 rfl 0 rfl ?_
      refine g_get C inX4_isWhole_4 0 rfl rfl 0 (by decide) (List.mem_of_getElem? (i := 1) rfl) rfl rfl dX4_isWhole_6 ?_
      refine g_icmp_ge C dX4_isWhole_9 (tgt := 44) (by decide) hf (fun hf => ?_) (fun hf => ?_)
      · exact g_lv [1] rfl (hJ44 y3 hf)
      · refine g_iload_n C dX4_isWhole_12 rfl 2 rfl ?_
        refine g_bipush (v := 15) C dX4_isWhole_13 (by decide) ?_
        refine g_icmp_ge C dX4_isWhole_15 (tgt := 44) (by decide) hf (fun hf => ?_) (fun hf => ?_)
        · exact g_lv [1] rfl (hJ44 y3 hf)
        · refine g_iload_n C dX4_isWhole_18 rfl 1 rfl ?_
          refine g_if_ne C dX4_isWhole_19 (tgt := 24) (by decide) hf (fun hf => ?_) (fun hf => ?_)
          · refine g_iload_n C dX4_isWhole_24 rfl 1 rfl ?_
            refine g_aload_n C dX4_isWhole_25 rfl 0 rfl ?_
            refine g_get C inX4_isWhole_4 0 rfl rfl 1 (by decide) (List.mem_of_getElem? (i := 2) rfl) rfl rfl dX4_isWhole_26 ?_
            refine g_iload_n C dX4_isWhole_29 rfl 2 rfl ?_
            refine g_iaload C 1 rfl dX4_isWhole_30 hf (fun z5 hf => ?_)
            obtain ⟨r6, hq7, hf⟩ := cal1_x hf
            refine g_callS (As := [.int z5]) (rest := [.int y3]) (st2 := [.int r6, .int y3]) (n := 1) C (cX4_operandsOf_ok X.1 z5 hq7) gX4_isWhole_X4_operandsOf rfl rfl rfl (by decide +kernel) (by decide) [] (by decide) rfl [0, 1] (Wr := [(a_this, .inr (4, [.int v_size, .ref a_kinds, .ref a_as, .ref a_bs, .ref a_openMatches, .ref a_openScores])), (a_kinds, .inl (X.1.2.2.1, 15, .inl v_kinds))]) (by decide) rfl (by decide) [0, 1] (by decide) (Wn := fun _ => [(a_this, .inr (4, [.int v_size, .ref a_kinds, .ref a_as, .ref a_bs, .ref a_openMatches, .ref a_openScores])), (a_kinds, .inl (X.1.2.2.1, 15, .inl v_kinds))]) (fun _ => rfl) rfl rfl rfl (Nat.le_of_ble_eq_true rfl) dX4_isWhole_31 ⟨Nat.le_refl _, Nat.le_refl _⟩ (fun _ => ?_)
            refine g_iconst (v := 1) C dX4_isWhole_34 (by decide) ?_
            refine g_isub C dX4_isWhole_35 hf (fun z8 hf => ?_)
            refine g_iadd C dX4_isWhole_36 hf (fun z9 hf => ?_)
            refine g_istore_n (lv2 := [(1, .int z9), (0, .ref a_this), (2, .int y4)]) C dX4_isWhole_37 rfl (by decide) rfl ?_
            refine g_iinc (v := 1) (lv2 := fun z10 => [(2, .int z10), (1, .int z9), (0, .ref a_this)]) C dX4_isWhole_38 2 rfl (by decide) (by decide) hf (fun _ => rfl) (fun z10 hf => ?_)
            refine g_goto C dX4_isWhole_41 (tgt := 4) (by decide) ?_
            exact g_lv [2, 1, 0] rfl (ih4 z9 z10 (app2 eR4 hf))
          · refine g_iconst (v := 0) C dX4_isWhole_22 (by decide) ?_
            rw [← Option.some.inj hf] at hret
            exact hret () _ _ (show narrow .boolean (.int (0 : Int32)) = .int 0 from rfl) dX4_isWhole_23
  exact g_lv [2, 1, 0] rfl (hL4 _ 1 0 hf)
def fX4_wordAt (x0 : Int32) (x1 : Int64) : Option ((Int32)) :=
  (bnd (4 * x0 : Int32) (fun z1 => (bnd (32 + z1 : Int32) (fun z2 => (bnd ((Int64.toUInt64 x1 >>> ((Int32.toInt64 z2).toUInt64 &&& Int64.toUInt64 63)).toInt64 : Int64) (fun z3 => (bnd (Int64.toInt32 z3) (fun z4 => (bnd (z4 &&& 15 : Int32) (fun z5 => (some (z5))))))))))))
set_option maxRecDepth 100000 in
set_option maxHeartbeats 8000000 in
theorem cX4_wordAt_ok (L : XL)  (x0 : Int32) (x1 : Int64) {t : (Int32)} (hf : fX4_wordAt x0 x1 = some t) : xM L yX4_wordAt wsX4_wordAt ({ frames := 0, cells := 0, slots := 0, locals := 0 }) [.int x0, .long x1] [] 0 0 (some (.int t)) (fun _ : Unit => []) := by
  refine enter_i (own := RX4) (by decide) rfl rfl (Nat.le_of_ble_eq_true rfl) ?_
  intro X hXL C _ hret
  subst hXL
  unfold fX4_wordAt at hf
  show G X 0 0 [] [(0, .int x0), (1, .long x1)] 0 []
  refine g_lload_n C dX4_wordAt_0 rfl 1 rfl ?_
  refine g_bipush (v := 32) C dX4_wordAt_1 (by decide) ?_
  refine g_iconst (v := 4) C dX4_wordAt_3 (by decide) ?_
  refine g_iload_n C dX4_wordAt_4 rfl 0 rfl ?_
  refine g_imul C dX4_wordAt_5 hf (fun z1 hf => ?_)
  refine g_iadd C dX4_wordAt_6 hf (fun z2 hf => ?_)
  refine g_lushr C dX4_wordAt_7 hf (fun z3 hf => ?_)
  refine g_l2i C dX4_wordAt_8 hf (fun z4 hf => ?_)
  refine g_bipush (v := 15) C dX4_wordAt_9 (by decide) ?_
  refine g_iand C dX4_wordAt_11 hf (fun z5 hf => ?_)
  rw [← Option.some.inj hf] at hret
  exact hret () _ _ dX4_wordAt_12
def sX4_countWord_5 (J40 : (Int32) → Option ((Int32))) (x1 : Int64) (x0 : Int32) (R5 : (Int32) → (Int32) → Option ((Int32))) (y2 : Int32) (y3 : Int32) : Option ((Int32)) :=
  (if 8 ≤ y3 then (J40 y2) else (cal1 (fX4_wordAt y3 x1) (fun r4 => (if r4 = 0 then (J40 y2) else (cal1 (fX4_wordAt y3 x1) (fun r6 => (jp (fun (y8 : Int32) => (bnd (y3 + 1) (fun z9 => (R5 y8 z9)))) (fun J34 => (if r6 = x0 then (bnd (y2 + 1) (fun z10 => (J34 z10))) else (J34 y2))))))))))
def fX4_countWord (x0 : Int32) (x1 : Int64) : Option ((Int32)) :=
  (jp (fun (y1 : Int32) => (some (y1))) (fun J40 => (lo2 (sX4_countWord_5 J40 x1 x0) 1000 0 0)))
set_option maxRecDepth 100000 in
set_option maxHeartbeats 8000000 in
theorem cX4_countWord_ok (L : XL)  (x0 : Int32) (x1 : Int64) {t : (Int32)} (hf : fX4_countWord x0 x1 = some t) : xM L yX4_countWord wsX4_countWord ({ frames := 1, cells := 0, slots := 0, locals := 22 }) [.int x0, .long x1] [] 0 0 (some (.int t)) (fun _ : Unit => []) := by
  refine enter_i (own := RX4) (by decide) rfl rfl (Nat.le_of_ble_eq_true rfl) ?_
  intro X hXL C _ hret
  subst hXL
  unfold fX4_countWord at hf
  show G X 0 0 [] [(0, .int x0), (1, .long x1)] 0 []
  refine g_iconst (v := 0) C dX4_countWord_0 (by decide) ?_
  refine g_istore_n (lv2 := [(3, .int 0), (0, .int x0), (1, .long x1)]) C dX4_countWord_1 rfl (by decide) rfl ?_
  refine g_iconst (v := 0) C dX4_countWord_2 (by decide) ?_
  refine g_istore (lv2 := [(4, .int 0), (3, .int 0), (0, .int x0), (1, .long x1)]) C dX4_countWord_3 (by decide) rfl ?_
  obtain ⟨J40, eJ40, hf⟩ := jp_x hf
  have hJ40 : ∀ (y1 : Int32), J40 y1 = some t → G X 0 0 [] [(3, .int y1)] 40 [] := by
    intro y1 hf
    have hf := app1 eJ40 hf
    refine g_iload_n C dX4_countWord_40 rfl 0 rfl ?_
    rw [← Option.some.inj hf] at hret
    exact hret () _ _ dX4_countWord_41
  have hL5 : ∀ (n : Nat) (y2 : Int32) (y3 : Int32), lo2 (sX4_countWord_5 J40 x1 x0) n y2 y3 = some t → G X 0 0 [] [(0, .int x0), (1, .long x1), (3, .int y2), (4, .int y3)] 5 [] := by
    intro n
    induction n with
    | zero => intro y2 y3 hf; exact (lo2_z hf).elim
    | succ n ih5 =>
      intro y2 y3 hf
      obtain ⟨R5, eR5, hf⟩ := lo2_x hf
      unfold sX4_countWord_5 at hf
      refine g_iload C dX4_countWord_5 3 rfl ?_
      refine g_bipush (v := 8) C dX4_countWord_7 (by decide) ?_
      refine g_icmp_ge C dX4_countWord_9 (tgt := 40) (by decide) hf (fun hf => ?_) (fun hf => ?_)
      · exact g_lv [2] rfl (hJ40 y2 hf)
      · refine g_iload C dX4_countWord_12 3 rfl ?_
        refine g_lload_n C dX4_countWord_14 rfl 1 rfl ?_
        obtain ⟨r4, hq5, hf⟩ := cal1_x hf
        refine g_callS (As := [.int y3, .long x1]) (rest := []) (st2 := [.int r4]) (n := 2) C (cX4_wordAt_ok X.1 y3 x1 hq5) gX4_countWord_X4_wordAt rfl rfl rfl (by decide +kernel) (by decide) [] (by decide) rfl [] (Wr := []) (by decide) rfl (by decide) [] (by decide) (Wn := fun _ => []) (fun _ => rfl) rfl rfl rfl (Nat.le_of_ble_eq_true rfl) dX4_countWord_15 ⟨Nat.le_refl _, Nat.le_refl _⟩ (fun _ => ?_)
        refine g_if_eq C dX4_countWord_18 (tgt := 40) (by decide) hf (fun hf => ?_) (fun hf => ?_)
        · exact g_lv [2] rfl (hJ40 y2 hf)
        · refine g_iload C dX4_countWord_21 3 rfl ?_
          refine g_lload_n C dX4_countWord_23 rfl 1 rfl ?_
          obtain ⟨r6, hq7, hf⟩ := cal1_x hf
          refine g_callS (As := [.int y3, .long x1]) (rest := []) (st2 := [.int r6]) (n := 2) C (cX4_wordAt_ok X.1 y3 x1 hq7) gX4_countWord_X4_wordAt rfl rfl rfl (by decide +kernel) (by decide) [] (by decide) rfl [] (Wr := []) (by decide) rfl (by decide) [] (by decide) (Wn := fun _ => []) (fun _ => rfl) rfl rfl rfl (Nat.le_of_ble_eq_true rfl) dX4_countWord_24 ⟨Nat.le_refl _, Nat.le_refl _⟩ (fun _ => ?_)
          refine g_iload_n C dX4_countWord_27 rfl 0 rfl ?_
          obtain ⟨J34, eJ34, hf⟩ := jp_x hf
          have hJ34 : ∀ (y8 : Int32), J34 y8 = some t → G X 0 0 [] [(0, .int x0), (1, .long x1), (3, .int y8), (4, .int y3)] 34 [] := by
            intro y8 hf
            have hf := app1 eJ34 hf
            refine g_iinc (v := 1) (lv2 := fun z9 => [(4, .int z9), (0, .int x0), (1, .long x1), (3, .int y8)]) C dX4_countWord_34 3 rfl (by decide) (by decide) hf (fun _ => rfl) (fun z9 hf => ?_)
            refine g_goto C dX4_countWord_37 (tgt := 5) (by decide) ?_
            exact g_lv [1, 2, 3, 0] rfl (ih5 y8 z9 (app2 eR5 hf))
          refine g_icmp_ne C dX4_countWord_28 (tgt := 34) (by decide) hf (fun hf => ?_) (fun hf => ?_)
          · exact hJ34 y2 hf
          · refine g_iinc (v := 1) (lv2 := fun z10 => [(3, .int z10), (0, .int x0), (1, .long x1), (4, .int y3)]) C dX4_countWord_31 2 rfl (by decide) (by decide) hf (fun _ => rfl) (fun z10 hf => ?_)
            exact g_lv [1, 2, 0, 3] rfl (hJ34 z10 hf)
  exact g_lv [2, 3, 1, 0] rfl (hL5 _ 0 0 hf)
def sX4_countPhrase_6 (J55 : (Int32) → Option ((Int32))) (x2 : Int64) (x0 : Int32) (x1 : Int32) (R6 : (Int32) → (Int32) → Option ((Int32))) (y2 : Int32) (y3 : Int32) : Option ((Int32)) :=
  (bnd (y3 + 1 : Int32) (fun z4 => (if 8 ≤ z4 then (J55 y2) else (cal1 (fX4_wordAt y3 x2) (fun r5 => (if r5 = 0 then (J55 y2) else (cal1 (fX4_wordAt y3 x2) (fun r7 => (jp (fun (y9 : Int32) => (bnd (y3 + 1) (fun z10 => (R6 y9 z10)))) (fun J49 => (if r7 = x0 then (bnd (y3 + 1 : Int32) (fun z11 => (cal1 (fX4_wordAt z11 x2) (fun r12 => (if r12 = x1 then (bnd (y2 + 1) (fun z14 => (J49 z14))) else (J49 y2)))))) else (J49 y2))))))))))))
def fX4_countPhrase (x0 : Int32) (x1 : Int32) (x2 : Int64) : Option ((Int32)) :=
  (jp (fun (y1 : Int32) => (some (y1))) (fun J55 => (lo2 (sX4_countPhrase_6 J55 x2 x0 x1) 1000 0 0)))
set_option maxRecDepth 100000 in
set_option maxHeartbeats 8000000 in
theorem cX4_countPhrase_ok (L : XL)  (x0 : Int32) (x1 : Int32) (x2 : Int64) {t : (Int32)} (hf : fX4_countPhrase x0 x1 x2 = some t) : xM L yX4_countPhrase wsX4_countPhrase ({ frames := 1, cells := 0, slots := 0, locals := 22 }) [.int x0, .int x1, .long x2] [] 0 0 (some (.int t)) (fun _ : Unit => []) := by
  refine enter_i (own := RX4) (by decide) rfl rfl (Nat.le_of_ble_eq_true rfl) ?_
  intro X hXL C _ hret
  subst hXL
  unfold fX4_countPhrase at hf
  show G X 0 0 [] [(0, .int x0), (1, .int x1), (2, .long x2)] 0 []
  refine g_iconst (v := 0) C dX4_countPhrase_0 (by decide) ?_
  refine g_istore (lv2 := [(4, .int 0), (0, .int x0), (1, .int x1), (2, .long x2)]) C dX4_countPhrase_1 (by decide) rfl ?_
  refine g_iconst (v := 0) C dX4_countPhrase_3 (by decide) ?_
  refine g_istore (lv2 := [(5, .int 0), (4, .int 0), (0, .int x0), (1, .int x1), (2, .long x2)]) C dX4_countPhrase_4 (by decide) rfl ?_
  obtain ⟨J55, eJ55, hf⟩ := jp_x hf
  have hJ55 : ∀ (y1 : Int32), J55 y1 = some t → G X 0 0 [] [(4, .int y1)] 55 [] := by
    intro y1 hf
    have hf := app1 eJ55 hf
    refine g_iload C dX4_countPhrase_55 0 rfl ?_
    rw [← Option.some.inj hf] at hret
    exact hret () _ _ dX4_countPhrase_57
  have hL6 : ∀ (n : Nat) (y2 : Int32) (y3 : Int32), lo2 (sX4_countPhrase_6 J55 x2 x0 x1) n y2 y3 = some t → G X 0 0 [] [(0, .int x0), (1, .int x1), (2, .long x2), (4, .int y2), (5, .int y3)] 6 [] := by
    intro n
    induction n with
    | zero => intro y2 y3 hf; exact (lo2_z hf).elim
    | succ n ih6 =>
      intro y2 y3 hf
      obtain ⟨R6, eR6, hf⟩ := lo2_x hf
      unfold sX4_countPhrase_6 at hf
      refine g_iload C dX4_countPhrase_6 4 rfl ?_
      refine g_iconst (v := 1) C dX4_countPhrase_8 (by decide) ?_
      refine g_iadd C dX4_countPhrase_9 hf (fun z4 hf => ?_)
      refine g_bipush (v := 8) C dX4_countPhrase_10 (by decide) ?_
      refine g_icmp_ge C dX4_countPhrase_12 (tgt := 55) (by decide) hf (fun hf => ?_) (fun hf => ?_)
      · exact g_lv [3] rfl (hJ55 y2 hf)
      · refine g_iload C dX4_countPhrase_15 4 rfl ?_
        refine g_lload_n C dX4_countPhrase_17 rfl 2 rfl ?_
        obtain ⟨r5, hq6, hf⟩ := cal1_x hf
        refine g_callS (As := [.int y3, .long x2]) (rest := []) (st2 := [.int r5]) (n := 2) C (cX4_wordAt_ok X.1 y3 x2 hq6) gX4_countPhrase_X4_wordAt rfl rfl rfl (by decide +kernel) (by decide) [] (by decide) rfl [] (Wr := []) (by decide) rfl (by decide) [] (by decide) (Wn := fun _ => []) (fun _ => rfl) rfl rfl rfl (Nat.le_of_ble_eq_true rfl) dX4_countPhrase_18 ⟨Nat.le_refl _, Nat.le_refl _⟩ (fun _ => ?_)
        refine g_if_eq C dX4_countPhrase_21 (tgt := 55) (by decide) hf (fun hf => ?_) (fun hf => ?_)
        · exact g_lv [3] rfl (hJ55 y2 hf)
        · refine g_iload C dX4_countPhrase_24 4 rfl ?_
          refine g_lload_n C dX4_countPhrase_26 rfl 2 rfl ?_
          obtain ⟨r7, hq8, hf⟩ := cal1_x hf
          refine g_callS (As := [.int y3, .long x2]) (rest := []) (st2 := [.int r7]) (n := 2) C (cX4_wordAt_ok X.1 y3 x2 hq8) gX4_countPhrase_X4_wordAt rfl rfl rfl (by decide +kernel) (by decide) [] (by decide) rfl [] (Wr := []) (by decide) rfl (by decide) [] (by decide) (Wn := fun _ => []) (fun _ => rfl) rfl rfl rfl (Nat.le_of_ble_eq_true rfl) dX4_countPhrase_27 ⟨Nat.le_refl _, Nat.le_refl _⟩ (fun _ => ?_)
          refine g_iload_n C dX4_countPhrase_30 rfl 0 rfl ?_
          obtain ⟨J49, eJ49, hf⟩ := jp_x hf
          have hJ49 : ∀ (y9 : Int32), J49 y9 = some t → G X 0 0 [] [(0, .int x0), (1, .int x1), (2, .long x2), (4, .int y9), (5, .int y3)] 49 [] := by
            intro y9 hf
            have hf := app1 eJ49 hf
            refine g_iinc (v := 1) (lv2 := fun z10 => [(5, .int z10), (0, .int x0), (1, .int x1), (2, .long x2), (4, .int y9)]) C dX4_countPhrase_49 4 rfl (by decide) (by decide) hf (fun _ => rfl) (fun z10 hf => ?_)
            refine g_goto C dX4_countPhrase_52 (tgt := 6) (by decide) ?_
            exact g_lv [1, 2, 3, 4, 0] rfl (ih6 y9 z10 (app2 eR6 hf))
          refine g_icmp_ne C dX4_countPhrase_31 (tgt := 49) (by decide) hf (fun hf => ?_) (fun hf => ?_)
          · exact hJ49 y2 hf
          · refine g_iload C dX4_countPhrase_34 4 rfl ?_
            refine g_iconst (v := 1) C dX4_countPhrase_36 (by decide) ?_
            refine g_iadd C dX4_countPhrase_37 hf (fun z11 hf => ?_)
            refine g_lload_n C dX4_countPhrase_38 rfl 2 rfl ?_
            obtain ⟨r12, hq13, hf⟩ := cal1_x hf
            refine g_callS (As := [.int z11, .long x2]) (rest := []) (st2 := [.int r12]) (n := 2) C (cX4_wordAt_ok X.1 z11 x2 hq13) gX4_countPhrase_X4_wordAt rfl rfl rfl (by decide +kernel) (by decide) [] (by decide) rfl [] (Wr := []) (by decide) rfl (by decide) [] (by decide) (Wn := fun _ => []) (fun _ => rfl) rfl rfl rfl (Nat.le_of_ble_eq_true rfl) dX4_countPhrase_39 ⟨Nat.le_refl _, Nat.le_refl _⟩ (fun _ => ?_)
            refine g_iload_n C dX4_countPhrase_42 rfl 1 rfl ?_
            refine g_icmp_ne C dX4_countPhrase_43 (tgt := 49) (by decide) hf (fun hf => ?_) (fun hf => ?_)
            · exact hJ49 y2 hf
            · refine g_iinc (v := 1) (lv2 := fun z14 => [(4, .int z14), (0, .int x0), (1, .int x1), (2, .long x2), (5, .int y3)]) C dX4_countPhrase_46 3 rfl (by decide) (by decide) hf (fun _ => rfl) (fun z14 hf => ?_)
              exact g_lv [1, 2, 3, 0, 4] rfl (hJ49 z14 hf)
  exact g_lv [2, 3, 4, 1, 0] rfl (hL6 _ 0 0 hf)
def fX4_leafScore (x0 : Int32) (x1 : Int32) (x2 : Int32) (x3 : Int64) : Option ((Int32)) :=
  (if x0 = 0 then (some (1)) else (if x0 = 1 then (cal1 (fX4_countWord x1 x3) (fun r1 => (some (r1)))) else (if x0 = 2 then (cal1 (fX4_countPhrase x1 x2 x3) (fun r3 => (bnd (2 * r3 : Int32) (fun z5 => (some (z5)))))) else (if x0 = 3 then (bnd (Int64.toInt32 x3) (fun z6 => (jp (fun (k7 : Int32) => (some (k7))) (fun J66 => (jp (J66 0) (fun J65 => (if z6 < x1 then J65 else (bnd (Int64.toInt32 x3) (fun z8 => (if x2 < z8 then J65 else (J66 1))))))))))) else (some (0))))))
set_option maxRecDepth 100000 in
set_option maxHeartbeats 8000000 in
theorem cX4_leafScore_ok (L : XL)  (x0 : Int32) (x1 : Int32) (x2 : Int32) (x3 : Int64) {t : (Int32)} (hf : fX4_leafScore x0 x1 x2 x3 = some t) : xM L yX4_leafScore wsX4_leafScore ({ frames := 2, cells := 0, slots := 0, locals := 47 }) [.int x0, .int x1, .int x2, .long x3] [] 0 0 (some (.int t)) (fun _ : Unit => []) := by
  refine enter_i (own := RX4) (by decide) rfl rfl (Nat.le_of_ble_eq_true rfl) ?_
  intro X hXL C _ hret
  subst hXL
  unfold fX4_leafScore at hf
  show G X 0 0 [] [(0, .int x0), (1, .int x1), (2, .int x2), (3, .long x3)] 0 []
  refine g_iload_n C dX4_leafScore_0 rfl 0 rfl ?_
  rcases it_c hf with ⟨c0, hf⟩ | ⟨c0, hf⟩
  · refine g_tin C dX4_leafScore_1 c0 (by decide) (by decide) rfl (tgt := 32) (by decide) ?_
    refine g_iconst (v := 1) C dX4_leafScore_32 (by decide) ?_
    rw [← Option.some.inj hf] at hret
    exact hret () _ _ dX4_leafScore_33
  rcases it_c hf with ⟨c1, hf⟩ | ⟨c1, hf⟩
  · refine g_tin C dX4_leafScore_1 c1 (by decide) (by decide) rfl (tgt := 34) (by decide) ?_
    refine g_iload_n C dX4_leafScore_34 rfl 1 rfl ?_
    refine g_lload_n C dX4_leafScore_35 rfl 3 rfl ?_
    obtain ⟨r1, hq2, hf⟩ := cal1_x hf
    refine g_callS (As := [.int x1, .long x3]) (rest := []) (st2 := [.int r1]) (n := 2) C (cX4_countWord_ok X.1 x1 x3 hq2) gX4_leafScore_X4_countWord rfl rfl rfl (by decide +kernel) (by decide) [] (by decide) rfl [] (Wr := []) (by decide) rfl (by decide) [] (by decide) (Wn := fun _ => []) (fun _ => rfl) rfl rfl rfl (Nat.le_of_ble_eq_true rfl) dX4_leafScore_36 ⟨Nat.le_refl _, Nat.le_refl _⟩ (fun _ => ?_)
    rw [← Option.some.inj hf] at hret
    exact hret () _ _ dX4_leafScore_39
  rcases it_c hf with ⟨c2, hf⟩ | ⟨c2, hf⟩
  · refine g_tin C dX4_leafScore_1 c2 (by decide) (by decide) rfl (tgt := 40) (by decide) ?_
    refine g_iconst (v := 2) C dX4_leafScore_40 (by decide) ?_
    refine g_iload_n C dX4_leafScore_41 rfl 1 rfl ?_
    refine g_iload_n C dX4_leafScore_42 rfl 2 rfl ?_
    refine g_lload_n C dX4_leafScore_43 rfl 3 rfl ?_
    obtain ⟨r3, hq4, hf⟩ := cal1_x hf
    refine g_callS (As := [.int x1, .int x2, .long x3]) (rest := [.int 2]) (st2 := [.int r3, .int 2]) (n := 3) C (cX4_countPhrase_ok X.1 x1 x2 x3 hq4) gX4_leafScore_X4_countPhrase rfl rfl rfl (by decide +kernel) (by decide) [] (by decide) rfl [] (Wr := []) (by decide) rfl (by decide) [] (by decide) (Wn := fun _ => []) (fun _ => rfl) rfl rfl rfl (Nat.le_of_ble_eq_true rfl) dX4_leafScore_44 ⟨Nat.le_refl _, Nat.le_refl _⟩ (fun _ => ?_)
    refine g_imul C dX4_leafScore_47 hf (fun z5 hf => ?_)
    rw [← Option.some.inj hf] at hret
    exact hret () _ _ dX4_leafScore_48
  rcases it_c hf with ⟨c3, hf⟩ | ⟨c3, hf⟩
  · refine g_tin C dX4_leafScore_1 c3 (by decide) (by decide) rfl (tgt := 49) (by decide) ?_
    refine g_lload_n C dX4_leafScore_49 rfl 3 rfl ?_
    refine g_l2i C dX4_leafScore_50 hf (fun z6 hf => ?_)
    refine g_iload_n C dX4_leafScore_51 rfl 1 rfl ?_
    obtain ⟨J66, eJ66, hf⟩ := jp_x hf
    have hJ66 : ∀ (k7 : Int32), J66 k7 = some t → G X 0 0 [] [] 66 [.int k7] := by
      intro k7 hf
      have hf := app1 eJ66 hf
      rw [← Option.some.inj hf] at hret
      exact hret () _ _ dX4_leafScore_66
    obtain ⟨J65, eJ65, hf⟩ := jp_x hf
    have hJ65 : J65 = some t → G X 0 0 [] [] 65 [] := by
      intro  hf
      have hf := app0 eJ65 hf
      refine g_iconst (v := 0) C dX4_leafScore_65 (by decide) ?_
      exact hJ66 0 hf
    refine g_icmp_lt C dX4_leafScore_52 (tgt := 65) (by decide) hf (fun hf => ?_) (fun hf => ?_)
    · exact g_lv [] rfl (hJ65 hf)
    · refine g_lload_n C dX4_leafScore_55 rfl 3 rfl ?_
      refine g_l2i C dX4_leafScore_56 hf (fun z8 hf => ?_)
      refine g_iload_n C dX4_leafScore_57 rfl 2 rfl ?_
      refine g_icmp_gt C dX4_leafScore_58 (tgt := 65) (by decide) hf (fun hf => ?_) (fun hf => ?_)
      · exact g_lv [] rfl (hJ65 hf)
      · refine g_iconst (v := 1) C dX4_leafScore_61 (by decide) ?_
        refine g_goto C dX4_leafScore_62 (tgt := 66) (by decide) ?_
        exact g_lv [] rfl (hJ66 1 hf)
  refine g_tout C dX4_leafScore_1 (tgt := 67) (by have h0 := lv_neT c0 (show (0 : Int32).toInt = 0 from rfl); have h1 := lv_neT c1 (show (1 : Int32).toInt = 1 from rfl); have h2 := lv_neT c2 (show (2 : Int32).toInt = 2 from rfl); have h3 := lv_neT c3 (show (3 : Int32).toInt = 3 from rfl); omega) (by decide) ?_
  refine g_iconst (v := 0) C dX4_leafScore_67 (by decide) ?_
  rw [← Option.some.inj hf] at hret
  exact hret () _ _ dX4_leafScore_68
def fX4_openLeaf (v_kinds : Nat → Int32) (v_as : Nat → Int32) (v_bs : Nat → Int32) (v_openMatches : Nat → Int32) (v_openScores : Nat → Int32) (x0 : Int32) (x1 : Int32) (x2 : Int64) : Option ((Nat → Int32) × (Nat → Int32)) :=
  (rdI v_kinds 15 x0 (fun z1 => (rdI v_as 15 x0 (fun z2 => (rdI v_bs 15 x0 (fun z3 => (cal1 (fX4_leafScore z1 z2 z3 x2) (fun r4 => (wrI v_openScores 15 x1 r4 (fun g6 => (jp (fun (k7 : Int32) => (wrZ v_openMatches 15 x1 k7 (fun g8 => (some (g8, g6))))) (fun J47 => (if r4 ≤ 0 then (J47 0) else (J47 1))))))))))))))
theorem inX4_openLeaf_4 : ∀ w ∈ wsX40, w ∈ wsX4_openLeaf := fun _ h => List.mem_cons_of_mem _ (List.mem_append_right _ h)
set_option maxRecDepth 100000 in
set_option maxHeartbeats 8000000 in
theorem cX4_openLeaf_ok (L : XL) (a_this a_kinds a_as a_bs a_openMatches a_openScores : Nat) (v_size : Int32) (v_kinds : Nat → Int32) (v_as : Nat → Int32) (v_bs : Nat → Int32) (v_openMatches : Nat → Int32) (v_openScores : Nat → Int32) (x0 : Int32) (x1 : Int32) (x2 : Int64) {t : (Nat → Int32) × (Nat → Int32)} (hf : fX4_openLeaf v_kinds v_as v_bs v_openMatches v_openScores x0 x1 x2 = some t) : xM L yX4_openLeaf wsX4_openLeaf ({ frames := 3, cells := 0, slots := 0, locals := 71 }) [.ref a_this, .int x0, .int x1, .long x2] [(a_this, .inr (4, [.int v_size, .ref a_kinds, .ref a_as, .ref a_bs, .ref a_openMatches, .ref a_openScores])), (a_kinds, .inl (L.2.2.1, 15, .inl v_kinds)), (a_as, .inl (L.2.2.1, 15, .inl v_as)), (a_bs, .inl (L.2.2.1, 15, .inl v_bs)), (a_openMatches, .inl (L.2.2.2.2, 15, .inl v_openMatches)), (a_openScores, .inl (L.2.2.1, 15, .inl v_openScores))] 0 0 none (fun _ : Unit => [(a_this, .inr (4, [.int v_size, .ref a_kinds, .ref a_as, .ref a_bs, .ref a_openMatches, .ref a_openScores])), (a_kinds, .inl (L.2.2.1, 15, .inl v_kinds)), (a_as, .inl (L.2.2.1, 15, .inl v_as)), (a_bs, .inl (L.2.2.1, 15, .inl v_bs)), (a_openMatches, .inl (L.2.2.2.2, 15, .inl t.1)), (a_openScores, .inl (L.2.2.1, 15, .inl t.2))]) := by
  refine enter_v (own := RX4) (by decide) rfl rfl (Nat.le_of_ble_eq_true rfl) ?_
  intro X hXL C _ hret
  subst hXL
  unfold fX4_openLeaf at hf
  show G X 0 0 [(a_this, .inr (4, [.int v_size, .ref a_kinds, .ref a_as, .ref a_bs, .ref a_openMatches, .ref a_openScores])), (a_kinds, .inl (X.1.2.2.1, 15, .inl v_kinds)), (a_as, .inl (X.1.2.2.1, 15, .inl v_as)), (a_bs, .inl (X.1.2.2.1, 15, .inl v_bs)), (a_openMatches, .inl (X.1.2.2.2.2, 15, .inl v_openMatches)), (a_openScores, .inl (X.1.2.2.1, 15, .inl v_openScores))] [(0, .ref a_this), (1, .int x0), (2, .int x1), (3, .long x2)] 0 []
  refine g_aload_n C dX4_openLeaf_0 rfl 0 rfl ?_
  refine g_get C inX4_openLeaf_4 0 rfl rfl 1 (by decide) (List.mem_of_getElem? (i := 1) rfl) rfl rfl dX4_openLeaf_1 ?_
  refine g_iload_n C dX4_openLeaf_4 rfl 1 rfl ?_
  refine g_iaload C 1 rfl dX4_openLeaf_5 hf (fun z1 hf => ?_)
  refine g_aload_n C dX4_openLeaf_6 rfl 0 rfl ?_
  refine g_get C inX4_openLeaf_4 0 rfl rfl 2 (by decide) (List.mem_of_getElem? (i := 2) rfl) rfl rfl dX4_openLeaf_7 ?_
  refine g_iload_n C dX4_openLeaf_10 rfl 1 rfl ?_
  refine g_iaload C 2 rfl dX4_openLeaf_11 hf (fun z2 hf => ?_)
  refine g_aload_n C dX4_openLeaf_12 rfl 0 rfl ?_
  refine g_get C inX4_openLeaf_4 0 rfl rfl 3 (by decide) (List.mem_of_getElem? (i := 3) rfl) rfl rfl dX4_openLeaf_13 ?_
  refine g_iload_n C dX4_openLeaf_16 rfl 1 rfl ?_
  refine g_iaload C 3 rfl dX4_openLeaf_17 hf (fun z3 hf => ?_)
  refine g_lload_n C dX4_openLeaf_18 rfl 3 rfl ?_
  obtain ⟨r4, hq5, hf⟩ := cal1_x hf
  refine g_callS (As := [.int z1, .int z2, .int z3, .long x2]) (rest := []) (st2 := [.int r4]) (n := 4) C (cX4_leafScore_ok X.1 z1 z2 z3 x2 hq5) gX4_openLeaf_X4_leafScore rfl rfl rfl (by decide +kernel) (by decide) [] (by decide) rfl [0, 1, 2, 3, 4, 5] (Wr := [(a_this, .inr (4, [.int v_size, .ref a_kinds, .ref a_as, .ref a_bs, .ref a_openMatches, .ref a_openScores])), (a_kinds, .inl (X.1.2.2.1, 15, .inl v_kinds)), (a_as, .inl (X.1.2.2.1, 15, .inl v_as)), (a_bs, .inl (X.1.2.2.1, 15, .inl v_bs)), (a_openMatches, .inl (X.1.2.2.2.2, 15, .inl v_openMatches)), (a_openScores, .inl (X.1.2.2.1, 15, .inl v_openScores))]) (by decide) rfl (by decide) [0, 1, 2, 3, 4, 5] (by decide) (Wn := fun _ => [(a_this, .inr (4, [.int v_size, .ref a_kinds, .ref a_as, .ref a_bs, .ref a_openMatches, .ref a_openScores])), (a_kinds, .inl (X.1.2.2.1, 15, .inl v_kinds)), (a_as, .inl (X.1.2.2.1, 15, .inl v_as)), (a_bs, .inl (X.1.2.2.1, 15, .inl v_bs)), (a_openMatches, .inl (X.1.2.2.2.2, 15, .inl v_openMatches)), (a_openScores, .inl (X.1.2.2.1, 15, .inl v_openScores))]) (fun _ => rfl) rfl rfl rfl (Nat.le_of_ble_eq_true rfl) dX4_openLeaf_19 ⟨Nat.le_refl _, Nat.le_refl _⟩ (fun _ => ?_)
  refine g_istore (lv2 := [(5, .int r4), (0, .ref a_this), (1, .int x0), (2, .int x1), (3, .long x2)]) C dX4_openLeaf_22 (by decide) rfl ?_
  refine g_aload_n C dX4_openLeaf_24 rfl 1 rfl ?_
  refine g_get C inX4_openLeaf_4 0 rfl rfl 5 (by decide) (List.mem_of_getElem? (i := 4) rfl) rfl rfl dX4_openLeaf_25 ?_
  refine g_iload_n C dX4_openLeaf_28 rfl 3 rfl ?_
  refine g_iload C dX4_openLeaf_29 0 rfl ?_
  refine g_iastore (Wd2 := fun g6 => [(a_this, .inr (4, [.int v_size, .ref a_kinds, .ref a_as, .ref a_bs, .ref a_openMatches, .ref a_openScores])), (a_kinds, .inl (X.1.2.2.1, 15, .inl v_kinds)), (a_as, .inl (X.1.2.2.1, 15, .inl v_as)), (a_bs, .inl (X.1.2.2.1, 15, .inl v_bs)), (a_openMatches, .inl (X.1.2.2.2.2, 15, .inl v_openMatches)), (a_openScores, .inl (X.1.2.2.1, 15, .inl g6))]) C 5 rfl dX4_openLeaf_31 hf (fun _ => rfl) (fun g6 hf => ?_)
  refine g_aload_n C dX4_openLeaf_32 rfl 1 rfl ?_
  refine g_get C inX4_openLeaf_4 0 rfl rfl 4 (by decide) (List.mem_of_getElem? (i := 5) rfl) rfl rfl dX4_openLeaf_33 ?_
  refine g_iload_n C dX4_openLeaf_36 rfl 3 rfl ?_
  refine g_iload C dX4_openLeaf_37 0 rfl ?_
  obtain ⟨J47, eJ47, hf⟩ := jp_x hf
  have hJ47 : ∀ (k7 : Int32), J47 k7 = some t → G X 0 0 [(a_this, .inr (4, [.int v_size, .ref a_kinds, .ref a_as, .ref a_bs, .ref a_openMatches, .ref a_openScores])), (a_kinds, .inl (X.1.2.2.1, 15, .inl v_kinds)), (a_as, .inl (X.1.2.2.1, 15, .inl v_as)), (a_bs, .inl (X.1.2.2.1, 15, .inl v_bs)), (a_openMatches, .inl (X.1.2.2.2.2, 15, .inl v_openMatches)), (a_openScores, .inl (X.1.2.2.1, 15, .inl g6))] [] 47 [.int k7, .int x1, .ref a_openMatches] := by
    intro k7 hf
    have hf := app1 eJ47 hf
    refine g_zastore (Wd2 := fun g8 => [(a_this, .inr (4, [.int v_size, .ref a_kinds, .ref a_as, .ref a_bs, .ref a_openMatches, .ref a_openScores])), (a_kinds, .inl (X.1.2.2.1, 15, .inl v_kinds)), (a_as, .inl (X.1.2.2.1, 15, .inl v_as)), (a_bs, .inl (X.1.2.2.1, 15, .inl v_bs)), (a_openMatches, .inl (X.1.2.2.2.2, 15, .inl g8)), (a_openScores, .inl (X.1.2.2.1, 15, .inl g6))]) C 4 rfl dX4_openLeaf_47 hf (fun _ => rfl) (fun g8 hf => ?_)
    rw [← Option.some.inj hf] at hret
    exact hret () _ _ dX4_openLeaf_48
  refine g_if_le C dX4_openLeaf_39 (tgt := 46) (by decide) hf (fun hf => ?_) (fun hf => ?_)
  · refine g_iconst (v := 0) C dX4_openLeaf_46 (by decide) ?_
    exact g_lv [] rfl (hJ47 0 hf)
  · refine g_iconst (v := 1) C dX4_openLeaf_42 (by decide) ?_
    refine g_goto C dX4_openLeaf_43 (tgt := 47) (by decide) ?_
    exact g_lv [] rfl (hJ47 1 hf)
def fX4_joinOpen (v_openMatches : Nat → Int32) (v_openScores : Nat → Int32) (x0 : Int32) (x1 : Int32) : Option ((Nat → Int32) × (Nat → Int32)) :=
  (if x0 = 6 then (rdI v_openMatches 15 x1 (fun z12 => (jp (fun (k13 : Int32) => (wrZ v_openMatches 15 x1 k13 (fun g14 => (wrI v_openScores 15 x1 0 (fun g15 => (some (g14, g15))))))) (fun J25 => (if z12 = 0 then (J25 1) else (J25 0)))))) else (bnd (x1 + 1 : Int32) (fun z1 => (if z1 < 15 then (rdI v_openMatches 15 x1 (fun z2 => (bnd (x1 + 1 : Int32) (fun z3 => (rdI v_openMatches 15 z3 (fun z4 => (jp (fun (k5 : Int32) => (wrZ v_openMatches 15 x1 k5 (fun g6 => (rdI v_openScores 15 x1 (fun z7 => (bnd (x1 + 1 : Int32) (fun z8 => (rdI v_openScores 15 z8 (fun z9 => (bnd (z7 + z9 : Int32) (fun z10 => (wrI v_openScores 15 x1 z10 (fun g11 => (some (g6, g11))))))))))))))) (fun J101 => (if x0 = 4 then (jp (J101 0) (fun J83 => (if z2 = 0 then J83 else (if z4 = 0 then J83 else (J101 1))))) else (jp (J101 1) (fun J96 => (if z2 = 0 then (if z4 = 0 then (J101 0) else J96) else J96)))))))))))) else (some (v_openMatches, v_openScores))))))
theorem inX4_joinOpen_4 : ∀ w ∈ wsX40, w ∈ wsX4_joinOpen := fun _ h => List.mem_cons_of_mem _ (List.mem_append_right _ h)
set_option maxRecDepth 100000 in
set_option maxHeartbeats 8000000 in
theorem cX4_joinOpen_ok (L : XL) (a_this a_kinds a_as a_bs a_openMatches a_openScores : Nat) (v_size : Int32) (v_openMatches : Nat → Int32) (v_openScores : Nat → Int32) (x0 : Int32) (x1 : Int32) {t : (Nat → Int32) × (Nat → Int32)} (hf : fX4_joinOpen v_openMatches v_openScores x0 x1 = some t) : xM L yX4_joinOpen wsX4_joinOpen ({ frames := 0, cells := 0, slots := 0, locals := 0 }) [.ref a_this, .int x0, .int x1] [(a_this, .inr (4, [.int v_size, .ref a_kinds, .ref a_as, .ref a_bs, .ref a_openMatches, .ref a_openScores])), (a_openMatches, .inl (L.2.2.2.2, 15, .inl v_openMatches)), (a_openScores, .inl (L.2.2.1, 15, .inl v_openScores))] 0 0 none (fun _ : Unit => [(a_this, .inr (4, [.int v_size, .ref a_kinds, .ref a_as, .ref a_bs, .ref a_openMatches, .ref a_openScores])), (a_openMatches, .inl (L.2.2.2.2, 15, .inl t.1)), (a_openScores, .inl (L.2.2.1, 15, .inl t.2))]) := by
  refine enter_v (own := RX4) (by decide) rfl rfl (Nat.le_of_ble_eq_true rfl) ?_
  intro X hXL C _ hret
  subst hXL
  unfold fX4_joinOpen at hf
  show G X 0 0 [(a_this, .inr (4, [.int v_size, .ref a_kinds, .ref a_as, .ref a_bs, .ref a_openMatches, .ref a_openScores])), (a_openMatches, .inl (X.1.2.2.2.2, 15, .inl v_openMatches)), (a_openScores, .inl (X.1.2.2.1, 15, .inl v_openScores))] [(0, .ref a_this), (1, .int x0), (2, .int x1)] 0 []
  refine g_iload_n C dX4_joinOpen_0 rfl 1 rfl ?_
  refine g_bipush (v := 6) C dX4_joinOpen_1 (by decide) ?_
  refine g_icmp_ne C dX4_joinOpen_3 (tgt := 34) (by decide) hf (fun hf => ?_) (fun hf => ?_)
  · refine g_iload_n C dX4_joinOpen_34 rfl 2 rfl ?_
    refine g_iconst (v := 1) C dX4_joinOpen_35 (by decide) ?_
    refine g_iadd C dX4_joinOpen_36 hf (fun z1 hf => ?_)
    refine g_bipush (v := 15) C dX4_joinOpen_37 (by decide) ?_
    refine g_icmp_lt C dX4_joinOpen_39 (tgt := 43) (by decide) hf (fun hf => ?_) (fun hf => ?_)
    · refine g_aload_n C dX4_joinOpen_43 rfl 0 rfl ?_
      refine g_get C inX4_joinOpen_4 0 rfl rfl 4 (by decide) (List.mem_of_getElem? (i := 1) rfl) rfl rfl dX4_joinOpen_44 ?_
      refine g_iload_n C dX4_joinOpen_47 rfl 2 rfl ?_
      refine g_zaload C 1 rfl dX4_joinOpen_48 hf (fun z2 hf => ?_)
      refine g_istore_n (lv2 := [(3, .int z2), (0, .ref a_this), (1, .int x0), (2, .int x1)]) C dX4_joinOpen_49 rfl (by decide) rfl ?_
      refine g_aload_n C dX4_joinOpen_50 rfl 1 rfl ?_
      refine g_get C inX4_joinOpen_4 0 rfl rfl 4 (by decide) (List.mem_of_getElem? (i := 1) rfl) rfl rfl dX4_joinOpen_51 ?_
      refine g_iload_n C dX4_joinOpen_54 rfl 3 rfl ?_
      refine g_iconst (v := 1) C dX4_joinOpen_55 (by decide) ?_
      refine g_iadd C dX4_joinOpen_56 hf (fun z3 hf => ?_)
      refine g_zaload C 1 rfl dX4_joinOpen_57 hf (fun z4 hf => ?_)
      refine g_istore (lv2 := [(4, .int z4), (3, .int z2), (0, .ref a_this), (1, .int x0), (2, .int x1)]) C dX4_joinOpen_58 (by decide) rfl ?_
      refine g_aload_n C dX4_joinOpen_60 rfl 2 rfl ?_
      refine g_get C inX4_joinOpen_4 0 rfl rfl 4 (by decide) (List.mem_of_getElem? (i := 1) rfl) rfl rfl dX4_joinOpen_61 ?_
      refine g_iload_n C dX4_joinOpen_64 rfl 4 rfl ?_
      refine g_iload_n C dX4_joinOpen_65 rfl 3 rfl ?_
      refine g_iconst (v := 4) C dX4_joinOpen_66 (by decide) ?_
      obtain ⟨J101, eJ101, hf⟩ := jp_x hf
      have hJ101 : ∀ (k5 : Int32), J101 k5 = some t → G X 0 0 [(a_this, .inr (4, [.int v_size, .ref a_kinds, .ref a_as, .ref a_bs, .ref a_openMatches, .ref a_openScores])), (a_openMatches, .inl (X.1.2.2.2.2, 15, .inl v_openMatches)), (a_openScores, .inl (X.1.2.2.1, 15, .inl v_openScores))] [(0, .ref a_this), (2, .int x1)] 101 [.int k5, .int x1, .ref a_openMatches] := by
        intro k5 hf
        have hf := app1 eJ101 hf
        refine g_zastore (Wd2 := fun g6 => [(a_this, .inr (4, [.int v_size, .ref a_kinds, .ref a_as, .ref a_bs, .ref a_openMatches, .ref a_openScores])), (a_openMatches, .inl (X.1.2.2.2.2, 15, .inl g6)), (a_openScores, .inl (X.1.2.2.1, 15, .inl v_openScores))]) C 1 rfl dX4_joinOpen_101 hf (fun _ => rfl) (fun g6 hf => ?_)
        refine g_aload_n C dX4_joinOpen_102 rfl 0 rfl ?_
        refine g_get C inX4_joinOpen_4 0 rfl rfl 5 (by decide) (List.mem_of_getElem? (i := 2) rfl) rfl rfl dX4_joinOpen_103 ?_
        refine g_iload_n C dX4_joinOpen_106 rfl 1 rfl ?_
        refine g_dup2 C dX4_joinOpen_107 rfl rfl ?_
        refine g_iaload C 2 rfl dX4_joinOpen_108 hf (fun z7 hf => ?_)
        refine g_aload_n C dX4_joinOpen_109 rfl 0 rfl ?_
        refine g_get C inX4_joinOpen_4 0 rfl rfl 5 (by decide) (List.mem_of_getElem? (i := 2) rfl) rfl rfl dX4_joinOpen_110 ?_
        refine g_iload_n C dX4_joinOpen_113 rfl 1 rfl ?_
        refine g_iconst (v := 1) C dX4_joinOpen_114 (by decide) ?_
        refine g_iadd C dX4_joinOpen_115 hf (fun z8 hf => ?_)
        refine g_iaload C 2 rfl dX4_joinOpen_116 hf (fun z9 hf => ?_)
        refine g_iadd C dX4_joinOpen_117 hf (fun z10 hf => ?_)
        refine g_iastore (Wd2 := fun g11 => [(a_this, .inr (4, [.int v_size, .ref a_kinds, .ref a_as, .ref a_bs, .ref a_openMatches, .ref a_openScores])), (a_openMatches, .inl (X.1.2.2.2.2, 15, .inl g6)), (a_openScores, .inl (X.1.2.2.1, 15, .inl g11))]) C 2 rfl dX4_joinOpen_118 hf (fun _ => rfl) (fun g11 hf => ?_)
        rw [← Option.some.inj hf] at hret
        exact hret () _ _ dX4_joinOpen_119
      refine g_icmp_ne C dX4_joinOpen_67 (tgt := 87) (by decide) hf (fun hf => ?_) (fun hf => ?_)
      · refine g_iload_n C dX4_joinOpen_87 rfl 1 rfl ?_
        obtain ⟨J96, eJ96, hf⟩ := jp_x hf
        have hJ96 : J96 = some t → G X 0 0 [(a_this, .inr (4, [.int v_size, .ref a_kinds, .ref a_as, .ref a_bs, .ref a_openMatches, .ref a_openScores])), (a_openMatches, .inl (X.1.2.2.2.2, 15, .inl v_openMatches)), (a_openScores, .inl (X.1.2.2.1, 15, .inl v_openScores))] [(0, .ref a_this), (2, .int x1)] 96 [.int x1, .ref a_openMatches] := by
          intro  hf
          have hf := app0 eJ96 hf
          refine g_iconst (v := 1) C dX4_joinOpen_96 (by decide) ?_
          refine g_goto C dX4_joinOpen_97 (tgt := 101) (by decide) ?_
          exact hJ101 1 hf
        refine g_if_ne C dX4_joinOpen_88 (tgt := 96) (by decide) hf (fun hf => ?_) (fun hf => ?_)
        · exact g_lv [2, 4] rfl (hJ96 hf)
        · refine g_iload C dX4_joinOpen_91 0 rfl ?_
          refine g_if_eq C dX4_joinOpen_93 (tgt := 100) (by decide) hf (fun hf => ?_) (fun hf => ?_)
          · refine g_iconst (v := 0) C dX4_joinOpen_100 (by decide) ?_
            exact g_lv [2, 4] rfl (hJ101 0 hf)
          · exact g_lv [2, 4] rfl (hJ96 hf)
      · refine g_iload_n C dX4_joinOpen_70 rfl 1 rfl ?_
        obtain ⟨J83, eJ83, hf⟩ := jp_x hf
        have hJ83 : J83 = some t → G X 0 0 [(a_this, .inr (4, [.int v_size, .ref a_kinds, .ref a_as, .ref a_bs, .ref a_openMatches, .ref a_openScores])), (a_openMatches, .inl (X.1.2.2.2.2, 15, .inl v_openMatches)), (a_openScores, .inl (X.1.2.2.1, 15, .inl v_openScores))] [(0, .ref a_this), (2, .int x1)] 83 [.int x1, .ref a_openMatches] := by
          intro  hf
          have hf := app0 eJ83 hf
          refine g_iconst (v := 0) C dX4_joinOpen_83 (by decide) ?_
          refine g_goto C dX4_joinOpen_84 (tgt := 101) (by decide) ?_
          exact hJ101 0 hf
        refine g_if_eq C dX4_joinOpen_71 (tgt := 83) (by decide) hf (fun hf => ?_) (fun hf => ?_)
        · exact g_lv [2, 4] rfl (hJ83 hf)
        · refine g_iload C dX4_joinOpen_74 0 rfl ?_
          refine g_if_eq C dX4_joinOpen_76 (tgt := 83) (by decide) hf (fun hf => ?_) (fun hf => ?_)
          · exact g_lv [2, 4] rfl (hJ83 hf)
          · refine g_iconst (v := 1) C dX4_joinOpen_79 (by decide) ?_
            refine g_goto C dX4_joinOpen_80 (tgt := 101) (by decide) ?_
            exact g_lv [2, 4] rfl (hJ101 1 hf)
    · rw [← Option.some.inj hf] at hret
      exact hret () _ _ dX4_joinOpen_42
  · refine g_aload_n C dX4_joinOpen_6 rfl 0 rfl ?_
    refine g_get C inX4_joinOpen_4 0 rfl rfl 4 (by decide) (List.mem_of_getElem? (i := 1) rfl) rfl rfl dX4_joinOpen_7 ?_
    refine g_iload_n C dX4_joinOpen_10 rfl 2 rfl ?_
    refine g_aload_n C dX4_joinOpen_11 rfl 0 rfl ?_
    refine g_get C inX4_joinOpen_4 0 rfl rfl 4 (by decide) (List.mem_of_getElem? (i := 1) rfl) rfl rfl dX4_joinOpen_12 ?_
    refine g_iload_n C dX4_joinOpen_15 rfl 2 rfl ?_
    refine g_zaload C 1 rfl dX4_joinOpen_16 hf (fun z12 hf => ?_)
    obtain ⟨J25, eJ25, hf⟩ := jp_x hf
    have hJ25 : ∀ (k13 : Int32), J25 k13 = some t → G X 0 0 [(a_this, .inr (4, [.int v_size, .ref a_kinds, .ref a_as, .ref a_bs, .ref a_openMatches, .ref a_openScores])), (a_openMatches, .inl (X.1.2.2.2.2, 15, .inl v_openMatches)), (a_openScores, .inl (X.1.2.2.1, 15, .inl v_openScores))] [(0, .ref a_this), (2, .int x1)] 25 [.int k13, .int x1, .ref a_openMatches] := by
      intro k13 hf
      have hf := app1 eJ25 hf
      refine g_zastore (Wd2 := fun g14 => [(a_this, .inr (4, [.int v_size, .ref a_kinds, .ref a_as, .ref a_bs, .ref a_openMatches, .ref a_openScores])), (a_openMatches, .inl (X.1.2.2.2.2, 15, .inl g14)), (a_openScores, .inl (X.1.2.2.1, 15, .inl v_openScores))]) C 1 rfl dX4_joinOpen_25 hf (fun _ => rfl) (fun g14 hf => ?_)
      refine g_aload_n C dX4_joinOpen_26 rfl 0 rfl ?_
      refine g_get C inX4_joinOpen_4 0 rfl rfl 5 (by decide) (List.mem_of_getElem? (i := 2) rfl) rfl rfl dX4_joinOpen_27 ?_
      refine g_iload_n C dX4_joinOpen_30 rfl 1 rfl ?_
      refine g_iconst (v := 0) C dX4_joinOpen_31 (by decide) ?_
      refine g_iastore (Wd2 := fun g15 => [(a_this, .inr (4, [.int v_size, .ref a_kinds, .ref a_as, .ref a_bs, .ref a_openMatches, .ref a_openScores])), (a_openMatches, .inl (X.1.2.2.2.2, 15, .inl g14)), (a_openScores, .inl (X.1.2.2.1, 15, .inl g15))]) C 2 rfl dX4_joinOpen_32 hf (fun _ => rfl) (fun g15 hf => ?_)
      rw [← Option.some.inj hf] at hret
      exact hret () _ _ dX4_joinOpen_33
    refine g_if_ne C dX4_joinOpen_17 (tgt := 24) (by decide) hf (fun hf => ?_) (fun hf => ?_)
    · refine g_iconst (v := 0) C dX4_joinOpen_24 (by decide) ?_
      exact g_lv [0, 2] rfl (hJ25 0 hf)
    · refine g_iconst (v := 1) C dX4_joinOpen_20 (by decide) ?_
      refine g_goto C dX4_joinOpen_21 (tgt := 25) (by decide) ?_
      exact g_lv [0, 2] rfl (hJ25 1 hf)
def sX4_scoreOf_15 (J94 : (Int32) → (Nat → Int32) → (Nat → Int32) → Option ((Int32) × (Nat → Int32) × (Nat → Int32))) (v_kinds : Nat → Int32) (J47 : (Nat → Int32) → (Nat → Int32) → Option ((Int32) × (Nat → Int32) × (Nat → Int32))) (v_as : Nat → Int32) (v_bs : Nat → Int32) (x0 : Int64) (R15 : (Int32) → (Int32) → (Nat → Int32) → (Nat → Int32) → Option ((Int32) × (Nat → Int32) × (Nat → Int32))) (y11 : Int32) (y12 : Int32) (w13 : Nat → Int32) (w14 : Nat → Int32) : Option ((Int32) × (Nat → Int32) × (Nat → Int32)) :=
  (if y12 < 0 then (J94 y11 w13 w14) else (rdI v_kinds 15 y12 (fun z15 => (cal1 (fX4_operandsOf z15) (fun r16 => (if y11 < r16 then (J47 w13 w14) else (bnd (y11 - r16 : Int32) (fun z18 => (if z18 < 15 then (bnd (y11 - r16 : Int32) (fun z19 => (bnd (z19 + 1 : Int32) (fun z20 => (jp (fun (w21 : Nat → Int32) (w22 : Nat → Int32) => (bnd (y12 + (-1)) (fun z23 => (R15 z20 z23 w21 w22)))) (fun J88 => (if r16 = 0 then (bnd (z20 - 1 : Int32) (fun z29 => (cal2 (fX4_openLeaf v_kinds v_as v_bs w13 w14 y12 z29 x0) (fun u30 u31 => (J88 u30 u31))))) else (rdI v_kinds 15 y12 (fun z24 => (bnd (z20 - 1 : Int32) (fun z25 => (cal2 (fX4_joinOpen w13 w14 z24 z25) (fun u26 u27 => (J88 u26 u27)))))))))))))) else (J47 w13 w14))))))))))
def fX4_scoreOf (v_size : Int32) (v_kinds : Nat → Int32) (v_as : Nat → Int32) (v_bs : Nat → Int32) (v_openMatches : Nat → Int32) (v_openScores : Nat → Int32) (x0 : Int64) : Option ((Int32) × (Nat → Int32) × (Nat → Int32)) :=
  (bnd (if 15 < v_size then 15 else v_size) (fun z1 => (bnd (z1 - 1 : Int32) (fun z2 => (jp (fun (y3 : Int32) (w4 : Nat → Int32) (w5 : Nat → Int32) => (jp (fun (k6 : Int32) => (some (k6, w4, w5))) (fun J118 => (jp (J118 (-1)) (fun J117 => (if y3 = 1 then (rdI w4 15 0 (fun z7 => (if z7 = 0 then J117 else (rdI w5 15 0 (fun z8 => (J118 z8)))))) else J117)))))) (fun J94 => (jp (fun (w9 : Nat → Int32) (w10 : Nat → Int32) => (some ((-1), w9, w10))) (fun J47 => (lo4 (sX4_scoreOf_15 J94 v_kinds J47 v_as v_bs x0) 1000 0 z2 v_openMatches v_openScores)))))))))
theorem inX4_scoreOf_4 : ∀ w ∈ wsX40, w ∈ wsX4_scoreOf := fun _ h => List.mem_cons_of_mem _ (List.mem_append_right _ h)
set_option maxRecDepth 100000 in
set_option maxHeartbeats 8000000 in
theorem cX4_scoreOf_ok (L : XL) (a_this a_kinds a_as a_bs a_openMatches a_openScores : Nat) (v_size : Int32) (v_kinds : Nat → Int32) (v_as : Nat → Int32) (v_bs : Nat → Int32) (v_openMatches : Nat → Int32) (v_openScores : Nat → Int32) (x0 : Int64) {t : (Int32) × (Nat → Int32) × (Nat → Int32)} (hf : fX4_scoreOf v_size v_kinds v_as v_bs v_openMatches v_openScores x0 = some t) : xM L yX4_scoreOf wsX4_scoreOf ({ frames := 4, cells := 0, slots := 0, locals := 96 }) [.ref a_this, .long x0] [(a_this, .inr (4, [.int v_size, .ref a_kinds, .ref a_as, .ref a_bs, .ref a_openMatches, .ref a_openScores])), (a_kinds, .inl (L.2.2.1, 15, .inl v_kinds)), (a_as, .inl (L.2.2.1, 15, .inl v_as)), (a_bs, .inl (L.2.2.1, 15, .inl v_bs)), (a_openMatches, .inl (L.2.2.2.2, 15, .inl v_openMatches)), (a_openScores, .inl (L.2.2.1, 15, .inl v_openScores))] 0 0 (some (.int t.1)) (fun _ : Unit => [(a_this, .inr (4, [.int v_size, .ref a_kinds, .ref a_as, .ref a_bs, .ref a_openMatches, .ref a_openScores])), (a_kinds, .inl (L.2.2.1, 15, .inl v_kinds)), (a_as, .inl (L.2.2.1, 15, .inl v_as)), (a_bs, .inl (L.2.2.1, 15, .inl v_bs)), (a_openMatches, .inl (L.2.2.2.2, 15, .inl t.2.1)), (a_openScores, .inl (L.2.2.1, 15, .inl t.2.2))]) := by
  refine enter_i (own := RX4) (by decide) rfl rfl (Nat.le_of_ble_eq_true rfl) ?_
  intro X hXL C _ hret
  subst hXL
  unfold fX4_scoreOf at hf
  show G X 0 0 [(a_this, .inr (4, [.int v_size, .ref a_kinds, .ref a_as, .ref a_bs, .ref a_openMatches, .ref a_openScores])), (a_kinds, .inl (X.1.2.2.1, 15, .inl v_kinds)), (a_as, .inl (X.1.2.2.1, 15, .inl v_as)), (a_bs, .inl (X.1.2.2.1, 15, .inl v_bs)), (a_openMatches, .inl (X.1.2.2.2.2, 15, .inl v_openMatches)), (a_openScores, .inl (X.1.2.2.1, 15, .inl v_openScores))] [(0, .ref a_this), (1, .long x0)] 0 []
  refine g_iconst (v := 0) C dX4_scoreOf_0 (by decide) ?_
  refine g_istore_n (lv2 := [(3, .int 0), (0, .ref a_this), (1, .long x0)]) C dX4_scoreOf_1 rfl (by decide) rfl ?_
  refine g_aload_n C dX4_scoreOf_2 rfl 1 rfl ?_
  refine g_get C inX4_scoreOf_4 0 rfl rfl 0 (by decide) (List.mem_of_getElem? (i := 1) rfl) rfl rfl dX4_scoreOf_3 ?_
  refine g_bipush (v := 15) C dX4_scoreOf_6 (by decide) ?_
  refine g_mmin C (List.mem_of_getElem? (i := 2) rfl) (List.mem_of_getElem? (i := 3) rfl) (List.mem_of_getElem? (i := 4) rfl) (List.mem_of_getElem? (i := 5) rfl) (Nat.le_of_ble_eq_true rfl) (Nat.le_of_ble_eq_true rfl) (Nat.zero_le _) (Nat.zero_le _) dX4_scoreOf_8 hf (fun z1 hf => ?_)
  refine g_iconst (v := 1) C dX4_scoreOf_11 (by decide) ?_
  refine g_isub C dX4_scoreOf_12 hf (fun z2 hf => ?_)
  refine g_istore (lv2 := [(4, .int z2), (3, .int 0), (0, .ref a_this), (1, .long x0)]) C dX4_scoreOf_13 (by decide) rfl ?_
  obtain ⟨J94, eJ94, hf⟩ := jp_x hf
  have hJ94 : ∀ (y3 : Int32) (w4 : Nat → Int32) (w5 : Nat → Int32), J94 y3 w4 w5 = some t → G X 0 0 [(a_this, .inr (4, [.int v_size, .ref a_kinds, .ref a_as, .ref a_bs, .ref a_openMatches, .ref a_openScores])), (a_kinds, .inl (X.1.2.2.1, 15, .inl v_kinds)), (a_as, .inl (X.1.2.2.1, 15, .inl v_as)), (a_bs, .inl (X.1.2.2.1, 15, .inl v_bs)), (a_openMatches, .inl (X.1.2.2.2.2, 15, .inl w4)), (a_openScores, .inl (X.1.2.2.1, 15, .inl w5))] [(0, .ref a_this), (3, .int y3)] 94 [] := by
    intro y3 w4 w5 hf
    have hf := app3 eJ94 hf
    refine g_iload_n C dX4_scoreOf_94 rfl 1 rfl ?_
    refine g_iconst (v := 1) C dX4_scoreOf_95 (by decide) ?_
    obtain ⟨J118, eJ118, hf⟩ := jp_x hf
    have hJ118 : ∀ (k6 : Int32), J118 k6 = some t → G X 0 0 [(a_this, .inr (4, [.int v_size, .ref a_kinds, .ref a_as, .ref a_bs, .ref a_openMatches, .ref a_openScores])), (a_kinds, .inl (X.1.2.2.1, 15, .inl v_kinds)), (a_as, .inl (X.1.2.2.1, 15, .inl v_as)), (a_bs, .inl (X.1.2.2.1, 15, .inl v_bs)), (a_openMatches, .inl (X.1.2.2.2.2, 15, .inl w4)), (a_openScores, .inl (X.1.2.2.1, 15, .inl w5))] [] 118 [.int k6] := by
      intro k6 hf
      have hf := app1 eJ118 hf
      rw [← Option.some.inj hf] at hret
      exact hret () _ _ dX4_scoreOf_118
    obtain ⟨J117, eJ117, hf⟩ := jp_x hf
    have hJ117 : J117 = some t → G X 0 0 [(a_this, .inr (4, [.int v_size, .ref a_kinds, .ref a_as, .ref a_bs, .ref a_openMatches, .ref a_openScores])), (a_kinds, .inl (X.1.2.2.1, 15, .inl v_kinds)), (a_as, .inl (X.1.2.2.1, 15, .inl v_as)), (a_bs, .inl (X.1.2.2.1, 15, .inl v_bs)), (a_openMatches, .inl (X.1.2.2.2.2, 15, .inl w4)), (a_openScores, .inl (X.1.2.2.1, 15, .inl w5))] [] 117 [] := by
      intro  hf
      have hf := app0 eJ117 hf
      refine g_iconst (v := (-1)) C dX4_scoreOf_117 (by decide) ?_
      exact hJ118 (-1) hf
    refine g_icmp_ne C dX4_scoreOf_96 (tgt := 117) (by decide) hf (fun hf => ?_) (fun hf => ?_)
    · exact g_lv [] rfl (hJ117 hf)
    · refine g_aload_n C dX4_scoreOf_99 rfl 0 rfl ?_
      refine g_get C inX4_scoreOf_4 0 rfl rfl 4 (by decide) (List.mem_of_getElem? (i := 7) rfl) rfl rfl dX4_scoreOf_100 ?_
      refine g_iconst (v := 0) C dX4_scoreOf_103 (by decide) ?_
      refine g_zaload C 4 rfl dX4_scoreOf_104 hf (fun z7 hf => ?_)
      refine g_if_eq C dX4_scoreOf_105 (tgt := 117) (by decide) hf (fun hf => ?_) (fun hf => ?_)
      · exact g_lv [] rfl (hJ117 hf)
      · refine g_aload_n C dX4_scoreOf_108 rfl 0 rfl ?_
        refine g_get C inX4_scoreOf_4 0 rfl rfl 5 (by decide) (List.mem_of_getElem? (i := 8) rfl) rfl rfl dX4_scoreOf_109 ?_
        refine g_iconst (v := 0) C dX4_scoreOf_112 (by decide) ?_
        refine g_iaload C 5 rfl dX4_scoreOf_113 hf (fun z8 hf => ?_)
        refine g_goto C dX4_scoreOf_114 (tgt := 118) (by decide) ?_
        exact g_lv [] rfl (hJ118 z8 hf)
  obtain ⟨J47, eJ47, hf⟩ := jp_x hf
  have hJ47 : ∀ (w9 : Nat → Int32) (w10 : Nat → Int32), J47 w9 w10 = some t → G X 0 0 [(a_this, .inr (4, [.int v_size, .ref a_kinds, .ref a_as, .ref a_bs, .ref a_openMatches, .ref a_openScores])), (a_kinds, .inl (X.1.2.2.1, 15, .inl v_kinds)), (a_as, .inl (X.1.2.2.1, 15, .inl v_as)), (a_bs, .inl (X.1.2.2.1, 15, .inl v_bs)), (a_openMatches, .inl (X.1.2.2.2.2, 15, .inl w9)), (a_openScores, .inl (X.1.2.2.1, 15, .inl w10))] [] 47 [] := by
    intro w9 w10 hf
    have hf := app2 eJ47 hf
    refine g_iconst (v := (-1)) C dX4_scoreOf_47 (by decide) ?_
    rw [← Option.some.inj hf] at hret
    exact hret () _ _ dX4_scoreOf_48
  have hL15 : ∀ (n : Nat) (y11 : Int32) (y12 : Int32) (w13 : Nat → Int32) (w14 : Nat → Int32), lo4 (sX4_scoreOf_15 J94 v_kinds J47 v_as v_bs x0) n y11 y12 w13 w14 = some t → G X 0 0 [(a_this, .inr (4, [.int v_size, .ref a_kinds, .ref a_as, .ref a_bs, .ref a_openMatches, .ref a_openScores])), (a_kinds, .inl (X.1.2.2.1, 15, .inl v_kinds)), (a_as, .inl (X.1.2.2.1, 15, .inl v_as)), (a_bs, .inl (X.1.2.2.1, 15, .inl v_bs)), (a_openMatches, .inl (X.1.2.2.2.2, 15, .inl w13)), (a_openScores, .inl (X.1.2.2.1, 15, .inl w14))] [(0, .ref a_this), (1, .long x0), (3, .int y11), (4, .int y12)] 15 [] := by
    intro n
    induction n with
    | zero => intro y11 y12 w13 w14 hf; exact (lo4_z hf).elim
    | succ n ih15 =>
      intro y11 y12 w13 w14 hf
      obtain ⟨R15, eR15, hf⟩ := lo4_x hf
      unfold sX4_scoreOf_15 at hf
      refine g_iload C dX4_scoreOf_15 3 rfl ?_
      refine g_if_lt C dX4_scoreOf_17 (tgt := 94) (by decide) hf (fun hf => ?_) (fun hf => ?_)
      · exact g_lv [0, 2] rfl (hJ94 y11 w13 w14 hf)
      · refine g_aload_n C dX4_scoreOf_20 rfl 0 rfl ?_
        refine g_get C inX4_scoreOf_4 0 rfl rfl 1 (by decide) (List.mem_of_getElem? (i := 6) rfl) rfl rfl dX4_scoreOf_21 ?_
        refine g_iload C dX4_scoreOf_24 3 rfl ?_
        refine g_iaload C 1 rfl dX4_scoreOf_26 hf (fun z15 hf => ?_)
        obtain ⟨r16, hq17, hf⟩ := cal1_x hf
        refine g_callS (As := [.int z15]) (rest := []) (st2 := [.int r16]) (n := 1) C (cX4_operandsOf_ok X.1 z15 hq17) gX4_scoreOf_X4_operandsOf rfl rfl rfl (by decide +kernel) (by decide) [] (by decide) rfl [0, 1, 2, 3, 4, 5] (Wr := [(a_this, .inr (4, [.int v_size, .ref a_kinds, .ref a_as, .ref a_bs, .ref a_openMatches, .ref a_openScores])), (a_kinds, .inl (X.1.2.2.1, 15, .inl v_kinds)), (a_as, .inl (X.1.2.2.1, 15, .inl v_as)), (a_bs, .inl (X.1.2.2.1, 15, .inl v_bs)), (a_openMatches, .inl (X.1.2.2.2.2, 15, .inl w13)), (a_openScores, .inl (X.1.2.2.1, 15, .inl w14))]) (by decide) rfl (by decide) [0, 1, 2, 3, 4, 5] (by decide) (Wn := fun _ => [(a_this, .inr (4, [.int v_size, .ref a_kinds, .ref a_as, .ref a_bs, .ref a_openMatches, .ref a_openScores])), (a_kinds, .inl (X.1.2.2.1, 15, .inl v_kinds)), (a_as, .inl (X.1.2.2.1, 15, .inl v_as)), (a_bs, .inl (X.1.2.2.1, 15, .inl v_bs)), (a_openMatches, .inl (X.1.2.2.2.2, 15, .inl w13)), (a_openScores, .inl (X.1.2.2.1, 15, .inl w14))]) (fun _ => rfl) rfl rfl rfl (Nat.le_of_ble_eq_true rfl) dX4_scoreOf_27 ⟨Nat.le_refl _, Nat.le_refl _⟩ (fun _ => ?_)
        refine g_istore (lv2 := [(5, .int r16), (0, .ref a_this), (1, .long x0), (3, .int y11), (4, .int y12)]) C dX4_scoreOf_30 (by decide) rfl ?_
        refine g_iload_n C dX4_scoreOf_32 rfl 3 rfl ?_
        refine g_iload C dX4_scoreOf_33 0 rfl ?_
        refine g_icmp_lt C dX4_scoreOf_35 (tgt := 47) (by decide) hf (fun hf => ?_) (fun hf => ?_)
        · exact g_lv [] rfl (hJ47 w13 w14 hf)
        · refine g_iload_n C dX4_scoreOf_38 rfl 3 rfl ?_
          refine g_iload C dX4_scoreOf_39 0 rfl ?_
          refine g_isub C dX4_scoreOf_41 hf (fun z18 hf => ?_)
          refine g_bipush (v := 15) C dX4_scoreOf_42 (by decide) ?_
          refine g_icmp_lt C dX4_scoreOf_44 (tgt := 49) (by decide) hf (fun hf => ?_) (fun hf => ?_)
          · refine g_iload_n C dX4_scoreOf_49 rfl 3 rfl ?_
            refine g_iload C dX4_scoreOf_50 0 rfl ?_
            refine g_isub C dX4_scoreOf_52 hf (fun z19 hf => ?_)
            refine g_iconst (v := 1) C dX4_scoreOf_53 (by decide) ?_
            refine g_iadd C dX4_scoreOf_54 hf (fun z20 hf => ?_)
            refine g_istore_n (lv2 := [(3, .int z20), (5, .int r16), (0, .ref a_this), (1, .long x0), (4, .int y12)]) C dX4_scoreOf_55 rfl (by decide) rfl ?_
            refine g_iload C dX4_scoreOf_56 1 rfl ?_
            obtain ⟨J88, eJ88, hf⟩ := jp_x hf
            have hJ88 : ∀ (w21 : Nat → Int32) (w22 : Nat → Int32), J88 w21 w22 = some t → G X 0 0 [(a_this, .inr (4, [.int v_size, .ref a_kinds, .ref a_as, .ref a_bs, .ref a_openMatches, .ref a_openScores])), (a_kinds, .inl (X.1.2.2.1, 15, .inl v_kinds)), (a_as, .inl (X.1.2.2.1, 15, .inl v_as)), (a_bs, .inl (X.1.2.2.1, 15, .inl v_bs)), (a_openMatches, .inl (X.1.2.2.2.2, 15, .inl w21)), (a_openScores, .inl (X.1.2.2.1, 15, .inl w22))] [(0, .ref a_this), (1, .long x0), (3, .int z20), (4, .int y12)] 88 [] := by
              intro w21 w22 hf
              have hf := app2 eJ88 hf
              refine g_iinc (v := (-1)) (lv2 := fun z23 => [(4, .int z23), (0, .ref a_this), (1, .long x0), (3, .int z20)]) C dX4_scoreOf_88 3 rfl (by decide) (by decide) hf (fun _ => rfl) (fun z23 hf => ?_)
              refine g_goto C dX4_scoreOf_91 (tgt := 15) (by decide) ?_
              exact g_lv [1, 2, 3, 0] rfl (ih15 z20 z23 w21 w22 (app4 eR15 hf))
            refine g_if_ne C dX4_scoreOf_58 (tgt := 74) (by decide) hf (fun hf => ?_) (fun hf => ?_)
            · refine g_aload_n C dX4_scoreOf_74 rfl 2 rfl ?_
              refine g_aload_n C dX4_scoreOf_75 rfl 2 rfl ?_
              refine g_get C inX4_scoreOf_4 0 rfl rfl 1 (by decide) (List.mem_of_getElem? (i := 6) rfl) rfl rfl dX4_scoreOf_76 ?_
              refine g_iload C dX4_scoreOf_79 4 rfl ?_
              refine g_iaload C 1 rfl dX4_scoreOf_81 hf (fun z24 hf => ?_)
              refine g_iload_n C dX4_scoreOf_82 rfl 0 rfl ?_
              refine g_iconst (v := 1) C dX4_scoreOf_83 (by decide) ?_
              refine g_isub C dX4_scoreOf_84 hf (fun z25 hf => ?_)
              obtain ⟨u26, u27, hq28, hf⟩ := cal2_x hf
              refine g_callV (As := [.int z24, .int z25]) (rest := []) (st2 := []) (n := 2) C (cX4_joinOpen_ok X.1 a_this a_kinds a_as a_bs a_openMatches a_openScores v_size w13 w14 z24 z25 hq28) gX4_scoreOf_X4_joinOpen rfl rfl rfl ⟨rfl, by decide +kernel⟩ (by decide) 0 rfl rfl rfl [0, 4, 5] (by decide) rfl [1, 2, 3] (Wr := [(a_kinds, .inl (X.1.2.2.1, 15, .inl v_kinds)), (a_as, .inl (X.1.2.2.1, 15, .inl v_as)), (a_bs, .inl (X.1.2.2.1, 15, .inl v_bs))]) (by decide) rfl (by decide) [3, 0, 1, 2, 4, 5] (by decide) (Wn := fun _ => [(a_this, .inr (4, [.int v_size, .ref a_kinds, .ref a_as, .ref a_bs, .ref a_openMatches, .ref a_openScores])), (a_kinds, .inl (X.1.2.2.1, 15, .inl v_kinds)), (a_as, .inl (X.1.2.2.1, 15, .inl v_as)), (a_bs, .inl (X.1.2.2.1, 15, .inl v_bs)), (a_openMatches, .inl (X.1.2.2.2.2, 15, .inl u26)), (a_openScores, .inl (X.1.2.2.1, 15, .inl u27))]) (fun _ => rfl) rfl rfl rfl (Nat.le_of_ble_eq_true rfl) dX4_scoreOf_85 ⟨Nat.le_refl _, Nat.le_refl _⟩ (fun _ => ?_)
              exact g_lv [2, 3, 0, 4] rfl (hJ88 u26 u27 hf)
            · refine g_aload_n C dX4_scoreOf_61 rfl 2 rfl ?_
              refine g_iload C dX4_scoreOf_62 4 rfl ?_
              refine g_iload_n C dX4_scoreOf_64 rfl 0 rfl ?_
              refine g_iconst (v := 1) C dX4_scoreOf_65 (by decide) ?_
              refine g_isub C dX4_scoreOf_66 hf (fun z29 hf => ?_)
              refine g_lload_n C dX4_scoreOf_67 rfl 3 rfl ?_
              obtain ⟨u30, u31, hq32, hf⟩ := cal2_x hf
              refine g_callV (As := [.int y12, .int z29, .long x0]) (rest := []) (st2 := []) (n := 3) C (cX4_openLeaf_ok X.1 a_this a_kinds a_as a_bs a_openMatches a_openScores v_size v_kinds v_as v_bs w13 w14 y12 z29 x0 hq32) gX4_scoreOf_X4_openLeaf rfl rfl rfl ⟨rfl, by decide +kernel⟩ (by decide) 0 rfl rfl rfl [0, 1, 2, 3, 4, 5] (by decide) rfl [] (Wr := []) (by decide) rfl (by decide) [0, 1, 2, 3, 4, 5] (by decide) (Wn := fun _ => [(a_this, .inr (4, [.int v_size, .ref a_kinds, .ref a_as, .ref a_bs, .ref a_openMatches, .ref a_openScores])), (a_kinds, .inl (X.1.2.2.1, 15, .inl v_kinds)), (a_as, .inl (X.1.2.2.1, 15, .inl v_as)), (a_bs, .inl (X.1.2.2.1, 15, .inl v_bs)), (a_openMatches, .inl (X.1.2.2.2.2, 15, .inl u30)), (a_openScores, .inl (X.1.2.2.1, 15, .inl u31))]) (fun _ => rfl) rfl rfl rfl (Nat.le_of_ble_eq_true rfl) dX4_scoreOf_68 ⟨Nat.le_refl _, Nat.le_refl _⟩ (fun _ => ?_)
              refine g_goto C dX4_scoreOf_71 (tgt := 88) (by decide) ?_
              exact g_lv [2, 3, 0, 4] rfl (hJ88 u30 u31 hf)
          · exact g_lv [] rfl (hJ47 w13 w14 hf)
  exact g_lv [2, 3, 1, 0] rfl (hL15 _ 0 z2 v_openMatches v_openScores hf)
