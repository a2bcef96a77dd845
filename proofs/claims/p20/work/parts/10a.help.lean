def fX5_isId (x0 : Int32) : Option ((Int32)) :=
  (jp (fun (k1 : Int32) => (zok k1 (some (k1)))) (fun J15 => (jp (J15 0) (fun J14 => (if x0 < 0 then J14 else (if 16 ≤ x0 then J14 else (J15 1)))))))
set_option maxRecDepth 100000 in
set_option maxHeartbeats 8000000 in
theorem cX5_isId_ok (L : XL)  (x0 : Int32) {t : (Int32)} (hf : fX5_isId x0 = some t) : xM L yX5_isId wsX5_isId ({ frames := 0, cells := 0, slots := 0, locals := 0 }) [.int x0] [] 0 0 (some (.int t)) (fun _ : Unit => []) := by
  refine enter_z (own := RX5) (by decide) rfl rfl (Nat.le_of_ble_eq_true rfl) ?_
  intro X hXL C _ hret
  subst hXL
  unfold fX5_isId at hf
  show G X 0 0 [] [(0, .int x0)] 0 []
  refine g_iload_n C dX5_isId_0 rfl 0 rfl ?_
  obtain ⟨J15, eJ15, hf⟩ := jp_x hf
  have hJ15 : ∀ (k1 : Int32), J15 k1 = some t → G X 0 0 [] [] 15 [.int k1] := by
    intro k1 hf
    have hf := app1 eJ15 hf
    obtain ⟨hz, hf⟩ := zok_x hf
    rw [← Option.some.inj hf] at hret
    exact hret () _ _ hz dX5_isId_15
  obtain ⟨J14, eJ14, hf⟩ := jp_x hf
  have hJ14 : J14 = some t → G X 0 0 [] [] 14 [] := by
    intro  hf
    have hf := app0 eJ14 hf
    refine g_iconst (v := 0) C dX5_isId_14 (by decide) ?_
    exact hJ15 0 hf
  refine g_if_lt C dX5_isId_1 (tgt := 14) (by decide) hf (fun hf => ?_) (fun hf => ?_)
  · exact g_lv [] rfl (hJ14 hf)
  · refine g_iload_n C dX5_isId_4 rfl 0 rfl ?_
    refine g_bipush (v := 16) C dX5_isId_5 (by decide) ?_
    refine g_icmp_ge C dX5_isId_7 (tgt := 14) (by decide) hf (fun hf => ?_) (fun hf => ?_)
    · exact g_lv [] rfl (hJ14 hf)
    · refine g_iconst (v := 1) C dX5_isId_10 (by decide) ?_
      refine g_goto C dX5_isId_11 (tgt := 15) (by decide) ?_
      exact g_lv [] rfl (hJ15 1 hf)
def fX5_isWord (x0 : Int32) : Option ((Int32)) :=
  (jp (fun (k1 : Int32) => (zok k1 (some (k1)))) (fun J16 => (jp (J16 0) (fun J15 => (if x0 < 1 then J15 else (if 15 < x0 then J15 else (J16 1)))))))
set_option maxRecDepth 100000 in
set_option maxHeartbeats 8000000 in
theorem cX5_isWord_ok (L : XL)  (x0 : Int32) {t : (Int32)} (hf : fX5_isWord x0 = some t) : xM L yX5_isWord wsX5_isWord ({ frames := 0, cells := 0, slots := 0, locals := 0 }) [.int x0] [] 0 0 (some (.int t)) (fun _ : Unit => []) := by
  refine enter_z (own := RX5) (by decide) rfl rfl (Nat.le_of_ble_eq_true rfl) ?_
  intro X hXL C _ hret
  subst hXL
  unfold fX5_isWord at hf
  show G X 0 0 [] [(0, .int x0)] 0 []
  refine g_iload_n C dX5_isWord_0 rfl 0 rfl ?_
  refine g_iconst (v := 1) C dX5_isWord_1 (by decide) ?_
  obtain ⟨J16, eJ16, hf⟩ := jp_x hf
  have hJ16 : ∀ (k1 : Int32), J16 k1 = some t → G X 0 0 [] [] 16 [.int k1] := by
    intro k1 hf
    have hf := app1 eJ16 hf
    obtain ⟨hz, hf⟩ := zok_x hf
    rw [← Option.some.inj hf] at hret
    exact hret () _ _ hz dX5_isWord_16
  obtain ⟨J15, eJ15, hf⟩ := jp_x hf
  have hJ15 : J15 = some t → G X 0 0 [] [] 15 [] := by
    intro  hf
    have hf := app0 eJ15 hf
    refine g_iconst (v := 0) C dX5_isWord_15 (by decide) ?_
    exact hJ16 0 hf
  refine g_icmp_lt C dX5_isWord_2 (tgt := 15) (by decide) hf (fun hf => ?_) (fun hf => ?_)
  · exact g_lv [] rfl (hJ15 hf)
  · refine g_iload_n C dX5_isWord_5 rfl 0 rfl ?_
    refine g_bipush (v := 15) C dX5_isWord_6 (by decide) ?_
    refine g_icmp_gt C dX5_isWord_8 (tgt := 15) (by decide) hf (fun hf => ?_) (fun hf => ?_)
    · exact g_lv [] rfl (hJ15 hf)
    · refine g_iconst (v := 1) C dX5_isWord_11 (by decide) ?_
      refine g_goto C dX5_isWord_12 (tgt := 16) (by decide) ?_
      exact g_lv [] rfl (hJ16 1 hf)
def fX5_isSort (x0 : Int32) : Option ((Int32)) :=
  (jp (fun (k1 : Int32) => (zok k1 (some (k1)))) (fun J14 => (jp (J14 0) (fun J13 => (if x0 < 0 then J13 else (if 2 < x0 then J13 else (J14 1)))))))
set_option maxRecDepth 100000 in
set_option maxHeartbeats 8000000 in
theorem cX5_isSort_ok (L : XL)  (x0 : Int32) {t : (Int32)} (hf : fX5_isSort x0 = some t) : xM L yX5_isSort wsX5_isSort ({ frames := 0, cells := 0, slots := 0, locals := 0 }) [.int x0] [] 0 0 (some (.int t)) (fun _ : Unit => []) := by
  refine enter_z (own := RX5) (by decide) rfl rfl (Nat.le_of_ble_eq_true rfl) ?_
  intro X hXL C _ hret
  subst hXL
  unfold fX5_isSort at hf
  show G X 0 0 [] [(0, .int x0)] 0 []
  refine g_iload_n C dX5_isSort_0 rfl 0 rfl ?_
  obtain ⟨J14, eJ14, hf⟩ := jp_x hf
  have hJ14 : ∀ (k1 : Int32), J14 k1 = some t → G X 0 0 [] [] 14 [.int k1] := by
    intro k1 hf
    have hf := app1 eJ14 hf
    obtain ⟨hz, hf⟩ := zok_x hf
    rw [← Option.some.inj hf] at hret
    exact hret () _ _ hz dX5_isSort_14
  obtain ⟨J13, eJ13, hf⟩ := jp_x hf
  have hJ13 : J13 = some t → G X 0 0 [] [] 13 [] := by
    intro  hf
    have hf := app0 eJ13 hf
    refine g_iconst (v := 0) C dX5_isSort_13 (by decide) ?_
    exact hJ14 0 hf
  refine g_if_lt C dX5_isSort_1 (tgt := 13) (by decide) hf (fun hf => ?_) (fun hf => ?_)
  · exact g_lv [] rfl (hJ13 hf)
  · refine g_iload_n C dX5_isSort_4 rfl 0 rfl ?_
    refine g_iconst (v := 2) C dX5_isSort_5 (by decide) ?_
    refine g_icmp_gt C dX5_isSort_6 (tgt := 13) (by decide) hf (fun hf => ?_) (fun hf => ?_)
    · exact g_lv [] rfl (hJ13 hf)
    · refine g_iconst (v := 1) C dX5_isSort_9 (by decide) ?_
      refine g_goto C dX5_isSort_10 (tgt := 14) (by decide) ?_
      exact g_lv [] rfl (hJ14 1 hf)
def fX5_sizeOf (x0 : Int32) : Option ((Int32)) :=
  (if x0 = 1 then (some (19)) else (if x0 = 2 then (some (11)) else (if x0 = 3 then (some (8)) else (some (0)))))
set_option maxRecDepth 100000 in
set_option maxHeartbeats 8000000 in
theorem cX5_sizeOf_ok (L : XL)  (x0 : Int32) {t : (Int32)} (hf : fX5_sizeOf x0 = some t) : xM L yX5_sizeOf wsX5_sizeOf ({ frames := 0, cells := 0, slots := 0, locals := 0 }) [.int x0] [] 0 0 (some (.int t)) (fun _ : Unit => []) := by
  refine enter_i (own := RX5) (by decide) rfl rfl (Nat.le_of_ble_eq_true rfl) ?_
  intro X hXL C _ hret
  subst hXL
  unfold fX5_sizeOf at hf
  show G X 0 0 [] [(0, .int x0)] 0 []
  refine g_iload_n C dX5_sizeOf_0 rfl 0 rfl ?_
  rcases it_c hf with ⟨c1, hf⟩ | ⟨c1, hf⟩
  · refine g_tin C dX5_sizeOf_1 c1 (by decide) (by decide) rfl (tgt := 28) (by decide) ?_
    refine g_bipush (v := 19) C dX5_sizeOf_28 (by decide) ?_
    rw [← Option.some.inj hf] at hret
    exact hret () _ _ dX5_sizeOf_30
  rcases it_c hf with ⟨c2, hf⟩ | ⟨c2, hf⟩
  · refine g_tin C dX5_sizeOf_1 c2 (by decide) (by decide) rfl (tgt := 31) (by decide) ?_
    refine g_bipush (v := 11) C dX5_sizeOf_31 (by decide) ?_
    rw [← Option.some.inj hf] at hret
    exact hret () _ _ dX5_sizeOf_33
  rcases it_c hf with ⟨c3, hf⟩ | ⟨c3, hf⟩
  · refine g_tin C dX5_sizeOf_1 c3 (by decide) (by decide) rfl (tgt := 34) (by decide) ?_
    refine g_bipush (v := 8) C dX5_sizeOf_34 (by decide) ?_
    rw [← Option.some.inj hf] at hret
    exact hret () _ _ dX5_sizeOf_36
  refine g_tout C dX5_sizeOf_1 (tgt := 37) (by have h1 := lv_neT c1 (show (1 : Int32).toInt = 1 from rfl); have h2 := lv_neT c2 (show (2 : Int32).toInt = 2 from rfl); have h3 := lv_neT c3 (show (3 : Int32).toInt = 3 from rfl); omega) (by decide) ?_
  refine g_iconst (v := 0) C dX5_sizeOf_37 (by decide) ?_
  rw [← Option.some.inj hf] at hret
  exact hret () _ _ dX5_sizeOf_38
def fX5_isBehind (x0 : Int32) (x1 : Int32) (x2 : Int32) (x3 : Int32) (x4 : Int32) : Option ((Int32)) :=
  (if x1 = x3 then (jp (fun (k2 : Int32) => (zok k2 (some (k2)))) (fun J16 => (if x2 ≤ x4 then (J16 0) else (J16 1)))) else (jp (fun (k1 : Int32) => (zok k1 (some (k1)))) (fun J45 => (if x0 = 1 then (if x1 ≤ x3 then (J45 0) else (J45 1)) else (if x3 ≤ x1 then (J45 0) else (J45 1))))))
set_option maxRecDepth 100000 in
set_option maxHeartbeats 8000000 in
theorem cX5_isBehind_ok (L : XL)  (x0 : Int32) (x1 : Int32) (x2 : Int32) (x3 : Int32) (x4 : Int32) {t : (Int32)} (hf : fX5_isBehind x0 x1 x2 x3 x4 = some t) : xM L yX5_isBehind wsX5_isBehind ({ frames := 0, cells := 0, slots := 0, locals := 0 }) [.int x0, .int x1, .int x2, .int x3, .int x4] [] 0 0 (some (.int t)) (fun _ : Unit => []) := by
  refine enter_z (own := RX5) (by decide) rfl rfl (Nat.le_of_ble_eq_true rfl) ?_
  intro X hXL C _ hret
  subst hXL
  unfold fX5_isBehind at hf
  show G X 0 0 [] [(0, .int x0), (1, .int x1), (2, .int x2), (3, .int x3), (4, .int x4)] 0 []
  refine g_iload_n C dX5_isBehind_0 rfl 1 rfl ?_
  refine g_iload_n C dX5_isBehind_1 rfl 3 rfl ?_
  refine g_icmp_ne C dX5_isBehind_2 (tgt := 17) (by decide) hf (fun hf => ?_) (fun hf => ?_)
  · refine g_iload_n C dX5_isBehind_17 rfl 0 rfl ?_
    refine g_iconst (v := 1) C dX5_isBehind_18 (by decide) ?_
    obtain ⟨J45, eJ45, hf⟩ := jp_x hf
    have hJ45 : ∀ (k1 : Int32), J45 k1 = some t → G X 0 0 [] [] 45 [.int k1] := by
      intro k1 hf
      have hf := app1 eJ45 hf
      obtain ⟨hz, hf⟩ := zok_x hf
      rw [← Option.some.inj hf] at hret
      exact hret () _ _ hz dX5_isBehind_45
    refine g_icmp_ne C dX5_isBehind_19 (tgt := 35) (by decide) hf (fun hf => ?_) (fun hf => ?_)
    · refine g_iload_n C dX5_isBehind_35 rfl 1 rfl ?_
      refine g_iload_n C dX5_isBehind_36 rfl 3 rfl ?_
      refine g_icmp_ge C dX5_isBehind_37 (tgt := 44) (by decide) hf (fun hf => ?_) (fun hf => ?_)
      · refine g_iconst (v := 0) C dX5_isBehind_44 (by decide) ?_
        exact g_lv [] rfl (hJ45 0 hf)
      · refine g_iconst (v := 1) C dX5_isBehind_40 (by decide) ?_
        refine g_goto C dX5_isBehind_41 (tgt := 45) (by decide) ?_
        exact g_lv [] rfl (hJ45 1 hf)
    · refine g_iload_n C dX5_isBehind_22 rfl 1 rfl ?_
      refine g_iload_n C dX5_isBehind_23 rfl 3 rfl ?_
      refine g_icmp_le C dX5_isBehind_24 (tgt := 31) (by decide) hf (fun hf => ?_) (fun hf => ?_)
      · refine g_iconst (v := 0) C dX5_isBehind_31 (by decide) ?_
        refine g_goto C dX5_isBehind_32 (tgt := 45) (by decide) ?_
        exact g_lv [] rfl (hJ45 0 hf)
      · refine g_iconst (v := 1) C dX5_isBehind_27 (by decide) ?_
        refine g_goto C dX5_isBehind_28 (tgt := 45) (by decide) ?_
        exact g_lv [] rfl (hJ45 1 hf)
  · refine g_iload_n C dX5_isBehind_5 rfl 2 rfl ?_
    refine g_iload C dX5_isBehind_6 4 rfl ?_
    obtain ⟨J16, eJ16, hf⟩ := jp_x hf
    have hJ16 : ∀ (k2 : Int32), J16 k2 = some t → G X 0 0 [] [] 16 [.int k2] := by
      intro k2 hf
      have hf := app1 eJ16 hf
      obtain ⟨hz, hf⟩ := zok_x hf
      rw [← Option.some.inj hf] at hret
      exact hret () _ _ hz dX5_isBehind_16
    refine g_icmp_le C dX5_isBehind_8 (tgt := 15) (by decide) hf (fun hf => ?_) (fun hf => ?_)
    · refine g_iconst (v := 0) C dX5_isBehind_15 (by decide) ?_
      exact g_lv [] rfl (hJ16 0 hf)
    · refine g_iconst (v := 1) C dX5_isBehind_11 (by decide) ?_
      refine g_goto C dX5_isBehind_12 (tgt := 16) (by decide) ?_
      exact g_lv [] rfl (hJ16 1 hf)
