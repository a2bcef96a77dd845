def fX0_kindOf (v_kinds : Nat → Int32) (x0 : Int32) : Option ((Int32)) :=
  (cal1 (fX5_isId x0) (fun r1 => (jp (fun (k3 : Int32) => (some (k3))) (fun J17 => (if r1 = 0 then (J17 0) else (rdI v_kinds 16 x0 (fun z4 => (J17 z4))))))))
theorem inX0_kindOf_0 : ∀ w ∈ wsX00, w ∈ wsX0_kindOf := fun _ h => List.mem_cons_of_mem _ (List.mem_append_right _ h)
set_option maxRecDepth 100000 in
set_option maxHeartbeats 8000000 in
theorem cX0_kindOf_ok (L : XL) (a_this a_kinds a_seqs a_versions a_sources : Nat) (v_kinds : Nat → Int32) (x0 : Int32) {t : (Int32)} (hf : fX0_kindOf v_kinds x0 = some t) : xM L yX0_kindOf wsX0_kindOf ({ frames := 1, cells := 0, slots := 0, locals := 20 }) [.ref a_this, .int x0] [(a_this, .inr (0, [.ref a_kinds, .ref a_seqs, .ref a_versions, .ref a_sources])), (a_kinds, .inl (L.2.2.1, 16, .inl v_kinds))] 0 0 (some (.int t)) (fun _ : Unit => [(a_this, .inr (0, [.ref a_kinds, .ref a_seqs, .ref a_versions, .ref a_sources])), (a_kinds, .inl (L.2.2.1, 16, .inl v_kinds))]) := by
  refine enter_i (own := RX0) (by decide) rfl rfl (Nat.le_of_ble_eq_true rfl) ?_
  intro X hXL C _ hret
  subst hXL
  unfold fX0_kindOf at hf
  show G X 0 0 [(a_this, .inr (0, [.ref a_kinds, .ref a_seqs, .ref a_versions, .ref a_sources])), (a_kinds, .inl (X.1.2.2.1, 16, .inl v_kinds))] [(0, .ref a_this), (1, .int x0)] 0 []
  refine g_iload_n C dX0_kindOf_0 rfl 1 rfl ?_
  obtain ⟨r1, hq2, hf⟩ := cal1_x hf
  refine g_callSN (As := [.int x0]) (rest := []) (st2 := [.int r1]) (n := 1) C (host := RX5) (fun U h => h.2.1) (List.mem_of_getElem? (i := 2) rfl) (List.mem_of_getElem? (i := 3) rfl) (cX5_isId_ok X.1 x0 hq2) gX0_kindOf_X5_isId_n25 rfl rfl rfl (by decide +kernel) (by decide) [] (by decide) rfl [0, 1] (Wr := [(a_this, .inr (0, [.ref a_kinds, .ref a_seqs, .ref a_versions, .ref a_sources])), (a_kinds, .inl (X.1.2.2.1, 16, .inl v_kinds))]) (by decide) rfl (by decide) [0, 1] (by decide) (Wn := fun _ => [(a_this, .inr (0, [.ref a_kinds, .ref a_seqs, .ref a_versions, .ref a_sources])), (a_kinds, .inl (X.1.2.2.1, 16, .inl v_kinds))]) (fun _ => rfl) rfl rfl rfl (Nat.le_of_ble_eq_true rfl) dX0_kindOf_1 ⟨Nat.le_refl _, Nat.le_refl _⟩ (fun _ => ?_)
  obtain ⟨J17, eJ17, hf⟩ := jp_x hf
  have hJ17 : ∀ (k3 : Int32), J17 k3 = some t → G X 0 0 [(a_this, .inr (0, [.ref a_kinds, .ref a_seqs, .ref a_versions, .ref a_sources])), (a_kinds, .inl (X.1.2.2.1, 16, .inl v_kinds))] [] 17 [.int k3] := by
    intro k3 hf
    have hf := app1 eJ17 hf
    rw [← Option.some.inj hf] at hret
    exact hret () _ _ dX0_kindOf_17
  refine g_if_eq C dX0_kindOf_4 (tgt := 16) (by decide) hf (fun hf => ?_) (fun hf => ?_)
  · refine g_iconst (v := 0) C dX0_kindOf_16 (by decide) ?_
    exact g_lv [] rfl (hJ17 0 hf)
  · refine g_aload_n C dX0_kindOf_7 rfl 0 rfl ?_
    refine g_get C inX0_kindOf_0 0 rfl rfl 0 (by decide) (List.mem_of_getElem? (i := 1) rfl) rfl rfl dX0_kindOf_8 ?_
    refine g_iload_n C dX0_kindOf_11 rfl 1 rfl ?_
    refine g_iaload C 1 rfl dX0_kindOf_12 hf (fun z4 hf => ?_)
    refine g_goto C dX0_kindOf_13 (tgt := 17) (by decide) ?_
    exact g_lv [] rfl (hJ17 z4 hf)
def fX0_seqOf (v_seqs : Nat → Int32) (x0 : Int32) : Option ((Int32)) :=
  (cal1 (fX5_isId x0) (fun r1 => (jp (fun (k3 : Int32) => (some (k3))) (fun J17 => (if r1 = 0 then (J17 (-1)) else (rdI v_seqs 16 x0 (fun z4 => (J17 z4))))))))
theorem inX0_seqOf_0 : ∀ w ∈ wsX00, w ∈ wsX0_seqOf := fun _ h => List.mem_cons_of_mem _ (List.mem_append_right _ h)
set_option maxRecDepth 100000 in
set_option maxHeartbeats 8000000 in
theorem cX0_seqOf_ok (L : XL) (a_this a_kinds a_seqs a_versions a_sources : Nat) (v_seqs : Nat → Int32) (x0 : Int32) {t : (Int32)} (hf : fX0_seqOf v_seqs x0 = some t) : xM L yX0_seqOf wsX0_seqOf ({ frames := 1, cells := 0, slots := 0, locals := 20 }) [.ref a_this, .int x0] [(a_this, .inr (0, [.ref a_kinds, .ref a_seqs, .ref a_versions, .ref a_sources])), (a_seqs, .inl (L.2.2.1, 16, .inl v_seqs))] 0 0 (some (.int t)) (fun _ : Unit => [(a_this, .inr (0, [.ref a_kinds, .ref a_seqs, .ref a_versions, .ref a_sources])), (a_seqs, .inl (L.2.2.1, 16, .inl v_seqs))]) := by
  refine enter_i (own := RX0) (by decide) rfl rfl (Nat.le_of_ble_eq_true rfl) ?_
  intro X hXL C _ hret
  subst hXL
  unfold fX0_seqOf at hf
  show G X 0 0 [(a_this, .inr (0, [.ref a_kinds, .ref a_seqs, .ref a_versions, .ref a_sources])), (a_seqs, .inl (X.1.2.2.1, 16, .inl v_seqs))] [(0, .ref a_this), (1, .int x0)] 0 []
  refine g_iload_n C dX0_seqOf_0 rfl 1 rfl ?_
  obtain ⟨r1, hq2, hf⟩ := cal1_x hf
  refine g_callSN (As := [.int x0]) (rest := []) (st2 := [.int r1]) (n := 1) C (host := RX5) (fun U h => h.2.1) (List.mem_of_getElem? (i := 2) rfl) (List.mem_of_getElem? (i := 3) rfl) (cX5_isId_ok X.1 x0 hq2) gX0_seqOf_X5_isId_n25 rfl rfl rfl (by decide +kernel) (by decide) [] (by decide) rfl [0, 1] (Wr := [(a_this, .inr (0, [.ref a_kinds, .ref a_seqs, .ref a_versions, .ref a_sources])), (a_seqs, .inl (X.1.2.2.1, 16, .inl v_seqs))]) (by decide) rfl (by decide) [0, 1] (by decide) (Wn := fun _ => [(a_this, .inr (0, [.ref a_kinds, .ref a_seqs, .ref a_versions, .ref a_sources])), (a_seqs, .inl (X.1.2.2.1, 16, .inl v_seqs))]) (fun _ => rfl) rfl rfl rfl (Nat.le_of_ble_eq_true rfl) dX0_seqOf_1 ⟨Nat.le_refl _, Nat.le_refl _⟩ (fun _ => ?_)
  obtain ⟨J17, eJ17, hf⟩ := jp_x hf
  have hJ17 : ∀ (k3 : Int32), J17 k3 = some t → G X 0 0 [(a_this, .inr (0, [.ref a_kinds, .ref a_seqs, .ref a_versions, .ref a_sources])), (a_seqs, .inl (X.1.2.2.1, 16, .inl v_seqs))] [] 17 [.int k3] := by
    intro k3 hf
    have hf := app1 eJ17 hf
    rw [← Option.some.inj hf] at hret
    exact hret () _ _ dX0_seqOf_17
  refine g_if_eq C dX0_seqOf_4 (tgt := 16) (by decide) hf (fun hf => ?_) (fun hf => ?_)
  · refine g_iconst (v := (-1)) C dX0_seqOf_16 (by decide) ?_
    exact g_lv [] rfl (hJ17 (-1) hf)
  · refine g_aload_n C dX0_seqOf_7 rfl 0 rfl ?_
    refine g_get C inX0_seqOf_0 0 rfl rfl 1 (by decide) (List.mem_of_getElem? (i := 1) rfl) rfl rfl dX0_seqOf_8 ?_
    refine g_iload_n C dX0_seqOf_11 rfl 1 rfl ?_
    refine g_iaload C 1 rfl dX0_seqOf_12 hf (fun z4 hf => ?_)
    refine g_goto C dX0_seqOf_13 (tgt := 17) (by decide) ?_
    exact g_lv [] rfl (hJ17 z4 hf)
def fX0_versionOf (v_versions : Nat → Int32) (x0 : Int32) : Option ((Int32)) :=
  (cal1 (fX5_isId x0) (fun r1 => (jp (fun (k3 : Int32) => (some (k3))) (fun J17 => (if r1 = 0 then (J17 0) else (rdI v_versions 16 x0 (fun z4 => (J17 z4))))))))
theorem inX0_versionOf_0 : ∀ w ∈ wsX00, w ∈ wsX0_versionOf := fun _ h => List.mem_cons_of_mem _ (List.mem_append_right _ h)
set_option maxRecDepth 100000 in
set_option maxHeartbeats 8000000 in
theorem cX0_versionOf_ok (L : XL) (a_this a_kinds a_seqs a_versions a_sources : Nat) (v_versions : Nat → Int32) (x0 : Int32) {t : (Int32)} (hf : fX0_versionOf v_versions x0 = some t) : xM L yX0_versionOf wsX0_versionOf ({ frames := 1, cells := 0, slots := 0, locals := 20 }) [.ref a_this, .int x0] [(a_this, .inr (0, [.ref a_kinds, .ref a_seqs, .ref a_versions, .ref a_sources])), (a_versions, .inl (L.2.2.1, 16, .inl v_versions))] 0 0 (some (.int t)) (fun _ : Unit => [(a_this, .inr (0, [.ref a_kinds, .ref a_seqs, .ref a_versions, .ref a_sources])), (a_versions, .inl (L.2.2.1, 16, .inl v_versions))]) := by
  refine enter_i (own := RX0) (by decide) rfl rfl (Nat.le_of_ble_eq_true rfl) ?_
  intro X hXL C _ hret
  subst hXL
  unfold fX0_versionOf at hf
  show G X 0 0 [(a_this, .inr (0, [.ref a_kinds, .ref a_seqs, .ref a_versions, .ref a_sources])), (a_versions, .inl (X.1.2.2.1, 16, .inl v_versions))] [(0, .ref a_this), (1, .int x0)] 0 []
  refine g_iload_n C dX0_versionOf_0 rfl 1 rfl ?_
  obtain ⟨r1, hq2, hf⟩ := cal1_x hf
  refine g_callSN (As := [.int x0]) (rest := []) (st2 := [.int r1]) (n := 1) C (host := RX5) (fun U h => h.2.1) (List.mem_of_getElem? (i := 2) rfl) (List.mem_of_getElem? (i := 3) rfl) (cX5_isId_ok X.1 x0 hq2) gX0_versionOf_X5_isId_n25 rfl rfl rfl (by decide +kernel) (by decide) [] (by decide) rfl [0, 1] (Wr := [(a_this, .inr (0, [.ref a_kinds, .ref a_seqs, .ref a_versions, .ref a_sources])), (a_versions, .inl (X.1.2.2.1, 16, .inl v_versions))]) (by decide) rfl (by decide) [0, 1] (by decide) (Wn := fun _ => [(a_this, .inr (0, [.ref a_kinds, .ref a_seqs, .ref a_versions, .ref a_sources])), (a_versions, .inl (X.1.2.2.1, 16, .inl v_versions))]) (fun _ => rfl) rfl rfl rfl (Nat.le_of_ble_eq_true rfl) dX0_versionOf_1 ⟨Nat.le_refl _, Nat.le_refl _⟩ (fun _ => ?_)
  obtain ⟨J17, eJ17, hf⟩ := jp_x hf
  have hJ17 : ∀ (k3 : Int32), J17 k3 = some t → G X 0 0 [(a_this, .inr (0, [.ref a_kinds, .ref a_seqs, .ref a_versions, .ref a_sources])), (a_versions, .inl (X.1.2.2.1, 16, .inl v_versions))] [] 17 [.int k3] := by
    intro k3 hf
    have hf := app1 eJ17 hf
    rw [← Option.some.inj hf] at hret
    exact hret () _ _ dX0_versionOf_17
  refine g_if_eq C dX0_versionOf_4 (tgt := 16) (by decide) hf (fun hf => ?_) (fun hf => ?_)
  · refine g_iconst (v := 0) C dX0_versionOf_16 (by decide) ?_
    exact g_lv [] rfl (hJ17 0 hf)
  · refine g_aload_n C dX0_versionOf_7 rfl 0 rfl ?_
    refine g_get C inX0_versionOf_0 0 rfl rfl 2 (by decide) (List.mem_of_getElem? (i := 1) rfl) rfl rfl dX0_versionOf_8 ?_
    refine g_iload_n C dX0_versionOf_11 rfl 1 rfl ?_
    refine g_iaload C 1 rfl dX0_versionOf_12 hf (fun z4 hf => ?_)
    refine g_goto C dX0_versionOf_13 (tgt := 17) (by decide) ?_
    exact g_lv [] rfl (hJ17 z4 hf)
def fX0_sourceOf (v_sources : Nat → Int64) (x0 : Int32) : Option ((Int64)) :=
  (cal1 (fX5_isId x0) (fun r1 => (jp (fun (k3 : Int64) => (some (k3))) (fun J17 => (if r1 = 0 then (J17 0) else (rdJ v_sources 16 x0 (fun z4 => (J17 z4))))))))
theorem inX0_sourceOf_0 : ∀ w ∈ wsX00, w ∈ wsX0_sourceOf := fun _ h => List.mem_cons_of_mem _ (List.mem_append_right _ h)
set_option maxRecDepth 100000 in
set_option maxHeartbeats 8000000 in
theorem cX0_sourceOf_ok (L : XL) (a_this a_kinds a_seqs a_versions a_sources : Nat) (v_sources : Nat → Int64) (x0 : Int32) {t : (Int64)} (hf : fX0_sourceOf v_sources x0 = some t) : xM L yX0_sourceOf wsX0_sourceOf ({ frames := 1, cells := 0, slots := 0, locals := 20 }) [.ref a_this, .int x0] [(a_this, .inr (0, [.ref a_kinds, .ref a_seqs, .ref a_versions, .ref a_sources])), (a_sources, .inl (L.2.2.2.1, 16, .inr (.inl v_sources)))] 0 0 (some (.long t)) (fun _ : Unit => [(a_this, .inr (0, [.ref a_kinds, .ref a_seqs, .ref a_versions, .ref a_sources])), (a_sources, .inl (L.2.2.2.1, 16, .inr (.inl v_sources)))]) := by
  refine enter_l (own := RX0) (by decide) rfl rfl (Nat.le_of_ble_eq_true rfl) ?_
  intro X hXL C _ hret
  subst hXL
  unfold fX0_sourceOf at hf
  show G X 0 0 [(a_this, .inr (0, [.ref a_kinds, .ref a_seqs, .ref a_versions, .ref a_sources])), (a_sources, .inl (X.1.2.2.2.1, 16, .inr (.inl v_sources)))] [(0, .ref a_this), (1, .int x0)] 0 []
  refine g_iload_n C dX0_sourceOf_0 rfl 1 rfl ?_
  obtain ⟨r1, hq2, hf⟩ := cal1_x hf
  refine g_callSN (As := [.int x0]) (rest := []) (st2 := [.int r1]) (n := 1) C (host := RX5) (fun U h => h.2.1) (List.mem_of_getElem? (i := 2) rfl) (List.mem_of_getElem? (i := 3) rfl) (cX5_isId_ok X.1 x0 hq2) gX0_sourceOf_X5_isId_n25 rfl rfl rfl (by decide +kernel) (by decide) [] (by decide) rfl [0, 1] (Wr := [(a_this, .inr (0, [.ref a_kinds, .ref a_seqs, .ref a_versions, .ref a_sources])), (a_sources, .inl (X.1.2.2.2.1, 16, .inr (.inl v_sources)))]) (by decide) rfl (by decide) [0, 1] (by decide) (Wn := fun _ => [(a_this, .inr (0, [.ref a_kinds, .ref a_seqs, .ref a_versions, .ref a_sources])), (a_sources, .inl (X.1.2.2.2.1, 16, .inr (.inl v_sources)))]) (fun _ => rfl) rfl rfl rfl (Nat.le_of_ble_eq_true rfl) dX0_sourceOf_1 ⟨Nat.le_refl _, Nat.le_refl _⟩ (fun _ => ?_)
  obtain ⟨J17, eJ17, hf⟩ := jp_x hf
  have hJ17 : ∀ (k3 : Int64), J17 k3 = some t → G X 0 0 [(a_this, .inr (0, [.ref a_kinds, .ref a_seqs, .ref a_versions, .ref a_sources])), (a_sources, .inl (X.1.2.2.2.1, 16, .inr (.inl v_sources)))] [] 17 [.long k3] := by
    intro k3 hf
    have hf := app1 eJ17 hf
    rw [← Option.some.inj hf] at hret
    exact hret () _ _ dX0_sourceOf_17
  refine g_if_eq C dX0_sourceOf_4 (tgt := 16) (by decide) hf (fun hf => ?_) (fun hf => ?_)
  · refine g_lconst (v := 0) C dX0_sourceOf_16 (by decide) ?_
    exact g_lv [] rfl (hJ17 0 hf)
  · refine g_aload_n C dX0_sourceOf_7 rfl 0 rfl ?_
    refine g_get C inX0_sourceOf_0 0 rfl rfl 3 (by decide) (List.mem_of_getElem? (i := 1) rfl) rfl rfl dX0_sourceOf_8 ?_
    refine g_iload_n C dX0_sourceOf_11 rfl 1 rfl ?_
    refine g_laload C 1 rfl dX0_sourceOf_12 hf (fun z4 hf => ?_)
    refine g_goto C dX0_sourceOf_13 (tgt := 17) (by decide) ?_
    exact g_lv [] rfl (hJ17 z4 hf)
def fX0_isDocument (v_kinds : Nat → Int32) (x0 : Int32) : Option ((Int32)) :=
  (cal1 (fX0_kindOf v_kinds x0) (fun r1 => (jp (fun (k3 : Int32) => (zok k3 (some (k3)))) (fun J14 => (if r1 = 1 then (J14 1) else (J14 0))))))
theorem inX0_isDocument_0 : ∀ w ∈ wsX00, w ∈ wsX0_isDocument := fun _ h => List.mem_cons_of_mem _ (List.mem_append_right _ h)
set_option maxRecDepth 100000 in
set_option maxHeartbeats 8000000 in
theorem cX0_isDocument_ok (L : XL) (a_this a_kinds a_seqs a_versions a_sources : Nat) (v_kinds : Nat → Int32) (x0 : Int32) {t : (Int32)} (hf : fX0_isDocument v_kinds x0 = some t) : xM L yX0_isDocument wsX0_isDocument ({ frames := 2, cells := 0, slots := 0, locals := 41 }) [.ref a_this, .int x0] [(a_this, .inr (0, [.ref a_kinds, .ref a_seqs, .ref a_versions, .ref a_sources])), (a_kinds, .inl (L.2.2.1, 16, .inl v_kinds))] 0 0 (some (.int t)) (fun _ : Unit => [(a_this, .inr (0, [.ref a_kinds, .ref a_seqs, .ref a_versions, .ref a_sources])), (a_kinds, .inl (L.2.2.1, 16, .inl v_kinds))]) := by
  refine enter_z (own := RX0) (by decide) rfl rfl (Nat.le_of_ble_eq_true rfl) ?_
  intro X hXL C _ hret
  subst hXL
  unfold fX0_isDocument at hf
  show G X 0 0 [(a_this, .inr (0, [.ref a_kinds, .ref a_seqs, .ref a_versions, .ref a_sources])), (a_kinds, .inl (X.1.2.2.1, 16, .inl v_kinds))] [(0, .ref a_this), (1, .int x0)] 0 []
  refine g_aload_n C dX0_isDocument_0 rfl 0 rfl ?_
  refine g_iload_n C dX0_isDocument_1 rfl 1 rfl ?_
  obtain ⟨r1, hq2, hf⟩ := cal1_x hf
  refine g_callV (As := [.int x0]) (rest := []) (st2 := [.int r1]) (n := 1) C (cX0_kindOf_ok X.1 a_this a_kinds a_seqs a_versions a_sources v_kinds x0 hq2) gX0_isDocument_X0_kindOf rfl rfl rfl ⟨rfl, by decide +kernel⟩ (by decide) 0 rfl rfl rfl [0, 1] (by decide) rfl [] (Wr := []) (by decide) rfl (by decide) [0, 1] (by decide) (Wn := fun _ => [(a_this, .inr (0, [.ref a_kinds, .ref a_seqs, .ref a_versions, .ref a_sources])), (a_kinds, .inl (X.1.2.2.1, 16, .inl v_kinds))]) (fun _ => rfl) rfl rfl rfl (Nat.le_of_ble_eq_true rfl) dX0_isDocument_2 ⟨Nat.le_refl _, Nat.le_refl _⟩ (fun _ => ?_)
  refine g_iconst (v := 1) C dX0_isDocument_5 (by decide) ?_
  obtain ⟨J14, eJ14, hf⟩ := jp_x hf
  have hJ14 : ∀ (k3 : Int32), J14 k3 = some t → G X 0 0 [(a_this, .inr (0, [.ref a_kinds, .ref a_seqs, .ref a_versions, .ref a_sources])), (a_kinds, .inl (X.1.2.2.1, 16, .inl v_kinds))] [] 14 [.int k3] := by
    intro k3 hf
    have hf := app1 eJ14 hf
    obtain ⟨hz, hf⟩ := zok_x hf
    rw [← Option.some.inj hf] at hret
    exact hret () _ _ hz dX0_isDocument_14
  refine g_icmp_ne C dX0_isDocument_6 (tgt := 13) (by decide) hf (fun hf => ?_) (fun hf => ?_)
  · refine g_iconst (v := 0) C dX0_isDocument_13 (by decide) ?_
    exact g_lv [] rfl (hJ14 0 hf)
  · refine g_iconst (v := 1) C dX0_isDocument_9 (by decide) ?_
    refine g_goto C dX0_isDocument_10 (tgt := 14) (by decide) ?_
    exact g_lv [] rfl (hJ14 1 hf)
def sX0_count_4 (J27 : (Int32) → Option ((Int32))) (v_kinds : Nat → Int32) (R4 : (Int32) → (Int32) → Option ((Int32))) (y2 : Int32) (y3 : Int32) : Option ((Int32)) :=
  (if 16 ≤ y3 then (J27 y2) else (cal1 (fX0_isDocument v_kinds y3) (fun r4 => (jp (fun (y6 : Int32) => (bnd (y3 + 1) (fun z7 => (R4 y6 z7)))) (fun J21 => (if r4 = 0 then (J21 y2) else (bnd (y2 + 1) (fun z8 => (J21 z8)))))))))
def fX0_count (v_kinds : Nat → Int32) : Option ((Int32)) :=
  (jp (fun (y1 : Int32) => (some (y1))) (fun J27 => (lo2 (sX0_count_4 J27 v_kinds) 1000 0 0)))
theorem inX0_count_0 : ∀ w ∈ wsX00, w ∈ wsX0_count := fun _ h => List.mem_cons_of_mem _ (List.mem_append_right _ h)
set_option maxRecDepth 100000 in
set_option maxHeartbeats 8000000 in
theorem cX0_count_ok (L : XL) (a_this a_kinds a_seqs a_versions a_sources : Nat) (v_kinds : Nat → Int32)  {t : (Int32)} (hf : fX0_count v_kinds = some t) : xM L yX0_count wsX0_count ({ frames := 3, cells := 0, slots := 0, locals := 62 }) [.ref a_this] [(a_this, .inr (0, [.ref a_kinds, .ref a_seqs, .ref a_versions, .ref a_sources])), (a_kinds, .inl (L.2.2.1, 16, .inl v_kinds))] 0 0 (some (.int t)) (fun _ : Unit => [(a_this, .inr (0, [.ref a_kinds, .ref a_seqs, .ref a_versions, .ref a_sources])), (a_kinds, .inl (L.2.2.1, 16, .inl v_kinds))]) := by
  refine enter_i (own := RX0) (by decide) rfl rfl (Nat.le_of_ble_eq_true rfl) ?_
  intro X hXL C _ hret
  subst hXL
  unfold fX0_count at hf
  show G X 0 0 [(a_this, .inr (0, [.ref a_kinds, .ref a_seqs, .ref a_versions, .ref a_sources])), (a_kinds, .inl (X.1.2.2.1, 16, .inl v_kinds))] [(0, .ref a_this)] 0 []
  refine g_iconst (v := 0) C dX0_count_0 (by decide) ?_
  refine g_istore_n (lv2 := [(1, .int 0), (0, .ref a_this)]) C dX0_count_1 rfl (by decide) rfl ?_
  refine g_iconst (v := 0) C dX0_count_2 (by decide) ?_
  refine g_istore_n (lv2 := [(2, .int 0), (1, .int 0), (0, .ref a_this)]) C dX0_count_3 rfl (by decide) rfl ?_
  obtain ⟨J27, eJ27, hf⟩ := jp_x hf
  have hJ27 : ∀ (y1 : Int32), J27 y1 = some t → G X 0 0 [(a_this, .inr (0, [.ref a_kinds, .ref a_seqs, .ref a_versions, .ref a_sources])), (a_kinds, .inl (X.1.2.2.1, 16, .inl v_kinds))] [(1, .int y1)] 27 [] := by
    intro y1 hf
    have hf := app1 eJ27 hf
    refine g_iload_n C dX0_count_27 rfl 0 rfl ?_
    rw [← Option.some.inj hf] at hret
    exact hret () _ _ dX0_count_28
  have hL4 : ∀ (n : Nat) (y2 : Int32) (y3 : Int32), lo2 (sX0_count_4 J27 v_kinds) n y2 y3 = some t → G X 0 0 [(a_this, .inr (0, [.ref a_kinds, .ref a_seqs, .ref a_versions, .ref a_sources])), (a_kinds, .inl (X.1.2.2.1, 16, .inl v_kinds))] [(0, .ref a_this), (1, .int y2), (2, .int y3)] 4 [] := by
    intro n
    induction n with
    | zero => intro y2 y3 hf; exact (lo2_z hf).elim
    | succ n ih4 =>
      intro y2 y3 hf
      obtain ⟨R4, eR4, hf⟩ := lo2_x hf
      unfold sX0_count_4 at hf
      refine g_iload_n C dX0_count_4 rfl 2 rfl ?_
      refine g_bipush (v := 16) C dX0_count_5 (by decide) ?_
      refine g_icmp_ge C dX0_count_7 (tgt := 27) (by decide) hf (fun hf => ?_) (fun hf => ?_)
      · exact g_lv [1] rfl (hJ27 y2 hf)
      · refine g_aload_n C dX0_count_10 rfl 0 rfl ?_
        refine g_iload_n C dX0_count_11 rfl 2 rfl ?_
        obtain ⟨r4, hq5, hf⟩ := cal1_x hf
        refine g_callV (As := [.int y3]) (rest := []) (st2 := [.int r4]) (n := 1) C (cX0_isDocument_ok X.1 a_this a_kinds a_seqs a_versions a_sources v_kinds y3 hq5) gX0_count_X0_isDocument rfl rfl rfl ⟨rfl, by decide +kernel⟩ (by decide) 0 rfl rfl rfl [0, 1] (by decide) rfl [] (Wr := []) (by decide) rfl (by decide) [0, 1] (by decide) (Wn := fun _ => [(a_this, .inr (0, [.ref a_kinds, .ref a_seqs, .ref a_versions, .ref a_sources])), (a_kinds, .inl (X.1.2.2.1, 16, .inl v_kinds))]) (fun _ => rfl) rfl rfl rfl (Nat.le_of_ble_eq_true rfl) dX0_count_12 ⟨Nat.le_refl _, Nat.le_refl _⟩ (fun _ => ?_)
        obtain ⟨J21, eJ21, hf⟩ := jp_x hf
        have hJ21 : ∀ (y6 : Int32), J21 y6 = some t → G X 0 0 [(a_this, .inr (0, [.ref a_kinds, .ref a_seqs, .ref a_versions, .ref a_sources])), (a_kinds, .inl (X.1.2.2.1, 16, .inl v_kinds))] [(0, .ref a_this), (1, .int y6), (2, .int y3)] 21 [] := by
          intro y6 hf
          have hf := app1 eJ21 hf
          refine g_iinc (v := 1) (lv2 := fun z7 => [(2, .int z7), (0, .ref a_this), (1, .int y6)]) C dX0_count_21 2 rfl (by decide) (by decide) hf (fun _ => rfl) (fun z7 hf => ?_)
          refine g_goto C dX0_count_24 (tgt := 4) (by decide) ?_
          exact g_lv [1, 2, 0] rfl (ih4 y6 z7 (app2 eR4 hf))
        refine g_if_eq C dX0_count_15 (tgt := 21) (by decide) hf (fun hf => ?_) (fun hf => ?_)
        · exact hJ21 y2 hf
        · refine g_iinc (v := 1) (lv2 := fun z8 => [(1, .int z8), (0, .ref a_this), (2, .int y3)]) C dX0_count_18 1 rfl (by decide) (by decide) hf (fun _ => rfl) (fun z8 hf => ?_)
          exact g_lv [1, 0, 2] rfl (hJ21 z8 hf)
  exact g_lv [2, 1, 0] rfl (hL4 _ 0 0 hf)
def fX0_learn (v_kinds : Nat → Int32) (v_seqs : Nat → Int32) (v_versions : Nat → Int32) (v_sources : Nat → Int64) (v_p0_kind : Int32) (v_p0_seq : Int32) (v_p0_id : Int32) (v_p0_version : Int32) (v_p0_source : Int64) : Option ((Int32) × (Nat → Int32) × (Nat → Int32) × (Nat → Int32) × (Nat → Int64)) :=
  (jp (some (0, v_kinds, v_seqs, v_versions, v_sources)) (fun J33 => (if v_p0_kind = 3 then J33 else (cal1 (fX5_isId v_p0_id) (fun r1 => (if r1 = 0 then J33 else (rdI v_seqs 16 v_p0_id (fun z3 => (if z3 < v_p0_seq then (wrI v_kinds 16 v_p0_id v_p0_kind (fun g4 => (wrI v_seqs 16 v_p0_id v_p0_seq (fun g5 => (wrI v_versions 16 v_p0_id v_p0_version (fun g6 => (jp (fun (k7 : Int64) => (wrJ v_sources 16 v_p0_id k7 (fun g8 => (some (1, g4, g5, g6, g8))))) (fun J86 => (if v_p0_kind = 1 then (J86 v_p0_source) else (J86 0)))))))))) else J33)))))))))
theorem inX0_learn_0 : ∀ w ∈ wsX00, w ∈ wsX0_learn := fun _ h => List.mem_cons_of_mem _ (List.mem_append_right _ h)
theorem inX0_learn_3 : ∀ w ∈ wsX30, w ∈ wsX0_learn := fun _ h => List.mem_cons_of_mem _ (List.mem_append_left _ (List.mem_append_right _ h))
set_option maxRecDepth 100000 in
set_option maxHeartbeats 8000000 in
theorem cX0_learn_ok (L : XL) (a_this a_kinds a_seqs a_versions a_sources a_p0 : Nat) (v_kinds : Nat → Int32) (v_seqs : Nat → Int32) (v_versions : Nat → Int32) (v_sources : Nat → Int64) (v_p0_kind : Int32) (v_p0_seq : Int32) (v_p0_id : Int32) (v_p0_version : Int32) (v_p0_source : Int64)  {t : (Int32) × (Nat → Int32) × (Nat → Int32) × (Nat → Int32) × (Nat → Int64)} (hf : fX0_learn v_kinds v_seqs v_versions v_sources v_p0_kind v_p0_seq v_p0_id v_p0_version v_p0_source = some t) : xM L yX0_learn wsX0_learn ({ frames := 1, cells := 0, slots := 0, locals := 20 }) [.ref a_this, .ref a_p0] [(a_this, .inr (0, [.ref a_kinds, .ref a_seqs, .ref a_versions, .ref a_sources])), (a_kinds, .inl (L.2.2.1, 16, .inl v_kinds)), (a_seqs, .inl (L.2.2.1, 16, .inl v_seqs)), (a_versions, .inl (L.2.2.1, 16, .inl v_versions)), (a_sources, .inl (L.2.2.2.1, 16, .inr (.inl v_sources))), (a_p0, .inr (3, [.int v_p0_kind, .int v_p0_seq, .int v_p0_id, .int v_p0_version, .long v_p0_source]))] 0 0 (some (.int t.1)) (fun _ : Unit => [(a_this, .inr (0, [.ref a_kinds, .ref a_seqs, .ref a_versions, .ref a_sources])), (a_kinds, .inl (L.2.2.1, 16, .inl t.2.1)), (a_seqs, .inl (L.2.2.1, 16, .inl t.2.2.1)), (a_versions, .inl (L.2.2.1, 16, .inl t.2.2.2.1)), (a_sources, .inl (L.2.2.2.1, 16, .inr (.inl t.2.2.2.2))), (a_p0, .inr (3, [.int v_p0_kind, .int v_p0_seq, .int v_p0_id, .int v_p0_version, .long v_p0_source]))]) := by
  refine enter_z (own := RX0) (by decide) rfl rfl (Nat.le_of_ble_eq_true rfl) ?_
  intro X hXL C _ hret
  subst hXL
  unfold fX0_learn at hf
  show G X 0 0 [(a_this, .inr (0, [.ref a_kinds, .ref a_seqs, .ref a_versions, .ref a_sources])), (a_kinds, .inl (X.1.2.2.1, 16, .inl v_kinds)), (a_seqs, .inl (X.1.2.2.1, 16, .inl v_seqs)), (a_versions, .inl (X.1.2.2.1, 16, .inl v_versions)), (a_sources, .inl (X.1.2.2.2.1, 16, .inr (.inl v_sources))), (a_p0, .inr (3, [.int v_p0_kind, .int v_p0_seq, .int v_p0_id, .int v_p0_version, .long v_p0_source]))] [(0, .ref a_this), (1, .ref a_p0)] 0 []
  refine g_aload_n C dX0_learn_0 rfl 1 rfl ?_
  refine g_get C inX0_learn_3 5 rfl rfl 2 (by decide) (List.mem_of_getElem? (i := 1) rfl) rfl rfl dX0_learn_1 ?_
  refine g_istore_n (lv2 := [(2, .int v_p0_id), (0, .ref a_this), (1, .ref a_p0)]) C dX0_learn_4 rfl (by decide) rfl ?_
  refine g_aload_n C dX0_learn_5 rfl 2 rfl ?_
  refine g_get C inX0_learn_3 5 rfl rfl 0 (by decide) (List.mem_of_getElem? (i := 2) rfl) rfl rfl dX0_learn_6 ?_
  refine g_iconst (v := 3) C dX0_learn_9 (by decide) ?_
  obtain ⟨J33, eJ33, hf⟩ := jp_x hf
  have hJ33 : J33 = some t → G X 0 0 [(a_this, .inr (0, [.ref a_kinds, .ref a_seqs, .ref a_versions, .ref a_sources])), (a_kinds, .inl (X.1.2.2.1, 16, .inl v_kinds)), (a_seqs, .inl (X.1.2.2.1, 16, .inl v_seqs)), (a_versions, .inl (X.1.2.2.1, 16, .inl v_versions)), (a_sources, .inl (X.1.2.2.2.1, 16, .inr (.inl v_sources))), (a_p0, .inr (3, [.int v_p0_kind, .int v_p0_seq, .int v_p0_id, .int v_p0_version, .long v_p0_source]))] [] 33 [] := by
    intro  hf
    have hf := app0 eJ33 hf
    refine g_iconst (v := 0) C dX0_learn_33 (by decide) ?_
    rw [← Option.some.inj hf] at hret
    exact hret () _ _ (show narrow .boolean (.int (0 : Int32)) = .int 0 from rfl) dX0_learn_34
  refine g_icmp_eq C dX0_learn_10 (tgt := 33) (by decide) hf (fun hf => ?_) (fun hf => ?_)
  · exact g_lv [] rfl (hJ33 hf)
  · refine g_iload_n C dX0_learn_13 rfl 0 rfl ?_
    obtain ⟨r1, hq2, hf⟩ := cal1_x hf
    refine g_callSN (As := [.int v_p0_id]) (rest := []) (st2 := [.int r1]) (n := 1) C (host := RX5) (fun U h => h.2.1) (List.mem_of_getElem? (i := 10) rfl) (List.mem_of_getElem? (i := 11) rfl) (cX5_isId_ok X.1 v_p0_id hq2) gX0_learn_X5_isId_n25 rfl rfl rfl (by decide +kernel) (by decide) [] (by decide) rfl [0, 1, 2, 3, 4, 5] (Wr := [(a_this, .inr (0, [.ref a_kinds, .ref a_seqs, .ref a_versions, .ref a_sources])), (a_kinds, .inl (X.1.2.2.1, 16, .inl v_kinds)), (a_seqs, .inl (X.1.2.2.1, 16, .inl v_seqs)), (a_versions, .inl (X.1.2.2.1, 16, .inl v_versions)), (a_sources, .inl (X.1.2.2.2.1, 16, .inr (.inl v_sources))), (a_p0, .inr (3, [.int v_p0_kind, .int v_p0_seq, .int v_p0_id, .int v_p0_version, .long v_p0_source]))]) (by decide) rfl (by decide) [0, 1, 2, 3, 4, 5] (by decide) (Wn := fun _ => [(a_this, .inr (0, [.ref a_kinds, .ref a_seqs, .ref a_versions, .ref a_sources])), (a_kinds, .inl (X.1.2.2.1, 16, .inl v_kinds)), (a_seqs, .inl (X.1.2.2.1, 16, .inl v_seqs)), (a_versions, .inl (X.1.2.2.1, 16, .inl v_versions)), (a_sources, .inl (X.1.2.2.2.1, 16, .inr (.inl v_sources))), (a_p0, .inr (3, [.int v_p0_kind, .int v_p0_seq, .int v_p0_id, .int v_p0_version, .long v_p0_source]))]) (fun _ => rfl) rfl rfl rfl (Nat.le_of_ble_eq_true rfl) dX0_learn_14 ⟨Nat.le_refl _, Nat.le_refl _⟩ (fun _ => ?_)
    refine g_if_eq C dX0_learn_17 (tgt := 33) (by decide) hf (fun hf => ?_) (fun hf => ?_)
    · exact g_lv [] rfl (hJ33 hf)
    · refine g_aload_n C dX0_learn_20 rfl 2 rfl ?_
      refine g_get C inX0_learn_3 5 rfl rfl 1 (by decide) (List.mem_of_getElem? (i := 3) rfl) rfl rfl dX0_learn_21 ?_
      refine g_aload_n C dX0_learn_24 rfl 1 rfl ?_
      refine g_get C inX0_learn_0 0 rfl rfl 1 (by decide) (List.mem_of_getElem? (i := 4) rfl) rfl rfl dX0_learn_25 ?_
      refine g_iload_n C dX0_learn_28 rfl 0 rfl ?_
      refine g_iaload C 2 rfl dX0_learn_29 hf (fun z3 hf => ?_)
      refine g_icmp_gt C dX0_learn_30 (tgt := 35) (by decide) hf (fun hf => ?_) (fun hf => ?_)
      · refine g_aload_n C dX0_learn_35 rfl 1 rfl ?_
        refine g_get C inX0_learn_0 0 rfl rfl 0 (by decide) (List.mem_of_getElem? (i := 5) rfl) rfl rfl dX0_learn_36 ?_
        refine g_iload_n C dX0_learn_39 rfl 0 rfl ?_
        refine g_aload_n C dX0_learn_40 rfl 2 rfl ?_
        refine g_get C inX0_learn_3 5 rfl rfl 0 (by decide) (List.mem_of_getElem? (i := 2) rfl) rfl rfl dX0_learn_41 ?_
        refine g_iastore (Wd2 := fun g4 => [(a_this, .inr (0, [.ref a_kinds, .ref a_seqs, .ref a_versions, .ref a_sources])), (a_kinds, .inl (X.1.2.2.1, 16, .inl g4)), (a_seqs, .inl (X.1.2.2.1, 16, .inl v_seqs)), (a_versions, .inl (X.1.2.2.1, 16, .inl v_versions)), (a_sources, .inl (X.1.2.2.2.1, 16, .inr (.inl v_sources))), (a_p0, .inr (3, [.int v_p0_kind, .int v_p0_seq, .int v_p0_id, .int v_p0_version, .long v_p0_source]))]) C 1 rfl dX0_learn_44 hf (fun _ => rfl) (fun g4 hf => ?_)
        refine g_aload_n C dX0_learn_45 rfl 1 rfl ?_
        refine g_get C inX0_learn_0 0 rfl rfl 1 (by decide) (List.mem_of_getElem? (i := 4) rfl) rfl rfl dX0_learn_46 ?_
        refine g_iload_n C dX0_learn_49 rfl 0 rfl ?_
        refine g_aload_n C dX0_learn_50 rfl 2 rfl ?_
        refine g_get C inX0_learn_3 5 rfl rfl 1 (by decide) (List.mem_of_getElem? (i := 3) rfl) rfl rfl dX0_learn_51 ?_
        refine g_iastore (Wd2 := fun g5 => [(a_this, .inr (0, [.ref a_kinds, .ref a_seqs, .ref a_versions, .ref a_sources])), (a_kinds, .inl (X.1.2.2.1, 16, .inl g4)), (a_seqs, .inl (X.1.2.2.1, 16, .inl g5)), (a_versions, .inl (X.1.2.2.1, 16, .inl v_versions)), (a_sources, .inl (X.1.2.2.2.1, 16, .inr (.inl v_sources))), (a_p0, .inr (3, [.int v_p0_kind, .int v_p0_seq, .int v_p0_id, .int v_p0_version, .long v_p0_source]))]) C 2 rfl dX0_learn_54 hf (fun _ => rfl) (fun g5 hf => ?_)
        refine g_aload_n C dX0_learn_55 rfl 1 rfl ?_
        refine g_get C inX0_learn_0 0 rfl rfl 2 (by decide) (List.mem_of_getElem? (i := 6) rfl) rfl rfl dX0_learn_56 ?_
        refine g_iload_n C dX0_learn_59 rfl 0 rfl ?_
        refine g_aload_n C dX0_learn_60 rfl 2 rfl ?_
        refine g_get C inX0_learn_3 5 rfl rfl 3 (by decide) (List.mem_of_getElem? (i := 7) rfl) rfl rfl dX0_learn_61 ?_
        refine g_iastore (Wd2 := fun g6 => [(a_this, .inr (0, [.ref a_kinds, .ref a_seqs, .ref a_versions, .ref a_sources])), (a_kinds, .inl (X.1.2.2.1, 16, .inl g4)), (a_seqs, .inl (X.1.2.2.1, 16, .inl g5)), (a_versions, .inl (X.1.2.2.1, 16, .inl g6)), (a_sources, .inl (X.1.2.2.2.1, 16, .inr (.inl v_sources))), (a_p0, .inr (3, [.int v_p0_kind, .int v_p0_seq, .int v_p0_id, .int v_p0_version, .long v_p0_source]))]) C 3 rfl dX0_learn_64 hf (fun _ => rfl) (fun g6 hf => ?_)
        refine g_aload_n C dX0_learn_65 rfl 1 rfl ?_
        refine g_get C inX0_learn_0 0 rfl rfl 3 (by decide) (List.mem_of_getElem? (i := 8) rfl) rfl rfl dX0_learn_66 ?_
        refine g_iload_n C dX0_learn_69 rfl 0 rfl ?_
        refine g_aload_n C dX0_learn_70 rfl 2 rfl ?_
        refine g_get C inX0_learn_3 5 rfl rfl 0 (by decide) (List.mem_of_getElem? (i := 2) rfl) rfl rfl dX0_learn_71 ?_
        refine g_iconst (v := 1) C dX0_learn_74 (by decide) ?_
        obtain ⟨J86, eJ86, hf⟩ := jp_x hf
        have hJ86 : ∀ (k7 : Int64), J86 k7 = some t → G X 0 0 [(a_this, .inr (0, [.ref a_kinds, .ref a_seqs, .ref a_versions, .ref a_sources])), (a_kinds, .inl (X.1.2.2.1, 16, .inl g4)), (a_seqs, .inl (X.1.2.2.1, 16, .inl g5)), (a_versions, .inl (X.1.2.2.1, 16, .inl g6)), (a_sources, .inl (X.1.2.2.2.1, 16, .inr (.inl v_sources))), (a_p0, .inr (3, [.int v_p0_kind, .int v_p0_seq, .int v_p0_id, .int v_p0_version, .long v_p0_source]))] [] 86 [.long k7, .int v_p0_id, .ref a_sources] := by
          intro k7 hf
          have hf := app1 eJ86 hf
          refine g_lastore (Wd2 := fun g8 => [(a_this, .inr (0, [.ref a_kinds, .ref a_seqs, .ref a_versions, .ref a_sources])), (a_kinds, .inl (X.1.2.2.1, 16, .inl g4)), (a_seqs, .inl (X.1.2.2.1, 16, .inl g5)), (a_versions, .inl (X.1.2.2.1, 16, .inl g6)), (a_sources, .inl (X.1.2.2.2.1, 16, .inr (.inl g8))), (a_p0, .inr (3, [.int v_p0_kind, .int v_p0_seq, .int v_p0_id, .int v_p0_version, .long v_p0_source]))]) C 4 rfl dX0_learn_86 hf (fun _ => rfl) (fun g8 hf => ?_)
          refine g_iconst (v := 1) C dX0_learn_87 (by decide) ?_
          rw [← Option.some.inj hf] at hret
          exact hret () _ _ (show narrow .boolean (.int (1 : Int32)) = .int 1 from rfl) dX0_learn_88
        refine g_icmp_ne C dX0_learn_75 (tgt := 85) (by decide) hf (fun hf => ?_) (fun hf => ?_)
        · refine g_lconst (v := 0) C dX0_learn_85 (by decide) ?_
          exact g_lv [] rfl (hJ86 0 hf)
        · refine g_aload_n C dX0_learn_78 rfl 2 rfl ?_
          refine g_get C inX0_learn_3 5 rfl rfl 4 (by decide) (List.mem_of_getElem? (i := 9) rfl) rfl rfl dX0_learn_79 ?_
          refine g_goto C dX0_learn_82 (tgt := 86) (by decide) ?_
          exact g_lv [] rfl (hJ86 v_p0_source hf)
      · exact g_lv [] rfl (hJ33 hf)
def sX0_forgetTombstones_2 (J55 : (Nat → Int32) → (Nat → Int32) → (Nat → Int32) → Option ((Nat → Int32) × (Nat → Int32) × (Nat → Int32))) (x0 : Int32) (R2 : (Int32) → (Nat → Int32) → (Nat → Int32) → (Nat → Int32) → Option ((Nat → Int32) × (Nat → Int32) × (Nat → Int32))) (y4 : Int32) (w5 : Nat → Int32) (w6 : Nat → Int32) (w7 : Nat → Int32) : Option ((Nat → Int32) × (Nat → Int32) × (Nat → Int32)) :=
  (if 16 ≤ y4 then (J55 w5 w6 w7) else (rdI w5 16 y4 (fun z8 => (jp (fun (w9 : Nat → Int32) (w10 : Nat → Int32) (w11 : Nat → Int32) => (bnd (y4 + 1) (fun z12 => (R2 z12 w9 w10 w11)))) (fun J49 => (if z8 = 2 then (rdI w6 16 y4 (fun z13 => (if x0 < z13 then (J49 w5 w6 w7) else (wrI w5 16 y4 0 (fun g14 => (wrI w6 16 y4 (-1) (fun g15 => (wrI w7 16 y4 0 (fun g16 => (J49 g14 g15 g16)))))))))) else (J49 w5 w6 w7)))))))
def fX0_forgetTombstones (v_kinds : Nat → Int32) (v_seqs : Nat → Int32) (v_versions : Nat → Int32) (x0 : Int32) : Option ((Nat → Int32) × (Nat → Int32) × (Nat → Int32)) :=
  (jp (fun (w1 : Nat → Int32) (w2 : Nat → Int32) (w3 : Nat → Int32) => (some (w1, w2, w3))) (fun J55 => (lo4 (sX0_forgetTombstones_2 J55 x0) 1000 0 v_kinds v_seqs v_versions)))
theorem inX0_forgetTombstones_0 : ∀ w ∈ wsX00, w ∈ wsX0_forgetTombstones := fun _ h => List.mem_cons_of_mem _ (List.mem_append_right _ h)
set_option maxRecDepth 100000 in
set_option maxHeartbeats 8000000 in
theorem cX0_forgetTombstones_ok (L : XL) (a_this a_kinds a_seqs a_versions a_sources : Nat) (v_kinds : Nat → Int32) (v_seqs : Nat → Int32) (v_versions : Nat → Int32) (x0 : Int32) {t : (Nat → Int32) × (Nat → Int32) × (Nat → Int32)} (hf : fX0_forgetTombstones v_kinds v_seqs v_versions x0 = some t) : xM L yX0_forgetTombstones wsX0_forgetTombstones ({ frames := 0, cells := 0, slots := 0, locals := 0 }) [.ref a_this, .int x0] [(a_this, .inr (0, [.ref a_kinds, .ref a_seqs, .ref a_versions, .ref a_sources])), (a_kinds, .inl (L.2.2.1, 16, .inl v_kinds)), (a_seqs, .inl (L.2.2.1, 16, .inl v_seqs)), (a_versions, .inl (L.2.2.1, 16, .inl v_versions))] 0 0 none (fun _ : Unit => [(a_this, .inr (0, [.ref a_kinds, .ref a_seqs, .ref a_versions, .ref a_sources])), (a_kinds, .inl (L.2.2.1, 16, .inl t.1)), (a_seqs, .inl (L.2.2.1, 16, .inl t.2.1)), (a_versions, .inl (L.2.2.1, 16, .inl t.2.2))]) := by
  refine enter_v (own := RX0) (by decide) rfl rfl (Nat.le_of_ble_eq_true rfl) ?_
  intro X hXL C _ hret
  subst hXL
  unfold fX0_forgetTombstones at hf
  show G X 0 0 [(a_this, .inr (0, [.ref a_kinds, .ref a_seqs, .ref a_versions, .ref a_sources])), (a_kinds, .inl (X.1.2.2.1, 16, .inl v_kinds)), (a_seqs, .inl (X.1.2.2.1, 16, .inl v_seqs)), (a_versions, .inl (X.1.2.2.1, 16, .inl v_versions))] [(0, .ref a_this), (1, .int x0)] 0 []
  refine g_iconst (v := 0) C dX0_forgetTombstones_0 (by decide) ?_
  refine g_istore_n (lv2 := [(2, .int 0), (0, .ref a_this), (1, .int x0)]) C dX0_forgetTombstones_1 rfl (by decide) rfl ?_
  obtain ⟨J55, eJ55, hf⟩ := jp_x hf
  have hJ55 : ∀ (w1 : Nat → Int32) (w2 : Nat → Int32) (w3 : Nat → Int32), J55 w1 w2 w3 = some t → G X 0 0 [(a_this, .inr (0, [.ref a_kinds, .ref a_seqs, .ref a_versions, .ref a_sources])), (a_kinds, .inl (X.1.2.2.1, 16, .inl w1)), (a_seqs, .inl (X.1.2.2.1, 16, .inl w2)), (a_versions, .inl (X.1.2.2.1, 16, .inl w3))] [] 55 [] := by
    intro w1 w2 w3 hf
    have hf := app3 eJ55 hf
    rw [← Option.some.inj hf] at hret
    exact hret () _ _ dX0_forgetTombstones_55
  have hL2 : ∀ (n : Nat) (y4 : Int32) (w5 : Nat → Int32) (w6 : Nat → Int32) (w7 : Nat → Int32), lo4 (sX0_forgetTombstones_2 J55 x0) n y4 w5 w6 w7 = some t → G X 0 0 [(a_this, .inr (0, [.ref a_kinds, .ref a_seqs, .ref a_versions, .ref a_sources])), (a_kinds, .inl (X.1.2.2.1, 16, .inl w5)), (a_seqs, .inl (X.1.2.2.1, 16, .inl w6)), (a_versions, .inl (X.1.2.2.1, 16, .inl w7))] [(0, .ref a_this), (1, .int x0), (2, .int y4)] 2 [] := by
    intro n
    induction n with
    | zero => intro y4 w5 w6 w7 hf; exact (lo4_z hf).elim
    | succ n ih2 =>
      intro y4 w5 w6 w7 hf
      obtain ⟨R2, eR2, hf⟩ := lo4_x hf
      unfold sX0_forgetTombstones_2 at hf
      refine g_iload_n C dX0_forgetTombstones_2 rfl 2 rfl ?_
      refine g_bipush (v := 16) C dX0_forgetTombstones_3 (by decide) ?_
      refine g_icmp_ge C dX0_forgetTombstones_5 (tgt := 55) (by decide) hf (fun hf => ?_) (fun hf => ?_)
      · exact g_lv [] rfl (hJ55 w5 w6 w7 hf)
      · refine g_aload_n C dX0_forgetTombstones_8 rfl 0 rfl ?_
        refine g_get C inX0_forgetTombstones_0 0 rfl rfl 0 (by decide) (List.mem_of_getElem? (i := 1) rfl) rfl rfl dX0_forgetTombstones_9 ?_
        refine g_iload_n C dX0_forgetTombstones_12 rfl 2 rfl ?_
        refine g_iaload C 1 rfl dX0_forgetTombstones_13 hf (fun z8 hf => ?_)
        refine g_iconst (v := 2) C dX0_forgetTombstones_14 (by decide) ?_
        obtain ⟨J49, eJ49, hf⟩ := jp_x hf
        have hJ49 : ∀ (w9 : Nat → Int32) (w10 : Nat → Int32) (w11 : Nat → Int32), J49 w9 w10 w11 = some t → G X 0 0 [(a_this, .inr (0, [.ref a_kinds, .ref a_seqs, .ref a_versions, .ref a_sources])), (a_kinds, .inl (X.1.2.2.1, 16, .inl w9)), (a_seqs, .inl (X.1.2.2.1, 16, .inl w10)), (a_versions, .inl (X.1.2.2.1, 16, .inl w11))] [(0, .ref a_this), (1, .int x0), (2, .int y4)] 49 [] := by
          intro w9 w10 w11 hf
          have hf := app3 eJ49 hf
          refine g_iinc (v := 1) (lv2 := fun z12 => [(2, .int z12), (0, .ref a_this), (1, .int x0)]) C dX0_forgetTombstones_49 2 rfl (by decide) (by decide) hf (fun _ => rfl) (fun z12 hf => ?_)
          refine g_goto C dX0_forgetTombstones_52 (tgt := 2) (by decide) ?_
          exact g_lv [1, 2, 0] rfl (ih2 z12 w9 w10 w11 (app4 eR2 hf))
        refine g_icmp_ne C dX0_forgetTombstones_15 (tgt := 49) (by decide) hf (fun hf => ?_) (fun hf => ?_)
        · exact hJ49 w5 w6 w7 hf
        · refine g_aload_n C dX0_forgetTombstones_18 rfl 0 rfl ?_
          refine g_get C inX0_forgetTombstones_0 0 rfl rfl 1 (by decide) (List.mem_of_getElem? (i := 2) rfl) rfl rfl dX0_forgetTombstones_19 ?_
          refine g_iload_n C dX0_forgetTombstones_22 rfl 2 rfl ?_
          refine g_iaload C 2 rfl dX0_forgetTombstones_23 hf (fun z13 hf => ?_)
          refine g_iload_n C dX0_forgetTombstones_24 rfl 1 rfl ?_
          refine g_icmp_gt C dX0_forgetTombstones_25 (tgt := 49) (by decide) hf (fun hf => ?_) (fun hf => ?_)
          · exact hJ49 w5 w6 w7 hf
          · refine g_aload_n C dX0_forgetTombstones_28 rfl 0 rfl ?_
            refine g_get C inX0_forgetTombstones_0 0 rfl rfl 0 (by decide) (List.mem_of_getElem? (i := 1) rfl) rfl rfl dX0_forgetTombstones_29 ?_
            refine g_iload_n C dX0_forgetTombstones_32 rfl 2 rfl ?_
            refine g_iconst (v := 0) C dX0_forgetTombstones_33 (by decide) ?_
            refine g_iastore (Wd2 := fun g14 => [(a_this, .inr (0, [.ref a_kinds, .ref a_seqs, .ref a_versions, .ref a_sources])), (a_kinds, .inl (X.1.2.2.1, 16, .inl g14)), (a_seqs, .inl (X.1.2.2.1, 16, .inl w6)), (a_versions, .inl (X.1.2.2.1, 16, .inl w7))]) C 1 rfl dX0_forgetTombstones_34 hf (fun _ => rfl) (fun g14 hf => ?_)
            refine g_aload_n C dX0_forgetTombstones_35 rfl 0 rfl ?_
            refine g_get C inX0_forgetTombstones_0 0 rfl rfl 1 (by decide) (List.mem_of_getElem? (i := 2) rfl) rfl rfl dX0_forgetTombstones_36 ?_
            refine g_iload_n C dX0_forgetTombstones_39 rfl 2 rfl ?_
            refine g_iconst (v := (-1)) C dX0_forgetTombstones_40 (by decide) ?_
            refine g_iastore (Wd2 := fun g15 => [(a_this, .inr (0, [.ref a_kinds, .ref a_seqs, .ref a_versions, .ref a_sources])), (a_kinds, .inl (X.1.2.2.1, 16, .inl g14)), (a_seqs, .inl (X.1.2.2.1, 16, .inl g15)), (a_versions, .inl (X.1.2.2.1, 16, .inl w7))]) C 2 rfl dX0_forgetTombstones_41 hf (fun _ => rfl) (fun g15 hf => ?_)
            refine g_aload_n C dX0_forgetTombstones_42 rfl 0 rfl ?_
            refine g_get C inX0_forgetTombstones_0 0 rfl rfl 2 (by decide) (List.mem_of_getElem? (i := 3) rfl) rfl rfl dX0_forgetTombstones_43 ?_
            refine g_iload_n C dX0_forgetTombstones_46 rfl 2 rfl ?_
            refine g_iconst (v := 0) C dX0_forgetTombstones_47 (by decide) ?_
            refine g_iastore (Wd2 := fun g16 => [(a_this, .inr (0, [.ref a_kinds, .ref a_seqs, .ref a_versions, .ref a_sources])), (a_kinds, .inl (X.1.2.2.1, 16, .inl g14)), (a_seqs, .inl (X.1.2.2.1, 16, .inl g15)), (a_versions, .inl (X.1.2.2.1, 16, .inl g16))]) C 3 rfl dX0_forgetTombstones_48 hf (fun _ => rfl) (fun g16 hf => ?_)
            exact hJ49 g14 g15 g16 hf
  exact g_lv [1, 2, 0] rfl (hL2 _ 0 v_kinds v_seqs v_versions hf)
def sX0_copyFrom_2 (J62 : (Nat → Int32) → (Nat → Int32) → (Nat → Int32) → (Nat → Int64) → Option ((Nat → Int32) × (Nat → Int32) × (Nat → Int32) × (Nat → Int64))) (v_p0_kinds : Nat → Int32) (v_p0_seqs : Nat → Int32) (v_p0_versions : Nat → Int32) (v_p0_sources : Nat → Int64) (R2 : (Int32) → (Nat → Int32) → (Nat → Int32) → (Nat → Int32) → (Nat → Int64) → Option ((Nat → Int32) × (Nat → Int32) × (Nat → Int32) × (Nat → Int64))) (y5 : Int32) (w6 : Nat → Int32) (w7 : Nat → Int32) (w8 : Nat → Int32) (w9 : Nat → Int64) : Option ((Nat → Int32) × (Nat → Int32) × (Nat → Int32) × (Nat → Int64)) :=
  (if 16 ≤ y5 then (J62 w6 w7 w8 w9) else (rdI v_p0_kinds 16 y5 (fun z10 => (wrI w6 16 y5 z10 (fun g11 => (rdI v_p0_seqs 16 y5 (fun z12 => (wrI w7 16 y5 z12 (fun g13 => (rdI v_p0_versions 16 y5 (fun z14 => (wrI w8 16 y5 z14 (fun g15 => (rdJ v_p0_sources 16 y5 (fun z16 => (wrJ w9 16 y5 z16 (fun g17 => (bnd (y5 + 1) (fun z18 => (R2 z18 g11 g13 g15 g17))))))))))))))))))))
def fX0_copyFrom (v_kinds : Nat → Int32) (v_seqs : Nat → Int32) (v_versions : Nat → Int32) (v_sources : Nat → Int64) (v_p0_kinds : Nat → Int32) (v_p0_seqs : Nat → Int32) (v_p0_versions : Nat → Int32) (v_p0_sources : Nat → Int64) : Option ((Nat → Int32) × (Nat → Int32) × (Nat → Int32) × (Nat → Int64)) :=
  (jp (fun (w1 : Nat → Int32) (w2 : Nat → Int32) (w3 : Nat → Int32) (w4 : Nat → Int64) => (some (w1, w2, w3, w4))) (fun J62 => (lo5 (sX0_copyFrom_2 J62 v_p0_kinds v_p0_seqs v_p0_versions v_p0_sources) 1000 0 v_kinds v_seqs v_versions v_sources)))
theorem inX0_copyFrom_0 : ∀ w ∈ wsX00, w ∈ wsX0_copyFrom := fun _ h => List.mem_cons_of_mem _ (List.mem_append_right _ h)
set_option maxRecDepth 100000 in
set_option maxHeartbeats 8000000 in
theorem cX0_copyFrom_ok (L : XL) (a_this a_kinds a_seqs a_versions a_sources a_p0 a_p0_kinds a_p0_seqs a_p0_versions a_p0_sources : Nat) (v_kinds : Nat → Int32) (v_seqs : Nat → Int32) (v_versions : Nat → Int32) (v_sources : Nat → Int64) (v_p0_kinds : Nat → Int32) (v_p0_seqs : Nat → Int32) (v_p0_versions : Nat → Int32) (v_p0_sources : Nat → Int64)  {t : (Nat → Int32) × (Nat → Int32) × (Nat → Int32) × (Nat → Int64)} (hf : fX0_copyFrom v_kinds v_seqs v_versions v_sources v_p0_kinds v_p0_seqs v_p0_versions v_p0_sources = some t) : xM L yX0_copyFrom wsX0_copyFrom ({ frames := 0, cells := 0, slots := 0, locals := 0 }) [.ref a_this, .ref a_p0] [(a_this, .inr (0, [.ref a_kinds, .ref a_seqs, .ref a_versions, .ref a_sources])), (a_kinds, .inl (L.2.2.1, 16, .inl v_kinds)), (a_seqs, .inl (L.2.2.1, 16, .inl v_seqs)), (a_versions, .inl (L.2.2.1, 16, .inl v_versions)), (a_sources, .inl (L.2.2.2.1, 16, .inr (.inl v_sources))), (a_p0, .inr (0, [.ref a_p0_kinds, .ref a_p0_seqs, .ref a_p0_versions, .ref a_p0_sources])), (a_p0_kinds, .inl (L.2.2.1, 16, .inl v_p0_kinds)), (a_p0_seqs, .inl (L.2.2.1, 16, .inl v_p0_seqs)), (a_p0_versions, .inl (L.2.2.1, 16, .inl v_p0_versions)), (a_p0_sources, .inl (L.2.2.2.1, 16, .inr (.inl v_p0_sources)))] 0 0 none (fun _ : Unit => [(a_this, .inr (0, [.ref a_kinds, .ref a_seqs, .ref a_versions, .ref a_sources])), (a_kinds, .inl (L.2.2.1, 16, .inl t.1)), (a_seqs, .inl (L.2.2.1, 16, .inl t.2.1)), (a_versions, .inl (L.2.2.1, 16, .inl t.2.2.1)), (a_sources, .inl (L.2.2.2.1, 16, .inr (.inl t.2.2.2))), (a_p0, .inr (0, [.ref a_p0_kinds, .ref a_p0_seqs, .ref a_p0_versions, .ref a_p0_sources])), (a_p0_kinds, .inl (L.2.2.1, 16, .inl v_p0_kinds)), (a_p0_seqs, .inl (L.2.2.1, 16, .inl v_p0_seqs)), (a_p0_versions, .inl (L.2.2.1, 16, .inl v_p0_versions)), (a_p0_sources, .inl (L.2.2.2.1, 16, .inr (.inl v_p0_sources)))]) := by
  refine enter_v (own := RX0) (by decide) rfl rfl (Nat.le_of_ble_eq_true rfl) ?_
  intro X hXL C _ hret
  subst hXL
  unfold fX0_copyFrom at hf
  show G X 0 0 [(a_this, .inr (0, [.ref a_kinds, .ref a_seqs, .ref a_versions, .ref a_sources])), (a_kinds, .inl (X.1.2.2.1, 16, .inl v_kinds)), (a_seqs, .inl (X.1.2.2.1, 16, .inl v_seqs)), (a_versions, .inl (X.1.2.2.1, 16, .inl v_versions)), (a_sources, .inl (X.1.2.2.2.1, 16, .inr (.inl v_sources))), (a_p0, .inr (0, [.ref a_p0_kinds, .ref a_p0_seqs, .ref a_p0_versions, .ref a_p0_sources])), (a_p0_kinds, .inl (X.1.2.2.1, 16, .inl v_p0_kinds)), (a_p0_seqs, .inl (X.1.2.2.1, 16, .inl v_p0_seqs)), (a_p0_versions, .inl (X.1.2.2.1, 16, .inl v_p0_versions)), (a_p0_sources, .inl (X.1.2.2.2.1, 16, .inr (.inl v_p0_sources)))] [(0, .ref a_this), (1, .ref a_p0)] 0 []
  refine g_iconst (v := 0) C dX0_copyFrom_0 (by decide) ?_
  refine g_istore_n (lv2 := [(2, .int 0), (0, .ref a_this), (1, .ref a_p0)]) C dX0_copyFrom_1 rfl (by decide) rfl ?_
  obtain ⟨J62, eJ62, hf⟩ := jp_x hf
  have hJ62 : ∀ (w1 : Nat → Int32) (w2 : Nat → Int32) (w3 : Nat → Int32) (w4 : Nat → Int64), J62 w1 w2 w3 w4 = some t → G X 0 0 [(a_this, .inr (0, [.ref a_kinds, .ref a_seqs, .ref a_versions, .ref a_sources])), (a_kinds, .inl (X.1.2.2.1, 16, .inl w1)), (a_seqs, .inl (X.1.2.2.1, 16, .inl w2)), (a_versions, .inl (X.1.2.2.1, 16, .inl w3)), (a_sources, .inl (X.1.2.2.2.1, 16, .inr (.inl w4))), (a_p0, .inr (0, [.ref a_p0_kinds, .ref a_p0_seqs, .ref a_p0_versions, .ref a_p0_sources])), (a_p0_kinds, .inl (X.1.2.2.1, 16, .inl v_p0_kinds)), (a_p0_seqs, .inl (X.1.2.2.1, 16, .inl v_p0_seqs)), (a_p0_versions, .inl (X.1.2.2.1, 16, .inl v_p0_versions)), (a_p0_sources, .inl (X.1.2.2.2.1, 16, .inr (.inl v_p0_sources)))] [] 62 [] := by
    intro w1 w2 w3 w4 hf
    have hf := app4 eJ62 hf
    rw [← Option.some.inj hf] at hret
    exact hret () _ _ dX0_copyFrom_62
  have hL2 : ∀ (n : Nat) (y5 : Int32) (w6 : Nat → Int32) (w7 : Nat → Int32) (w8 : Nat → Int32) (w9 : Nat → Int64), lo5 (sX0_copyFrom_2 J62 v_p0_kinds v_p0_seqs v_p0_versions v_p0_sources) n y5 w6 w7 w8 w9 = some t → G X 0 0 [(a_this, .inr (0, [.ref a_kinds, .ref a_seqs, .ref a_versions, .ref a_sources])), (a_kinds, .inl (X.1.2.2.1, 16, .inl w6)), (a_seqs, .inl (X.1.2.2.1, 16, .inl w7)), (a_versions, .inl (X.1.2.2.1, 16, .inl w8)), (a_sources, .inl (X.1.2.2.2.1, 16, .inr (.inl w9))), (a_p0, .inr (0, [.ref a_p0_kinds, .ref a_p0_seqs, .ref a_p0_versions, .ref a_p0_sources])), (a_p0_kinds, .inl (X.1.2.2.1, 16, .inl v_p0_kinds)), (a_p0_seqs, .inl (X.1.2.2.1, 16, .inl v_p0_seqs)), (a_p0_versions, .inl (X.1.2.2.1, 16, .inl v_p0_versions)), (a_p0_sources, .inl (X.1.2.2.2.1, 16, .inr (.inl v_p0_sources)))] [(0, .ref a_this), (1, .ref a_p0), (2, .int y5)] 2 [] := by
    intro n
    induction n with
    | zero => intro y5 w6 w7 w8 w9 hf; exact (lo5_z hf).elim
    | succ n ih2 =>
      intro y5 w6 w7 w8 w9 hf
      obtain ⟨R2, eR2, hf⟩ := lo5_x hf
      unfold sX0_copyFrom_2 at hf
      refine g_iload_n C dX0_copyFrom_2 rfl 2 rfl ?_
      refine g_bipush (v := 16) C dX0_copyFrom_3 (by decide) ?_
      refine g_icmp_ge C dX0_copyFrom_5 (tgt := 62) (by decide) hf (fun hf => ?_) (fun hf => ?_)
      · exact g_lv [] rfl (hJ62 w6 w7 w8 w9 hf)
      · refine g_aload_n C dX0_copyFrom_8 rfl 0 rfl ?_
        refine g_get C inX0_copyFrom_0 0 rfl rfl 0 (by decide) (List.mem_of_getElem? (i := 1) rfl) rfl rfl dX0_copyFrom_9 ?_
        refine g_iload_n C dX0_copyFrom_12 rfl 2 rfl ?_
        refine g_aload_n C dX0_copyFrom_13 rfl 1 rfl ?_
        refine g_get C inX0_copyFrom_0 5 rfl rfl 0 (by decide) (List.mem_of_getElem? (i := 1) rfl) rfl rfl dX0_copyFrom_14 ?_
        refine g_iload_n C dX0_copyFrom_17 rfl 2 rfl ?_
        refine g_iaload C 6 rfl dX0_copyFrom_18 hf (fun z10 hf => ?_)
        refine g_iastore (Wd2 := fun g11 => [(a_this, .inr (0, [.ref a_kinds, .ref a_seqs, .ref a_versions, .ref a_sources])), (a_kinds, .inl (X.1.2.2.1, 16, .inl g11)), (a_seqs, .inl (X.1.2.2.1, 16, .inl w7)), (a_versions, .inl (X.1.2.2.1, 16, .inl w8)), (a_sources, .inl (X.1.2.2.2.1, 16, .inr (.inl w9))), (a_p0, .inr (0, [.ref a_p0_kinds, .ref a_p0_seqs, .ref a_p0_versions, .ref a_p0_sources])), (a_p0_kinds, .inl (X.1.2.2.1, 16, .inl v_p0_kinds)), (a_p0_seqs, .inl (X.1.2.2.1, 16, .inl v_p0_seqs)), (a_p0_versions, .inl (X.1.2.2.1, 16, .inl v_p0_versions)), (a_p0_sources, .inl (X.1.2.2.2.1, 16, .inr (.inl v_p0_sources)))]) C 1 rfl dX0_copyFrom_19 hf (fun _ => rfl) (fun g11 hf => ?_)
        refine g_aload_n C dX0_copyFrom_20 rfl 0 rfl ?_
        refine g_get C inX0_copyFrom_0 0 rfl rfl 1 (by decide) (List.mem_of_getElem? (i := 2) rfl) rfl rfl dX0_copyFrom_21 ?_
        refine g_iload_n C dX0_copyFrom_24 rfl 2 rfl ?_
        refine g_aload_n C dX0_copyFrom_25 rfl 1 rfl ?_
        refine g_get C inX0_copyFrom_0 5 rfl rfl 1 (by decide) (List.mem_of_getElem? (i := 2) rfl) rfl rfl dX0_copyFrom_26 ?_
        refine g_iload_n C dX0_copyFrom_29 rfl 2 rfl ?_
        refine g_iaload C 7 rfl dX0_copyFrom_30 hf (fun z12 hf => ?_)
        refine g_iastore (Wd2 := fun g13 => [(a_this, .inr (0, [.ref a_kinds, .ref a_seqs, .ref a_versions, .ref a_sources])), (a_kinds, .inl (X.1.2.2.1, 16, .inl g11)), (a_seqs, .inl (X.1.2.2.1, 16, .inl g13)), (a_versions, .inl (X.1.2.2.1, 16, .inl w8)), (a_sources, .inl (X.1.2.2.2.1, 16, .inr (.inl w9))), (a_p0, .inr (0, [.ref a_p0_kinds, .ref a_p0_seqs, .ref a_p0_versions, .ref a_p0_sources])), (a_p0_kinds, .inl (X.1.2.2.1, 16, .inl v_p0_kinds)), (a_p0_seqs, .inl (X.1.2.2.1, 16, .inl v_p0_seqs)), (a_p0_versions, .inl (X.1.2.2.1, 16, .inl v_p0_versions)), (a_p0_sources, .inl (X.1.2.2.2.1, 16, .inr (.inl v_p0_sources)))]) C 2 rfl dX0_copyFrom_31 hf (fun _ => rfl) (fun g13 hf => ?_)
        refine g_aload_n C dX0_copyFrom_32 rfl 0 rfl ?_
        refine g_get C inX0_copyFrom_0 0 rfl rfl 2 (by decide) (List.mem_of_getElem? (i := 3) rfl) rfl rfl dX0_copyFrom_33 ?_
        refine g_iload_n C dX0_copyFrom_36 rfl 2 rfl ?_
        refine g_aload_n C dX0_copyFrom_37 rfl 1 rfl ?_
        refine g_get C inX0_copyFrom_0 5 rfl rfl 2 (by decide) (List.mem_of_getElem? (i := 3) rfl) rfl rfl dX0_copyFrom_38 ?_
        refine g_iload_n C dX0_copyFrom_41 rfl 2 rfl ?_
        refine g_iaload C 8 rfl dX0_copyFrom_42 hf (fun z14 hf => ?_)
        refine g_iastore (Wd2 := fun g15 => [(a_this, .inr (0, [.ref a_kinds, .ref a_seqs, .ref a_versions, .ref a_sources])), (a_kinds, .inl (X.1.2.2.1, 16, .inl g11)), (a_seqs, .inl (X.1.2.2.1, 16, .inl g13)), (a_versions, .inl (X.1.2.2.1, 16, .inl g15)), (a_sources, .inl (X.1.2.2.2.1, 16, .inr (.inl w9))), (a_p0, .inr (0, [.ref a_p0_kinds, .ref a_p0_seqs, .ref a_p0_versions, .ref a_p0_sources])), (a_p0_kinds, .inl (X.1.2.2.1, 16, .inl v_p0_kinds)), (a_p0_seqs, .inl (X.1.2.2.1, 16, .inl v_p0_seqs)), (a_p0_versions, .inl (X.1.2.2.1, 16, .inl v_p0_versions)), (a_p0_sources, .inl (X.1.2.2.2.1, 16, .inr (.inl v_p0_sources)))]) C 3 rfl dX0_copyFrom_43 hf (fun _ => rfl) (fun g15 hf => ?_)
        refine g_aload_n C dX0_copyFrom_44 rfl 0 rfl ?_
        refine g_get C inX0_copyFrom_0 0 rfl rfl 3 (by decide) (List.mem_of_getElem? (i := 4) rfl) rfl rfl dX0_copyFrom_45 ?_
        refine g_iload_n C dX0_copyFrom_48 rfl 2 rfl ?_
        refine g_aload_n C dX0_copyFrom_49 rfl 1 rfl ?_
        refine g_get C inX0_copyFrom_0 5 rfl rfl 3 (by decide) (List.mem_of_getElem? (i := 4) rfl) rfl rfl dX0_copyFrom_50 ?_
        refine g_iload_n C dX0_copyFrom_53 rfl 2 rfl ?_
        refine g_laload C 9 rfl dX0_copyFrom_54 hf (fun z16 hf => ?_)
        refine g_lastore (Wd2 := fun g17 => [(a_this, .inr (0, [.ref a_kinds, .ref a_seqs, .ref a_versions, .ref a_sources])), (a_kinds, .inl (X.1.2.2.1, 16, .inl g11)), (a_seqs, .inl (X.1.2.2.1, 16, .inl g13)), (a_versions, .inl (X.1.2.2.1, 16, .inl g15)), (a_sources, .inl (X.1.2.2.2.1, 16, .inr (.inl g17))), (a_p0, .inr (0, [.ref a_p0_kinds, .ref a_p0_seqs, .ref a_p0_versions, .ref a_p0_sources])), (a_p0_kinds, .inl (X.1.2.2.1, 16, .inl v_p0_kinds)), (a_p0_seqs, .inl (X.1.2.2.1, 16, .inl v_p0_seqs)), (a_p0_versions, .inl (X.1.2.2.1, 16, .inl v_p0_versions)), (a_p0_sources, .inl (X.1.2.2.2.1, 16, .inr (.inl v_p0_sources)))]) C 4 rfl dX0_copyFrom_55 hf (fun _ => rfl) (fun g17 hf => ?_)
        refine g_iinc (v := 1) (lv2 := fun z18 => [(2, .int z18), (0, .ref a_this), (1, .ref a_p0)]) C dX0_copyFrom_56 2 rfl (by decide) (by decide) hf (fun _ => rfl) (fun z18 hf => ?_)
        refine g_goto C dX0_copyFrom_59 (tgt := 2) (by decide) ?_
        exact g_lv [1, 2, 0] rfl (ih2 z18 g11 g13 g15 g17 (app5 eR2 hf))
  exact g_lv [1, 2, 0] rfl (hL2 _ 0 v_kinds v_seqs v_versions v_sources hf)
