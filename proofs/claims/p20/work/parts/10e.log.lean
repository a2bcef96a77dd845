def fX2_rowOf (x0 : Int32) : Option ((Int32)) :=
  (bnd (x0 &&& 3 : Int32) (fun z1 => (some (z1))))
set_option maxRecDepth 100000 in
set_option maxHeartbeats 8000000 in
theorem cX2_rowOf_ok (L : XL)  (x0 : Int32) {t : (Int32)} (hf : fX2_rowOf x0 = some t) : xM L yX2_rowOf wsX2_rowOf ({ frames := 0, cells := 0, slots := 0, locals := 0 }) [.int x0] [] 0 0 (some (.int t)) (fun _ : Unit => []) := by
  refine enter_i (own := RX2) (by decide) rfl rfl (Nat.le_of_ble_eq_true rfl) ?_
  intro X hXL C _ hret
  subst hXL
  unfold fX2_rowOf at hf
  show G X 0 0 [] [(0, .int x0)] 0 []
  refine g_iload_n C dX2_rowOf_0 rfl 0 rfl ?_
  refine g_iconst (v := 3) C dX2_rowOf_1 (by decide) ?_
  refine g_iand C dX2_rowOf_2 hf (fun z1 hf => ?_)
  rw [← Option.some.inj hf] at hret
  exact hret () _ _ dX2_rowOf_3
def fX2_count (v_oldest : Int32) (v_current : Int32) : Option ((Int32)) :=
  (bnd (v_current - v_oldest : Int32) (fun z1 => (bnd (z1 + 1 : Int32) (fun z2 => (some (z2))))))
theorem inX2_count_2 : ∀ w ∈ wsX20, w ∈ wsX2_count := fun _ h => List.mem_cons_of_mem _ (List.mem_append_right _ h)
set_option maxRecDepth 100000 in
set_option maxHeartbeats 8000000 in
theorem cX2_count_ok (L : XL) (a_this a_bytes a_lengths a_greatestSeqs : Nat) (v_oldest : Int32) (v_current : Int32) (v_synced : Int32)  {t : (Int32)} (hf : fX2_count v_oldest v_current = some t) : xM L yX2_count wsX2_count ({ frames := 0, cells := 0, slots := 0, locals := 0 }) [.ref a_this] [(a_this, .inr (2, [.int v_oldest, .int v_current, .int v_synced, .ref a_bytes, .ref a_lengths, .ref a_greatestSeqs]))] 0 0 (some (.int t)) (fun _ : Unit => [(a_this, .inr (2, [.int v_oldest, .int v_current, .int v_synced, .ref a_bytes, .ref a_lengths, .ref a_greatestSeqs]))]) := by
  refine enter_i (own := RX2) (by decide) rfl rfl (Nat.le_of_ble_eq_true rfl) ?_
  intro X hXL C _ hret
  subst hXL
  unfold fX2_count at hf
  show G X 0 0 [(a_this, .inr (2, [.int v_oldest, .int v_current, .int v_synced, .ref a_bytes, .ref a_lengths, .ref a_greatestSeqs]))] [(0, .ref a_this)] 0 []
  refine g_aload_n C dX2_count_0 rfl 0 rfl ?_
  refine g_get C inX2_count_2 0 rfl rfl 1 (by decide) (List.mem_of_getElem? (i := 1) rfl) rfl rfl dX2_count_1 ?_
  refine g_aload_n C dX2_count_4 rfl 0 rfl ?_
  refine g_get C inX2_count_2 0 rfl rfl 0 (by decide) (List.mem_of_getElem? (i := 2) rfl) rfl rfl dX2_count_5 ?_
  refine g_isub C dX2_count_8 hf (fun z1 hf => ?_)
  refine g_iconst (v := 1) C dX2_count_9 (by decide) ?_
  refine g_iadd C dX2_count_10 hf (fun z2 hf => ?_)
  rw [← Option.some.inj hf] at hret
  exact hret () _ _ dX2_count_11
def fX2_lengthOf (v_lengths : Nat → Int32) (x0 : Int32) : Option ((Int32)) :=
  (cal1 (fX2_rowOf x0) (fun r1 => (rdI v_lengths 4 r1 (fun z3 => (some (z3))))))
theorem inX2_lengthOf_2 : ∀ w ∈ wsX20, w ∈ wsX2_lengthOf := fun _ h => List.mem_cons_of_mem _ (List.mem_append_right _ h)
set_option maxRecDepth 100000 in
set_option maxHeartbeats 8000000 in
theorem cX2_lengthOf_ok (L : XL) (a_this a_bytes a_lengths a_greatestSeqs : Nat) (v_oldest : Int32) (v_current : Int32) (v_synced : Int32) (v_lengths : Nat → Int32) (x0 : Int32) {t : (Int32)} (hf : fX2_lengthOf v_lengths x0 = some t) : xM L yX2_lengthOf wsX2_lengthOf ({ frames := 1, cells := 0, slots := 0, locals := 20 }) [.ref a_this, .int x0] [(a_this, .inr (2, [.int v_oldest, .int v_current, .int v_synced, .ref a_bytes, .ref a_lengths, .ref a_greatestSeqs])), (a_lengths, .inl (L.2.2.1, 4, .inl v_lengths))] 0 0 (some (.int t)) (fun _ : Unit => [(a_this, .inr (2, [.int v_oldest, .int v_current, .int v_synced, .ref a_bytes, .ref a_lengths, .ref a_greatestSeqs])), (a_lengths, .inl (L.2.2.1, 4, .inl v_lengths))]) := by
  refine enter_i (own := RX2) (by decide) rfl rfl (Nat.le_of_ble_eq_true rfl) ?_
  intro X hXL C _ hret
  subst hXL
  unfold fX2_lengthOf at hf
  show G X 0 0 [(a_this, .inr (2, [.int v_oldest, .int v_current, .int v_synced, .ref a_bytes, .ref a_lengths, .ref a_greatestSeqs])), (a_lengths, .inl (X.1.2.2.1, 4, .inl v_lengths))] [(0, .ref a_this), (1, .int x0)] 0 []
  refine g_aload_n C dX2_lengthOf_0 rfl 0 rfl ?_
  refine g_get C inX2_lengthOf_2 0 rfl rfl 4 (by decide) (List.mem_of_getElem? (i := 1) rfl) rfl rfl dX2_lengthOf_1 ?_
  refine g_iload_n C dX2_lengthOf_4 rfl 1 rfl ?_
  obtain ⟨r1, hq2, hf⟩ := cal1_x hf
  refine g_callS (As := [.int x0]) (rest := [.ref a_lengths]) (st2 := [.int r1, .ref a_lengths]) (n := 1) C (cX2_rowOf_ok X.1 x0 hq2) gX2_lengthOf_X2_rowOf rfl rfl rfl (by decide +kernel) (by decide) [] (by decide) rfl [0, 1] (Wr := [(a_this, .inr (2, [.int v_oldest, .int v_current, .int v_synced, .ref a_bytes, .ref a_lengths, .ref a_greatestSeqs])), (a_lengths, .inl (X.1.2.2.1, 4, .inl v_lengths))]) (by decide) rfl (by decide) [0, 1] (by decide) (Wn := fun _ => [(a_this, .inr (2, [.int v_oldest, .int v_current, .int v_synced, .ref a_bytes, .ref a_lengths, .ref a_greatestSeqs])), (a_lengths, .inl (X.1.2.2.1, 4, .inl v_lengths))]) (fun _ => rfl) rfl rfl rfl (Nat.le_of_ble_eq_true rfl) dX2_lengthOf_5 ⟨Nat.le_refl _, Nat.le_refl _⟩ (fun _ => ?_)
  refine g_iaload C 1 rfl dX2_lengthOf_8 hf (fun z3 hf => ?_)
  rw [← Option.some.inj hf] at hret
  exact hret () _ _ dX2_lengthOf_9
def fX2_syncedOf (v_current : Int32) (v_synced : Int32) (v_lengths : Nat → Int32) (x0 : Int32) : Option ((Int32)) :=
  (jp (fun (k1 : Int32) => (some (k1))) (fun J20 => (if x0 = v_current then (J20 v_synced) else (cal1 (fX2_lengthOf v_lengths x0) (fun r2 => (J20 r2))))))
theorem inX2_syncedOf_2 : ∀ w ∈ wsX20, w ∈ wsX2_syncedOf := fun _ h => List.mem_cons_of_mem _ (List.mem_append_right _ h)
set_option maxRecDepth 100000 in
set_option maxHeartbeats 8000000 in
theorem cX2_syncedOf_ok (L : XL) (a_this a_bytes a_lengths a_greatestSeqs : Nat) (v_oldest : Int32) (v_current : Int32) (v_synced : Int32) (v_lengths : Nat → Int32) (x0 : Int32) {t : (Int32)} (hf : fX2_syncedOf v_current v_synced v_lengths x0 = some t) : xM L yX2_syncedOf wsX2_syncedOf ({ frames := 2, cells := 0, slots := 0, locals := 41 }) [.ref a_this, .int x0] [(a_this, .inr (2, [.int v_oldest, .int v_current, .int v_synced, .ref a_bytes, .ref a_lengths, .ref a_greatestSeqs])), (a_lengths, .inl (L.2.2.1, 4, .inl v_lengths))] 0 0 (some (.int t)) (fun _ : Unit => [(a_this, .inr (2, [.int v_oldest, .int v_current, .int v_synced, .ref a_bytes, .ref a_lengths, .ref a_greatestSeqs])), (a_lengths, .inl (L.2.2.1, 4, .inl v_lengths))]) := by
  refine enter_i (own := RX2) (by decide) rfl rfl (Nat.le_of_ble_eq_true rfl) ?_
  intro X hXL C _ hret
  subst hXL
  unfold fX2_syncedOf at hf
  show G X 0 0 [(a_this, .inr (2, [.int v_oldest, .int v_current, .int v_synced, .ref a_bytes, .ref a_lengths, .ref a_greatestSeqs])), (a_lengths, .inl (X.1.2.2.1, 4, .inl v_lengths))] [(0, .ref a_this), (1, .int x0)] 0 []
  refine g_iload_n C dX2_syncedOf_0 rfl 1 rfl ?_
  refine g_aload_n C dX2_syncedOf_1 rfl 0 rfl ?_
  refine g_get C inX2_syncedOf_2 0 rfl rfl 1 (by decide) (List.mem_of_getElem? (i := 1) rfl) rfl rfl dX2_syncedOf_2 ?_
  obtain ⟨J20, eJ20, hf⟩ := jp_x hf
  have hJ20 : ∀ (k1 : Int32), J20 k1 = some t → G X 0 0 [(a_this, .inr (2, [.int v_oldest, .int v_current, .int v_synced, .ref a_bytes, .ref a_lengths, .ref a_greatestSeqs])), (a_lengths, .inl (X.1.2.2.1, 4, .inl v_lengths))] [] 20 [.int k1] := by
    intro k1 hf
    have hf := app1 eJ20 hf
    rw [← Option.some.inj hf] at hret
    exact hret () _ _ dX2_syncedOf_20
  refine g_icmp_ne C dX2_syncedOf_5 (tgt := 15) (by decide) hf (fun hf => ?_) (fun hf => ?_)
  · refine g_aload_n C dX2_syncedOf_15 rfl 0 rfl ?_
    refine g_iload_n C dX2_syncedOf_16 rfl 1 rfl ?_
    obtain ⟨r2, hq3, hf⟩ := cal1_x hf
    refine g_callV (As := [.int x0]) (rest := []) (st2 := [.int r2]) (n := 1) C (cX2_lengthOf_ok X.1 a_this a_bytes a_lengths a_greatestSeqs v_oldest v_current v_synced v_lengths x0 hq3) gX2_syncedOf_X2_lengthOf rfl rfl rfl ⟨rfl, by decide +kernel⟩ (by decide) 0 rfl rfl rfl [0, 1] (by decide) rfl [] (Wr := []) (by decide) rfl (by decide) [0, 1] (by decide) (Wn := fun _ => [(a_this, .inr (2, [.int v_oldest, .int v_current, .int v_synced, .ref a_bytes, .ref a_lengths, .ref a_greatestSeqs])), (a_lengths, .inl (X.1.2.2.1, 4, .inl v_lengths))]) (fun _ => rfl) rfl rfl rfl (Nat.le_of_ble_eq_true rfl) dX2_syncedOf_17 ⟨Nat.le_refl _, Nat.le_refl _⟩ (fun _ => ?_)
    exact g_lv [] rfl (hJ20 r2 hf)
  · refine g_aload_n C dX2_syncedOf_8 rfl 0 rfl ?_
    refine g_get C inX2_syncedOf_2 0 rfl rfl 2 (by decide) (List.mem_of_getElem? (i := 2) rfl) rfl rfl dX2_syncedOf_9 ?_
    refine g_goto C dX2_syncedOf_12 (tgt := 20) (by decide) ?_
    exact g_lv [] rfl (hJ20 v_synced hf)
def fX2_room (v_current : Int32) (v_lengths : Nat → Int32) : Option ((Int32)) :=
  (cal1 (fX2_lengthOf v_lengths v_current) (fun r1 => (bnd (240 - r1 : Int32) (fun z3 => (some (z3))))))
theorem inX2_room_2 : ∀ w ∈ wsX20, w ∈ wsX2_room := fun _ h => List.mem_cons_of_mem _ (List.mem_append_right _ h)
set_option maxRecDepth 100000 in
set_option maxHeartbeats 8000000 in
theorem cX2_room_ok (L : XL) (a_this a_bytes a_lengths a_greatestSeqs : Nat) (v_oldest : Int32) (v_current : Int32) (v_synced : Int32) (v_lengths : Nat → Int32)  {t : (Int32)} (hf : fX2_room v_current v_lengths = some t) : xM L yX2_room wsX2_room ({ frames := 2, cells := 0, slots := 0, locals := 41 }) [.ref a_this] [(a_this, .inr (2, [.int v_oldest, .int v_current, .int v_synced, .ref a_bytes, .ref a_lengths, .ref a_greatestSeqs])), (a_lengths, .inl (L.2.2.1, 4, .inl v_lengths))] 0 0 (some (.int t)) (fun _ : Unit => [(a_this, .inr (2, [.int v_oldest, .int v_current, .int v_synced, .ref a_bytes, .ref a_lengths, .ref a_greatestSeqs])), (a_lengths, .inl (L.2.2.1, 4, .inl v_lengths))]) := by
  refine enter_i (own := RX2) (by decide) rfl rfl (Nat.le_of_ble_eq_true rfl) ?_
  intro X hXL C _ hret
  subst hXL
  unfold fX2_room at hf
  show G X 0 0 [(a_this, .inr (2, [.int v_oldest, .int v_current, .int v_synced, .ref a_bytes, .ref a_lengths, .ref a_greatestSeqs])), (a_lengths, .inl (X.1.2.2.1, 4, .inl v_lengths))] [(0, .ref a_this)] 0 []
  refine g_sipush (v := 240) C dX2_room_0 (by decide) ?_
  refine g_aload_n C dX2_room_3 rfl 0 rfl ?_
  refine g_aload_n C dX2_room_4 rfl 0 rfl ?_
  refine g_get C inX2_room_2 0 rfl rfl 1 (by decide) (List.mem_of_getElem? (i := 1) rfl) rfl rfl dX2_room_5 ?_
  obtain ⟨r1, hq2, hf⟩ := cal1_x hf
  refine g_callV (As := [.int v_current]) (rest := [.int 240]) (st2 := [.int r1, .int 240]) (n := 1) C (cX2_lengthOf_ok X.1 a_this a_bytes a_lengths a_greatestSeqs v_oldest v_current v_synced v_lengths v_current hq2) gX2_room_X2_lengthOf rfl rfl rfl ⟨rfl, by decide +kernel⟩ (by decide) 0 rfl rfl rfl [0, 1] (by decide) rfl [] (Wr := []) (by decide) rfl (by decide) [0, 1] (by decide) (Wn := fun _ => [(a_this, .inr (2, [.int v_oldest, .int v_current, .int v_synced, .ref a_bytes, .ref a_lengths, .ref a_greatestSeqs])), (a_lengths, .inl (X.1.2.2.1, 4, .inl v_lengths))]) (fun _ => rfl) rfl rfl rfl (Nat.le_of_ble_eq_true rfl) dX2_room_8 ⟨Nat.le_refl _, Nat.le_refl _⟩ (fun _ => ?_)
  refine g_isub C dX2_room_11 hf (fun z3 hf => ?_)
  rw [← Option.some.inj hf] at hret
  exact hret () _ _ dX2_room_12
def fX2_unsynced (v_current : Int32) (v_synced : Int32) (v_lengths : Nat → Int32) : Option ((Int32)) :=
  (cal1 (fX2_lengthOf v_lengths v_current) (fun r1 => (bnd (r1 - v_synced : Int32) (fun z3 => (some (z3))))))
theorem inX2_unsynced_2 : ∀ w ∈ wsX20, w ∈ wsX2_unsynced := fun _ h => List.mem_cons_of_mem _ (List.mem_append_right _ h)
set_option maxRecDepth 100000 in
set_option maxHeartbeats 8000000 in
theorem cX2_unsynced_ok (L : XL) (a_this a_bytes a_lengths a_greatestSeqs : Nat) (v_oldest : Int32) (v_current : Int32) (v_synced : Int32) (v_lengths : Nat → Int32)  {t : (Int32)} (hf : fX2_unsynced v_current v_synced v_lengths = some t) : xM L yX2_unsynced wsX2_unsynced ({ frames := 2, cells := 0, slots := 0, locals := 41 }) [.ref a_this] [(a_this, .inr (2, [.int v_oldest, .int v_current, .int v_synced, .ref a_bytes, .ref a_lengths, .ref a_greatestSeqs])), (a_lengths, .inl (L.2.2.1, 4, .inl v_lengths))] 0 0 (some (.int t)) (fun _ : Unit => [(a_this, .inr (2, [.int v_oldest, .int v_current, .int v_synced, .ref a_bytes, .ref a_lengths, .ref a_greatestSeqs])), (a_lengths, .inl (L.2.2.1, 4, .inl v_lengths))]) := by
  refine enter_i (own := RX2) (by decide) rfl rfl (Nat.le_of_ble_eq_true rfl) ?_
  intro X hXL C _ hret
  subst hXL
  unfold fX2_unsynced at hf
  show G X 0 0 [(a_this, .inr (2, [.int v_oldest, .int v_current, .int v_synced, .ref a_bytes, .ref a_lengths, .ref a_greatestSeqs])), (a_lengths, .inl (X.1.2.2.1, 4, .inl v_lengths))] [(0, .ref a_this)] 0 []
  refine g_aload_n C dX2_unsynced_0 rfl 0 rfl ?_
  refine g_aload_n C dX2_unsynced_1 rfl 0 rfl ?_
  refine g_get C inX2_unsynced_2 0 rfl rfl 1 (by decide) (List.mem_of_getElem? (i := 1) rfl) rfl rfl dX2_unsynced_2 ?_
  obtain ⟨r1, hq2, hf⟩ := cal1_x hf
  refine g_callV (As := [.int v_current]) (rest := []) (st2 := [.int r1]) (n := 1) C (cX2_lengthOf_ok X.1 a_this a_bytes a_lengths a_greatestSeqs v_oldest v_current v_synced v_lengths v_current hq2) gX2_unsynced_X2_lengthOf rfl rfl rfl ⟨rfl, by decide +kernel⟩ (by decide) 0 rfl rfl rfl [0, 1] (by decide) rfl [] (Wr := []) (by decide) rfl (by decide) [0, 1] (by decide) (Wn := fun _ => [(a_this, .inr (2, [.int v_oldest, .int v_current, .int v_synced, .ref a_bytes, .ref a_lengths, .ref a_greatestSeqs])), (a_lengths, .inl (X.1.2.2.1, 4, .inl v_lengths))]) (fun _ => rfl) rfl rfl rfl (Nat.le_of_ble_eq_true rfl) dX2_unsynced_5 ⟨Nat.le_refl _, Nat.le_refl _⟩ (fun _ => ?_)
  refine g_aload_n C dX2_unsynced_8 rfl 0 rfl ?_
  refine g_get C inX2_unsynced_2 0 rfl rfl 2 (by decide) (List.mem_of_getElem? (i := 2) rfl) rfl rfl dX2_unsynced_9 ?_
  refine g_isub C dX2_unsynced_12 hf (fun z3 hf => ?_)
  rw [← Option.some.inj hf] at hret
  exact hret () _ _ dX2_unsynced_13
def fX2_syncCurrent (v_current : Int32) (v_synced : Int32) (v_lengths : Nat → Int32) : Option ((Int32) × (Int32)) :=
  (cal1 (fX2_unsynced v_current v_synced v_lengths) (fun r1 => (cal1 (fX2_lengthOf v_lengths v_current) (fun r3 => (some (r1, r3))))))
theorem inX2_syncCurrent_2 : ∀ w ∈ wsX20, w ∈ wsX2_syncCurrent := fun _ h => List.mem_cons_of_mem _ (List.mem_append_right _ h)
set_option maxRecDepth 100000 in
set_option maxHeartbeats 8000000 in
theorem cX2_syncCurrent_ok (L : XL) (a_this a_bytes a_lengths a_greatestSeqs : Nat) (v_oldest : Int32) (v_current : Int32) (v_synced : Int32) (v_lengths : Nat → Int32)  {t : (Int32) × (Int32)} (hf : fX2_syncCurrent v_current v_synced v_lengths = some t) : xM L yX2_syncCurrent wsX2_syncCurrent ({ frames := 3, cells := 0, slots := 0, locals := 61 }) [.ref a_this] [(a_this, .inr (2, [.int v_oldest, .int v_current, .int v_synced, .ref a_bytes, .ref a_lengths, .ref a_greatestSeqs])), (a_lengths, .inl (L.2.2.1, 4, .inl v_lengths))] 0 0 (some (.int t.1)) (fun _ : Unit => [(a_this, .inr (2, [.int v_oldest, .int v_current, .int t.2, .ref a_bytes, .ref a_lengths, .ref a_greatestSeqs])), (a_lengths, .inl (L.2.2.1, 4, .inl v_lengths))]) := by
  refine enter_i (own := RX2) (by decide) rfl rfl (Nat.le_of_ble_eq_true rfl) ?_
  intro X hXL C _ hret
  subst hXL
  unfold fX2_syncCurrent at hf
  show G X 0 0 [(a_this, .inr (2, [.int v_oldest, .int v_current, .int v_synced, .ref a_bytes, .ref a_lengths, .ref a_greatestSeqs])), (a_lengths, .inl (X.1.2.2.1, 4, .inl v_lengths))] [(0, .ref a_this)] 0 []
  refine g_aload_n C dX2_syncCurrent_0 rfl 0 rfl ?_
  obtain ⟨r1, hq2, hf⟩ := cal1_x hf
  refine g_callV (As := []) (rest := []) (st2 := [.int r1]) (n := 0) C (cX2_unsynced_ok X.1 a_this a_bytes a_lengths a_greatestSeqs v_oldest v_current v_synced v_lengths hq2) gX2_syncCurrent_X2_unsynced rfl rfl rfl ⟨rfl, by decide +kernel⟩ (by decide) 0 rfl rfl rfl [0, 1] (by decide) rfl [] (Wr := []) (by decide) rfl (by decide) [0, 1] (by decide) (Wn := fun _ => [(a_this, .inr (2, [.int v_oldest, .int v_current, .int v_synced, .ref a_bytes, .ref a_lengths, .ref a_greatestSeqs])), (a_lengths, .inl (X.1.2.2.1, 4, .inl v_lengths))]) (fun _ => rfl) rfl rfl rfl (Nat.le_of_ble_eq_true rfl) dX2_syncCurrent_1 ⟨Nat.le_refl _, Nat.le_refl _⟩ (fun _ => ?_)
  refine g_istore_n (lv2 := [(1, .int r1), (0, .ref a_this)]) C dX2_syncCurrent_4 rfl (by decide) rfl ?_
  refine g_aload_n C dX2_syncCurrent_5 rfl 1 rfl ?_
  refine g_aload_n C dX2_syncCurrent_6 rfl 1 rfl ?_
  refine g_aload_n C dX2_syncCurrent_7 rfl 1 rfl ?_
  refine g_get C inX2_syncCurrent_2 0 rfl rfl 1 (by decide) (List.mem_of_getElem? (i := 1) rfl) rfl rfl dX2_syncCurrent_8 ?_
  obtain ⟨r3, hq4, hf⟩ := cal1_x hf
  refine g_callV (As := [.int v_current]) (rest := [.ref a_this]) (st2 := [.int r3, .ref a_this]) (n := 1) C (cX2_lengthOf_ok X.1 a_this a_bytes a_lengths a_greatestSeqs v_oldest v_current v_synced v_lengths v_current hq4) gX2_syncCurrent_X2_lengthOf rfl rfl rfl ⟨rfl, by decide +kernel⟩ (by decide) 0 rfl rfl rfl [0, 1] (by decide) rfl [] (Wr := []) (by decide) rfl (by decide) [0, 1] (by decide) (Wn := fun _ => [(a_this, .inr (2, [.int v_oldest, .int v_current, .int v_synced, .ref a_bytes, .ref a_lengths, .ref a_greatestSeqs])), (a_lengths, .inl (X.1.2.2.1, 4, .inl v_lengths))]) (fun _ => rfl) rfl rfl rfl (Nat.le_of_ble_eq_true rfl) dX2_syncCurrent_11 ⟨Nat.le_refl _, Nat.le_refl _⟩ (fun _ => ?_)
  refine g_put (Wd2 := [(a_this, .inr (2, [.int v_oldest, .int v_current, .int r3, .ref a_bytes, .ref a_lengths, .ref a_greatestSeqs])), (a_lengths, .inl (X.1.2.2.1, 4, .inl v_lengths))]) C inX2_syncCurrent_2 tyX2 tyX2_ok nmX2 0 rfl rfl 2 (by decide) (List.mem_of_getElem? (i := 2) rfl) rfl rfl rfl rfl (Nat.le_of_ble_eq_true rfl) dX2_syncCurrent_14 rfl ?_
  refine g_iload_n C dX2_syncCurrent_17 rfl 0 rfl ?_
  rw [← Option.some.inj hf] at hret
  exact hret () _ _ dX2_syncCurrent_18
def fX2_cutCurrent (v_current : Int32) (v_lengths : Nat → Int32) (x0 : Int32) : Option ((Nat → Int32)) :=
  (cal1 (fX2_rowOf v_current) (fun r1 => (wrI v_lengths 4 r1 x0 (fun g3 => (some (g3))))))
theorem inX2_cutCurrent_2 : ∀ w ∈ wsX20, w ∈ wsX2_cutCurrent := fun _ h => List.mem_cons_of_mem _ (List.mem_append_right _ h)
set_option maxRecDepth 100000 in
set_option maxHeartbeats 8000000 in
theorem cX2_cutCurrent_ok (L : XL) (a_this a_bytes a_lengths a_greatestSeqs : Nat) (v_oldest : Int32) (v_current : Int32) (v_synced : Int32) (v_lengths : Nat → Int32) (x0 : Int32) {t : (Nat → Int32)} (hf : fX2_cutCurrent v_current v_lengths x0 = some t) : xM L yX2_cutCurrent wsX2_cutCurrent ({ frames := 1, cells := 0, slots := 0, locals := 20 }) [.ref a_this, .int x0] [(a_this, .inr (2, [.int v_oldest, .int v_current, .int v_synced, .ref a_bytes, .ref a_lengths, .ref a_greatestSeqs])), (a_lengths, .inl (L.2.2.1, 4, .inl v_lengths))] 0 0 none (fun _ : Unit => [(a_this, .inr (2, [.int v_oldest, .int v_current, .int v_synced, .ref a_bytes, .ref a_lengths, .ref a_greatestSeqs])), (a_lengths, .inl (L.2.2.1, 4, .inl t))]) := by
  refine enter_v (own := RX2) (by decide) rfl rfl (Nat.le_of_ble_eq_true rfl) ?_
  intro X hXL C _ hret
  subst hXL
  unfold fX2_cutCurrent at hf
  show G X 0 0 [(a_this, .inr (2, [.int v_oldest, .int v_current, .int v_synced, .ref a_bytes, .ref a_lengths, .ref a_greatestSeqs])), (a_lengths, .inl (X.1.2.2.1, 4, .inl v_lengths))] [(0, .ref a_this), (1, .int x0)] 0 []
  refine g_aload_n C dX2_cutCurrent_0 rfl 0 rfl ?_
  refine g_get C inX2_cutCurrent_2 0 rfl rfl 4 (by decide) (List.mem_of_getElem? (i := 1) rfl) rfl rfl dX2_cutCurrent_1 ?_
  refine g_aload_n C dX2_cutCurrent_4 rfl 0 rfl ?_
  refine g_get C inX2_cutCurrent_2 0 rfl rfl 1 (by decide) (List.mem_of_getElem? (i := 2) rfl) rfl rfl dX2_cutCurrent_5 ?_
  obtain ⟨r1, hq2, hf⟩ := cal1_x hf
  refine g_callS (As := [.int v_current]) (rest := [.ref a_lengths]) (st2 := [.int r1, .ref a_lengths]) (n := 1) C (cX2_rowOf_ok X.1 v_current hq2) gX2_cutCurrent_X2_rowOf rfl rfl rfl (by decide +kernel) (by decide) [] (by decide) rfl [0, 1] (Wr := [(a_this, .inr (2, [.int v_oldest, .int v_current, .int v_synced, .ref a_bytes, .ref a_lengths, .ref a_greatestSeqs])), (a_lengths, .inl (X.1.2.2.1, 4, .inl v_lengths))]) (by decide) rfl (by decide) [0, 1] (by decide) (Wn := fun _ => [(a_this, .inr (2, [.int v_oldest, .int v_current, .int v_synced, .ref a_bytes, .ref a_lengths, .ref a_greatestSeqs])), (a_lengths, .inl (X.1.2.2.1, 4, .inl v_lengths))]) (fun _ => rfl) rfl rfl rfl (Nat.le_of_ble_eq_true rfl) dX2_cutCurrent_8 ⟨Nat.le_refl _, Nat.le_refl _⟩ (fun _ => ?_)
  refine g_iload_n C dX2_cutCurrent_11 rfl 1 rfl ?_
  refine g_iastore (Wd2 := fun g3 => [(a_this, .inr (2, [.int v_oldest, .int v_current, .int v_synced, .ref a_bytes, .ref a_lengths, .ref a_greatestSeqs])), (a_lengths, .inl (X.1.2.2.1, 4, .inl g3))]) C 1 rfl dX2_cutCurrent_12 hf (fun _ => rfl) (fun g3 hf => ?_)
  rw [← Option.some.inj hf] at hret
  exact hret () _ _ dX2_cutCurrent_13
def fX2_forgetSeqs (v_greatestSeqs : Nat → Int32) (x0 : Int32) : Option ((Nat → Int32)) :=
  (cal1 (fX2_rowOf x0) (fun r1 => (wrI v_greatestSeqs 4 r1 (-1) (fun g3 => (some (g3))))))
theorem inX2_forgetSeqs_2 : ∀ w ∈ wsX20, w ∈ wsX2_forgetSeqs := fun _ h => List.mem_cons_of_mem _ (List.mem_append_right _ h)
set_option maxRecDepth 100000 in
set_option maxHeartbeats 8000000 in
theorem cX2_forgetSeqs_ok (L : XL) (a_this a_bytes a_lengths a_greatestSeqs : Nat) (v_oldest : Int32) (v_current : Int32) (v_synced : Int32) (v_greatestSeqs : Nat → Int32) (x0 : Int32) {t : (Nat → Int32)} (hf : fX2_forgetSeqs v_greatestSeqs x0 = some t) : xM L yX2_forgetSeqs wsX2_forgetSeqs ({ frames := 1, cells := 0, slots := 0, locals := 20 }) [.ref a_this, .int x0] [(a_this, .inr (2, [.int v_oldest, .int v_current, .int v_synced, .ref a_bytes, .ref a_lengths, .ref a_greatestSeqs])), (a_greatestSeqs, .inl (L.2.2.1, 4, .inl v_greatestSeqs))] 0 0 none (fun _ : Unit => [(a_this, .inr (2, [.int v_oldest, .int v_current, .int v_synced, .ref a_bytes, .ref a_lengths, .ref a_greatestSeqs])), (a_greatestSeqs, .inl (L.2.2.1, 4, .inl t))]) := by
  refine enter_v (own := RX2) (by decide) rfl rfl (Nat.le_of_ble_eq_true rfl) ?_
  intro X hXL C _ hret
  subst hXL
  unfold fX2_forgetSeqs at hf
  show G X 0 0 [(a_this, .inr (2, [.int v_oldest, .int v_current, .int v_synced, .ref a_bytes, .ref a_lengths, .ref a_greatestSeqs])), (a_greatestSeqs, .inl (X.1.2.2.1, 4, .inl v_greatestSeqs))] [(0, .ref a_this), (1, .int x0)] 0 []
  refine g_aload_n C dX2_forgetSeqs_0 rfl 0 rfl ?_
  refine g_get C inX2_forgetSeqs_2 0 rfl rfl 5 (by decide) (List.mem_of_getElem? (i := 1) rfl) rfl rfl dX2_forgetSeqs_1 ?_
  refine g_iload_n C dX2_forgetSeqs_4 rfl 1 rfl ?_
  obtain ⟨r1, hq2, hf⟩ := cal1_x hf
  refine g_callS (As := [.int x0]) (rest := [.ref a_greatestSeqs]) (st2 := [.int r1, .ref a_greatestSeqs]) (n := 1) C (cX2_rowOf_ok X.1 x0 hq2) gX2_forgetSeqs_X2_rowOf rfl rfl rfl (by decide +kernel) (by decide) [] (by decide) rfl [0, 1] (Wr := [(a_this, .inr (2, [.int v_oldest, .int v_current, .int v_synced, .ref a_bytes, .ref a_lengths, .ref a_greatestSeqs])), (a_greatestSeqs, .inl (X.1.2.2.1, 4, .inl v_greatestSeqs))]) (by decide) rfl (by decide) [0, 1] (by decide) (Wn := fun _ => [(a_this, .inr (2, [.int v_oldest, .int v_current, .int v_synced, .ref a_bytes, .ref a_lengths, .ref a_greatestSeqs])), (a_greatestSeqs, .inl (X.1.2.2.1, 4, .inl v_greatestSeqs))]) (fun _ => rfl) rfl rfl rfl (Nat.le_of_ble_eq_true rfl) dX2_forgetSeqs_5 ⟨Nat.le_refl _, Nat.le_refl _⟩ (fun _ => ?_)
  refine g_iconst (v := (-1)) C dX2_forgetSeqs_8 (by decide) ?_
  refine g_iastore (Wd2 := fun g3 => [(a_this, .inr (2, [.int v_oldest, .int v_current, .int v_synced, .ref a_bytes, .ref a_lengths, .ref a_greatestSeqs])), (a_greatestSeqs, .inl (X.1.2.2.1, 4, .inl g3))]) C 1 rfl dX2_forgetSeqs_9 hf (fun _ => rfl) (fun g3 hf => ?_)
  rw [← Option.some.inj hf] at hret
  exact hret () _ _ dX2_forgetSeqs_10
def fX2_begin (v_current : Int32) (v_synced : Int32) (v_lengths : Nat → Int32) (v_greatestSeqs : Nat → Int32) : Option ((Int32) × (Int32) × (Nat → Int32) × (Nat → Int32)) :=
  (bnd (v_current + 1 : Int32) (fun z1 => (cal1 (fX2_rowOf z1) (fun r2 => (wrI v_lengths 4 r2 0 (fun g4 => (cal1 (fX2_forgetSeqs v_greatestSeqs z1) (fun u5 => (some (z1, 0, g4, u5))))))))))
theorem inX2_begin_2 : ∀ w ∈ wsX20, w ∈ wsX2_begin := fun _ h => List.mem_cons_of_mem _ (List.mem_append_right _ h)
set_option maxRecDepth 100000 in
set_option maxHeartbeats 8000000 in
theorem cX2_begin_ok (L : XL) (a_this a_bytes a_lengths a_greatestSeqs : Nat) (v_oldest : Int32) (v_current : Int32) (v_synced : Int32) (v_lengths : Nat → Int32) (v_greatestSeqs : Nat → Int32)  {t : (Int32) × (Int32) × (Nat → Int32) × (Nat → Int32)} (hf : fX2_begin v_current v_synced v_lengths v_greatestSeqs = some t) : xM L yX2_begin wsX2_begin ({ frames := 2, cells := 0, slots := 0, locals := 41 }) [.ref a_this] [(a_this, .inr (2, [.int v_oldest, .int v_current, .int v_synced, .ref a_bytes, .ref a_lengths, .ref a_greatestSeqs])), (a_lengths, .inl (L.2.2.1, 4, .inl v_lengths)), (a_greatestSeqs, .inl (L.2.2.1, 4, .inl v_greatestSeqs))] 0 0 none (fun _ : Unit => [(a_this, .inr (2, [.int v_oldest, .int t.1, .int t.2.1, .ref a_bytes, .ref a_lengths, .ref a_greatestSeqs])), (a_lengths, .inl (L.2.2.1, 4, .inl t.2.2.1)), (a_greatestSeqs, .inl (L.2.2.1, 4, .inl t.2.2.2))]) := by
  refine enter_v (own := RX2) (by decide) rfl rfl (Nat.le_of_ble_eq_true rfl) ?_
  intro X hXL C _ hret
  subst hXL
  unfold fX2_begin at hf
  show G X 0 0 [(a_this, .inr (2, [.int v_oldest, .int v_current, .int v_synced, .ref a_bytes, .ref a_lengths, .ref a_greatestSeqs])), (a_lengths, .inl (X.1.2.2.1, 4, .inl v_lengths)), (a_greatestSeqs, .inl (X.1.2.2.1, 4, .inl v_greatestSeqs))] [(0, .ref a_this)] 0 []
  refine g_aload_n C dX2_begin_0 rfl 0 rfl ?_
  refine g_dup C dX2_begin_1 rfl ?_
  refine g_get C inX2_begin_2 0 rfl rfl 1 (by decide) (List.mem_of_getElem? (i := 1) rfl) rfl rfl dX2_begin_2 ?_
  refine g_iconst (v := 1) C dX2_begin_5 (by decide) ?_
  refine g_iadd C dX2_begin_6 hf (fun z1 hf => ?_)
  refine g_put (Wd2 := [(a_this, .inr (2, [.int v_oldest, .int z1, .int v_synced, .ref a_bytes, .ref a_lengths, .ref a_greatestSeqs])), (a_lengths, .inl (X.1.2.2.1, 4, .inl v_lengths)), (a_greatestSeqs, .inl (X.1.2.2.1, 4, .inl v_greatestSeqs))]) C inX2_begin_2 tyX2 tyX2_ok nmX2 0 rfl rfl 1 (by decide) (List.mem_of_getElem? (i := 1) rfl) rfl rfl rfl rfl (Nat.le_of_ble_eq_true rfl) dX2_begin_7 rfl ?_
  refine g_aload_n C dX2_begin_10 rfl 0 rfl ?_
  refine g_iconst (v := 0) C dX2_begin_11 (by decide) ?_
  refine g_put (Wd2 := [(a_this, .inr (2, [.int v_oldest, .int z1, .int 0, .ref a_bytes, .ref a_lengths, .ref a_greatestSeqs])), (a_lengths, .inl (X.1.2.2.1, 4, .inl v_lengths)), (a_greatestSeqs, .inl (X.1.2.2.1, 4, .inl v_greatestSeqs))]) C inX2_begin_2 tyX2 tyX2_ok nmX2 0 rfl rfl 2 (by decide) (List.mem_of_getElem? (i := 2) rfl) rfl rfl rfl rfl (Nat.le_of_ble_eq_true rfl) dX2_begin_12 rfl ?_
  refine g_aload_n C dX2_begin_15 rfl 0 rfl ?_
  refine g_get C inX2_begin_2 0 rfl rfl 4 (by decide) (List.mem_of_getElem? (i := 3) rfl) rfl rfl dX2_begin_16 ?_
  refine g_aload_n C dX2_begin_19 rfl 0 rfl ?_
  refine g_get C inX2_begin_2 0 rfl rfl 1 (by decide) (List.mem_of_getElem? (i := 1) rfl) rfl rfl dX2_begin_20 ?_
  obtain ⟨r2, hq3, hf⟩ := cal1_x hf
  refine g_callS (As := [.int z1]) (rest := [.ref a_lengths]) (st2 := [.int r2, .ref a_lengths]) (n := 1) C (cX2_rowOf_ok X.1 z1 hq3) gX2_begin_X2_rowOf rfl rfl rfl (by decide +kernel) (by decide) [] (by decide) rfl [0, 1, 2] (Wr := [(a_this, .inr (2, [.int v_oldest, .int z1, .int 0, .ref a_bytes, .ref a_lengths, .ref a_greatestSeqs])), (a_lengths, .inl (X.1.2.2.1, 4, .inl v_lengths)), (a_greatestSeqs, .inl (X.1.2.2.1, 4, .inl v_greatestSeqs))]) (by decide) rfl (by decide) [0, 1, 2] (by decide) (Wn := fun _ => [(a_this, .inr (2, [.int v_oldest, .int z1, .int 0, .ref a_bytes, .ref a_lengths, .ref a_greatestSeqs])), (a_lengths, .inl (X.1.2.2.1, 4, .inl v_lengths)), (a_greatestSeqs, .inl (X.1.2.2.1, 4, .inl v_greatestSeqs))]) (fun _ => rfl) rfl rfl rfl (Nat.le_of_ble_eq_true rfl) dX2_begin_23 ⟨Nat.le_refl _, Nat.le_refl _⟩ (fun _ => ?_)
  refine g_iconst (v := 0) C dX2_begin_26 (by decide) ?_
  refine g_iastore (Wd2 := fun g4 => [(a_this, .inr (2, [.int v_oldest, .int z1, .int 0, .ref a_bytes, .ref a_lengths, .ref a_greatestSeqs])), (a_lengths, .inl (X.1.2.2.1, 4, .inl g4)), (a_greatestSeqs, .inl (X.1.2.2.1, 4, .inl v_greatestSeqs))]) C 1 rfl dX2_begin_27 hf (fun _ => rfl) (fun g4 hf => ?_)
  refine g_aload_n C dX2_begin_28 rfl 0 rfl ?_
  refine g_aload_n C dX2_begin_29 rfl 0 rfl ?_
  refine g_get C inX2_begin_2 0 rfl rfl 1 (by decide) (List.mem_of_getElem? (i := 1) rfl) rfl rfl dX2_begin_30 ?_
  obtain ⟨u5, hq6, hf⟩ := cal1_x hf
  refine g_callV (As := [.int z1]) (rest := []) (st2 := []) (n := 1) C (cX2_forgetSeqs_ok X.1 a_this a_bytes a_lengths a_greatestSeqs v_oldest z1 0 v_greatestSeqs z1 hq6) gX2_begin_X2_forgetSeqs rfl rfl rfl ⟨rfl, by decide +kernel⟩ (by decide) 0 rfl rfl rfl [0, 2] (by decide) rfl [1] (Wr := [(a_lengths, .inl (X.1.2.2.1, 4, .inl g4))]) (by decide) rfl (by decide) [1, 0, 2] (by decide) (Wn := fun _ => [(a_this, .inr (2, [.int v_oldest, .int z1, .int 0, .ref a_bytes, .ref a_lengths, .ref a_greatestSeqs])), (a_lengths, .inl (X.1.2.2.1, 4, .inl g4)), (a_greatestSeqs, .inl (X.1.2.2.1, 4, .inl u5))]) (fun _ => rfl) rfl rfl rfl (Nat.le_of_ble_eq_true rfl) dX2_begin_33 ⟨Nat.le_refl _, Nat.le_refl _⟩ (fun _ => ?_)
  rw [← Option.some.inj hf] at hret
  exact hret () _ _ dX2_begin_36
def sX2_countUpTo_7 (v_current : Int32) (J39 : (Int32) → Option ((Int32))) (v_greatestSeqs : Nat → Int32) (x0 : Int32) (R7 : (Int32) → (Int32) → Option ((Int32))) (y2 : Int32) (y3 : Int32) : Option ((Int32)) :=
  (if v_current < y3 then (J39 y2) else (cal1 (fX2_rowOf y3) (fun r4 => (rdI v_greatestSeqs 4 r4 (fun z6 => (if z6 ≤ x0 then (bnd (y2 + 1) (fun z7 => (bnd (y3 + 1) (fun z8 => (R7 z7 z8))))) else (some (y2))))))))
def fX2_countUpTo (v_oldest : Int32) (v_current : Int32) (v_greatestSeqs : Nat → Int32) (x0 : Int32) : Option ((Int32)) :=
  (jp (fun (y1 : Int32) => (some (y1))) (fun J39 => (lo2 (sX2_countUpTo_7 v_current J39 v_greatestSeqs x0) 1000 0 v_oldest)))
theorem inX2_countUpTo_2 : ∀ w ∈ wsX20, w ∈ wsX2_countUpTo := fun _ h => List.mem_cons_of_mem _ (List.mem_append_right _ h)
set_option maxRecDepth 100000 in
set_option maxHeartbeats 8000000 in
theorem cX2_countUpTo_ok (L : XL) (a_this a_bytes a_lengths a_greatestSeqs : Nat) (v_oldest : Int32) (v_current : Int32) (v_synced : Int32) (v_greatestSeqs : Nat → Int32) (x0 : Int32) {t : (Int32)} (hf : fX2_countUpTo v_oldest v_current v_greatestSeqs x0 = some t) : xM L yX2_countUpTo wsX2_countUpTo ({ frames := 1, cells := 0, slots := 0, locals := 20 }) [.ref a_this, .int x0] [(a_this, .inr (2, [.int v_oldest, .int v_current, .int v_synced, .ref a_bytes, .ref a_lengths, .ref a_greatestSeqs])), (a_greatestSeqs, .inl (L.2.2.1, 4, .inl v_greatestSeqs))] 0 0 (some (.int t)) (fun _ : Unit => [(a_this, .inr (2, [.int v_oldest, .int v_current, .int v_synced, .ref a_bytes, .ref a_lengths, .ref a_greatestSeqs])), (a_greatestSeqs, .inl (L.2.2.1, 4, .inl v_greatestSeqs))]) := by
  refine enter_i (own := RX2) (by decide) rfl rfl (Nat.le_of_ble_eq_true rfl) ?_
  intro X hXL C _ hret
  subst hXL
  unfold fX2_countUpTo at hf
  show G X 0 0 [(a_this, .inr (2, [.int v_oldest, .int v_current, .int v_synced, .ref a_bytes, .ref a_lengths, .ref a_greatestSeqs])), (a_greatestSeqs, .inl (X.1.2.2.1, 4, .inl v_greatestSeqs))] [(0, .ref a_this), (1, .int x0)] 0 []
  refine g_iconst (v := 0) C dX2_countUpTo_0 (by decide) ?_
  refine g_istore_n (lv2 := [(2, .int 0), (0, .ref a_this), (1, .int x0)]) C dX2_countUpTo_1 rfl (by decide) rfl ?_
  refine g_aload_n C dX2_countUpTo_2 rfl 1 rfl ?_
  refine g_get C inX2_countUpTo_2 0 rfl rfl 0 (by decide) (List.mem_of_getElem? (i := 1) rfl) rfl rfl dX2_countUpTo_3 ?_
  refine g_istore_n (lv2 := [(3, .int v_oldest), (2, .int 0), (0, .ref a_this), (1, .int x0)]) C dX2_countUpTo_6 rfl (by decide) rfl ?_
  obtain ⟨J39, eJ39, hf⟩ := jp_x hf
  have hJ39 : ∀ (y1 : Int32), J39 y1 = some t → G X 0 0 [(a_this, .inr (2, [.int v_oldest, .int v_current, .int v_synced, .ref a_bytes, .ref a_lengths, .ref a_greatestSeqs])), (a_greatestSeqs, .inl (X.1.2.2.1, 4, .inl v_greatestSeqs))] [(2, .int y1)] 39 [] := by
    intro y1 hf
    have hf := app1 eJ39 hf
    refine g_iload_n C dX2_countUpTo_39 rfl 0 rfl ?_
    rw [← Option.some.inj hf] at hret
    exact hret () _ _ dX2_countUpTo_40
  have hL7 : ∀ (n : Nat) (y2 : Int32) (y3 : Int32), lo2 (sX2_countUpTo_7 v_current J39 v_greatestSeqs x0) n y2 y3 = some t → G X 0 0 [(a_this, .inr (2, [.int v_oldest, .int v_current, .int v_synced, .ref a_bytes, .ref a_lengths, .ref a_greatestSeqs])), (a_greatestSeqs, .inl (X.1.2.2.1, 4, .inl v_greatestSeqs))] [(0, .ref a_this), (1, .int x0), (2, .int y2), (3, .int y3)] 7 [] := by
    intro n
    induction n with
    | zero => intro y2 y3 hf; exact (lo2_z hf).elim
    | succ n ih7 =>
      intro y2 y3 hf
      obtain ⟨R7, eR7, hf⟩ := lo2_x hf
      unfold sX2_countUpTo_7 at hf
      refine g_iload_n C dX2_countUpTo_7 rfl 3 rfl ?_
      refine g_aload_n C dX2_countUpTo_8 rfl 0 rfl ?_
      refine g_get C inX2_countUpTo_2 0 rfl rfl 1 (by decide) (List.mem_of_getElem? (i := 2) rfl) rfl rfl dX2_countUpTo_9 ?_
      refine g_icmp_gt C dX2_countUpTo_12 (tgt := 39) (by decide) hf (fun hf => ?_) (fun hf => ?_)
      · exact g_lv [2] rfl (hJ39 y2 hf)
      · refine g_aload_n C dX2_countUpTo_15 rfl 0 rfl ?_
        refine g_get C inX2_countUpTo_2 0 rfl rfl 5 (by decide) (List.mem_of_getElem? (i := 3) rfl) rfl rfl dX2_countUpTo_16 ?_
        refine g_iload_n C dX2_countUpTo_19 rfl 3 rfl ?_
        obtain ⟨r4, hq5, hf⟩ := cal1_x hf
        refine g_callS (As := [.int y3]) (rest := [.ref a_greatestSeqs]) (st2 := [.int r4, .ref a_greatestSeqs]) (n := 1) C (cX2_rowOf_ok X.1 y3 hq5) gX2_countUpTo_X2_rowOf rfl rfl rfl (by decide +kernel) (by decide) [] (by decide) rfl [0, 1] (Wr := [(a_this, .inr (2, [.int v_oldest, .int v_current, .int v_synced, .ref a_bytes, .ref a_lengths, .ref a_greatestSeqs])), (a_greatestSeqs, .inl (X.1.2.2.1, 4, .inl v_greatestSeqs))]) (by decide) rfl (by decide) [0, 1] (by decide) (Wn := fun _ => [(a_this, .inr (2, [.int v_oldest, .int v_current, .int v_synced, .ref a_bytes, .ref a_lengths, .ref a_greatestSeqs])), (a_greatestSeqs, .inl (X.1.2.2.1, 4, .inl v_greatestSeqs))]) (fun _ => rfl) rfl rfl rfl (Nat.le_of_ble_eq_true rfl) dX2_countUpTo_20 ⟨Nat.le_refl _, Nat.le_refl _⟩ (fun _ => ?_)
        refine g_iaload C 1 rfl dX2_countUpTo_23 hf (fun z6 hf => ?_)
        refine g_iload_n C dX2_countUpTo_24 rfl 1 rfl ?_
        refine g_icmp_le C dX2_countUpTo_25 (tgt := 30) (by decide) hf (fun hf => ?_) (fun hf => ?_)
        · refine g_iinc (v := 1) (lv2 := fun z7 => [(2, .int z7), (0, .ref a_this), (1, .int x0), (3, .int y3)]) C dX2_countUpTo_30 2 rfl (by decide) (by decide) hf (fun _ => rfl) (fun z7 hf => ?_)
          refine g_iinc (v := 1) (lv2 := fun z8 => [(3, .int z8), (2, .int z7), (0, .ref a_this), (1, .int x0)]) C dX2_countUpTo_33 3 rfl (by decide) (by decide) hf (fun _ => rfl) (fun z8 hf => ?_)
          refine g_goto C dX2_countUpTo_36 (tgt := 7) (by decide) ?_
          exact g_lv [2, 3, 1, 0] rfl (ih7 z7 z8 (app2 eR7 hf))
        · refine g_iload_n C dX2_countUpTo_28 rfl 2 rfl ?_
          rw [← Option.some.inj hf] at hret
          exact hret () _ _ dX2_countUpTo_29
  exact g_lv [2, 3, 1, 0] rfl (hL7 _ 0 v_oldest hf)
def fX2_noteSeq (v_greatestSeqs : Nat → Int32) (x0 : Int32) (x1 : Int32) : Option ((Nat → Int32)) :=
  (cal1 (fX2_rowOf x0) (fun r1 => (rdI v_greatestSeqs 4 r1 (fun z3 => (bnd (if z3 < x1 then x1 else z3) (fun z4 => (wrI v_greatestSeqs 4 r1 z4 (fun g5 => (some (g5))))))))))
theorem inX2_noteSeq_2 : ∀ w ∈ wsX20, w ∈ wsX2_noteSeq := fun _ h => List.mem_cons_of_mem _ (List.mem_append_right _ h)
set_option maxRecDepth 100000 in
set_option maxHeartbeats 8000000 in
theorem cX2_noteSeq_ok (L : XL) (a_this a_bytes a_lengths a_greatestSeqs : Nat) (v_oldest : Int32) (v_current : Int32) (v_synced : Int32) (v_greatestSeqs : Nat → Int32) (x0 : Int32) (x1 : Int32) {t : (Nat → Int32)} (hf : fX2_noteSeq v_greatestSeqs x0 x1 = some t) : xM L yX2_noteSeq wsX2_noteSeq ({ frames := 1, cells := 0, slots := 0, locals := 21 }) [.ref a_this, .int x0, .int x1] [(a_this, .inr (2, [.int v_oldest, .int v_current, .int v_synced, .ref a_bytes, .ref a_lengths, .ref a_greatestSeqs])), (a_greatestSeqs, .inl (L.2.2.1, 4, .inl v_greatestSeqs))] 0 0 none (fun _ : Unit => [(a_this, .inr (2, [.int v_oldest, .int v_current, .int v_synced, .ref a_bytes, .ref a_lengths, .ref a_greatestSeqs])), (a_greatestSeqs, .inl (L.2.2.1, 4, .inl t))]) := by
  refine enter_v (own := RX2) (by decide) rfl rfl (Nat.le_of_ble_eq_true rfl) ?_
  intro X hXL C _ hret
  subst hXL
  unfold fX2_noteSeq at hf
  show G X 0 0 [(a_this, .inr (2, [.int v_oldest, .int v_current, .int v_synced, .ref a_bytes, .ref a_lengths, .ref a_greatestSeqs])), (a_greatestSeqs, .inl (X.1.2.2.1, 4, .inl v_greatestSeqs))] [(0, .ref a_this), (1, .int x0), (2, .int x1)] 0 []
  refine g_iload_n C dX2_noteSeq_0 rfl 1 rfl ?_
  obtain ⟨r1, hq2, hf⟩ := cal1_x hf
  refine g_callS (As := [.int x0]) (rest := []) (st2 := [.int r1]) (n := 1) C (cX2_rowOf_ok X.1 x0 hq2) gX2_noteSeq_X2_rowOf rfl rfl rfl (by decide +kernel) (by decide) [] (by decide) rfl [0, 1] (Wr := [(a_this, .inr (2, [.int v_oldest, .int v_current, .int v_synced, .ref a_bytes, .ref a_lengths, .ref a_greatestSeqs])), (a_greatestSeqs, .inl (X.1.2.2.1, 4, .inl v_greatestSeqs))]) (by decide) rfl (by decide) [0, 1] (by decide) (Wn := fun _ => [(a_this, .inr (2, [.int v_oldest, .int v_current, .int v_synced, .ref a_bytes, .ref a_lengths, .ref a_greatestSeqs])), (a_greatestSeqs, .inl (X.1.2.2.1, 4, .inl v_greatestSeqs))]) (fun _ => rfl) rfl rfl rfl (Nat.le_of_ble_eq_true rfl) dX2_noteSeq_1 ⟨Nat.le_refl _, Nat.le_refl _⟩ (fun _ => ?_)
  refine g_istore_n (lv2 := [(3, .int r1), (0, .ref a_this), (1, .int x0), (2, .int x1)]) C dX2_noteSeq_4 rfl (by decide) rfl ?_
  refine g_aload_n C dX2_noteSeq_5 rfl 1 rfl ?_
  refine g_get C inX2_noteSeq_2 0 rfl rfl 5 (by decide) (List.mem_of_getElem? (i := 1) rfl) rfl rfl dX2_noteSeq_6 ?_
  refine g_iload_n C dX2_noteSeq_9 rfl 0 rfl ?_
  refine g_aload_n C dX2_noteSeq_10 rfl 1 rfl ?_
  refine g_get C inX2_noteSeq_2 0 rfl rfl 5 (by decide) (List.mem_of_getElem? (i := 1) rfl) rfl rfl dX2_noteSeq_11 ?_
  refine g_iload_n C dX2_noteSeq_14 rfl 0 rfl ?_
  refine g_iaload C 1 rfl dX2_noteSeq_15 hf (fun z3 hf => ?_)
  refine g_iload_n C dX2_noteSeq_16 rfl 3 rfl ?_
  refine g_mmax C (List.mem_of_getElem? (i := 2) rfl) (List.mem_of_getElem? (i := 3) rfl) (List.mem_of_getElem? (i := 4) rfl) (List.mem_of_getElem? (i := 5) rfl) (Nat.le_of_ble_eq_true rfl) (Nat.le_of_ble_eq_true rfl) (Nat.zero_le _) (Nat.zero_le _) dX2_noteSeq_17 hf (fun z4 hf => ?_)
  refine g_iastore (Wd2 := fun g5 => [(a_this, .inr (2, [.int v_oldest, .int v_current, .int v_synced, .ref a_bytes, .ref a_lengths, .ref a_greatestSeqs])), (a_greatestSeqs, .inl (X.1.2.2.1, 4, .inl g5))]) C 1 rfl dX2_noteSeq_20 hf (fun _ => rfl) (fun g5 hf => ?_)
  rw [← Option.some.inj hf] at hret
  exact hret () _ _ dX2_noteSeq_21
def fX2_hasByte (v_oldest : Int32) (v_current : Int32) (v_lengths : Nat → Int32) (x0 : Int32) (x1 : Int32) : Option ((Int32)) :=
  (jp (fun (k1 : Int32) => (zok k1 (some (k1)))) (fun J38 => (jp (J38 0) (fun J37 => (if x0 < v_oldest then J37 else (if v_current < x0 then J37 else (if x1 < 0 then J37 else (cal1 (fX2_rowOf x0) (fun r2 => (rdI v_lengths 4 r2 (fun z4 => (if z4 ≤ x1 then J37 else (J38 1)))))))))))))
theorem inX2_hasByte_2 : ∀ w ∈ wsX20, w ∈ wsX2_hasByte := fun _ h => List.mem_cons_of_mem _ (List.mem_append_right _ h)
set_option maxRecDepth 100000 in
set_option maxHeartbeats 8000000 in
theorem cX2_hasByte_ok (L : XL) (a_this a_bytes a_lengths a_greatestSeqs : Nat) (v_oldest : Int32) (v_current : Int32) (v_synced : Int32) (v_lengths : Nat → Int32) (x0 : Int32) (x1 : Int32) {t : (Int32)} (hf : fX2_hasByte v_oldest v_current v_lengths x0 x1 = some t) : xM L yX2_hasByte wsX2_hasByte ({ frames := 1, cells := 0, slots := 0, locals := 20 }) [.ref a_this, .int x0, .int x1] [(a_this, .inr (2, [.int v_oldest, .int v_current, .int v_synced, .ref a_bytes, .ref a_lengths, .ref a_greatestSeqs])), (a_lengths, .inl (L.2.2.1, 4, .inl v_lengths))] 0 0 (some (.int t)) (fun _ : Unit => [(a_this, .inr (2, [.int v_oldest, .int v_current, .int v_synced, .ref a_bytes, .ref a_lengths, .ref a_greatestSeqs])), (a_lengths, .inl (L.2.2.1, 4, .inl v_lengths))]) := by
  refine enter_z (own := RX2) (by decide) rfl rfl (Nat.le_of_ble_eq_true rfl) ?_
  intro X hXL C _ hret
  subst hXL
  unfold fX2_hasByte at hf
  show G X 0 0 [(a_this, .inr (2, [.int v_oldest, .int v_current, .int v_synced, .ref a_bytes, .ref a_lengths, .ref a_greatestSeqs])), (a_lengths, .inl (X.1.2.2.1, 4, .inl v_lengths))] [(0, .ref a_this), (1, .int x0), (2, .int x1)] 0 []
  refine g_iload_n C dX2_hasByte_0 rfl 1 rfl ?_
  refine g_aload_n C dX2_hasByte_1 rfl 0 rfl ?_
  refine g_get C inX2_hasByte_2 0 rfl rfl 0 (by decide) (List.mem_of_getElem? (i := 1) rfl) rfl rfl dX2_hasByte_2 ?_
  obtain ⟨J38, eJ38, hf⟩ := jp_x hf
  have hJ38 : ∀ (k1 : Int32), J38 k1 = some t → G X 0 0 [(a_this, .inr (2, [.int v_oldest, .int v_current, .int v_synced, .ref a_bytes, .ref a_lengths, .ref a_greatestSeqs])), (a_lengths, .inl (X.1.2.2.1, 4, .inl v_lengths))] [] 38 [.int k1] := by
    intro k1 hf
    have hf := app1 eJ38 hf
    obtain ⟨hz, hf⟩ := zok_x hf
    rw [← Option.some.inj hf] at hret
    exact hret () _ _ hz dX2_hasByte_38
  obtain ⟨J37, eJ37, hf⟩ := jp_x hf
  have hJ37 : J37 = some t → G X 0 0 [(a_this, .inr (2, [.int v_oldest, .int v_current, .int v_synced, .ref a_bytes, .ref a_lengths, .ref a_greatestSeqs])), (a_lengths, .inl (X.1.2.2.1, 4, .inl v_lengths))] [] 37 [] := by
    intro  hf
    have hf := app0 eJ37 hf
    refine g_iconst (v := 0) C dX2_hasByte_37 (by decide) ?_
    exact hJ38 0 hf
  refine g_icmp_lt C dX2_hasByte_5 (tgt := 37) (by decide) hf (fun hf => ?_) (fun hf => ?_)
  · exact g_lv [] rfl (hJ37 hf)
  · refine g_iload_n C dX2_hasByte_8 rfl 1 rfl ?_
    refine g_aload_n C dX2_hasByte_9 rfl 0 rfl ?_
    refine g_get C inX2_hasByte_2 0 rfl rfl 1 (by decide) (List.mem_of_getElem? (i := 2) rfl) rfl rfl dX2_hasByte_10 ?_
    refine g_icmp_gt C dX2_hasByte_13 (tgt := 37) (by decide) hf (fun hf => ?_) (fun hf => ?_)
    · exact g_lv [] rfl (hJ37 hf)
    · refine g_iload_n C dX2_hasByte_16 rfl 2 rfl ?_
      refine g_if_lt C dX2_hasByte_17 (tgt := 37) (by decide) hf (fun hf => ?_) (fun hf => ?_)
      · exact g_lv [] rfl (hJ37 hf)
      · refine g_iload_n C dX2_hasByte_20 rfl 2 rfl ?_
        refine g_aload_n C dX2_hasByte_21 rfl 0 rfl ?_
        refine g_get C inX2_hasByte_2 0 rfl rfl 4 (by decide) (List.mem_of_getElem? (i := 3) rfl) rfl rfl dX2_hasByte_22 ?_
        refine g_iload_n C dX2_hasByte_25 rfl 1 rfl ?_
        obtain ⟨r2, hq3, hf⟩ := cal1_x hf
        refine g_callS (As := [.int x0]) (rest := [.ref a_lengths, .int x1]) (st2 := [.int r2, .ref a_lengths, .int x1]) (n := 1) C (cX2_rowOf_ok X.1 x0 hq3) gX2_hasByte_X2_rowOf rfl rfl rfl (by decide +kernel) (by decide) [] (by decide) rfl [0, 1] (Wr := [(a_this, .inr (2, [.int v_oldest, .int v_current, .int v_synced, .ref a_bytes, .ref a_lengths, .ref a_greatestSeqs])), (a_lengths, .inl (X.1.2.2.1, 4, .inl v_lengths))]) (by decide) rfl (by decide) [0, 1] (by decide) (Wn := fun _ => [(a_this, .inr (2, [.int v_oldest, .int v_current, .int v_synced, .ref a_bytes, .ref a_lengths, .ref a_greatestSeqs])), (a_lengths, .inl (X.1.2.2.1, 4, .inl v_lengths))]) (fun _ => rfl) rfl rfl rfl (Nat.le_of_ble_eq_true rfl) dX2_hasByte_26 ⟨Nat.le_refl _, Nat.le_refl _⟩ (fun _ => ?_)
        refine g_iaload C 1 rfl dX2_hasByte_29 hf (fun z4 hf => ?_)
        refine g_icmp_ge C dX2_hasByte_30 (tgt := 37) (by decide) hf (fun hf => ?_) (fun hf => ?_)
        · exact g_lv [] rfl (hJ37 hf)
        · refine g_iconst (v := 1) C dX2_hasByte_33 (by decide) ?_
          refine g_goto C dX2_hasByte_34 (tgt := 38) (by decide) ?_
          exact g_lv [] rfl (hJ38 1 hf)
def fX2_change (v_bytes : Nat → Int32) (x0 : Int32) (x1 : Int32) (x2 : Int32) : Option ((Int32) × (Nat → Int32)) :=
  (jp (some (0, v_bytes)) (fun J11 => (if x1 < 0 then J11 else (if x1 < 240 then (cal1 (fX2_rowOf x0) (fun r1 => (bnd (r1 * 240 : Int32) (fun z3 => (bnd (z3 + x1 : Int32) (fun z4 => (rdI v_bytes 960 z4 (fun z5 => (bnd (z5 ^^^ x2 : Int32) (fun z6 => (wrI v_bytes 960 z4 z6 (fun g7 => (rdI g7 960 z4 (fun z8 => (some (z8, g7)))))))))))))))) else J11))))
theorem inX2_change_2 : ∀ w ∈ wsX20, w ∈ wsX2_change := fun _ h => List.mem_cons_of_mem _ (List.mem_append_right _ h)
set_option maxRecDepth 100000 in
set_option maxHeartbeats 8000000 in
theorem cX2_change_ok (L : XL) (a_this a_bytes a_lengths a_greatestSeqs : Nat) (v_oldest : Int32) (v_current : Int32) (v_synced : Int32) (v_bytes : Nat → Int32) (x0 : Int32) (x1 : Int32) (x2 : Int32) {t : (Int32) × (Nat → Int32)} (hf : fX2_change v_bytes x0 x1 x2 = some t) : xM L yX2_change wsX2_change ({ frames := 1, cells := 0, slots := 0, locals := 20 }) [.ref a_this, .int x0, .int x1, .int x2] [(a_this, .inr (2, [.int v_oldest, .int v_current, .int v_synced, .ref a_bytes, .ref a_lengths, .ref a_greatestSeqs])), (a_bytes, .inl (L.2.2.1, 960, .inl v_bytes))] 0 0 (some (.int t.1)) (fun _ : Unit => [(a_this, .inr (2, [.int v_oldest, .int v_current, .int v_synced, .ref a_bytes, .ref a_lengths, .ref a_greatestSeqs])), (a_bytes, .inl (L.2.2.1, 960, .inl t.2))]) := by
  refine enter_i (own := RX2) (by decide) rfl rfl (Nat.le_of_ble_eq_true rfl) ?_
  intro X hXL C _ hret
  subst hXL
  unfold fX2_change at hf
  show G X 0 0 [(a_this, .inr (2, [.int v_oldest, .int v_current, .int v_synced, .ref a_bytes, .ref a_lengths, .ref a_greatestSeqs])), (a_bytes, .inl (X.1.2.2.1, 960, .inl v_bytes))] [(0, .ref a_this), (1, .int x0), (2, .int x1), (3, .int x2)] 0 []
  refine g_iload_n C dX2_change_0 rfl 2 rfl ?_
  obtain ⟨J11, eJ11, hf⟩ := jp_x hf
  have hJ11 : J11 = some t → G X 0 0 [(a_this, .inr (2, [.int v_oldest, .int v_current, .int v_synced, .ref a_bytes, .ref a_lengths, .ref a_greatestSeqs])), (a_bytes, .inl (X.1.2.2.1, 960, .inl v_bytes))] [] 11 [] := by
    intro  hf
    have hf := app0 eJ11 hf
    refine g_iconst (v := 0) C dX2_change_11 (by decide) ?_
    rw [← Option.some.inj hf] at hret
    exact hret () _ _ dX2_change_12
  refine g_if_lt C dX2_change_1 (tgt := 11) (by decide) hf (fun hf => ?_) (fun hf => ?_)
  · exact g_lv [] rfl (hJ11 hf)
  · refine g_iload_n C dX2_change_4 rfl 2 rfl ?_
    refine g_sipush (v := 240) C dX2_change_5 (by decide) ?_
    refine g_icmp_lt C dX2_change_8 (tgt := 13) (by decide) hf (fun hf => ?_) (fun hf => ?_)
    · refine g_iload_n C dX2_change_13 rfl 1 rfl ?_
      obtain ⟨r1, hq2, hf⟩ := cal1_x hf
      refine g_callS (As := [.int x0]) (rest := []) (st2 := [.int r1]) (n := 1) C (cX2_rowOf_ok X.1 x0 hq2) gX2_change_X2_rowOf rfl rfl rfl (by decide +kernel) (by decide) [] (by decide) rfl [0, 1] (Wr := [(a_this, .inr (2, [.int v_oldest, .int v_current, .int v_synced, .ref a_bytes, .ref a_lengths, .ref a_greatestSeqs])), (a_bytes, .inl (X.1.2.2.1, 960, .inl v_bytes))]) (by decide) rfl (by decide) [0, 1] (by decide) (Wn := fun _ => [(a_this, .inr (2, [.int v_oldest, .int v_current, .int v_synced, .ref a_bytes, .ref a_lengths, .ref a_greatestSeqs])), (a_bytes, .inl (X.1.2.2.1, 960, .inl v_bytes))]) (fun _ => rfl) rfl rfl rfl (Nat.le_of_ble_eq_true rfl) dX2_change_14 ⟨Nat.le_refl _, Nat.le_refl _⟩ (fun _ => ?_)
      refine g_sipush (v := 240) C dX2_change_17 (by decide) ?_
      refine g_imul C dX2_change_20 hf (fun z3 hf => ?_)
      refine g_iload_n C dX2_change_21 rfl 2 rfl ?_
      refine g_iadd C dX2_change_22 hf (fun z4 hf => ?_)
      refine g_istore (lv2 := [(4, .int z4), (0, .ref a_this), (1, .int x0), (2, .int x1), (3, .int x2)]) C dX2_change_23 (by decide) rfl ?_
      refine g_aload_n C dX2_change_25 rfl 1 rfl ?_
      refine g_get C inX2_change_2 0 rfl rfl 3 (by decide) (List.mem_of_getElem? (i := 1) rfl) rfl rfl dX2_change_26 ?_
      refine g_iload C dX2_change_29 0 rfl ?_
      refine g_dup2 C dX2_change_31 rfl rfl ?_
      refine g_iaload C 1 rfl dX2_change_32 hf (fun z5 hf => ?_)
      refine g_iload_n C dX2_change_33 rfl 4 rfl ?_
      refine g_ixor C dX2_change_34 hf (fun z6 hf => ?_)
      refine g_iastore (Wd2 := fun g7 => [(a_this, .inr (2, [.int v_oldest, .int v_current, .int v_synced, .ref a_bytes, .ref a_lengths, .ref a_greatestSeqs])), (a_bytes, .inl (X.1.2.2.1, 960, .inl g7))]) C 1 rfl dX2_change_35 hf (fun _ => rfl) (fun g7 hf => ?_)
      refine g_aload_n C dX2_change_36 rfl 1 rfl ?_
      refine g_get C inX2_change_2 0 rfl rfl 3 (by decide) (List.mem_of_getElem? (i := 1) rfl) rfl rfl dX2_change_37 ?_
      refine g_iload C dX2_change_40 0 rfl ?_
      refine g_iaload C 1 rfl dX2_change_42 hf (fun z8 hf => ?_)
      rw [← Option.some.inj hf] at hret
      exact hret () _ _ dX2_change_43
    · exact g_lv [] rfl (hJ11 hf)
def fX2_byteAt (v_bytes : Nat → Int32) (x0 : Int32) (x1 : Int32) : Option ((Int32)) :=
  (jp (fun (k1 : Int32) => (some (k1))) (fun J30 => (jp (J30 0) (fun J29 => (if x1 < 0 then J29 else (if 240 ≤ x1 then J29 else (cal1 (fX2_rowOf x0) (fun r2 => (bnd (r2 * 240 : Int32) (fun z4 => (bnd (z4 + x1 : Int32) (fun z5 => (rdI v_bytes 960 z5 (fun z6 => (J30 z6)))))))))))))))
theorem inX2_byteAt_2 : ∀ w ∈ wsX20, w ∈ wsX2_byteAt := fun _ h => List.mem_cons_of_mem _ (List.mem_append_right _ h)
set_option maxRecDepth 100000 in
set_option maxHeartbeats 8000000 in
theorem cX2_byteAt_ok (L : XL) (a_this a_bytes a_lengths a_greatestSeqs : Nat) (v_oldest : Int32) (v_current : Int32) (v_synced : Int32) (v_bytes : Nat → Int32) (x0 : Int32) (x1 : Int32) {t : (Int32)} (hf : fX2_byteAt v_bytes x0 x1 = some t) : xM L yX2_byteAt wsX2_byteAt ({ frames := 1, cells := 0, slots := 0, locals := 20 }) [.ref a_this, .int x0, .int x1] [(a_this, .inr (2, [.int v_oldest, .int v_current, .int v_synced, .ref a_bytes, .ref a_lengths, .ref a_greatestSeqs])), (a_bytes, .inl (L.2.2.1, 960, .inl v_bytes))] 0 0 (some (.int t)) (fun _ : Unit => [(a_this, .inr (2, [.int v_oldest, .int v_current, .int v_synced, .ref a_bytes, .ref a_lengths, .ref a_greatestSeqs])), (a_bytes, .inl (L.2.2.1, 960, .inl v_bytes))]) := by
  refine enter_i (own := RX2) (by decide) rfl rfl (Nat.le_of_ble_eq_true rfl) ?_
  intro X hXL C _ hret
  subst hXL
  unfold fX2_byteAt at hf
  show G X 0 0 [(a_this, .inr (2, [.int v_oldest, .int v_current, .int v_synced, .ref a_bytes, .ref a_lengths, .ref a_greatestSeqs])), (a_bytes, .inl (X.1.2.2.1, 960, .inl v_bytes))] [(0, .ref a_this), (1, .int x0), (2, .int x1)] 0 []
  refine g_iload_n C dX2_byteAt_0 rfl 2 rfl ?_
  obtain ⟨J30, eJ30, hf⟩ := jp_x hf
  have hJ30 : ∀ (k1 : Int32), J30 k1 = some t → G X 0 0 [(a_this, .inr (2, [.int v_oldest, .int v_current, .int v_synced, .ref a_bytes, .ref a_lengths, .ref a_greatestSeqs])), (a_bytes, .inl (X.1.2.2.1, 960, .inl v_bytes))] [] 30 [.int k1] := by
    intro k1 hf
    have hf := app1 eJ30 hf
    rw [← Option.some.inj hf] at hret
    exact hret () _ _ dX2_byteAt_30
  obtain ⟨J29, eJ29, hf⟩ := jp_x hf
  have hJ29 : J29 = some t → G X 0 0 [(a_this, .inr (2, [.int v_oldest, .int v_current, .int v_synced, .ref a_bytes, .ref a_lengths, .ref a_greatestSeqs])), (a_bytes, .inl (X.1.2.2.1, 960, .inl v_bytes))] [] 29 [] := by
    intro  hf
    have hf := app0 eJ29 hf
    refine g_iconst (v := 0) C dX2_byteAt_29 (by decide) ?_
    exact hJ30 0 hf
  refine g_if_lt C dX2_byteAt_1 (tgt := 29) (by decide) hf (fun hf => ?_) (fun hf => ?_)
  · exact g_lv [] rfl (hJ29 hf)
  · refine g_iload_n C dX2_byteAt_4 rfl 2 rfl ?_
    refine g_sipush (v := 240) C dX2_byteAt_5 (by decide) ?_
    refine g_icmp_ge C dX2_byteAt_8 (tgt := 29) (by decide) hf (fun hf => ?_) (fun hf => ?_)
    · exact g_lv [] rfl (hJ29 hf)
    · refine g_aload_n C dX2_byteAt_11 rfl 0 rfl ?_
      refine g_get C inX2_byteAt_2 0 rfl rfl 3 (by decide) (List.mem_of_getElem? (i := 1) rfl) rfl rfl dX2_byteAt_12 ?_
      refine g_iload_n C dX2_byteAt_15 rfl 1 rfl ?_
      obtain ⟨r2, hq3, hf⟩ := cal1_x hf
      refine g_callS (As := [.int x0]) (rest := [.ref a_bytes]) (st2 := [.int r2, .ref a_bytes]) (n := 1) C (cX2_rowOf_ok X.1 x0 hq3) gX2_byteAt_X2_rowOf rfl rfl rfl (by decide +kernel) (by decide) [] (by decide) rfl [0, 1] (Wr := [(a_this, .inr (2, [.int v_oldest, .int v_current, .int v_synced, .ref a_bytes, .ref a_lengths, .ref a_greatestSeqs])), (a_bytes, .inl (X.1.2.2.1, 960, .inl v_bytes))]) (by decide) rfl (by decide) [0, 1] (by decide) (Wn := fun _ => [(a_this, .inr (2, [.int v_oldest, .int v_current, .int v_synced, .ref a_bytes, .ref a_lengths, .ref a_greatestSeqs])), (a_bytes, .inl (X.1.2.2.1, 960, .inl v_bytes))]) (fun _ => rfl) rfl rfl rfl (Nat.le_of_ble_eq_true rfl) dX2_byteAt_16 ⟨Nat.le_refl _, Nat.le_refl _⟩ (fun _ => ?_)
      refine g_sipush (v := 240) C dX2_byteAt_19 (by decide) ?_
      refine g_imul C dX2_byteAt_22 hf (fun z4 hf => ?_)
      refine g_iload_n C dX2_byteAt_23 rfl 2 rfl ?_
      refine g_iadd C dX2_byteAt_24 hf (fun z5 hf => ?_)
      refine g_iaload C 1 rfl dX2_byteAt_25 hf (fun z6 hf => ?_)
      refine g_goto C dX2_byteAt_26 (tgt := 30) (by decide) ?_
      exact g_lv [] rfl (hJ30 z6 hf)
def sX2_put_12 (x1 : Int32) (J83 : (Nat → Int32) → (Nat → Int32) → Option ((Nat → Int32) × (Nat → Int32))) (r1 : Int32) (x0 : Int64) (R12 : (Int32) → (Nat → Int32) → (Nat → Int32) → Option ((Nat → Int32) × (Nat → Int32))) (y5 : Int32) (w6 : Nat → Int32) (w7 : Nat → Int32) : Option ((Nat → Int32) × (Nat → Int32)) :=
  (if x1 ≤ y5 then (J83 w6 w7) else (rdI w7 4 r1 (fun z8 => (jp (fun (w9 : Nat → Int32) (w10 : Nat → Int32) => (bnd (y5 + 1) (fun z11 => (R12 z11 w9 w10)))) (fun J77 => (if z8 < 0 then (J77 w6 w7) else (if 240 ≤ z8 then (J77 w6 w7) else (bnd (r1 * 240 : Int32) (fun z12 => (bnd (z12 + z8 : Int32) (fun z13 => (bnd (8 * y5 : Int32) (fun z14 => (bnd ((Int64.toUInt64 x0 >>> ((Int32.toInt64 z14).toUInt64 &&& Int64.toUInt64 63)).toInt64 : Int64) (fun z15 => (bnd (Int64.toInt32 z15) (fun z16 => (bnd (z16 &&& 255 : Int32) (fun z17 => (wrI w6 960 z13 z17 (fun g18 => (bnd (z8 + 1 : Int32) (fun z19 => (wrI w7 4 r1 z19 (fun g20 => (J77 g18 g20))))))))))))))))))))))))))
def fX2_put (v_current : Int32) (v_bytes : Nat → Int32) (v_lengths : Nat → Int32) (x0 : Int64) (x1 : Int32) : Option ((Nat → Int32) × (Nat → Int32)) :=
  (cal1 (fX2_rowOf v_current) (fun r1 => (jp (fun (w3 : Nat → Int32) (w4 : Nat → Int32) => (some (w3, w4))) (fun J83 => (lo3 (sX2_put_12 x1 J83 r1 x0) 1000 0 v_bytes v_lengths)))))
theorem inX2_put_2 : ∀ w ∈ wsX20, w ∈ wsX2_put := fun _ h => List.mem_cons_of_mem _ (List.mem_append_right _ h)
set_option maxRecDepth 100000 in
set_option maxHeartbeats 8000000 in
theorem cX2_put_ok (L : XL) (a_this a_bytes a_lengths a_greatestSeqs : Nat) (v_oldest : Int32) (v_current : Int32) (v_synced : Int32) (v_bytes : Nat → Int32) (v_lengths : Nat → Int32) (x0 : Int64) (x1 : Int32) {t : (Nat → Int32) × (Nat → Int32)} (hf : fX2_put v_current v_bytes v_lengths x0 x1 = some t) : xM L yX2_put wsX2_put ({ frames := 1, cells := 0, slots := 0, locals := 20 }) [.ref a_this, .long x0, .int x1] [(a_this, .inr (2, [.int v_oldest, .int v_current, .int v_synced, .ref a_bytes, .ref a_lengths, .ref a_greatestSeqs])), (a_bytes, .inl (L.2.2.1, 960, .inl v_bytes)), (a_lengths, .inl (L.2.2.1, 4, .inl v_lengths))] 0 0 none (fun _ : Unit => [(a_this, .inr (2, [.int v_oldest, .int v_current, .int v_synced, .ref a_bytes, .ref a_lengths, .ref a_greatestSeqs])), (a_bytes, .inl (L.2.2.1, 960, .inl t.1)), (a_lengths, .inl (L.2.2.1, 4, .inl t.2))]) := by
  refine enter_v (own := RX2) (by decide) rfl rfl (Nat.le_of_ble_eq_true rfl) ?_
  intro X hXL C _ hret
  subst hXL
  unfold fX2_put at hf
  show G X 0 0 [(a_this, .inr (2, [.int v_oldest, .int v_current, .int v_synced, .ref a_bytes, .ref a_lengths, .ref a_greatestSeqs])), (a_bytes, .inl (X.1.2.2.1, 960, .inl v_bytes)), (a_lengths, .inl (X.1.2.2.1, 4, .inl v_lengths))] [(0, .ref a_this), (1, .long x0), (3, .int x1)] 0 []
  refine g_aload_n C dX2_put_0 rfl 0 rfl ?_
  refine g_get C inX2_put_2 0 rfl rfl 1 (by decide) (List.mem_of_getElem? (i := 1) rfl) rfl rfl dX2_put_1 ?_
  obtain ⟨r1, hq2, hf⟩ := cal1_x hf
  refine g_callS (As := [.int v_current]) (rest := []) (st2 := [.int r1]) (n := 1) C (cX2_rowOf_ok X.1 v_current hq2) gX2_put_X2_rowOf rfl rfl rfl (by decide +kernel) (by decide) [] (by decide) rfl [0, 1, 2] (Wr := [(a_this, .inr (2, [.int v_oldest, .int v_current, .int v_synced, .ref a_bytes, .ref a_lengths, .ref a_greatestSeqs])), (a_bytes, .inl (X.1.2.2.1, 960, .inl v_bytes)), (a_lengths, .inl (X.1.2.2.1, 4, .inl v_lengths))]) (by decide) rfl (by decide) [0, 1, 2] (by decide) (Wn := fun _ => [(a_this, .inr (2, [.int v_oldest, .int v_current, .int v_synced, .ref a_bytes, .ref a_lengths, .ref a_greatestSeqs])), (a_bytes, .inl (X.1.2.2.1, 960, .inl v_bytes)), (a_lengths, .inl (X.1.2.2.1, 4, .inl v_lengths))]) (fun _ => rfl) rfl rfl rfl (Nat.le_of_ble_eq_true rfl) dX2_put_4 ⟨Nat.le_refl _, Nat.le_refl _⟩ (fun _ => ?_)
  refine g_istore (lv2 := [(4, .int r1), (0, .ref a_this), (1, .long x0), (3, .int x1)]) C dX2_put_7 (by decide) rfl ?_
  refine g_iconst (v := 0) C dX2_put_9 (by decide) ?_
  refine g_istore (lv2 := [(5, .int 0), (4, .int r1), (0, .ref a_this), (1, .long x0), (3, .int x1)]) C dX2_put_10 (by decide) rfl ?_
  obtain ⟨J83, eJ83, hf⟩ := jp_x hf
  have hJ83 : ∀ (w3 : Nat → Int32) (w4 : Nat → Int32), J83 w3 w4 = some t → G X 0 0 [(a_this, .inr (2, [.int v_oldest, .int v_current, .int v_synced, .ref a_bytes, .ref a_lengths, .ref a_greatestSeqs])), (a_bytes, .inl (X.1.2.2.1, 960, .inl w3)), (a_lengths, .inl (X.1.2.2.1, 4, .inl w4))] [] 83 [] := by
    intro w3 w4 hf
    have hf := app2 eJ83 hf
    rw [← Option.some.inj hf] at hret
    exact hret () _ _ dX2_put_83
  have hL12 : ∀ (n : Nat) (y5 : Int32) (w6 : Nat → Int32) (w7 : Nat → Int32), lo3 (sX2_put_12 x1 J83 r1 x0) n y5 w6 w7 = some t → G X 0 0 [(a_this, .inr (2, [.int v_oldest, .int v_current, .int v_synced, .ref a_bytes, .ref a_lengths, .ref a_greatestSeqs])), (a_bytes, .inl (X.1.2.2.1, 960, .inl w6)), (a_lengths, .inl (X.1.2.2.1, 4, .inl w7))] [(0, .ref a_this), (1, .long x0), (3, .int x1), (4, .int r1), (5, .int y5)] 12 [] := by
    intro n
    induction n with
    | zero => intro y5 w6 w7 hf; exact (lo3_z hf).elim
    | succ n ih12 =>
      intro y5 w6 w7 hf
      obtain ⟨R12, eR12, hf⟩ := lo3_x hf
      unfold sX2_put_12 at hf
      refine g_iload C dX2_put_12 4 rfl ?_
      refine g_iload_n C dX2_put_14 rfl 2 rfl ?_
      refine g_icmp_ge C dX2_put_15 (tgt := 83) (by decide) hf (fun hf => ?_) (fun hf => ?_)
      · exact g_lv [] rfl (hJ83 w6 w7 hf)
      · refine g_aload_n C dX2_put_18 rfl 0 rfl ?_
        refine g_get C inX2_put_2 0 rfl rfl 4 (by decide) (List.mem_of_getElem? (i := 2) rfl) rfl rfl dX2_put_19 ?_
        refine g_iload C dX2_put_22 3 rfl ?_
        refine g_iaload C 2 rfl dX2_put_24 hf (fun z8 hf => ?_)
        refine g_istore (lv2 := [(6, .int z8), (0, .ref a_this), (1, .long x0), (3, .int x1), (4, .int r1), (5, .int y5)]) C dX2_put_25 (by decide) rfl ?_
        refine g_iload C dX2_put_27 0 rfl ?_
        obtain ⟨J77, eJ77, hf⟩ := jp_x hf
        have hJ77 : ∀ (w9 : Nat → Int32) (w10 : Nat → Int32), J77 w9 w10 = some t → G X 0 0 [(a_this, .inr (2, [.int v_oldest, .int v_current, .int v_synced, .ref a_bytes, .ref a_lengths, .ref a_greatestSeqs])), (a_bytes, .inl (X.1.2.2.1, 960, .inl w9)), (a_lengths, .inl (X.1.2.2.1, 4, .inl w10))] [(0, .ref a_this), (1, .long x0), (3, .int x1), (4, .int r1), (5, .int y5)] 77 [] := by
          intro w9 w10 hf
          have hf := app2 eJ77 hf
          refine g_iinc (v := 1) (lv2 := fun z11 => [(5, .int z11), (0, .ref a_this), (1, .long x0), (3, .int x1), (4, .int r1)]) C dX2_put_77 4 rfl (by decide) (by decide) hf (fun _ => rfl) (fun z11 hf => ?_)
          refine g_goto C dX2_put_80 (tgt := 12) (by decide) ?_
          exact g_lv [1, 2, 3, 4, 0] rfl (ih12 z11 w9 w10 (app3 eR12 hf))
        refine g_if_lt C dX2_put_29 (tgt := 77) (by decide) hf (fun hf => ?_) (fun hf => ?_)
        · exact g_lv [1, 2, 3, 4, 5] rfl (hJ77 w6 w7 hf)
        · refine g_iload C dX2_put_32 0 rfl ?_
          refine g_sipush (v := 240) C dX2_put_34 (by decide) ?_
          refine g_icmp_ge C dX2_put_37 (tgt := 77) (by decide) hf (fun hf => ?_) (fun hf => ?_)
          · exact g_lv [1, 2, 3, 4, 5] rfl (hJ77 w6 w7 hf)
          · refine g_aload_n C dX2_put_40 rfl 1 rfl ?_
            refine g_get C inX2_put_2 0 rfl rfl 3 (by decide) (List.mem_of_getElem? (i := 3) rfl) rfl rfl dX2_put_41 ?_
            refine g_iload C dX2_put_44 4 rfl ?_
            refine g_sipush (v := 240) C dX2_put_46 (by decide) ?_
            refine g_imul C dX2_put_49 hf (fun z12 hf => ?_)
            refine g_iload C dX2_put_50 0 rfl ?_
            refine g_iadd C dX2_put_52 hf (fun z13 hf => ?_)
            refine g_lload_n C dX2_put_53 rfl 2 rfl ?_
            refine g_bipush (v := 8) C dX2_put_54 (by decide) ?_
            refine g_iload C dX2_put_56 5 rfl ?_
            refine g_imul C dX2_put_58 hf (fun z14 hf => ?_)
            refine g_lushr C dX2_put_59 hf (fun z15 hf => ?_)
            refine g_l2i C dX2_put_60 hf (fun z16 hf => ?_)
            refine g_sipush (v := 255) C dX2_put_61 (by decide) ?_
            refine g_iand C dX2_put_64 hf (fun z17 hf => ?_)
            refine g_iastore (Wd2 := fun g18 => [(a_this, .inr (2, [.int v_oldest, .int v_current, .int v_synced, .ref a_bytes, .ref a_lengths, .ref a_greatestSeqs])), (a_bytes, .inl (X.1.2.2.1, 960, .inl g18)), (a_lengths, .inl (X.1.2.2.1, 4, .inl w7))]) C 1 rfl dX2_put_65 hf (fun _ => rfl) (fun g18 hf => ?_)
            refine g_aload_n C dX2_put_66 rfl 1 rfl ?_
            refine g_get C inX2_put_2 0 rfl rfl 4 (by decide) (List.mem_of_getElem? (i := 2) rfl) rfl rfl dX2_put_67 ?_
            refine g_iload C dX2_put_70 4 rfl ?_
            refine g_iload C dX2_put_72 0 rfl ?_
            refine g_iconst (v := 1) C dX2_put_74 (by decide) ?_
            refine g_iadd C dX2_put_75 hf (fun z19 hf => ?_)
            refine g_iastore (Wd2 := fun g20 => [(a_this, .inr (2, [.int v_oldest, .int v_current, .int v_synced, .ref a_bytes, .ref a_lengths, .ref a_greatestSeqs])), (a_bytes, .inl (X.1.2.2.1, 960, .inl g18)), (a_lengths, .inl (X.1.2.2.1, 4, .inl g20))]) C 2 rfl dX2_put_76 hf (fun _ => rfl) (fun g20 hf => ?_)
            exact g_lv [1, 2, 3, 4, 5] rfl (hJ77 g18 g20 hf)
  exact g_lv [2, 3, 4, 1, 0] rfl (hL12 _ 0 v_bytes v_lengths hf)
def sX2_take_6 (x2 : Int32) (J39 : (Int64) → Option ((Int64))) (x1 : Int32) (v_bytes : Nat → Int32) (x0 : Int32) (R6 : (Int64) → (Int32) → Option ((Int64))) (y2 : Int64) (y3 : Int32) : Option ((Int64)) :=
  (if x2 ≤ y3 then (J39 y2) else (bnd (x1 + y3 : Int32) (fun z4 => (cal1 (fX2_byteAt v_bytes x0 z4) (fun r5 => (bnd (Int32.toInt64 r5) (fun z7 => (bnd (8 * y3 : Int32) (fun z8 => (bnd (z7 <<< (Int32.toInt64 z8 &&& 63) : Int64) (fun z9 => (bnd (y2 ||| z9 : Int64) (fun z10 => (bnd (y3 + 1) (fun z11 => (R6 z10 z11))))))))))))))))
def fX2_take (v_bytes : Nat → Int32) (x0 : Int32) (x1 : Int32) (x2 : Int32) : Option ((Int64)) :=
  (jp (fun (y1 : Int64) => (some (y1))) (fun J39 => (lo2 (sX2_take_6 x2 J39 x1 v_bytes x0) 1000 0 0)))
theorem inX2_take_2 : ∀ w ∈ wsX20, w ∈ wsX2_take := fun _ h => List.mem_cons_of_mem _ (List.mem_append_right _ h)
set_option maxRecDepth 100000 in
set_option maxHeartbeats 8000000 in
theorem cX2_take_ok (L : XL) (a_this a_bytes a_lengths a_greatestSeqs : Nat) (v_oldest : Int32) (v_current : Int32) (v_synced : Int32) (v_bytes : Nat → Int32) (x0 : Int32) (x1 : Int32) (x2 : Int32) {t : (Int64)} (hf : fX2_take v_bytes x0 x1 x2 = some t) : xM L yX2_take wsX2_take ({ frames := 2, cells := 0, slots := 0, locals := 42 }) [.ref a_this, .int x0, .int x1, .int x2] [(a_this, .inr (2, [.int v_oldest, .int v_current, .int v_synced, .ref a_bytes, .ref a_lengths, .ref a_greatestSeqs])), (a_bytes, .inl (L.2.2.1, 960, .inl v_bytes))] 0 0 (some (.long t)) (fun _ : Unit => [(a_this, .inr (2, [.int v_oldest, .int v_current, .int v_synced, .ref a_bytes, .ref a_lengths, .ref a_greatestSeqs])), (a_bytes, .inl (L.2.2.1, 960, .inl v_bytes))]) := by
  refine enter_l (own := RX2) (by decide) rfl rfl (Nat.le_of_ble_eq_true rfl) ?_
  intro X hXL C _ hret
  subst hXL
  unfold fX2_take at hf
  show G X 0 0 [(a_this, .inr (2, [.int v_oldest, .int v_current, .int v_synced, .ref a_bytes, .ref a_lengths, .ref a_greatestSeqs])), (a_bytes, .inl (X.1.2.2.1, 960, .inl v_bytes))] [(0, .ref a_this), (1, .int x0), (2, .int x1), (3, .int x2)] 0 []
  refine g_lconst (v := 0) C dX2_take_0 (by decide) ?_
  refine g_lstore (lv2 := [(4, .long 0), (0, .ref a_this), (1, .int x0), (2, .int x1), (3, .int x2)]) C dX2_take_1 (by decide) rfl ?_
  refine g_iconst (v := 0) C dX2_take_3 (by decide) ?_
  refine g_istore (lv2 := [(6, .int 0), (4, .long 0), (0, .ref a_this), (1, .int x0), (2, .int x1), (3, .int x2)]) C dX2_take_4 (by decide) rfl ?_
  obtain ⟨J39, eJ39, hf⟩ := jp_x hf
  have hJ39 : ∀ (y1 : Int64), J39 y1 = some t → G X 0 0 [(a_this, .inr (2, [.int v_oldest, .int v_current, .int v_synced, .ref a_bytes, .ref a_lengths, .ref a_greatestSeqs])), (a_bytes, .inl (X.1.2.2.1, 960, .inl v_bytes))] [(4, .long y1)] 39 [] := by
    intro y1 hf
    have hf := app1 eJ39 hf
    refine g_lload C dX2_take_39 0 rfl ?_
    rw [← Option.some.inj hf] at hret
    exact hret () _ _ dX2_take_41
  have hL6 : ∀ (n : Nat) (y2 : Int64) (y3 : Int32), lo2 (sX2_take_6 x2 J39 x1 v_bytes x0) n y2 y3 = some t → G X 0 0 [(a_this, .inr (2, [.int v_oldest, .int v_current, .int v_synced, .ref a_bytes, .ref a_lengths, .ref a_greatestSeqs])), (a_bytes, .inl (X.1.2.2.1, 960, .inl v_bytes))] [(0, .ref a_this), (1, .int x0), (2, .int x1), (3, .int x2), (4, .long y2), (6, .int y3)] 6 [] := by
    intro n
    induction n with
    | zero => intro y2 y3 hf; exact (lo2_z hf).elim
    | succ n ih6 =>
      intro y2 y3 hf
      obtain ⟨R6, eR6, hf⟩ := lo2_x hf
      unfold sX2_take_6 at hf
      refine g_iload C dX2_take_6 5 rfl ?_
      refine g_iload_n C dX2_take_8 rfl 3 rfl ?_
      refine g_icmp_ge C dX2_take_9 (tgt := 39) (by decide) hf (fun hf => ?_) (fun hf => ?_)
      · exact g_lv [4] rfl (hJ39 y2 hf)
      · refine g_lload C dX2_take_12 4 rfl ?_
        refine g_aload_n C dX2_take_14 rfl 0 rfl ?_
        refine g_iload_n C dX2_take_15 rfl 1 rfl ?_
        refine g_iload_n C dX2_take_16 rfl 2 rfl ?_
        refine g_iload C dX2_take_17 5 rfl ?_
        refine g_iadd C dX2_take_19 hf (fun z4 hf => ?_)
        obtain ⟨r5, hq6, hf⟩ := cal1_x hf
        refine g_callV (As := [.int x0, .int z4]) (rest := [.long y2]) (st2 := [.int r5, .long y2]) (n := 2) C (cX2_byteAt_ok X.1 a_this a_bytes a_lengths a_greatestSeqs v_oldest v_current v_synced v_bytes x0 z4 hq6) gX2_take_X2_byteAt rfl rfl rfl ⟨rfl, by decide +kernel⟩ (by decide) 0 rfl rfl rfl [0, 1] (by decide) rfl [] (Wr := []) (by decide) rfl (by decide) [0, 1] (by decide) (Wn := fun _ => [(a_this, .inr (2, [.int v_oldest, .int v_current, .int v_synced, .ref a_bytes, .ref a_lengths, .ref a_greatestSeqs])), (a_bytes, .inl (X.1.2.2.1, 960, .inl v_bytes))]) (fun _ => rfl) rfl rfl rfl (Nat.le_of_ble_eq_true rfl) dX2_take_20 ⟨Nat.le_refl _, Nat.le_refl _⟩ (fun _ => ?_)
        refine g_i2l C dX2_take_23 hf (fun z7 hf => ?_)
        refine g_bipush (v := 8) C dX2_take_24 (by decide) ?_
        refine g_iload C dX2_take_26 5 rfl ?_
        refine g_imul C dX2_take_28 hf (fun z8 hf => ?_)
        refine g_lshl C dX2_take_29 hf (fun z9 hf => ?_)
        refine g_lor C dX2_take_30 hf (fun z10 hf => ?_)
        refine g_lstore (lv2 := [(4, .long z10), (0, .ref a_this), (1, .int x0), (2, .int x1), (3, .int x2), (6, .int y3)]) C dX2_take_31 (by decide) rfl ?_
        refine g_iinc (v := 1) (lv2 := fun z11 => [(6, .int z11), (4, .long z10), (0, .ref a_this), (1, .int x0), (2, .int x1), (3, .int x2)]) C dX2_take_33 5 rfl (by decide) (by decide) hf (fun _ => rfl) (fun z11 hf => ?_)
        refine g_goto C dX2_take_36 (tgt := 6) (by decide) ?_
        exact g_lv [2, 3, 4, 5, 1, 0] rfl (ih6 z10 z11 (app2 eR6 hf))
  exact g_lv [2, 3, 4, 5, 1, 0] rfl (hL6 _ 0 0 hf)
def sX2_checksum_29 (J65 : (Int32) → Option ((Int32))) (R29 : (Int32) → (Int32) → Option ((Int32))) (y11 : Int32) (y12 : Int32) : Option ((Int32)) :=
  (if 8 ≤ y12 then (J65 y11) else (bnd (y11 &&& 1 : Int32) (fun z13 => (jp (fun (k14 : Int32) => (bnd (y12 + 1) (fun z15 => (R29 k14 z15)))) (fun J57 => (if z13 = 0 then (bnd ((Int32.toUInt32 y11 >>> (Int32.toUInt32 1 &&& Int32.toUInt32 31)).toInt32 : Int32) (fun z16 => (J57 z16))) else (bnd ((Int32.toUInt32 y11 >>> (Int32.toUInt32 1 &&& Int32.toUInt32 31)).toInt32 : Int32) (fun z17 => (bnd (z17 ^^^ (-306674912) : Int32) (fun z18 => (J57 z18)))))))))))
def sX2_checksum_6 (x2 : Int32) (J71 : (Int32) → Option ((Int32))) (x1 : Int32) (v_bytes : Nat → Int32) (x0 : Int32) (R6 : (Int32) → (Int32) → Option ((Int32))) (y3 : Int32) (y4 : Int32) : Option ((Int32)) :=
  (if x2 ≤ y4 then (J71 y3) else (bnd (x1 + y4 : Int32) (fun z5 => (cal1 (fX2_byteAt v_bytes x0 z5) (fun r6 => (bnd (y3 ^^^ r6 : Int32) (fun z8 => (jp (fun (y9 : Int32) => (bnd (y4 + 1) (fun z10 => (R6 y9 z10)))) (fun J65 => (lo2 (sX2_checksum_29 J65) 1000 z8 0))))))))))
def fX2_checksum (v_bytes : Nat → Int32) (x0 : Int32) (x1 : Int32) (x2 : Int32) : Option ((Int32)) :=
  (jp (fun (y1 : Int32) => (bnd (y1 ^^^ (-1) : Int32) (fun z2 => (some (z2))))) (fun J71 => (lo2 (sX2_checksum_6 x2 J71 x1 v_bytes x0) 1000 (-1) 0)))
theorem inX2_checksum_2 : ∀ w ∈ wsX20, w ∈ wsX2_checksum := fun _ h => List.mem_cons_of_mem _ (List.mem_append_right _ h)
set_option maxRecDepth 100000 in
set_option maxHeartbeats 8000000 in
theorem cX2_checksum_ok (L : XL) (a_this a_bytes a_lengths a_greatestSeqs : Nat) (v_oldest : Int32) (v_current : Int32) (v_synced : Int32) (v_bytes : Nat → Int32) (x0 : Int32) (x1 : Int32) (x2 : Int32) {t : (Int32)} (hf : fX2_checksum v_bytes x0 x1 x2 = some t) : xM L yX2_checksum wsX2_checksum ({ frames := 2, cells := 0, slots := 0, locals := 42 }) [.ref a_this, .int x0, .int x1, .int x2] [(a_this, .inr (2, [.int v_oldest, .int v_current, .int v_synced, .ref a_bytes, .ref a_lengths, .ref a_greatestSeqs])), (a_bytes, .inl (L.2.2.1, 960, .inl v_bytes))] 0 0 (some (.int t)) (fun _ : Unit => [(a_this, .inr (2, [.int v_oldest, .int v_current, .int v_synced, .ref a_bytes, .ref a_lengths, .ref a_greatestSeqs])), (a_bytes, .inl (L.2.2.1, 960, .inl v_bytes))]) := by
  refine enter_i (own := RX2) (by decide) rfl rfl (Nat.le_of_ble_eq_true rfl) ?_
  intro X hXL C _ hret
  subst hXL
  unfold fX2_checksum at hf
  show G X 0 0 [(a_this, .inr (2, [.int v_oldest, .int v_current, .int v_synced, .ref a_bytes, .ref a_lengths, .ref a_greatestSeqs])), (a_bytes, .inl (X.1.2.2.1, 960, .inl v_bytes))] [(0, .ref a_this), (1, .int x0), (2, .int x1), (3, .int x2)] 0 []
  refine g_iconst (v := (-1)) C dX2_checksum_0 (by decide) ?_
  refine g_istore (lv2 := [(4, .int (-1)), (0, .ref a_this), (1, .int x0), (2, .int x1), (3, .int x2)]) C dX2_checksum_1 (by decide) rfl ?_
  refine g_iconst (v := 0) C dX2_checksum_3 (by decide) ?_
  refine g_istore (lv2 := [(5, .int 0), (4, .int (-1)), (0, .ref a_this), (1, .int x0), (2, .int x1), (3, .int x2)]) C dX2_checksum_4 (by decide) rfl ?_
  obtain ⟨J71, eJ71, hf⟩ := jp_x hf
  have hJ71 : ∀ (y1 : Int32), J71 y1 = some t → G X 0 0 [(a_this, .inr (2, [.int v_oldest, .int v_current, .int v_synced, .ref a_bytes, .ref a_lengths, .ref a_greatestSeqs])), (a_bytes, .inl (X.1.2.2.1, 960, .inl v_bytes))] [(4, .int y1)] 71 [] := by
    intro y1 hf
    have hf := app1 eJ71 hf
    refine g_iload C dX2_checksum_71 0 rfl ?_
    refine g_iconst (v := (-1)) C dX2_checksum_73 (by decide) ?_
    refine g_ixor C dX2_checksum_74 hf (fun z2 hf => ?_)
    rw [← Option.some.inj hf] at hret
    exact hret () _ _ dX2_checksum_75
  have hL6 : ∀ (n : Nat) (y3 : Int32) (y4 : Int32), lo2 (sX2_checksum_6 x2 J71 x1 v_bytes x0) n y3 y4 = some t → G X 0 0 [(a_this, .inr (2, [.int v_oldest, .int v_current, .int v_synced, .ref a_bytes, .ref a_lengths, .ref a_greatestSeqs])), (a_bytes, .inl (X.1.2.2.1, 960, .inl v_bytes))] [(0, .ref a_this), (1, .int x0), (2, .int x1), (3, .int x2), (4, .int y3), (5, .int y4)] 6 [] := by
    intro n
    induction n with
    | zero => intro y3 y4 hf; exact (lo2_z hf).elim
    | succ n ih6 =>
      intro y3 y4 hf
      obtain ⟨R6, eR6, hf⟩ := lo2_x hf
      unfold sX2_checksum_6 at hf
      refine g_iload C dX2_checksum_6 5 rfl ?_
      refine g_iload_n C dX2_checksum_8 rfl 3 rfl ?_
      refine g_icmp_ge C dX2_checksum_9 (tgt := 71) (by decide) hf (fun hf => ?_) (fun hf => ?_)
      · exact g_lv [4] rfl (hJ71 y3 hf)
      · refine g_iload C dX2_checksum_12 4 rfl ?_
        refine g_aload_n C dX2_checksum_14 rfl 0 rfl ?_
        refine g_iload_n C dX2_checksum_15 rfl 1 rfl ?_
        refine g_iload_n C dX2_checksum_16 rfl 2 rfl ?_
        refine g_iload C dX2_checksum_17 5 rfl ?_
        refine g_iadd C dX2_checksum_19 hf (fun z5 hf => ?_)
        obtain ⟨r6, hq7, hf⟩ := cal1_x hf
        refine g_callV (As := [.int x0, .int z5]) (rest := [.int y3]) (st2 := [.int r6, .int y3]) (n := 2) C (cX2_byteAt_ok X.1 a_this a_bytes a_lengths a_greatestSeqs v_oldest v_current v_synced v_bytes x0 z5 hq7) gX2_checksum_X2_byteAt rfl rfl rfl ⟨rfl, by decide +kernel⟩ (by decide) 0 rfl rfl rfl [0, 1] (by decide) rfl [] (Wr := []) (by decide) rfl (by decide) [0, 1] (by decide) (Wn := fun _ => [(a_this, .inr (2, [.int v_oldest, .int v_current, .int v_synced, .ref a_bytes, .ref a_lengths, .ref a_greatestSeqs])), (a_bytes, .inl (X.1.2.2.1, 960, .inl v_bytes))]) (fun _ => rfl) rfl rfl rfl (Nat.le_of_ble_eq_true rfl) dX2_checksum_20 ⟨Nat.le_refl _, Nat.le_refl _⟩ (fun _ => ?_)
        refine g_ixor C dX2_checksum_23 hf (fun z8 hf => ?_)
        refine g_istore (lv2 := [(4, .int z8), (0, .ref a_this), (1, .int x0), (2, .int x1), (3, .int x2), (5, .int y4)]) C dX2_checksum_24 (by decide) rfl ?_
        refine g_iconst (v := 0) C dX2_checksum_26 (by decide) ?_
        refine g_istore (lv2 := [(6, .int 0), (4, .int z8), (0, .ref a_this), (1, .int x0), (2, .int x1), (3, .int x2), (5, .int y4)]) C dX2_checksum_27 (by decide) rfl ?_
        obtain ⟨J65, eJ65, hf⟩ := jp_x hf
        have hJ65 : ∀ (y9 : Int32), J65 y9 = some t → G X 0 0 [(a_this, .inr (2, [.int v_oldest, .int v_current, .int v_synced, .ref a_bytes, .ref a_lengths, .ref a_greatestSeqs])), (a_bytes, .inl (X.1.2.2.1, 960, .inl v_bytes))] [(0, .ref a_this), (1, .int x0), (2, .int x1), (3, .int x2), (4, .int y9), (5, .int y4)] 65 [] := by
          intro y9 hf
          have hf := app1 eJ65 hf
          refine g_iinc (v := 1) (lv2 := fun z10 => [(5, .int z10), (0, .ref a_this), (1, .int x0), (2, .int x1), (3, .int x2), (4, .int y9)]) C dX2_checksum_65 5 rfl (by decide) (by decide) hf (fun _ => rfl) (fun z10 hf => ?_)
          refine g_goto C dX2_checksum_68 (tgt := 6) (by decide) ?_
          exact g_lv [1, 2, 3, 4, 5, 0] rfl (ih6 y9 z10 (app2 eR6 hf))
        have hL29 : ∀ (n : Nat) (y11 : Int32) (y12 : Int32), lo2 (sX2_checksum_29 J65) n y11 y12 = some t → G X 0 0 [(a_this, .inr (2, [.int v_oldest, .int v_current, .int v_synced, .ref a_bytes, .ref a_lengths, .ref a_greatestSeqs])), (a_bytes, .inl (X.1.2.2.1, 960, .inl v_bytes))] [(0, .ref a_this), (1, .int x0), (2, .int x1), (3, .int x2), (4, .int y11), (5, .int y4), (6, .int y12)] 29 [] := by
          intro n
          induction n with
          | zero => intro y11 y12 hf; exact (lo2_z hf).elim
          | succ n ih29 =>
            intro y11 y12 hf
            obtain ⟨R29, eR29, hf⟩ := lo2_x hf
            unfold sX2_checksum_29 at hf
            refine g_iload C dX2_checksum_29 6 rfl ?_
            refine g_bipush (v := 8) C dX2_checksum_31 (by decide) ?_
            refine g_icmp_ge C dX2_checksum_33 (tgt := 65) (by decide) hf (fun hf => ?_) (fun hf => ?_)
            · exact g_lv [0, 1, 2, 3, 4, 5] rfl (hJ65 y11 hf)
            · refine g_iload C dX2_checksum_36 4 rfl ?_
              refine g_iconst (v := 1) C dX2_checksum_38 (by decide) ?_
              refine g_iand C dX2_checksum_39 hf (fun z13 hf => ?_)
              obtain ⟨J57, eJ57, hf⟩ := jp_x hf
              have hJ57 : ∀ (k14 : Int32), J57 k14 = some t → G X 0 0 [(a_this, .inr (2, [.int v_oldest, .int v_current, .int v_synced, .ref a_bytes, .ref a_lengths, .ref a_greatestSeqs])), (a_bytes, .inl (X.1.2.2.1, 960, .inl v_bytes))] [(0, .ref a_this), (1, .int x0), (2, .int x1), (3, .int x2), (5, .int y4), (6, .int y12)] 57 [.int k14] := by
                intro k14 hf
                have hf := app1 eJ57 hf
                refine g_istore (lv2 := [(4, .int k14), (0, .ref a_this), (1, .int x0), (2, .int x1), (3, .int x2), (5, .int y4), (6, .int y12)]) C dX2_checksum_57 (by decide) rfl ?_
                refine g_iinc (v := 1) (lv2 := fun z15 => [(6, .int z15), (4, .int k14), (0, .ref a_this), (1, .int x0), (2, .int x1), (3, .int x2), (5, .int y4)]) C dX2_checksum_59 6 rfl (by decide) (by decide) hf (fun _ => rfl) (fun z15 hf => ?_)
                refine g_goto C dX2_checksum_62 (tgt := 29) (by decide) ?_
                exact g_lv [2, 3, 4, 5, 1, 6, 0] rfl (ih29 k14 z15 (app2 eR29 hf))
              refine g_if_eq C dX2_checksum_40 (tgt := 53) (by decide) hf (fun hf => ?_) (fun hf => ?_)
              · refine g_iload C dX2_checksum_53 4 rfl ?_
                refine g_iconst (v := 1) C dX2_checksum_55 (by decide) ?_
                refine g_iushr C dX2_checksum_56 hf (fun z16 hf => ?_)
                exact g_lv [0, 1, 2, 3, 5, 6] rfl (hJ57 z16 hf)
              · refine g_iload C dX2_checksum_43 4 rfl ?_
                refine g_iconst (v := 1) C dX2_checksum_45 (by decide) ?_
                refine g_iushr C dX2_checksum_46 hf (fun z17 hf => ?_)
                refine g_ldc (v := (-306674912)) C dX2_checksum_47 (List.mem_of_getElem? (i := 1) rfl) ?_
                refine g_ixor C dX2_checksum_49 hf (fun z18 hf => ?_)
                refine g_goto C dX2_checksum_50 (tgt := 57) (by decide) ?_
                exact g_lv [0, 1, 2, 3, 5, 6] rfl (hJ57 z18 hf)
        exact g_lv [2, 3, 4, 5, 1, 6, 0] rfl (hL29 _ z8 0 hf)
  exact g_lv [2, 3, 4, 5, 1, 0] rfl (hL6 _ (-1) 0 hf)
def fX2_append (v_current : Int32) (v_bytes : Nat → Int32) (v_lengths : Nat → Int32) (v_greatestSeqs : Nat → Int32) (v_p0_kind : Int32) (v_p0_seq : Int32) (v_p0_id : Int32) (v_p0_version : Int32) (v_p0_source : Int64) : Option ((Nat → Int32) × (Nat → Int32) × (Nat → Int32)) :=
  (cal1 (fX2_lengthOf v_lengths v_current) (fun r1 => (cal1 (fX5_sizeOf v_p0_kind) (fun r3 => (bnd (r3 - 5 : Int32) (fun z5 => (bnd (Int32.toInt64 z5) (fun z6 => (cal2 (fX2_put v_current v_bytes v_lengths z6 1) (fun u7 u8 => (bnd (Int32.toInt64 v_p0_kind) (fun z10 => (cal2 (fX2_put v_current u7 u8 z10 1) (fun u11 u12 => (bnd (Int32.toInt64 v_p0_seq) (fun z14 => (cal2 (fX2_put v_current u11 u12 z14 2) (fun u15 u16 => (jp (fun (w18 : Nat → Int32) (w19 : Nat → Int32) => (jp (fun (w20 : Nat → Int32) (w21 : Nat → Int32) => (bnd (z5 + 1 : Int32) (fun z22 => (cal1 (fX2_checksum w20 v_current r1 z22) (fun r23 => (bnd (Int32.toInt64 r23) (fun z25 => (cal2 (fX2_put v_current w20 w21 z25 4) (fun u26 u27 => (cal1 (fX2_noteSeq v_greatestSeqs v_current v_p0_seq) (fun u29 => (some (u26, u27, u29))))))))))))) (fun J92 => (if v_p0_kind = 1 then (cal2 (fX2_put v_current w18 w19 v_p0_source 8) (fun u31 u32 => (J92 u31 u32))) else (J92 w18 w19))))) (fun J74 => (if v_p0_kind = 3 then (J74 u15 u16) else (bnd (Int32.toInt64 v_p0_id) (fun z34 => (cal2 (fX2_put v_current u15 u16 z34 1) (fun u35 u36 => (bnd (Int32.toInt64 v_p0_version) (fun z38 => (cal2 (fX2_put v_current u35 u36 z38 2) (fun u39 u40 => (J74 u39 u40))))))))))))))))))))))))))))))
theorem inX2_append_2 : ∀ w ∈ wsX20, w ∈ wsX2_append := fun _ h => List.mem_cons_of_mem _ (List.mem_append_left _ (List.mem_append_right _ h))
theorem inX2_append_3 : ∀ w ∈ wsX30, w ∈ wsX2_append := fun _ h => List.mem_cons_of_mem _ (List.mem_append_right _ h)
set_option maxRecDepth 100000 in
set_option maxHeartbeats 8000000 in
theorem cX2_append_ok (L : XL) (a_this a_bytes a_lengths a_greatestSeqs a_p0 : Nat) (v_oldest : Int32) (v_current : Int32) (v_synced : Int32) (v_bytes : Nat → Int32) (v_lengths : Nat → Int32) (v_greatestSeqs : Nat → Int32) (v_p0_kind : Int32) (v_p0_seq : Int32) (v_p0_id : Int32) (v_p0_version : Int32) (v_p0_source : Int64)  {t : (Nat → Int32) × (Nat → Int32) × (Nat → Int32)} (hf : fX2_append v_current v_bytes v_lengths v_greatestSeqs v_p0_kind v_p0_seq v_p0_id v_p0_version v_p0_source = some t) : xM L yX2_append wsX2_append ({ frames := 3, cells := 0, slots := 0, locals := 68 }) [.ref a_this, .ref a_p0] [(a_this, .inr (2, [.int v_oldest, .int v_current, .int v_synced, .ref a_bytes, .ref a_lengths, .ref a_greatestSeqs])), (a_bytes, .inl (L.2.2.1, 960, .inl v_bytes)), (a_lengths, .inl (L.2.2.1, 4, .inl v_lengths)), (a_greatestSeqs, .inl (L.2.2.1, 4, .inl v_greatestSeqs)), (a_p0, .inr (3, [.int v_p0_kind, .int v_p0_seq, .int v_p0_id, .int v_p0_version, .long v_p0_source]))] 0 0 none (fun _ : Unit => [(a_this, .inr (2, [.int v_oldest, .int v_current, .int v_synced, .ref a_bytes, .ref a_lengths, .ref a_greatestSeqs])), (a_bytes, .inl (L.2.2.1, 960, .inl t.1)), (a_lengths, .inl (L.2.2.1, 4, .inl t.2.1)), (a_greatestSeqs, .inl (L.2.2.1, 4, .inl t.2.2)), (a_p0, .inr (3, [.int v_p0_kind, .int v_p0_seq, .int v_p0_id, .int v_p0_version, .long v_p0_source]))]) := by
  refine enter_v (own := RX2) (by decide) rfl rfl (Nat.le_of_ble_eq_true rfl) ?_
  intro X hXL C _ hret
  subst hXL
  unfold fX2_append at hf
  show G X 0 0 [(a_this, .inr (2, [.int v_oldest, .int v_current, .int v_synced, .ref a_bytes, .ref a_lengths, .ref a_greatestSeqs])), (a_bytes, .inl (X.1.2.2.1, 960, .inl v_bytes)), (a_lengths, .inl (X.1.2.2.1, 4, .inl v_lengths)), (a_greatestSeqs, .inl (X.1.2.2.1, 4, .inl v_greatestSeqs)), (a_p0, .inr (3, [.int v_p0_kind, .int v_p0_seq, .int v_p0_id, .int v_p0_version, .long v_p0_source]))] [(0, .ref a_this), (1, .ref a_p0)] 0 []
  refine g_aload_n C dX2_append_0 rfl 0 rfl ?_
  refine g_aload_n C dX2_append_1 rfl 0 rfl ?_
  refine g_get C inX2_append_2 0 rfl rfl 1 (by decide) (List.mem_of_getElem? (i := 1) rfl) rfl rfl dX2_append_2 ?_
  obtain ⟨r1, hq2, hf⟩ := cal1_x hf
  refine g_callV (As := [.int v_current]) (rest := []) (st2 := [.int r1]) (n := 1) C (cX2_lengthOf_ok X.1 a_this a_bytes a_lengths a_greatestSeqs v_oldest v_current v_synced v_lengths v_current hq2) gX2_append_X2_lengthOf rfl rfl rfl ⟨rfl, by decide +kernel⟩ (by decide) 0 rfl rfl rfl [0, 2] (by decide) rfl [1, 3, 4] (Wr := [(a_bytes, .inl (X.1.2.2.1, 960, .inl v_bytes)), (a_greatestSeqs, .inl (X.1.2.2.1, 4, .inl v_greatestSeqs)), (a_p0, .inr (3, [.int v_p0_kind, .int v_p0_seq, .int v_p0_id, .int v_p0_version, .long v_p0_source]))]) (by decide) rfl (by decide) [3, 0, 4, 1, 2] (by decide) (Wn := fun _ => [(a_this, .inr (2, [.int v_oldest, .int v_current, .int v_synced, .ref a_bytes, .ref a_lengths, .ref a_greatestSeqs])), (a_bytes, .inl (X.1.2.2.1, 960, .inl v_bytes)), (a_lengths, .inl (X.1.2.2.1, 4, .inl v_lengths)), (a_greatestSeqs, .inl (X.1.2.2.1, 4, .inl v_greatestSeqs)), (a_p0, .inr (3, [.int v_p0_kind, .int v_p0_seq, .int v_p0_id, .int v_p0_version, .long v_p0_source]))]) (fun _ => rfl) rfl rfl rfl (Nat.le_of_ble_eq_true rfl) dX2_append_5 ⟨Nat.le_refl _, Nat.le_refl _⟩ (fun _ => ?_)
  refine g_istore_n (lv2 := [(2, .int r1), (0, .ref a_this), (1, .ref a_p0)]) C dX2_append_8 rfl (by decide) rfl ?_
  refine g_aload_n C dX2_append_9 rfl 2 rfl ?_
  refine g_get C inX2_append_3 4 rfl rfl 0 (by decide) (List.mem_of_getElem? (i := 2) rfl) rfl rfl dX2_append_10 ?_
  obtain ⟨r3, hq4, hf⟩ := cal1_x hf
  refine g_callSN (As := [.int v_p0_kind]) (rest := []) (st2 := [.int r3]) (n := 1) C (host := RX5) (fun U h => h.2.2.1) (List.mem_of_getElem? (i := 16) rfl) (List.mem_of_getElem? (i := 17) rfl) (cX5_sizeOf_ok X.1 v_p0_kind hq4) gX2_append_X5_sizeOf_n57 rfl rfl rfl (by decide +kernel) (by decide) [] (by decide) rfl [0, 1, 2, 3, 4] (Wr := [(a_this, .inr (2, [.int v_oldest, .int v_current, .int v_synced, .ref a_bytes, .ref a_lengths, .ref a_greatestSeqs])), (a_bytes, .inl (X.1.2.2.1, 960, .inl v_bytes)), (a_lengths, .inl (X.1.2.2.1, 4, .inl v_lengths)), (a_greatestSeqs, .inl (X.1.2.2.1, 4, .inl v_greatestSeqs)), (a_p0, .inr (3, [.int v_p0_kind, .int v_p0_seq, .int v_p0_id, .int v_p0_version, .long v_p0_source]))]) (by decide) rfl (by decide) [0, 1, 2, 3, 4] (by decide) (Wn := fun _ => [(a_this, .inr (2, [.int v_oldest, .int v_current, .int v_synced, .ref a_bytes, .ref a_lengths, .ref a_greatestSeqs])), (a_bytes, .inl (X.1.2.2.1, 960, .inl v_bytes)), (a_lengths, .inl (X.1.2.2.1, 4, .inl v_lengths)), (a_greatestSeqs, .inl (X.1.2.2.1, 4, .inl v_greatestSeqs)), (a_p0, .inr (3, [.int v_p0_kind, .int v_p0_seq, .int v_p0_id, .int v_p0_version, .long v_p0_source]))]) (fun _ => rfl) rfl rfl rfl (Nat.le_of_ble_eq_true rfl) dX2_append_13 ⟨Nat.le_refl _, Nat.le_refl _⟩ (fun _ => ?_)
  refine g_iconst (v := 5) C dX2_append_16 (by decide) ?_
  refine g_isub C dX2_append_17 hf (fun z5 hf => ?_)
  refine g_istore_n (lv2 := [(3, .int z5), (2, .int r1), (0, .ref a_this), (1, .ref a_p0)]) C dX2_append_18 rfl (by decide) rfl ?_
  refine g_aload_n C dX2_append_19 rfl 2 rfl ?_
  refine g_iload_n C dX2_append_20 rfl 0 rfl ?_
  refine g_i2l C dX2_append_21 hf (fun z6 hf => ?_)
  refine g_iconst (v := 1) C dX2_append_22 (by decide) ?_
  obtain ⟨u7, u8, hq9, hf⟩ := cal2_x hf
  refine g_callV (As := [.long z6, .int 1]) (rest := []) (st2 := []) (n := 2) C (cX2_put_ok X.1 a_this a_bytes a_lengths a_greatestSeqs v_oldest v_current v_synced v_bytes v_lengths z6 1 hq9) gX2_append_X2_put rfl rfl rfl ⟨rfl, by decide +kernel⟩ (by decide) 0 rfl rfl rfl [0, 1, 2] (by decide) rfl [3, 4] (Wr := [(a_greatestSeqs, .inl (X.1.2.2.1, 4, .inl v_greatestSeqs)), (a_p0, .inr (3, [.int v_p0_kind, .int v_p0_seq, .int v_p0_id, .int v_p0_version, .long v_p0_source]))]) (by decide) rfl (by decide) [2, 3, 4, 0, 1] (by decide) (Wn := fun _ => [(a_this, .inr (2, [.int v_oldest, .int v_current, .int v_synced, .ref a_bytes, .ref a_lengths, .ref a_greatestSeqs])), (a_bytes, .inl (X.1.2.2.1, 960, .inl u7)), (a_lengths, .inl (X.1.2.2.1, 4, .inl u8)), (a_greatestSeqs, .inl (X.1.2.2.1, 4, .inl v_greatestSeqs)), (a_p0, .inr (3, [.int v_p0_kind, .int v_p0_seq, .int v_p0_id, .int v_p0_version, .long v_p0_source]))]) (fun _ => rfl) rfl rfl rfl (Nat.le_of_ble_eq_true rfl) dX2_append_23 ⟨Nat.le_refl _, Nat.le_refl _⟩ (fun _ => ?_)
  refine g_aload_n C dX2_append_26 rfl 2 rfl ?_
  refine g_aload_n C dX2_append_27 rfl 3 rfl ?_
  refine g_get C inX2_append_3 4 rfl rfl 0 (by decide) (List.mem_of_getElem? (i := 2) rfl) rfl rfl dX2_append_28 ?_
  refine g_i2l C dX2_append_31 hf (fun z10 hf => ?_)
  refine g_iconst (v := 1) C dX2_append_32 (by decide) ?_
  obtain ⟨u11, u12, hq13, hf⟩ := cal2_x hf
  refine g_callV (As := [.long z10, .int 1]) (rest := []) (st2 := []) (n := 2) C (cX2_put_ok X.1 a_this a_bytes a_lengths a_greatestSeqs v_oldest v_current v_synced u7 u8 z10 1 hq13) gX2_append_X2_put rfl rfl rfl ⟨rfl, by decide +kernel⟩ (by decide) 0 rfl rfl rfl [0, 1, 2] (by decide) rfl [3, 4] (Wr := [(a_greatestSeqs, .inl (X.1.2.2.1, 4, .inl v_greatestSeqs)), (a_p0, .inr (3, [.int v_p0_kind, .int v_p0_seq, .int v_p0_id, .int v_p0_version, .long v_p0_source]))]) (by decide) rfl (by decide) [2, 3, 4, 0, 1] (by decide) (Wn := fun _ => [(a_this, .inr (2, [.int v_oldest, .int v_current, .int v_synced, .ref a_bytes, .ref a_lengths, .ref a_greatestSeqs])), (a_bytes, .inl (X.1.2.2.1, 960, .inl u11)), (a_lengths, .inl (X.1.2.2.1, 4, .inl u12)), (a_greatestSeqs, .inl (X.1.2.2.1, 4, .inl v_greatestSeqs)), (a_p0, .inr (3, [.int v_p0_kind, .int v_p0_seq, .int v_p0_id, .int v_p0_version, .long v_p0_source]))]) (fun _ => rfl) rfl rfl rfl (Nat.le_of_ble_eq_true rfl) dX2_append_33 ⟨Nat.le_refl _, Nat.le_refl _⟩ (fun _ => ?_)
  refine g_aload_n C dX2_append_36 rfl 2 rfl ?_
  refine g_aload_n C dX2_append_37 rfl 3 rfl ?_
  refine g_get C inX2_append_3 4 rfl rfl 1 (by decide) (List.mem_of_getElem? (i := 3) rfl) rfl rfl dX2_append_38 ?_
  refine g_i2l C dX2_append_41 hf (fun z14 hf => ?_)
  refine g_iconst (v := 2) C dX2_append_42 (by decide) ?_
  obtain ⟨u15, u16, hq17, hf⟩ := cal2_x hf
  refine g_callV (As := [.long z14, .int 2]) (rest := []) (st2 := []) (n := 2) C (cX2_put_ok X.1 a_this a_bytes a_lengths a_greatestSeqs v_oldest v_current v_synced u11 u12 z14 2 hq17) gX2_append_X2_put rfl rfl rfl ⟨rfl, by decide +kernel⟩ (by decide) 0 rfl rfl rfl [0, 1, 2] (by decide) rfl [3, 4] (Wr := [(a_greatestSeqs, .inl (X.1.2.2.1, 4, .inl v_greatestSeqs)), (a_p0, .inr (3, [.int v_p0_kind, .int v_p0_seq, .int v_p0_id, .int v_p0_version, .long v_p0_source]))]) (by decide) rfl (by decide) [2, 3, 4, 0, 1] (by decide) (Wn := fun _ => [(a_this, .inr (2, [.int v_oldest, .int v_current, .int v_synced, .ref a_bytes, .ref a_lengths, .ref a_greatestSeqs])), (a_bytes, .inl (X.1.2.2.1, 960, .inl u15)), (a_lengths, .inl (X.1.2.2.1, 4, .inl u16)), (a_greatestSeqs, .inl (X.1.2.2.1, 4, .inl v_greatestSeqs)), (a_p0, .inr (3, [.int v_p0_kind, .int v_p0_seq, .int v_p0_id, .int v_p0_version, .long v_p0_source]))]) (fun _ => rfl) rfl rfl rfl (Nat.le_of_ble_eq_true rfl) dX2_append_43 ⟨Nat.le_refl _, Nat.le_refl _⟩ (fun _ => ?_)
  refine g_aload_n C dX2_append_46 rfl 3 rfl ?_
  refine g_get C inX2_append_3 4 rfl rfl 0 (by decide) (List.mem_of_getElem? (i := 2) rfl) rfl rfl dX2_append_47 ?_
  refine g_iconst (v := 3) C dX2_append_50 (by decide) ?_
  obtain ⟨J74, eJ74, hf⟩ := jp_x hf
  have hJ74 : ∀ (w18 : Nat → Int32) (w19 : Nat → Int32), J74 w18 w19 = some t → G X 0 0 [(a_this, .inr (2, [.int v_oldest, .int v_current, .int v_synced, .ref a_bytes, .ref a_lengths, .ref a_greatestSeqs])), (a_bytes, .inl (X.1.2.2.1, 960, .inl w18)), (a_lengths, .inl (X.1.2.2.1, 4, .inl w19)), (a_greatestSeqs, .inl (X.1.2.2.1, 4, .inl v_greatestSeqs)), (a_p0, .inr (3, [.int v_p0_kind, .int v_p0_seq, .int v_p0_id, .int v_p0_version, .long v_p0_source]))] [(0, .ref a_this), (1, .ref a_p0), (2, .int r1), (3, .int z5)] 74 [] := by
    intro w18 w19 hf
    have hf := app2 eJ74 hf
    refine g_aload_n C dX2_append_74 rfl 1 rfl ?_
    refine g_get C inX2_append_3 4 rfl rfl 0 (by decide) (List.mem_of_getElem? (i := 2) rfl) rfl rfl dX2_append_75 ?_
    refine g_iconst (v := 1) C dX2_append_78 (by decide) ?_
    obtain ⟨J92, eJ92, hf⟩ := jp_x hf
    have hJ92 : ∀ (w20 : Nat → Int32) (w21 : Nat → Int32), J92 w20 w21 = some t → G X 0 0 [(a_this, .inr (2, [.int v_oldest, .int v_current, .int v_synced, .ref a_bytes, .ref a_lengths, .ref a_greatestSeqs])), (a_bytes, .inl (X.1.2.2.1, 960, .inl w20)), (a_lengths, .inl (X.1.2.2.1, 4, .inl w21)), (a_greatestSeqs, .inl (X.1.2.2.1, 4, .inl v_greatestSeqs)), (a_p0, .inr (3, [.int v_p0_kind, .int v_p0_seq, .int v_p0_id, .int v_p0_version, .long v_p0_source]))] [(0, .ref a_this), (1, .ref a_p0), (2, .int r1), (3, .int z5)] 92 [] := by
      intro w20 w21 hf
      have hf := app2 eJ92 hf
      refine g_aload_n C dX2_append_92 rfl 0 rfl ?_
      refine g_aload_n C dX2_append_93 rfl 0 rfl ?_
      refine g_aload_n C dX2_append_94 rfl 0 rfl ?_
      refine g_get C inX2_append_2 0 rfl rfl 1 (by decide) (List.mem_of_getElem? (i := 1) rfl) rfl rfl dX2_append_95 ?_
      refine g_iload_n C dX2_append_98 rfl 2 rfl ?_
      refine g_iload_n C dX2_append_99 rfl 3 rfl ?_
      refine g_iconst (v := 1) C dX2_append_100 (by decide) ?_
      refine g_iadd C dX2_append_101 hf (fun z22 hf => ?_)
      obtain ⟨r23, hq24, hf⟩ := cal1_x hf
      refine g_callV (As := [.int v_current, .int r1, .int z22]) (rest := [.ref a_this]) (st2 := [.int r23, .ref a_this]) (n := 3) C (cX2_checksum_ok X.1 a_this a_bytes a_lengths a_greatestSeqs v_oldest v_current v_synced w20 v_current r1 z22 hq24) gX2_append_X2_checksum rfl rfl rfl ⟨rfl, by decide +kernel⟩ (by decide) 0 rfl rfl rfl [0, 1] (by decide) rfl [2, 3, 4] (Wr := [(a_lengths, .inl (X.1.2.2.1, 4, .inl w21)), (a_greatestSeqs, .inl (X.1.2.2.1, 4, .inl v_greatestSeqs)), (a_p0, .inr (3, [.int v_p0_kind, .int v_p0_seq, .int v_p0_id, .int v_p0_version, .long v_p0_source]))]) (by decide) rfl (by decide) [3, 4, 0, 1, 2] (by decide) (Wn := fun _ => [(a_this, .inr (2, [.int v_oldest, .int v_current, .int v_synced, .ref a_bytes, .ref a_lengths, .ref a_greatestSeqs])), (a_bytes, .inl (X.1.2.2.1, 960, .inl w20)), (a_lengths, .inl (X.1.2.2.1, 4, .inl w21)), (a_greatestSeqs, .inl (X.1.2.2.1, 4, .inl v_greatestSeqs)), (a_p0, .inr (3, [.int v_p0_kind, .int v_p0_seq, .int v_p0_id, .int v_p0_version, .long v_p0_source]))]) (fun _ => rfl) rfl rfl rfl (Nat.le_of_ble_eq_true rfl) dX2_append_102 ⟨Nat.le_refl _, Nat.le_refl _⟩ (fun _ => ?_)
      refine g_i2l C dX2_append_105 hf (fun z25 hf => ?_)
      refine g_iconst (v := 4) C dX2_append_106 (by decide) ?_
      obtain ⟨u26, u27, hq28, hf⟩ := cal2_x hf
      refine g_callV (As := [.long z25, .int 4]) (rest := []) (st2 := []) (n := 2) C (cX2_put_ok X.1 a_this a_bytes a_lengths a_greatestSeqs v_oldest v_current v_synced w20 w21 z25 4 hq28) gX2_append_X2_put rfl rfl rfl ⟨rfl, by decide +kernel⟩ (by decide) 0 rfl rfl rfl [0, 1, 2] (by decide) rfl [3, 4] (Wr := [(a_greatestSeqs, .inl (X.1.2.2.1, 4, .inl v_greatestSeqs)), (a_p0, .inr (3, [.int v_p0_kind, .int v_p0_seq, .int v_p0_id, .int v_p0_version, .long v_p0_source]))]) (by decide) rfl (by decide) [2, 3, 4, 0, 1] (by decide) (Wn := fun _ => [(a_this, .inr (2, [.int v_oldest, .int v_current, .int v_synced, .ref a_bytes, .ref a_lengths, .ref a_greatestSeqs])), (a_bytes, .inl (X.1.2.2.1, 960, .inl u26)), (a_lengths, .inl (X.1.2.2.1, 4, .inl u27)), (a_greatestSeqs, .inl (X.1.2.2.1, 4, .inl v_greatestSeqs)), (a_p0, .inr (3, [.int v_p0_kind, .int v_p0_seq, .int v_p0_id, .int v_p0_version, .long v_p0_source]))]) (fun _ => rfl) rfl rfl rfl (Nat.le_of_ble_eq_true rfl) dX2_append_107 ⟨Nat.le_refl _, Nat.le_refl _⟩ (fun _ => ?_)
      refine g_aload_n C dX2_append_110 rfl 0 rfl ?_
      refine g_aload_n C dX2_append_111 rfl 0 rfl ?_
      refine g_get C inX2_append_2 0 rfl rfl 1 (by decide) (List.mem_of_getElem? (i := 1) rfl) rfl rfl dX2_append_112 ?_
      refine g_aload_n C dX2_append_115 rfl 1 rfl ?_
      refine g_get C inX2_append_3 4 rfl rfl 1 (by decide) (List.mem_of_getElem? (i := 3) rfl) rfl rfl dX2_append_116 ?_
      obtain ⟨u29, hq30, hf⟩ := cal1_x hf
      refine g_callV (As := [.int v_current, .int v_p0_seq]) (rest := []) (st2 := []) (n := 2) C (cX2_noteSeq_ok X.1 a_this a_bytes a_lengths a_greatestSeqs v_oldest v_current v_synced v_greatestSeqs v_current v_p0_seq hq30) gX2_append_X2_noteSeq rfl rfl rfl ⟨rfl, by decide +kernel⟩ (by decide) 0 rfl rfl rfl [0, 3] (by decide) rfl [1, 2, 4] (Wr := [(a_bytes, .inl (X.1.2.2.1, 960, .inl u26)), (a_lengths, .inl (X.1.2.2.1, 4, .inl u27)), (a_p0, .inr (3, [.int v_p0_kind, .int v_p0_seq, .int v_p0_id, .int v_p0_version, .long v_p0_source]))]) (by decide) rfl (by decide) [3, 0, 1, 4, 2] (by decide) (Wn := fun _ => [(a_this, .inr (2, [.int v_oldest, .int v_current, .int v_synced, .ref a_bytes, .ref a_lengths, .ref a_greatestSeqs])), (a_bytes, .inl (X.1.2.2.1, 960, .inl u26)), (a_lengths, .inl (X.1.2.2.1, 4, .inl u27)), (a_greatestSeqs, .inl (X.1.2.2.1, 4, .inl u29)), (a_p0, .inr (3, [.int v_p0_kind, .int v_p0_seq, .int v_p0_id, .int v_p0_version, .long v_p0_source]))]) (fun _ => rfl) rfl rfl rfl (Nat.le_of_ble_eq_true rfl) dX2_append_119 ⟨Nat.le_refl _, Nat.le_refl _⟩ (fun _ => ?_)
      rw [← Option.some.inj hf] at hret
      exact hret () _ _ dX2_append_122
    refine g_icmp_ne C dX2_append_79 (tgt := 92) (by decide) hf (fun hf => ?_) (fun hf => ?_)
    · exact hJ92 w18 w19 hf
    · refine g_aload_n C dX2_append_82 rfl 0 rfl ?_
      refine g_aload_n C dX2_append_83 rfl 1 rfl ?_
      refine g_get C inX2_append_3 4 rfl rfl 4 (by decide) (List.mem_of_getElem? (i := 6) rfl) rfl rfl dX2_append_84 ?_
      refine g_bipush (v := 8) C dX2_append_87 (by decide) ?_
      obtain ⟨u31, u32, hq33, hf⟩ := cal2_x hf
      refine g_callV (As := [.long v_p0_source, .int 8]) (rest := []) (st2 := []) (n := 2) C (cX2_put_ok X.1 a_this a_bytes a_lengths a_greatestSeqs v_oldest v_current v_synced w18 w19 v_p0_source 8 hq33) gX2_append_X2_put rfl rfl rfl ⟨rfl, by decide +kernel⟩ (by decide) 0 rfl rfl rfl [0, 1, 2] (by decide) rfl [3, 4] (Wr := [(a_greatestSeqs, .inl (X.1.2.2.1, 4, .inl v_greatestSeqs)), (a_p0, .inr (3, [.int v_p0_kind, .int v_p0_seq, .int v_p0_id, .int v_p0_version, .long v_p0_source]))]) (by decide) rfl (by decide) [2, 3, 4, 0, 1] (by decide) (Wn := fun _ => [(a_this, .inr (2, [.int v_oldest, .int v_current, .int v_synced, .ref a_bytes, .ref a_lengths, .ref a_greatestSeqs])), (a_bytes, .inl (X.1.2.2.1, 960, .inl u31)), (a_lengths, .inl (X.1.2.2.1, 4, .inl u32)), (a_greatestSeqs, .inl (X.1.2.2.1, 4, .inl v_greatestSeqs)), (a_p0, .inr (3, [.int v_p0_kind, .int v_p0_seq, .int v_p0_id, .int v_p0_version, .long v_p0_source]))]) (fun _ => rfl) rfl rfl rfl (Nat.le_of_ble_eq_true rfl) dX2_append_89 ⟨Nat.le_refl _, Nat.le_refl _⟩ (fun _ => ?_)
      exact hJ92 u31 u32 hf
  refine g_icmp_eq C dX2_append_51 (tgt := 74) (by decide) hf (fun hf => ?_) (fun hf => ?_)
  · exact g_lv [2, 3, 1, 0] rfl (hJ74 u15 u16 hf)
  · refine g_aload_n C dX2_append_54 rfl 2 rfl ?_
    refine g_aload_n C dX2_append_55 rfl 3 rfl ?_
    refine g_get C inX2_append_3 4 rfl rfl 2 (by decide) (List.mem_of_getElem? (i := 4) rfl) rfl rfl dX2_append_56 ?_
    refine g_i2l C dX2_append_59 hf (fun z34 hf => ?_)
    refine g_iconst (v := 1) C dX2_append_60 (by decide) ?_
    obtain ⟨u35, u36, hq37, hf⟩ := cal2_x hf
    refine g_callV (As := [.long z34, .int 1]) (rest := []) (st2 := []) (n := 2) C (cX2_put_ok X.1 a_this a_bytes a_lengths a_greatestSeqs v_oldest v_current v_synced u15 u16 z34 1 hq37) gX2_append_X2_put rfl rfl rfl ⟨rfl, by decide +kernel⟩ (by decide) 0 rfl rfl rfl [0, 1, 2] (by decide) rfl [3, 4] (Wr := [(a_greatestSeqs, .inl (X.1.2.2.1, 4, .inl v_greatestSeqs)), (a_p0, .inr (3, [.int v_p0_kind, .int v_p0_seq, .int v_p0_id, .int v_p0_version, .long v_p0_source]))]) (by decide) rfl (by decide) [2, 3, 4, 0, 1] (by decide) (Wn := fun _ => [(a_this, .inr (2, [.int v_oldest, .int v_current, .int v_synced, .ref a_bytes, .ref a_lengths, .ref a_greatestSeqs])), (a_bytes, .inl (X.1.2.2.1, 960, .inl u35)), (a_lengths, .inl (X.1.2.2.1, 4, .inl u36)), (a_greatestSeqs, .inl (X.1.2.2.1, 4, .inl v_greatestSeqs)), (a_p0, .inr (3, [.int v_p0_kind, .int v_p0_seq, .int v_p0_id, .int v_p0_version, .long v_p0_source]))]) (fun _ => rfl) rfl rfl rfl (Nat.le_of_ble_eq_true rfl) dX2_append_61 ⟨Nat.le_refl _, Nat.le_refl _⟩ (fun _ => ?_)
    refine g_aload_n C dX2_append_64 rfl 2 rfl ?_
    refine g_aload_n C dX2_append_65 rfl 3 rfl ?_
    refine g_get C inX2_append_3 4 rfl rfl 3 (by decide) (List.mem_of_getElem? (i := 5) rfl) rfl rfl dX2_append_66 ?_
    refine g_i2l C dX2_append_69 hf (fun z38 hf => ?_)
    refine g_iconst (v := 2) C dX2_append_70 (by decide) ?_
    obtain ⟨u39, u40, hq41, hf⟩ := cal2_x hf
    refine g_callV (As := [.long z38, .int 2]) (rest := []) (st2 := []) (n := 2) C (cX2_put_ok X.1 a_this a_bytes a_lengths a_greatestSeqs v_oldest v_current v_synced u35 u36 z38 2 hq41) gX2_append_X2_put rfl rfl rfl ⟨rfl, by decide +kernel⟩ (by decide) 0 rfl rfl rfl [0, 1, 2] (by decide) rfl [3, 4] (Wr := [(a_greatestSeqs, .inl (X.1.2.2.1, 4, .inl v_greatestSeqs)), (a_p0, .inr (3, [.int v_p0_kind, .int v_p0_seq, .int v_p0_id, .int v_p0_version, .long v_p0_source]))]) (by decide) rfl (by decide) [2, 3, 4, 0, 1] (by decide) (Wn := fun _ => [(a_this, .inr (2, [.int v_oldest, .int v_current, .int v_synced, .ref a_bytes, .ref a_lengths, .ref a_greatestSeqs])), (a_bytes, .inl (X.1.2.2.1, 960, .inl u39)), (a_lengths, .inl (X.1.2.2.1, 4, .inl u40)), (a_greatestSeqs, .inl (X.1.2.2.1, 4, .inl v_greatestSeqs)), (a_p0, .inr (3, [.int v_p0_kind, .int v_p0_seq, .int v_p0_id, .int v_p0_version, .long v_p0_source]))]) (fun _ => rfl) rfl rfl rfl (Nat.le_of_ble_eq_true rfl) dX2_append_71 ⟨Nat.le_refl _, Nat.le_refl _⟩ (fun _ => ?_)
    exact g_lv [2, 3, 1, 0] rfl (hJ74 u39 u40 hf)
def fX2_read (v_bytes : Nat → Int32) (v_lengths : Nat → Int32) (v_p2_kind : Int32) (v_p2_seq : Int32) (v_p2_id : Int32) (v_p2_version : Int32) (v_p2_source : Int64) (x0 : Int32) (x1 : Int32) : Option ((Int32) × (Int32) × (Int32) × (Int32) × (Int32) × (Int64)) :=
  (cal1 (fX2_lengthOf v_lengths x0) (fun r1 => (bnd (r1 - x1 : Int32) (fun z3 => (if 8 ≤ z3 then (bnd (x1 + 1 : Int32) (fun z4 => (cal1 (fX2_byteAt v_bytes x0 z4) (fun r5 => (cal1 (fX5_sizeOf r5) (fun r7 => (bnd (r7 - 5 : Int32) (fun z9 => (jp (some (0, v_p2_kind, v_p2_seq, v_p2_id, v_p2_version, v_p2_source)) (fun J64 => (if r7 = 0 then J64 else (if z3 < r7 then J64 else (cal1 (fX2_byteAt v_bytes x0 x1) (fun r10 => (if r10 = z9 then (bnd (x1 + 1 : Int32) (fun z12 => (bnd (z12 + z9 : Int32) (fun z13 => (cal1 (fX2_take v_bytes x0 z13 4) (fun r14 => (bnd (Int64.toInt32 r14) (fun z16 => (bnd (z9 + 1 : Int32) (fun z17 => (cal1 (fX2_checksum v_bytes x0 x1 z17) (fun r18 => (if z16 = r18 then (jp (fun (k20 : Int32) => (jp (jp (fun (k21 : Int32) => (jp (fun (k22 : Int64) => (bnd (x1 + 2 : Int32) (fun z23 => (cal1 (fX2_take v_bytes x0 z23 2) (fun r24 => (bnd (Int64.toInt32 r24) (fun z26 => (cal5 (fX3_become v_p2_kind v_p2_seq v_p2_id v_p2_version v_p2_source r5 z26 k20 k21 k22) (fun u27 u28 u29 u30 u31 => (some (r7, u27, u28, u29, u30, u31))))))))))) (fun J173 => (if r5 = 1 then (bnd (x1 + 7 : Int32) (fun z33 => (cal1 (fX2_take v_bytes x0 z33 8) (fun r34 => (J173 r34))))) else (J173 0))))) (fun J150 => (if r5 = 3 then (J150 0) else (bnd (x1 + 5 : Int32) (fun z36 => (cal1 (fX2_take v_bytes x0 z36 2) (fun r37 => (bnd (Int64.toInt32 r37) (fun z39 => (J150 z39)))))))))) (fun J130 => (if r5 = 3 then J130 else (cal1 (fX5_isId k20) (fun r40 => (if r40 = 0 then (some (0, v_p2_kind, v_p2_seq, v_p2_id, v_p2_version, v_p2_source)) else J130))))))) (fun J112 => (if r5 = 3 then (J112 (-1)) else (bnd (x1 + 4 : Int32) (fun z42 => (cal1 (fX2_byteAt v_bytes x0 z42) (fun r43 => (J112 r43)))))))) else (some (0, v_p2_kind, v_p2_seq, v_p2_id, v_p2_version, v_p2_source))))))))))))))) else J64))))))))))))))) else (some (0, v_p2_kind, v_p2_seq, v_p2_id, v_p2_version, v_p2_source)))))))
theorem inX2_read_2 : ∀ w ∈ wsX20, w ∈ wsX2_read := fun _ h => List.mem_cons_of_mem _ (List.mem_append_left _ (List.mem_append_right _ h))
theorem inX2_read_3 : ∀ w ∈ wsX30, w ∈ wsX2_read := fun _ h => List.mem_cons_of_mem _ (List.mem_append_right _ h)
set_option maxRecDepth 100000 in
set_option maxHeartbeats 8000000 in
theorem cX2_read_ok (L : XL) (a_this a_bytes a_lengths a_greatestSeqs a_p2 : Nat) (v_oldest : Int32) (v_current : Int32) (v_synced : Int32) (v_bytes : Nat → Int32) (v_lengths : Nat → Int32) (v_p2_kind : Int32) (v_p2_seq : Int32) (v_p2_id : Int32) (v_p2_version : Int32) (v_p2_source : Int64) (x0 : Int32) (x1 : Int32) {t : (Int32) × (Int32) × (Int32) × (Int32) × (Int32) × (Int64)} (hf : fX2_read v_bytes v_lengths v_p2_kind v_p2_seq v_p2_id v_p2_version v_p2_source x0 x1 = some t) : xM L yX2_read wsX2_read ({ frames := 3, cells := 0, slots := 0, locals := 68 }) [.ref a_this, .int x0, .int x1, .ref a_p2] [(a_this, .inr (2, [.int v_oldest, .int v_current, .int v_synced, .ref a_bytes, .ref a_lengths, .ref a_greatestSeqs])), (a_bytes, .inl (L.2.2.1, 960, .inl v_bytes)), (a_lengths, .inl (L.2.2.1, 4, .inl v_lengths)), (a_p2, .inr (3, [.int v_p2_kind, .int v_p2_seq, .int v_p2_id, .int v_p2_version, .long v_p2_source]))] 0 0 (some (.int t.1)) (fun _ : Unit => [(a_this, .inr (2, [.int v_oldest, .int v_current, .int v_synced, .ref a_bytes, .ref a_lengths, .ref a_greatestSeqs])), (a_bytes, .inl (L.2.2.1, 960, .inl v_bytes)), (a_lengths, .inl (L.2.2.1, 4, .inl v_lengths)), (a_p2, .inr (3, [.int t.2.1, .int t.2.2.1, .int t.2.2.2.1, .int t.2.2.2.2.1, .long t.2.2.2.2.2]))]) := by
  refine enter_i (own := RX2) (by decide) rfl rfl (Nat.le_of_ble_eq_true rfl) ?_
  intro X hXL C _ hret
  subst hXL
  unfold fX2_read at hf
  show G X 0 0 [(a_this, .inr (2, [.int v_oldest, .int v_current, .int v_synced, .ref a_bytes, .ref a_lengths, .ref a_greatestSeqs])), (a_bytes, .inl (X.1.2.2.1, 960, .inl v_bytes)), (a_lengths, .inl (X.1.2.2.1, 4, .inl v_lengths)), (a_p2, .inr (3, [.int v_p2_kind, .int v_p2_seq, .int v_p2_id, .int v_p2_version, .long v_p2_source]))] [(0, .ref a_this), (1, .int x0), (2, .int x1), (3, .ref a_p2)] 0 []
  refine g_aload_n C dX2_read_0 rfl 0 rfl ?_
  refine g_iload_n C dX2_read_1 rfl 1 rfl ?_
  obtain ⟨r1, hq2, hf⟩ := cal1_x hf
  refine g_callV (As := [.int x0]) (rest := []) (st2 := [.int r1]) (n := 1) C (cX2_lengthOf_ok X.1 a_this a_bytes a_lengths a_greatestSeqs v_oldest v_current v_synced v_lengths x0 hq2) gX2_read_X2_lengthOf rfl rfl rfl ⟨rfl, by decide +kernel⟩ (by decide) 0 rfl rfl rfl [0, 2] (by decide) rfl [1, 3] (Wr := [(a_bytes, .inl (X.1.2.2.1, 960, .inl v_bytes)), (a_p2, .inr (3, [.int v_p2_kind, .int v_p2_seq, .int v_p2_id, .int v_p2_version, .long v_p2_source]))]) (by decide) rfl (by decide) [2, 0, 3, 1] (by decide) (Wn := fun _ => [(a_this, .inr (2, [.int v_oldest, .int v_current, .int v_synced, .ref a_bytes, .ref a_lengths, .ref a_greatestSeqs])), (a_bytes, .inl (X.1.2.2.1, 960, .inl v_bytes)), (a_lengths, .inl (X.1.2.2.1, 4, .inl v_lengths)), (a_p2, .inr (3, [.int v_p2_kind, .int v_p2_seq, .int v_p2_id, .int v_p2_version, .long v_p2_source]))]) (fun _ => rfl) rfl rfl rfl (Nat.le_of_ble_eq_true rfl) dX2_read_2 ⟨Nat.le_refl _, Nat.le_refl _⟩ (fun _ => ?_)
  refine g_iload_n C dX2_read_5 rfl 2 rfl ?_
  refine g_isub C dX2_read_6 hf (fun z3 hf => ?_)
  refine g_istore (lv2 := [(4, .int z3), (0, .ref a_this), (1, .int x0), (2, .int x1), (3, .ref a_p2)]) C dX2_read_7 (by decide) rfl ?_
  refine g_iload C dX2_read_9 0 rfl ?_
  refine g_bipush (v := 8) C dX2_read_11 (by decide) ?_
  refine g_icmp_ge C dX2_read_13 (tgt := 18) (by decide) hf (fun hf => ?_) (fun hf => ?_)
  · refine g_aload_n C dX2_read_18 rfl 1 rfl ?_
    refine g_iload_n C dX2_read_19 rfl 2 rfl ?_
    refine g_iload_n C dX2_read_20 rfl 3 rfl ?_
    refine g_iconst (v := 1) C dX2_read_21 (by decide) ?_
    refine g_iadd C dX2_read_22 hf (fun z4 hf => ?_)
    obtain ⟨r5, hq6, hf⟩ := cal1_x hf
    refine g_callV (As := [.int x0, .int z4]) (rest := []) (st2 := [.int r5]) (n := 2) C (cX2_byteAt_ok X.1 a_this a_bytes a_lengths a_greatestSeqs v_oldest v_current v_synced v_bytes x0 z4 hq6) gX2_read_X2_byteAt rfl rfl rfl ⟨rfl, by decide +kernel⟩ (by decide) 0 rfl rfl rfl [0, 1] (by decide) rfl [2, 3] (Wr := [(a_lengths, .inl (X.1.2.2.1, 4, .inl v_lengths)), (a_p2, .inr (3, [.int v_p2_kind, .int v_p2_seq, .int v_p2_id, .int v_p2_version, .long v_p2_source]))]) (by decide) rfl (by decide) [2, 3, 0, 1] (by decide) (Wn := fun _ => [(a_this, .inr (2, [.int v_oldest, .int v_current, .int v_synced, .ref a_bytes, .ref a_lengths, .ref a_greatestSeqs])), (a_bytes, .inl (X.1.2.2.1, 960, .inl v_bytes)), (a_lengths, .inl (X.1.2.2.1, 4, .inl v_lengths)), (a_p2, .inr (3, [.int v_p2_kind, .int v_p2_seq, .int v_p2_id, .int v_p2_version, .long v_p2_source]))]) (fun _ => rfl) rfl rfl rfl (Nat.le_of_ble_eq_true rfl) dX2_read_23 ⟨Nat.le_refl _, Nat.le_refl _⟩ (fun _ => ?_)
    refine g_istore (lv2 := [(5, .int r5), (4, .int z3), (0, .ref a_this), (1, .int x0), (2, .int x1), (3, .ref a_p2)]) C dX2_read_26 (by decide) rfl ?_
    refine g_iload C dX2_read_28 0 rfl ?_
    obtain ⟨r7, hq8, hf⟩ := cal1_x hf
    refine g_callSN (As := [.int r5]) (rest := []) (st2 := [.int r7]) (n := 1) C (host := RX5) (fun U h => h.2.2.1) (List.mem_of_getElem? (i := 15) rfl) (List.mem_of_getElem? (i := 16) rfl) (cX5_sizeOf_ok X.1 r5 hq8) gX2_read_X5_sizeOf_n57 rfl rfl rfl (by decide +kernel) (by decide) [] (by decide) rfl [0, 1, 2, 3] (Wr := [(a_this, .inr (2, [.int v_oldest, .int v_current, .int v_synced, .ref a_bytes, .ref a_lengths, .ref a_greatestSeqs])), (a_bytes, .inl (X.1.2.2.1, 960, .inl v_bytes)), (a_lengths, .inl (X.1.2.2.1, 4, .inl v_lengths)), (a_p2, .inr (3, [.int v_p2_kind, .int v_p2_seq, .int v_p2_id, .int v_p2_version, .long v_p2_source]))]) (by decide) rfl (by decide) [0, 1, 2, 3] (by decide) (Wn := fun _ => [(a_this, .inr (2, [.int v_oldest, .int v_current, .int v_synced, .ref a_bytes, .ref a_lengths, .ref a_greatestSeqs])), (a_bytes, .inl (X.1.2.2.1, 960, .inl v_bytes)), (a_lengths, .inl (X.1.2.2.1, 4, .inl v_lengths)), (a_p2, .inr (3, [.int v_p2_kind, .int v_p2_seq, .int v_p2_id, .int v_p2_version, .long v_p2_source]))]) (fun _ => rfl) rfl rfl rfl (Nat.le_of_ble_eq_true rfl) dX2_read_30 ⟨Nat.le_refl _, Nat.le_refl _⟩ (fun _ => ?_)
    refine g_istore (lv2 := [(6, .int r7), (5, .int r5), (4, .int z3), (0, .ref a_this), (1, .int x0), (2, .int x1), (3, .ref a_p2)]) C dX2_read_33 (by decide) rfl ?_
    refine g_iload C dX2_read_35 0 rfl ?_
    refine g_iconst (v := 5) C dX2_read_37 (by decide) ?_
    refine g_isub C dX2_read_38 hf (fun z9 hf => ?_)
    refine g_istore (lv2 := [(7, .int z9), (6, .int r7), (5, .int r5), (4, .int z3), (0, .ref a_this), (1, .int x0), (2, .int x1), (3, .ref a_p2)]) C dX2_read_39 (by decide) rfl ?_
    refine g_iload C dX2_read_41 1 rfl ?_
    obtain ⟨J64, eJ64, hf⟩ := jp_x hf
    have hJ64 : J64 = some t → G X 0 0 [(a_this, .inr (2, [.int v_oldest, .int v_current, .int v_synced, .ref a_bytes, .ref a_lengths, .ref a_greatestSeqs])), (a_bytes, .inl (X.1.2.2.1, 960, .inl v_bytes)), (a_lengths, .inl (X.1.2.2.1, 4, .inl v_lengths)), (a_p2, .inr (3, [.int v_p2_kind, .int v_p2_seq, .int v_p2_id, .int v_p2_version, .long v_p2_source]))] [] 64 [] := by
      intro  hf
      have hf := app0 eJ64 hf
      refine g_iconst (v := 0) C dX2_read_64 (by decide) ?_
      rw [← Option.some.inj hf] at hret
      exact hret () _ _ dX2_read_65
    refine g_if_eq C dX2_read_43 (tgt := 64) (by decide) hf (fun hf => ?_) (fun hf => ?_)
    · exact g_lv [] rfl (hJ64 hf)
    · refine g_iload C dX2_read_46 1 rfl ?_
      refine g_iload C dX2_read_48 3 rfl ?_
      refine g_icmp_gt C dX2_read_50 (tgt := 64) (by decide) hf (fun hf => ?_) (fun hf => ?_)
      · exact g_lv [] rfl (hJ64 hf)
      · refine g_aload_n C dX2_read_53 rfl 4 rfl ?_
        refine g_iload_n C dX2_read_54 rfl 5 rfl ?_
        refine g_iload_n C dX2_read_55 rfl 6 rfl ?_
        obtain ⟨r10, hq11, hf⟩ := cal1_x hf
        refine g_callV (As := [.int x0, .int x1]) (rest := []) (st2 := [.int r10]) (n := 2) C (cX2_byteAt_ok X.1 a_this a_bytes a_lengths a_greatestSeqs v_oldest v_current v_synced v_bytes x0 x1 hq11) gX2_read_X2_byteAt rfl rfl rfl ⟨rfl, by decide +kernel⟩ (by decide) 0 rfl rfl rfl [0, 1] (by decide) rfl [2, 3] (Wr := [(a_lengths, .inl (X.1.2.2.1, 4, .inl v_lengths)), (a_p2, .inr (3, [.int v_p2_kind, .int v_p2_seq, .int v_p2_id, .int v_p2_version, .long v_p2_source]))]) (by decide) rfl (by decide) [2, 3, 0, 1] (by decide) (Wn := fun _ => [(a_this, .inr (2, [.int v_oldest, .int v_current, .int v_synced, .ref a_bytes, .ref a_lengths, .ref a_greatestSeqs])), (a_bytes, .inl (X.1.2.2.1, 960, .inl v_bytes)), (a_lengths, .inl (X.1.2.2.1, 4, .inl v_lengths)), (a_p2, .inr (3, [.int v_p2_kind, .int v_p2_seq, .int v_p2_id, .int v_p2_version, .long v_p2_source]))]) (fun _ => rfl) rfl rfl rfl (Nat.le_of_ble_eq_true rfl) dX2_read_56 ⟨Nat.le_refl _, Nat.le_refl _⟩ (fun _ => ?_)
        refine g_iload C dX2_read_59 0 rfl ?_
        refine g_icmp_eq C dX2_read_61 (tgt := 66) (by decide) hf (fun hf => ?_) (fun hf => ?_)
        · refine g_aload_n C dX2_read_66 rfl 4 rfl ?_
          refine g_iload_n C dX2_read_67 rfl 5 rfl ?_
          refine g_iload_n C dX2_read_68 rfl 6 rfl ?_
          refine g_iconst (v := 1) C dX2_read_69 (by decide) ?_
          refine g_iadd C dX2_read_70 hf (fun z12 hf => ?_)
          refine g_iload C dX2_read_71 0 rfl ?_
          refine g_iadd C dX2_read_73 hf (fun z13 hf => ?_)
          refine g_iconst (v := 4) C dX2_read_74 (by decide) ?_
          obtain ⟨r14, hq15, hf⟩ := cal1_x hf
          refine g_callV (As := [.int x0, .int z13, .int 4]) (rest := []) (st2 := [.long r14]) (n := 3) C (cX2_take_ok X.1 a_this a_bytes a_lengths a_greatestSeqs v_oldest v_current v_synced v_bytes x0 z13 4 hq15) gX2_read_X2_take rfl rfl rfl ⟨rfl, by decide +kernel⟩ (by decide) 0 rfl rfl rfl [0, 1] (by decide) rfl [2, 3] (Wr := [(a_lengths, .inl (X.1.2.2.1, 4, .inl v_lengths)), (a_p2, .inr (3, [.int v_p2_kind, .int v_p2_seq, .int v_p2_id, .int v_p2_version, .long v_p2_source]))]) (by decide) rfl (by decide) [2, 3, 0, 1] (by decide) (Wn := fun _ => [(a_this, .inr (2, [.int v_oldest, .int v_current, .int v_synced, .ref a_bytes, .ref a_lengths, .ref a_greatestSeqs])), (a_bytes, .inl (X.1.2.2.1, 960, .inl v_bytes)), (a_lengths, .inl (X.1.2.2.1, 4, .inl v_lengths)), (a_p2, .inr (3, [.int v_p2_kind, .int v_p2_seq, .int v_p2_id, .int v_p2_version, .long v_p2_source]))]) (fun _ => rfl) rfl rfl rfl (Nat.le_of_ble_eq_true rfl) dX2_read_75 ⟨Nat.le_refl _, Nat.le_refl _⟩ (fun _ => ?_)
          refine g_l2i C dX2_read_78 hf (fun z16 hf => ?_)
          refine g_aload_n C dX2_read_79 rfl 4 rfl ?_
          refine g_iload_n C dX2_read_80 rfl 5 rfl ?_
          refine g_iload_n C dX2_read_81 rfl 6 rfl ?_
          refine g_iload C dX2_read_82 0 rfl ?_
          refine g_iconst (v := 1) C dX2_read_84 (by decide) ?_
          refine g_iadd C dX2_read_85 hf (fun z17 hf => ?_)
          obtain ⟨r18, hq19, hf⟩ := cal1_x hf
          refine g_callV (As := [.int x0, .int x1, .int z17]) (rest := [.int z16]) (st2 := [.int r18, .int z16]) (n := 3) C (cX2_checksum_ok X.1 a_this a_bytes a_lengths a_greatestSeqs v_oldest v_current v_synced v_bytes x0 x1 z17 hq19) gX2_read_X2_checksum rfl rfl rfl ⟨rfl, by decide +kernel⟩ (by decide) 0 rfl rfl rfl [0, 1] (by decide) rfl [2, 3] (Wr := [(a_lengths, .inl (X.1.2.2.1, 4, .inl v_lengths)), (a_p2, .inr (3, [.int v_p2_kind, .int v_p2_seq, .int v_p2_id, .int v_p2_version, .long v_p2_source]))]) (by decide) rfl (by decide) [2, 3, 0, 1] (by decide) (Wn := fun _ => [(a_this, .inr (2, [.int v_oldest, .int v_current, .int v_synced, .ref a_bytes, .ref a_lengths, .ref a_greatestSeqs])), (a_bytes, .inl (X.1.2.2.1, 960, .inl v_bytes)), (a_lengths, .inl (X.1.2.2.1, 4, .inl v_lengths)), (a_p2, .inr (3, [.int v_p2_kind, .int v_p2_seq, .int v_p2_id, .int v_p2_version, .long v_p2_source]))]) (fun _ => rfl) rfl rfl rfl (Nat.le_of_ble_eq_true rfl) dX2_read_86 ⟨Nat.le_refl _, Nat.le_refl _⟩ (fun _ => ?_)
          refine g_icmp_eq C dX2_read_89 (tgt := 94) (by decide) hf (fun hf => ?_) (fun hf => ?_)
          · refine g_iload C dX2_read_94 2 rfl ?_
            refine g_iconst (v := 3) C dX2_read_96 (by decide) ?_
            obtain ⟨J112, eJ112, hf⟩ := jp_x hf
            have hJ112 : ∀ (k20 : Int32), J112 k20 = some t → G X 0 0 [(a_this, .inr (2, [.int v_oldest, .int v_current, .int v_synced, .ref a_bytes, .ref a_lengths, .ref a_greatestSeqs])), (a_bytes, .inl (X.1.2.2.1, 960, .inl v_bytes)), (a_lengths, .inl (X.1.2.2.1, 4, .inl v_lengths)), (a_p2, .inr (3, [.int v_p2_kind, .int v_p2_seq, .int v_p2_id, .int v_p2_version, .long v_p2_source]))] [(0, .ref a_this), (1, .int x0), (2, .int x1), (3, .ref a_p2), (5, .int r5), (6, .int r7)] 112 [.int k20] := by
              intro k20 hf
              have hf := app1 eJ112 hf
              refine g_istore (lv2 := [(8, .int k20), (0, .ref a_this), (1, .int x0), (2, .int x1), (3, .ref a_p2), (5, .int r5), (6, .int r7)]) C dX2_read_112 (by decide) rfl ?_
              refine g_iload C dX2_read_114 5 rfl ?_
              refine g_iconst (v := 3) C dX2_read_116 (by decide) ?_
              obtain ⟨J130, eJ130, hf⟩ := jp_x hf
              have hJ130 : J130 = some t → G X 0 0 [(a_this, .inr (2, [.int v_oldest, .int v_current, .int v_synced, .ref a_bytes, .ref a_lengths, .ref a_greatestSeqs])), (a_bytes, .inl (X.1.2.2.1, 960, .inl v_bytes)), (a_lengths, .inl (X.1.2.2.1, 4, .inl v_lengths)), (a_p2, .inr (3, [.int v_p2_kind, .int v_p2_seq, .int v_p2_id, .int v_p2_version, .long v_p2_source]))] [(0, .ref a_this), (1, .int x0), (2, .int x1), (3, .ref a_p2), (5, .int r5), (6, .int r7), (8, .int k20)] 130 [] := by
                intro  hf
                have hf := app0 eJ130 hf
                refine g_iload C dX2_read_130 4 rfl ?_
                refine g_iconst (v := 3) C dX2_read_132 (by decide) ?_
                obtain ⟨J150, eJ150, hf⟩ := jp_x hf
                have hJ150 : ∀ (k21 : Int32), J150 k21 = some t → G X 0 0 [(a_this, .inr (2, [.int v_oldest, .int v_current, .int v_synced, .ref a_bytes, .ref a_lengths, .ref a_greatestSeqs])), (a_bytes, .inl (X.1.2.2.1, 960, .inl v_bytes)), (a_lengths, .inl (X.1.2.2.1, 4, .inl v_lengths)), (a_p2, .inr (3, [.int v_p2_kind, .int v_p2_seq, .int v_p2_id, .int v_p2_version, .long v_p2_source]))] [(0, .ref a_this), (1, .int x0), (2, .int x1), (3, .ref a_p2), (5, .int r5), (6, .int r7), (8, .int k20)] 150 [.int k21] := by
                  intro k21 hf
                  have hf := app1 eJ150 hf
                  refine g_istore (lv2 := [(9, .int k21), (0, .ref a_this), (1, .int x0), (2, .int x1), (3, .ref a_p2), (5, .int r5), (6, .int r7), (8, .int k20)]) C dX2_read_150 (by decide) rfl ?_
                  refine g_iload C dX2_read_152 5 rfl ?_
                  refine g_iconst (v := 1) C dX2_read_154 (by decide) ?_
                  obtain ⟨J173, eJ173, hf⟩ := jp_x hf
                  have hJ173 : ∀ (k22 : Int64), J173 k22 = some t → G X 0 0 [(a_this, .inr (2, [.int v_oldest, .int v_current, .int v_synced, .ref a_bytes, .ref a_lengths, .ref a_greatestSeqs])), (a_bytes, .inl (X.1.2.2.1, 960, .inl v_bytes)), (a_lengths, .inl (X.1.2.2.1, 4, .inl v_lengths)), (a_p2, .inr (3, [.int v_p2_kind, .int v_p2_seq, .int v_p2_id, .int v_p2_version, .long v_p2_source]))] [(0, .ref a_this), (1, .int x0), (2, .int x1), (3, .ref a_p2), (5, .int r5), (6, .int r7), (8, .int k20), (9, .int k21)] 173 [.long k22] := by
                    intro k22 hf
                    have hf := app1 eJ173 hf
                    refine g_lstore (lv2 := [(10, .long k22), (0, .ref a_this), (1, .int x0), (2, .int x1), (3, .ref a_p2), (5, .int r5), (6, .int r7), (8, .int k20), (9, .int k21)]) C dX2_read_173 (by decide) rfl ?_
                    refine g_aload_n C dX2_read_175 rfl 4 rfl ?_
                    refine g_iload C dX2_read_176 5 rfl ?_
                    refine g_aload_n C dX2_read_178 rfl 1 rfl ?_
                    refine g_iload_n C dX2_read_179 rfl 2 rfl ?_
                    refine g_iload_n C dX2_read_180 rfl 3 rfl ?_
                    refine g_iconst (v := 2) C dX2_read_181 (by decide) ?_
                    refine g_iadd C dX2_read_182 hf (fun z23 hf => ?_)
                    refine g_iconst (v := 2) C dX2_read_183 (by decide) ?_
                    obtain ⟨r24, hq25, hf⟩ := cal1_x hf
                    refine g_callV (As := [.int x0, .int z23, .int 2]) (rest := [.int r5, .ref a_p2]) (st2 := [.long r24, .int r5, .ref a_p2]) (n := 3) C (cX2_take_ok X.1 a_this a_bytes a_lengths a_greatestSeqs v_oldest v_current v_synced v_bytes x0 z23 2 hq25) gX2_read_X2_take rfl rfl rfl ⟨rfl, by decide +kernel⟩ (by decide) 0 rfl rfl rfl [0, 1] (by decide) rfl [2, 3] (Wr := [(a_lengths, .inl (X.1.2.2.1, 4, .inl v_lengths)), (a_p2, .inr (3, [.int v_p2_kind, .int v_p2_seq, .int v_p2_id, .int v_p2_version, .long v_p2_source]))]) (by decide) rfl (by decide) [2, 3, 0, 1] (by decide) (Wn := fun _ => [(a_this, .inr (2, [.int v_oldest, .int v_current, .int v_synced, .ref a_bytes, .ref a_lengths, .ref a_greatestSeqs])), (a_bytes, .inl (X.1.2.2.1, 960, .inl v_bytes)), (a_lengths, .inl (X.1.2.2.1, 4, .inl v_lengths)), (a_p2, .inr (3, [.int v_p2_kind, .int v_p2_seq, .int v_p2_id, .int v_p2_version, .long v_p2_source]))]) (fun _ => rfl) rfl rfl rfl (Nat.le_of_ble_eq_true rfl) dX2_read_184 ⟨Nat.le_refl _, Nat.le_refl _⟩ (fun _ => ?_)
                    refine g_l2i C dX2_read_187 hf (fun z26 hf => ?_)
                    refine g_iload C dX2_read_188 7 rfl ?_
                    refine g_iload C dX2_read_190 8 rfl ?_
                    refine g_lload C dX2_read_192 0 rfl ?_
                    obtain ⟨u27, u28, u29, u30, u31, hq32, hf⟩ := cal5_x hf
                    refine g_callV (As := [.int r5, .int z26, .int k20, .int k21, .long k22]) (rest := []) (st2 := []) (n := 5) C (cX3_become_ok X.1 a_p2 v_p2_kind v_p2_seq v_p2_id v_p2_version v_p2_source r5 z26 k20 k21 k22 hq32) gX2_read_X3_become rfl rfl rfl ⟨rfl, by decide +kernel⟩ (by decide) 0 rfl rfl rfl [3] (by decide) rfl [0, 1, 2] (Wr := [(a_this, .inr (2, [.int v_oldest, .int v_current, .int v_synced, .ref a_bytes, .ref a_lengths, .ref a_greatestSeqs])), (a_bytes, .inl (X.1.2.2.1, 960, .inl v_bytes)), (a_lengths, .inl (X.1.2.2.1, 4, .inl v_lengths))]) (by decide) rfl (by decide) [0, 1, 2, 3] (by decide) (Wn := fun _ => [(a_this, .inr (2, [.int v_oldest, .int v_current, .int v_synced, .ref a_bytes, .ref a_lengths, .ref a_greatestSeqs])), (a_bytes, .inl (X.1.2.2.1, 960, .inl v_bytes)), (a_lengths, .inl (X.1.2.2.1, 4, .inl v_lengths)), (a_p2, .inr (3, [.int u27, .int u28, .int u29, .int u30, .long u31]))]) (fun _ => rfl) rfl rfl rfl (Nat.le_of_ble_eq_true rfl) dX2_read_194 ⟨Nat.le_refl _, Nat.le_refl _⟩ (fun _ => ?_)
                    refine g_iload C dX2_read_197 6 rfl ?_
                    rw [← Option.some.inj hf] at hret
                    exact hret () _ _ dX2_read_199
                  refine g_icmp_ne C dX2_read_155 (tgt := 172) (by decide) hf (fun hf => ?_) (fun hf => ?_)
                  · refine g_lconst (v := 0) C dX2_read_172 (by decide) ?_
                    exact g_lv [1, 2, 3, 4, 5, 6, 7, 0] rfl (hJ173 0 hf)
                  · refine g_aload_n C dX2_read_158 rfl 1 rfl ?_
                    refine g_iload_n C dX2_read_159 rfl 2 rfl ?_
                    refine g_iload_n C dX2_read_160 rfl 3 rfl ?_
                    refine g_bipush (v := 7) C dX2_read_161 (by decide) ?_
                    refine g_iadd C dX2_read_163 hf (fun z33 hf => ?_)
                    refine g_bipush (v := 8) C dX2_read_164 (by decide) ?_
                    obtain ⟨r34, hq35, hf⟩ := cal1_x hf
                    refine g_callV (As := [.int x0, .int z33, .int 8]) (rest := []) (st2 := [.long r34]) (n := 3) C (cX2_take_ok X.1 a_this a_bytes a_lengths a_greatestSeqs v_oldest v_current v_synced v_bytes x0 z33 8 hq35) gX2_read_X2_take rfl rfl rfl ⟨rfl, by decide +kernel⟩ (by decide) 0 rfl rfl rfl [0, 1] (by decide) rfl [2, 3] (Wr := [(a_lengths, .inl (X.1.2.2.1, 4, .inl v_lengths)), (a_p2, .inr (3, [.int v_p2_kind, .int v_p2_seq, .int v_p2_id, .int v_p2_version, .long v_p2_source]))]) (by decide) rfl (by decide) [2, 3, 0, 1] (by decide) (Wn := fun _ => [(a_this, .inr (2, [.int v_oldest, .int v_current, .int v_synced, .ref a_bytes, .ref a_lengths, .ref a_greatestSeqs])), (a_bytes, .inl (X.1.2.2.1, 960, .inl v_bytes)), (a_lengths, .inl (X.1.2.2.1, 4, .inl v_lengths)), (a_p2, .inr (3, [.int v_p2_kind, .int v_p2_seq, .int v_p2_id, .int v_p2_version, .long v_p2_source]))]) (fun _ => rfl) rfl rfl rfl (Nat.le_of_ble_eq_true rfl) dX2_read_166 ⟨Nat.le_refl _, Nat.le_refl _⟩ (fun _ => ?_)
                    refine g_goto C dX2_read_169 (tgt := 173) (by decide) ?_
                    exact g_lv [1, 2, 3, 4, 5, 6, 7, 0] rfl (hJ173 r34 hf)
                refine g_icmp_ne C dX2_read_133 (tgt := 140) (by decide) hf (fun hf => ?_) (fun hf => ?_)
                · refine g_aload_n C dX2_read_140 rfl 0 rfl ?_
                  refine g_iload_n C dX2_read_141 rfl 1 rfl ?_
                  refine g_iload_n C dX2_read_142 rfl 2 rfl ?_
                  refine g_iconst (v := 5) C dX2_read_143 (by decide) ?_
                  refine g_iadd C dX2_read_144 hf (fun z36 hf => ?_)
                  refine g_iconst (v := 2) C dX2_read_145 (by decide) ?_
                  obtain ⟨r37, hq38, hf⟩ := cal1_x hf
                  refine g_callV (As := [.int x0, .int z36, .int 2]) (rest := []) (st2 := [.long r37]) (n := 3) C (cX2_take_ok X.1 a_this a_bytes a_lengths a_greatestSeqs v_oldest v_current v_synced v_bytes x0 z36 2 hq38) gX2_read_X2_take rfl rfl rfl ⟨rfl, by decide +kernel⟩ (by decide) 0 rfl rfl rfl [0, 1] (by decide) rfl [2, 3] (Wr := [(a_lengths, .inl (X.1.2.2.1, 4, .inl v_lengths)), (a_p2, .inr (3, [.int v_p2_kind, .int v_p2_seq, .int v_p2_id, .int v_p2_version, .long v_p2_source]))]) (by decide) rfl (by decide) [2, 3, 0, 1] (by decide) (Wn := fun _ => [(a_this, .inr (2, [.int v_oldest, .int v_current, .int v_synced, .ref a_bytes, .ref a_lengths, .ref a_greatestSeqs])), (a_bytes, .inl (X.1.2.2.1, 960, .inl v_bytes)), (a_lengths, .inl (X.1.2.2.1, 4, .inl v_lengths)), (a_p2, .inr (3, [.int v_p2_kind, .int v_p2_seq, .int v_p2_id, .int v_p2_version, .long v_p2_source]))]) (fun _ => rfl) rfl rfl rfl (Nat.le_of_ble_eq_true rfl) dX2_read_146 ⟨Nat.le_refl _, Nat.le_refl _⟩ (fun _ => ?_)
                  refine g_l2i C dX2_read_149 hf (fun z39 hf => ?_)
                  exact hJ150 z39 hf
                · refine g_iconst (v := 0) C dX2_read_136 (by decide) ?_
                  refine g_goto C dX2_read_137 (tgt := 150) (by decide) ?_
                  exact hJ150 0 hf
              refine g_icmp_eq C dX2_read_117 (tgt := 130) (by decide) hf (fun hf => ?_) (fun hf => ?_)
              · exact g_lv [1, 2, 3, 4, 5, 6, 0] rfl (hJ130 hf)
              · refine g_iload C dX2_read_120 0 rfl ?_
                obtain ⟨r40, hq41, hf⟩ := cal1_x hf
                refine g_callSN (As := [.int k20]) (rest := []) (st2 := [.int r40]) (n := 1) C (host := RX5) (fun U h => h.2.2.2.1) (List.mem_of_getElem? (i := 27) rfl) (List.mem_of_getElem? (i := 16) rfl) (cX5_isId_ok X.1 k20 hq41) gX2_read_X5_isId_n92 rfl rfl rfl (by decide +kernel) (by decide) [] (by decide) rfl [0, 1, 2, 3] (Wr := [(a_this, .inr (2, [.int v_oldest, .int v_current, .int v_synced, .ref a_bytes, .ref a_lengths, .ref a_greatestSeqs])), (a_bytes, .inl (X.1.2.2.1, 960, .inl v_bytes)), (a_lengths, .inl (X.1.2.2.1, 4, .inl v_lengths)), (a_p2, .inr (3, [.int v_p2_kind, .int v_p2_seq, .int v_p2_id, .int v_p2_version, .long v_p2_source]))]) (by decide) rfl (by decide) [0, 1, 2, 3] (by decide) (Wn := fun _ => [(a_this, .inr (2, [.int v_oldest, .int v_current, .int v_synced, .ref a_bytes, .ref a_lengths, .ref a_greatestSeqs])), (a_bytes, .inl (X.1.2.2.1, 960, .inl v_bytes)), (a_lengths, .inl (X.1.2.2.1, 4, .inl v_lengths)), (a_p2, .inr (3, [.int v_p2_kind, .int v_p2_seq, .int v_p2_id, .int v_p2_version, .long v_p2_source]))]) (fun _ => rfl) rfl rfl rfl (Nat.le_of_ble_eq_true rfl) dX2_read_122 ⟨Nat.le_refl _, Nat.le_refl _⟩ (fun _ => ?_)
                refine g_if_ne C dX2_read_125 (tgt := 130) (by decide) hf (fun hf => ?_) (fun hf => ?_)
                · exact g_lv [1, 2, 3, 4, 5, 6, 0] rfl (hJ130 hf)
                · refine g_iconst (v := 0) C dX2_read_128 (by decide) ?_
                  rw [← Option.some.inj hf] at hret
                  exact hret () _ _ dX2_read_129
            refine g_icmp_ne C dX2_read_97 (tgt := 104) (by decide) hf (fun hf => ?_) (fun hf => ?_)
            · refine g_aload_n C dX2_read_104 rfl 4 rfl ?_
              refine g_iload_n C dX2_read_105 rfl 5 rfl ?_
              refine g_iload_n C dX2_read_106 rfl 6 rfl ?_
              refine g_iconst (v := 4) C dX2_read_107 (by decide) ?_
              refine g_iadd C dX2_read_108 hf (fun z42 hf => ?_)
              obtain ⟨r43, hq44, hf⟩ := cal1_x hf
              refine g_callV (As := [.int x0, .int z42]) (rest := []) (st2 := [.int r43]) (n := 2) C (cX2_byteAt_ok X.1 a_this a_bytes a_lengths a_greatestSeqs v_oldest v_current v_synced v_bytes x0 z42 hq44) gX2_read_X2_byteAt rfl rfl rfl ⟨rfl, by decide +kernel⟩ (by decide) 0 rfl rfl rfl [0, 1] (by decide) rfl [2, 3] (Wr := [(a_lengths, .inl (X.1.2.2.1, 4, .inl v_lengths)), (a_p2, .inr (3, [.int v_p2_kind, .int v_p2_seq, .int v_p2_id, .int v_p2_version, .long v_p2_source]))]) (by decide) rfl (by decide) [2, 3, 0, 1] (by decide) (Wn := fun _ => [(a_this, .inr (2, [.int v_oldest, .int v_current, .int v_synced, .ref a_bytes, .ref a_lengths, .ref a_greatestSeqs])), (a_bytes, .inl (X.1.2.2.1, 960, .inl v_bytes)), (a_lengths, .inl (X.1.2.2.1, 4, .inl v_lengths)), (a_p2, .inr (3, [.int v_p2_kind, .int v_p2_seq, .int v_p2_id, .int v_p2_version, .long v_p2_source]))]) (fun _ => rfl) rfl rfl rfl (Nat.le_of_ble_eq_true rfl) dX2_read_109 ⟨Nat.le_refl _, Nat.le_refl _⟩ (fun _ => ?_)
              exact g_lv [4, 5, 6, 7, 2, 1] rfl (hJ112 r43 hf)
            · refine g_iconst (v := (-1)) C dX2_read_100 (by decide) ?_
              refine g_goto C dX2_read_101 (tgt := 112) (by decide) ?_
              exact g_lv [4, 5, 6, 7, 2, 1] rfl (hJ112 (-1) hf)
          · refine g_iconst (v := 0) C dX2_read_92 (by decide) ?_
            rw [← Option.some.inj hf] at hret
            exact hret () _ _ dX2_read_93
        · exact g_lv [] rfl (hJ64 hf)
  · refine g_iconst (v := 0) C dX2_read_16 (by decide) ?_
    rw [← Option.some.inj hf] at hret
    exact hret () _ _ dX2_read_17
