def fX3_become (v_kind : Int32) (v_seq : Int32) (v_id : Int32) (v_version : Int32) (v_source : Int64) (x0 : Int32) (x1 : Int32) (x2 : Int32) (x3 : Int32) (x4 : Int64) : Option ((Int32) × (Int32) × (Int32) × (Int32) × (Int64)) :=
  (some (x0, x1, x2, x3, x4))
theorem inX3_become_3 : ∀ w ∈ wsX30, w ∈ wsX3_become := fun _ h => List.mem_cons_of_mem _ (List.mem_append_right _ h)
set_option maxRecDepth 100000 in
set_option maxHeartbeats 8000000 in
theorem cX3_become_ok (L : XL) (a_this : Nat) (v_kind : Int32) (v_seq : Int32) (v_id : Int32) (v_version : Int32) (v_source : Int64) (x0 : Int32) (x1 : Int32) (x2 : Int32) (x3 : Int32) (x4 : Int64) {t : (Int32) × (Int32) × (Int32) × (Int32) × (Int64)} (hf : fX3_become v_kind v_seq v_id v_version v_source x0 x1 x2 x3 x4 = some t) : xM L yX3_become wsX3_become ({ frames := 0, cells := 0, slots := 0, locals := 0 }) [.ref a_this, .int x0, .int x1, .int x2, .int x3, .long x4] [(a_this, .inr (3, [.int v_kind, .int v_seq, .int v_id, .int v_version, .long v_source]))] 0 0 none (fun _ : Unit => [(a_this, .inr (3, [.int t.1, .int t.2.1, .int t.2.2.1, .int t.2.2.2.1, .long t.2.2.2.2]))]) := by
  refine enter_v (own := RX3) (by decide) rfl rfl (Nat.le_of_ble_eq_true rfl) ?_
  intro X hXL C _ hret
  subst hXL
  unfold fX3_become at hf
  show G X 0 0 [(a_this, .inr (3, [.int v_kind, .int v_seq, .int v_id, .int v_version, .long v_source]))] [(0, .ref a_this), (1, .int x0), (2, .int x1), (3, .int x2), (4, .int x3), (5, .long x4)] 0 []
  refine g_aload_n C dX3_become_0 rfl 0 rfl ?_
  refine g_iload_n C dX3_become_1 rfl 1 rfl ?_
  refine g_put (Wd2 := [(a_this, .inr (3, [.int x0, .int v_seq, .int v_id, .int v_version, .long v_source]))]) C inX3_become_3 tyX3 tyX3_ok nmX3 0 rfl rfl 0 (by decide) (List.mem_of_getElem? (i := 1) rfl) rfl rfl rfl rfl (Nat.le_of_ble_eq_true rfl) dX3_become_2 rfl ?_
  refine g_aload_n C dX3_become_5 rfl 0 rfl ?_
  refine g_iload_n C dX3_become_6 rfl 2 rfl ?_
  refine g_put (Wd2 := [(a_this, .inr (3, [.int x0, .int x1, .int v_id, .int v_version, .long v_source]))]) C inX3_become_3 tyX3 tyX3_ok nmX3 0 rfl rfl 1 (by decide) (List.mem_of_getElem? (i := 2) rfl) rfl rfl rfl rfl (Nat.le_of_ble_eq_true rfl) dX3_become_7 rfl ?_
  refine g_aload_n C dX3_become_10 rfl 0 rfl ?_
  refine g_iload_n C dX3_become_11 rfl 3 rfl ?_
  refine g_put (Wd2 := [(a_this, .inr (3, [.int x0, .int x1, .int x2, .int v_version, .long v_source]))]) C inX3_become_3 tyX3 tyX3_ok nmX3 0 rfl rfl 2 (by decide) (List.mem_of_getElem? (i := 3) rfl) rfl rfl rfl rfl (Nat.le_of_ble_eq_true rfl) dX3_become_12 rfl ?_
  refine g_aload_n C dX3_become_15 rfl 0 rfl ?_
  refine g_iload C dX3_become_16 4 rfl ?_
  refine g_put (Wd2 := [(a_this, .inr (3, [.int x0, .int x1, .int x2, .int x3, .long v_source]))]) C inX3_become_3 tyX3 tyX3_ok nmX3 0 rfl rfl 3 (by decide) (List.mem_of_getElem? (i := 4) rfl) rfl rfl rfl rfl (Nat.le_of_ble_eq_true rfl) dX3_become_18 rfl ?_
  refine g_aload_n C dX3_become_21 rfl 0 rfl ?_
  refine g_lload C dX3_become_22 5 rfl ?_
  refine g_put (Wd2 := [(a_this, .inr (3, [.int x0, .int x1, .int x2, .int x3, .long x4]))]) C inX3_become_3 tyX3 tyX3_ok nmX3 0 rfl rfl 4 (by decide) (List.mem_of_getElem? (i := 5) rfl) rfl rfl rfl rfl (Nat.le_of_ble_eq_true rfl) dX3_become_24 rfl ?_
  rw [← Option.some.inj hf] at hret
  exact hret () _ _ dX3_become_27
