def fX1_isProcessed (v_checkpoint : Int32) (v_ahead : Int64) (x0 : Int32) : Option ((Int32)) :=
  (bnd (x0 - v_checkpoint : Int32) (fun z1 => (bnd (z1 - 1 : Int32) (fun z2 => (if 0 ≤ z2 then (jp (fun (k3 : Int32) => (zok k3 (some (k3)))) (fun J39 => (jp (J39 0) (fun J38 => (if 64 ≤ z2 then J38 else (bnd ((Int64.toUInt64 v_ahead >>> ((Int32.toInt64 z2).toUInt64 &&& Int64.toUInt64 63)).toInt64 : Int64) (fun z4 => (bnd (z4 &&& 1 : Int64) (fun z5 => (bnd (lg_cmp z5 0 : Int32) (fun z6 => (if z6 = 0 then J38 else (J39 1))))))))))))) else (some (1)))))))
theorem inX1_isProcessed_1 : ∀ w ∈ wsX10, w ∈ wsX1_isProcessed := fun _ h => List.mem_cons_of_mem _ (List.mem_append_right _ h)
set_option maxRecDepth 100000 in
set_option maxHeartbeats 8000000 in
theorem cX1_isProcessed_ok (L : XL) (a_this a_documents : Nat) (v_checkpoint : Int32) (v_max : Int32) (v_ahead : Int64) (x0 : Int32) {t : (Int32)} (hf : fX1_isProcessed v_checkpoint v_ahead x0 = some t) : xM L yX1_isProcessed wsX1_isProcessed ({ frames := 0, cells := 0, slots := 0, locals := 0 }) [.ref a_this, .int x0] [(a_this, .inr (1, [.ref a_documents, .int v_checkpoint, .int v_max, .long v_ahead]))] 0 0 (some (.int t)) (fun _ : Unit => [(a_this, .inr (1, [.ref a_documents, .int v_checkpoint, .int v_max, .long v_ahead]))]) := by
  refine enter_z (own := RX1) (by decide) rfl rfl (Nat.le_of_ble_eq_true rfl) ?_
  intro X hXL C _ hret
  subst hXL
  unfold fX1_isProcessed at hf
  show G X 0 0 [(a_this, .inr (1, [.ref a_documents, .int v_checkpoint, .int v_max, .long v_ahead]))] [(0, .ref a_this), (1, .int x0)] 0 []
  refine g_iload_n C dX1_isProcessed_0 rfl 1 rfl ?_
  refine g_aload_n C dX1_isProcessed_1 rfl 0 rfl ?_
  refine g_get C inX1_isProcessed_1 0 rfl rfl 1 (by decide) (List.mem_of_getElem? (i := 1) rfl) rfl rfl dX1_isProcessed_2 ?_
  refine g_isub C dX1_isProcessed_5 hf (fun z1 hf => ?_)
  refine g_iconst (v := 1) C dX1_isProcessed_6 (by decide) ?_
  refine g_isub C dX1_isProcessed_7 hf (fun z2 hf => ?_)
  refine g_istore_n (lv2 := [(2, .int z2), (0, .ref a_this), (1, .int x0)]) C dX1_isProcessed_8 rfl (by decide) rfl ?_
  refine g_iload_n C dX1_isProcessed_9 rfl 0 rfl ?_
  refine g_if_ge C dX1_isProcessed_10 (tgt := 15) (by decide) hf (fun hf => ?_) (fun hf => ?_)
  · refine g_iload_n C dX1_isProcessed_15 rfl 0 rfl ?_
    refine g_bipush (v := 64) C dX1_isProcessed_16 (by decide) ?_
    obtain ⟨J39, eJ39, hf⟩ := jp_x hf
    have hJ39 : ∀ (k3 : Int32), J39 k3 = some t → G X 0 0 [(a_this, .inr (1, [.ref a_documents, .int v_checkpoint, .int v_max, .long v_ahead]))] [] 39 [.int k3] := by
      intro k3 hf
      have hf := app1 eJ39 hf
      obtain ⟨hz, hf⟩ := zok_x hf
      rw [← Option.some.inj hf] at hret
      exact hret () _ _ hz dX1_isProcessed_39
    obtain ⟨J38, eJ38, hf⟩ := jp_x hf
    have hJ38 : J38 = some t → G X 0 0 [(a_this, .inr (1, [.ref a_documents, .int v_checkpoint, .int v_max, .long v_ahead]))] [] 38 [] := by
      intro  hf
      have hf := app0 eJ38 hf
      refine g_iconst (v := 0) C dX1_isProcessed_38 (by decide) ?_
      exact hJ39 0 hf
    refine g_icmp_ge C dX1_isProcessed_18 (tgt := 38) (by decide) hf (fun hf => ?_) (fun hf => ?_)
    · exact g_lv [] rfl (hJ38 hf)
    · refine g_aload_n C dX1_isProcessed_21 rfl 1 rfl ?_
      refine g_get C inX1_isProcessed_1 0 rfl rfl 3 (by decide) (List.mem_of_getElem? (i := 2) rfl) rfl rfl dX1_isProcessed_22 ?_
      refine g_iload_n C dX1_isProcessed_25 rfl 0 rfl ?_
      refine g_lushr C dX1_isProcessed_26 hf (fun z4 hf => ?_)
      refine g_lconst (v := 1) C dX1_isProcessed_27 (by decide) ?_
      refine g_land C dX1_isProcessed_28 hf (fun z5 hf => ?_)
      refine g_lconst (v := 0) C dX1_isProcessed_29 (by decide) ?_
      refine g_lcmp C dX1_isProcessed_30 hf (fun z6 hf => ?_)
      refine g_if_eq C dX1_isProcessed_31 (tgt := 38) (by decide) hf (fun hf => ?_) (fun hf => ?_)
      · exact g_lv [] rfl (hJ38 hf)
      · refine g_iconst (v := 1) C dX1_isProcessed_34 (by decide) ?_
        refine g_goto C dX1_isProcessed_35 (tgt := 39) (by decide) ?_
        exact g_lv [] rfl (hJ39 1 hf)
  · refine g_iconst (v := 1) C dX1_isProcessed_13 (by decide) ?_
    rw [← Option.some.inj hf] at hret
    exact hret () _ _ (show narrow .boolean (.int (1 : Int32)) = .int 1 from rfl) dX1_isProcessed_14
def sX1_mark_33 (J76 : (Int32) → (Int64) → Option ((Int32) × (Int32) × (Int64))) (R33 : (Int32) → (Int32) → (Int64) → Option ((Int32) × (Int32) × (Int64))) (y7 : Int32) (w8 : Int32) (w9 : Int64) : Option ((Int32) × (Int32) × (Int64)) :=
  (if 64 ≤ y7 then (J76 w8 w9) else (bnd (w9 &&& 1 : Int64) (fun z10 => (bnd (lg_cmp z10 0 : Int32) (fun z11 => (if z11 = 0 then (J76 w8 w9) else (bnd ((Int64.toUInt64 w9 >>> ((Int32.toInt64 1).toUInt64 &&& Int64.toUInt64 63)).toInt64 : Int64) (fun z12 => (bnd (w8 + 1 : Int32) (fun z13 => (bnd (y7 + 1) (fun z14 => (R33 z14 z13 z12)))))))))))))
def fX1_mark (v_checkpoint : Int32) (v_max : Int32) (v_ahead : Int64) (x0 : Int32) : Option ((Int32) × (Int32) × (Int64)) :=
  (bnd (x0 - v_checkpoint : Int32) (fun z1 => (bnd (z1 - 1 : Int32) (fun z2 => (jp (fun (w3 : Int64) => (jp (fun (w4 : Int32) (w5 : Int64) => (bnd (if v_max < x0 then x0 else v_max) (fun z6 => (some (w4, z6, w5))))) (fun J76 => (lo3 (sX1_mark_33 J76) 1000 0 v_checkpoint w3)))) (fun J31 => (if z2 < 0 then (J31 v_ahead) else (if 64 ≤ z2 then (J31 v_ahead) else (bnd (1 <<< (Int32.toInt64 z2 &&& 63) : Int64) (fun z15 => (bnd (v_ahead ||| z15 : Int64) (fun z16 => (J31 z16)))))))))))))
theorem inX1_mark_1 : ∀ w ∈ wsX10, w ∈ wsX1_mark := fun _ h => List.mem_cons_of_mem _ (List.mem_append_right _ h)
set_option maxRecDepth 100000 in
set_option maxHeartbeats 8000000 in
theorem cX1_mark_ok (L : XL) (a_this a_documents : Nat) (v_checkpoint : Int32) (v_max : Int32) (v_ahead : Int64) (x0 : Int32) {t : (Int32) × (Int32) × (Int64)} (hf : fX1_mark v_checkpoint v_max v_ahead x0 = some t) : xM L yX1_mark wsX1_mark ({ frames := 1, cells := 0, slots := 0, locals := 21 }) [.ref a_this, .int x0] [(a_this, .inr (1, [.ref a_documents, .int v_checkpoint, .int v_max, .long v_ahead]))] 0 0 none (fun _ : Unit => [(a_this, .inr (1, [.ref a_documents, .int t.1, .int t.2.1, .long t.2.2]))]) := by
  refine enter_v (own := RX1) (by decide) rfl rfl (Nat.le_of_ble_eq_true rfl) ?_
  intro X hXL C _ hret
  subst hXL
  unfold fX1_mark at hf
  show G X 0 0 [(a_this, .inr (1, [.ref a_documents, .int v_checkpoint, .int v_max, .long v_ahead]))] [(0, .ref a_this), (1, .int x0)] 0 []
  refine g_iload_n C dX1_mark_0 rfl 1 rfl ?_
  refine g_aload_n C dX1_mark_1 rfl 0 rfl ?_
  refine g_get C inX1_mark_1 0 rfl rfl 1 (by decide) (List.mem_of_getElem? (i := 1) rfl) rfl rfl dX1_mark_2 ?_
  refine g_isub C dX1_mark_5 hf (fun z1 hf => ?_)
  refine g_iconst (v := 1) C dX1_mark_6 (by decide) ?_
  refine g_isub C dX1_mark_7 hf (fun z2 hf => ?_)
  refine g_istore_n (lv2 := [(2, .int z2), (0, .ref a_this), (1, .int x0)]) C dX1_mark_8 rfl (by decide) rfl ?_
  refine g_iload_n C dX1_mark_9 rfl 0 rfl ?_
  obtain ⟨J31, eJ31, hf⟩ := jp_x hf
  have hJ31 : ∀ (w3 : Int64), J31 w3 = some t → G X 0 0 [(a_this, .inr (1, [.ref a_documents, .int v_checkpoint, .int v_max, .long w3]))] [(0, .ref a_this), (1, .int x0)] 31 [] := by
    intro w3 hf
    have hf := app1 eJ31 hf
    refine g_iconst (v := 0) C dX1_mark_31 (by decide) ?_
    refine g_istore_n (lv2 := [(3, .int 0), (0, .ref a_this), (1, .int x0)]) C dX1_mark_32 rfl (by decide) rfl ?_
    obtain ⟨J76, eJ76, hf⟩ := jp_x hf
    have hJ76 : ∀ (w4 : Int32) (w5 : Int64), J76 w4 w5 = some t → G X 0 0 [(a_this, .inr (1, [.ref a_documents, .int w4, .int v_max, .long w5]))] [(0, .ref a_this), (1, .int x0)] 76 [] := by
      intro w4 w5 hf
      have hf := app2 eJ76 hf
      refine g_aload_n C dX1_mark_76 rfl 0 rfl ?_
      refine g_aload_n C dX1_mark_77 rfl 0 rfl ?_
      refine g_get C inX1_mark_1 0 rfl rfl 2 (by decide) (List.mem_of_getElem? (i := 3) rfl) rfl rfl dX1_mark_78 ?_
      refine g_iload_n C dX1_mark_81 rfl 1 rfl ?_
      refine g_mmax C (List.mem_of_getElem? (i := 4) rfl) (List.mem_of_getElem? (i := 5) rfl) (List.mem_of_getElem? (i := 6) rfl) (List.mem_of_getElem? (i := 7) rfl) (Nat.le_of_ble_eq_true rfl) (Nat.le_of_ble_eq_true rfl) (Nat.zero_le _) (Nat.zero_le _) dX1_mark_82 hf (fun z6 hf => ?_)
      refine g_put (Wd2 := [(a_this, .inr (1, [.ref a_documents, .int w4, .int z6, .long w5]))]) C inX1_mark_1 tyX1 tyX1_ok nmX1 0 rfl rfl 2 (by decide) (List.mem_of_getElem? (i := 3) rfl) rfl rfl rfl rfl (Nat.le_of_ble_eq_true rfl) dX1_mark_85 rfl ?_
      rw [← Option.some.inj hf] at hret
      exact hret () _ _ dX1_mark_88
    have hL33 : ∀ (n : Nat) (y7 : Int32) (w8 : Int32) (w9 : Int64), lo3 (sX1_mark_33 J76) n y7 w8 w9 = some t → G X 0 0 [(a_this, .inr (1, [.ref a_documents, .int w8, .int v_max, .long w9]))] [(0, .ref a_this), (1, .int x0), (3, .int y7)] 33 [] := by
      intro n
      induction n with
      | zero => intro y7 w8 w9 hf; exact (lo3_z hf).elim
      | succ n ih33 =>
        intro y7 w8 w9 hf
        obtain ⟨R33, eR33, hf⟩ := lo3_x hf
        unfold sX1_mark_33 at hf
        refine g_iload_n C dX1_mark_33 rfl 2 rfl ?_
        refine g_bipush (v := 64) C dX1_mark_34 (by decide) ?_
        refine g_icmp_ge C dX1_mark_36 (tgt := 76) (by decide) hf (fun hf => ?_) (fun hf => ?_)
        · exact g_lv [0, 1] rfl (hJ76 w8 w9 hf)
        · refine g_aload_n C dX1_mark_39 rfl 0 rfl ?_
          refine g_get C inX1_mark_1 0 rfl rfl 3 (by decide) (List.mem_of_getElem? (i := 2) rfl) rfl rfl dX1_mark_40 ?_
          refine g_lconst (v := 1) C dX1_mark_43 (by decide) ?_
          refine g_land C dX1_mark_44 hf (fun z10 hf => ?_)
          refine g_lconst (v := 0) C dX1_mark_45 (by decide) ?_
          refine g_lcmp C dX1_mark_46 hf (fun z11 hf => ?_)
          refine g_if_eq C dX1_mark_47 (tgt := 76) (by decide) hf (fun hf => ?_) (fun hf => ?_)
          · exact g_lv [0, 1] rfl (hJ76 w8 w9 hf)
          · refine g_aload_n C dX1_mark_50 rfl 0 rfl ?_
            refine g_dup C dX1_mark_51 rfl ?_
            refine g_get C inX1_mark_1 0 rfl rfl 3 (by decide) (List.mem_of_getElem? (i := 2) rfl) rfl rfl dX1_mark_52 ?_
            refine g_iconst (v := 1) C dX1_mark_55 (by decide) ?_
            refine g_lushr C dX1_mark_56 hf (fun z12 hf => ?_)
            refine g_put (Wd2 := [(a_this, .inr (1, [.ref a_documents, .int w8, .int v_max, .long z12]))]) C inX1_mark_1 tyX1 tyX1_ok nmX1 0 rfl rfl 3 (by decide) (List.mem_of_getElem? (i := 2) rfl) rfl rfl rfl rfl (Nat.le_of_ble_eq_true rfl) dX1_mark_57 rfl ?_
            refine g_aload_n C dX1_mark_60 rfl 0 rfl ?_
            refine g_dup C dX1_mark_61 rfl ?_
            refine g_get C inX1_mark_1 0 rfl rfl 1 (by decide) (List.mem_of_getElem? (i := 1) rfl) rfl rfl dX1_mark_62 ?_
            refine g_iconst (v := 1) C dX1_mark_65 (by decide) ?_
            refine g_iadd C dX1_mark_66 hf (fun z13 hf => ?_)
            refine g_put (Wd2 := [(a_this, .inr (1, [.ref a_documents, .int z13, .int v_max, .long z12]))]) C inX1_mark_1 tyX1 tyX1_ok nmX1 0 rfl rfl 1 (by decide) (List.mem_of_getElem? (i := 1) rfl) rfl rfl rfl rfl (Nat.le_of_ble_eq_true rfl) dX1_mark_67 rfl ?_
            refine g_iinc (v := 1) (lv2 := fun z14 => [(3, .int z14), (0, .ref a_this), (1, .int x0)]) C dX1_mark_70 2 rfl (by decide) (by decide) hf (fun _ => rfl) (fun z14 hf => ?_)
            refine g_goto C dX1_mark_73 (tgt := 33) (by decide) ?_
            exact g_lv [1, 2, 0] rfl (ih33 z14 z13 z12 (app3 eR33 hf))
    exact g_lv [1, 2, 0] rfl (hL33 _ 0 v_checkpoint w3 hf)
  refine g_if_lt C dX1_mark_10 (tgt := 31) (by decide) hf (fun hf => ?_) (fun hf => ?_)
  · exact g_lv [1, 2] rfl (hJ31 v_ahead hf)
  · refine g_iload_n C dX1_mark_13 rfl 0 rfl ?_
    refine g_bipush (v := 64) C dX1_mark_14 (by decide) ?_
    refine g_icmp_ge C dX1_mark_16 (tgt := 31) (by decide) hf (fun hf => ?_) (fun hf => ?_)
    · exact g_lv [1, 2] rfl (hJ31 v_ahead hf)
    · refine g_aload_n C dX1_mark_19 rfl 1 rfl ?_
      refine g_dup C dX1_mark_20 rfl ?_
      refine g_get C inX1_mark_1 0 rfl rfl 3 (by decide) (List.mem_of_getElem? (i := 2) rfl) rfl rfl dX1_mark_21 ?_
      refine g_lconst (v := 1) C dX1_mark_24 (by decide) ?_
      refine g_iload_n C dX1_mark_25 rfl 0 rfl ?_
      refine g_lshl C dX1_mark_26 hf (fun z15 hf => ?_)
      refine g_lor C dX1_mark_27 hf (fun z16 hf => ?_)
      refine g_put (Wd2 := [(a_this, .inr (1, [.ref a_documents, .int v_checkpoint, .int v_max, .long z16]))]) C inX1_mark_1 tyX1 tyX1_ok nmX1 0 rfl rfl 3 (by decide) (List.mem_of_getElem? (i := 2) rfl) rfl rfl rfl rfl (Nat.le_of_ble_eq_true rfl) dX1_mark_28 rfl ?_
      exact g_lv [1, 2] rfl (hJ31 z16 hf)
def fX1_process (v_documents_kinds : Nat → Int32) (v_documents_seqs : Nat → Int32) (v_documents_versions : Nat → Int32) (v_documents_sources : Nat → Int64) (v_checkpoint : Int32) (v_max : Int32) (v_ahead : Int64) (v_p0_kind : Int32) (v_p0_seq : Int32) (v_p0_id : Int32) (v_p0_version : Int32) (v_p0_source : Int64) : Option ((Int32) × (Nat → Int32) × (Nat → Int32) × (Nat → Int32) × (Nat → Int64) × (Int32) × (Int32) × (Int64)) :=
  (cal3 (fX1_mark v_checkpoint v_max v_ahead v_p0_seq) (fun u1 u2 u3 => (cal5 (fX0_learn v_documents_kinds v_documents_seqs v_documents_versions v_documents_sources v_p0_kind v_p0_seq v_p0_id v_p0_version v_p0_source) (fun r5 u6 u7 u8 u9 => (zok r5 (some (r5, u6, u7, u8, u9, u1, u2, u3)))))))
theorem inX1_process_0 : ∀ w ∈ wsX00, w ∈ wsX1_process := fun _ h => List.mem_cons_of_mem _ (List.mem_append_right _ h)
theorem inX1_process_1 : ∀ w ∈ wsX10, w ∈ wsX1_process := fun _ h => List.mem_cons_of_mem _ (List.mem_append_left _ (List.mem_append_right _ h))
theorem inX1_process_3 : ∀ w ∈ wsX30, w ∈ wsX1_process := fun _ h => List.mem_cons_of_mem _ (List.mem_append_left _ (List.mem_append_left _ (List.mem_append_right _ h)))
set_option maxRecDepth 100000 in
set_option maxHeartbeats 8000000 in
theorem cX1_process_ok (L : XL) (a_this a_documents a_documents_kinds a_documents_seqs a_documents_versions a_documents_sources a_p0 : Nat) (v_documents_kinds : Nat → Int32) (v_documents_seqs : Nat → Int32) (v_documents_versions : Nat → Int32) (v_documents_sources : Nat → Int64) (v_checkpoint : Int32) (v_max : Int32) (v_ahead : Int64) (v_p0_kind : Int32) (v_p0_seq : Int32) (v_p0_id : Int32) (v_p0_version : Int32) (v_p0_source : Int64)  {t : (Int32) × (Nat → Int32) × (Nat → Int32) × (Nat → Int32) × (Nat → Int64) × (Int32) × (Int32) × (Int64)} (hf : fX1_process v_documents_kinds v_documents_seqs v_documents_versions v_documents_sources v_checkpoint v_max v_ahead v_p0_kind v_p0_seq v_p0_id v_p0_version v_p0_source = some t) : xM L yX1_process wsX1_process ({ frames := 2, cells := 0, slots := 0, locals := 44 }) [.ref a_this, .ref a_p0] [(a_this, .inr (1, [.ref a_documents, .int v_checkpoint, .int v_max, .long v_ahead])), (a_documents, .inr (0, [.ref a_documents_kinds, .ref a_documents_seqs, .ref a_documents_versions, .ref a_documents_sources])), (a_documents_kinds, .inl (L.2.2.1, 16, .inl v_documents_kinds)), (a_documents_seqs, .inl (L.2.2.1, 16, .inl v_documents_seqs)), (a_documents_versions, .inl (L.2.2.1, 16, .inl v_documents_versions)), (a_documents_sources, .inl (L.2.2.2.1, 16, .inr (.inl v_documents_sources))), (a_p0, .inr (3, [.int v_p0_kind, .int v_p0_seq, .int v_p0_id, .int v_p0_version, .long v_p0_source]))] 0 0 (some (.int t.1)) (fun _ : Unit => [(a_this, .inr (1, [.ref a_documents, .int t.2.2.2.2.2.1, .int t.2.2.2.2.2.2.1, .long t.2.2.2.2.2.2.2])), (a_documents, .inr (0, [.ref a_documents_kinds, .ref a_documents_seqs, .ref a_documents_versions, .ref a_documents_sources])), (a_documents_kinds, .inl (L.2.2.1, 16, .inl t.2.1)), (a_documents_seqs, .inl (L.2.2.1, 16, .inl t.2.2.1)), (a_documents_versions, .inl (L.2.2.1, 16, .inl t.2.2.2.1)), (a_documents_sources, .inl (L.2.2.2.1, 16, .inr (.inl t.2.2.2.2.1))), (a_p0, .inr (3, [.int v_p0_kind, .int v_p0_seq, .int v_p0_id, .int v_p0_version, .long v_p0_source]))]) := by
  refine enter_z (own := RX1) (by decide) rfl rfl (Nat.le_of_ble_eq_true rfl) ?_
  intro X hXL C _ hret
  subst hXL
  unfold fX1_process at hf
  show G X 0 0 [(a_this, .inr (1, [.ref a_documents, .int v_checkpoint, .int v_max, .long v_ahead])), (a_documents, .inr (0, [.ref a_documents_kinds, .ref a_documents_seqs, .ref a_documents_versions, .ref a_documents_sources])), (a_documents_kinds, .inl (X.1.2.2.1, 16, .inl v_documents_kinds)), (a_documents_seqs, .inl (X.1.2.2.1, 16, .inl v_documents_seqs)), (a_documents_versions, .inl (X.1.2.2.1, 16, .inl v_documents_versions)), (a_documents_sources, .inl (X.1.2.2.2.1, 16, .inr (.inl v_documents_sources))), (a_p0, .inr (3, [.int v_p0_kind, .int v_p0_seq, .int v_p0_id, .int v_p0_version, .long v_p0_source]))] [(0, .ref a_this), (1, .ref a_p0)] 0 []
  refine g_aload_n C dX1_process_0 rfl 0 rfl ?_
  refine g_aload_n C dX1_process_1 rfl 1 rfl ?_
  refine g_get C inX1_process_3 6 rfl rfl 1 (by decide) (List.mem_of_getElem? (i := 1) rfl) rfl rfl dX1_process_2 ?_
  obtain ⟨u1, u2, u3, hq4, hf⟩ := cal3_x hf
  refine g_callV (As := [.int v_p0_seq]) (rest := []) (st2 := []) (n := 1) C (cX1_mark_ok X.1 a_this a_documents v_checkpoint v_max v_ahead v_p0_seq hq4) gX1_process_X1_mark rfl rfl rfl ⟨rfl, by decide +kernel⟩ (by decide) 0 rfl rfl rfl [0] (by decide) rfl [1, 2, 3, 4, 5, 6] (Wr := [(a_documents, .inr (0, [.ref a_documents_kinds, .ref a_documents_seqs, .ref a_documents_versions, .ref a_documents_sources])), (a_documents_kinds, .inl (X.1.2.2.1, 16, .inl v_documents_kinds)), (a_documents_seqs, .inl (X.1.2.2.1, 16, .inl v_documents_seqs)), (a_documents_versions, .inl (X.1.2.2.1, 16, .inl v_documents_versions)), (a_documents_sources, .inl (X.1.2.2.2.1, 16, .inr (.inl v_documents_sources))), (a_p0, .inr (3, [.int v_p0_kind, .int v_p0_seq, .int v_p0_id, .int v_p0_version, .long v_p0_source]))]) (by decide) rfl (by decide) [6, 0, 1, 2, 3, 4, 5] (by decide) (Wn := fun _ => [(a_this, .inr (1, [.ref a_documents, .int u1, .int u2, .long u3])), (a_documents, .inr (0, [.ref a_documents_kinds, .ref a_documents_seqs, .ref a_documents_versions, .ref a_documents_sources])), (a_documents_kinds, .inl (X.1.2.2.1, 16, .inl v_documents_kinds)), (a_documents_seqs, .inl (X.1.2.2.1, 16, .inl v_documents_seqs)), (a_documents_versions, .inl (X.1.2.2.1, 16, .inl v_documents_versions)), (a_documents_sources, .inl (X.1.2.2.2.1, 16, .inr (.inl v_documents_sources))), (a_p0, .inr (3, [.int v_p0_kind, .int v_p0_seq, .int v_p0_id, .int v_p0_version, .long v_p0_source]))]) (fun _ => rfl) rfl rfl rfl (Nat.le_of_ble_eq_true rfl) dX1_process_5 ⟨Nat.le_refl _, Nat.le_refl _⟩ (fun _ => ?_)
  refine g_aload_n C dX1_process_8 rfl 0 rfl ?_
  refine g_get C inX1_process_1 0 rfl rfl 0 (by decide) (List.mem_of_getElem? (i := 2) rfl) rfl rfl dX1_process_9 ?_
  refine g_aload_n C dX1_process_12 rfl 1 rfl ?_
  obtain ⟨r5, u6, u7, u8, u9, hq10, hf⟩ := cal5_x hf
  refine g_callV (As := [.ref a_p0]) (rest := []) (st2 := [.int r5]) (n := 1) C (cX0_learn_ok X.1 a_documents a_documents_kinds a_documents_seqs a_documents_versions a_documents_sources a_p0 v_documents_kinds v_documents_seqs v_documents_versions v_documents_sources v_p0_kind v_p0_seq v_p0_id v_p0_version v_p0_source hq10) gX1_process_X0_learn rfl rfl rfl ⟨rfl, by decide +kernel⟩ (by decide) 0 rfl rfl rfl [1, 2, 3, 4, 5, 6] (by decide) rfl [0] (Wr := [(a_this, .inr (1, [.ref a_documents, .int u1, .int u2, .long u3]))]) (by decide) rfl (by decide) [0, 1, 2, 3, 4, 5, 6] (by decide) (Wn := fun _ => [(a_this, .inr (1, [.ref a_documents, .int u1, .int u2, .long u3])), (a_documents, .inr (0, [.ref a_documents_kinds, .ref a_documents_seqs, .ref a_documents_versions, .ref a_documents_sources])), (a_documents_kinds, .inl (X.1.2.2.1, 16, .inl u6)), (a_documents_seqs, .inl (X.1.2.2.1, 16, .inl u7)), (a_documents_versions, .inl (X.1.2.2.1, 16, .inl u8)), (a_documents_sources, .inl (X.1.2.2.2.1, 16, .inr (.inl u9))), (a_p0, .inr (3, [.int v_p0_kind, .int v_p0_seq, .int v_p0_id, .int v_p0_version, .long v_p0_source]))]) (fun _ => rfl) rfl rfl rfl (Nat.le_of_ble_eq_true rfl) dX1_process_13 ⟨Nat.le_refl _, Nat.le_refl _⟩ (fun _ => ?_)
  obtain ⟨hz, hf⟩ := zok_x hf
  rw [← Option.some.inj hf] at hret
  exact hret () _ _ hz dX1_process_16
def fX1_startFrom (v_documents_kinds : Nat → Int32) (v_documents_seqs : Nat → Int32) (v_documents_versions : Nat → Int32) (v_documents_sources : Nat → Int64) (v_checkpoint : Int32) (v_max : Int32) (v_ahead : Int64) (v_p0_documents_kinds : Nat → Int32) (v_p0_documents_seqs : Nat → Int32) (v_p0_documents_versions : Nat → Int32) (v_p0_documents_sources : Nat → Int64) (v_p0_checkpoint : Int32) (v_p0_max : Int32) : Option ((Nat → Int32) × (Nat → Int32) × (Nat → Int32) × (Nat → Int64) × (Int32) × (Int32) × (Int64)) :=
  (cal4 (fX0_copyFrom v_documents_kinds v_documents_seqs v_documents_versions v_documents_sources v_p0_documents_kinds v_p0_documents_seqs v_p0_documents_versions v_p0_documents_sources) (fun u1 u2 u3 u4 => (some (u1, u2, u3, u4, v_p0_checkpoint, v_p0_max, 0))))
theorem inX1_startFrom_0 : ∀ w ∈ wsX00, w ∈ wsX1_startFrom := fun _ h => List.mem_cons_of_mem _ (List.mem_append_right _ h)
theorem inX1_startFrom_1 : ∀ w ∈ wsX10, w ∈ wsX1_startFrom := fun _ h => List.mem_cons_of_mem _ (List.mem_append_left _ (List.mem_append_right _ h))
set_option maxRecDepth 100000 in
set_option maxHeartbeats 8000000 in
theorem cX1_startFrom_ok (L : XL) (a_this a_documents a_documents_kinds a_documents_seqs a_documents_versions a_documents_sources a_p0 a_p0_documents a_p0_documents_kinds a_p0_documents_seqs a_p0_documents_versions a_p0_documents_sources : Nat) (v_documents_kinds : Nat → Int32) (v_documents_seqs : Nat → Int32) (v_documents_versions : Nat → Int32) (v_documents_sources : Nat → Int64) (v_checkpoint : Int32) (v_max : Int32) (v_ahead : Int64) (v_p0_documents_kinds : Nat → Int32) (v_p0_documents_seqs : Nat → Int32) (v_p0_documents_versions : Nat → Int32) (v_p0_documents_sources : Nat → Int64) (v_p0_checkpoint : Int32) (v_p0_max : Int32) (v_p0_ahead : Int64)  {t : (Nat → Int32) × (Nat → Int32) × (Nat → Int32) × (Nat → Int64) × (Int32) × (Int32) × (Int64)} (hf : fX1_startFrom v_documents_kinds v_documents_seqs v_documents_versions v_documents_sources v_checkpoint v_max v_ahead v_p0_documents_kinds v_p0_documents_seqs v_p0_documents_versions v_p0_documents_sources v_p0_checkpoint v_p0_max = some t) : xM L yX1_startFrom wsX1_startFrom ({ frames := 1, cells := 0, slots := 0, locals := 22 }) [.ref a_this, .ref a_p0] [(a_this, .inr (1, [.ref a_documents, .int v_checkpoint, .int v_max, .long v_ahead])), (a_documents, .inr (0, [.ref a_documents_kinds, .ref a_documents_seqs, .ref a_documents_versions, .ref a_documents_sources])), (a_documents_kinds, .inl (L.2.2.1, 16, .inl v_documents_kinds)), (a_documents_seqs, .inl (L.2.2.1, 16, .inl v_documents_seqs)), (a_documents_versions, .inl (L.2.2.1, 16, .inl v_documents_versions)), (a_documents_sources, .inl (L.2.2.2.1, 16, .inr (.inl v_documents_sources))), (a_p0, .inr (1, [.ref a_p0_documents, .int v_p0_checkpoint, .int v_p0_max, .long v_p0_ahead])), (a_p0_documents, .inr (0, [.ref a_p0_documents_kinds, .ref a_p0_documents_seqs, .ref a_p0_documents_versions, .ref a_p0_documents_sources])), (a_p0_documents_kinds, .inl (L.2.2.1, 16, .inl v_p0_documents_kinds)), (a_p0_documents_seqs, .inl (L.2.2.1, 16, .inl v_p0_documents_seqs)), (a_p0_documents_versions, .inl (L.2.2.1, 16, .inl v_p0_documents_versions)), (a_p0_documents_sources, .inl (L.2.2.2.1, 16, .inr (.inl v_p0_documents_sources)))] 0 0 none (fun _ : Unit => [(a_this, .inr (1, [.ref a_documents, .int t.2.2.2.2.1, .int t.2.2.2.2.2.1, .long t.2.2.2.2.2.2])), (a_documents, .inr (0, [.ref a_documents_kinds, .ref a_documents_seqs, .ref a_documents_versions, .ref a_documents_sources])), (a_documents_kinds, .inl (L.2.2.1, 16, .inl t.1)), (a_documents_seqs, .inl (L.2.2.1, 16, .inl t.2.1)), (a_documents_versions, .inl (L.2.2.1, 16, .inl t.2.2.1)), (a_documents_sources, .inl (L.2.2.2.1, 16, .inr (.inl t.2.2.2.1))), (a_p0, .inr (1, [.ref a_p0_documents, .int v_p0_checkpoint, .int v_p0_max, .long v_p0_ahead])), (a_p0_documents, .inr (0, [.ref a_p0_documents_kinds, .ref a_p0_documents_seqs, .ref a_p0_documents_versions, .ref a_p0_documents_sources])), (a_p0_documents_kinds, .inl (L.2.2.1, 16, .inl v_p0_documents_kinds)), (a_p0_documents_seqs, .inl (L.2.2.1, 16, .inl v_p0_documents_seqs)), (a_p0_documents_versions, .inl (L.2.2.1, 16, .inl v_p0_documents_versions)), (a_p0_documents_sources, .inl (L.2.2.2.1, 16, .inr (.inl v_p0_documents_sources)))]) := by
  refine enter_v (own := RX1) (by decide) rfl rfl (Nat.le_of_ble_eq_true rfl) ?_
  intro X hXL C _ hret
  subst hXL
  unfold fX1_startFrom at hf
  show G X 0 0 [(a_this, .inr (1, [.ref a_documents, .int v_checkpoint, .int v_max, .long v_ahead])), (a_documents, .inr (0, [.ref a_documents_kinds, .ref a_documents_seqs, .ref a_documents_versions, .ref a_documents_sources])), (a_documents_kinds, .inl (X.1.2.2.1, 16, .inl v_documents_kinds)), (a_documents_seqs, .inl (X.1.2.2.1, 16, .inl v_documents_seqs)), (a_documents_versions, .inl (X.1.2.2.1, 16, .inl v_documents_versions)), (a_documents_sources, .inl (X.1.2.2.2.1, 16, .inr (.inl v_documents_sources))), (a_p0, .inr (1, [.ref a_p0_documents, .int v_p0_checkpoint, .int v_p0_max, .long v_p0_ahead])), (a_p0_documents, .inr (0, [.ref a_p0_documents_kinds, .ref a_p0_documents_seqs, .ref a_p0_documents_versions, .ref a_p0_documents_sources])), (a_p0_documents_kinds, .inl (X.1.2.2.1, 16, .inl v_p0_documents_kinds)), (a_p0_documents_seqs, .inl (X.1.2.2.1, 16, .inl v_p0_documents_seqs)), (a_p0_documents_versions, .inl (X.1.2.2.1, 16, .inl v_p0_documents_versions)), (a_p0_documents_sources, .inl (X.1.2.2.2.1, 16, .inr (.inl v_p0_documents_sources)))] [(0, .ref a_this), (1, .ref a_p0)] 0 []
  refine g_aload_n C dX1_startFrom_0 rfl 0 rfl ?_
  refine g_get C inX1_startFrom_1 0 rfl rfl 0 (by decide) (List.mem_of_getElem? (i := 1) rfl) rfl rfl dX1_startFrom_1 ?_
  refine g_aload_n C dX1_startFrom_4 rfl 1 rfl ?_
  refine g_get C inX1_startFrom_1 6 rfl rfl 0 (by decide) (List.mem_of_getElem? (i := 1) rfl) rfl rfl dX1_startFrom_5 ?_
  obtain ⟨u1, u2, u3, u4, hq5, hf⟩ := cal4_x hf
  refine g_callV (As := [.ref a_p0_documents]) (rest := []) (st2 := []) (n := 1) C (cX0_copyFrom_ok X.1 a_documents a_documents_kinds a_documents_seqs a_documents_versions a_documents_sources a_p0_documents a_p0_documents_kinds a_p0_documents_seqs a_p0_documents_versions a_p0_documents_sources v_documents_kinds v_documents_seqs v_documents_versions v_documents_sources v_p0_documents_kinds v_p0_documents_seqs v_p0_documents_versions v_p0_documents_sources hq5) gX1_startFrom_X0_copyFrom rfl rfl rfl ⟨rfl, by decide +kernel⟩ (by decide) 0 rfl rfl rfl [1, 2, 3, 4, 5, 7, 8, 9, 10, 11] (by decide) rfl [0, 6] (Wr := [(a_this, .inr (1, [.ref a_documents, .int v_checkpoint, .int v_max, .long v_ahead])), (a_p0, .inr (1, [.ref a_p0_documents, .int v_p0_checkpoint, .int v_p0_max, .long v_p0_ahead]))]) (by decide) rfl (by decide) [0, 2, 3, 4, 5, 6, 1, 7, 8, 9, 10, 11] (by decide) (Wn := fun _ => [(a_this, .inr (1, [.ref a_documents, .int v_checkpoint, .int v_max, .long v_ahead])), (a_documents, .inr (0, [.ref a_documents_kinds, .ref a_documents_seqs, .ref a_documents_versions, .ref a_documents_sources])), (a_documents_kinds, .inl (X.1.2.2.1, 16, .inl u1)), (a_documents_seqs, .inl (X.1.2.2.1, 16, .inl u2)), (a_documents_versions, .inl (X.1.2.2.1, 16, .inl u3)), (a_documents_sources, .inl (X.1.2.2.2.1, 16, .inr (.inl u4))), (a_p0, .inr (1, [.ref a_p0_documents, .int v_p0_checkpoint, .int v_p0_max, .long v_p0_ahead])), (a_p0_documents, .inr (0, [.ref a_p0_documents_kinds, .ref a_p0_documents_seqs, .ref a_p0_documents_versions, .ref a_p0_documents_sources])), (a_p0_documents_kinds, .inl (X.1.2.2.1, 16, .inl v_p0_documents_kinds)), (a_p0_documents_seqs, .inl (X.1.2.2.1, 16, .inl v_p0_documents_seqs)), (a_p0_documents_versions, .inl (X.1.2.2.1, 16, .inl v_p0_documents_versions)), (a_p0_documents_sources, .inl (X.1.2.2.2.1, 16, .inr (.inl v_p0_documents_sources)))]) (fun _ => rfl) rfl rfl rfl (Nat.le_of_ble_eq_true rfl) dX1_startFrom_8 ⟨Nat.le_refl _, Nat.le_refl _⟩ (fun _ => ?_)
  refine g_aload_n C dX1_startFrom_11 rfl 0 rfl ?_
  refine g_aload_n C dX1_startFrom_12 rfl 1 rfl ?_
  refine g_get C inX1_startFrom_1 6 rfl rfl 1 (by decide) (List.mem_of_getElem? (i := 2) rfl) rfl rfl dX1_startFrom_13 ?_
  refine g_put (Wd2 := [(a_this, .inr (1, [.ref a_documents, .int v_p0_checkpoint, .int v_max, .long v_ahead])), (a_documents, .inr (0, [.ref a_documents_kinds, .ref a_documents_seqs, .ref a_documents_versions, .ref a_documents_sources])), (a_documents_kinds, .inl (X.1.2.2.1, 16, .inl u1)), (a_documents_seqs, .inl (X.1.2.2.1, 16, .inl u2)), (a_documents_versions, .inl (X.1.2.2.1, 16, .inl u3)), (a_documents_sources, .inl (X.1.2.2.2.1, 16, .inr (.inl u4))), (a_p0, .inr (1, [.ref a_p0_documents, .int v_p0_checkpoint, .int v_p0_max, .long v_p0_ahead])), (a_p0_documents, .inr (0, [.ref a_p0_documents_kinds, .ref a_p0_documents_seqs, .ref a_p0_documents_versions, .ref a_p0_documents_sources])), (a_p0_documents_kinds, .inl (X.1.2.2.1, 16, .inl v_p0_documents_kinds)), (a_p0_documents_seqs, .inl (X.1.2.2.1, 16, .inl v_p0_documents_seqs)), (a_p0_documents_versions, .inl (X.1.2.2.1, 16, .inl v_p0_documents_versions)), (a_p0_documents_sources, .inl (X.1.2.2.2.1, 16, .inr (.inl v_p0_documents_sources)))]) C inX1_startFrom_1 tyX1 tyX1_ok nmX1 0 rfl rfl 1 (by decide) (List.mem_of_getElem? (i := 2) rfl) rfl rfl rfl rfl (Nat.le_of_ble_eq_true rfl) dX1_startFrom_16 rfl ?_
  refine g_aload_n C dX1_startFrom_19 rfl 0 rfl ?_
  refine g_aload_n C dX1_startFrom_20 rfl 1 rfl ?_
  refine g_get C inX1_startFrom_1 6 rfl rfl 2 (by decide) (List.mem_of_getElem? (i := 3) rfl) rfl rfl dX1_startFrom_21 ?_
  refine g_put (Wd2 := [(a_this, .inr (1, [.ref a_documents, .int v_p0_checkpoint, .int v_p0_max, .long v_ahead])), (a_documents, .inr (0, [.ref a_documents_kinds, .ref a_documents_seqs, .ref a_documents_versions, .ref a_documents_sources])), (a_documents_kinds, .inl (X.1.2.2.1, 16, .inl u1)), (a_documents_seqs, .inl (X.1.2.2.1, 16, .inl u2)), (a_documents_versions, .inl (X.1.2.2.1, 16, .inl u3)), (a_documents_sources, .inl (X.1.2.2.2.1, 16, .inr (.inl u4))), (a_p0, .inr (1, [.ref a_p0_documents, .int v_p0_checkpoint, .int v_p0_max, .long v_p0_ahead])), (a_p0_documents, .inr (0, [.ref a_p0_documents_kinds, .ref a_p0_documents_seqs, .ref a_p0_documents_versions, .ref a_p0_documents_sources])), (a_p0_documents_kinds, .inl (X.1.2.2.1, 16, .inl v_p0_documents_kinds)), (a_p0_documents_seqs, .inl (X.1.2.2.1, 16, .inl v_p0_documents_seqs)), (a_p0_documents_versions, .inl (X.1.2.2.1, 16, .inl v_p0_documents_versions)), (a_p0_documents_sources, .inl (X.1.2.2.2.1, 16, .inr (.inl v_p0_documents_sources)))]) C inX1_startFrom_1 tyX1 tyX1_ok nmX1 0 rfl rfl 2 (by decide) (List.mem_of_getElem? (i := 3) rfl) rfl rfl rfl rfl (Nat.le_of_ble_eq_true rfl) dX1_startFrom_24 rfl ?_
  refine g_aload_n C dX1_startFrom_27 rfl 0 rfl ?_
  refine g_lconst (v := 0) C dX1_startFrom_28 (by decide) ?_
  refine g_put (Wd2 := [(a_this, .inr (1, [.ref a_documents, .int v_p0_checkpoint, .int v_p0_max, .long 0])), (a_documents, .inr (0, [.ref a_documents_kinds, .ref a_documents_seqs, .ref a_documents_versions, .ref a_documents_sources])), (a_documents_kinds, .inl (X.1.2.2.1, 16, .inl u1)), (a_documents_seqs, .inl (X.1.2.2.1, 16, .inl u2)), (a_documents_versions, .inl (X.1.2.2.1, 16, .inl u3)), (a_documents_sources, .inl (X.1.2.2.2.1, 16, .inr (.inl u4))), (a_p0, .inr (1, [.ref a_p0_documents, .int v_p0_checkpoint, .int v_p0_max, .long v_p0_ahead])), (a_p0_documents, .inr (0, [.ref a_p0_documents_kinds, .ref a_p0_documents_seqs, .ref a_p0_documents_versions, .ref a_p0_documents_sources])), (a_p0_documents_kinds, .inl (X.1.2.2.1, 16, .inl v_p0_documents_kinds)), (a_p0_documents_seqs, .inl (X.1.2.2.1, 16, .inl v_p0_documents_seqs)), (a_p0_documents_versions, .inl (X.1.2.2.1, 16, .inl v_p0_documents_versions)), (a_p0_documents_sources, .inl (X.1.2.2.2.1, 16, .inr (.inl v_p0_documents_sources)))]) C inX1_startFrom_1 tyX1 tyX1_ok nmX1 0 rfl rfl 3 (by decide) (List.mem_of_getElem? (i := 4) rfl) rfl rfl rfl rfl (Nat.le_of_ble_eq_true rfl) dX1_startFrom_29 rfl ?_
  rw [← Option.some.inj hf] at hret
  exact hret () _ _ dX1_startFrom_32
