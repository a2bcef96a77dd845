def fL_cell (xs : Nat → Int32) (Ln : Nat) (x1 : Int32) : Option ((Int32)) :=
  (jp (fun (k1 : Int32) => (some (k1))) (fun J13 => (if (Int32.ofNat Ln) ≤ x1 then (J13 0) else (rdI xs Ln x1 (fun z2 => (J13 z2))))))
set_option maxRecDepth 100000 in
set_option maxHeartbeats 8000000 in
theorem cL_cell_ok (L : XL) (b Ln : Nat) (xs : Nat → Int32)  (x1 : Int32) {t : (Int32)} (hf : fL_cell xs Ln x1 = some t) : xMs L yL_cell wsL_cell ({ frames := 0, cells := 0, slots := 0, locals := 0 }) [.ref b, .int x1] [] b Ln xs 0 0 (some (.int t)) (fun _ : Unit => []) := by
  refine enters_i (own := RL) (by decide) rfl rfl (Nat.le_of_ble_eq_true rfl) ?_
  intro X hXL C hs hret
  subst hXL
  unfold fL_cell at hf
  show G X 0 0 [] [(0, .ref b), (1, .int x1)] 0 []
  refine g_iload_n C dL_cell_0 rfl 1 rfl ?_
  refine g_aload_n C dL_cell_1 rfl 0 rfl ?_
  refine g_slen C hs dL_cell_2 ?_
  obtain ⟨J13, eJ13, hf⟩ := jp_x hf
  have hJ13 : ∀ (k1 : Int32), J13 k1 = some t → G X 0 0 [] [] 13 [.int k1] := by
    intro k1 hf
    have hf := app1 eJ13 hf
    rw [← Option.some.inj hf] at hret
    exact hret () _ _ dL_cell_13
  refine g_icmp_ge C dL_cell_3 (tgt := 12) (by decide) hf (fun hf => ?_) (fun hf => ?_)
  · refine g_iconst (v := 0) C dL_cell_12 (by decide) ?_
    exact g_lv [] rfl (hJ13 0 hf)
  · refine g_aload_n C dL_cell_6 rfl 0 rfl ?_
    refine g_iload_n C dL_cell_7 rfl 1 rfl ?_
    refine g_sld C hs dL_cell_8 hf (fun z2 hf => ?_)
    refine g_goto C dL_cell_9 (tgt := 13) (by decide) ?_
    exact g_lv [] rfl (hJ13 z2 hf)
def fL_source (x0 : Int32) : Option ((Int64)) :=
  (bnd (x0 * 40503 : Int32) (fun z1 => (bnd ((Int32.toUInt32 z1 >>> (Int32.toUInt32 3 &&& Int32.toUInt32 31)).toInt32 : Int32) (fun z2 => (bnd (z2 &&& 858993459 : Int32) (fun z3 => (bnd (Int32.toInt64 z3) (fun z4 => (bnd (z4 <<< (Int32.toInt64 32 &&& 63) : Int64) (fun z5 => (bnd (x0 >>> (7 &&& 31) : Int32) (fun z6 => (bnd (z6 &&& 7 : Int32) (fun z7 => (bnd (z7 - 3 : Int32) (fun z8 => (bnd (Int32.toInt64 z8) (fun z9 => (bnd (z9 &&& 4294967295 : Int64) (fun z10 => (bnd (z5 ||| z10 : Int64) (fun z11 => (some (z11))))))))))))))))))))))))
set_option maxRecDepth 100000 in
set_option maxHeartbeats 8000000 in
theorem cL_source_ok (L : XL)  (x0 : Int32) {t : (Int64)} (hf : fL_source x0 = some t) : xM L yL_source wsL_source ({ frames := 0, cells := 0, slots := 0, locals := 0 }) [.int x0] [] 0 0 (some (.long t)) (fun _ : Unit => []) := by
  refine enter_l (own := RL) (by decide) rfl rfl (Nat.le_of_ble_eq_true rfl) ?_
  intro X hXL C _ hret
  subst hXL
  unfold fL_source at hf
  show G X 0 0 [] [(0, .int x0)] 0 []
  refine g_iload_n C dL_source_0 rfl 0 rfl ?_
  refine g_ldc (v := 40503) C dL_source_1 (List.mem_of_getElem? (i := 1) rfl) ?_
  refine g_imul C dL_source_3 hf (fun z1 hf => ?_)
  refine g_iconst (v := 3) C dL_source_4 (by decide) ?_
  refine g_iushr C dL_source_5 hf (fun z2 hf => ?_)
  refine g_ldc (v := 858993459) C dL_source_6 (List.mem_of_getElem? (i := 2) rfl) ?_
  refine g_iand C dL_source_8 hf (fun z3 hf => ?_)
  refine g_i2l C dL_source_9 hf (fun z4 hf => ?_)
  refine g_bipush (v := 32) C dL_source_10 (by decide) ?_
  refine g_lshl C dL_source_12 hf (fun z5 hf => ?_)
  refine g_iload_n C dL_source_13 rfl 0 rfl ?_
  refine g_bipush (v := 7) C dL_source_14 (by decide) ?_
  refine g_ishr C dL_source_16 hf (fun z6 hf => ?_)
  refine g_bipush (v := 7) C dL_source_17 (by decide) ?_
  refine g_iand C dL_source_19 hf (fun z7 hf => ?_)
  refine g_iconst (v := 3) C dL_source_20 (by decide) ?_
  refine g_isub C dL_source_21 hf (fun z8 hf => ?_)
  refine g_i2l C dL_source_22 hf (fun z9 hf => ?_)
  refine g_ldc2 (v := 4294967295) C dL_source_23 (List.mem_of_getElem? (i := 3) rfl) ?_
  refine g_land C dL_source_26 hf (fun z10 hf => ?_)
  refine g_lor C dL_source_27 hf (fun z11 hf => ?_)
  rw [← Option.some.inj hf] at hret
  exact hret () _ _ dL_source_28
def fL_writes (x0 : Int32) : Option ((Int32)) :=
  (bnd (x0 &&& 15 : Int32) (fun z1 => (jp (fun (k2 : Int32) => (zok k2 (some (k2)))) (fun J14 => (if 10 ≤ z1 then (J14 0) else (J14 1))))))
set_option maxRecDepth 100000 in
set_option maxHeartbeats 8000000 in
theorem cL_writes_ok (L : XL)  (x0 : Int32) {t : (Int32)} (hf : fL_writes x0 = some t) : xM L yL_writes wsL_writes ({ frames := 0, cells := 0, slots := 0, locals := 0 }) [.int x0] [] 0 0 (some (.int t)) (fun _ : Unit => []) := by
  refine enter_z (own := RL) (by decide) rfl rfl (Nat.le_of_ble_eq_true rfl) ?_
  intro X hXL C _ hret
  subst hXL
  unfold fL_writes at hf
  show G X 0 0 [] [(0, .int x0)] 0 []
  refine g_iload_n C dL_writes_0 rfl 0 rfl ?_
  refine g_bipush (v := 15) C dL_writes_1 (by decide) ?_
  refine g_iand C dL_writes_3 hf (fun z1 hf => ?_)
  refine g_bipush (v := 10) C dL_writes_4 (by decide) ?_
  obtain ⟨J14, eJ14, hf⟩ := jp_x hf
  have hJ14 : ∀ (k2 : Int32), J14 k2 = some t → G X 0 0 [] [] 14 [.int k2] := by
    intro k2 hf
    have hf := app1 eJ14 hf
    obtain ⟨hz, hf⟩ := zok_x hf
    rw [← Option.some.inj hf] at hret
    exact hret () _ _ hz dL_writes_14
  refine g_icmp_ge C dL_writes_6 (tgt := 13) (by decide) hf (fun hf => ?_) (fun hf => ?_)
  · refine g_iconst (v := 0) C dL_writes_13 (by decide) ?_
    exact g_lv [] rfl (hJ14 0 hf)
  · refine g_iconst (v := 1) C dL_writes_9 (by decide) ?_
    refine g_goto C dL_writes_10 (tgt := 14) (by decide) ?_
    exact g_lv [] rfl (hJ14 1 hf)
def fL_apply (v_p0_live_documents_kinds : Nat → Int32) (v_p0_live_documents_seqs : Nat → Int32) (v_p0_live_documents_versions : Nat → Int32) (v_p0_live_documents_sources : Nat → Int64) (v_p0_live_checkpoint : Int32) (v_p0_live_max : Int32) (v_p0_live_ahead : Int64) (v_p0_commit_documents_kinds : Nat → Int32) (v_p0_commit_documents_seqs : Nat → Int32) (v_p0_commit_documents_versions : Nat → Int32) (v_p0_commit_documents_sources : Nat → Int64) (v_p0_commit_checkpoint : Int32) (v_p0_commit_max : Int32) (v_p0_commit_ahead : Int64) (v_p0_log_oldest : Int32) (v_p0_log_current : Int32) (v_p0_log_synced : Int32) (v_p0_log_bytes : Nat → Int32) (v_p0_log_lengths : Nat → Int32) (v_p0_log_greatestSeqs : Nat → Int32) (v_p0_operation_kind : Int32) (v_p0_operation_seq : Int32) (v_p0_operation_id : Int32) (v_p0_operation_version : Int32) (v_p0_operation_source : Int64) (v_p0_persisted : Int32) (v_p0_down : Int32) (x1 : Int32) : Option ((Int32) × (Nat → Int32) × (Nat → Int32) × (Nat → Int32) × (Nat → Int64) × (Int32) × (Int32) × (Int64) × (Nat → Int32) × (Nat → Int32) × (Nat → Int32) × (Nat → Int64) × (Int32) × (Int32) × (Int64) × (Int32) × (Int32) × (Int32) × (Nat → Int32) × (Nat → Int32) × (Nat → Int32) × (Int32) × (Int32) × (Int32) × (Int32) × (Int64) × (Int32)) :=
  (bnd (x1 &&& 15 : Int32) (fun z1 => (jp (fun (k2 : Int32) => (bnd (x1 >>> (4 &&& 31) : Int32) (fun z3 => (bnd (z3 &&& 7 : Int32) (fun z4 => (cal1 (fL_source x1) (fun r5 => (cal16 (fX5_write v_p0_live_documents_kinds v_p0_live_documents_seqs v_p0_live_documents_versions v_p0_live_documents_sources v_p0_live_checkpoint v_p0_live_max v_p0_live_ahead v_p0_log_current v_p0_log_bytes v_p0_log_lengths v_p0_log_greatestSeqs v_p0_operation_kind v_p0_operation_seq v_p0_operation_id v_p0_operation_version v_p0_operation_source v_p0_down k2 z4 r5 (-1)) (fun r7 u8 u9 u10 u11 u12 u13 u14 u15 u16 u17 u18 u19 u20 u21 u22 => (if r7 = (-3) then (cal14 (fX5_flush u8 u9 u10 u11 u12 u13 v_p0_commit_documents_kinds v_p0_commit_documents_seqs v_p0_commit_documents_versions v_p0_commit_documents_sources v_p0_commit_checkpoint v_p0_commit_max v_p0_commit_ahead v_p0_log_oldest v_p0_log_current v_p0_log_synced u16 u17 v_p0_persisted v_p0_down) (fun r24 u25 u26 u27 u28 u29 u30 u31 u32 u33 u34 u35 u36 u37 => (jp (fun (w39 : Nat → Int32) (w40 : Nat → Int32) (w41 : Nat → Int32) (w42 : Nat → Int64) (w43 : Int32) (w44 : Int32) (w45 : Int64) (w46 : Nat → Int32) (w47 : Nat → Int32) (w48 : Nat → Int32) (w49 : Int32) (w50 : Int32) (w51 : Int32) (w52 : Int32) (w53 : Int64) (k54 : Int32) => (some (k54, w39, w40, w41, w42, w43, w44, w45, u25, u26, u27, u28, u29, u30, u31, u32, u33, u34, w46, w47, w48, w49, w50, w51, w52, w53, u37))) (fun J68 => (if 0 ≤ r24 then (bnd (x1 >>> (4 &&& 31) : Int32) (fun z55 => (bnd (z55 &&& 7 : Int32) (fun z56 => (cal1 (fL_source x1) (fun r57 => (cal16 (fX5_write u8 u9 u10 u11 u12 u13 u14 u33 u15 u35 u36 u18 u19 u20 u21 u22 v_p0_down k2 z56 r57 (-1)) (fun r59 u60 u61 u62 u63 u64 u65 u66 u67 u68 u69 u70 u71 u72 u73 u74 => (J68 u60 u61 u62 u63 u64 u65 u66 u67 u68 u69 u70 u71 u72 u73 u74 r59))))))))) else (J68 u8 u9 u10 u11 u12 u13 u14 u15 u35 u36 u18 u19 u20 u21 u22 (-9))))))) else (some (r7, u8, u9, u10, u11, u12, u13, u14, v_p0_commit_documents_kinds, v_p0_commit_documents_seqs, v_p0_commit_documents_versions, v_p0_commit_documents_sources, v_p0_commit_checkpoint, v_p0_commit_max, v_p0_commit_ahead, v_p0_log_oldest, v_p0_log_current, v_p0_log_synced, u15, u16, u17, u18, u19, u20, u21, u22, v_p0_persisted)))))))))))) (fun J14 => (if 8 ≤ z1 then (J14 2) else (J14 1))))))
theorem inL_apply_0 : ∀ w ∈ wsX00, w ∈ wsL_apply := fun _ h => List.mem_cons_of_mem _ (List.mem_append_left _ (List.mem_append_left _ (List.mem_append_right _ h)))
theorem inL_apply_1 : ∀ w ∈ wsX10, w ∈ wsL_apply := fun _ h => List.mem_cons_of_mem _ (List.mem_append_left _ (List.mem_append_left _ (List.mem_append_left _ (List.mem_append_right _ h))))
theorem inL_apply_2 : ∀ w ∈ wsX20, w ∈ wsL_apply := fun _ h => List.mem_cons_of_mem _ (List.mem_append_left _ (List.mem_append_right _ h))
theorem inL_apply_3 : ∀ w ∈ wsX30, w ∈ wsL_apply := fun _ h => List.mem_cons_of_mem _ (List.mem_append_right _ h)
theorem inL_apply_5 : ∀ w ∈ wsX50, w ∈ wsL_apply := fun _ h => List.mem_cons_of_mem _ (List.mem_append_left _ (List.mem_append_left _ (List.mem_append_left _ (List.mem_append_left _ (List.mem_append_right _ h)))))
set_option maxRecDepth 100000 in
set_option maxHeartbeats 8000000 in
theorem cL_apply_ok (L : XL) (a_p0 a_p0_live a_p0_live_documents a_p0_live_documents_kinds a_p0_live_documents_seqs a_p0_live_documents_versions a_p0_live_documents_sources a_p0_commit a_p0_commit_documents a_p0_commit_documents_kinds a_p0_commit_documents_seqs a_p0_commit_documents_versions a_p0_commit_documents_sources a_p0_refreshed a_p0_log a_p0_log_bytes a_p0_log_lengths a_p0_log_greatestSeqs a_p0_query a_p0_operation a_p0_scores : Nat) (v_p0_live_documents_kinds : Nat → Int32) (v_p0_live_documents_seqs : Nat → Int32) (v_p0_live_documents_versions : Nat → Int32) (v_p0_live_documents_sources : Nat → Int64) (v_p0_live_checkpoint : Int32) (v_p0_live_max : Int32) (v_p0_live_ahead : Int64) (v_p0_commit_documents_kinds : Nat → Int32) (v_p0_commit_documents_seqs : Nat → Int32) (v_p0_commit_documents_versions : Nat → Int32) (v_p0_commit_documents_sources : Nat → Int64) (v_p0_commit_checkpoint : Int32) (v_p0_commit_max : Int32) (v_p0_commit_ahead : Int64) (v_p0_log_oldest : Int32) (v_p0_log_current : Int32) (v_p0_log_synced : Int32) (v_p0_log_bytes : Nat → Int32) (v_p0_log_lengths : Nat → Int32) (v_p0_log_greatestSeqs : Nat → Int32) (v_p0_operation_kind : Int32) (v_p0_operation_seq : Int32) (v_p0_operation_id : Int32) (v_p0_operation_version : Int32) (v_p0_operation_source : Int64) (v_p0_persisted : Int32) (v_p0_replayed : Int32) (v_p0_down : Int32) (x1 : Int32) {t : (Int32) × (Nat → Int32) × (Nat → Int32) × (Nat → Int32) × (Nat → Int64) × (Int32) × (Int32) × (Int64) × (Nat → Int32) × (Nat → Int32) × (Nat → Int32) × (Nat → Int64) × (Int32) × (Int32) × (Int64) × (Int32) × (Int32) × (Int32) × (Nat → Int32) × (Nat → Int32) × (Nat → Int32) × (Int32) × (Int32) × (Int32) × (Int32) × (Int64) × (Int32)} (hf : fL_apply v_p0_live_documents_kinds v_p0_live_documents_seqs v_p0_live_documents_versions v_p0_live_documents_sources v_p0_live_checkpoint v_p0_live_max v_p0_live_ahead v_p0_commit_documents_kinds v_p0_commit_documents_seqs v_p0_commit_documents_versions v_p0_commit_documents_sources v_p0_commit_checkpoint v_p0_commit_max v_p0_commit_ahead v_p0_log_oldest v_p0_log_current v_p0_log_synced v_p0_log_bytes v_p0_log_lengths v_p0_log_greatestSeqs v_p0_operation_kind v_p0_operation_seq v_p0_operation_id v_p0_operation_version v_p0_operation_source v_p0_persisted v_p0_down x1 = some t) : xM L yL_apply wsL_apply ({ frames := 6, cells := 0, slots := 0, locals := 138 }) [.ref a_p0, .int x1] [(a_p0, .inr (5, [.ref a_p0_live, .ref a_p0_commit, .ref a_p0_refreshed, .ref a_p0_log, .ref a_p0_query, .ref a_p0_operation, .ref a_p0_scores, .int v_p0_persisted, .int v_p0_replayed, .int v_p0_down])), (a_p0_live, .inr (1, [.ref a_p0_live_documents, .int v_p0_live_checkpoint, .int v_p0_live_max, .long v_p0_live_ahead])), (a_p0_live_documents, .inr (0, [.ref a_p0_live_documents_kinds, .ref a_p0_live_documents_seqs, .ref a_p0_live_documents_versions, .ref a_p0_live_documents_sources])), (a_p0_live_documents_kinds, .inl (L.2.2.1, 16, .inl v_p0_live_documents_kinds)), (a_p0_live_documents_seqs, .inl (L.2.2.1, 16, .inl v_p0_live_documents_seqs)), (a_p0_live_documents_versions, .inl (L.2.2.1, 16, .inl v_p0_live_documents_versions)), (a_p0_live_documents_sources, .inl (L.2.2.2.1, 16, .inr (.inl v_p0_live_documents_sources))), (a_p0_commit, .inr (1, [.ref a_p0_commit_documents, .int v_p0_commit_checkpoint, .int v_p0_commit_max, .long v_p0_commit_ahead])), (a_p0_commit_documents, .inr (0, [.ref a_p0_commit_documents_kinds, .ref a_p0_commit_documents_seqs, .ref a_p0_commit_documents_versions, .ref a_p0_commit_documents_sources])), (a_p0_commit_documents_kinds, .inl (L.2.2.1, 16, .inl v_p0_commit_documents_kinds)), (a_p0_commit_documents_seqs, .inl (L.2.2.1, 16, .inl v_p0_commit_documents_seqs)), (a_p0_commit_documents_versions, .inl (L.2.2.1, 16, .inl v_p0_commit_documents_versions)), (a_p0_commit_documents_sources, .inl (L.2.2.2.1, 16, .inr (.inl v_p0_commit_documents_sources))), (a_p0_log, .inr (2, [.int v_p0_log_oldest, .int v_p0_log_current, .int v_p0_log_synced, .ref a_p0_log_bytes, .ref a_p0_log_lengths, .ref a_p0_log_greatestSeqs])), (a_p0_log_bytes, .inl (L.2.2.1, 960, .inl v_p0_log_bytes)), (a_p0_log_lengths, .inl (L.2.2.1, 4, .inl v_p0_log_lengths)), (a_p0_log_greatestSeqs, .inl (L.2.2.1, 4, .inl v_p0_log_greatestSeqs)), (a_p0_operation, .inr (3, [.int v_p0_operation_kind, .int v_p0_operation_seq, .int v_p0_operation_id, .int v_p0_operation_version, .long v_p0_operation_source]))] 0 0 (some (.int t.1)) (fun _ : Unit => [(a_p0, .inr (5, [.ref a_p0_live, .ref a_p0_commit, .ref a_p0_refreshed, .ref a_p0_log, .ref a_p0_query, .ref a_p0_operation, .ref a_p0_scores, .int t.2.2.2.2.2.2.2.2.2.2.2.2.2.2.2.2.2.2.2.2.2.2.2.2.2.2, .int v_p0_replayed, .int v_p0_down])), (a_p0_live, .inr (1, [.ref a_p0_live_documents, .int t.2.2.2.2.2.1, .int t.2.2.2.2.2.2.1, .long t.2.2.2.2.2.2.2.1])), (a_p0_live_documents, .inr (0, [.ref a_p0_live_documents_kinds, .ref a_p0_live_documents_seqs, .ref a_p0_live_documents_versions, .ref a_p0_live_documents_sources])), (a_p0_live_documents_kinds, .inl (L.2.2.1, 16, .inl t.2.1)), (a_p0_live_documents_seqs, .inl (L.2.2.1, 16, .inl t.2.2.1)), (a_p0_live_documents_versions, .inl (L.2.2.1, 16, .inl t.2.2.2.1)), (a_p0_live_documents_sources, .inl (L.2.2.2.1, 16, .inr (.inl t.2.2.2.2.1))), (a_p0_commit, .inr (1, [.ref a_p0_commit_documents, .int t.2.2.2.2.2.2.2.2.2.2.2.2.1, .int t.2.2.2.2.2.2.2.2.2.2.2.2.2.1, .long t.2.2.2.2.2.2.2.2.2.2.2.2.2.2.1])), (a_p0_commit_documents, .inr (0, [.ref a_p0_commit_documents_kinds, .ref a_p0_commit_documents_seqs, .ref a_p0_commit_documents_versions, .ref a_p0_commit_documents_sources])), (a_p0_commit_documents_kinds, .inl (L.2.2.1, 16, .inl t.2.2.2.2.2.2.2.2.1)), (a_p0_commit_documents_seqs, .inl (L.2.2.1, 16, .inl t.2.2.2.2.2.2.2.2.2.1)), (a_p0_commit_documents_versions, .inl (L.2.2.1, 16, .inl t.2.2.2.2.2.2.2.2.2.2.1)), (a_p0_commit_documents_sources, .inl (L.2.2.2.1, 16, .inr (.inl t.2.2.2.2.2.2.2.2.2.2.2.1))), (a_p0_log, .inr (2, [.int t.2.2.2.2.2.2.2.2.2.2.2.2.2.2.2.1, .int t.2.2.2.2.2.2.2.2.2.2.2.2.2.2.2.2.1, .int t.2.2.2.2.2.2.2.2.2.2.2.2.2.2.2.2.2.1, .ref a_p0_log_bytes, .ref a_p0_log_lengths, .ref a_p0_log_greatestSeqs])), (a_p0_log_bytes, .inl (L.2.2.1, 960, .inl t.2.2.2.2.2.2.2.2.2.2.2.2.2.2.2.2.2.2.1)), (a_p0_log_lengths, .inl (L.2.2.1, 4, .inl t.2.2.2.2.2.2.2.2.2.2.2.2.2.2.2.2.2.2.2.1)), (a_p0_log_greatestSeqs, .inl (L.2.2.1, 4, .inl t.2.2.2.2.2.2.2.2.2.2.2.2.2.2.2.2.2.2.2.2.1)), (a_p0_operation, .inr (3, [.int t.2.2.2.2.2.2.2.2.2.2.2.2.2.2.2.2.2.2.2.2.2.1, .int t.2.2.2.2.2.2.2.2.2.2.2.2.2.2.2.2.2.2.2.2.2.2.1, .int t.2.2.2.2.2.2.2.2.2.2.2.2.2.2.2.2.2.2.2.2.2.2.2.1, .int t.2.2.2.2.2.2.2.2.2.2.2.2.2.2.2.2.2.2.2.2.2.2.2.2.1, .long t.2.2.2.2.2.2.2.2.2.2.2.2.2.2.2.2.2.2.2.2.2.2.2.2.2.1]))]) := by
  refine enter_i (own := RL) (by decide) rfl rfl (Nat.le_of_ble_eq_true rfl) ?_
  intro X hXL C _ hret
  subst hXL
  unfold fL_apply at hf
  show G X 0 0 [(a_p0, .inr (5, [.ref a_p0_live, .ref a_p0_commit, .ref a_p0_refreshed, .ref a_p0_log, .ref a_p0_query, .ref a_p0_operation, .ref a_p0_scores, .int v_p0_persisted, .int v_p0_replayed, .int v_p0_down])), (a_p0_live, .inr (1, [.ref a_p0_live_documents, .int v_p0_live_checkpoint, .int v_p0_live_max, .long v_p0_live_ahead])), (a_p0_live_documents, .inr (0, [.ref a_p0_live_documents_kinds, .ref a_p0_live_documents_seqs, .ref a_p0_live_documents_versions, .ref a_p0_live_documents_sources])), (a_p0_live_documents_kinds, .inl (X.1.2.2.1, 16, .inl v_p0_live_documents_kinds)), (a_p0_live_documents_seqs, .inl (X.1.2.2.1, 16, .inl v_p0_live_documents_seqs)), (a_p0_live_documents_versions, .inl (X.1.2.2.1, 16, .inl v_p0_live_documents_versions)), (a_p0_live_documents_sources, .inl (X.1.2.2.2.1, 16, .inr (.inl v_p0_live_documents_sources))), (a_p0_commit, .inr (1, [.ref a_p0_commit_documents, .int v_p0_commit_checkpoint, .int v_p0_commit_max, .long v_p0_commit_ahead])), (a_p0_commit_documents, .inr (0, [.ref a_p0_commit_documents_kinds, .ref a_p0_commit_documents_seqs, .ref a_p0_commit_documents_versions, .ref a_p0_commit_documents_sources])), (a_p0_commit_documents_kinds, .inl (X.1.2.2.1, 16, .inl v_p0_commit_documents_kinds)), (a_p0_commit_documents_seqs, .inl (X.1.2.2.1, 16, .inl v_p0_commit_documents_seqs)), (a_p0_commit_documents_versions, .inl (X.1.2.2.1, 16, .inl v_p0_commit_documents_versions)), (a_p0_commit_documents_sources, .inl (X.1.2.2.2.1, 16, .inr (.inl v_p0_commit_documents_sources))), (a_p0_log, .inr (2, [.int v_p0_log_oldest, .int v_p0_log_current, .int v_p0_log_synced, .ref a_p0_log_bytes, .ref a_p0_log_lengths, .ref a_p0_log_greatestSeqs])), (a_p0_log_bytes, .inl (X.1.2.2.1, 960, .inl v_p0_log_bytes)), (a_p0_log_lengths, .inl (X.1.2.2.1, 4, .inl v_p0_log_lengths)), (a_p0_log_greatestSeqs, .inl (X.1.2.2.1, 4, .inl v_p0_log_greatestSeqs)), (a_p0_operation, .inr (3, [.int v_p0_operation_kind, .int v_p0_operation_seq, .int v_p0_operation_id, .int v_p0_operation_version, .long v_p0_operation_source]))] [(0, .ref a_p0), (1, .int x1)] 0 []
  refine g_iload_n C dL_apply_0 rfl 1 rfl ?_
  refine g_bipush (v := 15) C dL_apply_1 (by decide) ?_
  refine g_iand C dL_apply_3 hf (fun z1 hf => ?_)
  refine g_bipush (v := 8) C dL_apply_4 (by decide) ?_
  obtain ⟨J14, eJ14, hf⟩ := jp_x hf
  have hJ14 : ∀ (k2 : Int32), J14 k2 = some t → G X 0 0 [(a_p0, .inr (5, [.ref a_p0_live, .ref a_p0_commit, .ref a_p0_refreshed, .ref a_p0_log, .ref a_p0_query, .ref a_p0_operation, .ref a_p0_scores, .int v_p0_persisted, .int v_p0_replayed, .int v_p0_down])), (a_p0_live, .inr (1, [.ref a_p0_live_documents, .int v_p0_live_checkpoint, .int v_p0_live_max, .long v_p0_live_ahead])), (a_p0_live_documents, .inr (0, [.ref a_p0_live_documents_kinds, .ref a_p0_live_documents_seqs, .ref a_p0_live_documents_versions, .ref a_p0_live_documents_sources])), (a_p0_live_documents_kinds, .inl (X.1.2.2.1, 16, .inl v_p0_live_documents_kinds)), (a_p0_live_documents_seqs, .inl (X.1.2.2.1, 16, .inl v_p0_live_documents_seqs)), (a_p0_live_documents_versions, .inl (X.1.2.2.1, 16, .inl v_p0_live_documents_versions)), (a_p0_live_documents_sources, .inl (X.1.2.2.2.1, 16, .inr (.inl v_p0_live_documents_sources))), (a_p0_commit, .inr (1, [.ref a_p0_commit_documents, .int v_p0_commit_checkpoint, .int v_p0_commit_max, .long v_p0_commit_ahead])), (a_p0_commit_documents, .inr (0, [.ref a_p0_commit_documents_kinds, .ref a_p0_commit_documents_seqs, .ref a_p0_commit_documents_versions, .ref a_p0_commit_documents_sources])), (a_p0_commit_documents_kinds, .inl (X.1.2.2.1, 16, .inl v_p0_commit_documents_kinds)), (a_p0_commit_documents_seqs, .inl (X.1.2.2.1, 16, .inl v_p0_commit_documents_seqs)), (a_p0_commit_documents_versions, .inl (X.1.2.2.1, 16, .inl v_p0_commit_documents_versions)), (a_p0_commit_documents_sources, .inl (X.1.2.2.2.1, 16, .inr (.inl v_p0_commit_documents_sources))), (a_p0_log, .inr (2, [.int v_p0_log_oldest, .int v_p0_log_current, .int v_p0_log_synced, .ref a_p0_log_bytes, .ref a_p0_log_lengths, .ref a_p0_log_greatestSeqs])), (a_p0_log_bytes, .inl (X.1.2.2.1, 960, .inl v_p0_log_bytes)), (a_p0_log_lengths, .inl (X.1.2.2.1, 4, .inl v_p0_log_lengths)), (a_p0_log_greatestSeqs, .inl (X.1.2.2.1, 4, .inl v_p0_log_greatestSeqs)), (a_p0_operation, .inr (3, [.int v_p0_operation_kind, .int v_p0_operation_seq, .int v_p0_operation_id, .int v_p0_operation_version, .long v_p0_operation_source]))] [(0, .ref a_p0), (1, .int x1)] 14 [.int k2] := by
    intro k2 hf
    have hf := app1 eJ14 hf
    refine g_istore_n (lv2 := [(2, .int k2), (0, .ref a_p0), (1, .int x1)]) C dL_apply_14 rfl (by decide) rfl ?_
    refine g_aload_n C dL_apply_15 rfl 1 rfl ?_
    refine g_iload_n C dL_apply_16 rfl 0 rfl ?_
    refine g_iload_n C dL_apply_17 rfl 2 rfl ?_
    refine g_iconst (v := 4) C dL_apply_18 (by decide) ?_
    refine g_ishr C dL_apply_19 hf (fun z3 hf => ?_)
    refine g_bipush (v := 7) C dL_apply_20 (by decide) ?_
    refine g_iand C dL_apply_22 hf (fun z4 hf => ?_)
    refine g_iload_n C dL_apply_23 rfl 2 rfl ?_
    obtain ⟨r5, hq6, hf⟩ := cal1_x hf
    refine g_callS (As := [.int x1]) (rest := [.int z4, .int k2, .ref a_p0]) (st2 := [.long r5, .int z4, .int k2, .ref a_p0]) (n := 1) C (cL_source_ok X.1 x1 hq6) gL_apply_L_source rfl rfl rfl (by decide +kernel) (by decide) [] (by decide) rfl [0, 1, 2, 3, 4, 5, 6, 7, 8, 9, 10, 11, 12, 13, 14, 15, 16, 17] (Wr := [(a_p0, .inr (5, [.ref a_p0_live, .ref a_p0_commit, .ref a_p0_refreshed, .ref a_p0_log, .ref a_p0_query, .ref a_p0_operation, .ref a_p0_scores, .int v_p0_persisted, .int v_p0_replayed, .int v_p0_down])), (a_p0_live, .inr (1, [.ref a_p0_live_documents, .int v_p0_live_checkpoint, .int v_p0_live_max, .long v_p0_live_ahead])), (a_p0_live_documents, .inr (0, [.ref a_p0_live_documents_kinds, .ref a_p0_live_documents_seqs, .ref a_p0_live_documents_versions, .ref a_p0_live_documents_sources])), (a_p0_live_documents_kinds, .inl (X.1.2.2.1, 16, .inl v_p0_live_documents_kinds)), (a_p0_live_documents_seqs, .inl (X.1.2.2.1, 16, .inl v_p0_live_documents_seqs)), (a_p0_live_documents_versions, .inl (X.1.2.2.1, 16, .inl v_p0_live_documents_versions)), (a_p0_live_documents_sources, .inl (X.1.2.2.2.1, 16, .inr (.inl v_p0_live_documents_sources))), (a_p0_commit, .inr (1, [.ref a_p0_commit_documents, .int v_p0_commit_checkpoint, .int v_p0_commit_max, .long v_p0_commit_ahead])), (a_p0_commit_documents, .inr (0, [.ref a_p0_commit_documents_kinds, .ref a_p0_commit_documents_seqs, .ref a_p0_commit_documents_versions, .ref a_p0_commit_documents_sources])), (a_p0_commit_documents_kinds, .inl (X.1.2.2.1, 16, .inl v_p0_commit_documents_kinds)), (a_p0_commit_documents_seqs, .inl (X.1.2.2.1, 16, .inl v_p0_commit_documents_seqs)), (a_p0_commit_documents_versions, .inl (X.1.2.2.1, 16, .inl v_p0_commit_documents_versions)), (a_p0_commit_documents_sources, .inl (X.1.2.2.2.1, 16, .inr (.inl v_p0_commit_documents_sources))), (a_p0_log, .inr (2, [.int v_p0_log_oldest, .int v_p0_log_current, .int v_p0_log_synced, .ref a_p0_log_bytes, .ref a_p0_log_lengths, .ref a_p0_log_greatestSeqs])), (a_p0_log_bytes, .inl (X.1.2.2.1, 960, .inl v_p0_log_bytes)), (a_p0_log_lengths, .inl (X.1.2.2.1, 4, .inl v_p0_log_lengths)), (a_p0_log_greatestSeqs, .inl (X.1.2.2.1, 4, .inl v_p0_log_greatestSeqs)), (a_p0_operation, .inr (3, [.int v_p0_operation_kind, .int v_p0_operation_seq, .int v_p0_operation_id, .int v_p0_operation_version, .long v_p0_operation_source]))]) (by decide) rfl (by decide) [0, 1, 2, 3, 4, 5, 6, 7, 8, 9, 10, 11, 12, 13, 14, 15, 16, 17] (by decide) (Wn := fun _ => [(a_p0, .inr (5, [.ref a_p0_live, .ref a_p0_commit, .ref a_p0_refreshed, .ref a_p0_log, .ref a_p0_query, .ref a_p0_operation, .ref a_p0_scores, .int v_p0_persisted, .int v_p0_replayed, .int v_p0_down])), (a_p0_live, .inr (1, [.ref a_p0_live_documents, .int v_p0_live_checkpoint, .int v_p0_live_max, .long v_p0_live_ahead])), (a_p0_live_documents, .inr (0, [.ref a_p0_live_documents_kinds, .ref a_p0_live_documents_seqs, .ref a_p0_live_documents_versions, .ref a_p0_live_documents_sources])), (a_p0_live_documents_kinds, .inl (X.1.2.2.1, 16, .inl v_p0_live_documents_kinds)), (a_p0_live_documents_seqs, .inl (X.1.2.2.1, 16, .inl v_p0_live_documents_seqs)), (a_p0_live_documents_versions, .inl (X.1.2.2.1, 16, .inl v_p0_live_documents_versions)), (a_p0_live_documents_sources, .inl (X.1.2.2.2.1, 16, .inr (.inl v_p0_live_documents_sources))), (a_p0_commit, .inr (1, [.ref a_p0_commit_documents, .int v_p0_commit_checkpoint, .int v_p0_commit_max, .long v_p0_commit_ahead])), (a_p0_commit_documents, .inr (0, [.ref a_p0_commit_documents_kinds, .ref a_p0_commit_documents_seqs, .ref a_p0_commit_documents_versions, .ref a_p0_commit_documents_sources])), (a_p0_commit_documents_kinds, .inl (X.1.2.2.1, 16, .inl v_p0_commit_documents_kinds)), (a_p0_commit_documents_seqs, .inl (X.1.2.2.1, 16, .inl v_p0_commit_documents_seqs)), (a_p0_commit_documents_versions, .inl (X.1.2.2.1, 16, .inl v_p0_commit_documents_versions)), (a_p0_commit_documents_sources, .inl (X.1.2.2.2.1, 16, .inr (.inl v_p0_commit_documents_sources))), (a_p0_log, .inr (2, [.int v_p0_log_oldest, .int v_p0_log_current, .int v_p0_log_synced, .ref a_p0_log_bytes, .ref a_p0_log_lengths, .ref a_p0_log_greatestSeqs])), (a_p0_log_bytes, .inl (X.1.2.2.1, 960, .inl v_p0_log_bytes)), (a_p0_log_lengths, .inl (X.1.2.2.1, 4, .inl v_p0_log_lengths)), (a_p0_log_greatestSeqs, .inl (X.1.2.2.1, 4, .inl v_p0_log_greatestSeqs)), (a_p0_operation, .inr (3, [.int v_p0_operation_kind, .int v_p0_operation_seq, .int v_p0_operation_id, .int v_p0_operation_version, .long v_p0_operation_source]))]) (fun _ => rfl) rfl rfl rfl (Nat.le_of_ble_eq_true rfl) dL_apply_24 ⟨Nat.le_refl _, Nat.le_refl _⟩ (fun _ => ?_)
    refine g_iconst (v := (-1)) C dL_apply_27 (by decide) ?_
    obtain ⟨r7, u8, u9, u10, u11, u12, u13, u14, u15, u16, u17, u18, u19, u20, u21, u22, hq23, hf⟩ := cal16_x hf
    refine g_callV (As := [.int k2, .int z4, .long r5, .int (-1)]) (rest := []) (st2 := [.int r7]) (n := 4) C (cX5_write_ok X.1 a_p0 a_p0_live a_p0_live_documents a_p0_live_documents_kinds a_p0_live_documents_seqs a_p0_live_documents_versions a_p0_live_documents_sources a_p0_commit a_p0_refreshed a_p0_log a_p0_log_bytes a_p0_log_lengths a_p0_log_greatestSeqs a_p0_query a_p0_operation a_p0_scores v_p0_live_documents_kinds v_p0_live_documents_seqs v_p0_live_documents_versions v_p0_live_documents_sources v_p0_live_checkpoint v_p0_live_max v_p0_live_ahead v_p0_log_oldest v_p0_log_current v_p0_log_synced v_p0_log_bytes v_p0_log_lengths v_p0_log_greatestSeqs v_p0_operation_kind v_p0_operation_seq v_p0_operation_id v_p0_operation_version v_p0_operation_source v_p0_persisted v_p0_replayed v_p0_down k2 z4 r5 (-1) hq23) gL_apply_X5_write rfl rfl rfl ⟨rfl, by decide +kernel⟩ (by decide) 0 rfl rfl rfl [0, 1, 2, 3, 4, 5, 6, 13, 14, 15, 16, 17] (by decide) rfl [7, 8, 9, 10, 11, 12] (Wr := [(a_p0_commit, .inr (1, [.ref a_p0_commit_documents, .int v_p0_commit_checkpoint, .int v_p0_commit_max, .long v_p0_commit_ahead])), (a_p0_commit_documents, .inr (0, [.ref a_p0_commit_documents_kinds, .ref a_p0_commit_documents_seqs, .ref a_p0_commit_documents_versions, .ref a_p0_commit_documents_sources])), (a_p0_commit_documents_kinds, .inl (X.1.2.2.1, 16, .inl v_p0_commit_documents_kinds)), (a_p0_commit_documents_seqs, .inl (X.1.2.2.1, 16, .inl v_p0_commit_documents_seqs)), (a_p0_commit_documents_versions, .inl (X.1.2.2.1, 16, .inl v_p0_commit_documents_versions)), (a_p0_commit_documents_sources, .inl (X.1.2.2.2.1, 16, .inr (.inl v_p0_commit_documents_sources)))]) (by decide) rfl (by decide) [6, 7, 8, 9, 10, 11, 12, 0, 1, 2, 3, 4, 5, 13, 14, 15, 16, 17] (by decide) (Wn := fun _ => [(a_p0, .inr (5, [.ref a_p0_live, .ref a_p0_commit, .ref a_p0_refreshed, .ref a_p0_log, .ref a_p0_query, .ref a_p0_operation, .ref a_p0_scores, .int v_p0_persisted, .int v_p0_replayed, .int v_p0_down])), (a_p0_live, .inr (1, [.ref a_p0_live_documents, .int u12, .int u13, .long u14])), (a_p0_live_documents, .inr (0, [.ref a_p0_live_documents_kinds, .ref a_p0_live_documents_seqs, .ref a_p0_live_documents_versions, .ref a_p0_live_documents_sources])), (a_p0_live_documents_kinds, .inl (X.1.2.2.1, 16, .inl u8)), (a_p0_live_documents_seqs, .inl (X.1.2.2.1, 16, .inl u9)), (a_p0_live_documents_versions, .inl (X.1.2.2.1, 16, .inl u10)), (a_p0_live_documents_sources, .inl (X.1.2.2.2.1, 16, .inr (.inl u11))), (a_p0_commit, .inr (1, [.ref a_p0_commit_documents, .int v_p0_commit_checkpoint, .int v_p0_commit_max, .long v_p0_commit_ahead])), (a_p0_commit_documents, .inr (0, [.ref a_p0_commit_documents_kinds, .ref a_p0_commit_documents_seqs, .ref a_p0_commit_documents_versions, .ref a_p0_commit_documents_sources])), (a_p0_commit_documents_kinds, .inl (X.1.2.2.1, 16, .inl v_p0_commit_documents_kinds)), (a_p0_commit_documents_seqs, .inl (X.1.2.2.1, 16, .inl v_p0_commit_documents_seqs)), (a_p0_commit_documents_versions, .inl (X.1.2.2.1, 16, .inl v_p0_commit_documents_versions)), (a_p0_commit_documents_sources, .inl (X.1.2.2.2.1, 16, .inr (.inl v_p0_commit_documents_sources))), (a_p0_log, .inr (2, [.int v_p0_log_oldest, .int v_p0_log_current, .int v_p0_log_synced, .ref a_p0_log_bytes, .ref a_p0_log_lengths, .ref a_p0_log_greatestSeqs])), (a_p0_log_bytes, .inl (X.1.2.2.1, 960, .inl u15)), (a_p0_log_lengths, .inl (X.1.2.2.1, 4, .inl u16)), (a_p0_log_greatestSeqs, .inl (X.1.2.2.1, 4, .inl u17)), (a_p0_operation, .inr (3, [.int u18, .int u19, .int u20, .int u21, .long u22]))]) (fun _ => rfl) rfl rfl rfl (Nat.le_of_ble_eq_true rfl) dL_apply_28 ⟨Nat.le_refl _, Nat.le_refl _⟩ (fun _ => ?_)
    refine g_istore_n (lv2 := [(3, .int r7), (2, .int k2), (0, .ref a_p0), (1, .int x1)]) C dL_apply_31 rfl (by decide) rfl ?_
    refine g_iload_n C dL_apply_32 rfl 0 rfl ?_
    refine g_bipush (v := (-3)) C dL_apply_33 (by decide) ?_
    refine g_icmp_eq C dL_apply_35 (tgt := 40) (by decide) hf (fun hf => ?_) (fun hf => ?_)
    · refine g_aload_n C dL_apply_40 rfl 2 rfl ?_
      obtain ⟨r24, u25, u26, u27, u28, u29, u30, u31, u32, u33, u34, u35, u36, u37, hq38, hf⟩ := cal14_x hf
      refine g_callV (As := []) (rest := []) (st2 := [.int r24]) (n := 0) C (cX5_flush_ok X.1 a_p0 a_p0_live a_p0_live_documents a_p0_live_documents_kinds a_p0_live_documents_seqs a_p0_live_documents_versions a_p0_live_documents_sources a_p0_commit a_p0_commit_documents a_p0_commit_documents_kinds a_p0_commit_documents_seqs a_p0_commit_documents_versions a_p0_commit_documents_sources a_p0_refreshed a_p0_log a_p0_log_bytes a_p0_log_lengths a_p0_log_greatestSeqs a_p0_query a_p0_operation a_p0_scores u8 u9 u10 u11 u12 u13 u14 v_p0_commit_documents_kinds v_p0_commit_documents_seqs v_p0_commit_documents_versions v_p0_commit_documents_sources v_p0_commit_checkpoint v_p0_commit_max v_p0_commit_ahead v_p0_log_oldest v_p0_log_current v_p0_log_synced u16 u17 v_p0_persisted v_p0_replayed v_p0_down hq38) gL_apply_X5_flush rfl rfl rfl ⟨rfl, by decide +kernel⟩ (by decide) 0 rfl rfl rfl [0, 1, 2, 3, 4, 5, 6, 7, 8, 9, 10, 11, 12, 13, 15, 16] (by decide) rfl [14, 17] (Wr := [(a_p0_log_bytes, .inl (X.1.2.2.1, 960, .inl u15)), (a_p0_operation, .inr (3, [.int u18, .int u19, .int u20, .int u21, .long u22]))]) (by decide) rfl (by decide) [2, 3, 4, 5, 6, 7, 8, 9, 10, 11, 12, 13, 14, 15, 0, 16, 17, 1] (by decide) (Wn := fun _ => [(a_p0, .inr (5, [.ref a_p0_live, .ref a_p0_commit, .ref a_p0_refreshed, .ref a_p0_log, .ref a_p0_query, .ref a_p0_operation, .ref a_p0_scores, .int u37, .int v_p0_replayed, .int v_p0_down])), (a_p0_live, .inr (1, [.ref a_p0_live_documents, .int u12, .int u13, .long u14])), (a_p0_live_documents, .inr (0, [.ref a_p0_live_documents_kinds, .ref a_p0_live_documents_seqs, .ref a_p0_live_documents_versions, .ref a_p0_live_documents_sources])), (a_p0_live_documents_kinds, .inl (X.1.2.2.1, 16, .inl u8)), (a_p0_live_documents_seqs, .inl (X.1.2.2.1, 16, .inl u9)), (a_p0_live_documents_versions, .inl (X.1.2.2.1, 16, .inl u10)), (a_p0_live_documents_sources, .inl (X.1.2.2.2.1, 16, .inr (.inl u11))), (a_p0_commit, .inr (1, [.ref a_p0_commit_documents, .int u29, .int u30, .long u31])), (a_p0_commit_documents, .inr (0, [.ref a_p0_commit_documents_kinds, .ref a_p0_commit_documents_seqs, .ref a_p0_commit_documents_versions, .ref a_p0_commit_documents_sources])), (a_p0_commit_documents_kinds, .inl (X.1.2.2.1, 16, .inl u25)), (a_p0_commit_documents_seqs, .inl (X.1.2.2.1, 16, .inl u26)), (a_p0_commit_documents_versions, .inl (X.1.2.2.1, 16, .inl u27)), (a_p0_commit_documents_sources, .inl (X.1.2.2.2.1, 16, .inr (.inl u28))), (a_p0_log, .inr (2, [.int u32, .int u33, .int u34, .ref a_p0_log_bytes, .ref a_p0_log_lengths, .ref a_p0_log_greatestSeqs])), (a_p0_log_bytes, .inl (X.1.2.2.1, 960, .inl u15)), (a_p0_log_lengths, .inl (X.1.2.2.1, 4, .inl u35)), (a_p0_log_greatestSeqs, .inl (X.1.2.2.1, 4, .inl u36)), (a_p0_operation, .inr (3, [.int u18, .int u19, .int u20, .int u21, .long u22]))]) (fun _ => rfl) rfl rfl rfl (Nat.le_of_ble_eq_true rfl) dL_apply_41 ⟨Nat.le_refl _, Nat.le_refl _⟩ (fun _ => ?_)
      obtain ⟨J68, eJ68, hf⟩ := jp_x hf
      have hJ68 : ∀ (w39 : Nat → Int32) (w40 : Nat → Int32) (w41 : Nat → Int32) (w42 : Nat → Int64) (w43 : Int32) (w44 : Int32) (w45 : Int64) (w46 : Nat → Int32) (w47 : Nat → Int32) (w48 : Nat → Int32) (w49 : Int32) (w50 : Int32) (w51 : Int32) (w52 : Int32) (w53 : Int64) (k54 : Int32), J68 w39 w40 w41 w42 w43 w44 w45 w46 w47 w48 w49 w50 w51 w52 w53 k54 = some t → G X 0 0 [(a_p0, .inr (5, [.ref a_p0_live, .ref a_p0_commit, .ref a_p0_refreshed, .ref a_p0_log, .ref a_p0_query, .ref a_p0_operation, .ref a_p0_scores, .int u37, .int v_p0_replayed, .int v_p0_down])), (a_p0_live, .inr (1, [.ref a_p0_live_documents, .int w43, .int w44, .long w45])), (a_p0_live_documents, .inr (0, [.ref a_p0_live_documents_kinds, .ref a_p0_live_documents_seqs, .ref a_p0_live_documents_versions, .ref a_p0_live_documents_sources])), (a_p0_live_documents_kinds, .inl (X.1.2.2.1, 16, .inl w39)), (a_p0_live_documents_seqs, .inl (X.1.2.2.1, 16, .inl w40)), (a_p0_live_documents_versions, .inl (X.1.2.2.1, 16, .inl w41)), (a_p0_live_documents_sources, .inl (X.1.2.2.2.1, 16, .inr (.inl w42))), (a_p0_commit, .inr (1, [.ref a_p0_commit_documents, .int u29, .int u30, .long u31])), (a_p0_commit_documents, .inr (0, [.ref a_p0_commit_documents_kinds, .ref a_p0_commit_documents_seqs, .ref a_p0_commit_documents_versions, .ref a_p0_commit_documents_sources])), (a_p0_commit_documents_kinds, .inl (X.1.2.2.1, 16, .inl u25)), (a_p0_commit_documents_seqs, .inl (X.1.2.2.1, 16, .inl u26)), (a_p0_commit_documents_versions, .inl (X.1.2.2.1, 16, .inl u27)), (a_p0_commit_documents_sources, .inl (X.1.2.2.2.1, 16, .inr (.inl u28))), (a_p0_log, .inr (2, [.int u32, .int u33, .int u34, .ref a_p0_log_bytes, .ref a_p0_log_lengths, .ref a_p0_log_greatestSeqs])), (a_p0_log_bytes, .inl (X.1.2.2.1, 960, .inl w46)), (a_p0_log_lengths, .inl (X.1.2.2.1, 4, .inl w47)), (a_p0_log_greatestSeqs, .inl (X.1.2.2.1, 4, .inl w48)), (a_p0_operation, .inr (3, [.int w49, .int w50, .int w51, .int w52, .long w53]))] [] 68 [.int k54] := by
        intro w39 w40 w41 w42 w43 w44 w45 w46 w47 w48 w49 w50 w51 w52 w53 k54 hf
        have hf := app16 eJ68 hf
        rw [← Option.some.inj hf] at hret
        exact hret () _ _ dL_apply_68
      refine g_if_ge C dL_apply_44 (tgt := 52) (by decide) hf (fun hf => ?_) (fun hf => ?_)
      · refine g_aload_n C dL_apply_52 rfl 2 rfl ?_
        refine g_iload_n C dL_apply_53 rfl 1 rfl ?_
        refine g_iload_n C dL_apply_54 rfl 3 rfl ?_
        refine g_iconst (v := 4) C dL_apply_55 (by decide) ?_
        refine g_ishr C dL_apply_56 hf (fun z55 hf => ?_)
        refine g_bipush (v := 7) C dL_apply_57 (by decide) ?_
        refine g_iand C dL_apply_59 hf (fun z56 hf => ?_)
        refine g_iload_n C dL_apply_60 rfl 3 rfl ?_
        obtain ⟨r57, hq58, hf⟩ := cal1_x hf
        refine g_callS (As := [.int x1]) (rest := [.int z56, .int k2, .ref a_p0]) (st2 := [.long r57, .int z56, .int k2, .ref a_p0]) (n := 1) C (cL_source_ok X.1 x1 hq58) gL_apply_L_source rfl rfl rfl (by decide +kernel) (by decide) [] (by decide) rfl [0, 1, 2, 3, 4, 5, 6, 7, 8, 9, 10, 11, 12, 13, 14, 15, 16, 17] (Wr := [(a_p0, .inr (5, [.ref a_p0_live, .ref a_p0_commit, .ref a_p0_refreshed, .ref a_p0_log, .ref a_p0_query, .ref a_p0_operation, .ref a_p0_scores, .int u37, .int v_p0_replayed, .int v_p0_down])), (a_p0_live, .inr (1, [.ref a_p0_live_documents, .int u12, .int u13, .long u14])), (a_p0_live_documents, .inr (0, [.ref a_p0_live_documents_kinds, .ref a_p0_live_documents_seqs, .ref a_p0_live_documents_versions, .ref a_p0_live_documents_sources])), (a_p0_live_documents_kinds, .inl (X.1.2.2.1, 16, .inl u8)), (a_p0_live_documents_seqs, .inl (X.1.2.2.1, 16, .inl u9)), (a_p0_live_documents_versions, .inl (X.1.2.2.1, 16, .inl u10)), (a_p0_live_documents_sources, .inl (X.1.2.2.2.1, 16, .inr (.inl u11))), (a_p0_commit, .inr (1, [.ref a_p0_commit_documents, .int u29, .int u30, .long u31])), (a_p0_commit_documents, .inr (0, [.ref a_p0_commit_documents_kinds, .ref a_p0_commit_documents_seqs, .ref a_p0_commit_documents_versions, .ref a_p0_commit_documents_sources])), (a_p0_commit_documents_kinds, .inl (X.1.2.2.1, 16, .inl u25)), (a_p0_commit_documents_seqs, .inl (X.1.2.2.1, 16, .inl u26)), (a_p0_commit_documents_versions, .inl (X.1.2.2.1, 16, .inl u27)), (a_p0_commit_documents_sources, .inl (X.1.2.2.2.1, 16, .inr (.inl u28))), (a_p0_log, .inr (2, [.int u32, .int u33, .int u34, .ref a_p0_log_bytes, .ref a_p0_log_lengths, .ref a_p0_log_greatestSeqs])), (a_p0_log_bytes, .inl (X.1.2.2.1, 960, .inl u15)), (a_p0_log_lengths, .inl (X.1.2.2.1, 4, .inl u35)), (a_p0_log_greatestSeqs, .inl (X.1.2.2.1, 4, .inl u36)), (a_p0_operation, .inr (3, [.int u18, .int u19, .int u20, .int u21, .long u22]))]) (by decide) rfl (by decide) [0, 1, 2, 3, 4, 5, 6, 7, 8, 9, 10, 11, 12, 13, 14, 15, 16, 17] (by decide) (Wn := fun _ => [(a_p0, .inr (5, [.ref a_p0_live, .ref a_p0_commit, .ref a_p0_refreshed, .ref a_p0_log, .ref a_p0_query, .ref a_p0_operation, .ref a_p0_scores, .int u37, .int v_p0_replayed, .int v_p0_down])), (a_p0_live, .inr (1, [.ref a_p0_live_documents, .int u12, .int u13, .long u14])), (a_p0_live_documents, .inr (0, [.ref a_p0_live_documents_kinds, .ref a_p0_live_documents_seqs, .ref a_p0_live_documents_versions, .ref a_p0_live_documents_sources])), (a_p0_live_documents_kinds, .inl (X.1.2.2.1, 16, .inl u8)), (a_p0_live_documents_seqs, .inl (X.1.2.2.1, 16, .inl u9)), (a_p0_live_documents_versions, .inl (X.1.2.2.1, 16, .inl u10)), (a_p0_live_documents_sources, .inl (X.1.2.2.2.1, 16, .inr (.inl u11))), (a_p0_commit, .inr (1, [.ref a_p0_commit_documents, .int u29, .int u30, .long u31])), (a_p0_commit_documents, .inr (0, [.ref a_p0_commit_documents_kinds, .ref a_p0_commit_documents_seqs, .ref a_p0_commit_documents_versions, .ref a_p0_commit_documents_sources])), (a_p0_commit_documents_kinds, .inl (X.1.2.2.1, 16, .inl u25)), (a_p0_commit_documents_seqs, .inl (X.1.2.2.1, 16, .inl u26)), (a_p0_commit_documents_versions, .inl (X.1.2.2.1, 16, .inl u27)), (a_p0_commit_documents_sources, .inl (X.1.2.2.2.1, 16, .inr (.inl u28))), (a_p0_log, .inr (2, [.int u32, .int u33, .int u34, .ref a_p0_log_bytes, .ref a_p0_log_lengths, .ref a_p0_log_greatestSeqs])), (a_p0_log_bytes, .inl (X.1.2.2.1, 960, .inl u15)), (a_p0_log_lengths, .inl (X.1.2.2.1, 4, .inl u35)), (a_p0_log_greatestSeqs, .inl (X.1.2.2.1, 4, .inl u36)), (a_p0_operation, .inr (3, [.int u18, .int u19, .int u20, .int u21, .long u22]))]) (fun _ => rfl) rfl rfl rfl (Nat.le_of_ble_eq_true rfl) dL_apply_61 ⟨Nat.le_refl _, Nat.le_refl _⟩ (fun _ => ?_)
        refine g_iconst (v := (-1)) C dL_apply_64 (by decide) ?_
        obtain ⟨r59, u60, u61, u62, u63, u64, u65, u66, u67, u68, u69, u70, u71, u72, u73, u74, hq75, hf⟩ := cal16_x hf
        refine g_callV (As := [.int k2, .int z56, .long r57, .int (-1)]) (rest := []) (st2 := [.int r59]) (n := 4) C (cX5_write_ok X.1 a_p0 a_p0_live a_p0_live_documents a_p0_live_documents_kinds a_p0_live_documents_seqs a_p0_live_documents_versions a_p0_live_documents_sources a_p0_commit a_p0_refreshed a_p0_log a_p0_log_bytes a_p0_log_lengths a_p0_log_greatestSeqs a_p0_query a_p0_operation a_p0_scores u8 u9 u10 u11 u12 u13 u14 u32 u33 u34 u15 u35 u36 u18 u19 u20 u21 u22 u37 v_p0_replayed v_p0_down k2 z56 r57 (-1) hq75) gL_apply_X5_write rfl rfl rfl ⟨rfl, by decide +kernel⟩ (by decide) 0 rfl rfl rfl [0, 1, 2, 3, 4, 5, 6, 13, 14, 15, 16, 17] (by decide) rfl [7, 8, 9, 10, 11, 12] (Wr := [(a_p0_commit, .inr (1, [.ref a_p0_commit_documents, .int u29, .int u30, .long u31])), (a_p0_commit_documents, .inr (0, [.ref a_p0_commit_documents_kinds, .ref a_p0_commit_documents_seqs, .ref a_p0_commit_documents_versions, .ref a_p0_commit_documents_sources])), (a_p0_commit_documents_kinds, .inl (X.1.2.2.1, 16, .inl u25)), (a_p0_commit_documents_seqs, .inl (X.1.2.2.1, 16, .inl u26)), (a_p0_commit_documents_versions, .inl (X.1.2.2.1, 16, .inl u27)), (a_p0_commit_documents_sources, .inl (X.1.2.2.2.1, 16, .inr (.inl u28)))]) (by decide) rfl (by decide) [6, 7, 8, 9, 10, 11, 12, 0, 1, 2, 3, 4, 5, 13, 14, 15, 16, 17] (by decide) (Wn := fun _ => [(a_p0, .inr (5, [.ref a_p0_live, .ref a_p0_commit, .ref a_p0_refreshed, .ref a_p0_log, .ref a_p0_query, .ref a_p0_operation, .ref a_p0_scores, .int u37, .int v_p0_replayed, .int v_p0_down])), (a_p0_live, .inr (1, [.ref a_p0_live_documents, .int u64, .int u65, .long u66])), (a_p0_live_documents, .inr (0, [.ref a_p0_live_documents_kinds, .ref a_p0_live_documents_seqs, .ref a_p0_live_documents_versions, .ref a_p0_live_documents_sources])), (a_p0_live_documents_kinds, .inl (X.1.2.2.1, 16, .inl u60)), (a_p0_live_documents_seqs, .inl (X.1.2.2.1, 16, .inl u61)), (a_p0_live_documents_versions, .inl (X.1.2.2.1, 16, .inl u62)), (a_p0_live_documents_sources, .inl (X.1.2.2.2.1, 16, .inr (.inl u63))), (a_p0_commit, .inr (1, [.ref a_p0_commit_documents, .int u29, .int u30, .long u31])), (a_p0_commit_documents, .inr (0, [.ref a_p0_commit_documents_kinds, .ref a_p0_commit_documents_seqs, .ref a_p0_commit_documents_versions, .ref a_p0_commit_documents_sources])), (a_p0_commit_documents_kinds, .inl (X.1.2.2.1, 16, .inl u25)), (a_p0_commit_documents_seqs, .inl (X.1.2.2.1, 16, .inl u26)), (a_p0_commit_documents_versions, .inl (X.1.2.2.1, 16, .inl u27)), (a_p0_commit_documents_sources, .inl (X.1.2.2.2.1, 16, .inr (.inl u28))), (a_p0_log, .inr (2, [.int u32, .int u33, .int u34, .ref a_p0_log_bytes, .ref a_p0_log_lengths, .ref a_p0_log_greatestSeqs])), (a_p0_log_bytes, .inl (X.1.2.2.1, 960, .inl u67)), (a_p0_log_lengths, .inl (X.1.2.2.1, 4, .inl u68)), (a_p0_log_greatestSeqs, .inl (X.1.2.2.1, 4, .inl u69)), (a_p0_operation, .inr (3, [.int u70, .int u71, .int u72, .int u73, .long u74]))]) (fun _ => rfl) rfl rfl rfl (Nat.le_of_ble_eq_true rfl) dL_apply_65 ⟨Nat.le_refl _, Nat.le_refl _⟩ (fun _ => ?_)
        exact g_lv [] rfl (hJ68 u60 u61 u62 u63 u64 u65 u66 u67 u68 u69 u70 u71 u72 u73 u74 r59 hf)
      · refine g_bipush (v := (-9)) C dL_apply_47 (by decide) ?_
        refine g_goto C dL_apply_49 (tgt := 68) (by decide) ?_
        exact g_lv [] rfl (hJ68 u8 u9 u10 u11 u12 u13 u14 u15 u35 u36 u18 u19 u20 u21 u22 (-9) hf)
    · refine g_iload_n C dL_apply_38 rfl 0 rfl ?_
      rw [← Option.some.inj hf] at hret
      exact hret () _ _ dL_apply_39
  refine g_icmp_ge C dL_apply_6 (tgt := 13) (by decide) hf (fun hf => ?_) (fun hf => ?_)
  · refine g_iconst (v := 2) C dL_apply_13 (by decide) ?_
    exact hJ14 2 hf
  · refine g_iconst (v := 1) C dL_apply_9 (by decide) ?_
    refine g_goto C dL_apply_10 (tgt := 14) (by decide) ?_
    exact hJ14 1 hf
def sL_documents_4 (J29 : (Int32) → Option ((Int32))) (v_p0_live_documents_kinds : Nat → Int32) (v_p0_live_documents_seqs : Nat → Int32) (v_p0_live_documents_versions : Nat → Int32) (v_p0_refreshed_kinds : Nat → Int32) (v_p0_refreshed_seqs : Nat → Int32) (v_p0_down : Int32) (R4 : (Int32) → (Int32) → Option ((Int32))) (y2 : Int32) (y3 : Int32) : Option ((Int32)) :=
  (if 16 ≤ y3 then (J29 y2) else (cal1 (fX5_known v_p0_live_documents_kinds v_p0_live_documents_seqs v_p0_live_documents_versions v_p0_refreshed_kinds v_p0_refreshed_seqs v_p0_down y3 0) (fun r4 => (jp (fun (y6 : Int32) => (bnd (y3 + 1) (fun z7 => (R4 y6 z7)))) (fun J23 => (if r4 = 1 then (bnd (y2 + 1) (fun z8 => (J23 z8))) else (J23 y2)))))))
def fL_documents (v_p0_live_documents_kinds : Nat → Int32) (v_p0_live_documents_seqs : Nat → Int32) (v_p0_live_documents_versions : Nat → Int32) (v_p0_refreshed_kinds : Nat → Int32) (v_p0_refreshed_seqs : Nat → Int32) (v_p0_down : Int32) : Option ((Int32)) :=
  (jp (fun (y1 : Int32) => (some (y1))) (fun J29 => (lo2 (sL_documents_4 J29 v_p0_live_documents_kinds v_p0_live_documents_seqs v_p0_live_documents_versions v_p0_refreshed_kinds v_p0_refreshed_seqs v_p0_down) 1000 0 0)))
theorem inL_documents_0 : ∀ w ∈ wsX00, w ∈ wsL_documents := fun _ h => List.mem_cons_of_mem _ (List.mem_append_right _ h)
theorem inL_documents_1 : ∀ w ∈ wsX10, w ∈ wsL_documents := fun _ h => List.mem_cons_of_mem _ (List.mem_append_left _ (List.mem_append_right _ h))
theorem inL_documents_5 : ∀ w ∈ wsX50, w ∈ wsL_documents := fun _ h => List.mem_cons_of_mem _ (List.mem_append_left _ (List.mem_append_left _ (List.mem_append_right _ h)))
set_option maxRecDepth 100000 in
set_option maxHeartbeats 8000000 in
theorem cL_documents_ok (L : XL) (a_p0 a_p0_live a_p0_live_documents a_p0_live_documents_kinds a_p0_live_documents_seqs a_p0_live_documents_versions a_p0_live_documents_sources a_p0_commit a_p0_refreshed a_p0_refreshed_kinds a_p0_refreshed_seqs a_p0_refreshed_versions a_p0_refreshed_sources a_p0_log a_p0_query a_p0_operation a_p0_scores : Nat) (v_p0_live_documents_kinds : Nat → Int32) (v_p0_live_documents_seqs : Nat → Int32) (v_p0_live_documents_versions : Nat → Int32) (v_p0_live_checkpoint : Int32) (v_p0_live_max : Int32) (v_p0_live_ahead : Int64) (v_p0_refreshed_kinds : Nat → Int32) (v_p0_refreshed_seqs : Nat → Int32) (v_p0_persisted : Int32) (v_p0_replayed : Int32) (v_p0_down : Int32)  {t : (Int32)} (hf : fL_documents v_p0_live_documents_kinds v_p0_live_documents_seqs v_p0_live_documents_versions v_p0_refreshed_kinds v_p0_refreshed_seqs v_p0_down = some t) : xM L yL_documents wsL_documents ({ frames := 4, cells := 0, slots := 0, locals := 84 }) [.ref a_p0] [(a_p0, .inr (5, [.ref a_p0_live, .ref a_p0_commit, .ref a_p0_refreshed, .ref a_p0_log, .ref a_p0_query, .ref a_p0_operation, .ref a_p0_scores, .int v_p0_persisted, .int v_p0_replayed, .int v_p0_down])), (a_p0_live, .inr (1, [.ref a_p0_live_documents, .int v_p0_live_checkpoint, .int v_p0_live_max, .long v_p0_live_ahead])), (a_p0_live_documents, .inr (0, [.ref a_p0_live_documents_kinds, .ref a_p0_live_documents_seqs, .ref a_p0_live_documents_versions, .ref a_p0_live_documents_sources])), (a_p0_live_documents_kinds, .inl (L.2.2.1, 16, .inl v_p0_live_documents_kinds)), (a_p0_live_documents_seqs, .inl (L.2.2.1, 16, .inl v_p0_live_documents_seqs)), (a_p0_live_documents_versions, .inl (L.2.2.1, 16, .inl v_p0_live_documents_versions)), (a_p0_refreshed, .inr (0, [.ref a_p0_refreshed_kinds, .ref a_p0_refreshed_seqs, .ref a_p0_refreshed_versions, .ref a_p0_refreshed_sources])), (a_p0_refreshed_kinds, .inl (L.2.2.1, 16, .inl v_p0_refreshed_kinds)), (a_p0_refreshed_seqs, .inl (L.2.2.1, 16, .inl v_p0_refreshed_seqs))] 0 0 (some (.int t)) (fun _ : Unit => [(a_p0, .inr (5, [.ref a_p0_live, .ref a_p0_commit, .ref a_p0_refreshed, .ref a_p0_log, .ref a_p0_query, .ref a_p0_operation, .ref a_p0_scores, .int v_p0_persisted, .int v_p0_replayed, .int v_p0_down])), (a_p0_live, .inr (1, [.ref a_p0_live_documents, .int v_p0_live_checkpoint, .int v_p0_live_max, .long v_p0_live_ahead])), (a_p0_live_documents, .inr (0, [.ref a_p0_live_documents_kinds, .ref a_p0_live_documents_seqs, .ref a_p0_live_documents_versions, .ref a_p0_live_documents_sources])), (a_p0_live_documents_kinds, .inl (L.2.2.1, 16, .inl v_p0_live_documents_kinds)), (a_p0_live_documents_seqs, .inl (L.2.2.1, 16, .inl v_p0_live_documents_seqs)), (a_p0_live_documents_versions, .inl (L.2.2.1, 16, .inl v_p0_live_documents_versions)), (a_p0_refreshed, .inr (0, [.ref a_p0_refreshed_kinds, .ref a_p0_refreshed_seqs, .ref a_p0_refreshed_versions, .ref a_p0_refreshed_sources])), (a_p0_refreshed_kinds, .inl (L.2.2.1, 16, .inl v_p0_refreshed_kinds)), (a_p0_refreshed_seqs, .inl (L.2.2.1, 16, .inl v_p0_refreshed_seqs))]) := by
  refine enter_i (own := RL) (by decide) rfl rfl (Nat.le_of_ble_eq_true rfl) ?_
  intro X hXL C _ hret
  subst hXL
  unfold fL_documents at hf
  show G X 0 0 [(a_p0, .inr (5, [.ref a_p0_live, .ref a_p0_commit, .ref a_p0_refreshed, .ref a_p0_log, .ref a_p0_query, .ref a_p0_operation, .ref a_p0_scores, .int v_p0_persisted, .int v_p0_replayed, .int v_p0_down])), (a_p0_live, .inr (1, [.ref a_p0_live_documents, .int v_p0_live_checkpoint, .int v_p0_live_max, .long v_p0_live_ahead])), (a_p0_live_documents, .inr (0, [.ref a_p0_live_documents_kinds, .ref a_p0_live_documents_seqs, .ref a_p0_live_documents_versions, .ref a_p0_live_documents_sources])), (a_p0_live_documents_kinds, .inl (X.1.2.2.1, 16, .inl v_p0_live_documents_kinds)), (a_p0_live_documents_seqs, .inl (X.1.2.2.1, 16, .inl v_p0_live_documents_seqs)), (a_p0_live_documents_versions, .inl (X.1.2.2.1, 16, .inl v_p0_live_documents_versions)), (a_p0_refreshed, .inr (0, [.ref a_p0_refreshed_kinds, .ref a_p0_refreshed_seqs, .ref a_p0_refreshed_versions, .ref a_p0_refreshed_sources])), (a_p0_refreshed_kinds, .inl (X.1.2.2.1, 16, .inl v_p0_refreshed_kinds)), (a_p0_refreshed_seqs, .inl (X.1.2.2.1, 16, .inl v_p0_refreshed_seqs))] [(0, .ref a_p0)] 0 []
  refine g_iconst (v := 0) C dL_documents_0 (by decide) ?_
  refine g_istore_n (lv2 := [(1, .int 0), (0, .ref a_p0)]) C dL_documents_1 rfl (by decide) rfl ?_
  refine g_iconst (v := 0) C dL_documents_2 (by decide) ?_
  refine g_istore_n (lv2 := [(2, .int 0), (1, .int 0), (0, .ref a_p0)]) C dL_documents_3 rfl (by decide) rfl ?_
  obtain ⟨J29, eJ29, hf⟩ := jp_x hf
  have hJ29 : ∀ (y1 : Int32), J29 y1 = some t → G X 0 0 [(a_p0, .inr (5, [.ref a_p0_live, .ref a_p0_commit, .ref a_p0_refreshed, .ref a_p0_log, .ref a_p0_query, .ref a_p0_operation, .ref a_p0_scores, .int v_p0_persisted, .int v_p0_replayed, .int v_p0_down])), (a_p0_live, .inr (1, [.ref a_p0_live_documents, .int v_p0_live_checkpoint, .int v_p0_live_max, .long v_p0_live_ahead])), (a_p0_live_documents, .inr (0, [.ref a_p0_live_documents_kinds, .ref a_p0_live_documents_seqs, .ref a_p0_live_documents_versions, .ref a_p0_live_documents_sources])), (a_p0_live_documents_kinds, .inl (X.1.2.2.1, 16, .inl v_p0_live_documents_kinds)), (a_p0_live_documents_seqs, .inl (X.1.2.2.1, 16, .inl v_p0_live_documents_seqs)), (a_p0_live_documents_versions, .inl (X.1.2.2.1, 16, .inl v_p0_live_documents_versions)), (a_p0_refreshed, .inr (0, [.ref a_p0_refreshed_kinds, .ref a_p0_refreshed_seqs, .ref a_p0_refreshed_versions, .ref a_p0_refreshed_sources])), (a_p0_refreshed_kinds, .inl (X.1.2.2.1, 16, .inl v_p0_refreshed_kinds)), (a_p0_refreshed_seqs, .inl (X.1.2.2.1, 16, .inl v_p0_refreshed_seqs))] [(1, .int y1)] 29 [] := by
    intro y1 hf
    have hf := app1 eJ29 hf
    refine g_iload_n C dL_documents_29 rfl 0 rfl ?_
    rw [← Option.some.inj hf] at hret
    exact hret () _ _ dL_documents_30
  have hL4 : ∀ (n : Nat) (y2 : Int32) (y3 : Int32), lo2 (sL_documents_4 J29 v_p0_live_documents_kinds v_p0_live_documents_seqs v_p0_live_documents_versions v_p0_refreshed_kinds v_p0_refreshed_seqs v_p0_down) n y2 y3 = some t → G X 0 0 [(a_p0, .inr (5, [.ref a_p0_live, .ref a_p0_commit, .ref a_p0_refreshed, .ref a_p0_log, .ref a_p0_query, .ref a_p0_operation, .ref a_p0_scores, .int v_p0_persisted, .int v_p0_replayed, .int v_p0_down])), (a_p0_live, .inr (1, [.ref a_p0_live_documents, .int v_p0_live_checkpoint, .int v_p0_live_max, .long v_p0_live_ahead])), (a_p0_live_documents, .inr (0, [.ref a_p0_live_documents_kinds, .ref a_p0_live_documents_seqs, .ref a_p0_live_documents_versions, .ref a_p0_live_documents_sources])), (a_p0_live_documents_kinds, .inl (X.1.2.2.1, 16, .inl v_p0_live_documents_kinds)), (a_p0_live_documents_seqs, .inl (X.1.2.2.1, 16, .inl v_p0_live_documents_seqs)), (a_p0_live_documents_versions, .inl (X.1.2.2.1, 16, .inl v_p0_live_documents_versions)), (a_p0_refreshed, .inr (0, [.ref a_p0_refreshed_kinds, .ref a_p0_refreshed_seqs, .ref a_p0_refreshed_versions, .ref a_p0_refreshed_sources])), (a_p0_refreshed_kinds, .inl (X.1.2.2.1, 16, .inl v_p0_refreshed_kinds)), (a_p0_refreshed_seqs, .inl (X.1.2.2.1, 16, .inl v_p0_refreshed_seqs))] [(0, .ref a_p0), (1, .int y2), (2, .int y3)] 4 [] := by
    intro n
    induction n with
    | zero => intro y2 y3 hf; exact (lo2_z hf).elim
    | succ n ih4 =>
      intro y2 y3 hf
      obtain ⟨R4, eR4, hf⟩ := lo2_x hf
      unfold sL_documents_4 at hf
      refine g_iload_n C dL_documents_4 rfl 2 rfl ?_
      refine g_bipush (v := 16) C dL_documents_5 (by decide) ?_
      refine g_icmp_ge C dL_documents_7 (tgt := 29) (by decide) hf (fun hf => ?_) (fun hf => ?_)
      · exact g_lv [1] rfl (hJ29 y2 hf)
      · refine g_aload_n C dL_documents_10 rfl 0 rfl ?_
        refine g_iload_n C dL_documents_11 rfl 2 rfl ?_
        refine g_iconst (v := 0) C dL_documents_12 (by decide) ?_
        obtain ⟨r4, hq5, hf⟩ := cal1_x hf
        refine g_callV (As := [.int y3, .int 0]) (rest := []) (st2 := [.int r4]) (n := 2) C (cX5_known_ok X.1 a_p0 a_p0_live a_p0_live_documents a_p0_live_documents_kinds a_p0_live_documents_seqs a_p0_live_documents_versions a_p0_live_documents_sources a_p0_commit a_p0_refreshed a_p0_refreshed_kinds a_p0_refreshed_seqs a_p0_refreshed_versions a_p0_refreshed_sources a_p0_log a_p0_query a_p0_operation a_p0_scores v_p0_live_documents_kinds v_p0_live_documents_seqs v_p0_live_documents_versions v_p0_live_checkpoint v_p0_live_max v_p0_live_ahead v_p0_refreshed_kinds v_p0_refreshed_seqs v_p0_persisted v_p0_replayed v_p0_down y3 0 hq5) gL_documents_X5_known rfl rfl rfl ⟨rfl, by decide +kernel⟩ (by decide) 0 rfl rfl rfl [0, 1, 2, 3, 4, 5, 6, 7, 8] (by decide) rfl [] (Wr := []) (by decide) rfl (by decide) [0, 1, 2, 3, 4, 5, 6, 7, 8] (by decide) (Wn := fun _ => [(a_p0, .inr (5, [.ref a_p0_live, .ref a_p0_commit, .ref a_p0_refreshed, .ref a_p0_log, .ref a_p0_query, .ref a_p0_operation, .ref a_p0_scores, .int v_p0_persisted, .int v_p0_replayed, .int v_p0_down])), (a_p0_live, .inr (1, [.ref a_p0_live_documents, .int v_p0_live_checkpoint, .int v_p0_live_max, .long v_p0_live_ahead])), (a_p0_live_documents, .inr (0, [.ref a_p0_live_documents_kinds, .ref a_p0_live_documents_seqs, .ref a_p0_live_documents_versions, .ref a_p0_live_documents_sources])), (a_p0_live_documents_kinds, .inl (X.1.2.2.1, 16, .inl v_p0_live_documents_kinds)), (a_p0_live_documents_seqs, .inl (X.1.2.2.1, 16, .inl v_p0_live_documents_seqs)), (a_p0_live_documents_versions, .inl (X.1.2.2.1, 16, .inl v_p0_live_documents_versions)), (a_p0_refreshed, .inr (0, [.ref a_p0_refreshed_kinds, .ref a_p0_refreshed_seqs, .ref a_p0_refreshed_versions, .ref a_p0_refreshed_sources])), (a_p0_refreshed_kinds, .inl (X.1.2.2.1, 16, .inl v_p0_refreshed_kinds)), (a_p0_refreshed_seqs, .inl (X.1.2.2.1, 16, .inl v_p0_refreshed_seqs))]) (fun _ => rfl) rfl rfl rfl (Nat.le_of_ble_eq_true rfl) dL_documents_13 ⟨Nat.le_refl _, Nat.le_refl _⟩ (fun _ => ?_)
        refine g_iconst (v := 1) C dL_documents_16 (by decide) ?_
        obtain ⟨J23, eJ23, hf⟩ := jp_x hf
        have hJ23 : ∀ (y6 : Int32), J23 y6 = some t → G X 0 0 [(a_p0, .inr (5, [.ref a_p0_live, .ref a_p0_commit, .ref a_p0_refreshed, .ref a_p0_log, .ref a_p0_query, .ref a_p0_operation, .ref a_p0_scores, .int v_p0_persisted, .int v_p0_replayed, .int v_p0_down])), (a_p0_live, .inr (1, [.ref a_p0_live_documents, .int v_p0_live_checkpoint, .int v_p0_live_max, .long v_p0_live_ahead])), (a_p0_live_documents, .inr (0, [.ref a_p0_live_documents_kinds, .ref a_p0_live_documents_seqs, .ref a_p0_live_documents_versions, .ref a_p0_live_documents_sources])), (a_p0_live_documents_kinds, .inl (X.1.2.2.1, 16, .inl v_p0_live_documents_kinds)), (a_p0_live_documents_seqs, .inl (X.1.2.2.1, 16, .inl v_p0_live_documents_seqs)), (a_p0_live_documents_versions, .inl (X.1.2.2.1, 16, .inl v_p0_live_documents_versions)), (a_p0_refreshed, .inr (0, [.ref a_p0_refreshed_kinds, .ref a_p0_refreshed_seqs, .ref a_p0_refreshed_versions, .ref a_p0_refreshed_sources])), (a_p0_refreshed_kinds, .inl (X.1.2.2.1, 16, .inl v_p0_refreshed_kinds)), (a_p0_refreshed_seqs, .inl (X.1.2.2.1, 16, .inl v_p0_refreshed_seqs))] [(0, .ref a_p0), (1, .int y6), (2, .int y3)] 23 [] := by
          intro y6 hf
          have hf := app1 eJ23 hf
          refine g_iinc (v := 1) (lv2 := fun z7 => [(2, .int z7), (0, .ref a_p0), (1, .int y6)]) C dL_documents_23 2 rfl (by decide) (by decide) hf (fun _ => rfl) (fun z7 hf => ?_)
          refine g_goto C dL_documents_26 (tgt := 4) (by decide) ?_
          exact g_lv [1, 2, 0] rfl (ih4 y6 z7 (app2 eR4 hf))
        refine g_icmp_ne C dL_documents_17 (tgt := 23) (by decide) hf (fun hf => ?_) (fun hf => ?_)
        · exact hJ23 y2 hf
        · refine g_iinc (v := 1) (lv2 := fun z8 => [(1, .int z8), (0, .ref a_p0), (2, .int y3)]) C dL_documents_20 1 rfl (by decide) (by decide) hf (fun _ => rfl) (fun z8 hf => ?_)
          exact g_lv [1, 0, 2] rfl (hJ23 z8 hf)
  exact g_lv [2, 1, 0] rfl (hL4 _ 0 0 hf)
def fL_raw (xs : Nat → Int32) (Ln : Nat) (x1 : Int32) (x2 : Int32) : Option ((Int32)) :=
  (bnd (72 + x1 : Int32) (fun z1 => (cal1 (fL_cell xs Ln z1) (fun r2 => (bnd (r2 &&& 255 : Int32) (fun z4 => (rmk z4 7 (fun z5 => (bnd (x1 + x2 : Int32) (fun z6 => (jp (fun (k7 : Int32) => (some (k7))) (fun J34 => (jp (J34 z5) (fun J33 => (if z6 ≤ 12 then J33 else (if z5 ≤ 3 then J33 else (J34 1)))))))))))))))))
set_option maxRecDepth 100000 in
set_option maxHeartbeats 8000000 in
theorem cL_raw_ok (L : XL) (b Ln : Nat) (xs : Nat → Int32)  (x1 : Int32) (x2 : Int32) {t : (Int32)} (hf : fL_raw xs Ln x1 x2 = some t) : xMs L yL_raw wsL_raw ({ frames := 1, cells := 0, slots := 0, locals := 21 }) [.ref b, .int x1, .int x2] [] b Ln xs 0 0 (some (.int t)) (fun _ : Unit => []) := by
  refine enters_i (own := RL) (by decide) rfl rfl (Nat.le_of_ble_eq_true rfl) ?_
  intro X hXL C hs hret
  subst hXL
  unfold fL_raw at hf
  show G X 0 0 [] [(0, .ref b), (1, .int x1), (2, .int x2)] 0 []
  refine g_aload_n C dL_raw_0 rfl 0 rfl ?_
  refine g_bipush (v := 72) C dL_raw_1 (by decide) ?_
  refine g_iload_n C dL_raw_3 rfl 1 rfl ?_
  refine g_iadd C dL_raw_4 hf (fun z1 hf => ?_)
  obtain ⟨r2, hq3, hf⟩ := cal1_x hf
  refine g_callSs (As := [.ref b, .int z1]) (rest := []) (st2 := [.int r2]) (n := 2) C hs (cL_cell_ok X.1 b Ln xs z1 hq3) gL_raw_L_cell rfl rfl rfl (by decide +kernel) (by decide) [] (by decide) rfl [] (Wr := []) (by decide) rfl (by decide) [] (by decide) (Wn := fun _ => []) (fun _ => rfl) rfl rfl rfl (Nat.le_of_ble_eq_true rfl) dL_raw_5 ⟨Nat.le_refl _, Nat.le_refl _⟩ (fun _ => ?_)
  refine g_sipush (v := 255) C dL_raw_8 (by decide) ?_
  refine g_iand C dL_raw_11 hf (fun z4 hf => ?_)
  refine g_bipush (v := 7) C dL_raw_12 (by decide) ?_
  refine g_irem C dL_raw_14 hf (fun z5 hf => ?_)
  refine g_istore_n (lv2 := [(3, .int z5), (0, .ref b), (1, .int x1), (2, .int x2)]) C dL_raw_15 rfl (by decide) rfl ?_
  refine g_iload_n C dL_raw_16 rfl 2 rfl ?_
  refine g_iload_n C dL_raw_17 rfl 3 rfl ?_
  refine g_iadd C dL_raw_18 hf (fun z6 hf => ?_)
  refine g_bipush (v := 12) C dL_raw_19 (by decide) ?_
  obtain ⟨J34, eJ34, hf⟩ := jp_x hf
  have hJ34 : ∀ (k7 : Int32), J34 k7 = some t → G X 0 0 [] [] 34 [.int k7] := by
    intro k7 hf
    have hf := app1 eJ34 hf
    rw [← Option.some.inj hf] at hret
    exact hret () _ _ dL_raw_34
  obtain ⟨J33, eJ33, hf⟩ := jp_x hf
  have hJ33 : J33 = some t → G X 0 0 [] [(3, .int z5)] 33 [] := by
    intro  hf
    have hf := app0 eJ33 hf
    refine g_iload_n C dL_raw_33 rfl 0 rfl ?_
    exact g_lv [] rfl (hJ34 z5 hf)
  refine g_icmp_le C dL_raw_21 (tgt := 33) (by decide) hf (fun hf => ?_) (fun hf => ?_)
  · exact g_lv [0] rfl (hJ33 hf)
  · refine g_iload_n C dL_raw_24 rfl 0 rfl ?_
    refine g_iconst (v := 3) C dL_raw_25 (by decide) ?_
    refine g_icmp_le C dL_raw_26 (tgt := 33) (by decide) hf (fun hf => ?_) (fun hf => ?_)
    · exact g_lv [0] rfl (hJ33 hf)
    · refine g_iconst (v := 1) C dL_raw_29 (by decide) ?_
      refine g_goto C dL_raw_30 (tgt := 34) (by decide) ?_
      exact g_lv [] rfl (hJ34 1 hf)
def sL_kind_4 (x1 : Int32) (J55 : (Int32) → Option ((Int32))) (xs : Nat → Int32) (Ln : Nat) (R4 : (Int32) → (Int32) → Option ((Int32))) (y4 : Int32) (y5 : Int32) : Option ((Int32)) :=
  (if x1 ≤ y5 then (J55 y4) else (cal1 (fL_raw xs Ln y5 y4) (fun r6 => (jp (fun (k8 : Int32) => (bnd (y4 + k8 : Int32) (fun z9 => (if z9 = 0 then (some (9)) else (bnd (y5 + 1) (fun z10 => (R4 z9 z10))))))) (fun J40 => (if 4 ≤ r6 then (if 6 ≤ r6 then (J40 0) else (J40 1)) else (J40 (-1))))))))
def fL_kind (xs : Nat → Int32) (Ln : Nat) (x1 : Int32) : Option ((Int32)) :=
  (jp (fun (y1 : Int32) => (cal1 (fL_raw xs Ln x1 y1) (fun r2 => (some (r2))))) (fun J55 => (lo2 (sL_kind_4 x1 J55 xs Ln) 1000 1 0)))
set_option maxRecDepth 100000 in
set_option maxHeartbeats 8000000 in
theorem cL_kind_ok (L : XL) (b Ln : Nat) (xs : Nat → Int32)  (x1 : Int32) {t : (Int32)} (hf : fL_kind xs Ln x1 = some t) : xMs L yL_kind wsL_kind ({ frames := 2, cells := 0, slots := 0, locals := 44 }) [.ref b, .int x1] [] b Ln xs 0 0 (some (.int t)) (fun _ : Unit => []) := by
  refine enters_i (own := RL) (by decide) rfl rfl (Nat.le_of_ble_eq_true rfl) ?_
  intro X hXL C hs hret
  subst hXL
  unfold fL_kind at hf
  show G X 0 0 [] [(0, .ref b), (1, .int x1)] 0 []
  refine g_iconst (v := 1) C dL_kind_0 (by decide) ?_
  refine g_istore_n (lv2 := [(2, .int 1), (0, .ref b), (1, .int x1)]) C dL_kind_1 rfl (by decide) rfl ?_
  refine g_iconst (v := 0) C dL_kind_2 (by decide) ?_
  refine g_istore_n (lv2 := [(3, .int 0), (2, .int 1), (0, .ref b), (1, .int x1)]) C dL_kind_3 rfl (by decide) rfl ?_
  obtain ⟨J55, eJ55, hf⟩ := jp_x hf
  have hJ55 : ∀ (y1 : Int32), J55 y1 = some t → G X 0 0 [] [(0, .ref b), (1, .int x1), (2, .int y1)] 55 [] := by
    intro y1 hf
    have hf := app1 eJ55 hf
    refine g_aload_n C dL_kind_55 rfl 0 rfl ?_
    refine g_iload_n C dL_kind_56 rfl 1 rfl ?_
    refine g_iload_n C dL_kind_57 rfl 2 rfl ?_
    obtain ⟨r2, hq3, hf⟩ := cal1_x hf
    refine g_callSs (As := [.ref b, .int x1, .int y1]) (rest := []) (st2 := [.int r2]) (n := 3) C hs (cL_raw_ok X.1 b Ln xs x1 y1 hq3) gL_kind_L_raw rfl rfl rfl (by decide +kernel) (by decide) [] (by decide) rfl [] (Wr := []) (by decide) rfl (by decide) [] (by decide) (Wn := fun _ => []) (fun _ => rfl) rfl rfl rfl (Nat.le_of_ble_eq_true rfl) dL_kind_58 ⟨Nat.le_refl _, Nat.le_refl _⟩ (fun _ => ?_)
    rw [← Option.some.inj hf] at hret
    exact hret () _ _ dL_kind_61
  have hL4 : ∀ (n : Nat) (y4 : Int32) (y5 : Int32), lo2 (sL_kind_4 x1 J55 xs Ln) n y4 y5 = some t → G X 0 0 [] [(0, .ref b), (1, .int x1), (2, .int y4), (3, .int y5)] 4 [] := by
    intro n
    induction n with
    | zero => intro y4 y5 hf; exact (lo2_z hf).elim
    | succ n ih4 =>
      intro y4 y5 hf
      obtain ⟨R4, eR4, hf⟩ := lo2_x hf
      unfold sL_kind_4 at hf
      refine g_iload_n C dL_kind_4 rfl 3 rfl ?_
      refine g_iload_n C dL_kind_5 rfl 1 rfl ?_
      refine g_icmp_ge C dL_kind_6 (tgt := 55) (by decide) hf (fun hf => ?_) (fun hf => ?_)
      · exact g_lv [0, 1, 2] rfl (hJ55 y4 hf)
      · refine g_aload_n C dL_kind_9 rfl 0 rfl ?_
        refine g_iload_n C dL_kind_10 rfl 3 rfl ?_
        refine g_iload_n C dL_kind_11 rfl 2 rfl ?_
        obtain ⟨r6, hq7, hf⟩ := cal1_x hf
        refine g_callSs (As := [.ref b, .int y5, .int y4]) (rest := []) (st2 := [.int r6]) (n := 3) C hs (cL_raw_ok X.1 b Ln xs y5 y4 hq7) gL_kind_L_raw rfl rfl rfl (by decide +kernel) (by decide) [] (by decide) rfl [] (Wr := []) (by decide) rfl (by decide) [] (by decide) (Wn := fun _ => []) (fun _ => rfl) rfl rfl rfl (Nat.le_of_ble_eq_true rfl) dL_kind_12 ⟨Nat.le_refl _, Nat.le_refl _⟩ (fun _ => ?_)
        refine g_istore (lv2 := [(4, .int r6), (0, .ref b), (1, .int x1), (2, .int y4), (3, .int y5)]) C dL_kind_15 (by decide) rfl ?_
        refine g_iload_n C dL_kind_17 rfl 3 rfl ?_
        refine g_iload C dL_kind_18 0 rfl ?_
        refine g_iconst (v := 4) C dL_kind_20 (by decide) ?_
        obtain ⟨J40, eJ40, hf⟩ := jp_x hf
        have hJ40 : ∀ (k8 : Int32), J40 k8 = some t → G X 0 0 [] [(0, .ref b), (1, .int x1), (3, .int y5)] 40 [.int k8, .int y4] := by
          intro k8 hf
          have hf := app1 eJ40 hf
          refine g_iadd C dL_kind_40 hf (fun z9 hf => ?_)
          refine g_istore_n (lv2 := [(2, .int z9), (0, .ref b), (1, .int x1), (3, .int y5)]) C dL_kind_41 rfl (by decide) rfl ?_
          refine g_iload_n C dL_kind_42 rfl 0 rfl ?_
          refine g_if_ne C dL_kind_43 (tgt := 49) (by decide) hf (fun hf => ?_) (fun hf => ?_)
          · refine g_iinc (v := 1) (lv2 := fun z10 => [(3, .int z10), (2, .int z9), (0, .ref b), (1, .int x1)]) C dL_kind_49 3 rfl (by decide) (by decide) hf (fun _ => rfl) (fun z10 hf => ?_)
            refine g_goto C dL_kind_52 (tgt := 4) (by decide) ?_
            exact g_lv [2, 3, 1, 0] rfl (ih4 z9 z10 (app2 eR4 hf))
          · refine g_bipush (v := 9) C dL_kind_46 (by decide) ?_
            rw [← Option.some.inj hf] at hret
            exact hret () _ _ dL_kind_48
        refine g_icmp_ge C dL_kind_21 (tgt := 28) (by decide) hf (fun hf => ?_) (fun hf => ?_)
        · refine g_iload C dL_kind_28 0 rfl ?_
          refine g_bipush (v := 6) C dL_kind_30 (by decide) ?_
          refine g_icmp_ge C dL_kind_32 (tgt := 39) (by decide) hf (fun hf => ?_) (fun hf => ?_)
          · refine g_iconst (v := 0) C dL_kind_39 (by decide) ?_
            exact g_lv [1, 2, 4] rfl (hJ40 0 hf)
          · refine g_iconst (v := 1) C dL_kind_35 (by decide) ?_
            refine g_goto C dL_kind_36 (tgt := 40) (by decide) ?_
            exact g_lv [1, 2, 4] rfl (hJ40 1 hf)
        · refine g_iconst (v := (-1)) C dL_kind_24 (by decide) ?_
          refine g_goto C dL_kind_25 (tgt := 40) (by decide) ?_
          exact g_lv [1, 2, 4] rfl (hJ40 (-1) hf)
  exact g_lv [2, 3, 1, 0] rfl (hL4 _ 1 0 hf)
def fL_a (xs : Nat → Int32) (Ln : Nat) (x1 : Int32) : Option ((Int32)) :=
  (cal1 (fL_kind xs Ln x1) (fun r1 => (jp (fun (k3 : Int32) => (some (k3))) (fun J57 => (if r1 = 3 then (bnd (72 + x1 : Int32) (fun z16 => (cal1 (fL_cell xs Ln z16) (fun r17 => (bnd (r17 >>> (8 &&& 31) : Int32) (fun z19 => (bnd (z19 &&& 7 : Int32) (fun z20 => (bnd (z20 - 4 : Int32) (fun z21 => (J57 z21))))))))))) else (bnd (72 + x1 : Int32) (fun z4 => (cal1 (fL_cell xs Ln z4) (fun r5 => (bnd (r5 >>> (8 &&& 31) : Int32) (fun z7 => (bnd (z7 &&& 1 : Int32) (fun z8 => (bnd (1 + z8 : Int32) (fun z9 => (bnd (72 + x1 : Int32) (fun z10 => (cal1 (fL_cell xs Ln z10) (fun r11 => (bnd (r11 >>> (9 &&& 31) : Int32) (fun z13 => (bnd (z13 &&& 1 : Int32) (fun z14 => (bnd (z9 + z14 : Int32) (fun z15 => (J57 z15))))))))))))))))))))))))))
set_option maxRecDepth 100000 in
set_option maxHeartbeats 8000000 in
theorem cL_a_ok (L : XL) (b Ln : Nat) (xs : Nat → Int32)  (x1 : Int32) {t : (Int32)} (hf : fL_a xs Ln x1 = some t) : xMs L yL_a wsL_a ({ frames := 3, cells := 0, slots := 0, locals := 68 }) [.ref b, .int x1] [] b Ln xs 0 0 (some (.int t)) (fun _ : Unit => []) := by
  refine enters_i (own := RL) (by decide) rfl rfl (Nat.le_of_ble_eq_true rfl) ?_
  intro X hXL C hs hret
  subst hXL
  unfold fL_a at hf
  show G X 0 0 [] [(0, .ref b), (1, .int x1)] 0 []
  refine g_aload_n C dL_a_0 rfl 0 rfl ?_
  refine g_iload_n C dL_a_1 rfl 1 rfl ?_
  obtain ⟨r1, hq2, hf⟩ := cal1_x hf
  refine g_callSs (As := [.ref b, .int x1]) (rest := []) (st2 := [.int r1]) (n := 2) C hs (cL_kind_ok X.1 b Ln xs x1 hq2) gL_a_L_kind rfl rfl rfl (by decide +kernel) (by decide) [] (by decide) rfl [] (Wr := []) (by decide) rfl (by decide) [] (by decide) (Wn := fun _ => []) (fun _ => rfl) rfl rfl rfl (Nat.le_of_ble_eq_true rfl) dL_a_2 ⟨Nat.le_refl _, Nat.le_refl _⟩ (fun _ => ?_)
  refine g_iconst (v := 3) C dL_a_5 (by decide) ?_
  obtain ⟨J57, eJ57, hf⟩ := jp_x hf
  have hJ57 : ∀ (k3 : Int32), J57 k3 = some t → G X 0 0 [] [] 57 [.int k3] := by
    intro k3 hf
    have hf := app1 eJ57 hf
    rw [← Option.some.inj hf] at hret
    exact hret () _ _ dL_a_57
  refine g_icmp_ne C dL_a_6 (tgt := 28) (by decide) hf (fun hf => ?_) (fun hf => ?_)
  · refine g_iconst (v := 1) C dL_a_28 (by decide) ?_
    refine g_aload_n C dL_a_29 rfl 0 rfl ?_
    refine g_bipush (v := 72) C dL_a_30 (by decide) ?_
    refine g_iload_n C dL_a_32 rfl 1 rfl ?_
    refine g_iadd C dL_a_33 hf (fun z4 hf => ?_)
    obtain ⟨r5, hq6, hf⟩ := cal1_x hf
    refine g_callSs (As := [.ref b, .int z4]) (rest := [.int 1]) (st2 := [.int r5, .int 1]) (n := 2) C hs (cL_cell_ok X.1 b Ln xs z4 hq6) gL_a_L_cell rfl rfl rfl (by decide +kernel) (by decide) [] (by decide) rfl [] (Wr := []) (by decide) rfl (by decide) [] (by decide) (Wn := fun _ => []) (fun _ => rfl) rfl rfl rfl (Nat.le_of_ble_eq_true rfl) dL_a_34 ⟨Nat.le_refl _, Nat.le_refl _⟩ (fun _ => ?_)
    refine g_bipush (v := 8) C dL_a_37 (by decide) ?_
    refine g_ishr C dL_a_39 hf (fun z7 hf => ?_)
    refine g_iconst (v := 1) C dL_a_40 (by decide) ?_
    refine g_iand C dL_a_41 hf (fun z8 hf => ?_)
    refine g_iadd C dL_a_42 hf (fun z9 hf => ?_)
    refine g_aload_n C dL_a_43 rfl 0 rfl ?_
    refine g_bipush (v := 72) C dL_a_44 (by decide) ?_
    refine g_iload_n C dL_a_46 rfl 1 rfl ?_
    refine g_iadd C dL_a_47 hf (fun z10 hf => ?_)
    obtain ⟨r11, hq12, hf⟩ := cal1_x hf
    refine g_callSs (As := [.ref b, .int z10]) (rest := [.int z9]) (st2 := [.int r11, .int z9]) (n := 2) C hs (cL_cell_ok X.1 b Ln xs z10 hq12) gL_a_L_cell rfl rfl rfl (by decide +kernel) (by decide) [] (by decide) rfl [] (Wr := []) (by decide) rfl (by decide) [] (by decide) (Wn := fun _ => []) (fun _ => rfl) rfl rfl rfl (Nat.le_of_ble_eq_true rfl) dL_a_48 ⟨Nat.le_refl _, Nat.le_refl _⟩ (fun _ => ?_)
    refine g_bipush (v := 9) C dL_a_51 (by decide) ?_
    refine g_ishr C dL_a_53 hf (fun z13 hf => ?_)
    refine g_iconst (v := 1) C dL_a_54 (by decide) ?_
    refine g_iand C dL_a_55 hf (fun z14 hf => ?_)
    refine g_iadd C dL_a_56 hf (fun z15 hf => ?_)
    exact g_lv [] rfl (hJ57 z15 hf)
  · refine g_aload_n C dL_a_9 rfl 0 rfl ?_
    refine g_bipush (v := 72) C dL_a_10 (by decide) ?_
    refine g_iload_n C dL_a_12 rfl 1 rfl ?_
    refine g_iadd C dL_a_13 hf (fun z16 hf => ?_)
    obtain ⟨r17, hq18, hf⟩ := cal1_x hf
    refine g_callSs (As := [.ref b, .int z16]) (rest := []) (st2 := [.int r17]) (n := 2) C hs (cL_cell_ok X.1 b Ln xs z16 hq18) gL_a_L_cell rfl rfl rfl (by decide +kernel) (by decide) [] (by decide) rfl [] (Wr := []) (by decide) rfl (by decide) [] (by decide) (Wn := fun _ => []) (fun _ => rfl) rfl rfl rfl (Nat.le_of_ble_eq_true rfl) dL_a_14 ⟨Nat.le_refl _, Nat.le_refl _⟩ (fun _ => ?_)
    refine g_bipush (v := 8) C dL_a_17 (by decide) ?_
    refine g_ishr C dL_a_19 hf (fun z19 hf => ?_)
    refine g_bipush (v := 7) C dL_a_20 (by decide) ?_
    refine g_iand C dL_a_22 hf (fun z20 hf => ?_)
    refine g_iconst (v := 4) C dL_a_23 (by decide) ?_
    refine g_isub C dL_a_24 hf (fun z21 hf => ?_)
    refine g_goto C dL_a_25 (tgt := 57) (by decide) ?_
    exact g_lv [] rfl (hJ57 z21 hf)
def fL_b (xs : Nat → Int32) (Ln : Nat) (x1 : Int32) : Option ((Int32)) :=
  (cal1 (fL_kind xs Ln x1) (fun r1 => (jp (fun (k3 : Int32) => (some (k3))) (fun J57 => (if r1 = 3 then (bnd (72 + x1 : Int32) (fun z16 => (cal1 (fL_cell xs Ln z16) (fun r17 => (bnd (r17 >>> (11 &&& 31) : Int32) (fun z19 => (bnd (z19 &&& 7 : Int32) (fun z20 => (bnd (z20 - 3 : Int32) (fun z21 => (J57 z21))))))))))) else (bnd (72 + x1 : Int32) (fun z4 => (cal1 (fL_cell xs Ln z4) (fun r5 => (bnd (r5 >>> (11 &&& 31) : Int32) (fun z7 => (bnd (z7 &&& 1 : Int32) (fun z8 => (bnd (1 + z8 : Int32) (fun z9 => (bnd (72 + x1 : Int32) (fun z10 => (cal1 (fL_cell xs Ln z10) (fun r11 => (bnd (r11 >>> (12 &&& 31) : Int32) (fun z13 => (bnd (z13 &&& 1 : Int32) (fun z14 => (bnd (z9 + z14 : Int32) (fun z15 => (J57 z15))))))))))))))))))))))))))
set_option maxRecDepth 100000 in
set_option maxHeartbeats 8000000 in
theorem cL_b_ok (L : XL) (b Ln : Nat) (xs : Nat → Int32)  (x1 : Int32) {t : (Int32)} (hf : fL_b xs Ln x1 = some t) : xMs L yL_b wsL_b ({ frames := 3, cells := 0, slots := 0, locals := 68 }) [.ref b, .int x1] [] b Ln xs 0 0 (some (.int t)) (fun _ : Unit => []) := by
  refine enters_i (own := RL) (by decide) rfl rfl (Nat.le_of_ble_eq_true rfl) ?_
  intro X hXL C hs hret
  subst hXL
  unfold fL_b at hf
  show G X 0 0 [] [(0, .ref b), (1, .int x1)] 0 []
  refine g_aload_n C dL_b_0 rfl 0 rfl ?_
  refine g_iload_n C dL_b_1 rfl 1 rfl ?_
  obtain ⟨r1, hq2, hf⟩ := cal1_x hf
  refine g_callSs (As := [.ref b, .int x1]) (rest := []) (st2 := [.int r1]) (n := 2) C hs (cL_kind_ok X.1 b Ln xs x1 hq2) gL_b_L_kind rfl rfl rfl (by decide +kernel) (by decide) [] (by decide) rfl [] (Wr := []) (by decide) rfl (by decide) [] (by decide) (Wn := fun _ => []) (fun _ => rfl) rfl rfl rfl (Nat.le_of_ble_eq_true rfl) dL_b_2 ⟨Nat.le_refl _, Nat.le_refl _⟩ (fun _ => ?_)
  refine g_iconst (v := 3) C dL_b_5 (by decide) ?_
  obtain ⟨J57, eJ57, hf⟩ := jp_x hf
  have hJ57 : ∀ (k3 : Int32), J57 k3 = some t → G X 0 0 [] [] 57 [.int k3] := by
    intro k3 hf
    have hf := app1 eJ57 hf
    rw [← Option.some.inj hf] at hret
    exact hret () _ _ dL_b_57
  refine g_icmp_ne C dL_b_6 (tgt := 28) (by decide) hf (fun hf => ?_) (fun hf => ?_)
  · refine g_iconst (v := 1) C dL_b_28 (by decide) ?_
    refine g_aload_n C dL_b_29 rfl 0 rfl ?_
    refine g_bipush (v := 72) C dL_b_30 (by decide) ?_
    refine g_iload_n C dL_b_32 rfl 1 rfl ?_
    refine g_iadd C dL_b_33 hf (fun z4 hf => ?_)
    obtain ⟨r5, hq6, hf⟩ := cal1_x hf
    refine g_callSs (As := [.ref b, .int z4]) (rest := [.int 1]) (st2 := [.int r5, .int 1]) (n := 2) C hs (cL_cell_ok X.1 b Ln xs z4 hq6) gL_b_L_cell rfl rfl rfl (by decide +kernel) (by decide) [] (by decide) rfl [] (Wr := []) (by decide) rfl (by decide) [] (by decide) (Wn := fun _ => []) (fun _ => rfl) rfl rfl rfl (Nat.le_of_ble_eq_true rfl) dL_b_34 ⟨Nat.le_refl _, Nat.le_refl _⟩ (fun _ => ?_)
    refine g_bipush (v := 11) C dL_b_37 (by decide) ?_
    refine g_ishr C dL_b_39 hf (fun z7 hf => ?_)
    refine g_iconst (v := 1) C dL_b_40 (by decide) ?_
    refine g_iand C dL_b_41 hf (fun z8 hf => ?_)
    refine g_iadd C dL_b_42 hf (fun z9 hf => ?_)
    refine g_aload_n C dL_b_43 rfl 0 rfl ?_
    refine g_bipush (v := 72) C dL_b_44 (by decide) ?_
    refine g_iload_n C dL_b_46 rfl 1 rfl ?_
    refine g_iadd C dL_b_47 hf (fun z10 hf => ?_)
    obtain ⟨r11, hq12, hf⟩ := cal1_x hf
    refine g_callSs (As := [.ref b, .int z10]) (rest := [.int z9]) (st2 := [.int r11, .int z9]) (n := 2) C hs (cL_cell_ok X.1 b Ln xs z10 hq12) gL_b_L_cell rfl rfl rfl (by decide +kernel) (by decide) [] (by decide) rfl [] (Wr := []) (by decide) rfl (by decide) [] (by decide) (Wn := fun _ => []) (fun _ => rfl) rfl rfl rfl (Nat.le_of_ble_eq_true rfl) dL_b_48 ⟨Nat.le_refl _, Nat.le_refl _⟩ (fun _ => ?_)
    refine g_bipush (v := 12) C dL_b_51 (by decide) ?_
    refine g_ishr C dL_b_53 hf (fun z13 hf => ?_)
    refine g_iconst (v := 1) C dL_b_54 (by decide) ?_
    refine g_iand C dL_b_55 hf (fun z14 hf => ?_)
    refine g_iadd C dL_b_56 hf (fun z15 hf => ?_)
    exact g_lv [] rfl (hJ57 z15 hf)
  · refine g_aload_n C dL_b_9 rfl 0 rfl ?_
    refine g_bipush (v := 72) C dL_b_10 (by decide) ?_
    refine g_iload_n C dL_b_12 rfl 1 rfl ?_
    refine g_iadd C dL_b_13 hf (fun z16 hf => ?_)
    obtain ⟨r17, hq18, hf⟩ := cal1_x hf
    refine g_callSs (As := [.ref b, .int z16]) (rest := []) (st2 := [.int r17]) (n := 2) C hs (cL_cell_ok X.1 b Ln xs z16 hq18) gL_b_L_cell rfl rfl rfl (by decide +kernel) (by decide) [] (by decide) rfl [] (Wr := []) (by decide) rfl (by decide) [] (by decide) (Wn := fun _ => []) (fun _ => rfl) rfl rfl rfl (Nat.le_of_ble_eq_true rfl) dL_b_14 ⟨Nat.le_refl _, Nat.le_refl _⟩ (fun _ => ?_)
    refine g_bipush (v := 11) C dL_b_17 (by decide) ?_
    refine g_ishr C dL_b_19 hf (fun z19 hf => ?_)
    refine g_bipush (v := 7) C dL_b_20 (by decide) ?_
    refine g_iand C dL_b_22 hf (fun z20 hf => ?_)
    refine g_iconst (v := 3) C dL_b_23 (by decide) ?_
    refine g_isub C dL_b_24 hf (fun z21 hf => ?_)
    refine g_goto C dL_b_25 (tgt := 57) (by decide) ?_
    exact g_lv [] rfl (hJ57 z21 hf)
def sL_often_14 (J58 : (Int32) → Option ((Int32))) (x1 : Int32) (x2 : Int32) (R14 : (Int32) → (Int32) → Option ((Int32))) (y4 : Int32) (y5 : Int32) : Option ((Int32)) :=
  (bnd (y5 &&& 15 : Int32) (fun z6 => (if z6 = 0 then (J58 y4) else (bnd (y5 &&& 15 : Int32) (fun z7 => (jp (fun (y8 : Int32) => (bnd ((Int32.toUInt32 y5 >>> (Int32.toUInt32 4 &&& Int32.toUInt32 31)).toInt32 : Int32) (fun z9 => (R14 y8 z9)))) (fun J49 => (if z7 = x1 then (jp (bnd (y4 + 1) (fun z10 => (J49 z10))) (fun J46 => (if x2 = 0 then J46 else (bnd ((Int32.toUInt32 y5 >>> (Int32.toUInt32 4 &&& Int32.toUInt32 31)).toInt32 : Int32) (fun z11 => (bnd (z11 &&& 15 : Int32) (fun z12 => (if z12 = x2 then J46 else (J49 y4))))))))) else (J49 y4)))))))))
def fL_often (x0 : Int64) (x1 : Int32) (x2 : Int32) : Option ((Int32)) :=
  (bnd (x0 >>> (Int32.toInt64 32 &&& 63) : Int64) (fun z1 => (bnd (Int64.toInt32 z1) (fun z2 => (jp (fun (y3 : Int32) => (some (y3))) (fun J58 => (lo2 (sL_often_14 J58 x1 x2) 1000 0 z2)))))))
set_option maxRecDepth 100000 in
set_option maxHeartbeats 8000000 in
theorem cL_often_ok (L : XL)  (x0 : Int64) (x1 : Int32) (x2 : Int32) {t : (Int32)} (hf : fL_often x0 x1 x2 = some t) : xM L yL_often wsL_often ({ frames := 0, cells := 0, slots := 0, locals := 0 }) [.long x0, .int x1, .int x2] [] 0 0 (some (.int t)) (fun _ : Unit => []) := by
  refine enter_i (own := RL) (by decide) rfl rfl (Nat.le_of_ble_eq_true rfl) ?_
  intro X hXL C _ hret
  subst hXL
  unfold fL_often at hf
  show G X 0 0 [] [(0, .long x0), (2, .int x1), (3, .int x2)] 0 []
  refine g_lload_n C dL_often_0 rfl 0 rfl ?_
  refine g_bipush (v := 32) C dL_often_1 (by decide) ?_
  refine g_lshr C dL_often_3 hf (fun z1 hf => ?_)
  refine g_l2i C dL_often_4 hf (fun z2 hf => ?_)
  refine g_istore (lv2 := [(4, .int z2), (0, .long x0), (2, .int x1), (3, .int x2)]) C dL_often_5 (by decide) rfl ?_
  refine g_iconst (v := 0) C dL_often_7 (by decide) ?_
  refine g_istore (lv2 := [(5, .int 0), (4, .int z2), (0, .long x0), (2, .int x1), (3, .int x2)]) C dL_often_8 (by decide) rfl ?_
  refine g_iload C dL_often_10 1 rfl ?_
  refine g_istore (lv2 := [(6, .int z2), (5, .int 0), (4, .int z2), (0, .long x0), (2, .int x1), (3, .int x2)]) C dL_often_12 (by decide) rfl ?_
  obtain ⟨J58, eJ58, hf⟩ := jp_x hf
  have hJ58 : ∀ (y3 : Int32), J58 y3 = some t → G X 0 0 [] [(5, .int y3)] 58 [] := by
    intro y3 hf
    have hf := app1 eJ58 hf
    refine g_iload C dL_often_58 0 rfl ?_
    rw [← Option.some.inj hf] at hret
    exact hret () _ _ dL_often_60
  have hL14 : ∀ (n : Nat) (y4 : Int32) (y5 : Int32), lo2 (sL_often_14 J58 x1 x2) n y4 y5 = some t → G X 0 0 [] [(2, .int x1), (3, .int x2), (5, .int y4), (6, .int y5)] 14 [] := by
    intro n
    induction n with
    | zero => intro y4 y5 hf; exact (lo2_z hf).elim
    | succ n ih14 =>
      intro y4 y5 hf
      obtain ⟨R14, eR14, hf⟩ := lo2_x hf
      unfold sL_often_14 at hf
      refine g_iload C dL_often_14 3 rfl ?_
      refine g_bipush (v := 15) C dL_often_16 (by decide) ?_
      refine g_iand C dL_often_18 hf (fun z6 hf => ?_)
      refine g_if_eq C dL_often_19 (tgt := 58) (by decide) hf (fun hf => ?_) (fun hf => ?_)
      · exact g_lv [2] rfl (hJ58 y4 hf)
      · refine g_iload C dL_often_22 3 rfl ?_
        refine g_bipush (v := 15) C dL_often_24 (by decide) ?_
        refine g_iand C dL_often_26 hf (fun z7 hf => ?_)
        refine g_iload_n C dL_often_27 rfl 0 rfl ?_
        obtain ⟨J49, eJ49, hf⟩ := jp_x hf
        have hJ49 : ∀ (y8 : Int32), J49 y8 = some t → G X 0 0 [] [(2, .int x1), (3, .int x2), (5, .int y8), (6, .int y5)] 49 [] := by
          intro y8 hf
          have hf := app1 eJ49 hf
          refine g_iload C dL_often_49 3 rfl ?_
          refine g_iconst (v := 4) C dL_often_51 (by decide) ?_
          refine g_iushr C dL_often_52 hf (fun z9 hf => ?_)
          refine g_istore (lv2 := [(6, .int z9), (2, .int x1), (3, .int x2), (5, .int y8)]) C dL_often_53 (by decide) rfl ?_
          refine g_goto C dL_often_55 (tgt := 14) (by decide) ?_
          exact g_lv [1, 2, 3, 0] rfl (ih14 y8 z9 (app2 eR14 hf))
        refine g_icmp_ne C dL_often_28 (tgt := 49) (by decide) hf (fun hf => ?_) (fun hf => ?_)
        · exact hJ49 y4 hf
        · refine g_iload_n C dL_often_31 rfl 1 rfl ?_
          obtain ⟨J46, eJ46, hf⟩ := jp_x hf
          have hJ46 : J46 = some t → G X 0 0 [] [(2, .int x1), (3, .int x2), (5, .int y4), (6, .int y5)] 46 [] := by
            intro  hf
            have hf := app0 eJ46 hf
            refine g_iinc (v := 1) (lv2 := fun z10 => [(5, .int z10), (2, .int x1), (3, .int x2), (6, .int y5)]) C dL_often_46 2 rfl (by decide) (by decide) hf (fun _ => rfl) (fun z10 hf => ?_)
            exact g_lv [1, 2, 0, 3] rfl (hJ49 z10 hf)
          refine g_if_eq C dL_often_32 (tgt := 46) (by decide) hf (fun hf => ?_) (fun hf => ?_)
          · exact hJ46 hf
          · refine g_iload C dL_often_35 3 rfl ?_
            refine g_iconst (v := 4) C dL_often_37 (by decide) ?_
            refine g_iushr C dL_often_38 hf (fun z11 hf => ?_)
            refine g_bipush (v := 15) C dL_often_39 (by decide) ?_
            refine g_iand C dL_often_41 hf (fun z12 hf => ?_)
            refine g_iload_n C dL_often_42 rfl 1 rfl ?_
            refine g_icmp_ne C dL_often_43 (tgt := 49) (by decide) hf (fun hf => ?_) (fun hf => ?_)
            · exact hJ49 y4 hf
            · exact hJ46 hf
  exact g_lv [4, 5, 1, 0] rfl (hL14 _ 0 z2 hf)
def fL_value (xs : Nat → Int32) (Ln : Nat) (x1 : Int32) (x2 : Int64) : Option ((Int32)) :=
  (cal1 (fL_kind xs Ln x1) (fun r1 => (if r1 = 1 then (cal1 (fL_a xs Ln x1) (fun r17 => (cal1 (fL_often x2 r17 0) (fun r19 => (some (r19)))))) else (if r1 = 2 then (cal1 (fL_a xs Ln x1) (fun r10 => (cal1 (fL_b xs Ln x1) (fun r12 => (cal1 (fL_often x2 r10 r12) (fun r14 => (bnd (2 * r14 : Int32) (fun z16 => (some (z16)))))))))) else (jp (fun (k3 : Int32) => (some (k3))) (fun J77 => (jp (J77 1) (fun J72 => (if r1 = 0 then J72 else (bnd (Int64.toInt32 x2) (fun z4 => (cal1 (fL_a xs Ln x1) (fun r5 => (jp (J77 0) (fun J76 => (if z4 < r5 then J76 else (bnd (Int64.toInt32 x2) (fun z7 => (cal1 (fL_b xs Ln x1) (fun r8 => (if r8 < z7 then J76 else J72)))))))))))))))))))))
set_option maxRecDepth 100000 in
set_option maxHeartbeats 8000000 in
theorem cL_value_ok (L : XL) (b Ln : Nat) (xs : Nat → Int32)  (x1 : Int32) (x2 : Int64) {t : (Int32)} (hf : fL_value xs Ln x1 x2 = some t) : xMs L yL_value wsL_value ({ frames := 4, cells := 0, slots := 0, locals := 89 }) [.ref b, .int x1, .long x2] [] b Ln xs 0 0 (some (.int t)) (fun _ : Unit => []) := by
  refine enters_i (own := RL) (by decide) rfl rfl (Nat.le_of_ble_eq_true rfl) ?_
  intro X hXL C hs hret
  subst hXL
  unfold fL_value at hf
  show G X 0 0 [] [(0, .ref b), (1, .int x1), (2, .long x2)] 0 []
  refine g_aload_n C dL_value_0 rfl 0 rfl ?_
  refine g_iload_n C dL_value_1 rfl 1 rfl ?_
  obtain ⟨r1, hq2, hf⟩ := cal1_x hf
  refine g_callSs (As := [.ref b, .int x1]) (rest := []) (st2 := [.int r1]) (n := 2) C hs (cL_kind_ok X.1 b Ln xs x1 hq2) gL_value_L_kind rfl rfl rfl (by decide +kernel) (by decide) [] (by decide) rfl [] (Wr := []) (by decide) rfl (by decide) [] (by decide) (Wn := fun _ => []) (fun _ => rfl) rfl rfl rfl (Nat.le_of_ble_eq_true rfl) dL_value_2 ⟨Nat.le_refl _, Nat.le_refl _⟩ (fun _ => ?_)
  refine g_istore (lv2 := [(4, .int r1), (0, .ref b), (1, .int x1), (2, .long x2)]) C dL_value_5 (by decide) rfl ?_
  refine g_iload C dL_value_7 0 rfl ?_
  refine g_iconst (v := 1) C dL_value_9 (by decide) ?_
  refine g_icmp_ne C dL_value_10 (tgt := 24) (by decide) hf (fun hf => ?_) (fun hf => ?_)
  · refine g_iload C dL_value_24 0 rfl ?_
    refine g_iconst (v := 2) C dL_value_26 (by decide) ?_
    refine g_icmp_ne C dL_value_27 (tgt := 47) (by decide) hf (fun hf => ?_) (fun hf => ?_)
    · refine g_iload C dL_value_47 0 rfl ?_
      obtain ⟨J77, eJ77, hf⟩ := jp_x hf
      have hJ77 : ∀ (k3 : Int32), J77 k3 = some t → G X 0 0 [] [] 77 [.int k3] := by
        intro k3 hf
        have hf := app1 eJ77 hf
        rw [← Option.some.inj hf] at hret
        exact hret () _ _ dL_value_77
      obtain ⟨J72, eJ72, hf⟩ := jp_x hf
      have hJ72 : J72 = some t → G X 0 0 [] [] 72 [] := by
        intro  hf
        have hf := app0 eJ72 hf
        refine g_iconst (v := 1) C dL_value_72 (by decide) ?_
        refine g_goto C dL_value_73 (tgt := 77) (by decide) ?_
        exact hJ77 1 hf
      refine g_if_eq C dL_value_49 (tgt := 72) (by decide) hf (fun hf => ?_) (fun hf => ?_)
      · exact g_lv [] rfl (hJ72 hf)
      · refine g_lload_n C dL_value_52 rfl 3 rfl ?_
        refine g_l2i C dL_value_53 hf (fun z4 hf => ?_)
        refine g_aload_n C dL_value_54 rfl 1 rfl ?_
        refine g_iload_n C dL_value_55 rfl 2 rfl ?_
        obtain ⟨r5, hq6, hf⟩ := cal1_x hf
        refine g_callSs (As := [.ref b, .int x1]) (rest := [.int z4]) (st2 := [.int r5, .int z4]) (n := 2) C hs (cL_a_ok X.1 b Ln xs x1 hq6) gL_value_L_a rfl rfl rfl (by decide +kernel) (by decide) [] (by decide) rfl [] (Wr := []) (by decide) rfl (by decide) [] (by decide) (Wn := fun _ => []) (fun _ => rfl) rfl rfl rfl (Nat.le_of_ble_eq_true rfl) dL_value_56 ⟨Nat.le_refl _, Nat.le_refl _⟩ (fun _ => ?_)
        obtain ⟨J76, eJ76, hf⟩ := jp_x hf
        have hJ76 : J76 = some t → G X 0 0 [] [] 76 [] := by
          intro  hf
          have hf := app0 eJ76 hf
          refine g_iconst (v := 0) C dL_value_76 (by decide) ?_
          exact hJ77 0 hf
        refine g_icmp_lt C dL_value_59 (tgt := 76) (by decide) hf (fun hf => ?_) (fun hf => ?_)
        · exact g_lv [] rfl (hJ76 hf)
        · refine g_lload_n C dL_value_62 rfl 3 rfl ?_
          refine g_l2i C dL_value_63 hf (fun z7 hf => ?_)
          refine g_aload_n C dL_value_64 rfl 1 rfl ?_
          refine g_iload_n C dL_value_65 rfl 2 rfl ?_
          obtain ⟨r8, hq9, hf⟩ := cal1_x hf
          refine g_callSs (As := [.ref b, .int x1]) (rest := [.int z7]) (st2 := [.int r8, .int z7]) (n := 2) C hs (cL_b_ok X.1 b Ln xs x1 hq9) gL_value_L_b rfl rfl rfl (by decide +kernel) (by decide) [] (by decide) rfl [] (Wr := []) (by decide) rfl (by decide) [] (by decide) (Wn := fun _ => []) (fun _ => rfl) rfl rfl rfl (Nat.le_of_ble_eq_true rfl) dL_value_66 ⟨Nat.le_refl _, Nat.le_refl _⟩ (fun _ => ?_)
          refine g_icmp_gt C dL_value_69 (tgt := 76) (by decide) hf (fun hf => ?_) (fun hf => ?_)
          · exact g_lv [] rfl (hJ76 hf)
          · exact g_lv [] rfl (hJ72 hf)
    · refine g_iconst (v := 2) C dL_value_30 (by decide) ?_
      refine g_lload_n C dL_value_31 rfl 3 rfl ?_
      refine g_aload_n C dL_value_32 rfl 1 rfl ?_
      refine g_iload_n C dL_value_33 rfl 2 rfl ?_
      obtain ⟨r10, hq11, hf⟩ := cal1_x hf
      refine g_callSs (As := [.ref b, .int x1]) (rest := [.long x2, .int 2]) (st2 := [.int r10, .long x2, .int 2]) (n := 2) C hs (cL_a_ok X.1 b Ln xs x1 hq11) gL_value_L_a rfl rfl rfl (by decide +kernel) (by decide) [] (by decide) rfl [] (Wr := []) (by decide) rfl (by decide) [] (by decide) (Wn := fun _ => []) (fun _ => rfl) rfl rfl rfl (Nat.le_of_ble_eq_true rfl) dL_value_34 ⟨Nat.le_refl _, Nat.le_refl _⟩ (fun _ => ?_)
      refine g_aload_n C dL_value_37 rfl 1 rfl ?_
      refine g_iload_n C dL_value_38 rfl 2 rfl ?_
      obtain ⟨r12, hq13, hf⟩ := cal1_x hf
      refine g_callSs (As := [.ref b, .int x1]) (rest := [.int r10, .long x2, .int 2]) (st2 := [.int r12, .int r10, .long x2, .int 2]) (n := 2) C hs (cL_b_ok X.1 b Ln xs x1 hq13) gL_value_L_b rfl rfl rfl (by decide +kernel) (by decide) [] (by decide) rfl [] (Wr := []) (by decide) rfl (by decide) [] (by decide) (Wn := fun _ => []) (fun _ => rfl) rfl rfl rfl (Nat.le_of_ble_eq_true rfl) dL_value_39 ⟨Nat.le_refl _, Nat.le_refl _⟩ (fun _ => ?_)
      obtain ⟨r14, hq15, hf⟩ := cal1_x hf
      refine g_callS (As := [.long x2, .int r10, .int r12]) (rest := [.int 2]) (st2 := [.int r14, .int 2]) (n := 3) C (cL_often_ok X.1 x2 r10 r12 hq15) gL_value_L_often rfl rfl rfl (by decide +kernel) (by decide) [] (by decide) rfl [] (Wr := []) (by decide) rfl (by decide) [] (by decide) (Wn := fun _ => []) (fun _ => rfl) rfl rfl rfl (Nat.le_of_ble_eq_true rfl) dL_value_42 ⟨Nat.le_refl _, Nat.le_refl _⟩ (fun _ => ?_)
      refine g_imul C dL_value_45 hf (fun z16 hf => ?_)
      rw [← Option.some.inj hf] at hret
      exact hret () _ _ dL_value_46
  · refine g_lload_n C dL_value_13 rfl 3 rfl ?_
    refine g_aload_n C dL_value_14 rfl 1 rfl ?_
    refine g_iload_n C dL_value_15 rfl 2 rfl ?_
    obtain ⟨r17, hq18, hf⟩ := cal1_x hf
    refine g_callSs (As := [.ref b, .int x1]) (rest := [.long x2]) (st2 := [.int r17, .long x2]) (n := 2) C hs (cL_a_ok X.1 b Ln xs x1 hq18) gL_value_L_a rfl rfl rfl (by decide +kernel) (by decide) [] (by decide) rfl [] (Wr := []) (by decide) rfl (by decide) [] (by decide) (Wn := fun _ => []) (fun _ => rfl) rfl rfl rfl (Nat.le_of_ble_eq_true rfl) dL_value_16 ⟨Nat.le_refl _, Nat.le_refl _⟩ (fun _ => ?_)
    refine g_iconst (v := 0) C dL_value_19 (by decide) ?_
    obtain ⟨r19, hq20, hf⟩ := cal1_x hf
    refine g_callS (As := [.long x2, .int r17, .int 0]) (rest := []) (st2 := [.int r19]) (n := 3) C (cL_often_ok X.1 x2 r17 0 hq20) gL_value_L_often rfl rfl rfl (by decide +kernel) (by decide) [] (by decide) rfl [] (Wr := []) (by decide) rfl (by decide) [] (by decide) (Wn := fun _ => []) (fun _ => rfl) rfl rfl rfl (Nat.le_of_ble_eq_true rfl) dL_value_20 ⟨Nat.le_refl _, Nat.le_refl _⟩ (fun _ => ?_)
    rw [← Option.some.inj hf] at hret
    exact hret () _ _ dL_value_23
def sL_tokens_2 (xs : Nat → Int32) (Ln : Nat) (J18 : (Int32) → Option ((Int32))) (R2 : (Int32) → Option ((Int32))) (y2 : Int32) : Option ((Int32)) :=
  (cal1 (fL_kind xs Ln y2) (fun r3 => (if 9 ≤ r3 then (J18 y2) else (bnd (y2 + 1) (fun z5 => (R2 z5))))))
def fL_tokens (xs : Nat → Int32) (Ln : Nat) : Option ((Int32)) :=
  (jp (fun (y1 : Int32) => (some (y1))) (fun J18 => (lo1 (sL_tokens_2 xs Ln J18) 1000 0)))
set_option maxRecDepth 100000 in
set_option maxHeartbeats 8000000 in
theorem cL_tokens_ok (L : XL) (b Ln : Nat) (xs : Nat → Int32)   {t : (Int32)} (hf : fL_tokens xs Ln = some t) : xMs L yL_tokens wsL_tokens ({ frames := 3, cells := 0, slots := 0, locals := 68 }) [.ref b] [] b Ln xs 0 0 (some (.int t)) (fun _ : Unit => []) := by
  refine enters_i (own := RL) (by decide) rfl rfl (Nat.le_of_ble_eq_true rfl) ?_
  intro X hXL C hs hret
  subst hXL
  unfold fL_tokens at hf
  show G X 0 0 [] [(0, .ref b)] 0 []
  refine g_iconst (v := 0) C dL_tokens_0 (by decide) ?_
  refine g_istore_n (lv2 := [(1, .int 0), (0, .ref b)]) C dL_tokens_1 rfl (by decide) rfl ?_
  obtain ⟨J18, eJ18, hf⟩ := jp_x hf
  have hJ18 : ∀ (y1 : Int32), J18 y1 = some t → G X 0 0 [] [(1, .int y1)] 18 [] := by
    intro y1 hf
    have hf := app1 eJ18 hf
    refine g_iload_n C dL_tokens_18 rfl 0 rfl ?_
    rw [← Option.some.inj hf] at hret
    exact hret () _ _ dL_tokens_19
  have hL2 : ∀ (n : Nat) (y2 : Int32), lo1 (sL_tokens_2 xs Ln J18) n y2 = some t → G X 0 0 [] [(0, .ref b), (1, .int y2)] 2 [] := by
    intro n
    induction n with
    | zero => intro y2 hf; exact (lo1_z hf).elim
    | succ n ih2 =>
      intro y2 hf
      obtain ⟨R2, eR2, hf⟩ := lo1_x hf
      unfold sL_tokens_2 at hf
      refine g_aload_n C dL_tokens_2 rfl 0 rfl ?_
      refine g_iload_n C dL_tokens_3 rfl 1 rfl ?_
      obtain ⟨r3, hq4, hf⟩ := cal1_x hf
      refine g_callSs (As := [.ref b, .int y2]) (rest := []) (st2 := [.int r3]) (n := 2) C hs (cL_kind_ok X.1 b Ln xs y2 hq4) gL_tokens_L_kind rfl rfl rfl (by decide +kernel) (by decide) [] (by decide) rfl [] (Wr := []) (by decide) rfl (by decide) [] (by decide) (Wn := fun _ => []) (fun _ => rfl) rfl rfl rfl (Nat.le_of_ble_eq_true rfl) dL_tokens_4 ⟨Nat.le_refl _, Nat.le_refl _⟩ (fun _ => ?_)
      refine g_bipush (v := 9) C dL_tokens_7 (by decide) ?_
      refine g_icmp_ge C dL_tokens_9 (tgt := 18) (by decide) hf (fun hf => ?_) (fun hf => ?_)
      · exact g_lv [1] rfl (hJ18 y2 hf)
      · refine g_iinc (v := 1) (lv2 := fun z5 => [(1, .int z5), (0, .ref b)]) C dL_tokens_12 1 rfl (by decide) (by decide) hf (fun _ => rfl) (fun z5 hf => ?_)
        refine g_goto C dL_tokens_15 (tgt := 2) (by decide) ?_
        exact g_lv [1, 0] rfl (ih2 z5 (app1 eR2 hf))
  exact g_lv [1, 0] rfl (hL2 _ 0 hf)
def sL_matches_10 (J102 : (Int32) → Option ((Int32))) (xs : Nat → Int32) (Ln : Nat) (x1 : Int64) (R10 : (Int32) → (Int32) → Option ((Int32))) (y7 : Int32) (y8 : Int32) : Option ((Int32)) :=
  (if y8 < 0 then (J102 y7) else (cal1 (fL_kind xs Ln y8) (fun r9 => (jp (fun (y11 : Int32) => (bnd (y8 + (-1)) (fun z12 => (R10 y11 z12)))) (fun J96 => (if 4 ≤ r9 then (if r9 = 6 then (bnd (y7 ^^^ 1 : Int32) (fun z19 => (J96 z19))) else (bnd (y7 &&& 1 : Int32) (fun z13 => (bnd (y7 >>> (1 &&& 31) : Int32) (fun z14 => (jp (fun (k15 : Int32) => (J96 k15)) (fun J95 => (if r9 = 4 then (bnd (z13 ||| (-2) : Int32) (fun z17 => (bnd (z14 &&& z17 : Int32) (fun z18 => (J95 z18))))) else (bnd (z14 ||| z13 : Int32) (fun z16 => (J95 z16))))))))))) else (bnd (y7 <<< (1 &&& 31) : Int32) (fun z20 => (cal1 (fL_value xs Ln y8 x1) (fun r21 => (jp (fun (k23 : Int32) => (bnd (z20 ||| k23 : Int32) (fun z24 => (J96 z24)))) (fun J47 => (if r21 ≤ 0 then (J47 0) else (J47 1))))))))))))))
def fL_matches (xs : Nat → Int32) (Ln : Nat) (x1 : Int64) : Option ((Int32)) :=
  (cal1 (fL_tokens xs Ln) (fun r1 => (bnd (r1 - 1 : Int32) (fun z3 => (jp (fun (y4 : Int32) => (bnd (y4 &&& 1 : Int32) (fun z5 => (jp (fun (k6 : Int32) => (zok k6 (some (k6)))) (fun J114 => (if z5 = 1 then (J114 1) else (J114 0))))))) (fun J102 => (lo2 (sL_matches_10 J102 xs Ln x1) 1000 0 z3)))))))
set_option maxRecDepth 100000 in
set_option maxHeartbeats 8000000 in
theorem cL_matches_ok (L : XL) (b Ln : Nat) (xs : Nat → Int32)  (x1 : Int64) {t : (Int32)} (hf : fL_matches xs Ln x1 = some t) : xMs L yL_matches wsL_matches ({ frames := 5, cells := 0, slots := 0, locals := 113 }) [.ref b, .long x1] [] b Ln xs 0 0 (some (.int t)) (fun _ : Unit => []) := by
  refine enters_z (own := RL) (by decide) rfl rfl (Nat.le_of_ble_eq_true rfl) ?_
  intro X hXL C hs hret
  subst hXL
  unfold fL_matches at hf
  show G X 0 0 [] [(0, .ref b), (1, .long x1)] 0 []
  refine g_iconst (v := 0) C dL_matches_0 (by decide) ?_
  refine g_istore_n (lv2 := [(3, .int 0), (0, .ref b), (1, .long x1)]) C dL_matches_1 rfl (by decide) rfl ?_
  refine g_aload_n C dL_matches_2 rfl 1 rfl ?_
  obtain ⟨r1, hq2, hf⟩ := cal1_x hf
  refine g_callSs (As := [.ref b]) (rest := []) (st2 := [.int r1]) (n := 1) C hs (cL_tokens_ok X.1 b Ln xs hq2) gL_matches_L_tokens rfl rfl rfl (by decide +kernel) (by decide) [] (by decide) rfl [] (Wr := []) (by decide) rfl (by decide) [] (by decide) (Wn := fun _ => []) (fun _ => rfl) rfl rfl rfl (Nat.le_of_ble_eq_true rfl) dL_matches_3 ⟨Nat.le_refl _, Nat.le_refl _⟩ (fun _ => ?_)
  refine g_iconst (v := 1) C dL_matches_6 (by decide) ?_
  refine g_isub C dL_matches_7 hf (fun z3 hf => ?_)
  refine g_istore (lv2 := [(4, .int z3), (3, .int 0), (0, .ref b), (1, .long x1)]) C dL_matches_8 (by decide) rfl ?_
  obtain ⟨J102, eJ102, hf⟩ := jp_x hf
  have hJ102 : ∀ (y4 : Int32), J102 y4 = some t → G X 0 0 [] [(3, .int y4)] 102 [] := by
    intro y4 hf
    have hf := app1 eJ102 hf
    refine g_iload_n C dL_matches_102 rfl 0 rfl ?_
    refine g_iconst (v := 1) C dL_matches_103 (by decide) ?_
    refine g_iand C dL_matches_104 hf (fun z5 hf => ?_)
    refine g_iconst (v := 1) C dL_matches_105 (by decide) ?_
    obtain ⟨J114, eJ114, hf⟩ := jp_x hf
    have hJ114 : ∀ (k6 : Int32), J114 k6 = some t → G X 0 0 [] [] 114 [.int k6] := by
      intro k6 hf
      have hf := app1 eJ114 hf
      obtain ⟨hz, hf⟩ := zok_x hf
      rw [← Option.some.inj hf] at hret
      exact hret () _ _ hz dL_matches_114
    refine g_icmp_ne C dL_matches_106 (tgt := 113) (by decide) hf (fun hf => ?_) (fun hf => ?_)
    · refine g_iconst (v := 0) C dL_matches_113 (by decide) ?_
      exact g_lv [] rfl (hJ114 0 hf)
    · refine g_iconst (v := 1) C dL_matches_109 (by decide) ?_
      refine g_goto C dL_matches_110 (tgt := 114) (by decide) ?_
      exact g_lv [] rfl (hJ114 1 hf)
  have hL10 : ∀ (n : Nat) (y7 : Int32) (y8 : Int32), lo2 (sL_matches_10 J102 xs Ln x1) n y7 y8 = some t → G X 0 0 [] [(0, .ref b), (1, .long x1), (3, .int y7), (4, .int y8)] 10 [] := by
    intro n
    induction n with
    | zero => intro y7 y8 hf; exact (lo2_z hf).elim
    | succ n ih10 =>
      intro y7 y8 hf
      obtain ⟨R10, eR10, hf⟩ := lo2_x hf
      unfold sL_matches_10 at hf
      refine g_iload C dL_matches_10 3 rfl ?_
      refine g_if_lt C dL_matches_12 (tgt := 102) (by decide) hf (fun hf => ?_) (fun hf => ?_)
      · exact g_lv [2] rfl (hJ102 y7 hf)
      · refine g_aload_n C dL_matches_15 rfl 0 rfl ?_
        refine g_iload C dL_matches_16 3 rfl ?_
        obtain ⟨r9, hq10, hf⟩ := cal1_x hf
        refine g_callSs (As := [.ref b, .int y8]) (rest := []) (st2 := [.int r9]) (n := 2) C hs (cL_kind_ok X.1 b Ln xs y8 hq10) gL_matches_L_kind rfl rfl rfl (by decide +kernel) (by decide) [] (by decide) rfl [] (Wr := []) (by decide) rfl (by decide) [] (by decide) (Wn := fun _ => []) (fun _ => rfl) rfl rfl rfl (Nat.le_of_ble_eq_true rfl) dL_matches_18 ⟨Nat.le_refl _, Nat.le_refl _⟩ (fun _ => ?_)
        refine g_istore (lv2 := [(5, .int r9), (0, .ref b), (1, .long x1), (3, .int y7), (4, .int y8)]) C dL_matches_21 (by decide) rfl ?_
        refine g_iload C dL_matches_23 0 rfl ?_
        refine g_iconst (v := 4) C dL_matches_25 (by decide) ?_
        obtain ⟨J96, eJ96, hf⟩ := jp_x hf
        have hJ96 : ∀ (y11 : Int32), J96 y11 = some t → G X 0 0 [] [(0, .ref b), (1, .long x1), (3, .int y11), (4, .int y8)] 96 [] := by
          intro y11 hf
          have hf := app1 eJ96 hf
          refine g_iinc (v := (-1)) (lv2 := fun z12 => [(4, .int z12), (0, .ref b), (1, .long x1), (3, .int y11)]) C dL_matches_96 3 rfl (by decide) (by decide) hf (fun _ => rfl) (fun z12 hf => ?_)
          refine g_goto C dL_matches_99 (tgt := 10) (by decide) ?_
          exact g_lv [1, 2, 3, 0] rfl (ih10 y11 z12 (app2 eR10 hf))
        refine g_icmp_ge C dL_matches_26 (tgt := 52) (by decide) hf (fun hf => ?_) (fun hf => ?_)
        · refine g_iload C dL_matches_52 0 rfl ?_
          refine g_bipush (v := 6) C dL_matches_54 (by decide) ?_
          refine g_icmp_ne C dL_matches_56 (tgt := 66) (by decide) hf (fun hf => ?_) (fun hf => ?_)
          · refine g_iload_n C dL_matches_66 rfl 3 rfl ?_
            refine g_iconst (v := 1) C dL_matches_67 (by decide) ?_
            refine g_iand C dL_matches_68 hf (fun z13 hf => ?_)
            refine g_istore (lv2 := [(6, .int z13), (5, .int r9), (0, .ref b), (1, .long x1), (3, .int y7), (4, .int y8)]) C dL_matches_69 (by decide) rfl ?_
            refine g_iload_n C dL_matches_71 rfl 4 rfl ?_
            refine g_iconst (v := 1) C dL_matches_72 (by decide) ?_
            refine g_ishr C dL_matches_73 hf (fun z14 hf => ?_)
            refine g_istore_n (lv2 := [(3, .int z14), (6, .int z13), (5, .int r9), (0, .ref b), (1, .long x1), (4, .int y8)]) C dL_matches_74 rfl (by decide) rfl ?_
            refine g_iload C dL_matches_75 2 rfl ?_
            refine g_iconst (v := 4) C dL_matches_77 (by decide) ?_
            obtain ⟨J95, eJ95, hf⟩ := jp_x hf
            have hJ95 : ∀ (k15 : Int32), J95 k15 = some t → G X 0 0 [] [(0, .ref b), (1, .long x1), (4, .int y8)] 95 [.int k15] := by
              intro k15 hf
              have hf := app1 eJ95 hf
              refine g_istore_n (lv2 := [(3, .int k15), (0, .ref b), (1, .long x1), (4, .int y8)]) C dL_matches_95 rfl (by decide) rfl ?_
              exact g_lv [1, 2, 0, 3] rfl (hJ96 k15 hf)
            refine g_icmp_ne C dL_matches_78 (tgt := 91) (by decide) hf (fun hf => ?_) (fun hf => ?_)
            · refine g_iload_n C dL_matches_91 rfl 0 rfl ?_
              refine g_iload C dL_matches_92 1 rfl ?_
              refine g_ior C dL_matches_94 hf (fun z16 hf => ?_)
              exact g_lv [3, 4, 5] rfl (hJ95 z16 hf)
            · refine g_iload_n C dL_matches_81 rfl 0 rfl ?_
              refine g_iload C dL_matches_82 1 rfl ?_
              refine g_bipush (v := (-2)) C dL_matches_84 (by decide) ?_
              refine g_ior C dL_matches_86 hf (fun z17 hf => ?_)
              refine g_iand C dL_matches_87 hf (fun z18 hf => ?_)
              refine g_goto C dL_matches_88 (tgt := 95) (by decide) ?_
              exact g_lv [3, 4, 5] rfl (hJ95 z18 hf)
          · refine g_iload_n C dL_matches_59 rfl 3 rfl ?_
            refine g_iconst (v := 1) C dL_matches_60 (by decide) ?_
            refine g_ixor C dL_matches_61 hf (fun z19 hf => ?_)
            refine g_istore_n (lv2 := [(3, .int z19), (5, .int r9), (0, .ref b), (1, .long x1), (4, .int y8)]) C dL_matches_62 rfl (by decide) rfl ?_
            refine g_goto C dL_matches_63 (tgt := 96) (by decide) ?_
            exact g_lv [2, 3, 0, 4] rfl (hJ96 z19 hf)
        · refine g_iload_n C dL_matches_29 rfl 3 rfl ?_
          refine g_iconst (v := 1) C dL_matches_30 (by decide) ?_
          refine g_ishl C dL_matches_31 hf (fun z20 hf => ?_)
          refine g_aload_n C dL_matches_32 rfl 1 rfl ?_
          refine g_iload C dL_matches_33 4 rfl ?_
          refine g_lload_n C dL_matches_35 rfl 2 rfl ?_
          obtain ⟨r21, hq22, hf⟩ := cal1_x hf
          refine g_callSs (As := [.ref b, .int y8, .long x1]) (rest := [.int z20]) (st2 := [.int r21, .int z20]) (n := 3) C hs (cL_value_ok X.1 b Ln xs y8 x1 hq22) gL_matches_L_value rfl rfl rfl (by decide +kernel) (by decide) [] (by decide) rfl [] (Wr := []) (by decide) rfl (by decide) [] (by decide) (Wn := fun _ => []) (fun _ => rfl) rfl rfl rfl (Nat.le_of_ble_eq_true rfl) dL_matches_36 ⟨Nat.le_refl _, Nat.le_refl _⟩ (fun _ => ?_)
          obtain ⟨J47, eJ47, hf⟩ := jp_x hf
          have hJ47 : ∀ (k23 : Int32), J47 k23 = some t → G X 0 0 [] [(0, .ref b), (1, .long x1), (4, .int y8)] 47 [.int k23, .int z20] := by
            intro k23 hf
            have hf := app1 eJ47 hf
            refine g_ior C dL_matches_47 hf (fun z24 hf => ?_)
            refine g_istore_n (lv2 := [(3, .int z24), (0, .ref b), (1, .long x1), (4, .int y8)]) C dL_matches_48 rfl (by decide) rfl ?_
            refine g_goto C dL_matches_49 (tgt := 96) (by decide) ?_
            exact g_lv [1, 2, 0, 3] rfl (hJ96 z24 hf)
          refine g_if_le C dL_matches_39 (tgt := 46) (by decide) hf (fun hf => ?_) (fun hf => ?_)
          · refine g_iconst (v := 0) C dL_matches_46 (by decide) ?_
            exact g_lv [1, 2, 4] rfl (hJ47 0 hf)
          · refine g_iconst (v := 1) C dL_matches_42 (by decide) ?_
            refine g_goto C dL_matches_43 (tgt := 47) (by decide) ?_
            exact g_lv [1, 2, 4] rfl (hJ47 1 hf)
  exact g_lv [2, 3, 1, 0] rfl (hL10 _ 0 z3 hf)
def sL_score_14 (r1 : Int32) (J99 : (Int32) → Option ((Int32))) (xs : Nat → Int32) (Ln : Nat) (x1 : Int64) (R14 : (Int32) → (Int32) → (Int32) → Option ((Int32))) (y4 : Int32) (y5 : Int32) (y6 : Int32) : Option ((Int32)) :=
  (if r1 ≤ y6 then (J99 y4) else (cal1 (fL_kind xs Ln y6) (fun r7 => (jp (fun (y9 : Int32) (y10 : Int32) => (bnd (y6 + 1) (fun z11 => (R14 y9 y10 z11)))) (fun J93 => (if y5 ≤ 0 then (if r7 = 6 then (J93 y4 1) else (if 4 ≤ r7 then (J93 y4 y5) else (cal1 (fL_value xs Ln y6 x1) (fun r12 => (bnd (y4 + r12 : Int32) (fun z14 => (J93 z14 y5))))))) else (jp (fun (k15 : Int32) => (bnd (y5 + k15 : Int32) (fun z16 => (J93 y4 z16)))) (fun J58 => (if 4 ≤ r7 then (if 6 ≤ r7 then (J58 0) else (J58 1)) else (J58 (-1)))))))))))
def fL_score (xs : Nat → Int32) (Ln : Nat) (x1 : Int64) : Option ((Int32)) :=
  (cal1 (fL_tokens xs Ln) (fun r1 => (jp (fun (y3 : Int32) => (some (y3))) (fun J99 => (lo3 (sL_score_14 r1 J99 xs Ln x1) 1000 0 0 0)))))
set_option maxRecDepth 100000 in
set_option maxHeartbeats 8000000 in
theorem cL_score_ok (L : XL) (b Ln : Nat) (xs : Nat → Int32)  (x1 : Int64) {t : (Int32)} (hf : fL_score xs Ln x1 = some t) : xMs L yL_score wsL_score ({ frames := 5, cells := 0, slots := 0, locals := 113 }) [.ref b, .long x1] [] b Ln xs 0 0 (some (.int t)) (fun _ : Unit => []) := by
  refine enters_i (own := RL) (by decide) rfl rfl (Nat.le_of_ble_eq_true rfl) ?_
  intro X hXL C hs hret
  subst hXL
  unfold fL_score at hf
  show G X 0 0 [] [(0, .ref b), (1, .long x1)] 0 []
  refine g_iconst (v := 0) C dL_score_0 (by decide) ?_
  refine g_istore_n (lv2 := [(3, .int 0), (0, .ref b), (1, .long x1)]) C dL_score_1 rfl (by decide) rfl ?_
  refine g_iconst (v := 0) C dL_score_2 (by decide) ?_
  refine g_istore (lv2 := [(4, .int 0), (3, .int 0), (0, .ref b), (1, .long x1)]) C dL_score_3 (by decide) rfl ?_
  refine g_aload_n C dL_score_5 rfl 2 rfl ?_
  obtain ⟨r1, hq2, hf⟩ := cal1_x hf
  refine g_callSs (As := [.ref b]) (rest := []) (st2 := [.int r1]) (n := 1) C hs (cL_tokens_ok X.1 b Ln xs hq2) gL_score_L_tokens rfl rfl rfl (by decide +kernel) (by decide) [] (by decide) rfl [] (Wr := []) (by decide) rfl (by decide) [] (by decide) (Wn := fun _ => []) (fun _ => rfl) rfl rfl rfl (Nat.le_of_ble_eq_true rfl) dL_score_6 ⟨Nat.le_refl _, Nat.le_refl _⟩ (fun _ => ?_)
  refine g_istore (lv2 := [(5, .int r1), (4, .int 0), (3, .int 0), (0, .ref b), (1, .long x1)]) C dL_score_9 (by decide) rfl ?_
  refine g_iconst (v := 0) C dL_score_11 (by decide) ?_
  refine g_istore (lv2 := [(6, .int 0), (5, .int r1), (4, .int 0), (3, .int 0), (0, .ref b), (1, .long x1)]) C dL_score_12 (by decide) rfl ?_
  obtain ⟨J99, eJ99, hf⟩ := jp_x hf
  have hJ99 : ∀ (y3 : Int32), J99 y3 = some t → G X 0 0 [] [(3, .int y3)] 99 [] := by
    intro y3 hf
    have hf := app1 eJ99 hf
    refine g_iload_n C dL_score_99 rfl 0 rfl ?_
    rw [← Option.some.inj hf] at hret
    exact hret () _ _ dL_score_100
  have hL14 : ∀ (n : Nat) (y4 : Int32) (y5 : Int32) (y6 : Int32), lo3 (sL_score_14 r1 J99 xs Ln x1) n y4 y5 y6 = some t → G X 0 0 [] [(0, .ref b), (1, .long x1), (3, .int y4), (4, .int y5), (5, .int r1), (6, .int y6)] 14 [] := by
    intro n
    induction n with
    | zero => intro y4 y5 y6 hf; exact (lo3_z hf).elim
    | succ n ih14 =>
      intro y4 y5 y6 hf
      obtain ⟨R14, eR14, hf⟩ := lo3_x hf
      unfold sL_score_14 at hf
      refine g_iload C dL_score_14 5 rfl ?_
      refine g_iload C dL_score_16 4 rfl ?_
      refine g_icmp_ge C dL_score_18 (tgt := 99) (by decide) hf (fun hf => ?_) (fun hf => ?_)
      · exact g_lv [2] rfl (hJ99 y4 hf)
      · refine g_aload_n C dL_score_21 rfl 0 rfl ?_
        refine g_iload C dL_score_22 5 rfl ?_
        obtain ⟨r7, hq8, hf⟩ := cal1_x hf
        refine g_callSs (As := [.ref b, .int y6]) (rest := []) (st2 := [.int r7]) (n := 2) C hs (cL_kind_ok X.1 b Ln xs y6 hq8) gL_score_L_kind rfl rfl rfl (by decide +kernel) (by decide) [] (by decide) rfl [] (Wr := []) (by decide) rfl (by decide) [] (by decide) (Wn := fun _ => []) (fun _ => rfl) rfl rfl rfl (Nat.le_of_ble_eq_true rfl) dL_score_24 ⟨Nat.le_refl _, Nat.le_refl _⟩ (fun _ => ?_)
        refine g_istore (lv2 := [(7, .int r7), (0, .ref b), (1, .long x1), (3, .int y4), (4, .int y5), (5, .int r1), (6, .int y6)]) C dL_score_27 (by decide) rfl ?_
        refine g_iload C dL_score_29 4 rfl ?_
        obtain ⟨J93, eJ93, hf⟩ := jp_x hf
        have hJ93 : ∀ (y9 : Int32) (y10 : Int32), J93 y9 y10 = some t → G X 0 0 [] [(0, .ref b), (1, .long x1), (3, .int y9), (4, .int y10), (5, .int r1), (6, .int y6)] 93 [] := by
          intro y9 y10 hf
          have hf := app2 eJ93 hf
          refine g_iinc (v := 1) (lv2 := fun z11 => [(6, .int z11), (0, .ref b), (1, .long x1), (3, .int y9), (4, .int y10), (5, .int r1)]) C dL_score_93 5 rfl (by decide) (by decide) hf (fun _ => rfl) (fun z11 hf => ?_)
          refine g_goto C dL_score_96 (tgt := 14) (by decide) ?_
          exact g_lv [1, 2, 3, 4, 5, 0] rfl (ih14 y9 y10 z11 (app3 eR14 hf))
        refine g_if_le C dL_score_31 (tgt := 64) (by decide) hf (fun hf => ?_) (fun hf => ?_)
        · refine g_iload C dL_score_64 0 rfl ?_
          refine g_bipush (v := 6) C dL_score_66 (by decide) ?_
          refine g_icmp_ne C dL_score_68 (tgt := 77) (by decide) hf (fun hf => ?_) (fun hf => ?_)
          · refine g_iload C dL_score_77 0 rfl ?_
            refine g_iconst (v := 4) C dL_score_79 (by decide) ?_
            refine g_icmp_ge C dL_score_80 (tgt := 93) (by decide) hf (fun hf => ?_) (fun hf => ?_)
            · exact g_lv [1, 2, 3, 4, 5, 6] rfl (hJ93 y4 y5 hf)
            · refine g_iload_n C dL_score_83 rfl 3 rfl ?_
              refine g_aload_n C dL_score_84 rfl 1 rfl ?_
              refine g_iload C dL_score_85 6 rfl ?_
              refine g_lload_n C dL_score_87 rfl 2 rfl ?_
              obtain ⟨r12, hq13, hf⟩ := cal1_x hf
              refine g_callSs (As := [.ref b, .int y6, .long x1]) (rest := [.int y4]) (st2 := [.int r12, .int y4]) (n := 3) C hs (cL_value_ok X.1 b Ln xs y6 x1 hq13) gL_score_L_value rfl rfl rfl (by decide +kernel) (by decide) [] (by decide) rfl [] (Wr := []) (by decide) rfl (by decide) [] (by decide) (Wn := fun _ => []) (fun _ => rfl) rfl rfl rfl (Nat.le_of_ble_eq_true rfl) dL_score_88 ⟨Nat.le_refl _, Nat.le_refl _⟩ (fun _ => ?_)
              refine g_iadd C dL_score_91 hf (fun z14 hf => ?_)
              refine g_istore_n (lv2 := [(3, .int z14), (7, .int r7), (0, .ref b), (1, .long x1), (4, .int y5), (5, .int r1), (6, .int y6)]) C dL_score_92 rfl (by decide) rfl ?_
              exact g_lv [2, 3, 0, 4, 5, 6] rfl (hJ93 z14 y5 hf)
          · refine g_iconst (v := 1) C dL_score_71 (by decide) ?_
            refine g_istore (lv2 := [(4, .int 1), (7, .int r7), (0, .ref b), (1, .long x1), (3, .int y4), (5, .int r1), (6, .int y6)]) C dL_score_72 (by decide) rfl ?_
            refine g_goto C dL_score_74 (tgt := 93) (by decide) ?_
            exact g_lv [2, 3, 4, 0, 5, 6] rfl (hJ93 y4 1 hf)
        · refine g_iload C dL_score_34 4 rfl ?_
          refine g_iload C dL_score_36 0 rfl ?_
          refine g_iconst (v := 4) C dL_score_38 (by decide) ?_
          obtain ⟨J58, eJ58, hf⟩ := jp_x hf
          have hJ58 : ∀ (k15 : Int32), J58 k15 = some t → G X 0 0 [] [(0, .ref b), (1, .long x1), (3, .int y4), (5, .int r1), (6, .int y6)] 58 [.int k15, .int y5] := by
            intro k15 hf
            have hf := app1 eJ58 hf
            refine g_iadd C dL_score_58 hf (fun z16 hf => ?_)
            refine g_istore (lv2 := [(4, .int z16), (0, .ref b), (1, .long x1), (3, .int y4), (5, .int r1), (6, .int y6)]) C dL_score_59 (by decide) rfl ?_
            refine g_goto C dL_score_61 (tgt := 93) (by decide) ?_
            exact g_lv [1, 2, 3, 0, 4, 5] rfl (hJ93 y4 z16 hf)
          refine g_icmp_ge C dL_score_39 (tgt := 46) (by decide) hf (fun hf => ?_) (fun hf => ?_)
          · refine g_iload C dL_score_46 0 rfl ?_
            refine g_bipush (v := 6) C dL_score_48 (by decide) ?_
            refine g_icmp_ge C dL_score_50 (tgt := 57) (by decide) hf (fun hf => ?_) (fun hf => ?_)
            · refine g_iconst (v := 0) C dL_score_57 (by decide) ?_
              exact g_lv [1, 2, 3, 5, 6] rfl (hJ58 0 hf)
            · refine g_iconst (v := 1) C dL_score_53 (by decide) ?_
              refine g_goto C dL_score_54 (tgt := 58) (by decide) ?_
              exact g_lv [1, 2, 3, 5, 6] rfl (hJ58 1 hf)
          · refine g_iconst (v := (-1)) C dL_score_42 (by decide) ?_
            refine g_goto C dL_score_43 (tgt := 58) (by decide) ?_
            exact g_lv [1, 2, 3, 5, 6] rfl (hJ58 (-1) hf)
  exact g_lv [4, 5, 3, 2, 1, 0] rfl (hL14 _ 0 0 0 hf)
def fL_key (xs : Nat → Int32) (Ln : Nat) (x1 : Int32) (x2 : Int64) : Option ((Int32)) :=
  (jp (fun (k1 : Int32) => (some (k1))) (fun J14 => (if x1 = 0 then (cal1 (fL_score xs Ln x2) (fun r3 => (J14 r3))) else (bnd (Int64.toInt32 x2) (fun z2 => (J14 z2))))))
set_option maxRecDepth 100000 in
set_option maxHeartbeats 8000000 in
theorem cL_key_ok (L : XL) (b Ln : Nat) (xs : Nat → Int32)  (x1 : Int32) (x2 : Int64) {t : (Int32)} (hf : fL_key xs Ln x1 x2 = some t) : xMs L yL_key wsL_key ({ frames := 6, cells := 0, slots := 0, locals := 140 }) [.ref b, .int x1, .long x2] [] b Ln xs 0 0 (some (.int t)) (fun _ : Unit => []) := by
  refine enters_i (own := RL) (by decide) rfl rfl (Nat.le_of_ble_eq_true rfl) ?_
  intro X hXL C hs hret
  subst hXL
  unfold fL_key at hf
  show G X 0 0 [] [(0, .ref b), (1, .int x1), (2, .long x2)] 0 []
  refine g_iload_n C dL_key_0 rfl 1 rfl ?_
  obtain ⟨J14, eJ14, hf⟩ := jp_x hf
  have hJ14 : ∀ (k1 : Int32), J14 k1 = some t → G X 0 0 [] [] 14 [.int k1] := by
    intro k1 hf
    have hf := app1 eJ14 hf
    rw [← Option.some.inj hf] at hret
    exact hret () _ _ dL_key_14
  refine g_if_ne C dL_key_1 (tgt := 12) (by decide) hf (fun hf => ?_) (fun hf => ?_)
  · refine g_lload_n C dL_key_12 rfl 2 rfl ?_
    refine g_l2i C dL_key_13 hf (fun z2 hf => ?_)
    exact g_lv [] rfl (hJ14 z2 hf)
  · refine g_aload_n C dL_key_4 rfl 0 rfl ?_
    refine g_lload_n C dL_key_5 rfl 2 rfl ?_
    obtain ⟨r3, hq4, hf⟩ := cal1_x hf
    refine g_callSs (As := [.ref b, .long x2]) (rest := []) (st2 := [.int r3]) (n := 2) C hs (cL_score_ok X.1 b Ln xs x2 hq4) gL_key_L_score rfl rfl rfl (by decide +kernel) (by decide) [] (by decide) rfl [] (Wr := []) (by decide) rfl (by decide) [] (by decide) (Wn := fun _ => []) (fun _ => rfl) rfl rfl rfl (Nat.le_of_ble_eq_true rfl) dL_key_6 ⟨Nat.le_refl _, Nat.le_refl _⟩ (fun _ => ?_)
    refine g_goto C dL_key_9 (tgt := 14) (by decide) ?_
    exact g_lv [] rfl (hJ14 r3 hf)
def fL_before (x0 : Int32) (x1 : Int32) (x2 : Int32) (x3 : Int32) (x4 : Int32) : Option ((Int32)) :=
  (jp (fun (k1 : Int32) => (zok k1 (some (k1)))) (fun J47 => (if x1 = x3 then (if x4 ≤ x2 then (J47 0) else (J47 1)) else (if x0 = 1 then (if x3 ≤ x1 then (J47 0) else (J47 1)) else (if x1 ≤ x3 then (J47 0) else (J47 1))))))
set_option maxRecDepth 100000 in
set_option maxHeartbeats 8000000 in
theorem cL_before_ok (L : XL)  (x0 : Int32) (x1 : Int32) (x2 : Int32) (x3 : Int32) (x4 : Int32) {t : (Int32)} (hf : fL_before x0 x1 x2 x3 x4 = some t) : xM L yL_before wsL_before ({ frames := 0, cells := 0, slots := 0, locals := 0 }) [.int x0, .int x1, .int x2, .int x3, .int x4] [] 0 0 (some (.int t)) (fun _ : Unit => []) := by
  refine enter_z (own := RL) (by decide) rfl rfl (Nat.le_of_ble_eq_true rfl) ?_
  intro X hXL C _ hret
  subst hXL
  unfold fL_before at hf
  show G X 0 0 [] [(0, .int x0), (1, .int x1), (2, .int x2), (3, .int x3), (4, .int x4)] 0 []
  refine g_iload_n C dL_before_0 rfl 1 rfl ?_
  refine g_iload_n C dL_before_1 rfl 3 rfl ?_
  obtain ⟨J47, eJ47, hf⟩ := jp_x hf
  have hJ47 : ∀ (k1 : Int32), J47 k1 = some t → G X 0 0 [] [] 47 [.int k1] := by
    intro k1 hf
    have hf := app1 eJ47 hf
    obtain ⟨hz, hf⟩ := zok_x hf
    rw [← Option.some.inj hf] at hret
    exact hret () _ _ hz dL_before_47
  refine g_icmp_ne C dL_before_2 (tgt := 19) (by decide) hf (fun hf => ?_) (fun hf => ?_)
  · refine g_iload_n C dL_before_19 rfl 0 rfl ?_
    refine g_iconst (v := 1) C dL_before_20 (by decide) ?_
    refine g_icmp_ne C dL_before_21 (tgt := 37) (by decide) hf (fun hf => ?_) (fun hf => ?_)
    · refine g_iload_n C dL_before_37 rfl 1 rfl ?_
      refine g_iload_n C dL_before_38 rfl 3 rfl ?_
      refine g_icmp_le C dL_before_39 (tgt := 46) (by decide) hf (fun hf => ?_) (fun hf => ?_)
      · refine g_iconst (v := 0) C dL_before_46 (by decide) ?_
        exact g_lv [] rfl (hJ47 0 hf)
      · refine g_iconst (v := 1) C dL_before_42 (by decide) ?_
        refine g_goto C dL_before_43 (tgt := 47) (by decide) ?_
        exact g_lv [] rfl (hJ47 1 hf)
    · refine g_iload_n C dL_before_24 rfl 1 rfl ?_
      refine g_iload_n C dL_before_25 rfl 3 rfl ?_
      refine g_icmp_ge C dL_before_26 (tgt := 33) (by decide) hf (fun hf => ?_) (fun hf => ?_)
      · refine g_iconst (v := 0) C dL_before_33 (by decide) ?_
        refine g_goto C dL_before_34 (tgt := 47) (by decide) ?_
        exact g_lv [] rfl (hJ47 0 hf)
      · refine g_iconst (v := 1) C dL_before_29 (by decide) ?_
        refine g_goto C dL_before_30 (tgt := 47) (by decide) ?_
        exact g_lv [] rfl (hJ47 1 hf)
  · refine g_iload_n C dL_before_5 rfl 2 rfl ?_
    refine g_iload C dL_before_6 4 rfl ?_
    refine g_icmp_ge C dL_before_8 (tgt := 15) (by decide) hf (fun hf => ?_) (fun hf => ?_)
    · refine g_iconst (v := 0) C dL_before_15 (by decide) ?_
      refine g_goto C dL_before_16 (tgt := 47) (by decide) ?_
      exact g_lv [] rfl (hJ47 0 hf)
    · refine g_iconst (v := 1) C dL_before_11 (by decide) ?_
      refine g_goto C dL_before_12 (tgt := 47) (by decide) ?_
      exact g_lv [] rfl (hJ47 1 hf)
