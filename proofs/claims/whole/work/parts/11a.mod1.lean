def fX6_in (x0 : Int32) (x1 : Int32) (x2 : Int32) : Option ((Int32)) :=
  (jp (fun (k1 : Int32) => (zok k1 (some (k1)))) (fun J15 => (jp (J15 0) (fun J14 => (if x0 < x1 then J14 else (if x2 < x0 then J14 else (J15 1)))))))
set_option maxRecDepth 100000 in
set_option maxHeartbeats 8000000 in
theorem cX6_in_ok (L : XL)  (x0 : Int32) (x1 : Int32) (x2 : Int32) {t : (Int32)} (hf : fX6_in x0 x1 x2 = some t) : xM L yX6_in wsX6_in ({ frames := 0, cells := 0, slots := 0, locals := 0 }) [.int x0, .int x1, .int x2] [] 0 0 (some (.int t)) (fun _ : Unit => []) := by
  refine enter_z (own := RX6) (by decide) rfl rfl (Nat.le_of_ble_eq_true rfl) ?_
  intro X hXL C _ hret
  subst hXL
  unfold fX6_in at hf
  show G X 0 0 [] [(0, .int x0), (1, .int x1), (2, .int x2)] 0 []
  refine g_iload_n C dX6_in_0 rfl 0 rfl ?_
  refine g_iload_n C dX6_in_1 rfl 1 rfl ?_
  obtain ⟨J15, eJ15, hf⟩ := jp_x hf
  have hJ15 : ∀ (k1 : Int32), J15 k1 = some t → G X 0 0 [] [] 15 [.int k1] := by
    intro k1 hf
    have hf := app1 eJ15 hf
    obtain ⟨hz, hf⟩ := zok_x hf
    rw [← Option.some.inj hf] at hret
    exact hret () _ _ hz dX6_in_15
  obtain ⟨J14, eJ14, hf⟩ := jp_x hf
  have hJ14 : J14 = some t → G X 0 0 [] [] 14 [] := by
    intro  hf
    have hf := app0 eJ14 hf
    refine g_iconst (v := 0) C dX6_in_14 (by decide) ?_
    exact hJ15 0 hf
  refine g_icmp_lt C dX6_in_2 (tgt := 14) (by decide) hf (fun hf => ?_) (fun hf => ?_)
  · exact g_lv [] rfl (hJ14 hf)
  · refine g_iload_n C dX6_in_5 rfl 0 rfl ?_
    refine g_iload_n C dX6_in_6 rfl 2 rfl ?_
    refine g_icmp_gt C dX6_in_7 (tgt := 14) (by decide) hf (fun hf => ?_) (fun hf => ?_)
    · exact g_lv [] rfl (hJ14 hf)
    · refine g_iconst (v := 1) C dX6_in_10 (by decide) ?_
      refine g_goto C dX6_in_11 (tgt := 15) (by decide) ?_
      exact g_lv [] rfl (hJ15 1 hf)
def fX6_sizeOf (x0 : Int32) : Option ((Int32)) :=
  (jp (fun (k1 : Int32) => (some (k1))) (fun J21 => (if x0 = 1 then (J21 14) else (if x0 = 2 then (J21 6) else (J21 3)))))
set_option maxRecDepth 100000 in
set_option maxHeartbeats 8000000 in
theorem cX6_sizeOf_ok (L : XL)  (x0 : Int32) {t : (Int32)} (hf : fX6_sizeOf x0 = some t) : xM L yX6_sizeOf wsX6_sizeOf ({ frames := 0, cells := 0, slots := 0, locals := 0 }) [.int x0] [] 0 0 (some (.int t)) (fun _ : Unit => []) := by
  refine enter_i (own := RX6) (by decide) rfl rfl (Nat.le_of_ble_eq_true rfl) ?_
  intro X hXL C _ hret
  subst hXL
  unfold fX6_sizeOf at hf
  show G X 0 0 [] [(0, .int x0)] 0 []
  refine g_iload_n C dX6_sizeOf_0 rfl 0 rfl ?_
  refine g_iconst (v := 1) C dX6_sizeOf_1 (by decide) ?_
  obtain ⟨J21, eJ21, hf⟩ := jp_x hf
  have hJ21 : ∀ (k1 : Int32), J21 k1 = some t → G X 0 0 [] [] 21 [.int k1] := by
    intro k1 hf
    have hf := app1 eJ21 hf
    rw [← Option.some.inj hf] at hret
    exact hret () _ _ dX6_sizeOf_21
  refine g_icmp_ne C dX6_sizeOf_2 (tgt := 10) (by decide) hf (fun hf => ?_) (fun hf => ?_)
  · refine g_iload_n C dX6_sizeOf_10 rfl 0 rfl ?_
    refine g_iconst (v := 2) C dX6_sizeOf_11 (by decide) ?_
    refine g_icmp_ne C dX6_sizeOf_12 (tgt := 20) (by decide) hf (fun hf => ?_) (fun hf => ?_)
    · refine g_iconst (v := 3) C dX6_sizeOf_20 (by decide) ?_
      exact g_lv [] rfl (hJ21 3 hf)
    · refine g_bipush (v := 6) C dX6_sizeOf_15 (by decide) ?_
      refine g_goto C dX6_sizeOf_17 (tgt := 21) (by decide) ?_
      exact g_lv [] rfl (hJ21 6 hf)
  · refine g_bipush (v := 14) C dX6_sizeOf_5 (by decide) ?_
    refine g_goto C dX6_sizeOf_7 (tgt := 21) (by decide) ?_
    exact g_lv [] rfl (hJ21 14 hf)
def fX6_current (v_generations : Int32) : Option ((Int32)) :=
  (bnd (v_generations - 1 : Int32) (fun z1 => (some (z1))))
theorem inX6_current_6 : ∀ w ∈ wsX60, w ∈ wsX6_current := fun _ h => List.mem_cons_of_mem _ (List.mem_append_right _ h)
set_option maxRecDepth 100000 in
set_option maxHeartbeats 8000000 in
theorem cX6_current_ok (L : XL) (a_this a_kinds a_seqs a_versions a_oldKinds a_oldSeqs a_oldVersions a_seenSeqs a_sources a_oldSources a_seenSources a_done a_bytes a_lengths a_greatest a_tKind a_tA a_tB a_points a_holds : Nat) (v_checkpoint : Int32) (v_max : Int32) (v_persisted : Int32) (v_oldCheckpoint : Int32) (v_oldMax : Int32) (v_down : Int32) (v_oldest : Int32) (v_generations : Int32) (v_synced : Int32) (v_rKind : Int32) (v_rSeq : Int32) (v_rId : Int32) (v_rVersion : Int32) (v_rEnd : Int32) (v_rSource : Int64) (v_tokens : Int32) (v_visible : Int32)  {t : (Int32)} (hf : fX6_current v_generations = some t) : xM L yX6_current wsX6_current ({ frames := 0, cells := 0, slots := 0, locals := 0 }) [.ref a_this] [(a_this, .inr (6, [.ref a_kinds, .ref a_seqs, .ref a_versions, .ref a_oldKinds, .ref a_oldSeqs, .ref a_oldVersions, .ref a_seenSeqs, .ref a_sources, .ref a_oldSources, .ref a_seenSources, .ref a_done, .int v_checkpoint, .int v_max, .int v_persisted, .int v_oldCheckpoint, .int v_oldMax, .int v_down, .ref a_bytes, .ref a_lengths, .ref a_greatest, .int v_oldest, .int v_generations, .int v_synced, .int v_rKind, .int v_rSeq, .int v_rId, .int v_rVersion, .int v_rEnd, .long v_rSource, .ref a_tKind, .ref a_tA, .ref a_tB, .ref a_points, .ref a_holds, .int v_tokens, .int v_visible]))] 0 0 (some (.int t)) (fun _ : Unit => [(a_this, .inr (6, [.ref a_kinds, .ref a_seqs, .ref a_versions, .ref a_oldKinds, .ref a_oldSeqs, .ref a_oldVersions, .ref a_seenSeqs, .ref a_sources, .ref a_oldSources, .ref a_seenSources, .ref a_done, .int v_checkpoint, .int v_max, .int v_persisted, .int v_oldCheckpoint, .int v_oldMax, .int v_down, .ref a_bytes, .ref a_lengths, .ref a_greatest, .int v_oldest, .int v_generations, .int v_synced, .int v_rKind, .int v_rSeq, .int v_rId, .int v_rVersion, .int v_rEnd, .long v_rSource, .ref a_tKind, .ref a_tA, .ref a_tB, .ref a_points, .ref a_holds, .int v_tokens, .int v_visible]))]) := by
  refine enter_i (own := RX6) (by decide) rfl rfl (Nat.le_of_ble_eq_true rfl) ?_
  intro X hXL C _ hret
  subst hXL
  unfold fX6_current at hf
  show G X 0 0 [(a_this, .inr (6, [.ref a_kinds, .ref a_seqs, .ref a_versions, .ref a_oldKinds, .ref a_oldSeqs, .ref a_oldVersions, .ref a_seenSeqs, .ref a_sources, .ref a_oldSources, .ref a_seenSources, .ref a_done, .int v_checkpoint, .int v_max, .int v_persisted, .int v_oldCheckpoint, .int v_oldMax, .int v_down, .ref a_bytes, .ref a_lengths, .ref a_greatest, .int v_oldest, .int v_generations, .int v_synced, .int v_rKind, .int v_rSeq, .int v_rId, .int v_rVersion, .int v_rEnd, .long v_rSource, .ref a_tKind, .ref a_tA, .ref a_tB, .ref a_points, .ref a_holds, .int v_tokens, .int v_visible]))] [(0, .ref a_this)] 0 []
  refine g_aload_n C dX6_current_0 rfl 0 rfl ?_
  refine g_get C inX6_current_6 0 rfl rfl 21 (by decide) (List.mem_of_getElem? (i := 1) rfl) rfl rfl dX6_current_1 ?_
  refine g_iconst (v := 1) C dX6_current_4 (by decide) ?_
  refine g_isub C dX6_current_5 hf (fun z1 hf => ?_)
  rw [← Option.some.inj hf] at hret
  exact hret () _ _ dX6_current_6
def fX6_fits (v_lengths : Nat → Int32) (v_generations : Int32) (x0 : Int32) (x1 : Int32) : Option ((Int32)) :=
  (bnd (v_generations - 1 : Int32) (fun z1 => (rdI v_lengths 4 z1 (fun z2 => (cal1 (fX6_sizeOf x0) (fun r3 => (bnd (r3 + 5 : Int32) (fun z5 => (bnd (x1 * z5 : Int32) (fun z6 => (bnd (z2 + z6 : Int32) (fun z7 => (jp (fun (k8 : Int32) => (zok k8 (some (k8)))) (fun J31 => (if 240 < z7 then (J31 0) else (J31 1))))))))))))))))
theorem inX6_fits_6 : ∀ w ∈ wsX60, w ∈ wsX6_fits := fun _ h => List.mem_cons_of_mem _ (List.mem_append_right _ h)
set_option maxRecDepth 100000 in
set_option maxHeartbeats 8000000 in
theorem cX6_fits_ok (L : XL) (a_this a_kinds a_seqs a_versions a_oldKinds a_oldSeqs a_oldVersions a_seenSeqs a_sources a_oldSources a_seenSources a_done a_bytes a_lengths a_greatest a_tKind a_tA a_tB a_points a_holds : Nat) (v_checkpoint : Int32) (v_max : Int32) (v_persisted : Int32) (v_oldCheckpoint : Int32) (v_oldMax : Int32) (v_down : Int32) (v_lengths : Nat → Int32) (v_oldest : Int32) (v_generations : Int32) (v_synced : Int32) (v_rKind : Int32) (v_rSeq : Int32) (v_rId : Int32) (v_rVersion : Int32) (v_rEnd : Int32) (v_rSource : Int64) (v_tokens : Int32) (v_visible : Int32) (x0 : Int32) (x1 : Int32) {t : (Int32)} (hf : fX6_fits v_lengths v_generations x0 x1 = some t) : xM L yX6_fits wsX6_fits ({ frames := 1, cells := 0, slots := 0, locals := 20 }) [.ref a_this, .int x0, .int x1] [(a_this, .inr (6, [.ref a_kinds, .ref a_seqs, .ref a_versions, .ref a_oldKinds, .ref a_oldSeqs, .ref a_oldVersions, .ref a_seenSeqs, .ref a_sources, .ref a_oldSources, .ref a_seenSources, .ref a_done, .int v_checkpoint, .int v_max, .int v_persisted, .int v_oldCheckpoint, .int v_oldMax, .int v_down, .ref a_bytes, .ref a_lengths, .ref a_greatest, .int v_oldest, .int v_generations, .int v_synced, .int v_rKind, .int v_rSeq, .int v_rId, .int v_rVersion, .int v_rEnd, .long v_rSource, .ref a_tKind, .ref a_tA, .ref a_tB, .ref a_points, .ref a_holds, .int v_tokens, .int v_visible])), (a_lengths, .inl (L.2.2.1, 4, .inl v_lengths))] 0 0 (some (.int t)) (fun _ : Unit => [(a_this, .inr (6, [.ref a_kinds, .ref a_seqs, .ref a_versions, .ref a_oldKinds, .ref a_oldSeqs, .ref a_oldVersions, .ref a_seenSeqs, .ref a_sources, .ref a_oldSources, .ref a_seenSources, .ref a_done, .int v_checkpoint, .int v_max, .int v_persisted, .int v_oldCheckpoint, .int v_oldMax, .int v_down, .ref a_bytes, .ref a_lengths, .ref a_greatest, .int v_oldest, .int v_generations, .int v_synced, .int v_rKind, .int v_rSeq, .int v_rId, .int v_rVersion, .int v_rEnd, .long v_rSource, .ref a_tKind, .ref a_tA, .ref a_tB, .ref a_points, .ref a_holds, .int v_tokens, .int v_visible])), (a_lengths, .inl (L.2.2.1, 4, .inl v_lengths))]) := by
  refine enter_z (own := RX6) (by decide) rfl rfl (Nat.le_of_ble_eq_true rfl) ?_
  intro X hXL C _ hret
  subst hXL
  unfold fX6_fits at hf
  show G X 0 0 [(a_this, .inr (6, [.ref a_kinds, .ref a_seqs, .ref a_versions, .ref a_oldKinds, .ref a_oldSeqs, .ref a_oldVersions, .ref a_seenSeqs, .ref a_sources, .ref a_oldSources, .ref a_seenSources, .ref a_done, .int v_checkpoint, .int v_max, .int v_persisted, .int v_oldCheckpoint, .int v_oldMax, .int v_down, .ref a_bytes, .ref a_lengths, .ref a_greatest, .int v_oldest, .int v_generations, .int v_synced, .int v_rKind, .int v_rSeq, .int v_rId, .int v_rVersion, .int v_rEnd, .long v_rSource, .ref a_tKind, .ref a_tA, .ref a_tB, .ref a_points, .ref a_holds, .int v_tokens, .int v_visible])), (a_lengths, .inl (X.1.2.2.1, 4, .inl v_lengths))] [(0, .ref a_this), (1, .int x0), (2, .int x1)] 0 []
  refine g_aload_n C dX6_fits_0 rfl 0 rfl ?_
  refine g_get C inX6_fits_6 0 rfl rfl 18 (by decide) (List.mem_of_getElem? (i := 1) rfl) rfl rfl dX6_fits_1 ?_
  refine g_aload_n C dX6_fits_4 rfl 0 rfl ?_
  refine g_get C inX6_fits_6 0 rfl rfl 21 (by decide) (List.mem_of_getElem? (i := 2) rfl) rfl rfl dX6_fits_5 ?_
  refine g_iconst (v := 1) C dX6_fits_8 (by decide) ?_
  refine g_isub C dX6_fits_9 hf (fun z1 hf => ?_)
  refine g_iaload C 1 rfl dX6_fits_10 hf (fun z2 hf => ?_)
  refine g_iload_n C dX6_fits_11 rfl 2 rfl ?_
  refine g_iload_n C dX6_fits_12 rfl 1 rfl ?_
  obtain ⟨r3, hq4, hf⟩ := cal1_x hf
  refine g_callS (As := [.int x0]) (rest := [.int x1, .int z2]) (st2 := [.int r3, .int x1, .int z2]) (n := 1) C (cX6_sizeOf_ok X.1 x0 hq4) gX6_fits_X6_sizeOf rfl rfl rfl (by decide +kernel) (by decide) [] (by decide) rfl [0, 1] (Wr := [(a_this, .inr (6, [.ref a_kinds, .ref a_seqs, .ref a_versions, .ref a_oldKinds, .ref a_oldSeqs, .ref a_oldVersions, .ref a_seenSeqs, .ref a_sources, .ref a_oldSources, .ref a_seenSources, .ref a_done, .int v_checkpoint, .int v_max, .int v_persisted, .int v_oldCheckpoint, .int v_oldMax, .int v_down, .ref a_bytes, .ref a_lengths, .ref a_greatest, .int v_oldest, .int v_generations, .int v_synced, .int v_rKind, .int v_rSeq, .int v_rId, .int v_rVersion, .int v_rEnd, .long v_rSource, .ref a_tKind, .ref a_tA, .ref a_tB, .ref a_points, .ref a_holds, .int v_tokens, .int v_visible])), (a_lengths, .inl (X.1.2.2.1, 4, .inl v_lengths))]) (by decide) rfl (by decide) [0, 1] (by decide) (Wn := fun _ => [(a_this, .inr (6, [.ref a_kinds, .ref a_seqs, .ref a_versions, .ref a_oldKinds, .ref a_oldSeqs, .ref a_oldVersions, .ref a_seenSeqs, .ref a_sources, .ref a_oldSources, .ref a_seenSources, .ref a_done, .int v_checkpoint, .int v_max, .int v_persisted, .int v_oldCheckpoint, .int v_oldMax, .int v_down, .ref a_bytes, .ref a_lengths, .ref a_greatest, .int v_oldest, .int v_generations, .int v_synced, .int v_rKind, .int v_rSeq, .int v_rId, .int v_rVersion, .int v_rEnd, .long v_rSource, .ref a_tKind, .ref a_tA, .ref a_tB, .ref a_points, .ref a_holds, .int v_tokens, .int v_visible])), (a_lengths, .inl (X.1.2.2.1, 4, .inl v_lengths))]) (fun _ => rfl) rfl rfl rfl (Nat.le_of_ble_eq_true rfl) dX6_fits_13 ⟨Nat.le_refl _, Nat.le_refl _⟩ (fun _ => ?_)
  refine g_iconst (v := 5) C dX6_fits_16 (by decide) ?_
  refine g_iadd C dX6_fits_17 hf (fun z5 hf => ?_)
  refine g_imul C dX6_fits_18 hf (fun z6 hf => ?_)
  refine g_iadd C dX6_fits_19 hf (fun z7 hf => ?_)
  refine g_sipush (v := 240) C dX6_fits_20 (by decide) ?_
  obtain ⟨J31, eJ31, hf⟩ := jp_x hf
  have hJ31 : ∀ (k8 : Int32), J31 k8 = some t → G X 0 0 [(a_this, .inr (6, [.ref a_kinds, .ref a_seqs, .ref a_versions, .ref a_oldKinds, .ref a_oldSeqs, .ref a_oldVersions, .ref a_seenSeqs, .ref a_sources, .ref a_oldSources, .ref a_seenSources, .ref a_done, .int v_checkpoint, .int v_max, .int v_persisted, .int v_oldCheckpoint, .int v_oldMax, .int v_down, .ref a_bytes, .ref a_lengths, .ref a_greatest, .int v_oldest, .int v_generations, .int v_synced, .int v_rKind, .int v_rSeq, .int v_rId, .int v_rVersion, .int v_rEnd, .long v_rSource, .ref a_tKind, .ref a_tA, .ref a_tB, .ref a_points, .ref a_holds, .int v_tokens, .int v_visible])), (a_lengths, .inl (X.1.2.2.1, 4, .inl v_lengths))] [] 31 [.int k8] := by
    intro k8 hf
    have hf := app1 eJ31 hf
    obtain ⟨hz, hf⟩ := zok_x hf
    rw [← Option.some.inj hf] at hret
    exact hret () _ _ hz dX6_fits_31
  refine g_icmp_gt C dX6_fits_23 (tgt := 30) (by decide) hf (fun hf => ?_) (fun hf => ?_)
  · refine g_iconst (v := 0) C dX6_fits_30 (by decide) ?_
    exact g_lv [] rfl (hJ31 0 hf)
  · refine g_iconst (v := 1) C dX6_fits_26 (by decide) ?_
    refine g_goto C dX6_fits_27 (tgt := 31) (by decide) ?_
    exact g_lv [] rfl (hJ31 1 hf)
def sX6_sum_26 (J59 : (Int32) → Option ((Int32))) (R26 : (Int32) → (Int32) → Option ((Int32))) (y10 : Int32) (y11 : Int32) : Option ((Int32)) :=
  (if 8 ≤ y11 then (J59 y10) else (bnd (y10 &&& 1 : Int32) (fun z12 => (jp (fun (k13 : Int32) => (bnd (y11 + 1) (fun z14 => (R26 k13 z14)))) (fun J52 => (if z12 = 1 then (bnd ((Int32.toUInt32 y10 >>> (Int32.toUInt32 1 &&& Int32.toUInt32 31)).toInt32 : Int32) (fun z16 => (bnd (z16 ^^^ (-306674912) : Int32) (fun z17 => (J52 z17))))) else (bnd ((Int32.toUInt32 y10 >>> (Int32.toUInt32 1 &&& Int32.toUInt32 31)).toInt32 : Int32) (fun z15 => (J52 z15)))))))))
def sX6_sum_5 (x0 : Int32) (x1 : Int32) (J65 : (Int32) → Option ((Int32))) (v_bytes : Nat → Int32) (R5 : (Int32) → (Int32) → Option ((Int32))) (y3 : Int32) (y4 : Int32) : Option ((Int32)) :=
  (bnd (x0 + x1 : Int32) (fun z5 => (if z5 ≤ y4 then (J65 y3) else (rdI v_bytes 960 y4 (fun z6 => (bnd (y3 ^^^ z6 : Int32) (fun z7 => (jp (fun (y8 : Int32) => (bnd (y4 + 1) (fun z9 => (R5 y8 z9)))) (fun J59 => (lo2 (sX6_sum_26 J59) 1000 z7 0))))))))))
def fX6_sum (v_bytes : Nat → Int32) (x0 : Int32) (x1 : Int32) : Option ((Int32)) :=
  (jp (fun (y1 : Int32) => (bnd (y1 ^^^ (-1) : Int32) (fun z2 => (some (z2))))) (fun J65 => (lo2 (sX6_sum_5 x0 x1 J65 v_bytes) 1000 (-1) x0)))
theorem inX6_sum_6 : ∀ w ∈ wsX60, w ∈ wsX6_sum := fun _ h => List.mem_cons_of_mem _ (List.mem_append_right _ h)
set_option maxRecDepth 100000 in
set_option maxHeartbeats 8000000 in
theorem cX6_sum_ok (L : XL) (a_this a_kinds a_seqs a_versions a_oldKinds a_oldSeqs a_oldVersions a_seenSeqs a_sources a_oldSources a_seenSources a_done a_bytes a_lengths a_greatest a_tKind a_tA a_tB a_points a_holds : Nat) (v_checkpoint : Int32) (v_max : Int32) (v_persisted : Int32) (v_oldCheckpoint : Int32) (v_oldMax : Int32) (v_down : Int32) (v_bytes : Nat → Int32) (v_oldest : Int32) (v_generations : Int32) (v_synced : Int32) (v_rKind : Int32) (v_rSeq : Int32) (v_rId : Int32) (v_rVersion : Int32) (v_rEnd : Int32) (v_rSource : Int64) (v_tokens : Int32) (v_visible : Int32) (x0 : Int32) (x1 : Int32) {t : (Int32)} (hf : fX6_sum v_bytes x0 x1 = some t) : xM L yX6_sum wsX6_sum ({ frames := 0, cells := 0, slots := 0, locals := 0 }) [.ref a_this, .int x0, .int x1] [(a_this, .inr (6, [.ref a_kinds, .ref a_seqs, .ref a_versions, .ref a_oldKinds, .ref a_oldSeqs, .ref a_oldVersions, .ref a_seenSeqs, .ref a_sources, .ref a_oldSources, .ref a_seenSources, .ref a_done, .int v_checkpoint, .int v_max, .int v_persisted, .int v_oldCheckpoint, .int v_oldMax, .int v_down, .ref a_bytes, .ref a_lengths, .ref a_greatest, .int v_oldest, .int v_generations, .int v_synced, .int v_rKind, .int v_rSeq, .int v_rId, .int v_rVersion, .int v_rEnd, .long v_rSource, .ref a_tKind, .ref a_tA, .ref a_tB, .ref a_points, .ref a_holds, .int v_tokens, .int v_visible])), (a_bytes, .inl (L.2.2.1, 960, .inl v_bytes))] 0 0 (some (.int t)) (fun _ : Unit => [(a_this, .inr (6, [.ref a_kinds, .ref a_seqs, .ref a_versions, .ref a_oldKinds, .ref a_oldSeqs, .ref a_oldVersions, .ref a_seenSeqs, .ref a_sources, .ref a_oldSources, .ref a_seenSources, .ref a_done, .int v_checkpoint, .int v_max, .int v_persisted, .int v_oldCheckpoint, .int v_oldMax, .int v_down, .ref a_bytes, .ref a_lengths, .ref a_greatest, .int v_oldest, .int v_generations, .int v_synced, .int v_rKind, .int v_rSeq, .int v_rId, .int v_rVersion, .int v_rEnd, .long v_rSource, .ref a_tKind, .ref a_tA, .ref a_tB, .ref a_points, .ref a_holds, .int v_tokens, .int v_visible])), (a_bytes, .inl (L.2.2.1, 960, .inl v_bytes))]) := by
  refine enter_i (own := RX6) (by decide) rfl rfl (Nat.le_of_ble_eq_true rfl) ?_
  intro X hXL C _ hret
  subst hXL
  unfold fX6_sum at hf
  show G X 0 0 [(a_this, .inr (6, [.ref a_kinds, .ref a_seqs, .ref a_versions, .ref a_oldKinds, .ref a_oldSeqs, .ref a_oldVersions, .ref a_seenSeqs, .ref a_sources, .ref a_oldSources, .ref a_seenSources, .ref a_done, .int v_checkpoint, .int v_max, .int v_persisted, .int v_oldCheckpoint, .int v_oldMax, .int v_down, .ref a_bytes, .ref a_lengths, .ref a_greatest, .int v_oldest, .int v_generations, .int v_synced, .int v_rKind, .int v_rSeq, .int v_rId, .int v_rVersion, .int v_rEnd, .long v_rSource, .ref a_tKind, .ref a_tA, .ref a_tB, .ref a_points, .ref a_holds, .int v_tokens, .int v_visible])), (a_bytes, .inl (X.1.2.2.1, 960, .inl v_bytes))] [(0, .ref a_this), (1, .int x0), (2, .int x1)] 0 []
  refine g_iconst (v := (-1)) C dX6_sum_0 (by decide) ?_
  refine g_istore_n (lv2 := [(3, .int (-1)), (0, .ref a_this), (1, .int x0), (2, .int x1)]) C dX6_sum_1 rfl (by decide) rfl ?_
  refine g_iload_n C dX6_sum_2 rfl 2 rfl ?_
  refine g_istore (lv2 := [(4, .int x0), (3, .int (-1)), (0, .ref a_this), (1, .int x0), (2, .int x1)]) C dX6_sum_3 (by decide) rfl ?_
  obtain ⟨J65, eJ65, hf⟩ := jp_x hf
  have hJ65 : ∀ (y1 : Int32), J65 y1 = some t → G X 0 0 [(a_this, .inr (6, [.ref a_kinds, .ref a_seqs, .ref a_versions, .ref a_oldKinds, .ref a_oldSeqs, .ref a_oldVersions, .ref a_seenSeqs, .ref a_sources, .ref a_oldSources, .ref a_seenSources, .ref a_done, .int v_checkpoint, .int v_max, .int v_persisted, .int v_oldCheckpoint, .int v_oldMax, .int v_down, .ref a_bytes, .ref a_lengths, .ref a_greatest, .int v_oldest, .int v_generations, .int v_synced, .int v_rKind, .int v_rSeq, .int v_rId, .int v_rVersion, .int v_rEnd, .long v_rSource, .ref a_tKind, .ref a_tA, .ref a_tB, .ref a_points, .ref a_holds, .int v_tokens, .int v_visible])), (a_bytes, .inl (X.1.2.2.1, 960, .inl v_bytes))] [(3, .int y1)] 65 [] := by
    intro y1 hf
    have hf := app1 eJ65 hf
    refine g_iload_n C dX6_sum_65 rfl 0 rfl ?_
    refine g_iconst (v := (-1)) C dX6_sum_66 (by decide) ?_
    refine g_ixor C dX6_sum_67 hf (fun z2 hf => ?_)
    rw [← Option.some.inj hf] at hret
    exact hret () _ _ dX6_sum_68
  have hL5 : ∀ (n : Nat) (y3 : Int32) (y4 : Int32), lo2 (sX6_sum_5 x0 x1 J65 v_bytes) n y3 y4 = some t → G X 0 0 [(a_this, .inr (6, [.ref a_kinds, .ref a_seqs, .ref a_versions, .ref a_oldKinds, .ref a_oldSeqs, .ref a_oldVersions, .ref a_seenSeqs, .ref a_sources, .ref a_oldSources, .ref a_seenSources, .ref a_done, .int v_checkpoint, .int v_max, .int v_persisted, .int v_oldCheckpoint, .int v_oldMax, .int v_down, .ref a_bytes, .ref a_lengths, .ref a_greatest, .int v_oldest, .int v_generations, .int v_synced, .int v_rKind, .int v_rSeq, .int v_rId, .int v_rVersion, .int v_rEnd, .long v_rSource, .ref a_tKind, .ref a_tA, .ref a_tB, .ref a_points, .ref a_holds, .int v_tokens, .int v_visible])), (a_bytes, .inl (X.1.2.2.1, 960, .inl v_bytes))] [(0, .ref a_this), (1, .int x0), (2, .int x1), (3, .int y3), (4, .int y4)] 5 [] := by
    intro n
    induction n with
    | zero => intro y3 y4 hf; exact (lo2_z hf).elim
    | succ n ih5 =>
      intro y3 y4 hf
      obtain ⟨R5, eR5, hf⟩ := lo2_x hf
      unfold sX6_sum_5 at hf
      refine g_iload C dX6_sum_5 4 rfl ?_
      refine g_iload_n C dX6_sum_7 rfl 1 rfl ?_
      refine g_iload_n C dX6_sum_8 rfl 2 rfl ?_
      refine g_iadd C dX6_sum_9 hf (fun z5 hf => ?_)
      refine g_icmp_ge C dX6_sum_10 (tgt := 65) (by decide) hf (fun hf => ?_) (fun hf => ?_)
      · exact g_lv [3] rfl (hJ65 y3 hf)
      · refine g_iload_n C dX6_sum_13 rfl 3 rfl ?_
        refine g_aload_n C dX6_sum_14 rfl 0 rfl ?_
        refine g_get C inX6_sum_6 0 rfl rfl 17 (by decide) (List.mem_of_getElem? (i := 1) rfl) rfl rfl dX6_sum_15 ?_
        refine g_iload C dX6_sum_18 4 rfl ?_
        refine g_iaload C 1 rfl dX6_sum_20 hf (fun z6 hf => ?_)
        refine g_ixor C dX6_sum_21 hf (fun z7 hf => ?_)
        refine g_istore_n (lv2 := [(3, .int z7), (0, .ref a_this), (1, .int x0), (2, .int x1), (4, .int y4)]) C dX6_sum_22 rfl (by decide) rfl ?_
        refine g_iconst (v := 0) C dX6_sum_23 (by decide) ?_
        refine g_istore (lv2 := [(5, .int 0), (3, .int z7), (0, .ref a_this), (1, .int x0), (2, .int x1), (4, .int y4)]) C dX6_sum_24 (by decide) rfl ?_
        obtain ⟨J59, eJ59, hf⟩ := jp_x hf
        have hJ59 : ∀ (y8 : Int32), J59 y8 = some t → G X 0 0 [(a_this, .inr (6, [.ref a_kinds, .ref a_seqs, .ref a_versions, .ref a_oldKinds, .ref a_oldSeqs, .ref a_oldVersions, .ref a_seenSeqs, .ref a_sources, .ref a_oldSources, .ref a_seenSources, .ref a_done, .int v_checkpoint, .int v_max, .int v_persisted, .int v_oldCheckpoint, .int v_oldMax, .int v_down, .ref a_bytes, .ref a_lengths, .ref a_greatest, .int v_oldest, .int v_generations, .int v_synced, .int v_rKind, .int v_rSeq, .int v_rId, .int v_rVersion, .int v_rEnd, .long v_rSource, .ref a_tKind, .ref a_tA, .ref a_tB, .ref a_points, .ref a_holds, .int v_tokens, .int v_visible])), (a_bytes, .inl (X.1.2.2.1, 960, .inl v_bytes))] [(0, .ref a_this), (1, .int x0), (2, .int x1), (3, .int y8), (4, .int y4)] 59 [] := by
          intro y8 hf
          have hf := app1 eJ59 hf
          refine g_iinc (v := 1) (lv2 := fun z9 => [(4, .int z9), (0, .ref a_this), (1, .int x0), (2, .int x1), (3, .int y8)]) C dX6_sum_59 4 rfl (by decide) (by decide) hf (fun _ => rfl) (fun z9 hf => ?_)
          refine g_goto C dX6_sum_62 (tgt := 5) (by decide) ?_
          exact g_lv [1, 2, 3, 4, 0] rfl (ih5 y8 z9 (app2 eR5 hf))
        have hL26 : ∀ (n : Nat) (y10 : Int32) (y11 : Int32), lo2 (sX6_sum_26 J59) n y10 y11 = some t → G X 0 0 [(a_this, .inr (6, [.ref a_kinds, .ref a_seqs, .ref a_versions, .ref a_oldKinds, .ref a_oldSeqs, .ref a_oldVersions, .ref a_seenSeqs, .ref a_sources, .ref a_oldSources, .ref a_seenSources, .ref a_done, .int v_checkpoint, .int v_max, .int v_persisted, .int v_oldCheckpoint, .int v_oldMax, .int v_down, .ref a_bytes, .ref a_lengths, .ref a_greatest, .int v_oldest, .int v_generations, .int v_synced, .int v_rKind, .int v_rSeq, .int v_rId, .int v_rVersion, .int v_rEnd, .long v_rSource, .ref a_tKind, .ref a_tA, .ref a_tB, .ref a_points, .ref a_holds, .int v_tokens, .int v_visible])), (a_bytes, .inl (X.1.2.2.1, 960, .inl v_bytes))] [(0, .ref a_this), (1, .int x0), (2, .int x1), (3, .int y10), (4, .int y4), (5, .int y11)] 26 [] := by
          intro n
          induction n with
          | zero => intro y10 y11 hf; exact (lo2_z hf).elim
          | succ n ih26 =>
            intro y10 y11 hf
            obtain ⟨R26, eR26, hf⟩ := lo2_x hf
            unfold sX6_sum_26 at hf
            refine g_iload C dX6_sum_26 5 rfl ?_
            refine g_bipush (v := 8) C dX6_sum_28 (by decide) ?_
            refine g_icmp_ge C dX6_sum_30 (tgt := 59) (by decide) hf (fun hf => ?_) (fun hf => ?_)
            · exact g_lv [0, 1, 2, 3, 4] rfl (hJ59 y10 hf)
            · refine g_iload_n C dX6_sum_33 rfl 3 rfl ?_
              refine g_iconst (v := 1) C dX6_sum_34 (by decide) ?_
              refine g_iand C dX6_sum_35 hf (fun z12 hf => ?_)
              refine g_iconst (v := 1) C dX6_sum_36 (by decide) ?_
              obtain ⟨J52, eJ52, hf⟩ := jp_x hf
              have hJ52 : ∀ (k13 : Int32), J52 k13 = some t → G X 0 0 [(a_this, .inr (6, [.ref a_kinds, .ref a_seqs, .ref a_versions, .ref a_oldKinds, .ref a_oldSeqs, .ref a_oldVersions, .ref a_seenSeqs, .ref a_sources, .ref a_oldSources, .ref a_seenSources, .ref a_done, .int v_checkpoint, .int v_max, .int v_persisted, .int v_oldCheckpoint, .int v_oldMax, .int v_down, .ref a_bytes, .ref a_lengths, .ref a_greatest, .int v_oldest, .int v_generations, .int v_synced, .int v_rKind, .int v_rSeq, .int v_rId, .int v_rVersion, .int v_rEnd, .long v_rSource, .ref a_tKind, .ref a_tA, .ref a_tB, .ref a_points, .ref a_holds, .int v_tokens, .int v_visible])), (a_bytes, .inl (X.1.2.2.1, 960, .inl v_bytes))] [(0, .ref a_this), (1, .int x0), (2, .int x1), (4, .int y4), (5, .int y11)] 52 [.int k13] := by
                intro k13 hf
                have hf := app1 eJ52 hf
                refine g_istore_n (lv2 := [(3, .int k13), (0, .ref a_this), (1, .int x0), (2, .int x1), (4, .int y4), (5, .int y11)]) C dX6_sum_52 rfl (by decide) rfl ?_
                refine g_iinc (v := 1) (lv2 := fun z14 => [(5, .int z14), (3, .int k13), (0, .ref a_this), (1, .int x0), (2, .int x1), (4, .int y4)]) C dX6_sum_53 5 rfl (by decide) (by decide) hf (fun _ => rfl) (fun z14 hf => ?_)
                refine g_goto C dX6_sum_56 (tgt := 26) (by decide) ?_
                exact g_lv [2, 3, 4, 1, 5, 0] rfl (ih26 k13 z14 (app2 eR26 hf))
              refine g_icmp_ne C dX6_sum_37 (tgt := 49) (by decide) hf (fun hf => ?_) (fun hf => ?_)
              · refine g_iload_n C dX6_sum_49 rfl 3 rfl ?_
                refine g_iconst (v := 1) C dX6_sum_50 (by decide) ?_
                refine g_iushr C dX6_sum_51 hf (fun z15 hf => ?_)
                exact g_lv [0, 1, 2, 4, 5] rfl (hJ52 z15 hf)
              · refine g_iload_n C dX6_sum_40 rfl 3 rfl ?_
                refine g_iconst (v := 1) C dX6_sum_41 (by decide) ?_
                refine g_iushr C dX6_sum_42 hf (fun z16 hf => ?_)
                refine g_ldc (v := (-306674912)) C dX6_sum_43 (List.mem_of_getElem? (i := 2) rfl) ?_
                refine g_ixor C dX6_sum_45 hf (fun z17 hf => ?_)
                refine g_goto C dX6_sum_46 (tgt := 52) (by decide) ?_
                exact g_lv [0, 1, 2, 4, 5] rfl (hJ52 z17 hf)
        exact g_lv [2, 3, 4, 1, 5, 0] rfl (hL26 _ z7 0 hf)
  exact g_lv [2, 3, 4, 1, 0] rfl (hL5 _ (-1) x0 hf)
def sX6_put_9 (x1 : Int32) (J63 : (Nat → Int32) → (Nat → Int32) → Option ((Nat → Int32) × (Nat → Int32))) (r1 : Int32) (x0 : Int64) (R9 : (Int32) → (Nat → Int32) → (Nat → Int32) → Option ((Nat → Int32) × (Nat → Int32))) (y5 : Int32) (w6 : Nat → Int32) (w7 : Nat → Int32) : Option ((Nat → Int32) × (Nat → Int32)) :=
  (if x1 ≤ y5 then (J63 w6 w7) else (bnd (240 * r1 : Int32) (fun z8 => (rdI w7 4 r1 (fun z9 => (bnd (z8 + z9 : Int32) (fun z10 => (bnd (8 * y5 : Int32) (fun z11 => (bnd (x0 >>> (Int32.toInt64 z11 &&& 63) : Int64) (fun z12 => (bnd (Int64.toInt32 z12) (fun z13 => (bnd (z13 &&& 255 : Int32) (fun z14 => (wrI w6 960 z10 z14 (fun g15 => (rdI w7 4 r1 (fun z16 => (bnd (z16 + 1 : Int32) (fun z17 => (wrI w7 4 r1 z17 (fun g18 => (bnd (y5 + 1) (fun z19 => (R9 z19 g15 g18))))))))))))))))))))))))))
def fX6_put (v_bytes : Nat → Int32) (v_lengths : Nat → Int32) (v_generations : Int32) (x0 : Int64) (x1 : Int32) : Option ((Nat → Int32) × (Nat → Int32)) :=
  (cal1 (fX6_current v_generations) (fun r1 => (jp (fun (w3 : Nat → Int32) (w4 : Nat → Int32) => (some (w3, w4))) (fun J63 => (lo3 (sX6_put_9 x1 J63 r1 x0) 1000 0 v_bytes v_lengths)))))
theorem inX6_put_6 : ∀ w ∈ wsX60, w ∈ wsX6_put := fun _ h => List.mem_cons_of_mem _ (List.mem_append_right _ h)
set_option maxRecDepth 100000 in
set_option maxHeartbeats 8000000 in
theorem cX6_put_ok (L : XL) (a_this a_kinds a_seqs a_versions a_oldKinds a_oldSeqs a_oldVersions a_seenSeqs a_sources a_oldSources a_seenSources a_done a_bytes a_lengths a_greatest a_tKind a_tA a_tB a_points a_holds : Nat) (v_checkpoint : Int32) (v_max : Int32) (v_persisted : Int32) (v_oldCheckpoint : Int32) (v_oldMax : Int32) (v_down : Int32) (v_bytes : Nat → Int32) (v_lengths : Nat → Int32) (v_oldest : Int32) (v_generations : Int32) (v_synced : Int32) (v_rKind : Int32) (v_rSeq : Int32) (v_rId : Int32) (v_rVersion : Int32) (v_rEnd : Int32) (v_rSource : Int64) (v_tokens : Int32) (v_visible : Int32) (x0 : Int64) (x1 : Int32) {t : (Nat → Int32) × (Nat → Int32)} (hf : fX6_put v_bytes v_lengths v_generations x0 x1 = some t) : xM L yX6_put wsX6_put ({ frames := 1, cells := 0, slots := 0, locals := 20 }) [.ref a_this, .long x0, .int x1] [(a_this, .inr (6, [.ref a_kinds, .ref a_seqs, .ref a_versions, .ref a_oldKinds, .ref a_oldSeqs, .ref a_oldVersions, .ref a_seenSeqs, .ref a_sources, .ref a_oldSources, .ref a_seenSources, .ref a_done, .int v_checkpoint, .int v_max, .int v_persisted, .int v_oldCheckpoint, .int v_oldMax, .int v_down, .ref a_bytes, .ref a_lengths, .ref a_greatest, .int v_oldest, .int v_generations, .int v_synced, .int v_rKind, .int v_rSeq, .int v_rId, .int v_rVersion, .int v_rEnd, .long v_rSource, .ref a_tKind, .ref a_tA, .ref a_tB, .ref a_points, .ref a_holds, .int v_tokens, .int v_visible])), (a_bytes, .inl (L.2.2.1, 960, .inl v_bytes)), (a_lengths, .inl (L.2.2.1, 4, .inl v_lengths))] 0 0 none (fun _ : Unit => [(a_this, .inr (6, [.ref a_kinds, .ref a_seqs, .ref a_versions, .ref a_oldKinds, .ref a_oldSeqs, .ref a_oldVersions, .ref a_seenSeqs, .ref a_sources, .ref a_oldSources, .ref a_seenSources, .ref a_done, .int v_checkpoint, .int v_max, .int v_persisted, .int v_oldCheckpoint, .int v_oldMax, .int v_down, .ref a_bytes, .ref a_lengths, .ref a_greatest, .int v_oldest, .int v_generations, .int v_synced, .int v_rKind, .int v_rSeq, .int v_rId, .int v_rVersion, .int v_rEnd, .long v_rSource, .ref a_tKind, .ref a_tA, .ref a_tB, .ref a_points, .ref a_holds, .int v_tokens, .int v_visible])), (a_bytes, .inl (L.2.2.1, 960, .inl t.1)), (a_lengths, .inl (L.2.2.1, 4, .inl t.2))]) := by
  refine enter_v (own := RX6) (by decide) rfl rfl (Nat.le_of_ble_eq_true rfl) ?_
  intro X hXL C _ hret
  subst hXL
  unfold fX6_put at hf
  show G X 0 0 [(a_this, .inr (6, [.ref a_kinds, .ref a_seqs, .ref a_versions, .ref a_oldKinds, .ref a_oldSeqs, .ref a_oldVersions, .ref a_seenSeqs, .ref a_sources, .ref a_oldSources, .ref a_seenSources, .ref a_done, .int v_checkpoint, .int v_max, .int v_persisted, .int v_oldCheckpoint, .int v_oldMax, .int v_down, .ref a_bytes, .ref a_lengths, .ref a_greatest, .int v_oldest, .int v_generations, .int v_synced, .int v_rKind, .int v_rSeq, .int v_rId, .int v_rVersion, .int v_rEnd, .long v_rSource, .ref a_tKind, .ref a_tA, .ref a_tB, .ref a_points, .ref a_holds, .int v_tokens, .int v_visible])), (a_bytes, .inl (X.1.2.2.1, 960, .inl v_bytes)), (a_lengths, .inl (X.1.2.2.1, 4, .inl v_lengths))] [(0, .ref a_this), (1, .long x0), (3, .int x1)] 0 []
  refine g_aload_n C dX6_put_0 rfl 0 rfl ?_
  obtain ⟨r1, hq2, hf⟩ := cal1_x hf
  refine g_callV (As := []) (rest := []) (st2 := [.int r1]) (n := 0) C (cX6_current_ok X.1 a_this a_kinds a_seqs a_versions a_oldKinds a_oldSeqs a_oldVersions a_seenSeqs a_sources a_oldSources a_seenSources a_done a_bytes a_lengths a_greatest a_tKind a_tA a_tB a_points a_holds v_checkpoint v_max v_persisted v_oldCheckpoint v_oldMax v_down v_oldest v_generations v_synced v_rKind v_rSeq v_rId v_rVersion v_rEnd v_rSource v_tokens v_visible hq2) gX6_put_X6_current rfl rfl rfl ⟨rfl, by decide +kernel⟩ (by decide) 0 rfl rfl rfl [0] (by decide) rfl [1, 2] (Wr := [(a_bytes, .inl (X.1.2.2.1, 960, .inl v_bytes)), (a_lengths, .inl (X.1.2.2.1, 4, .inl v_lengths))]) (by decide) rfl (by decide) [2, 0, 1] (by decide) (Wn := fun _ => [(a_this, .inr (6, [.ref a_kinds, .ref a_seqs, .ref a_versions, .ref a_oldKinds, .ref a_oldSeqs, .ref a_oldVersions, .ref a_seenSeqs, .ref a_sources, .ref a_oldSources, .ref a_seenSources, .ref a_done, .int v_checkpoint, .int v_max, .int v_persisted, .int v_oldCheckpoint, .int v_oldMax, .int v_down, .ref a_bytes, .ref a_lengths, .ref a_greatest, .int v_oldest, .int v_generations, .int v_synced, .int v_rKind, .int v_rSeq, .int v_rId, .int v_rVersion, .int v_rEnd, .long v_rSource, .ref a_tKind, .ref a_tA, .ref a_tB, .ref a_points, .ref a_holds, .int v_tokens, .int v_visible])), (a_bytes, .inl (X.1.2.2.1, 960, .inl v_bytes)), (a_lengths, .inl (X.1.2.2.1, 4, .inl v_lengths))]) (fun _ => rfl) rfl rfl rfl (Nat.le_of_ble_eq_true rfl) dX6_put_1 ⟨Nat.le_refl _, Nat.le_refl _⟩ (fun _ => ?_)
  refine g_istore (lv2 := [(4, .int r1), (0, .ref a_this), (1, .long x0), (3, .int x1)]) C dX6_put_4 (by decide) rfl ?_
  refine g_iconst (v := 0) C dX6_put_6 (by decide) ?_
  refine g_istore (lv2 := [(5, .int 0), (4, .int r1), (0, .ref a_this), (1, .long x0), (3, .int x1)]) C dX6_put_7 (by decide) rfl ?_
  obtain ⟨J63, eJ63, hf⟩ := jp_x hf
  have hJ63 : ∀ (w3 : Nat → Int32) (w4 : Nat → Int32), J63 w3 w4 = some t → G X 0 0 [(a_this, .inr (6, [.ref a_kinds, .ref a_seqs, .ref a_versions, .ref a_oldKinds, .ref a_oldSeqs, .ref a_oldVersions, .ref a_seenSeqs, .ref a_sources, .ref a_oldSources, .ref a_seenSources, .ref a_done, .int v_checkpoint, .int v_max, .int v_persisted, .int v_oldCheckpoint, .int v_oldMax, .int v_down, .ref a_bytes, .ref a_lengths, .ref a_greatest, .int v_oldest, .int v_generations, .int v_synced, .int v_rKind, .int v_rSeq, .int v_rId, .int v_rVersion, .int v_rEnd, .long v_rSource, .ref a_tKind, .ref a_tA, .ref a_tB, .ref a_points, .ref a_holds, .int v_tokens, .int v_visible])), (a_bytes, .inl (X.1.2.2.1, 960, .inl w3)), (a_lengths, .inl (X.1.2.2.1, 4, .inl w4))] [] 63 [] := by
    intro w3 w4 hf
    have hf := app2 eJ63 hf
    rw [← Option.some.inj hf] at hret
    exact hret () _ _ dX6_put_63
  have hL9 : ∀ (n : Nat) (y5 : Int32) (w6 : Nat → Int32) (w7 : Nat → Int32), lo3 (sX6_put_9 x1 J63 r1 x0) n y5 w6 w7 = some t → G X 0 0 [(a_this, .inr (6, [.ref a_kinds, .ref a_seqs, .ref a_versions, .ref a_oldKinds, .ref a_oldSeqs, .ref a_oldVersions, .ref a_seenSeqs, .ref a_sources, .ref a_oldSources, .ref a_seenSources, .ref a_done, .int v_checkpoint, .int v_max, .int v_persisted, .int v_oldCheckpoint, .int v_oldMax, .int v_down, .ref a_bytes, .ref a_lengths, .ref a_greatest, .int v_oldest, .int v_generations, .int v_synced, .int v_rKind, .int v_rSeq, .int v_rId, .int v_rVersion, .int v_rEnd, .long v_rSource, .ref a_tKind, .ref a_tA, .ref a_tB, .ref a_points, .ref a_holds, .int v_tokens, .int v_visible])), (a_bytes, .inl (X.1.2.2.1, 960, .inl w6)), (a_lengths, .inl (X.1.2.2.1, 4, .inl w7))] [(0, .ref a_this), (1, .long x0), (3, .int x1), (4, .int r1), (5, .int y5)] 9 [] := by
    intro n
    induction n with
    | zero => intro y5 w6 w7 hf; exact (lo3_z hf).elim
    | succ n ih9 =>
      intro y5 w6 w7 hf
      obtain ⟨R9, eR9, hf⟩ := lo3_x hf
      unfold sX6_put_9 at hf
      refine g_iload C dX6_put_9 4 rfl ?_
      refine g_iload_n C dX6_put_11 rfl 2 rfl ?_
      refine g_icmp_ge C dX6_put_12 (tgt := 63) (by decide) hf (fun hf => ?_) (fun hf => ?_)
      · exact g_lv [] rfl (hJ63 w6 w7 hf)
      · refine g_aload_n C dX6_put_15 rfl 0 rfl ?_
        refine g_get C inX6_put_6 0 rfl rfl 17 (by decide) (List.mem_of_getElem? (i := 1) rfl) rfl rfl dX6_put_16 ?_
        refine g_sipush (v := 240) C dX6_put_19 (by decide) ?_
        refine g_iload C dX6_put_22 3 rfl ?_
        refine g_imul C dX6_put_24 hf (fun z8 hf => ?_)
        refine g_aload_n C dX6_put_25 rfl 0 rfl ?_
        refine g_get C inX6_put_6 0 rfl rfl 18 (by decide) (List.mem_of_getElem? (i := 2) rfl) rfl rfl dX6_put_26 ?_
        refine g_iload C dX6_put_29 3 rfl ?_
        refine g_iaload C 2 rfl dX6_put_31 hf (fun z9 hf => ?_)
        refine g_iadd C dX6_put_32 hf (fun z10 hf => ?_)
        refine g_lload_n C dX6_put_33 rfl 1 rfl ?_
        refine g_bipush (v := 8) C dX6_put_34 (by decide) ?_
        refine g_iload C dX6_put_36 4 rfl ?_
        refine g_imul C dX6_put_38 hf (fun z11 hf => ?_)
        refine g_lshr C dX6_put_39 hf (fun z12 hf => ?_)
        refine g_l2i C dX6_put_40 hf (fun z13 hf => ?_)
        refine g_sipush (v := 255) C dX6_put_41 (by decide) ?_
        refine g_iand C dX6_put_44 hf (fun z14 hf => ?_)
        refine g_iastore (Wd2 := fun g15 => [(a_this, .inr (6, [.ref a_kinds, .ref a_seqs, .ref a_versions, .ref a_oldKinds, .ref a_oldSeqs, .ref a_oldVersions, .ref a_seenSeqs, .ref a_sources, .ref a_oldSources, .ref a_seenSources, .ref a_done, .int v_checkpoint, .int v_max, .int v_persisted, .int v_oldCheckpoint, .int v_oldMax, .int v_down, .ref a_bytes, .ref a_lengths, .ref a_greatest, .int v_oldest, .int v_generations, .int v_synced, .int v_rKind, .int v_rSeq, .int v_rId, .int v_rVersion, .int v_rEnd, .long v_rSource, .ref a_tKind, .ref a_tA, .ref a_tB, .ref a_points, .ref a_holds, .int v_tokens, .int v_visible])), (a_bytes, .inl (X.1.2.2.1, 960, .inl g15)), (a_lengths, .inl (X.1.2.2.1, 4, .inl w7))]) C 1 rfl dX6_put_45 hf (fun _ => rfl) (fun g15 hf => ?_)
        refine g_aload_n C dX6_put_46 rfl 0 rfl ?_
        refine g_get C inX6_put_6 0 rfl rfl 18 (by decide) (List.mem_of_getElem? (i := 2) rfl) rfl rfl dX6_put_47 ?_
        refine g_iload C dX6_put_50 3 rfl ?_
        refine g_dup2 C dX6_put_52 rfl rfl ?_
        refine g_iaload C 2 rfl dX6_put_53 hf (fun z16 hf => ?_)
        refine g_iconst (v := 1) C dX6_put_54 (by decide) ?_
        refine g_iadd C dX6_put_55 hf (fun z17 hf => ?_)
        refine g_iastore (Wd2 := fun g18 => [(a_this, .inr (6, [.ref a_kinds, .ref a_seqs, .ref a_versions, .ref a_oldKinds, .ref a_oldSeqs, .ref a_oldVersions, .ref a_seenSeqs, .ref a_sources, .ref a_oldSources, .ref a_seenSources, .ref a_done, .int v_checkpoint, .int v_max, .int v_persisted, .int v_oldCheckpoint, .int v_oldMax, .int v_down, .ref a_bytes, .ref a_lengths, .ref a_greatest, .int v_oldest, .int v_generations, .int v_synced, .int v_rKind, .int v_rSeq, .int v_rId, .int v_rVersion, .int v_rEnd, .long v_rSource, .ref a_tKind, .ref a_tA, .ref a_tB, .ref a_points, .ref a_holds, .int v_tokens, .int v_visible])), (a_bytes, .inl (X.1.2.2.1, 960, .inl g15)), (a_lengths, .inl (X.1.2.2.1, 4, .inl g18))]) C 2 rfl dX6_put_56 hf (fun _ => rfl) (fun g18 hf => ?_)
        refine g_iinc (v := 1) (lv2 := fun z19 => [(5, .int z19), (0, .ref a_this), (1, .long x0), (3, .int x1), (4, .int r1)]) C dX6_put_57 4 rfl (by decide) (by decide) hf (fun _ => rfl) (fun z19 hf => ?_)
        refine g_goto C dX6_put_60 (tgt := 9) (by decide) ?_
        exact g_lv [1, 2, 3, 4, 0] rfl (ih9 z19 g15 g18 (app3 eR9 hf))
  exact g_lv [2, 3, 4, 1, 0] rfl (hL9 _ 0 v_bytes v_lengths hf)
def fX6_append (v_bytes : Nat → Int32) (v_lengths : Nat → Int32) (v_greatest : Nat → Int32) (v_generations : Int32) (x0 : Int32) (x1 : Int32) (x2 : Int32) (x3 : Int32) (x4 : Int64) : Option ((Nat → Int32) × (Nat → Int32) × (Nat → Int32)) :=
  (cal1 (fX6_current v_generations) (fun r1 => (bnd (240 * r1 : Int32) (fun z3 => (rdI v_lengths 4 r1 (fun z4 => (bnd (z3 + z4 : Int32) (fun z5 => (cal1 (fX6_sizeOf x0) (fun r6 => (bnd (Int32.toInt64 r6) (fun z8 => (cal2 (fX6_put v_bytes v_lengths v_generations z8 1) (fun u9 u10 => (bnd (Int32.toInt64 x0) (fun z12 => (cal2 (fX6_put u9 u10 v_generations z12 1) (fun u13 u14 => (bnd (Int32.toInt64 x2) (fun z16 => (cal2 (fX6_put u13 u14 v_generations z16 2) (fun u17 u18 => (jp (fun (w20 : Nat → Int32) (w21 : Nat → Int32) => (jp (fun (w22 : Nat → Int32) (w23 : Nat → Int32) => (bnd (r6 + 1 : Int32) (fun z24 => (cal1 (fX6_sum w22 z5 z24) (fun r25 => (bnd (Int32.toInt64 r25) (fun z27 => (cal2 (fX6_put w22 w23 v_generations z27 4) (fun u28 u29 => (rdI v_greatest 4 r1 (fun z31 => (jp (fun (w32 : Nat → Int32) => (some (u28, u29, w32))) (fun J122 => (if x2 ≤ z31 then (J122 v_greatest) else (wrI v_greatest 4 r1 x2 (fun g33 => (J122 g33))))))))))))))))) (fun J83 => (if x0 = 1 then (cal2 (fX6_put w20 w21 v_generations x4 8) (fun u34 u35 => (J83 u34 u35))) else (J83 w20 w21))))) (fun J70 => (if x0 = 3 then (J70 u17 u18) else (bnd (Int32.toInt64 x1) (fun z37 => (cal2 (fX6_put u17 u18 v_generations z37 1) (fun u38 u39 => (bnd (Int32.toInt64 x3) (fun z41 => (cal2 (fX6_put u38 u39 v_generations z41 2) (fun u42 u43 => (J70 u42 u43))))))))))))))))))))))))))))))))))
theorem inX6_append_6 : ∀ w ∈ wsX60, w ∈ wsX6_append := fun _ h => List.mem_cons_of_mem _ (List.mem_append_right _ h)
set_option maxRecDepth 100000 in
set_option maxHeartbeats 8000000 in
theorem cX6_append_ok (L : XL) (a_this a_kinds a_seqs a_versions a_oldKinds a_oldSeqs a_oldVersions a_seenSeqs a_sources a_oldSources a_seenSources a_done a_bytes a_lengths a_greatest a_tKind a_tA a_tB a_points a_holds : Nat) (v_checkpoint : Int32) (v_max : Int32) (v_persisted : Int32) (v_oldCheckpoint : Int32) (v_oldMax : Int32) (v_down : Int32) (v_bytes : Nat → Int32) (v_lengths : Nat → Int32) (v_greatest : Nat → Int32) (v_oldest : Int32) (v_generations : Int32) (v_synced : Int32) (v_rKind : Int32) (v_rSeq : Int32) (v_rId : Int32) (v_rVersion : Int32) (v_rEnd : Int32) (v_rSource : Int64) (v_tokens : Int32) (v_visible : Int32) (x0 : Int32) (x1 : Int32) (x2 : Int32) (x3 : Int32) (x4 : Int64) {t : (Nat → Int32) × (Nat → Int32) × (Nat → Int32)} (hf : fX6_append v_bytes v_lengths v_greatest v_generations x0 x1 x2 x3 x4 = some t) : xM L yX6_append wsX6_append ({ frames := 2, cells := 0, slots := 0, locals := 45 }) [.ref a_this, .int x0, .int x1, .int x2, .int x3, .long x4] [(a_this, .inr (6, [.ref a_kinds, .ref a_seqs, .ref a_versions, .ref a_oldKinds, .ref a_oldSeqs, .ref a_oldVersions, .ref a_seenSeqs, .ref a_sources, .ref a_oldSources, .ref a_seenSources, .ref a_done, .int v_checkpoint, .int v_max, .int v_persisted, .int v_oldCheckpoint, .int v_oldMax, .int v_down, .ref a_bytes, .ref a_lengths, .ref a_greatest, .int v_oldest, .int v_generations, .int v_synced, .int v_rKind, .int v_rSeq, .int v_rId, .int v_rVersion, .int v_rEnd, .long v_rSource, .ref a_tKind, .ref a_tA, .ref a_tB, .ref a_points, .ref a_holds, .int v_tokens, .int v_visible])), (a_bytes, .inl (L.2.2.1, 960, .inl v_bytes)), (a_lengths, .inl (L.2.2.1, 4, .inl v_lengths)), (a_greatest, .inl (L.2.2.1, 4, .inl v_greatest))] 0 0 none (fun _ : Unit => [(a_this, .inr (6, [.ref a_kinds, .ref a_seqs, .ref a_versions, .ref a_oldKinds, .ref a_oldSeqs, .ref a_oldVersions, .ref a_seenSeqs, .ref a_sources, .ref a_oldSources, .ref a_seenSources, .ref a_done, .int v_checkpoint, .int v_max, .int v_persisted, .int v_oldCheckpoint, .int v_oldMax, .int v_down, .ref a_bytes, .ref a_lengths, .ref a_greatest, .int v_oldest, .int v_generations, .int v_synced, .int v_rKind, .int v_rSeq, .int v_rId, .int v_rVersion, .int v_rEnd, .long v_rSource, .ref a_tKind, .ref a_tA, .ref a_tB, .ref a_points, .ref a_holds, .int v_tokens, .int v_visible])), (a_bytes, .inl (L.2.2.1, 960, .inl t.1)), (a_lengths, .inl (L.2.2.1, 4, .inl t.2.1)), (a_greatest, .inl (L.2.2.1, 4, .inl t.2.2))]) := by
  refine enter_v (own := RX6) (by decide) rfl rfl (Nat.le_of_ble_eq_true rfl) ?_
  intro X hXL C _ hret
  subst hXL
  unfold fX6_append at hf
  show G X 0 0 [(a_this, .inr (6, [.ref a_kinds, .ref a_seqs, .ref a_versions, .ref a_oldKinds, .ref a_oldSeqs, .ref a_oldVersions, .ref a_seenSeqs, .ref a_sources, .ref a_oldSources, .ref a_seenSources, .ref a_done, .int v_checkpoint, .int v_max, .int v_persisted, .int v_oldCheckpoint, .int v_oldMax, .int v_down, .ref a_bytes, .ref a_lengths, .ref a_greatest, .int v_oldest, .int v_generations, .int v_synced, .int v_rKind, .int v_rSeq, .int v_rId, .int v_rVersion, .int v_rEnd, .long v_rSource, .ref a_tKind, .ref a_tA, .ref a_tB, .ref a_points, .ref a_holds, .int v_tokens, .int v_visible])), (a_bytes, .inl (X.1.2.2.1, 960, .inl v_bytes)), (a_lengths, .inl (X.1.2.2.1, 4, .inl v_lengths)), (a_greatest, .inl (X.1.2.2.1, 4, .inl v_greatest))] [(0, .ref a_this), (1, .int x0), (2, .int x1), (3, .int x2), (4, .int x3), (5, .long x4)] 0 []
  refine g_aload_n C dX6_append_0 rfl 0 rfl ?_
  obtain ⟨r1, hq2, hf⟩ := cal1_x hf
  refine g_callV (As := []) (rest := []) (st2 := [.int r1]) (n := 0) C (cX6_current_ok X.1 a_this a_kinds a_seqs a_versions a_oldKinds a_oldSeqs a_oldVersions a_seenSeqs a_sources a_oldSources a_seenSources a_done a_bytes a_lengths a_greatest a_tKind a_tA a_tB a_points a_holds v_checkpoint v_max v_persisted v_oldCheckpoint v_oldMax v_down v_oldest v_generations v_synced v_rKind v_rSeq v_rId v_rVersion v_rEnd v_rSource v_tokens v_visible hq2) gX6_append_X6_current rfl rfl rfl ⟨rfl, by decide +kernel⟩ (by decide) 0 rfl rfl rfl [0] (by decide) rfl [1, 2, 3] (Wr := [(a_bytes, .inl (X.1.2.2.1, 960, .inl v_bytes)), (a_lengths, .inl (X.1.2.2.1, 4, .inl v_lengths)), (a_greatest, .inl (X.1.2.2.1, 4, .inl v_greatest))]) (by decide) rfl (by decide) [3, 0, 1, 2] (by decide) (Wn := fun _ => [(a_this, .inr (6, [.ref a_kinds, .ref a_seqs, .ref a_versions, .ref a_oldKinds, .ref a_oldSeqs, .ref a_oldVersions, .ref a_seenSeqs, .ref a_sources, .ref a_oldSources, .ref a_seenSources, .ref a_done, .int v_checkpoint, .int v_max, .int v_persisted, .int v_oldCheckpoint, .int v_oldMax, .int v_down, .ref a_bytes, .ref a_lengths, .ref a_greatest, .int v_oldest, .int v_generations, .int v_synced, .int v_rKind, .int v_rSeq, .int v_rId, .int v_rVersion, .int v_rEnd, .long v_rSource, .ref a_tKind, .ref a_tA, .ref a_tB, .ref a_points, .ref a_holds, .int v_tokens, .int v_visible])), (a_bytes, .inl (X.1.2.2.1, 960, .inl v_bytes)), (a_lengths, .inl (X.1.2.2.1, 4, .inl v_lengths)), (a_greatest, .inl (X.1.2.2.1, 4, .inl v_greatest))]) (fun _ => rfl) rfl rfl rfl (Nat.le_of_ble_eq_true rfl) dX6_append_1 ⟨Nat.le_refl _, Nat.le_refl _⟩ (fun _ => ?_)
  refine g_istore (lv2 := [(7, .int r1), (0, .ref a_this), (1, .int x0), (2, .int x1), (3, .int x2), (4, .int x3), (5, .long x4)]) C dX6_append_4 (by decide) rfl ?_
  refine g_sipush (v := 240) C dX6_append_6 (by decide) ?_
  refine g_iload C dX6_append_9 0 rfl ?_
  refine g_imul C dX6_append_11 hf (fun z3 hf => ?_)
  refine g_aload_n C dX6_append_12 rfl 1 rfl ?_
  refine g_get C inX6_append_6 0 rfl rfl 18 (by decide) (List.mem_of_getElem? (i := 1) rfl) rfl rfl dX6_append_13 ?_
  refine g_iload C dX6_append_16 0 rfl ?_
  refine g_iaload C 2 rfl dX6_append_18 hf (fun z4 hf => ?_)
  refine g_iadd C dX6_append_19 hf (fun z5 hf => ?_)
  refine g_istore (lv2 := [(8, .int z5), (7, .int r1), (0, .ref a_this), (1, .int x0), (2, .int x1), (3, .int x2), (4, .int x3), (5, .long x4)]) C dX6_append_20 (by decide) rfl ?_
  refine g_iload_n C dX6_append_22 rfl 3 rfl ?_
  obtain ⟨r6, hq7, hf⟩ := cal1_x hf
  refine g_callS (As := [.int x0]) (rest := []) (st2 := [.int r6]) (n := 1) C (cX6_sizeOf_ok X.1 x0 hq7) gX6_append_X6_sizeOf rfl rfl rfl (by decide +kernel) (by decide) [] (by decide) rfl [0, 1, 2, 3] (Wr := [(a_this, .inr (6, [.ref a_kinds, .ref a_seqs, .ref a_versions, .ref a_oldKinds, .ref a_oldSeqs, .ref a_oldVersions, .ref a_seenSeqs, .ref a_sources, .ref a_oldSources, .ref a_seenSources, .ref a_done, .int v_checkpoint, .int v_max, .int v_persisted, .int v_oldCheckpoint, .int v_oldMax, .int v_down, .ref a_bytes, .ref a_lengths, .ref a_greatest, .int v_oldest, .int v_generations, .int v_synced, .int v_rKind, .int v_rSeq, .int v_rId, .int v_rVersion, .int v_rEnd, .long v_rSource, .ref a_tKind, .ref a_tA, .ref a_tB, .ref a_points, .ref a_holds, .int v_tokens, .int v_visible])), (a_bytes, .inl (X.1.2.2.1, 960, .inl v_bytes)), (a_lengths, .inl (X.1.2.2.1, 4, .inl v_lengths)), (a_greatest, .inl (X.1.2.2.1, 4, .inl v_greatest))]) (by decide) rfl (by decide) [0, 1, 2, 3] (by decide) (Wn := fun _ => [(a_this, .inr (6, [.ref a_kinds, .ref a_seqs, .ref a_versions, .ref a_oldKinds, .ref a_oldSeqs, .ref a_oldVersions, .ref a_seenSeqs, .ref a_sources, .ref a_oldSources, .ref a_seenSources, .ref a_done, .int v_checkpoint, .int v_max, .int v_persisted, .int v_oldCheckpoint, .int v_oldMax, .int v_down, .ref a_bytes, .ref a_lengths, .ref a_greatest, .int v_oldest, .int v_generations, .int v_synced, .int v_rKind, .int v_rSeq, .int v_rId, .int v_rVersion, .int v_rEnd, .long v_rSource, .ref a_tKind, .ref a_tA, .ref a_tB, .ref a_points, .ref a_holds, .int v_tokens, .int v_visible])), (a_bytes, .inl (X.1.2.2.1, 960, .inl v_bytes)), (a_lengths, .inl (X.1.2.2.1, 4, .inl v_lengths)), (a_greatest, .inl (X.1.2.2.1, 4, .inl v_greatest))]) (fun _ => rfl) rfl rfl rfl (Nat.le_of_ble_eq_true rfl) dX6_append_23 ⟨Nat.le_refl _, Nat.le_refl _⟩ (fun _ => ?_)
  refine g_istore (lv2 := [(9, .int r6), (8, .int z5), (7, .int r1), (0, .ref a_this), (1, .int x0), (2, .int x1), (3, .int x2), (4, .int x3), (5, .long x4)]) C dX6_append_26 (by decide) rfl ?_
  refine g_aload_n C dX6_append_28 rfl 3 rfl ?_
  refine g_iload C dX6_append_29 0 rfl ?_
  refine g_i2l C dX6_append_31 hf (fun z8 hf => ?_)
  refine g_iconst (v := 1) C dX6_append_32 (by decide) ?_
  obtain ⟨u9, u10, hq11, hf⟩ := cal2_x hf
  refine g_callV (As := [.long z8, .int 1]) (rest := []) (st2 := []) (n := 2) C (cX6_put_ok X.1 a_this a_kinds a_seqs a_versions a_oldKinds a_oldSeqs a_oldVersions a_seenSeqs a_sources a_oldSources a_seenSources a_done a_bytes a_lengths a_greatest a_tKind a_tA a_tB a_points a_holds v_checkpoint v_max v_persisted v_oldCheckpoint v_oldMax v_down v_bytes v_lengths v_oldest v_generations v_synced v_rKind v_rSeq v_rId v_rVersion v_rEnd v_rSource v_tokens v_visible z8 1 hq11) gX6_append_X6_put rfl rfl rfl ⟨rfl, by decide +kernel⟩ (by decide) 0 rfl rfl rfl [0, 1, 2] (by decide) rfl [3] (Wr := [(a_greatest, .inl (X.1.2.2.1, 4, .inl v_greatest))]) (by decide) rfl (by decide) [1, 2, 3, 0] (by decide) (Wn := fun _ => [(a_this, .inr (6, [.ref a_kinds, .ref a_seqs, .ref a_versions, .ref a_oldKinds, .ref a_oldSeqs, .ref a_oldVersions, .ref a_seenSeqs, .ref a_sources, .ref a_oldSources, .ref a_seenSources, .ref a_done, .int v_checkpoint, .int v_max, .int v_persisted, .int v_oldCheckpoint, .int v_oldMax, .int v_down, .ref a_bytes, .ref a_lengths, .ref a_greatest, .int v_oldest, .int v_generations, .int v_synced, .int v_rKind, .int v_rSeq, .int v_rId, .int v_rVersion, .int v_rEnd, .long v_rSource, .ref a_tKind, .ref a_tA, .ref a_tB, .ref a_points, .ref a_holds, .int v_tokens, .int v_visible])), (a_bytes, .inl (X.1.2.2.1, 960, .inl u9)), (a_lengths, .inl (X.1.2.2.1, 4, .inl u10)), (a_greatest, .inl (X.1.2.2.1, 4, .inl v_greatest))]) (fun _ => rfl) rfl rfl rfl (Nat.le_of_ble_eq_true rfl) dX6_append_33 ⟨Nat.le_refl _, Nat.le_refl _⟩ (fun _ => ?_)
  refine g_aload_n C dX6_append_36 rfl 3 rfl ?_
  refine g_iload_n C dX6_append_37 rfl 4 rfl ?_
  refine g_i2l C dX6_append_38 hf (fun z12 hf => ?_)
  refine g_iconst (v := 1) C dX6_append_39 (by decide) ?_
  obtain ⟨u13, u14, hq15, hf⟩ := cal2_x hf
  refine g_callV (As := [.long z12, .int 1]) (rest := []) (st2 := []) (n := 2) C (cX6_put_ok X.1 a_this a_kinds a_seqs a_versions a_oldKinds a_oldSeqs a_oldVersions a_seenSeqs a_sources a_oldSources a_seenSources a_done a_bytes a_lengths a_greatest a_tKind a_tA a_tB a_points a_holds v_checkpoint v_max v_persisted v_oldCheckpoint v_oldMax v_down u9 u10 v_oldest v_generations v_synced v_rKind v_rSeq v_rId v_rVersion v_rEnd v_rSource v_tokens v_visible z12 1 hq15) gX6_append_X6_put rfl rfl rfl ⟨rfl, by decide +kernel⟩ (by decide) 0 rfl rfl rfl [0, 1, 2] (by decide) rfl [3] (Wr := [(a_greatest, .inl (X.1.2.2.1, 4, .inl v_greatest))]) (by decide) rfl (by decide) [1, 2, 3, 0] (by decide) (Wn := fun _ => [(a_this, .inr (6, [.ref a_kinds, .ref a_seqs, .ref a_versions, .ref a_oldKinds, .ref a_oldSeqs, .ref a_oldVersions, .ref a_seenSeqs, .ref a_sources, .ref a_oldSources, .ref a_seenSources, .ref a_done, .int v_checkpoint, .int v_max, .int v_persisted, .int v_oldCheckpoint, .int v_oldMax, .int v_down, .ref a_bytes, .ref a_lengths, .ref a_greatest, .int v_oldest, .int v_generations, .int v_synced, .int v_rKind, .int v_rSeq, .int v_rId, .int v_rVersion, .int v_rEnd, .long v_rSource, .ref a_tKind, .ref a_tA, .ref a_tB, .ref a_points, .ref a_holds, .int v_tokens, .int v_visible])), (a_bytes, .inl (X.1.2.2.1, 960, .inl u13)), (a_lengths, .inl (X.1.2.2.1, 4, .inl u14)), (a_greatest, .inl (X.1.2.2.1, 4, .inl v_greatest))]) (fun _ => rfl) rfl rfl rfl (Nat.le_of_ble_eq_true rfl) dX6_append_40 ⟨Nat.le_refl _, Nat.le_refl _⟩ (fun _ => ?_)
  refine g_aload_n C dX6_append_43 rfl 3 rfl ?_
  refine g_iload_n C dX6_append_44 rfl 6 rfl ?_
  refine g_i2l C dX6_append_45 hf (fun z16 hf => ?_)
  refine g_iconst (v := 2) C dX6_append_46 (by decide) ?_
  obtain ⟨u17, u18, hq19, hf⟩ := cal2_x hf
  refine g_callV (As := [.long z16, .int 2]) (rest := []) (st2 := []) (n := 2) C (cX6_put_ok X.1 a_this a_kinds a_seqs a_versions a_oldKinds a_oldSeqs a_oldVersions a_seenSeqs a_sources a_oldSources a_seenSources a_done a_bytes a_lengths a_greatest a_tKind a_tA a_tB a_points a_holds v_checkpoint v_max v_persisted v_oldCheckpoint v_oldMax v_down u13 u14 v_oldest v_generations v_synced v_rKind v_rSeq v_rId v_rVersion v_rEnd v_rSource v_tokens v_visible z16 2 hq19) gX6_append_X6_put rfl rfl rfl ⟨rfl, by decide +kernel⟩ (by decide) 0 rfl rfl rfl [0, 1, 2] (by decide) rfl [3] (Wr := [(a_greatest, .inl (X.1.2.2.1, 4, .inl v_greatest))]) (by decide) rfl (by decide) [1, 2, 3, 0] (by decide) (Wn := fun _ => [(a_this, .inr (6, [.ref a_kinds, .ref a_seqs, .ref a_versions, .ref a_oldKinds, .ref a_oldSeqs, .ref a_oldVersions, .ref a_seenSeqs, .ref a_sources, .ref a_oldSources, .ref a_seenSources, .ref a_done, .int v_checkpoint, .int v_max, .int v_persisted, .int v_oldCheckpoint, .int v_oldMax, .int v_down, .ref a_bytes, .ref a_lengths, .ref a_greatest, .int v_oldest, .int v_generations, .int v_synced, .int v_rKind, .int v_rSeq, .int v_rId, .int v_rVersion, .int v_rEnd, .long v_rSource, .ref a_tKind, .ref a_tA, .ref a_tB, .ref a_points, .ref a_holds, .int v_tokens, .int v_visible])), (a_bytes, .inl (X.1.2.2.1, 960, .inl u17)), (a_lengths, .inl (X.1.2.2.1, 4, .inl u18)), (a_greatest, .inl (X.1.2.2.1, 4, .inl v_greatest))]) (fun _ => rfl) rfl rfl rfl (Nat.le_of_ble_eq_true rfl) dX6_append_47 ⟨Nat.le_refl _, Nat.le_refl _⟩ (fun _ => ?_)
  refine g_iload_n C dX6_append_50 rfl 4 rfl ?_
  refine g_iconst (v := 3) C dX6_append_51 (by decide) ?_
  obtain ⟨J70, eJ70, hf⟩ := jp_x hf
  have hJ70 : ∀ (w20 : Nat → Int32) (w21 : Nat → Int32), J70 w20 w21 = some t → G X 0 0 [(a_this, .inr (6, [.ref a_kinds, .ref a_seqs, .ref a_versions, .ref a_oldKinds, .ref a_oldSeqs, .ref a_oldVersions, .ref a_seenSeqs, .ref a_sources, .ref a_oldSources, .ref a_seenSources, .ref a_done, .int v_checkpoint, .int v_max, .int v_persisted, .int v_oldCheckpoint, .int v_oldMax, .int v_down, .ref a_bytes, .ref a_lengths, .ref a_greatest, .int v_oldest, .int v_generations, .int v_synced, .int v_rKind, .int v_rSeq, .int v_rId, .int v_rVersion, .int v_rEnd, .long v_rSource, .ref a_tKind, .ref a_tA, .ref a_tB, .ref a_points, .ref a_holds, .int v_tokens, .int v_visible])), (a_bytes, .inl (X.1.2.2.1, 960, .inl w20)), (a_lengths, .inl (X.1.2.2.1, 4, .inl w21)), (a_greatest, .inl (X.1.2.2.1, 4, .inl v_greatest))] [(0, .ref a_this), (1, .int x0), (3, .int x2), (5, .long x4), (7, .int r1), (8, .int z5), (9, .int r6)] 70 [] := by
    intro w20 w21 hf
    have hf := app2 eJ70 hf
    refine g_iload_n C dX6_append_70 rfl 1 rfl ?_
    refine g_iconst (v := 1) C dX6_append_71 (by decide) ?_
    obtain ⟨J83, eJ83, hf⟩ := jp_x hf
    have hJ83 : ∀ (w22 : Nat → Int32) (w23 : Nat → Int32), J83 w22 w23 = some t → G X 0 0 [(a_this, .inr (6, [.ref a_kinds, .ref a_seqs, .ref a_versions, .ref a_oldKinds, .ref a_oldSeqs, .ref a_oldVersions, .ref a_seenSeqs, .ref a_sources, .ref a_oldSources, .ref a_seenSources, .ref a_done, .int v_checkpoint, .int v_max, .int v_persisted, .int v_oldCheckpoint, .int v_oldMax, .int v_down, .ref a_bytes, .ref a_lengths, .ref a_greatest, .int v_oldest, .int v_generations, .int v_synced, .int v_rKind, .int v_rSeq, .int v_rId, .int v_rVersion, .int v_rEnd, .long v_rSource, .ref a_tKind, .ref a_tA, .ref a_tB, .ref a_points, .ref a_holds, .int v_tokens, .int v_visible])), (a_bytes, .inl (X.1.2.2.1, 960, .inl w22)), (a_lengths, .inl (X.1.2.2.1, 4, .inl w23)), (a_greatest, .inl (X.1.2.2.1, 4, .inl v_greatest))] [(0, .ref a_this), (3, .int x2), (7, .int r1), (8, .int z5), (9, .int r6)] 83 [] := by
      intro w22 w23 hf
      have hf := app2 eJ83 hf
      refine g_aload_n C dX6_append_83 rfl 0 rfl ?_
      refine g_iload C dX6_append_84 3 rfl ?_
      refine g_iload C dX6_append_86 4 rfl ?_
      refine g_iconst (v := 1) C dX6_append_88 (by decide) ?_
      refine g_iadd C dX6_append_89 hf (fun z24 hf => ?_)
      obtain ⟨r25, hq26, hf⟩ := cal1_x hf
      refine g_callV (As := [.int z5, .int z24]) (rest := []) (st2 := [.int r25]) (n := 2) C (cX6_sum_ok X.1 a_this a_kinds a_seqs a_versions a_oldKinds a_oldSeqs a_oldVersions a_seenSeqs a_sources a_oldSources a_seenSources a_done a_bytes a_lengths a_greatest a_tKind a_tA a_tB a_points a_holds v_checkpoint v_max v_persisted v_oldCheckpoint v_oldMax v_down w22 v_oldest v_generations v_synced v_rKind v_rSeq v_rId v_rVersion v_rEnd v_rSource v_tokens v_visible z5 z24 hq26) gX6_append_X6_sum rfl rfl rfl ⟨rfl, by decide +kernel⟩ (by decide) 0 rfl rfl rfl [0, 1] (by decide) rfl [2, 3] (Wr := [(a_lengths, .inl (X.1.2.2.1, 4, .inl w23)), (a_greatest, .inl (X.1.2.2.1, 4, .inl v_greatest))]) (by decide) rfl (by decide) [2, 3, 0, 1] (by decide) (Wn := fun _ => [(a_this, .inr (6, [.ref a_kinds, .ref a_seqs, .ref a_versions, .ref a_oldKinds, .ref a_oldSeqs, .ref a_oldVersions, .ref a_seenSeqs, .ref a_sources, .ref a_oldSources, .ref a_seenSources, .ref a_done, .int v_checkpoint, .int v_max, .int v_persisted, .int v_oldCheckpoint, .int v_oldMax, .int v_down, .ref a_bytes, .ref a_lengths, .ref a_greatest, .int v_oldest, .int v_generations, .int v_synced, .int v_rKind, .int v_rSeq, .int v_rId, .int v_rVersion, .int v_rEnd, .long v_rSource, .ref a_tKind, .ref a_tA, .ref a_tB, .ref a_points, .ref a_holds, .int v_tokens, .int v_visible])), (a_bytes, .inl (X.1.2.2.1, 960, .inl w22)), (a_lengths, .inl (X.1.2.2.1, 4, .inl w23)), (a_greatest, .inl (X.1.2.2.1, 4, .inl v_greatest))]) (fun _ => rfl) rfl rfl rfl (Nat.le_of_ble_eq_true rfl) dX6_append_90 ⟨Nat.le_refl _, Nat.le_refl _⟩ (fun _ => ?_)
      refine g_istore (lv2 := [(10, .int r25), (0, .ref a_this), (3, .int x2), (7, .int r1), (8, .int z5), (9, .int r6)]) C dX6_append_93 (by decide) rfl ?_
      refine g_aload_n C dX6_append_95 rfl 1 rfl ?_
      refine g_iload C dX6_append_96 0 rfl ?_
      refine g_i2l C dX6_append_98 hf (fun z27 hf => ?_)
      refine g_iconst (v := 4) C dX6_append_99 (by decide) ?_
      obtain ⟨u28, u29, hq30, hf⟩ := cal2_x hf
      refine g_callV (As := [.long z27, .int 4]) (rest := []) (st2 := []) (n := 2) C (cX6_put_ok X.1 a_this a_kinds a_seqs a_versions a_oldKinds a_oldSeqs a_oldVersions a_seenSeqs a_sources a_oldSources a_seenSources a_done a_bytes a_lengths a_greatest a_tKind a_tA a_tB a_points a_holds v_checkpoint v_max v_persisted v_oldCheckpoint v_oldMax v_down w22 w23 v_oldest v_generations v_synced v_rKind v_rSeq v_rId v_rVersion v_rEnd v_rSource v_tokens v_visible z27 4 hq30) gX6_append_X6_put rfl rfl rfl ⟨rfl, by decide +kernel⟩ (by decide) 0 rfl rfl rfl [0, 1, 2] (by decide) rfl [3] (Wr := [(a_greatest, .inl (X.1.2.2.1, 4, .inl v_greatest))]) (by decide) rfl (by decide) [1, 2, 3, 0] (by decide) (Wn := fun _ => [(a_this, .inr (6, [.ref a_kinds, .ref a_seqs, .ref a_versions, .ref a_oldKinds, .ref a_oldSeqs, .ref a_oldVersions, .ref a_seenSeqs, .ref a_sources, .ref a_oldSources, .ref a_seenSources, .ref a_done, .int v_checkpoint, .int v_max, .int v_persisted, .int v_oldCheckpoint, .int v_oldMax, .int v_down, .ref a_bytes, .ref a_lengths, .ref a_greatest, .int v_oldest, .int v_generations, .int v_synced, .int v_rKind, .int v_rSeq, .int v_rId, .int v_rVersion, .int v_rEnd, .long v_rSource, .ref a_tKind, .ref a_tA, .ref a_tB, .ref a_points, .ref a_holds, .int v_tokens, .int v_visible])), (a_bytes, .inl (X.1.2.2.1, 960, .inl u28)), (a_lengths, .inl (X.1.2.2.1, 4, .inl u29)), (a_greatest, .inl (X.1.2.2.1, 4, .inl v_greatest))]) (fun _ => rfl) rfl rfl rfl (Nat.le_of_ble_eq_true rfl) dX6_append_100 ⟨Nat.le_refl _, Nat.le_refl _⟩ (fun _ => ?_)
      refine g_iload_n C dX6_append_103 rfl 2 rfl ?_
      refine g_aload_n C dX6_append_104 rfl 1 rfl ?_
      refine g_get C inX6_append_6 0 rfl rfl 19 (by decide) (List.mem_of_getElem? (i := 2) rfl) rfl rfl dX6_append_105 ?_
      refine g_iload C dX6_append_108 3 rfl ?_
      refine g_iaload C 3 rfl dX6_append_110 hf (fun z31 hf => ?_)
      obtain ⟨J122, eJ122, hf⟩ := jp_x hf
      have hJ122 : ∀ (w32 : Nat → Int32), J122 w32 = some t → G X 0 0 [(a_this, .inr (6, [.ref a_kinds, .ref a_seqs, .ref a_versions, .ref a_oldKinds, .ref a_oldSeqs, .ref a_oldVersions, .ref a_seenSeqs, .ref a_sources, .ref a_oldSources, .ref a_seenSources, .ref a_done, .int v_checkpoint, .int v_max, .int v_persisted, .int v_oldCheckpoint, .int v_oldMax, .int v_down, .ref a_bytes, .ref a_lengths, .ref a_greatest, .int v_oldest, .int v_generations, .int v_synced, .int v_rKind, .int v_rSeq, .int v_rId, .int v_rVersion, .int v_rEnd, .long v_rSource, .ref a_tKind, .ref a_tA, .ref a_tB, .ref a_points, .ref a_holds, .int v_tokens, .int v_visible])), (a_bytes, .inl (X.1.2.2.1, 960, .inl u28)), (a_lengths, .inl (X.1.2.2.1, 4, .inl u29)), (a_greatest, .inl (X.1.2.2.1, 4, .inl w32))] [] 122 [] := by
        intro w32 hf
        have hf := app1 eJ122 hf
        rw [← Option.some.inj hf] at hret
        exact hret () _ _ dX6_append_122
      refine g_icmp_le C dX6_append_111 (tgt := 122) (by decide) hf (fun hf => ?_) (fun hf => ?_)
      · exact g_lv [] rfl (hJ122 v_greatest hf)
      · refine g_aload_n C dX6_append_114 rfl 1 rfl ?_
        refine g_get C inX6_append_6 0 rfl rfl 19 (by decide) (List.mem_of_getElem? (i := 2) rfl) rfl rfl dX6_append_115 ?_
        refine g_iload C dX6_append_118 3 rfl ?_
        refine g_iload_n C dX6_append_120 rfl 2 rfl ?_
        refine g_iastore (Wd2 := fun g33 => [(a_this, .inr (6, [.ref a_kinds, .ref a_seqs, .ref a_versions, .ref a_oldKinds, .ref a_oldSeqs, .ref a_oldVersions, .ref a_seenSeqs, .ref a_sources, .ref a_oldSources, .ref a_seenSources, .ref a_done, .int v_checkpoint, .int v_max, .int v_persisted, .int v_oldCheckpoint, .int v_oldMax, .int v_down, .ref a_bytes, .ref a_lengths, .ref a_greatest, .int v_oldest, .int v_generations, .int v_synced, .int v_rKind, .int v_rSeq, .int v_rId, .int v_rVersion, .int v_rEnd, .long v_rSource, .ref a_tKind, .ref a_tA, .ref a_tB, .ref a_points, .ref a_holds, .int v_tokens, .int v_visible])), (a_bytes, .inl (X.1.2.2.1, 960, .inl u28)), (a_lengths, .inl (X.1.2.2.1, 4, .inl u29)), (a_greatest, .inl (X.1.2.2.1, 4, .inl g33))]) C 3 rfl dX6_append_121 hf (fun _ => rfl) (fun g33 hf => ?_)
        exact g_lv [] rfl (hJ122 g33 hf)
    refine g_icmp_ne C dX6_append_72 (tgt := 83) (by decide) hf (fun hf => ?_) (fun hf => ?_)
    · exact g_lv [0, 2, 4, 5, 6] rfl (hJ83 w20 w21 hf)
    · refine g_aload_n C dX6_append_75 rfl 0 rfl ?_
      refine g_lload C dX6_append_76 3 rfl ?_
      refine g_bipush (v := 8) C dX6_append_78 (by decide) ?_
      obtain ⟨u34, u35, hq36, hf⟩ := cal2_x hf
      refine g_callV (As := [.long x4, .int 8]) (rest := []) (st2 := []) (n := 2) C (cX6_put_ok X.1 a_this a_kinds a_seqs a_versions a_oldKinds a_oldSeqs a_oldVersions a_seenSeqs a_sources a_oldSources a_seenSources a_done a_bytes a_lengths a_greatest a_tKind a_tA a_tB a_points a_holds v_checkpoint v_max v_persisted v_oldCheckpoint v_oldMax v_down w20 w21 v_oldest v_generations v_synced v_rKind v_rSeq v_rId v_rVersion v_rEnd v_rSource v_tokens v_visible x4 8 hq36) gX6_append_X6_put rfl rfl rfl ⟨rfl, by decide +kernel⟩ (by decide) 0 rfl rfl rfl [0, 1, 2] (by decide) rfl [3] (Wr := [(a_greatest, .inl (X.1.2.2.1, 4, .inl v_greatest))]) (by decide) rfl (by decide) [1, 2, 3, 0] (by decide) (Wn := fun _ => [(a_this, .inr (6, [.ref a_kinds, .ref a_seqs, .ref a_versions, .ref a_oldKinds, .ref a_oldSeqs, .ref a_oldVersions, .ref a_seenSeqs, .ref a_sources, .ref a_oldSources, .ref a_seenSources, .ref a_done, .int v_checkpoint, .int v_max, .int v_persisted, .int v_oldCheckpoint, .int v_oldMax, .int v_down, .ref a_bytes, .ref a_lengths, .ref a_greatest, .int v_oldest, .int v_generations, .int v_synced, .int v_rKind, .int v_rSeq, .int v_rId, .int v_rVersion, .int v_rEnd, .long v_rSource, .ref a_tKind, .ref a_tA, .ref a_tB, .ref a_points, .ref a_holds, .int v_tokens, .int v_visible])), (a_bytes, .inl (X.1.2.2.1, 960, .inl u34)), (a_lengths, .inl (X.1.2.2.1, 4, .inl u35)), (a_greatest, .inl (X.1.2.2.1, 4, .inl v_greatest))]) (fun _ => rfl) rfl rfl rfl (Nat.le_of_ble_eq_true rfl) dX6_append_80 ⟨Nat.le_refl _, Nat.le_refl _⟩ (fun _ => ?_)
      exact g_lv [0, 2, 4, 5, 6] rfl (hJ83 u34 u35 hf)
  refine g_icmp_eq C dX6_append_52 (tgt := 70) (by decide) hf (fun hf => ?_) (fun hf => ?_)
  · exact g_lv [3, 4, 6, 8, 2, 1, 0] rfl (hJ70 u17 u18 hf)
  · refine g_aload_n C dX6_append_55 rfl 3 rfl ?_
    refine g_iload_n C dX6_append_56 rfl 5 rfl ?_
    refine g_i2l C dX6_append_57 hf (fun z37 hf => ?_)
    refine g_iconst (v := 1) C dX6_append_58 (by decide) ?_
    obtain ⟨u38, u39, hq40, hf⟩ := cal2_x hf
    refine g_callV (As := [.long z37, .int 1]) (rest := []) (st2 := []) (n := 2) C (cX6_put_ok X.1 a_this a_kinds a_seqs a_versions a_oldKinds a_oldSeqs a_oldVersions a_seenSeqs a_sources a_oldSources a_seenSources a_done a_bytes a_lengths a_greatest a_tKind a_tA a_tB a_points a_holds v_checkpoint v_max v_persisted v_oldCheckpoint v_oldMax v_down u17 u18 v_oldest v_generations v_synced v_rKind v_rSeq v_rId v_rVersion v_rEnd v_rSource v_tokens v_visible z37 1 hq40) gX6_append_X6_put rfl rfl rfl ⟨rfl, by decide +kernel⟩ (by decide) 0 rfl rfl rfl [0, 1, 2] (by decide) rfl [3] (Wr := [(a_greatest, .inl (X.1.2.2.1, 4, .inl v_greatest))]) (by decide) rfl (by decide) [1, 2, 3, 0] (by decide) (Wn := fun _ => [(a_this, .inr (6, [.ref a_kinds, .ref a_seqs, .ref a_versions, .ref a_oldKinds, .ref a_oldSeqs, .ref a_oldVersions, .ref a_seenSeqs, .ref a_sources, .ref a_oldSources, .ref a_seenSources, .ref a_done, .int v_checkpoint, .int v_max, .int v_persisted, .int v_oldCheckpoint, .int v_oldMax, .int v_down, .ref a_bytes, .ref a_lengths, .ref a_greatest, .int v_oldest, .int v_generations, .int v_synced, .int v_rKind, .int v_rSeq, .int v_rId, .int v_rVersion, .int v_rEnd, .long v_rSource, .ref a_tKind, .ref a_tA, .ref a_tB, .ref a_points, .ref a_holds, .int v_tokens, .int v_visible])), (a_bytes, .inl (X.1.2.2.1, 960, .inl u38)), (a_lengths, .inl (X.1.2.2.1, 4, .inl u39)), (a_greatest, .inl (X.1.2.2.1, 4, .inl v_greatest))]) (fun _ => rfl) rfl rfl rfl (Nat.le_of_ble_eq_true rfl) dX6_append_59 ⟨Nat.le_refl _, Nat.le_refl _⟩ (fun _ => ?_)
    refine g_aload_n C dX6_append_62 rfl 3 rfl ?_
    refine g_iload C dX6_append_63 7 rfl ?_
    refine g_i2l C dX6_append_65 hf (fun z41 hf => ?_)
    refine g_iconst (v := 2) C dX6_append_66 (by decide) ?_
    obtain ⟨u42, u43, hq44, hf⟩ := cal2_x hf
    refine g_callV (As := [.long z41, .int 2]) (rest := []) (st2 := []) (n := 2) C (cX6_put_ok X.1 a_this a_kinds a_seqs a_versions a_oldKinds a_oldSeqs a_oldVersions a_seenSeqs a_sources a_oldSources a_seenSources a_done a_bytes a_lengths a_greatest a_tKind a_tA a_tB a_points a_holds v_checkpoint v_max v_persisted v_oldCheckpoint v_oldMax v_down u38 u39 v_oldest v_generations v_synced v_rKind v_rSeq v_rId v_rVersion v_rEnd v_rSource v_tokens v_visible z41 2 hq44) gX6_append_X6_put rfl rfl rfl ⟨rfl, by decide +kernel⟩ (by decide) 0 rfl rfl rfl [0, 1, 2] (by decide) rfl [3] (Wr := [(a_greatest, .inl (X.1.2.2.1, 4, .inl v_greatest))]) (by decide) rfl (by decide) [1, 2, 3, 0] (by decide) (Wn := fun _ => [(a_this, .inr (6, [.ref a_kinds, .ref a_seqs, .ref a_versions, .ref a_oldKinds, .ref a_oldSeqs, .ref a_oldVersions, .ref a_seenSeqs, .ref a_sources, .ref a_oldSources, .ref a_seenSources, .ref a_done, .int v_checkpoint, .int v_max, .int v_persisted, .int v_oldCheckpoint, .int v_oldMax, .int v_down, .ref a_bytes, .ref a_lengths, .ref a_greatest, .int v_oldest, .int v_generations, .int v_synced, .int v_rKind, .int v_rSeq, .int v_rId, .int v_rVersion, .int v_rEnd, .long v_rSource, .ref a_tKind, .ref a_tA, .ref a_tB, .ref a_points, .ref a_holds, .int v_tokens, .int v_visible])), (a_bytes, .inl (X.1.2.2.1, 960, .inl u42)), (a_lengths, .inl (X.1.2.2.1, 4, .inl u43)), (a_greatest, .inl (X.1.2.2.1, 4, .inl v_greatest))]) (fun _ => rfl) rfl rfl rfl (Nat.le_of_ble_eq_true rfl) dX6_append_67 ⟨Nat.le_refl _, Nat.le_refl _⟩ (fun _ => ?_)
    exact g_lv [3, 4, 6, 8, 2, 1, 0] rfl (hJ70 u42 u43 hf)
def sX6_number_7 (J34 : (Int64) → Option ((Int64))) (x0 : Int32) (v_bytes : Nat → Int32) (R7 : (Int64) → (Int32) → Option ((Int64))) (y3 : Int64) (y4 : Int32) : Option ((Int64)) :=
  (if y4 < 0 then (J34 y3) else (bnd (y3 <<< (Int32.toInt64 8 &&& 63) : Int64) (fun z5 => (bnd (x0 + y4 : Int32) (fun z6 => (rdI v_bytes 960 z6 (fun z7 => (bnd (Int32.toInt64 z7) (fun z8 => (bnd (z5 ||| z8 : Int64) (fun z9 => (bnd (y4 + (-1)) (fun z10 => (R7 z9 z10))))))))))))))
def fX6_number (v_bytes : Nat → Int32) (x0 : Int32) (x1 : Int32) : Option ((Int64)) :=
  (bnd (x1 - 1 : Int32) (fun z1 => (jp (fun (y2 : Int64) => (some (y2))) (fun J34 => (lo2 (sX6_number_7 J34 x0 v_bytes) 1000 0 z1)))))
theorem inX6_number_6 : ∀ w ∈ wsX60, w ∈ wsX6_number := fun _ h => List.mem_cons_of_mem _ (List.mem_append_right _ h)
set_option maxRecDepth 100000 in
set_option maxHeartbeats 8000000 in
theorem cX6_number_ok (L : XL) (a_this a_kinds a_seqs a_versions a_oldKinds a_oldSeqs a_oldVersions a_seenSeqs a_sources a_oldSources a_seenSources a_done a_bytes a_lengths a_greatest a_tKind a_tA a_tB a_points a_holds : Nat) (v_checkpoint : Int32) (v_max : Int32) (v_persisted : Int32) (v_oldCheckpoint : Int32) (v_oldMax : Int32) (v_down : Int32) (v_bytes : Nat → Int32) (v_oldest : Int32) (v_generations : Int32) (v_synced : Int32) (v_rKind : Int32) (v_rSeq : Int32) (v_rId : Int32) (v_rVersion : Int32) (v_rEnd : Int32) (v_rSource : Int64) (v_tokens : Int32) (v_visible : Int32) (x0 : Int32) (x1 : Int32) {t : (Int64)} (hf : fX6_number v_bytes x0 x1 = some t) : xM L yX6_number wsX6_number ({ frames := 0, cells := 0, slots := 0, locals := 0 }) [.ref a_this, .int x0, .int x1] [(a_this, .inr (6, [.ref a_kinds, .ref a_seqs, .ref a_versions, .ref a_oldKinds, .ref a_oldSeqs, .ref a_oldVersions, .ref a_seenSeqs, .ref a_sources, .ref a_oldSources, .ref a_seenSources, .ref a_done, .int v_checkpoint, .int v_max, .int v_persisted, .int v_oldCheckpoint, .int v_oldMax, .int v_down, .ref a_bytes, .ref a_lengths, .ref a_greatest, .int v_oldest, .int v_generations, .int v_synced, .int v_rKind, .int v_rSeq, .int v_rId, .int v_rVersion, .int v_rEnd, .long v_rSource, .ref a_tKind, .ref a_tA, .ref a_tB, .ref a_points, .ref a_holds, .int v_tokens, .int v_visible])), (a_bytes, .inl (L.2.2.1, 960, .inl v_bytes))] 0 0 (some (.long t)) (fun _ : Unit => [(a_this, .inr (6, [.ref a_kinds, .ref a_seqs, .ref a_versions, .ref a_oldKinds, .ref a_oldSeqs, .ref a_oldVersions, .ref a_seenSeqs, .ref a_sources, .ref a_oldSources, .ref a_seenSources, .ref a_done, .int v_checkpoint, .int v_max, .int v_persisted, .int v_oldCheckpoint, .int v_oldMax, .int v_down, .ref a_bytes, .ref a_lengths, .ref a_greatest, .int v_oldest, .int v_generations, .int v_synced, .int v_rKind, .int v_rSeq, .int v_rId, .int v_rVersion, .int v_rEnd, .long v_rSource, .ref a_tKind, .ref a_tA, .ref a_tB, .ref a_points, .ref a_holds, .int v_tokens, .int v_visible])), (a_bytes, .inl (L.2.2.1, 960, .inl v_bytes))]) := by
  refine enter_l (own := RX6) (by decide) rfl rfl (Nat.le_of_ble_eq_true rfl) ?_
  intro X hXL C _ hret
  subst hXL
  unfold fX6_number at hf
  show G X 0 0 [(a_this, .inr (6, [.ref a_kinds, .ref a_seqs, .ref a_versions, .ref a_oldKinds, .ref a_oldSeqs, .ref a_oldVersions, .ref a_seenSeqs, .ref a_sources, .ref a_oldSources, .ref a_seenSources, .ref a_done, .int v_checkpoint, .int v_max, .int v_persisted, .int v_oldCheckpoint, .int v_oldMax, .int v_down, .ref a_bytes, .ref a_lengths, .ref a_greatest, .int v_oldest, .int v_generations, .int v_synced, .int v_rKind, .int v_rSeq, .int v_rId, .int v_rVersion, .int v_rEnd, .long v_rSource, .ref a_tKind, .ref a_tA, .ref a_tB, .ref a_points, .ref a_holds, .int v_tokens, .int v_visible])), (a_bytes, .inl (X.1.2.2.1, 960, .inl v_bytes))] [(0, .ref a_this), (1, .int x0), (2, .int x1)] 0 []
  refine g_lconst (v := 0) C dX6_number_0 (by decide) ?_
  refine g_lstore_n (lv2 := [(3, .long 0), (0, .ref a_this), (1, .int x0), (2, .int x1)]) C dX6_number_1 rfl (by decide) rfl ?_
  refine g_iload_n C dX6_number_2 rfl 3 rfl ?_
  refine g_iconst (v := 1) C dX6_number_3 (by decide) ?_
  refine g_isub C dX6_number_4 hf (fun z1 hf => ?_)
  refine g_istore (lv2 := [(5, .int z1), (3, .long 0), (0, .ref a_this), (1, .int x0), (2, .int x1)]) C dX6_number_5 (by decide) rfl ?_
  obtain ⟨J34, eJ34, hf⟩ := jp_x hf
  have hJ34 : ∀ (y2 : Int64), J34 y2 = some t → G X 0 0 [(a_this, .inr (6, [.ref a_kinds, .ref a_seqs, .ref a_versions, .ref a_oldKinds, .ref a_oldSeqs, .ref a_oldVersions, .ref a_seenSeqs, .ref a_sources, .ref a_oldSources, .ref a_seenSources, .ref a_done, .int v_checkpoint, .int v_max, .int v_persisted, .int v_oldCheckpoint, .int v_oldMax, .int v_down, .ref a_bytes, .ref a_lengths, .ref a_greatest, .int v_oldest, .int v_generations, .int v_synced, .int v_rKind, .int v_rSeq, .int v_rId, .int v_rVersion, .int v_rEnd, .long v_rSource, .ref a_tKind, .ref a_tA, .ref a_tB, .ref a_points, .ref a_holds, .int v_tokens, .int v_visible])), (a_bytes, .inl (X.1.2.2.1, 960, .inl v_bytes))] [(3, .long y2)] 34 [] := by
    intro y2 hf
    have hf := app1 eJ34 hf
    refine g_lload_n C dX6_number_34 rfl 0 rfl ?_
    rw [← Option.some.inj hf] at hret
    exact hret () _ _ dX6_number_35
  have hL7 : ∀ (n : Nat) (y3 : Int64) (y4 : Int32), lo2 (sX6_number_7 J34 x0 v_bytes) n y3 y4 = some t → G X 0 0 [(a_this, .inr (6, [.ref a_kinds, .ref a_seqs, .ref a_versions, .ref a_oldKinds, .ref a_oldSeqs, .ref a_oldVersions, .ref a_seenSeqs, .ref a_sources, .ref a_oldSources, .ref a_seenSources, .ref a_done, .int v_checkpoint, .int v_max, .int v_persisted, .int v_oldCheckpoint, .int v_oldMax, .int v_down, .ref a_bytes, .ref a_lengths, .ref a_greatest, .int v_oldest, .int v_generations, .int v_synced, .int v_rKind, .int v_rSeq, .int v_rId, .int v_rVersion, .int v_rEnd, .long v_rSource, .ref a_tKind, .ref a_tA, .ref a_tB, .ref a_points, .ref a_holds, .int v_tokens, .int v_visible])), (a_bytes, .inl (X.1.2.2.1, 960, .inl v_bytes))] [(0, .ref a_this), (1, .int x0), (3, .long y3), (5, .int y4)] 7 [] := by
    intro n
    induction n with
    | zero => intro y3 y4 hf; exact (lo2_z hf).elim
    | succ n ih7 =>
      intro y3 y4 hf
      obtain ⟨R7, eR7, hf⟩ := lo2_x hf
      unfold sX6_number_7 at hf
      refine g_iload C dX6_number_7 3 rfl ?_
      refine g_if_lt C dX6_number_9 (tgt := 34) (by decide) hf (fun hf => ?_) (fun hf => ?_)
      · exact g_lv [2] rfl (hJ34 y3 hf)
      · refine g_lload_n C dX6_number_12 rfl 2 rfl ?_
        refine g_bipush (v := 8) C dX6_number_13 (by decide) ?_
        refine g_lshl C dX6_number_15 hf (fun z5 hf => ?_)
        refine g_aload_n C dX6_number_16 rfl 0 rfl ?_
        refine g_get C inX6_number_6 0 rfl rfl 17 (by decide) (List.mem_of_getElem? (i := 1) rfl) rfl rfl dX6_number_17 ?_
        refine g_iload_n C dX6_number_20 rfl 1 rfl ?_
        refine g_iload C dX6_number_21 3 rfl ?_
        refine g_iadd C dX6_number_23 hf (fun z6 hf => ?_)
        refine g_iaload C 1 rfl dX6_number_24 hf (fun z7 hf => ?_)
        refine g_i2l C dX6_number_25 hf (fun z8 hf => ?_)
        refine g_lor C dX6_number_26 hf (fun z9 hf => ?_)
        refine g_lstore_n (lv2 := [(3, .long z9), (0, .ref a_this), (1, .int x0), (5, .int y4)]) C dX6_number_27 rfl (by decide) rfl ?_
        refine g_iinc (v := (-1)) (lv2 := fun z10 => [(5, .int z10), (3, .long z9), (0, .ref a_this), (1, .int x0)]) C dX6_number_28 3 rfl (by decide) (by decide) hf (fun _ => rfl) (fun z10 hf => ?_)
        refine g_goto C dX6_number_31 (tgt := 7) (by decide) ?_
        exact g_lv [2, 3, 1, 0] rfl (ih7 z9 z10 (app2 eR7 hf))
  exact g_lv [2, 3, 1, 0] rfl (hL7 _ 0 z1 hf)
def fX6_reads (v_checkpoint : Int32) (v_bytes : Nat → Int32) (v_lengths : Nat → Int32) (v_rKind : Int32) (v_rSeq : Int32) (v_rId : Int32) (v_rVersion : Int32) (v_rEnd : Int32) (v_rSource : Int64) (x0 : Int32) (x1 : Int32) : Option ((Int32) × (Int32) × (Int32) × (Int32) × (Int32) × (Int32) × (Int64)) :=
  (bnd (240 * x0 : Int32) (fun z1 => (bnd (z1 + x1 : Int32) (fun z2 => (rdI v_lengths 4 x0 (fun z3 => (bnd (z3 - x1 : Int32) (fun z4 => (if 2 ≤ z4 then (rdI v_bytes 960 z2 (fun z5 => (bnd (z2 + 1 : Int32) (fun z6 => (rdI v_bytes 960 z6 (fun z7 => (cal1 (fX6_in z7 1 3) (fun r8 => (jp (some (0, z7, v_rSeq, v_rId, v_rVersion, v_rEnd, v_rSource)) (fun J79 => (if r8 = 0 then J79 else (cal1 (fX6_sizeOf z7) (fun r10 => (if z5 = r10 then (bnd (z5 + 5 : Int32) (fun z12 => (if z12 ≤ z4 then (bnd (z5 + 1 : Int32) (fun z13 => (cal1 (fX6_sum v_bytes z2 z13) (fun r14 => (bnd (z2 + z5 : Int32) (fun z16 => (bnd (z16 + 1 : Int32) (fun z17 => (cal1 (fX6_number v_bytes z17 4) (fun r18 => (bnd (Int64.toInt32 r18) (fun z20 => (if r14 = z20 then (bnd (z2 + 2 : Int32) (fun z21 => (cal1 (fX6_number v_bytes z21 2) (fun r22 => (bnd (Int64.toInt32 r22) (fun z24 => (jp (fun (k25 : Int32) => (jp (fun (k26 : Int32) => (jp (fun (k27 : Int64) => (bnd (x1 + z5 : Int32) (fun z28 => (bnd (z28 + 5 : Int32) (fun z29 => (jp (fun (k30 : Int32) => (zok k30 (some (k30, z7, z24, k25, k26, z29, k27)))) (fun J241 => (jp (J241 0) (fun J240 => (if 16 ≤ k25 then J240 else (bnd (v_checkpoint + 64 : Int32) (fun z31 => (if z31 < z24 then J240 else (J241 1)))))))))))))) (fun J200 => (if z7 = 1 then (bnd (z2 + 7 : Int32) (fun z32 => (cal1 (fX6_number v_bytes z32 8) (fun r33 => (J200 r33))))) else (J200 0))))) (fun J174 => (if z7 = 3 then (J174 0) else (bnd (z2 + 5 : Int32) (fun z35 => (cal1 (fX6_number v_bytes z35 2) (fun r36 => (bnd (Int64.toInt32 r36) (fun z38 => (J174 z38))))))))))) (fun J149 => (if z7 = 3 then (J149 0) else (bnd (z2 + 4 : Int32) (fun z39 => (rdI v_bytes 960 z39 (fun z40 => (J149 z40)))))))))))))) else (some (0, z7, v_rSeq, v_rId, v_rVersion, v_rEnd, v_rSource))))))))))))))) else J79))) else J79)))))))))))))) else (some (0, v_rKind, v_rSeq, v_rId, v_rVersion, v_rEnd, v_rSource)))))))))))
theorem inX6_reads_6 : ∀ w ∈ wsX60, w ∈ wsX6_reads := fun _ h => List.mem_cons_of_mem _ (List.mem_append_right _ h)
set_option maxRecDepth 100000 in
set_option maxHeartbeats 8000000 in
theorem cX6_reads_ok (L : XL) (a_this a_kinds a_seqs a_versions a_oldKinds a_oldSeqs a_oldVersions a_seenSeqs a_sources a_oldSources a_seenSources a_done a_bytes a_lengths a_greatest a_tKind a_tA a_tB a_points a_holds : Nat) (v_checkpoint : Int32) (v_max : Int32) (v_persisted : Int32) (v_oldCheckpoint : Int32) (v_oldMax : Int32) (v_down : Int32) (v_bytes : Nat → Int32) (v_lengths : Nat → Int32) (v_oldest : Int32) (v_generations : Int32) (v_synced : Int32) (v_rKind : Int32) (v_rSeq : Int32) (v_rId : Int32) (v_rVersion : Int32) (v_rEnd : Int32) (v_rSource : Int64) (v_tokens : Int32) (v_visible : Int32) (x0 : Int32) (x1 : Int32) {t : (Int32) × (Int32) × (Int32) × (Int32) × (Int32) × (Int32) × (Int64)} (hf : fX6_reads v_checkpoint v_bytes v_lengths v_rKind v_rSeq v_rId v_rVersion v_rEnd v_rSource x0 x1 = some t) : xM L yX6_reads wsX6_reads ({ frames := 1, cells := 0, slots := 0, locals := 25 }) [.ref a_this, .int x0, .int x1] [(a_this, .inr (6, [.ref a_kinds, .ref a_seqs, .ref a_versions, .ref a_oldKinds, .ref a_oldSeqs, .ref a_oldVersions, .ref a_seenSeqs, .ref a_sources, .ref a_oldSources, .ref a_seenSources, .ref a_done, .int v_checkpoint, .int v_max, .int v_persisted, .int v_oldCheckpoint, .int v_oldMax, .int v_down, .ref a_bytes, .ref a_lengths, .ref a_greatest, .int v_oldest, .int v_generations, .int v_synced, .int v_rKind, .int v_rSeq, .int v_rId, .int v_rVersion, .int v_rEnd, .long v_rSource, .ref a_tKind, .ref a_tA, .ref a_tB, .ref a_points, .ref a_holds, .int v_tokens, .int v_visible])), (a_bytes, .inl (L.2.2.1, 960, .inl v_bytes)), (a_lengths, .inl (L.2.2.1, 4, .inl v_lengths))] 0 0 (some (.int t.1)) (fun _ : Unit => [(a_this, .inr (6, [.ref a_kinds, .ref a_seqs, .ref a_versions, .ref a_oldKinds, .ref a_oldSeqs, .ref a_oldVersions, .ref a_seenSeqs, .ref a_sources, .ref a_oldSources, .ref a_seenSources, .ref a_done, .int v_checkpoint, .int v_max, .int v_persisted, .int v_oldCheckpoint, .int v_oldMax, .int v_down, .ref a_bytes, .ref a_lengths, .ref a_greatest, .int v_oldest, .int v_generations, .int v_synced, .int t.2.1, .int t.2.2.1, .int t.2.2.2.1, .int t.2.2.2.2.1, .int t.2.2.2.2.2.1, .long t.2.2.2.2.2.2, .ref a_tKind, .ref a_tA, .ref a_tB, .ref a_points, .ref a_holds, .int v_tokens, .int v_visible])), (a_bytes, .inl (L.2.2.1, 960, .inl v_bytes)), (a_lengths, .inl (L.2.2.1, 4, .inl v_lengths))]) := by
  refine enter_z (own := RX6) (by decide) rfl rfl (Nat.le_of_ble_eq_true rfl) ?_
  intro X hXL C _ hret
  subst hXL
  unfold fX6_reads at hf
  show G X 0 0 [(a_this, .inr (6, [.ref a_kinds, .ref a_seqs, .ref a_versions, .ref a_oldKinds, .ref a_oldSeqs, .ref a_oldVersions, .ref a_seenSeqs, .ref a_sources, .ref a_oldSources, .ref a_seenSources, .ref a_done, .int v_checkpoint, .int v_max, .int v_persisted, .int v_oldCheckpoint, .int v_oldMax, .int v_down, .ref a_bytes, .ref a_lengths, .ref a_greatest, .int v_oldest, .int v_generations, .int v_synced, .int v_rKind, .int v_rSeq, .int v_rId, .int v_rVersion, .int v_rEnd, .long v_rSource, .ref a_tKind, .ref a_tA, .ref a_tB, .ref a_points, .ref a_holds, .int v_tokens, .int v_visible])), (a_bytes, .inl (X.1.2.2.1, 960, .inl v_bytes)), (a_lengths, .inl (X.1.2.2.1, 4, .inl v_lengths))] [(0, .ref a_this), (1, .int x0), (2, .int x1)] 0 []
  refine g_sipush (v := 240) C dX6_reads_0 (by decide) ?_
  refine g_iload_n C dX6_reads_3 rfl 1 rfl ?_
  refine g_imul C dX6_reads_4 hf (fun z1 hf => ?_)
  refine g_iload_n C dX6_reads_5 rfl 2 rfl ?_
  refine g_iadd C dX6_reads_6 hf (fun z2 hf => ?_)
  refine g_istore_n (lv2 := [(3, .int z2), (0, .ref a_this), (1, .int x0), (2, .int x1)]) C dX6_reads_7 rfl (by decide) rfl ?_
  refine g_aload_n C dX6_reads_8 rfl 1 rfl ?_
  refine g_get C inX6_reads_6 0 rfl rfl 18 (by decide) (List.mem_of_getElem? (i := 1) rfl) rfl rfl dX6_reads_9 ?_
  refine g_iload_n C dX6_reads_12 rfl 2 rfl ?_
  refine g_iaload C 2 rfl dX6_reads_13 hf (fun z3 hf => ?_)
  refine g_iload_n C dX6_reads_14 rfl 3 rfl ?_
  refine g_isub C dX6_reads_15 hf (fun z4 hf => ?_)
  refine g_istore (lv2 := [(4, .int z4), (3, .int z2), (0, .ref a_this), (1, .int x0), (2, .int x1)]) C dX6_reads_16 (by decide) rfl ?_
  refine g_iload C dX6_reads_18 0 rfl ?_
  refine g_iconst (v := 2) C dX6_reads_20 (by decide) ?_
  refine g_icmp_ge C dX6_reads_21 (tgt := 26) (by decide) hf (fun hf => ?_) (fun hf => ?_)
  · refine g_aload_n C dX6_reads_26 rfl 2 rfl ?_
    refine g_get C inX6_reads_6 0 rfl rfl 17 (by decide) (List.mem_of_getElem? (i := 2) rfl) rfl rfl dX6_reads_27 ?_
    refine g_iload_n C dX6_reads_30 rfl 1 rfl ?_
    refine g_iaload C 1 rfl dX6_reads_31 hf (fun z5 hf => ?_)
    refine g_istore (lv2 := [(5, .int z5), (4, .int z4), (3, .int z2), (0, .ref a_this), (1, .int x0), (2, .int x1)]) C dX6_reads_32 (by decide) rfl ?_
    refine g_aload_n C dX6_reads_34 rfl 3 rfl ?_
    refine g_aload_n C dX6_reads_35 rfl 3 rfl ?_
    refine g_get C inX6_reads_6 0 rfl rfl 17 (by decide) (List.mem_of_getElem? (i := 2) rfl) rfl rfl dX6_reads_36 ?_
    refine g_iload_n C dX6_reads_39 rfl 2 rfl ?_
    refine g_iconst (v := 1) C dX6_reads_40 (by decide) ?_
    refine g_iadd C dX6_reads_41 hf (fun z6 hf => ?_)
    refine g_iaload C 1 rfl dX6_reads_42 hf (fun z7 hf => ?_)
    refine g_put (Wd2 := [(a_this, .inr (6, [.ref a_kinds, .ref a_seqs, .ref a_versions, .ref a_oldKinds, .ref a_oldSeqs, .ref a_oldVersions, .ref a_seenSeqs, .ref a_sources, .ref a_oldSources, .ref a_seenSources, .ref a_done, .int v_checkpoint, .int v_max, .int v_persisted, .int v_oldCheckpoint, .int v_oldMax, .int v_down, .ref a_bytes, .ref a_lengths, .ref a_greatest, .int v_oldest, .int v_generations, .int v_synced, .int z7, .int v_rSeq, .int v_rId, .int v_rVersion, .int v_rEnd, .long v_rSource, .ref a_tKind, .ref a_tA, .ref a_tB, .ref a_points, .ref a_holds, .int v_tokens, .int v_visible])), (a_bytes, .inl (X.1.2.2.1, 960, .inl v_bytes)), (a_lengths, .inl (X.1.2.2.1, 4, .inl v_lengths))]) C inX6_reads_6 tyX6 tyX6_ok nmX6 0 rfl rfl 23 (by decide) (List.mem_of_getElem? (i := 3) rfl) rfl rfl rfl rfl (Nat.le_of_ble_eq_true rfl) dX6_reads_43 rfl ?_
    refine g_aload_n C dX6_reads_46 rfl 3 rfl ?_
    refine g_get C inX6_reads_6 0 rfl rfl 23 (by decide) (List.mem_of_getElem? (i := 3) rfl) rfl rfl dX6_reads_47 ?_
    refine g_iconst (v := 1) C dX6_reads_50 (by decide) ?_
    refine g_iconst (v := 3) C dX6_reads_51 (by decide) ?_
    obtain ⟨r8, hq9, hf⟩ := cal1_x hf
    refine g_callS (As := [.int z7, .int 1, .int 3]) (rest := []) (st2 := [.int r8]) (n := 3) C (cX6_in_ok X.1 z7 1 3 hq9) gX6_reads_X6_in rfl rfl rfl (by decide +kernel) (by decide) [] (by decide) rfl [0, 1, 2] (Wr := [(a_this, .inr (6, [.ref a_kinds, .ref a_seqs, .ref a_versions, .ref a_oldKinds, .ref a_oldSeqs, .ref a_oldVersions, .ref a_seenSeqs, .ref a_sources, .ref a_oldSources, .ref a_seenSources, .ref a_done, .int v_checkpoint, .int v_max, .int v_persisted, .int v_oldCheckpoint, .int v_oldMax, .int v_down, .ref a_bytes, .ref a_lengths, .ref a_greatest, .int v_oldest, .int v_generations, .int v_synced, .int z7, .int v_rSeq, .int v_rId, .int v_rVersion, .int v_rEnd, .long v_rSource, .ref a_tKind, .ref a_tA, .ref a_tB, .ref a_points, .ref a_holds, .int v_tokens, .int v_visible])), (a_bytes, .inl (X.1.2.2.1, 960, .inl v_bytes)), (a_lengths, .inl (X.1.2.2.1, 4, .inl v_lengths))]) (by decide) rfl (by decide) [0, 1, 2] (by decide) (Wn := fun _ => [(a_this, .inr (6, [.ref a_kinds, .ref a_seqs, .ref a_versions, .ref a_oldKinds, .ref a_oldSeqs, .ref a_oldVersions, .ref a_seenSeqs, .ref a_sources, .ref a_oldSources, .ref a_seenSources, .ref a_done, .int v_checkpoint, .int v_max, .int v_persisted, .int v_oldCheckpoint, .int v_oldMax, .int v_down, .ref a_bytes, .ref a_lengths, .ref a_greatest, .int v_oldest, .int v_generations, .int v_synced, .int z7, .int v_rSeq, .int v_rId, .int v_rVersion, .int v_rEnd, .long v_rSource, .ref a_tKind, .ref a_tA, .ref a_tB, .ref a_points, .ref a_holds, .int v_tokens, .int v_visible])), (a_bytes, .inl (X.1.2.2.1, 960, .inl v_bytes)), (a_lengths, .inl (X.1.2.2.1, 4, .inl v_lengths))]) (fun _ => rfl) rfl rfl rfl (Nat.le_of_ble_eq_true rfl) dX6_reads_52 ⟨Nat.le_refl _, Nat.le_refl _⟩ (fun _ => ?_)
    obtain ⟨J79, eJ79, hf⟩ := jp_x hf
    have hJ79 : J79 = some t → G X 0 0 [(a_this, .inr (6, [.ref a_kinds, .ref a_seqs, .ref a_versions, .ref a_oldKinds, .ref a_oldSeqs, .ref a_oldVersions, .ref a_seenSeqs, .ref a_sources, .ref a_oldSources, .ref a_seenSources, .ref a_done, .int v_checkpoint, .int v_max, .int v_persisted, .int v_oldCheckpoint, .int v_oldMax, .int v_down, .ref a_bytes, .ref a_lengths, .ref a_greatest, .int v_oldest, .int v_generations, .int v_synced, .int z7, .int v_rSeq, .int v_rId, .int v_rVersion, .int v_rEnd, .long v_rSource, .ref a_tKind, .ref a_tA, .ref a_tB, .ref a_points, .ref a_holds, .int v_tokens, .int v_visible])), (a_bytes, .inl (X.1.2.2.1, 960, .inl v_bytes)), (a_lengths, .inl (X.1.2.2.1, 4, .inl v_lengths))] [] 79 [] := by
      intro  hf
      have hf := app0 eJ79 hf
      refine g_iconst (v := 0) C dX6_reads_79 (by decide) ?_
      rw [← Option.some.inj hf] at hret
      exact hret () _ _ (show narrow .boolean (.int (0 : Int32)) = .int 0 from rfl) dX6_reads_80
    refine g_if_eq C dX6_reads_55 (tgt := 79) (by decide) hf (fun hf => ?_) (fun hf => ?_)
    · exact g_lv [] rfl (hJ79 hf)
    · refine g_iload C dX6_reads_58 0 rfl ?_
      refine g_aload_n C dX6_reads_60 rfl 3 rfl ?_
      refine g_get C inX6_reads_6 0 rfl rfl 23 (by decide) (List.mem_of_getElem? (i := 3) rfl) rfl rfl dX6_reads_61 ?_
      obtain ⟨r10, hq11, hf⟩ := cal1_x hf
      refine g_callS (As := [.int z7]) (rest := [.int z5]) (st2 := [.int r10, .int z5]) (n := 1) C (cX6_sizeOf_ok X.1 z7 hq11) gX6_reads_X6_sizeOf rfl rfl rfl (by decide +kernel) (by decide) [] (by decide) rfl [0, 1, 2] (Wr := [(a_this, .inr (6, [.ref a_kinds, .ref a_seqs, .ref a_versions, .ref a_oldKinds, .ref a_oldSeqs, .ref a_oldVersions, .ref a_seenSeqs, .ref a_sources, .ref a_oldSources, .ref a_seenSources, .ref a_done, .int v_checkpoint, .int v_max, .int v_persisted, .int v_oldCheckpoint, .int v_oldMax, .int v_down, .ref a_bytes, .ref a_lengths, .ref a_greatest, .int v_oldest, .int v_generations, .int v_synced, .int z7, .int v_rSeq, .int v_rId, .int v_rVersion, .int v_rEnd, .long v_rSource, .ref a_tKind, .ref a_tA, .ref a_tB, .ref a_points, .ref a_holds, .int v_tokens, .int v_visible])), (a_bytes, .inl (X.1.2.2.1, 960, .inl v_bytes)), (a_lengths, .inl (X.1.2.2.1, 4, .inl v_lengths))]) (by decide) rfl (by decide) [0, 1, 2] (by decide) (Wn := fun _ => [(a_this, .inr (6, [.ref a_kinds, .ref a_seqs, .ref a_versions, .ref a_oldKinds, .ref a_oldSeqs, .ref a_oldVersions, .ref a_seenSeqs, .ref a_sources, .ref a_oldSources, .ref a_seenSources, .ref a_done, .int v_checkpoint, .int v_max, .int v_persisted, .int v_oldCheckpoint, .int v_oldMax, .int v_down, .ref a_bytes, .ref a_lengths, .ref a_greatest, .int v_oldest, .int v_generations, .int v_synced, .int z7, .int v_rSeq, .int v_rId, .int v_rVersion, .int v_rEnd, .long v_rSource, .ref a_tKind, .ref a_tA, .ref a_tB, .ref a_points, .ref a_holds, .int v_tokens, .int v_visible])), (a_bytes, .inl (X.1.2.2.1, 960, .inl v_bytes)), (a_lengths, .inl (X.1.2.2.1, 4, .inl v_lengths))]) (fun _ => rfl) rfl rfl rfl (Nat.le_of_ble_eq_true rfl) dX6_reads_64 ⟨Nat.le_refl _, Nat.le_refl _⟩ (fun _ => ?_)
      refine g_icmp_ne C dX6_reads_67 (tgt := 79) (by decide) hf (fun hf => ?_) (fun hf => ?_)
      · exact g_lv [] rfl (hJ79 hf)
      · refine g_iload C dX6_reads_70 1 rfl ?_
        refine g_iload C dX6_reads_72 0 rfl ?_
        refine g_iconst (v := 5) C dX6_reads_74 (by decide) ?_
        refine g_iadd C dX6_reads_75 hf (fun z12 hf => ?_)
        refine g_icmp_ge C dX6_reads_76 (tgt := 81) (by decide) hf (fun hf => ?_) (fun hf => ?_)
        · refine g_aload_n C dX6_reads_81 rfl 3 rfl ?_
          refine g_iload_n C dX6_reads_82 rfl 2 rfl ?_
          refine g_iload C dX6_reads_83 0 rfl ?_
          refine g_iconst (v := 1) C dX6_reads_85 (by decide) ?_
          refine g_iadd C dX6_reads_86 hf (fun z13 hf => ?_)
          obtain ⟨r14, hq15, hf⟩ := cal1_x hf
          refine g_callV (As := [.int z2, .int z13]) (rest := []) (st2 := [.int r14]) (n := 2) C (cX6_sum_ok X.1 a_this a_kinds a_seqs a_versions a_oldKinds a_oldSeqs a_oldVersions a_seenSeqs a_sources a_oldSources a_seenSources a_done a_bytes a_lengths a_greatest a_tKind a_tA a_tB a_points a_holds v_checkpoint v_max v_persisted v_oldCheckpoint v_oldMax v_down v_bytes v_oldest v_generations v_synced z7 v_rSeq v_rId v_rVersion v_rEnd v_rSource v_tokens v_visible z2 z13 hq15) gX6_reads_X6_sum rfl rfl rfl ⟨rfl, by decide +kernel⟩ (by decide) 0 rfl rfl rfl [0, 1] (by decide) rfl [2] (Wr := [(a_lengths, .inl (X.1.2.2.1, 4, .inl v_lengths))]) (by decide) rfl (by decide) [1, 2, 0] (by decide) (Wn := fun _ => [(a_this, .inr (6, [.ref a_kinds, .ref a_seqs, .ref a_versions, .ref a_oldKinds, .ref a_oldSeqs, .ref a_oldVersions, .ref a_seenSeqs, .ref a_sources, .ref a_oldSources, .ref a_seenSources, .ref a_done, .int v_checkpoint, .int v_max, .int v_persisted, .int v_oldCheckpoint, .int v_oldMax, .int v_down, .ref a_bytes, .ref a_lengths, .ref a_greatest, .int v_oldest, .int v_generations, .int v_synced, .int z7, .int v_rSeq, .int v_rId, .int v_rVersion, .int v_rEnd, .long v_rSource, .ref a_tKind, .ref a_tA, .ref a_tB, .ref a_points, .ref a_holds, .int v_tokens, .int v_visible])), (a_bytes, .inl (X.1.2.2.1, 960, .inl v_bytes)), (a_lengths, .inl (X.1.2.2.1, 4, .inl v_lengths))]) (fun _ => rfl) rfl rfl rfl (Nat.le_of_ble_eq_true rfl) dX6_reads_87 ⟨Nat.le_refl _, Nat.le_refl _⟩ (fun _ => ?_)
          refine g_istore (lv2 := [(6, .int r14), (5, .int z5), (4, .int z4), (3, .int z2), (0, .ref a_this), (1, .int x0), (2, .int x1)]) C dX6_reads_90 (by decide) rfl ?_
          refine g_aload_n C dX6_reads_92 rfl 4 rfl ?_
          refine g_iload_n C dX6_reads_93 rfl 3 rfl ?_
          refine g_iload C dX6_reads_94 1 rfl ?_
          refine g_iadd C dX6_reads_96 hf (fun z16 hf => ?_)
          refine g_iconst (v := 1) C dX6_reads_97 (by decide) ?_
          refine g_iadd C dX6_reads_98 hf (fun z17 hf => ?_)
          refine g_iconst (v := 4) C dX6_reads_99 (by decide) ?_
          obtain ⟨r18, hq19, hf⟩ := cal1_x hf
          refine g_callV (As := [.int z17, .int 4]) (rest := []) (st2 := [.long r18]) (n := 2) C (cX6_number_ok X.1 a_this a_kinds a_seqs a_versions a_oldKinds a_oldSeqs a_oldVersions a_seenSeqs a_sources a_oldSources a_seenSources a_done a_bytes a_lengths a_greatest a_tKind a_tA a_tB a_points a_holds v_checkpoint v_max v_persisted v_oldCheckpoint v_oldMax v_down v_bytes v_oldest v_generations v_synced z7 v_rSeq v_rId v_rVersion v_rEnd v_rSource v_tokens v_visible z17 4 hq19) gX6_reads_X6_number rfl rfl rfl ⟨rfl, by decide +kernel⟩ (by decide) 0 rfl rfl rfl [0, 1] (by decide) rfl [2] (Wr := [(a_lengths, .inl (X.1.2.2.1, 4, .inl v_lengths))]) (by decide) rfl (by decide) [1, 2, 0] (by decide) (Wn := fun _ => [(a_this, .inr (6, [.ref a_kinds, .ref a_seqs, .ref a_versions, .ref a_oldKinds, .ref a_oldSeqs, .ref a_oldVersions, .ref a_seenSeqs, .ref a_sources, .ref a_oldSources, .ref a_seenSources, .ref a_done, .int v_checkpoint, .int v_max, .int v_persisted, .int v_oldCheckpoint, .int v_oldMax, .int v_down, .ref a_bytes, .ref a_lengths, .ref a_greatest, .int v_oldest, .int v_generations, .int v_synced, .int z7, .int v_rSeq, .int v_rId, .int v_rVersion, .int v_rEnd, .long v_rSource, .ref a_tKind, .ref a_tA, .ref a_tB, .ref a_points, .ref a_holds, .int v_tokens, .int v_visible])), (a_bytes, .inl (X.1.2.2.1, 960, .inl v_bytes)), (a_lengths, .inl (X.1.2.2.1, 4, .inl v_lengths))]) (fun _ => rfl) rfl rfl rfl (Nat.le_of_ble_eq_true rfl) dX6_reads_100 ⟨Nat.le_refl _, Nat.le_refl _⟩ (fun _ => ?_)
          refine g_l2i C dX6_reads_103 hf (fun z20 hf => ?_)
          refine g_istore (lv2 := [(7, .int z20), (6, .int r14), (5, .int z5), (4, .int z4), (3, .int z2), (0, .ref a_this), (1, .int x0), (2, .int x1)]) C dX6_reads_104 (by decide) rfl ?_
          refine g_iload C dX6_reads_106 1 rfl ?_
          refine g_iload C dX6_reads_108 0 rfl ?_
          refine g_icmp_eq C dX6_reads_110 (tgt := 115) (by decide) hf (fun hf => ?_) (fun hf => ?_)
          · refine g_aload_n C dX6_reads_115 rfl 5 rfl ?_
            refine g_aload_n C dX6_reads_116 rfl 5 rfl ?_
            refine g_iload_n C dX6_reads_117 rfl 4 rfl ?_
            refine g_iconst (v := 2) C dX6_reads_118 (by decide) ?_
            refine g_iadd C dX6_reads_119 hf (fun z21 hf => ?_)
            refine g_iconst (v := 2) C dX6_reads_120 (by decide) ?_
            obtain ⟨r22, hq23, hf⟩ := cal1_x hf
            refine g_callV (As := [.int z21, .int 2]) (rest := [.ref a_this]) (st2 := [.long r22, .ref a_this]) (n := 2) C (cX6_number_ok X.1 a_this a_kinds a_seqs a_versions a_oldKinds a_oldSeqs a_oldVersions a_seenSeqs a_sources a_oldSources a_seenSources a_done a_bytes a_lengths a_greatest a_tKind a_tA a_tB a_points a_holds v_checkpoint v_max v_persisted v_oldCheckpoint v_oldMax v_down v_bytes v_oldest v_generations v_synced z7 v_rSeq v_rId v_rVersion v_rEnd v_rSource v_tokens v_visible z21 2 hq23) gX6_reads_X6_number rfl rfl rfl ⟨rfl, by decide +kernel⟩ (by decide) 0 rfl rfl rfl [0, 1] (by decide) rfl [2] (Wr := [(a_lengths, .inl (X.1.2.2.1, 4, .inl v_lengths))]) (by decide) rfl (by decide) [1, 2, 0] (by decide) (Wn := fun _ => [(a_this, .inr (6, [.ref a_kinds, .ref a_seqs, .ref a_versions, .ref a_oldKinds, .ref a_oldSeqs, .ref a_oldVersions, .ref a_seenSeqs, .ref a_sources, .ref a_oldSources, .ref a_seenSources, .ref a_done, .int v_checkpoint, .int v_max, .int v_persisted, .int v_oldCheckpoint, .int v_oldMax, .int v_down, .ref a_bytes, .ref a_lengths, .ref a_greatest, .int v_oldest, .int v_generations, .int v_synced, .int z7, .int v_rSeq, .int v_rId, .int v_rVersion, .int v_rEnd, .long v_rSource, .ref a_tKind, .ref a_tA, .ref a_tB, .ref a_points, .ref a_holds, .int v_tokens, .int v_visible])), (a_bytes, .inl (X.1.2.2.1, 960, .inl v_bytes)), (a_lengths, .inl (X.1.2.2.1, 4, .inl v_lengths))]) (fun _ => rfl) rfl rfl rfl (Nat.le_of_ble_eq_true rfl) dX6_reads_121 ⟨Nat.le_refl _, Nat.le_refl _⟩ (fun _ => ?_)
            refine g_l2i C dX6_reads_124 hf (fun z24 hf => ?_)
            refine g_put (Wd2 := [(a_this, .inr (6, [.ref a_kinds, .ref a_seqs, .ref a_versions, .ref a_oldKinds, .ref a_oldSeqs, .ref a_oldVersions, .ref a_seenSeqs, .ref a_sources, .ref a_oldSources, .ref a_seenSources, .ref a_done, .int v_checkpoint, .int v_max, .int v_persisted, .int v_oldCheckpoint, .int v_oldMax, .int v_down, .ref a_bytes, .ref a_lengths, .ref a_greatest, .int v_oldest, .int v_generations, .int v_synced, .int z7, .int z24, .int v_rId, .int v_rVersion, .int v_rEnd, .long v_rSource, .ref a_tKind, .ref a_tA, .ref a_tB, .ref a_points, .ref a_holds, .int v_tokens, .int v_visible])), (a_bytes, .inl (X.1.2.2.1, 960, .inl v_bytes)), (a_lengths, .inl (X.1.2.2.1, 4, .inl v_lengths))]) C inX6_reads_6 tyX6 tyX6_ok nmX6 0 rfl rfl 24 (by decide) (List.mem_of_getElem? (i := 4) rfl) rfl rfl rfl rfl (Nat.le_of_ble_eq_true rfl) dX6_reads_125 rfl ?_
            refine g_aload_n C dX6_reads_128 rfl 5 rfl ?_
            refine g_aload_n C dX6_reads_129 rfl 5 rfl ?_
            refine g_get C inX6_reads_6 0 rfl rfl 23 (by decide) (List.mem_of_getElem? (i := 3) rfl) rfl rfl dX6_reads_130 ?_
            refine g_iconst (v := 3) C dX6_reads_133 (by decide) ?_
            obtain ⟨J149, eJ149, hf⟩ := jp_x hf
            have hJ149 : ∀ (k25 : Int32), J149 k25 = some t → G X 0 0 [(a_this, .inr (6, [.ref a_kinds, .ref a_seqs, .ref a_versions, .ref a_oldKinds, .ref a_oldSeqs, .ref a_oldVersions, .ref a_seenSeqs, .ref a_sources, .ref a_oldSources, .ref a_seenSources, .ref a_done, .int v_checkpoint, .int v_max, .int v_persisted, .int v_oldCheckpoint, .int v_oldMax, .int v_down, .ref a_bytes, .ref a_lengths, .ref a_greatest, .int v_oldest, .int v_generations, .int v_synced, .int z7, .int z24, .int v_rId, .int v_rVersion, .int v_rEnd, .long v_rSource, .ref a_tKind, .ref a_tA, .ref a_tB, .ref a_points, .ref a_holds, .int v_tokens, .int v_visible])), (a_bytes, .inl (X.1.2.2.1, 960, .inl v_bytes)), (a_lengths, .inl (X.1.2.2.1, 4, .inl v_lengths))] [(0, .ref a_this), (2, .int x1), (3, .int z2), (5, .int z5)] 149 [.int k25, .ref a_this] := by
              intro k25 hf
              have hf := app1 eJ149 hf
              refine g_put (Wd2 := [(a_this, .inr (6, [.ref a_kinds, .ref a_seqs, .ref a_versions, .ref a_oldKinds, .ref a_oldSeqs, .ref a_oldVersions, .ref a_seenSeqs, .ref a_sources, .ref a_oldSources, .ref a_seenSources, .ref a_done, .int v_checkpoint, .int v_max, .int v_persisted, .int v_oldCheckpoint, .int v_oldMax, .int v_down, .ref a_bytes, .ref a_lengths, .ref a_greatest, .int v_oldest, .int v_generations, .int v_synced, .int z7, .int z24, .int k25, .int v_rVersion, .int v_rEnd, .long v_rSource, .ref a_tKind, .ref a_tA, .ref a_tB, .ref a_points, .ref a_holds, .int v_tokens, .int v_visible])), (a_bytes, .inl (X.1.2.2.1, 960, .inl v_bytes)), (a_lengths, .inl (X.1.2.2.1, 4, .inl v_lengths))]) C inX6_reads_6 tyX6 tyX6_ok nmX6 0 rfl rfl 25 (by decide) (List.mem_of_getElem? (i := 5) rfl) rfl rfl rfl rfl (Nat.le_of_ble_eq_true rfl) dX6_reads_149 rfl ?_
              refine g_aload_n C dX6_reads_152 rfl 0 rfl ?_
              refine g_aload_n C dX6_reads_153 rfl 0 rfl ?_
              refine g_get C inX6_reads_6 0 rfl rfl 23 (by decide) (List.mem_of_getElem? (i := 3) rfl) rfl rfl dX6_reads_154 ?_
              refine g_iconst (v := 3) C dX6_reads_157 (by decide) ?_
              obtain ⟨J174, eJ174, hf⟩ := jp_x hf
              have hJ174 : ∀ (k26 : Int32), J174 k26 = some t → G X 0 0 [(a_this, .inr (6, [.ref a_kinds, .ref a_seqs, .ref a_versions, .ref a_oldKinds, .ref a_oldSeqs, .ref a_oldVersions, .ref a_seenSeqs, .ref a_sources, .ref a_oldSources, .ref a_seenSources, .ref a_done, .int v_checkpoint, .int v_max, .int v_persisted, .int v_oldCheckpoint, .int v_oldMax, .int v_down, .ref a_bytes, .ref a_lengths, .ref a_greatest, .int v_oldest, .int v_generations, .int v_synced, .int z7, .int z24, .int k25, .int v_rVersion, .int v_rEnd, .long v_rSource, .ref a_tKind, .ref a_tA, .ref a_tB, .ref a_points, .ref a_holds, .int v_tokens, .int v_visible])), (a_bytes, .inl (X.1.2.2.1, 960, .inl v_bytes)), (a_lengths, .inl (X.1.2.2.1, 4, .inl v_lengths))] [(0, .ref a_this), (2, .int x1), (3, .int z2), (5, .int z5)] 174 [.int k26, .ref a_this] := by
                intro k26 hf
                have hf := app1 eJ174 hf
                refine g_put (Wd2 := [(a_this, .inr (6, [.ref a_kinds, .ref a_seqs, .ref a_versions, .ref a_oldKinds, .ref a_oldSeqs, .ref a_oldVersions, .ref a_seenSeqs, .ref a_sources, .ref a_oldSources, .ref a_seenSources, .ref a_done, .int v_checkpoint, .int v_max, .int v_persisted, .int v_oldCheckpoint, .int v_oldMax, .int v_down, .ref a_bytes, .ref a_lengths, .ref a_greatest, .int v_oldest, .int v_generations, .int v_synced, .int z7, .int z24, .int k25, .int k26, .int v_rEnd, .long v_rSource, .ref a_tKind, .ref a_tA, .ref a_tB, .ref a_points, .ref a_holds, .int v_tokens, .int v_visible])), (a_bytes, .inl (X.1.2.2.1, 960, .inl v_bytes)), (a_lengths, .inl (X.1.2.2.1, 4, .inl v_lengths))]) C inX6_reads_6 tyX6 tyX6_ok nmX6 0 rfl rfl 26 (by decide) (List.mem_of_getElem? (i := 6) rfl) rfl rfl rfl rfl (Nat.le_of_ble_eq_true rfl) dX6_reads_174 rfl ?_
                refine g_aload_n C dX6_reads_177 rfl 0 rfl ?_
                refine g_aload_n C dX6_reads_178 rfl 0 rfl ?_
                refine g_get C inX6_reads_6 0 rfl rfl 23 (by decide) (List.mem_of_getElem? (i := 3) rfl) rfl rfl dX6_reads_179 ?_
                refine g_iconst (v := 1) C dX6_reads_182 (by decide) ?_
                obtain ⟨J200, eJ200, hf⟩ := jp_x hf
                have hJ200 : ∀ (k27 : Int64), J200 k27 = some t → G X 0 0 [(a_this, .inr (6, [.ref a_kinds, .ref a_seqs, .ref a_versions, .ref a_oldKinds, .ref a_oldSeqs, .ref a_oldVersions, .ref a_seenSeqs, .ref a_sources, .ref a_oldSources, .ref a_seenSources, .ref a_done, .int v_checkpoint, .int v_max, .int v_persisted, .int v_oldCheckpoint, .int v_oldMax, .int v_down, .ref a_bytes, .ref a_lengths, .ref a_greatest, .int v_oldest, .int v_generations, .int v_synced, .int z7, .int z24, .int k25, .int k26, .int v_rEnd, .long v_rSource, .ref a_tKind, .ref a_tA, .ref a_tB, .ref a_points, .ref a_holds, .int v_tokens, .int v_visible])), (a_bytes, .inl (X.1.2.2.1, 960, .inl v_bytes)), (a_lengths, .inl (X.1.2.2.1, 4, .inl v_lengths))] [(0, .ref a_this), (2, .int x1), (5, .int z5)] 200 [.long k27, .ref a_this] := by
                  intro k27 hf
                  have hf := app1 eJ200 hf
                  refine g_put (Wd2 := [(a_this, .inr (6, [.ref a_kinds, .ref a_seqs, .ref a_versions, .ref a_oldKinds, .ref a_oldSeqs, .ref a_oldVersions, .ref a_seenSeqs, .ref a_sources, .ref a_oldSources, .ref a_seenSources, .ref a_done, .int v_checkpoint, .int v_max, .int v_persisted, .int v_oldCheckpoint, .int v_oldMax, .int v_down, .ref a_bytes, .ref a_lengths, .ref a_greatest, .int v_oldest, .int v_generations, .int v_synced, .int z7, .int z24, .int k25, .int k26, .int v_rEnd, .long k27, .ref a_tKind, .ref a_tA, .ref a_tB, .ref a_points, .ref a_holds, .int v_tokens, .int v_visible])), (a_bytes, .inl (X.1.2.2.1, 960, .inl v_bytes)), (a_lengths, .inl (X.1.2.2.1, 4, .inl v_lengths))]) C inX6_reads_6 tyX6 tyX6_ok nmX6 0 rfl rfl 28 (by decide) (List.mem_of_getElem? (i := 7) rfl) rfl rfl rfl rfl (Nat.le_of_ble_eq_true rfl) dX6_reads_200 rfl ?_
                  refine g_aload_n C dX6_reads_203 rfl 0 rfl ?_
                  refine g_iload_n C dX6_reads_204 rfl 1 rfl ?_
                  refine g_iload C dX6_reads_205 2 rfl ?_
                  refine g_iadd C dX6_reads_207 hf (fun z28 hf => ?_)
                  refine g_iconst (v := 5) C dX6_reads_208 (by decide) ?_
                  refine g_iadd C dX6_reads_209 hf (fun z29 hf => ?_)
                  refine g_put (Wd2 := [(a_this, .inr (6, [.ref a_kinds, .ref a_seqs, .ref a_versions, .ref a_oldKinds, .ref a_oldSeqs, .ref a_oldVersions, .ref a_seenSeqs, .ref a_sources, .ref a_oldSources, .ref a_seenSources, .ref a_done, .int v_checkpoint, .int v_max, .int v_persisted, .int v_oldCheckpoint, .int v_oldMax, .int v_down, .ref a_bytes, .ref a_lengths, .ref a_greatest, .int v_oldest, .int v_generations, .int v_synced, .int z7, .int z24, .int k25, .int k26, .int z29, .long k27, .ref a_tKind, .ref a_tA, .ref a_tB, .ref a_points, .ref a_holds, .int v_tokens, .int v_visible])), (a_bytes, .inl (X.1.2.2.1, 960, .inl v_bytes)), (a_lengths, .inl (X.1.2.2.1, 4, .inl v_lengths))]) C inX6_reads_6 tyX6 tyX6_ok nmX6 0 rfl rfl 27 (by decide) (List.mem_of_getElem? (i := 8) rfl) rfl rfl rfl rfl (Nat.le_of_ble_eq_true rfl) dX6_reads_210 rfl ?_
                  refine g_aload_n C dX6_reads_213 rfl 0 rfl ?_
                  refine g_get C inX6_reads_6 0 rfl rfl 25 (by decide) (List.mem_of_getElem? (i := 5) rfl) rfl rfl dX6_reads_214 ?_
                  refine g_bipush (v := 16) C dX6_reads_217 (by decide) ?_
                  obtain ⟨J241, eJ241, hf⟩ := jp_x hf
                  have hJ241 : ∀ (k30 : Int32), J241 k30 = some t → G X 0 0 [(a_this, .inr (6, [.ref a_kinds, .ref a_seqs, .ref a_versions, .ref a_oldKinds, .ref a_oldSeqs, .ref a_oldVersions, .ref a_seenSeqs, .ref a_sources, .ref a_oldSources, .ref a_seenSources, .ref a_done, .int v_checkpoint, .int v_max, .int v_persisted, .int v_oldCheckpoint, .int v_oldMax, .int v_down, .ref a_bytes, .ref a_lengths, .ref a_greatest, .int v_oldest, .int v_generations, .int v_synced, .int z7, .int z24, .int k25, .int k26, .int z29, .long k27, .ref a_tKind, .ref a_tA, .ref a_tB, .ref a_points, .ref a_holds, .int v_tokens, .int v_visible])), (a_bytes, .inl (X.1.2.2.1, 960, .inl v_bytes)), (a_lengths, .inl (X.1.2.2.1, 4, .inl v_lengths))] [] 241 [.int k30] := by
                    intro k30 hf
                    have hf := app1 eJ241 hf
                    obtain ⟨hz, hf⟩ := zok_x hf
                    rw [← Option.some.inj hf] at hret
                    exact hret () _ _ hz dX6_reads_241
                  obtain ⟨J240, eJ240, hf⟩ := jp_x hf
                  have hJ240 : J240 = some t → G X 0 0 [(a_this, .inr (6, [.ref a_kinds, .ref a_seqs, .ref a_versions, .ref a_oldKinds, .ref a_oldSeqs, .ref a_oldVersions, .ref a_seenSeqs, .ref a_sources, .ref a_oldSources, .ref a_seenSources, .ref a_done, .int v_checkpoint, .int v_max, .int v_persisted, .int v_oldCheckpoint, .int v_oldMax, .int v_down, .ref a_bytes, .ref a_lengths, .ref a_greatest, .int v_oldest, .int v_generations, .int v_synced, .int z7, .int z24, .int k25, .int k26, .int z29, .long k27, .ref a_tKind, .ref a_tA, .ref a_tB, .ref a_points, .ref a_holds, .int v_tokens, .int v_visible])), (a_bytes, .inl (X.1.2.2.1, 960, .inl v_bytes)), (a_lengths, .inl (X.1.2.2.1, 4, .inl v_lengths))] [] 240 [] := by
                    intro  hf
                    have hf := app0 eJ240 hf
                    refine g_iconst (v := 0) C dX6_reads_240 (by decide) ?_
                    exact hJ241 0 hf
                  refine g_icmp_ge C dX6_reads_219 (tgt := 240) (by decide) hf (fun hf => ?_) (fun hf => ?_)
                  · exact g_lv [] rfl (hJ240 hf)
                  · refine g_aload_n C dX6_reads_222 rfl 0 rfl ?_
                    refine g_get C inX6_reads_6 0 rfl rfl 24 (by decide) (List.mem_of_getElem? (i := 4) rfl) rfl rfl dX6_reads_223 ?_
                    refine g_aload_n C dX6_reads_226 rfl 0 rfl ?_
                    refine g_get C inX6_reads_6 0 rfl rfl 11 (by decide) (List.mem_of_getElem? (i := 9) rfl) rfl rfl dX6_reads_227 ?_
                    refine g_bipush (v := 64) C dX6_reads_230 (by decide) ?_
                    refine g_iadd C dX6_reads_232 hf (fun z31 hf => ?_)
                    refine g_icmp_gt C dX6_reads_233 (tgt := 240) (by decide) hf (fun hf => ?_) (fun hf => ?_)
                    · exact g_lv [] rfl (hJ240 hf)
                    · refine g_iconst (v := 1) C dX6_reads_236 (by decide) ?_
                      refine g_goto C dX6_reads_237 (tgt := 241) (by decide) ?_
                      exact g_lv [] rfl (hJ241 1 hf)
                refine g_icmp_ne C dX6_reads_183 (tgt := 199) (by decide) hf (fun hf => ?_) (fun hf => ?_)
                · refine g_lconst (v := 0) C dX6_reads_199 (by decide) ?_
                  exact g_lv [0, 1, 3] rfl (hJ200 0 hf)
                · refine g_aload_n C dX6_reads_186 rfl 0 rfl ?_
                  refine g_iload_n C dX6_reads_187 rfl 2 rfl ?_
                  refine g_bipush (v := 7) C dX6_reads_188 (by decide) ?_
                  refine g_iadd C dX6_reads_190 hf (fun z32 hf => ?_)
                  refine g_bipush (v := 8) C dX6_reads_191 (by decide) ?_
                  obtain ⟨r33, hq34, hf⟩ := cal1_x hf
                  refine g_callV (As := [.int z32, .int 8]) (rest := [.ref a_this]) (st2 := [.long r33, .ref a_this]) (n := 2) C (cX6_number_ok X.1 a_this a_kinds a_seqs a_versions a_oldKinds a_oldSeqs a_oldVersions a_seenSeqs a_sources a_oldSources a_seenSources a_done a_bytes a_lengths a_greatest a_tKind a_tA a_tB a_points a_holds v_checkpoint v_max v_persisted v_oldCheckpoint v_oldMax v_down v_bytes v_oldest v_generations v_synced z7 z24 k25 k26 v_rEnd v_rSource v_tokens v_visible z32 8 hq34) gX6_reads_X6_number rfl rfl rfl ⟨rfl, by decide +kernel⟩ (by decide) 0 rfl rfl rfl [0, 1] (by decide) rfl [2] (Wr := [(a_lengths, .inl (X.1.2.2.1, 4, .inl v_lengths))]) (by decide) rfl (by decide) [1, 2, 0] (by decide) (Wn := fun _ => [(a_this, .inr (6, [.ref a_kinds, .ref a_seqs, .ref a_versions, .ref a_oldKinds, .ref a_oldSeqs, .ref a_oldVersions, .ref a_seenSeqs, .ref a_sources, .ref a_oldSources, .ref a_seenSources, .ref a_done, .int v_checkpoint, .int v_max, .int v_persisted, .int v_oldCheckpoint, .int v_oldMax, .int v_down, .ref a_bytes, .ref a_lengths, .ref a_greatest, .int v_oldest, .int v_generations, .int v_synced, .int z7, .int z24, .int k25, .int k26, .int v_rEnd, .long v_rSource, .ref a_tKind, .ref a_tA, .ref a_tB, .ref a_points, .ref a_holds, .int v_tokens, .int v_visible])), (a_bytes, .inl (X.1.2.2.1, 960, .inl v_bytes)), (a_lengths, .inl (X.1.2.2.1, 4, .inl v_lengths))]) (fun _ => rfl) rfl rfl rfl (Nat.le_of_ble_eq_true rfl) dX6_reads_193 ⟨Nat.le_refl _, Nat.le_refl _⟩ (fun _ => ?_)
                  refine g_goto C dX6_reads_196 (tgt := 200) (by decide) ?_
                  exact g_lv [0, 1, 3] rfl (hJ200 r33 hf)
              refine g_icmp_ne C dX6_reads_158 (tgt := 165) (by decide) hf (fun hf => ?_) (fun hf => ?_)
              · refine g_aload_n C dX6_reads_165 rfl 0 rfl ?_
                refine g_iload_n C dX6_reads_166 rfl 2 rfl ?_
                refine g_iconst (v := 5) C dX6_reads_167 (by decide) ?_
                refine g_iadd C dX6_reads_168 hf (fun z35 hf => ?_)
                refine g_iconst (v := 2) C dX6_reads_169 (by decide) ?_
                obtain ⟨r36, hq37, hf⟩ := cal1_x hf
                refine g_callV (As := [.int z35, .int 2]) (rest := [.ref a_this]) (st2 := [.long r36, .ref a_this]) (n := 2) C (cX6_number_ok X.1 a_this a_kinds a_seqs a_versions a_oldKinds a_oldSeqs a_oldVersions a_seenSeqs a_sources a_oldSources a_seenSources a_done a_bytes a_lengths a_greatest a_tKind a_tA a_tB a_points a_holds v_checkpoint v_max v_persisted v_oldCheckpoint v_oldMax v_down v_bytes v_oldest v_generations v_synced z7 z24 k25 v_rVersion v_rEnd v_rSource v_tokens v_visible z35 2 hq37) gX6_reads_X6_number rfl rfl rfl ⟨rfl, by decide +kernel⟩ (by decide) 0 rfl rfl rfl [0, 1] (by decide) rfl [2] (Wr := [(a_lengths, .inl (X.1.2.2.1, 4, .inl v_lengths))]) (by decide) rfl (by decide) [1, 2, 0] (by decide) (Wn := fun _ => [(a_this, .inr (6, [.ref a_kinds, .ref a_seqs, .ref a_versions, .ref a_oldKinds, .ref a_oldSeqs, .ref a_oldVersions, .ref a_seenSeqs, .ref a_sources, .ref a_oldSources, .ref a_seenSources, .ref a_done, .int v_checkpoint, .int v_max, .int v_persisted, .int v_oldCheckpoint, .int v_oldMax, .int v_down, .ref a_bytes, .ref a_lengths, .ref a_greatest, .int v_oldest, .int v_generations, .int v_synced, .int z7, .int z24, .int k25, .int v_rVersion, .int v_rEnd, .long v_rSource, .ref a_tKind, .ref a_tA, .ref a_tB, .ref a_points, .ref a_holds, .int v_tokens, .int v_visible])), (a_bytes, .inl (X.1.2.2.1, 960, .inl v_bytes)), (a_lengths, .inl (X.1.2.2.1, 4, .inl v_lengths))]) (fun _ => rfl) rfl rfl rfl (Nat.le_of_ble_eq_true rfl) dX6_reads_170 ⟨Nat.le_refl _, Nat.le_refl _⟩ (fun _ => ?_)
                refine g_l2i C dX6_reads_173 hf (fun z38 hf => ?_)
                exact hJ174 z38 hf
              · refine g_iconst (v := 0) C dX6_reads_161 (by decide) ?_
                refine g_goto C dX6_reads_162 (tgt := 174) (by decide) ?_
                exact hJ174 0 hf
            refine g_icmp_ne C dX6_reads_134 (tgt := 141) (by decide) hf (fun hf => ?_) (fun hf => ?_)
            · refine g_aload_n C dX6_reads_141 rfl 5 rfl ?_
              refine g_get C inX6_reads_6 0 rfl rfl 17 (by decide) (List.mem_of_getElem? (i := 2) rfl) rfl rfl dX6_reads_142 ?_
              refine g_iload_n C dX6_reads_145 rfl 4 rfl ?_
              refine g_iconst (v := 4) C dX6_reads_146 (by decide) ?_
              refine g_iadd C dX6_reads_147 hf (fun z39 hf => ?_)
              refine g_iaload C 1 rfl dX6_reads_148 hf (fun z40 hf => ?_)
              exact g_lv [5, 7, 4, 2] rfl (hJ149 z40 hf)
            · refine g_iconst (v := 0) C dX6_reads_137 (by decide) ?_
              refine g_goto C dX6_reads_138 (tgt := 149) (by decide) ?_
              exact g_lv [5, 7, 4, 2] rfl (hJ149 0 hf)
          · refine g_iconst (v := 0) C dX6_reads_113 (by decide) ?_
            rw [← Option.some.inj hf] at hret
            exact hret () _ _ (show narrow .boolean (.int (0 : Int32)) = .int 0 from rfl) dX6_reads_114
        · exact g_lv [] rfl (hJ79 hf)
  · refine g_iconst (v := 0) C dX6_reads_24 (by decide) ?_
    rw [← Option.some.inj hf] at hret
    exact hret () _ _ (show narrow .boolean (.int (0 : Int32)) = .int 0 from rfl) dX6_reads_25
def fX6_isDone (v_done : Nat → Int32) (v_checkpoint : Int32) (x0 : Int32) : Option ((Int32)) :=
  (jp (fun (k1 : Int32) => (zok k1 (some (k1)))) (fun J29 => (jp (J29 1) (fun J24 => (if x0 ≤ v_checkpoint then J24 else (bnd (x0 - v_checkpoint : Int32) (fun z2 => (bnd (z2 - 1 : Int32) (fun z3 => (rdI v_done 65 z3 (fun z4 => (if z4 = 0 then (J29 0) else J24))))))))))))
theorem inX6_isDone_6 : ∀ w ∈ wsX60, w ∈ wsX6_isDone := fun _ h => List.mem_cons_of_mem _ (List.mem_append_right _ h)
set_option maxRecDepth 100000 in
set_option maxHeartbeats 8000000 in
theorem cX6_isDone_ok (L : XL) (a_this a_kinds a_seqs a_versions a_oldKinds a_oldSeqs a_oldVersions a_seenSeqs a_sources a_oldSources a_seenSources a_done a_bytes a_lengths a_greatest a_tKind a_tA a_tB a_points a_holds : Nat) (v_done : Nat → Int32) (v_checkpoint : Int32) (v_max : Int32) (v_persisted : Int32) (v_oldCheckpoint : Int32) (v_oldMax : Int32) (v_down : Int32) (v_oldest : Int32) (v_generations : Int32) (v_synced : Int32) (v_rKind : Int32) (v_rSeq : Int32) (v_rId : Int32) (v_rVersion : Int32) (v_rEnd : Int32) (v_rSource : Int64) (v_tokens : Int32) (v_visible : Int32) (x0 : Int32) {t : (Int32)} (hf : fX6_isDone v_done v_checkpoint x0 = some t) : xM L yX6_isDone wsX6_isDone ({ frames := 0, cells := 0, slots := 0, locals := 0 }) [.ref a_this, .int x0] [(a_this, .inr (6, [.ref a_kinds, .ref a_seqs, .ref a_versions, .ref a_oldKinds, .ref a_oldSeqs, .ref a_oldVersions, .ref a_seenSeqs, .ref a_sources, .ref a_oldSources, .ref a_seenSources, .ref a_done, .int v_checkpoint, .int v_max, .int v_persisted, .int v_oldCheckpoint, .int v_oldMax, .int v_down, .ref a_bytes, .ref a_lengths, .ref a_greatest, .int v_oldest, .int v_generations, .int v_synced, .int v_rKind, .int v_rSeq, .int v_rId, .int v_rVersion, .int v_rEnd, .long v_rSource, .ref a_tKind, .ref a_tA, .ref a_tB, .ref a_points, .ref a_holds, .int v_tokens, .int v_visible])), (a_done, .inl (L.2.2.2.2, 65, .inl v_done))] 0 0 (some (.int t)) (fun _ : Unit => [(a_this, .inr (6, [.ref a_kinds, .ref a_seqs, .ref a_versions, .ref a_oldKinds, .ref a_oldSeqs, .ref a_oldVersions, .ref a_seenSeqs, .ref a_sources, .ref a_oldSources, .ref a_seenSources, .ref a_done, .int v_checkpoint, .int v_max, .int v_persisted, .int v_oldCheckpoint, .int v_oldMax, .int v_down, .ref a_bytes, .ref a_lengths, .ref a_greatest, .int v_oldest, .int v_generations, .int v_synced, .int v_rKind, .int v_rSeq, .int v_rId, .int v_rVersion, .int v_rEnd, .long v_rSource, .ref a_tKind, .ref a_tA, .ref a_tB, .ref a_points, .ref a_holds, .int v_tokens, .int v_visible])), (a_done, .inl (L.2.2.2.2, 65, .inl v_done))]) := by
  refine enter_z (own := RX6) (by decide) rfl rfl (Nat.le_of_ble_eq_true rfl) ?_
  intro X hXL C _ hret
  subst hXL
  unfold fX6_isDone at hf
  show G X 0 0 [(a_this, .inr (6, [.ref a_kinds, .ref a_seqs, .ref a_versions, .ref a_oldKinds, .ref a_oldSeqs, .ref a_oldVersions, .ref a_seenSeqs, .ref a_sources, .ref a_oldSources, .ref a_seenSources, .ref a_done, .int v_checkpoint, .int v_max, .int v_persisted, .int v_oldCheckpoint, .int v_oldMax, .int v_down, .ref a_bytes, .ref a_lengths, .ref a_greatest, .int v_oldest, .int v_generations, .int v_synced, .int v_rKind, .int v_rSeq, .int v_rId, .int v_rVersion, .int v_rEnd, .long v_rSource, .ref a_tKind, .ref a_tA, .ref a_tB, .ref a_points, .ref a_holds, .int v_tokens, .int v_visible])), (a_done, .inl (X.1.2.2.2.2, 65, .inl v_done))] [(0, .ref a_this), (1, .int x0)] 0 []
  refine g_iload_n C dX6_isDone_0 rfl 1 rfl ?_
  refine g_aload_n C dX6_isDone_1 rfl 0 rfl ?_
  refine g_get C inX6_isDone_6 0 rfl rfl 11 (by decide) (List.mem_of_getElem? (i := 1) rfl) rfl rfl dX6_isDone_2 ?_
  obtain ⟨J29, eJ29, hf⟩ := jp_x hf
  have hJ29 : ∀ (k1 : Int32), J29 k1 = some t → G X 0 0 [(a_this, .inr (6, [.ref a_kinds, .ref a_seqs, .ref a_versions, .ref a_oldKinds, .ref a_oldSeqs, .ref a_oldVersions, .ref a_seenSeqs, .ref a_sources, .ref a_oldSources, .ref a_seenSources, .ref a_done, .int v_checkpoint, .int v_max, .int v_persisted, .int v_oldCheckpoint, .int v_oldMax, .int v_down, .ref a_bytes, .ref a_lengths, .ref a_greatest, .int v_oldest, .int v_generations, .int v_synced, .int v_rKind, .int v_rSeq, .int v_rId, .int v_rVersion, .int v_rEnd, .long v_rSource, .ref a_tKind, .ref a_tA, .ref a_tB, .ref a_points, .ref a_holds, .int v_tokens, .int v_visible])), (a_done, .inl (X.1.2.2.2.2, 65, .inl v_done))] [] 29 [.int k1] := by
    intro k1 hf
    have hf := app1 eJ29 hf
    obtain ⟨hz, hf⟩ := zok_x hf
    rw [← Option.some.inj hf] at hret
    exact hret () _ _ hz dX6_isDone_29
  obtain ⟨J24, eJ24, hf⟩ := jp_x hf
  have hJ24 : J24 = some t → G X 0 0 [(a_this, .inr (6, [.ref a_kinds, .ref a_seqs, .ref a_versions, .ref a_oldKinds, .ref a_oldSeqs, .ref a_oldVersions, .ref a_seenSeqs, .ref a_sources, .ref a_oldSources, .ref a_seenSources, .ref a_done, .int v_checkpoint, .int v_max, .int v_persisted, .int v_oldCheckpoint, .int v_oldMax, .int v_down, .ref a_bytes, .ref a_lengths, .ref a_greatest, .int v_oldest, .int v_generations, .int v_synced, .int v_rKind, .int v_rSeq, .int v_rId, .int v_rVersion, .int v_rEnd, .long v_rSource, .ref a_tKind, .ref a_tA, .ref a_tB, .ref a_points, .ref a_holds, .int v_tokens, .int v_visible])), (a_done, .inl (X.1.2.2.2.2, 65, .inl v_done))] [] 24 [] := by
    intro  hf
    have hf := app0 eJ24 hf
    refine g_iconst (v := 1) C dX6_isDone_24 (by decide) ?_
    refine g_goto C dX6_isDone_25 (tgt := 29) (by decide) ?_
    exact hJ29 1 hf
  refine g_icmp_le C dX6_isDone_5 (tgt := 24) (by decide) hf (fun hf => ?_) (fun hf => ?_)
  · exact g_lv [] rfl (hJ24 hf)
  · refine g_aload_n C dX6_isDone_8 rfl 0 rfl ?_
    refine g_get C inX6_isDone_6 0 rfl rfl 10 (by decide) (List.mem_of_getElem? (i := 2) rfl) rfl rfl dX6_isDone_9 ?_
    refine g_iload_n C dX6_isDone_12 rfl 1 rfl ?_
    refine g_aload_n C dX6_isDone_13 rfl 0 rfl ?_
    refine g_get C inX6_isDone_6 0 rfl rfl 11 (by decide) (List.mem_of_getElem? (i := 1) rfl) rfl rfl dX6_isDone_14 ?_
    refine g_isub C dX6_isDone_17 hf (fun z2 hf => ?_)
    refine g_iconst (v := 1) C dX6_isDone_18 (by decide) ?_
    refine g_isub C dX6_isDone_19 hf (fun z3 hf => ?_)
    refine g_zaload C 1 rfl dX6_isDone_20 hf (fun z4 hf => ?_)
    refine g_if_eq C dX6_isDone_21 (tgt := 28) (by decide) hf (fun hf => ?_) (fun hf => ?_)
    · refine g_iconst (v := 0) C dX6_isDone_28 (by decide) ?_
      exact g_lv [] rfl (hJ29 0 hf)
    · exact g_lv [] rfl (hJ24 hf)
def sX6_process_36 (J65 : (Nat → Int32) → Option ((Int32) × (Nat → Int32) × (Nat → Int32) × (Nat → Int32) × (Nat → Int64) × (Nat → Int32) × (Int32) × (Int32))) (R36 : (Int32) → (Nat → Int32) → Option ((Int32) × (Nat → Int32) × (Nat → Int32) × (Nat → Int32) × (Nat → Int64) × (Nat → Int32) × (Int32) × (Int32))) (y19 : Int32) (w20 : Nat → Int32) : Option ((Int32) × (Nat → Int32) × (Nat → Int32) × (Nat → Int32) × (Nat → Int64) × (Nat → Int32) × (Int32) × (Int32)) :=
  (if 64 ≤ y19 then (J65 w20) else (bnd (y19 + 1 : Int32) (fun z21 => (rdI w20 65 z21 (fun z22 => (wrZ w20 65 y19 z22 (fun g23 => (bnd (y19 + 1) (fun z24 => (R36 z24 g23))))))))))
def sX6_process_14 (J76 : (Nat → Int32) → (Int32) → Option ((Int32) × (Nat → Int32) × (Nat → Int32) × (Nat → Int32) × (Nat → Int64) × (Nat → Int32) × (Int32) × (Int32))) (R14 : (Nat → Int32) → (Int32) → Option ((Int32) × (Nat → Int32) × (Nat → Int32) × (Nat → Int32) × (Nat → Int64) × (Nat → Int32) × (Int32) × (Int32))) (w13 : Nat → Int32) (w14 : Int32) : Option ((Int32) × (Nat → Int32) × (Nat → Int32) × (Nat → Int32) × (Nat → Int64) × (Nat → Int32) × (Int32) × (Int32)) :=
  (rdI w13 65 0 (fun z15 => (if z15 = 0 then (J76 w13 w14) else (bnd (w14 + 1 : Int32) (fun z16 => (jp (fun (w17 : Nat → Int32) => (wrZ w17 65 64 0 (fun g18 => (R14 g18 z16)))) (fun J65 => (lo2 (sX6_process_36 J65) 1000 0 w13))))))))
def fX6_process (v_kinds : Nat → Int32) (v_seqs : Nat → Int32) (v_versions : Nat → Int32) (v_sources : Nat → Int64) (v_done : Nat → Int32) (v_checkpoint : Int32) (v_max : Int32) (x0 : Int32) (x1 : Int32) (x2 : Int32) (x3 : Int32) (x4 : Int64) : Option ((Int32) × (Nat → Int32) × (Nat → Int32) × (Nat → Int32) × (Nat → Int64) × (Nat → Int32) × (Int32) × (Int32)) :=
  (bnd (x2 - v_checkpoint : Int32) (fun z1 => (bnd (z1 - 1 : Int32) (fun z2 => (wrZ v_done 65 z2 1 (fun g3 => (jp (fun (w4 : Nat → Int32) (w5 : Int32) => (jp (fun (w6 : Int32) => (jp (some (0, v_kinds, v_seqs, v_versions, v_sources, w4, w5, w6)) (fun J104 => (if x0 = 3 then J104 else (rdI v_seqs 16 x1 (fun z7 => (if z7 < x2 then (wrI v_kinds 16 x1 x0 (fun g8 => (wrI v_seqs 16 x1 x2 (fun g9 => (wrI v_versions 16 x1 x3 (fun g10 => (jp (fun (k11 : Int64) => (wrJ v_sources 16 x1 k11 (fun g12 => (some (1, g8, g9, g10, g12, w4, w5, w6))))) (fun J144 => (if x0 = 1 then (J144 x4) else (J144 0)))))))))) else J104))))))) (fun J89 => (if x2 ≤ v_max then (J89 v_max) else (J89 x2))))) (fun J76 => (lo2 (sX6_process_14 J76) 1000 g3 v_checkpoint)))))))))
theorem inX6_process_6 : ∀ w ∈ wsX60, w ∈ wsX6_process := fun _ h => List.mem_cons_of_mem _ (List.mem_append_right _ h)
set_option maxRecDepth 100000 in
set_option maxHeartbeats 8000000 in
theorem cX6_process_ok (L : XL) (a_this a_kinds a_seqs a_versions a_oldKinds a_oldSeqs a_oldVersions a_seenSeqs a_sources a_oldSources a_seenSources a_done a_bytes a_lengths a_greatest a_tKind a_tA a_tB a_points a_holds : Nat) (v_kinds : Nat → Int32) (v_seqs : Nat → Int32) (v_versions : Nat → Int32) (v_sources : Nat → Int64) (v_done : Nat → Int32) (v_checkpoint : Int32) (v_max : Int32) (v_persisted : Int32) (v_oldCheckpoint : Int32) (v_oldMax : Int32) (v_down : Int32) (v_oldest : Int32) (v_generations : Int32) (v_synced : Int32) (v_rKind : Int32) (v_rSeq : Int32) (v_rId : Int32) (v_rVersion : Int32) (v_rEnd : Int32) (v_rSource : Int64) (v_tokens : Int32) (v_visible : Int32) (x0 : Int32) (x1 : Int32) (x2 : Int32) (x3 : Int32) (x4 : Int64) {t : (Int32) × (Nat → Int32) × (Nat → Int32) × (Nat → Int32) × (Nat → Int64) × (Nat → Int32) × (Int32) × (Int32)} (hf : fX6_process v_kinds v_seqs v_versions v_sources v_done v_checkpoint v_max x0 x1 x2 x3 x4 = some t) : xM L yX6_process wsX6_process ({ frames := 0, cells := 0, slots := 0, locals := 0 }) [.ref a_this, .int x0, .int x1, .int x2, .int x3, .long x4] [(a_this, .inr (6, [.ref a_kinds, .ref a_seqs, .ref a_versions, .ref a_oldKinds, .ref a_oldSeqs, .ref a_oldVersions, .ref a_seenSeqs, .ref a_sources, .ref a_oldSources, .ref a_seenSources, .ref a_done, .int v_checkpoint, .int v_max, .int v_persisted, .int v_oldCheckpoint, .int v_oldMax, .int v_down, .ref a_bytes, .ref a_lengths, .ref a_greatest, .int v_oldest, .int v_generations, .int v_synced, .int v_rKind, .int v_rSeq, .int v_rId, .int v_rVersion, .int v_rEnd, .long v_rSource, .ref a_tKind, .ref a_tA, .ref a_tB, .ref a_points, .ref a_holds, .int v_tokens, .int v_visible])), (a_kinds, .inl (L.2.2.1, 16, .inl v_kinds)), (a_seqs, .inl (L.2.2.1, 16, .inl v_seqs)), (a_versions, .inl (L.2.2.1, 16, .inl v_versions)), (a_sources, .inl (L.2.2.2.1, 16, .inr (.inl v_sources))), (a_done, .inl (L.2.2.2.2, 65, .inl v_done))] 0 0 (some (.int t.1)) (fun _ : Unit => [(a_this, .inr (6, [.ref a_kinds, .ref a_seqs, .ref a_versions, .ref a_oldKinds, .ref a_oldSeqs, .ref a_oldVersions, .ref a_seenSeqs, .ref a_sources, .ref a_oldSources, .ref a_seenSources, .ref a_done, .int t.2.2.2.2.2.2.1, .int t.2.2.2.2.2.2.2, .int v_persisted, .int v_oldCheckpoint, .int v_oldMax, .int v_down, .ref a_bytes, .ref a_lengths, .ref a_greatest, .int v_oldest, .int v_generations, .int v_synced, .int v_rKind, .int v_rSeq, .int v_rId, .int v_rVersion, .int v_rEnd, .long v_rSource, .ref a_tKind, .ref a_tA, .ref a_tB, .ref a_points, .ref a_holds, .int v_tokens, .int v_visible])), (a_kinds, .inl (L.2.2.1, 16, .inl t.2.1)), (a_seqs, .inl (L.2.2.1, 16, .inl t.2.2.1)), (a_versions, .inl (L.2.2.1, 16, .inl t.2.2.2.1)), (a_sources, .inl (L.2.2.2.1, 16, .inr (.inl t.2.2.2.2.1))), (a_done, .inl (L.2.2.2.2, 65, .inl t.2.2.2.2.2.1))]) := by
  refine enter_z (own := RX6) (by decide) rfl rfl (Nat.le_of_ble_eq_true rfl) ?_
  intro X hXL C _ hret
  subst hXL
  unfold fX6_process at hf
  show G X 0 0 [(a_this, .inr (6, [.ref a_kinds, .ref a_seqs, .ref a_versions, .ref a_oldKinds, .ref a_oldSeqs, .ref a_oldVersions, .ref a_seenSeqs, .ref a_sources, .ref a_oldSources, .ref a_seenSources, .ref a_done, .int v_checkpoint, .int v_max, .int v_persisted, .int v_oldCheckpoint, .int v_oldMax, .int v_down, .ref a_bytes, .ref a_lengths, .ref a_greatest, .int v_oldest, .int v_generations, .int v_synced, .int v_rKind, .int v_rSeq, .int v_rId, .int v_rVersion, .int v_rEnd, .long v_rSource, .ref a_tKind, .ref a_tA, .ref a_tB, .ref a_points, .ref a_holds, .int v_tokens, .int v_visible])), (a_kinds, .inl (X.1.2.2.1, 16, .inl v_kinds)), (a_seqs, .inl (X.1.2.2.1, 16, .inl v_seqs)), (a_versions, .inl (X.1.2.2.1, 16, .inl v_versions)), (a_sources, .inl (X.1.2.2.2.1, 16, .inr (.inl v_sources))), (a_done, .inl (X.1.2.2.2.2, 65, .inl v_done))] [(0, .ref a_this), (1, .int x0), (2, .int x1), (3, .int x2), (4, .int x3), (5, .long x4)] 0 []
  refine g_aload_n C dX6_process_0 rfl 0 rfl ?_
  refine g_get C inX6_process_6 0 rfl rfl 10 (by decide) (List.mem_of_getElem? (i := 1) rfl) rfl rfl dX6_process_1 ?_
  refine g_iload_n C dX6_process_4 rfl 3 rfl ?_
  refine g_aload_n C dX6_process_5 rfl 0 rfl ?_
  refine g_get C inX6_process_6 0 rfl rfl 11 (by decide) (List.mem_of_getElem? (i := 2) rfl) rfl rfl dX6_process_6 ?_
  refine g_isub C dX6_process_9 hf (fun z1 hf => ?_)
  refine g_iconst (v := 1) C dX6_process_10 (by decide) ?_
  refine g_isub C dX6_process_11 hf (fun z2 hf => ?_)
  refine g_iconst (v := 1) C dX6_process_12 (by decide) ?_
  refine g_zastore (Wd2 := fun g3 => [(a_this, .inr (6, [.ref a_kinds, .ref a_seqs, .ref a_versions, .ref a_oldKinds, .ref a_oldSeqs, .ref a_oldVersions, .ref a_seenSeqs, .ref a_sources, .ref a_oldSources, .ref a_seenSources, .ref a_done, .int v_checkpoint, .int v_max, .int v_persisted, .int v_oldCheckpoint, .int v_oldMax, .int v_down, .ref a_bytes, .ref a_lengths, .ref a_greatest, .int v_oldest, .int v_generations, .int v_synced, .int v_rKind, .int v_rSeq, .int v_rId, .int v_rVersion, .int v_rEnd, .long v_rSource, .ref a_tKind, .ref a_tA, .ref a_tB, .ref a_points, .ref a_holds, .int v_tokens, .int v_visible])), (a_kinds, .inl (X.1.2.2.1, 16, .inl v_kinds)), (a_seqs, .inl (X.1.2.2.1, 16, .inl v_seqs)), (a_versions, .inl (X.1.2.2.1, 16, .inl v_versions)), (a_sources, .inl (X.1.2.2.2.1, 16, .inr (.inl v_sources))), (a_done, .inl (X.1.2.2.2.2, 65, .inl g3))]) C 5 rfl dX6_process_13 hf (fun _ => rfl) (fun g3 hf => ?_)
  obtain ⟨J76, eJ76, hf⟩ := jp_x hf
  have hJ76 : ∀ (w4 : Nat → Int32) (w5 : Int32), J76 w4 w5 = some t → G X 0 0 [(a_this, .inr (6, [.ref a_kinds, .ref a_seqs, .ref a_versions, .ref a_oldKinds, .ref a_oldSeqs, .ref a_oldVersions, .ref a_seenSeqs, .ref a_sources, .ref a_oldSources, .ref a_seenSources, .ref a_done, .int w5, .int v_max, .int v_persisted, .int v_oldCheckpoint, .int v_oldMax, .int v_down, .ref a_bytes, .ref a_lengths, .ref a_greatest, .int v_oldest, .int v_generations, .int v_synced, .int v_rKind, .int v_rSeq, .int v_rId, .int v_rVersion, .int v_rEnd, .long v_rSource, .ref a_tKind, .ref a_tA, .ref a_tB, .ref a_points, .ref a_holds, .int v_tokens, .int v_visible])), (a_kinds, .inl (X.1.2.2.1, 16, .inl v_kinds)), (a_seqs, .inl (X.1.2.2.1, 16, .inl v_seqs)), (a_versions, .inl (X.1.2.2.1, 16, .inl v_versions)), (a_sources, .inl (X.1.2.2.2.1, 16, .inr (.inl v_sources))), (a_done, .inl (X.1.2.2.2.2, 65, .inl w4))] [(0, .ref a_this), (1, .int x0), (2, .int x1), (3, .int x2), (4, .int x3), (5, .long x4)] 76 [] := by
    intro w4 w5 hf
    have hf := app2 eJ76 hf
    refine g_iload_n C dX6_process_76 rfl 3 rfl ?_
    refine g_aload_n C dX6_process_77 rfl 0 rfl ?_
    refine g_get C inX6_process_6 0 rfl rfl 12 (by decide) (List.mem_of_getElem? (i := 3) rfl) rfl rfl dX6_process_78 ?_
    obtain ⟨J89, eJ89, hf⟩ := jp_x hf
    have hJ89 : ∀ (w6 : Int32), J89 w6 = some t → G X 0 0 [(a_this, .inr (6, [.ref a_kinds, .ref a_seqs, .ref a_versions, .ref a_oldKinds, .ref a_oldSeqs, .ref a_oldVersions, .ref a_seenSeqs, .ref a_sources, .ref a_oldSources, .ref a_seenSources, .ref a_done, .int w5, .int w6, .int v_persisted, .int v_oldCheckpoint, .int v_oldMax, .int v_down, .ref a_bytes, .ref a_lengths, .ref a_greatest, .int v_oldest, .int v_generations, .int v_synced, .int v_rKind, .int v_rSeq, .int v_rId, .int v_rVersion, .int v_rEnd, .long v_rSource, .ref a_tKind, .ref a_tA, .ref a_tB, .ref a_points, .ref a_holds, .int v_tokens, .int v_visible])), (a_kinds, .inl (X.1.2.2.1, 16, .inl v_kinds)), (a_seqs, .inl (X.1.2.2.1, 16, .inl v_seqs)), (a_versions, .inl (X.1.2.2.1, 16, .inl v_versions)), (a_sources, .inl (X.1.2.2.2.1, 16, .inr (.inl v_sources))), (a_done, .inl (X.1.2.2.2.2, 65, .inl w4))] [(0, .ref a_this), (1, .int x0), (2, .int x1), (3, .int x2), (4, .int x3), (5, .long x4)] 89 [] := by
      intro w6 hf
      have hf := app1 eJ89 hf
      refine g_iload_n C dX6_process_89 rfl 1 rfl ?_
      refine g_iconst (v := 3) C dX6_process_90 (by decide) ?_
      obtain ⟨J104, eJ104, hf⟩ := jp_x hf
      have hJ104 : J104 = some t → G X 0 0 [(a_this, .inr (6, [.ref a_kinds, .ref a_seqs, .ref a_versions, .ref a_oldKinds, .ref a_oldSeqs, .ref a_oldVersions, .ref a_seenSeqs, .ref a_sources, .ref a_oldSources, .ref a_seenSources, .ref a_done, .int w5, .int w6, .int v_persisted, .int v_oldCheckpoint, .int v_oldMax, .int v_down, .ref a_bytes, .ref a_lengths, .ref a_greatest, .int v_oldest, .int v_generations, .int v_synced, .int v_rKind, .int v_rSeq, .int v_rId, .int v_rVersion, .int v_rEnd, .long v_rSource, .ref a_tKind, .ref a_tA, .ref a_tB, .ref a_points, .ref a_holds, .int v_tokens, .int v_visible])), (a_kinds, .inl (X.1.2.2.1, 16, .inl v_kinds)), (a_seqs, .inl (X.1.2.2.1, 16, .inl v_seqs)), (a_versions, .inl (X.1.2.2.1, 16, .inl v_versions)), (a_sources, .inl (X.1.2.2.2.1, 16, .inr (.inl v_sources))), (a_done, .inl (X.1.2.2.2.2, 65, .inl w4))] [] 104 [] := by
        intro  hf
        have hf := app0 eJ104 hf
        refine g_iconst (v := 0) C dX6_process_104 (by decide) ?_
        rw [← Option.some.inj hf] at hret
        exact hret () _ _ (show narrow .boolean (.int (0 : Int32)) = .int 0 from rfl) dX6_process_105
      refine g_icmp_eq C dX6_process_91 (tgt := 104) (by decide) hf (fun hf => ?_) (fun hf => ?_)
      · exact g_lv [] rfl (hJ104 hf)
      · refine g_iload_n C dX6_process_94 rfl 3 rfl ?_
        refine g_aload_n C dX6_process_95 rfl 0 rfl ?_
        refine g_get C inX6_process_6 0 rfl rfl 1 (by decide) (List.mem_of_getElem? (i := 4) rfl) rfl rfl dX6_process_96 ?_
        refine g_iload_n C dX6_process_99 rfl 2 rfl ?_
        refine g_iaload C 2 rfl dX6_process_100 hf (fun z7 hf => ?_)
        refine g_icmp_gt C dX6_process_101 (tgt := 106) (by decide) hf (fun hf => ?_) (fun hf => ?_)
        · refine g_aload_n C dX6_process_106 rfl 0 rfl ?_
          refine g_get C inX6_process_6 0 rfl rfl 0 (by decide) (List.mem_of_getElem? (i := 5) rfl) rfl rfl dX6_process_107 ?_
          refine g_iload_n C dX6_process_110 rfl 2 rfl ?_
          refine g_iload_n C dX6_process_111 rfl 1 rfl ?_
          refine g_iastore (Wd2 := fun g8 => [(a_this, .inr (6, [.ref a_kinds, .ref a_seqs, .ref a_versions, .ref a_oldKinds, .ref a_oldSeqs, .ref a_oldVersions, .ref a_seenSeqs, .ref a_sources, .ref a_oldSources, .ref a_seenSources, .ref a_done, .int w5, .int w6, .int v_persisted, .int v_oldCheckpoint, .int v_oldMax, .int v_down, .ref a_bytes, .ref a_lengths, .ref a_greatest, .int v_oldest, .int v_generations, .int v_synced, .int v_rKind, .int v_rSeq, .int v_rId, .int v_rVersion, .int v_rEnd, .long v_rSource, .ref a_tKind, .ref a_tA, .ref a_tB, .ref a_points, .ref a_holds, .int v_tokens, .int v_visible])), (a_kinds, .inl (X.1.2.2.1, 16, .inl g8)), (a_seqs, .inl (X.1.2.2.1, 16, .inl v_seqs)), (a_versions, .inl (X.1.2.2.1, 16, .inl v_versions)), (a_sources, .inl (X.1.2.2.2.1, 16, .inr (.inl v_sources))), (a_done, .inl (X.1.2.2.2.2, 65, .inl w4))]) C 1 rfl dX6_process_112 hf (fun _ => rfl) (fun g8 hf => ?_)
          refine g_aload_n C dX6_process_113 rfl 0 rfl ?_
          refine g_get C inX6_process_6 0 rfl rfl 1 (by decide) (List.mem_of_getElem? (i := 4) rfl) rfl rfl dX6_process_114 ?_
          refine g_iload_n C dX6_process_117 rfl 2 rfl ?_
          refine g_iload_n C dX6_process_118 rfl 3 rfl ?_
          refine g_iastore (Wd2 := fun g9 => [(a_this, .inr (6, [.ref a_kinds, .ref a_seqs, .ref a_versions, .ref a_oldKinds, .ref a_oldSeqs, .ref a_oldVersions, .ref a_seenSeqs, .ref a_sources, .ref a_oldSources, .ref a_seenSources, .ref a_done, .int w5, .int w6, .int v_persisted, .int v_oldCheckpoint, .int v_oldMax, .int v_down, .ref a_bytes, .ref a_lengths, .ref a_greatest, .int v_oldest, .int v_generations, .int v_synced, .int v_rKind, .int v_rSeq, .int v_rId, .int v_rVersion, .int v_rEnd, .long v_rSource, .ref a_tKind, .ref a_tA, .ref a_tB, .ref a_points, .ref a_holds, .int v_tokens, .int v_visible])), (a_kinds, .inl (X.1.2.2.1, 16, .inl g8)), (a_seqs, .inl (X.1.2.2.1, 16, .inl g9)), (a_versions, .inl (X.1.2.2.1, 16, .inl v_versions)), (a_sources, .inl (X.1.2.2.2.1, 16, .inr (.inl v_sources))), (a_done, .inl (X.1.2.2.2.2, 65, .inl w4))]) C 2 rfl dX6_process_119 hf (fun _ => rfl) (fun g9 hf => ?_)
          refine g_aload_n C dX6_process_120 rfl 0 rfl ?_
          refine g_get C inX6_process_6 0 rfl rfl 2 (by decide) (List.mem_of_getElem? (i := 6) rfl) rfl rfl dX6_process_121 ?_
          refine g_iload_n C dX6_process_124 rfl 2 rfl ?_
          refine g_iload C dX6_process_125 4 rfl ?_
          refine g_iastore (Wd2 := fun g10 => [(a_this, .inr (6, [.ref a_kinds, .ref a_seqs, .ref a_versions, .ref a_oldKinds, .ref a_oldSeqs, .ref a_oldVersions, .ref a_seenSeqs, .ref a_sources, .ref a_oldSources, .ref a_seenSources, .ref a_done, .int w5, .int w6, .int v_persisted, .int v_oldCheckpoint, .int v_oldMax, .int v_down, .ref a_bytes, .ref a_lengths, .ref a_greatest, .int v_oldest, .int v_generations, .int v_synced, .int v_rKind, .int v_rSeq, .int v_rId, .int v_rVersion, .int v_rEnd, .long v_rSource, .ref a_tKind, .ref a_tA, .ref a_tB, .ref a_points, .ref a_holds, .int v_tokens, .int v_visible])), (a_kinds, .inl (X.1.2.2.1, 16, .inl g8)), (a_seqs, .inl (X.1.2.2.1, 16, .inl g9)), (a_versions, .inl (X.1.2.2.1, 16, .inl g10)), (a_sources, .inl (X.1.2.2.2.1, 16, .inr (.inl v_sources))), (a_done, .inl (X.1.2.2.2.2, 65, .inl w4))]) C 3 rfl dX6_process_127 hf (fun _ => rfl) (fun g10 hf => ?_)
          refine g_aload_n C dX6_process_128 rfl 0 rfl ?_
          refine g_get C inX6_process_6 0 rfl rfl 7 (by decide) (List.mem_of_getElem? (i := 7) rfl) rfl rfl dX6_process_129 ?_
          refine g_iload_n C dX6_process_132 rfl 2 rfl ?_
          refine g_iload_n C dX6_process_133 rfl 1 rfl ?_
          refine g_iconst (v := 1) C dX6_process_134 (by decide) ?_
          obtain ⟨J144, eJ144, hf⟩ := jp_x hf
          have hJ144 : ∀ (k11 : Int64), J144 k11 = some t → G X 0 0 [(a_this, .inr (6, [.ref a_kinds, .ref a_seqs, .ref a_versions, .ref a_oldKinds, .ref a_oldSeqs, .ref a_oldVersions, .ref a_seenSeqs, .ref a_sources, .ref a_oldSources, .ref a_seenSources, .ref a_done, .int w5, .int w6, .int v_persisted, .int v_oldCheckpoint, .int v_oldMax, .int v_down, .ref a_bytes, .ref a_lengths, .ref a_greatest, .int v_oldest, .int v_generations, .int v_synced, .int v_rKind, .int v_rSeq, .int v_rId, .int v_rVersion, .int v_rEnd, .long v_rSource, .ref a_tKind, .ref a_tA, .ref a_tB, .ref a_points, .ref a_holds, .int v_tokens, .int v_visible])), (a_kinds, .inl (X.1.2.2.1, 16, .inl g8)), (a_seqs, .inl (X.1.2.2.1, 16, .inl g9)), (a_versions, .inl (X.1.2.2.1, 16, .inl g10)), (a_sources, .inl (X.1.2.2.2.1, 16, .inr (.inl v_sources))), (a_done, .inl (X.1.2.2.2.2, 65, .inl w4))] [] 144 [.long k11, .int x1, .ref a_sources] := by
            intro k11 hf
            have hf := app1 eJ144 hf
            refine g_lastore (Wd2 := fun g12 => [(a_this, .inr (6, [.ref a_kinds, .ref a_seqs, .ref a_versions, .ref a_oldKinds, .ref a_oldSeqs, .ref a_oldVersions, .ref a_seenSeqs, .ref a_sources, .ref a_oldSources, .ref a_seenSources, .ref a_done, .int w5, .int w6, .int v_persisted, .int v_oldCheckpoint, .int v_oldMax, .int v_down, .ref a_bytes, .ref a_lengths, .ref a_greatest, .int v_oldest, .int v_generations, .int v_synced, .int v_rKind, .int v_rSeq, .int v_rId, .int v_rVersion, .int v_rEnd, .long v_rSource, .ref a_tKind, .ref a_tA, .ref a_tB, .ref a_points, .ref a_holds, .int v_tokens, .int v_visible])), (a_kinds, .inl (X.1.2.2.1, 16, .inl g8)), (a_seqs, .inl (X.1.2.2.1, 16, .inl g9)), (a_versions, .inl (X.1.2.2.1, 16, .inl g10)), (a_sources, .inl (X.1.2.2.2.1, 16, .inr (.inl g12))), (a_done, .inl (X.1.2.2.2.2, 65, .inl w4))]) C 4 rfl dX6_process_144 hf (fun _ => rfl) (fun g12 hf => ?_)
            refine g_iconst (v := 1) C dX6_process_145 (by decide) ?_
            rw [← Option.some.inj hf] at hret
            exact hret () _ _ (show narrow .boolean (.int (1 : Int32)) = .int 1 from rfl) dX6_process_146
          refine g_icmp_ne C dX6_process_135 (tgt := 143) (by decide) hf (fun hf => ?_) (fun hf => ?_)
          · refine g_lconst (v := 0) C dX6_process_143 (by decide) ?_
            exact g_lv [] rfl (hJ144 0 hf)
          · refine g_lload C dX6_process_138 5 rfl ?_
            refine g_goto C dX6_process_140 (tgt := 144) (by decide) ?_
            exact g_lv [] rfl (hJ144 x4 hf)
        · exact g_lv [] rfl (hJ104 hf)
    refine g_icmp_le C dX6_process_81 (tgt := 89) (by decide) hf (fun hf => ?_) (fun hf => ?_)
    · exact hJ89 v_max hf
    · refine g_aload_n C dX6_process_84 rfl 0 rfl ?_
      refine g_iload_n C dX6_process_85 rfl 3 rfl ?_
      refine g_put (Wd2 := [(a_this, .inr (6, [.ref a_kinds, .ref a_seqs, .ref a_versions, .ref a_oldKinds, .ref a_oldSeqs, .ref a_oldVersions, .ref a_seenSeqs, .ref a_sources, .ref a_oldSources, .ref a_seenSources, .ref a_done, .int w5, .int x2, .int v_persisted, .int v_oldCheckpoint, .int v_oldMax, .int v_down, .ref a_bytes, .ref a_lengths, .ref a_greatest, .int v_oldest, .int v_generations, .int v_synced, .int v_rKind, .int v_rSeq, .int v_rId, .int v_rVersion, .int v_rEnd, .long v_rSource, .ref a_tKind, .ref a_tA, .ref a_tB, .ref a_points, .ref a_holds, .int v_tokens, .int v_visible])), (a_kinds, .inl (X.1.2.2.1, 16, .inl v_kinds)), (a_seqs, .inl (X.1.2.2.1, 16, .inl v_seqs)), (a_versions, .inl (X.1.2.2.1, 16, .inl v_versions)), (a_sources, .inl (X.1.2.2.2.1, 16, .inr (.inl v_sources))), (a_done, .inl (X.1.2.2.2.2, 65, .inl w4))]) C inX6_process_6 tyX6 tyX6_ok nmX6 0 rfl rfl 12 (by decide) (List.mem_of_getElem? (i := 3) rfl) rfl rfl rfl rfl (Nat.le_of_ble_eq_true rfl) dX6_process_86 rfl ?_
      exact hJ89 x2 hf
  have hL14 : ∀ (n : Nat) (w13 : Nat → Int32) (w14 : Int32), lo2 (sX6_process_14 J76) n w13 w14 = some t → G X 0 0 [(a_this, .inr (6, [.ref a_kinds, .ref a_seqs, .ref a_versions, .ref a_oldKinds, .ref a_oldSeqs, .ref a_oldVersions, .ref a_seenSeqs, .ref a_sources, .ref a_oldSources, .ref a_seenSources, .ref a_done, .int w14, .int v_max, .int v_persisted, .int v_oldCheckpoint, .int v_oldMax, .int v_down, .ref a_bytes, .ref a_lengths, .ref a_greatest, .int v_oldest, .int v_generations, .int v_synced, .int v_rKind, .int v_rSeq, .int v_rId, .int v_rVersion, .int v_rEnd, .long v_rSource, .ref a_tKind, .ref a_tA, .ref a_tB, .ref a_points, .ref a_holds, .int v_tokens, .int v_visible])), (a_kinds, .inl (X.1.2.2.1, 16, .inl v_kinds)), (a_seqs, .inl (X.1.2.2.1, 16, .inl v_seqs)), (a_versions, .inl (X.1.2.2.1, 16, .inl v_versions)), (a_sources, .inl (X.1.2.2.2.1, 16, .inr (.inl v_sources))), (a_done, .inl (X.1.2.2.2.2, 65, .inl w13))] [(0, .ref a_this), (1, .int x0), (2, .int x1), (3, .int x2), (4, .int x3), (5, .long x4)] 14 [] := by
    intro n
    induction n with
    | zero => intro w13 w14 hf; exact (lo2_z hf).elim
    | succ n ih14 =>
      intro w13 w14 hf
      obtain ⟨R14, eR14, hf⟩ := lo2_x hf
      unfold sX6_process_14 at hf
      refine g_aload_n C dX6_process_14 rfl 0 rfl ?_
      refine g_get C inX6_process_6 0 rfl rfl 10 (by decide) (List.mem_of_getElem? (i := 1) rfl) rfl rfl dX6_process_15 ?_
      refine g_iconst (v := 0) C dX6_process_18 (by decide) ?_
      refine g_zaload C 5 rfl dX6_process_19 hf (fun z15 hf => ?_)
      refine g_if_eq C dX6_process_20 (tgt := 76) (by decide) hf (fun hf => ?_) (fun hf => ?_)
      · exact hJ76 w13 w14 hf
      · refine g_aload_n C dX6_process_23 rfl 0 rfl ?_
        refine g_dup C dX6_process_24 rfl ?_
        refine g_get C inX6_process_6 0 rfl rfl 11 (by decide) (List.mem_of_getElem? (i := 2) rfl) rfl rfl dX6_process_25 ?_
        refine g_iconst (v := 1) C dX6_process_28 (by decide) ?_
        refine g_iadd C dX6_process_29 hf (fun z16 hf => ?_)
        refine g_put (Wd2 := [(a_this, .inr (6, [.ref a_kinds, .ref a_seqs, .ref a_versions, .ref a_oldKinds, .ref a_oldSeqs, .ref a_oldVersions, .ref a_seenSeqs, .ref a_sources, .ref a_oldSources, .ref a_seenSources, .ref a_done, .int z16, .int v_max, .int v_persisted, .int v_oldCheckpoint, .int v_oldMax, .int v_down, .ref a_bytes, .ref a_lengths, .ref a_greatest, .int v_oldest, .int v_generations, .int v_synced, .int v_rKind, .int v_rSeq, .int v_rId, .int v_rVersion, .int v_rEnd, .long v_rSource, .ref a_tKind, .ref a_tA, .ref a_tB, .ref a_points, .ref a_holds, .int v_tokens, .int v_visible])), (a_kinds, .inl (X.1.2.2.1, 16, .inl v_kinds)), (a_seqs, .inl (X.1.2.2.1, 16, .inl v_seqs)), (a_versions, .inl (X.1.2.2.1, 16, .inl v_versions)), (a_sources, .inl (X.1.2.2.2.1, 16, .inr (.inl v_sources))), (a_done, .inl (X.1.2.2.2.2, 65, .inl w13))]) C inX6_process_6 tyX6 tyX6_ok nmX6 0 rfl rfl 11 (by decide) (List.mem_of_getElem? (i := 2) rfl) rfl rfl rfl rfl (Nat.le_of_ble_eq_true rfl) dX6_process_30 rfl ?_
        refine g_iconst (v := 0) C dX6_process_33 (by decide) ?_
        refine g_istore (lv2 := [(7, .int 0), (0, .ref a_this), (1, .int x0), (2, .int x1), (3, .int x2), (4, .int x3), (5, .long x4)]) C dX6_process_34 (by decide) rfl ?_
        obtain ⟨J65, eJ65, hf⟩ := jp_x hf
        have hJ65 : ∀ (w17 : Nat → Int32), J65 w17 = some t → G X 0 0 [(a_this, .inr (6, [.ref a_kinds, .ref a_seqs, .ref a_versions, .ref a_oldKinds, .ref a_oldSeqs, .ref a_oldVersions, .ref a_seenSeqs, .ref a_sources, .ref a_oldSources, .ref a_seenSources, .ref a_done, .int z16, .int v_max, .int v_persisted, .int v_oldCheckpoint, .int v_oldMax, .int v_down, .ref a_bytes, .ref a_lengths, .ref a_greatest, .int v_oldest, .int v_generations, .int v_synced, .int v_rKind, .int v_rSeq, .int v_rId, .int v_rVersion, .int v_rEnd, .long v_rSource, .ref a_tKind, .ref a_tA, .ref a_tB, .ref a_points, .ref a_holds, .int v_tokens, .int v_visible])), (a_kinds, .inl (X.1.2.2.1, 16, .inl v_kinds)), (a_seqs, .inl (X.1.2.2.1, 16, .inl v_seqs)), (a_versions, .inl (X.1.2.2.1, 16, .inl v_versions)), (a_sources, .inl (X.1.2.2.2.1, 16, .inr (.inl v_sources))), (a_done, .inl (X.1.2.2.2.2, 65, .inl w17))] [(0, .ref a_this), (1, .int x0), (2, .int x1), (3, .int x2), (4, .int x3), (5, .long x4)] 65 [] := by
          intro w17 hf
          have hf := app1 eJ65 hf
          refine g_aload_n C dX6_process_65 rfl 0 rfl ?_
          refine g_get C inX6_process_6 0 rfl rfl 10 (by decide) (List.mem_of_getElem? (i := 1) rfl) rfl rfl dX6_process_66 ?_
          refine g_bipush (v := 64) C dX6_process_69 (by decide) ?_
          refine g_iconst (v := 0) C dX6_process_71 (by decide) ?_
          refine g_zastore (Wd2 := fun g18 => [(a_this, .inr (6, [.ref a_kinds, .ref a_seqs, .ref a_versions, .ref a_oldKinds, .ref a_oldSeqs, .ref a_oldVersions, .ref a_seenSeqs, .ref a_sources, .ref a_oldSources, .ref a_seenSources, .ref a_done, .int z16, .int v_max, .int v_persisted, .int v_oldCheckpoint, .int v_oldMax, .int v_down, .ref a_bytes, .ref a_lengths, .ref a_greatest, .int v_oldest, .int v_generations, .int v_synced, .int v_rKind, .int v_rSeq, .int v_rId, .int v_rVersion, .int v_rEnd, .long v_rSource, .ref a_tKind, .ref a_tA, .ref a_tB, .ref a_points, .ref a_holds, .int v_tokens, .int v_visible])), (a_kinds, .inl (X.1.2.2.1, 16, .inl v_kinds)), (a_seqs, .inl (X.1.2.2.1, 16, .inl v_seqs)), (a_versions, .inl (X.1.2.2.1, 16, .inl v_versions)), (a_sources, .inl (X.1.2.2.2.1, 16, .inr (.inl v_sources))), (a_done, .inl (X.1.2.2.2.2, 65, .inl g18))]) C 5 rfl dX6_process_72 hf (fun _ => rfl) (fun g18 hf => ?_)
          refine g_goto C dX6_process_73 (tgt := 14) (by decide) ?_
          exact ih14 g18 z16 (app2 eR14 hf)
        have hL36 : ∀ (n : Nat) (y19 : Int32) (w20 : Nat → Int32), lo2 (sX6_process_36 J65) n y19 w20 = some t → G X 0 0 [(a_this, .inr (6, [.ref a_kinds, .ref a_seqs, .ref a_versions, .ref a_oldKinds, .ref a_oldSeqs, .ref a_oldVersions, .ref a_seenSeqs, .ref a_sources, .ref a_oldSources, .ref a_seenSources, .ref a_done, .int z16, .int v_max, .int v_persisted, .int v_oldCheckpoint, .int v_oldMax, .int v_down, .ref a_bytes, .ref a_lengths, .ref a_greatest, .int v_oldest, .int v_generations, .int v_synced, .int v_rKind, .int v_rSeq, .int v_rId, .int v_rVersion, .int v_rEnd, .long v_rSource, .ref a_tKind, .ref a_tA, .ref a_tB, .ref a_points, .ref a_holds, .int v_tokens, .int v_visible])), (a_kinds, .inl (X.1.2.2.1, 16, .inl v_kinds)), (a_seqs, .inl (X.1.2.2.1, 16, .inl v_seqs)), (a_versions, .inl (X.1.2.2.1, 16, .inl v_versions)), (a_sources, .inl (X.1.2.2.2.1, 16, .inr (.inl v_sources))), (a_done, .inl (X.1.2.2.2.2, 65, .inl w20))] [(0, .ref a_this), (1, .int x0), (2, .int x1), (3, .int x2), (4, .int x3), (5, .long x4), (7, .int y19)] 36 [] := by
          intro n
          induction n with
          | zero => intro y19 w20 hf; exact (lo2_z hf).elim
          | succ n ih36 =>
            intro y19 w20 hf
            obtain ⟨R36, eR36, hf⟩ := lo2_x hf
            unfold sX6_process_36 at hf
            refine g_iload C dX6_process_36 6 rfl ?_
            refine g_bipush (v := 64) C dX6_process_38 (by decide) ?_
            refine g_icmp_ge C dX6_process_40 (tgt := 65) (by decide) hf (fun hf => ?_) (fun hf => ?_)
            · exact g_lv [0, 1, 2, 3, 4, 5] rfl (hJ65 w20 hf)
            · refine g_aload_n C dX6_process_43 rfl 0 rfl ?_
              refine g_get C inX6_process_6 0 rfl rfl 10 (by decide) (List.mem_of_getElem? (i := 1) rfl) rfl rfl dX6_process_44 ?_
              refine g_iload C dX6_process_47 6 rfl ?_
              refine g_aload_n C dX6_process_49 rfl 0 rfl ?_
              refine g_get C inX6_process_6 0 rfl rfl 10 (by decide) (List.mem_of_getElem? (i := 1) rfl) rfl rfl dX6_process_50 ?_
              refine g_iload C dX6_process_53 6 rfl ?_
              refine g_iconst (v := 1) C dX6_process_55 (by decide) ?_
              refine g_iadd C dX6_process_56 hf (fun z21 hf => ?_)
              refine g_zaload C 5 rfl dX6_process_57 hf (fun z22 hf => ?_)
              refine g_zastore (Wd2 := fun g23 => [(a_this, .inr (6, [.ref a_kinds, .ref a_seqs, .ref a_versions, .ref a_oldKinds, .ref a_oldSeqs, .ref a_oldVersions, .ref a_seenSeqs, .ref a_sources, .ref a_oldSources, .ref a_seenSources, .ref a_done, .int z16, .int v_max, .int v_persisted, .int v_oldCheckpoint, .int v_oldMax, .int v_down, .ref a_bytes, .ref a_lengths, .ref a_greatest, .int v_oldest, .int v_generations, .int v_synced, .int v_rKind, .int v_rSeq, .int v_rId, .int v_rVersion, .int v_rEnd, .long v_rSource, .ref a_tKind, .ref a_tA, .ref a_tB, .ref a_points, .ref a_holds, .int v_tokens, .int v_visible])), (a_kinds, .inl (X.1.2.2.1, 16, .inl v_kinds)), (a_seqs, .inl (X.1.2.2.1, 16, .inl v_seqs)), (a_versions, .inl (X.1.2.2.1, 16, .inl v_versions)), (a_sources, .inl (X.1.2.2.2.1, 16, .inr (.inl v_sources))), (a_done, .inl (X.1.2.2.2.2, 65, .inl g23))]) C 5 rfl dX6_process_58 hf (fun _ => rfl) (fun g23 hf => ?_)
              refine g_iinc (v := 1) (lv2 := fun z24 => [(7, .int z24), (0, .ref a_this), (1, .int x0), (2, .int x1), (3, .int x2), (4, .int x3), (5, .long x4)]) C dX6_process_59 6 rfl (by decide) (by decide) hf (fun _ => rfl) (fun z24 hf => ?_)
              refine g_goto C dX6_process_62 (tgt := 36) (by decide) ?_
              exact g_lv [1, 2, 3, 4, 5, 6, 0] rfl (ih36 z24 g23 (app2 eR36 hf))
        exact g_lv [1, 2, 3, 4, 5, 6, 0] rfl (hL36 _ 0 w13 hf)
  exact hL14 _ g3 v_checkpoint hf
