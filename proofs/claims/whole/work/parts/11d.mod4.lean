def sX6_isQuery_4 (v_tokens : Int32) (J57 : (Int32) → Option ((Int32))) (v_tKind : Nat → Int32) (R4 : (Int32) → (Int32) → Option ((Int32))) (y3 : Int32) (y4 : Int32) : Option ((Int32)) :=
  (if v_tokens ≤ y4 then (J57 y3) else (if y3 = 0 then (some (0)) else (rdI v_tKind 15 y4 (fun z5 => (jp (fun (k6 : Int32) => (bnd (y3 + k6 : Int32) (fun z7 => (bnd (y4 + 1) (fun z8 => (R4 z7 z8)))))) (fun J49 => (if 4 ≤ z5 then (rdI v_tKind 15 y4 (fun z9 => (if 6 ≤ z9 then (J49 0) else (J49 1)))) else (J49 (-1)))))))))
def fX6_isQuery (v_tKind : Nat → Int32) (v_tokens : Int32) : Option ((Int32)) :=
  (jp (fun (y1 : Int32) => (jp (fun (k2 : Int32) => (zok k2 (some (k2)))) (fun J66 => (if y1 = 0 then (J66 1) else (J66 0))))) (fun J57 => (lo2 (sX6_isQuery_4 v_tokens J57 v_tKind) 1000 1 0)))
theorem inX6_isQuery_6 : ∀ w ∈ wsX60, w ∈ wsX6_isQuery := fun _ h => List.mem_cons_of_mem _ (List.mem_append_right _ h)
set_option maxRecDepth 100000 in
set_option maxHeartbeats 8000000 in
theorem cX6_isQuery_ok (L : XL) (a_this a_kinds a_seqs a_versions a_oldKinds a_oldSeqs a_oldVersions a_seenSeqs a_sources a_oldSources a_seenSources a_done a_bytes a_lengths a_greatest a_tKind a_tA a_tB a_points a_holds : Nat) (v_checkpoint : Int32) (v_max : Int32) (v_persisted : Int32) (v_oldCheckpoint : Int32) (v_oldMax : Int32) (v_down : Int32) (v_oldest : Int32) (v_generations : Int32) (v_synced : Int32) (v_rKind : Int32) (v_rSeq : Int32) (v_rId : Int32) (v_rVersion : Int32) (v_rEnd : Int32) (v_rSource : Int64) (v_tKind : Nat → Int32) (v_tokens : Int32) (v_visible : Int32)  {t : (Int32)} (hf : fX6_isQuery v_tKind v_tokens = some t) : xM L yX6_isQuery wsX6_isQuery ({ frames := 0, cells := 0, slots := 0, locals := 0 }) [.ref a_this] [(a_this, .inr (6, [.ref a_kinds, .ref a_seqs, .ref a_versions, .ref a_oldKinds, .ref a_oldSeqs, .ref a_oldVersions, .ref a_seenSeqs, .ref a_sources, .ref a_oldSources, .ref a_seenSources, .ref a_done, .int v_checkpoint, .int v_max, .int v_persisted, .int v_oldCheckpoint, .int v_oldMax, .int v_down, .ref a_bytes, .ref a_lengths, .ref a_greatest, .int v_oldest, .int v_generations, .int v_synced, .int v_rKind, .int v_rSeq, .int v_rId, .int v_rVersion, .int v_rEnd, .long v_rSource, .ref a_tKind, .ref a_tA, .ref a_tB, .ref a_points, .ref a_holds, .int v_tokens, .int v_visible])), (a_tKind, .inl (L.2.2.1, 15, .inl v_tKind))] 0 0 (some (.int t)) (fun _ : Unit => [(a_this, .inr (6, [.ref a_kinds, .ref a_seqs, .ref a_versions, .ref a_oldKinds, .ref a_oldSeqs, .ref a_oldVersions, .ref a_seenSeqs, .ref a_sources, .ref a_oldSources, .ref a_seenSources, .ref a_done, .int v_checkpoint, .int v_max, .int v_persisted, .int v_oldCheckpoint, .int v_oldMax, .int v_down, .ref a_bytes, .ref a_lengths, .ref a_greatest, .int v_oldest, .int v_generations, .int v_synced, .int v_rKind, .int v_rSeq, .int v_rId, .int v_rVersion, .int v_rEnd, .long v_rSource, .ref a_tKind, .ref a_tA, .ref a_tB, .ref a_points, .ref a_holds, .int v_tokens, .int v_visible])), (a_tKind, .inl (L.2.2.1, 15, .inl v_tKind))]) := by
  refine enter_z (own := RX6) (by decide) rfl rfl (Nat.le_of_ble_eq_true rfl) ?_
  intro X hXL C _ hret
  subst hXL
  unfold fX6_isQuery at hf
  show G X 0 0 [(a_this, .inr (6, [.ref a_kinds, .ref a_seqs, .ref a_versions, .ref a_oldKinds, .ref a_oldSeqs, .ref a_oldVersions, .ref a_seenSeqs, .ref a_sources, .ref a_oldSources, .ref a_seenSources, .ref a_done, .int v_checkpoint, .int v_max, .int v_persisted, .int v_oldCheckpoint, .int v_oldMax, .int v_down, .ref a_bytes, .ref a_lengths, .ref a_greatest, .int v_oldest, .int v_generations, .int v_synced, .int v_rKind, .int v_rSeq, .int v_rId, .int v_rVersion, .int v_rEnd, .long v_rSource, .ref a_tKind, .ref a_tA, .ref a_tB, .ref a_points, .ref a_holds, .int v_tokens, .int v_visible])), (a_tKind, .inl (X.1.2.2.1, 15, .inl v_tKind))] [(0, .ref a_this)] 0 []
  refine g_iconst (v := 1) C dX6_isQuery_0 (by decide) ?_
  refine g_istore_n (lv2 := [(1, .int 1), (0, .ref a_this)]) C dX6_isQuery_1 rfl (by decide) rfl ?_
  refine g_iconst (v := 0) C dX6_isQuery_2 (by decide) ?_
  refine g_istore_n (lv2 := [(2, .int 0), (1, .int 1), (0, .ref a_this)]) C dX6_isQuery_3 rfl (by decide) rfl ?_
  obtain ⟨J57, eJ57, hf⟩ := jp_x hf
  have hJ57 : ∀ (y1 : Int32), J57 y1 = some t → G X 0 0 [(a_this, .inr (6, [.ref a_kinds, .ref a_seqs, .ref a_versions, .ref a_oldKinds, .ref a_oldSeqs, .ref a_oldVersions, .ref a_seenSeqs, .ref a_sources, .ref a_oldSources, .ref a_seenSources, .ref a_done, .int v_checkpoint, .int v_max, .int v_persisted, .int v_oldCheckpoint, .int v_oldMax, .int v_down, .ref a_bytes, .ref a_lengths, .ref a_greatest, .int v_oldest, .int v_generations, .int v_synced, .int v_rKind, .int v_rSeq, .int v_rId, .int v_rVersion, .int v_rEnd, .long v_rSource, .ref a_tKind, .ref a_tA, .ref a_tB, .ref a_points, .ref a_holds, .int v_tokens, .int v_visible])), (a_tKind, .inl (X.1.2.2.1, 15, .inl v_tKind))] [(1, .int y1)] 57 [] := by
    intro y1 hf
    have hf := app1 eJ57 hf
    refine g_iload_n C dX6_isQuery_57 rfl 0 rfl ?_
    obtain ⟨J66, eJ66, hf⟩ := jp_x hf
    have hJ66 : ∀ (k2 : Int32), J66 k2 = some t → G X 0 0 [(a_this, .inr (6, [.ref a_kinds, .ref a_seqs, .ref a_versions, .ref a_oldKinds, .ref a_oldSeqs, .ref a_oldVersions, .ref a_seenSeqs, .ref a_sources, .ref a_oldSources, .ref a_seenSources, .ref a_done, .int v_checkpoint, .int v_max, .int v_persisted, .int v_oldCheckpoint, .int v_oldMax, .int v_down, .ref a_bytes, .ref a_lengths, .ref a_greatest, .int v_oldest, .int v_generations, .int v_synced, .int v_rKind, .int v_rSeq, .int v_rId, .int v_rVersion, .int v_rEnd, .long v_rSource, .ref a_tKind, .ref a_tA, .ref a_tB, .ref a_points, .ref a_holds, .int v_tokens, .int v_visible])), (a_tKind, .inl (X.1.2.2.1, 15, .inl v_tKind))] [] 66 [.int k2] := by
      intro k2 hf
      have hf := app1 eJ66 hf
      obtain ⟨hz, hf⟩ := zok_x hf
      rw [← Option.some.inj hf] at hret
      exact hret () _ _ hz dX6_isQuery_66
    refine g_if_ne C dX6_isQuery_58 (tgt := 65) (by decide) hf (fun hf => ?_) (fun hf => ?_)
    · refine g_iconst (v := 0) C dX6_isQuery_65 (by decide) ?_
      exact g_lv [] rfl (hJ66 0 hf)
    · refine g_iconst (v := 1) C dX6_isQuery_61 (by decide) ?_
      refine g_goto C dX6_isQuery_62 (tgt := 66) (by decide) ?_
      exact g_lv [] rfl (hJ66 1 hf)
  have hL4 : ∀ (n : Nat) (y3 : Int32) (y4 : Int32), lo2 (sX6_isQuery_4 v_tokens J57 v_tKind) n y3 y4 = some t → G X 0 0 [(a_this, .inr (6, [.ref a_kinds, .ref a_seqs, .ref a_versions, .ref a_oldKinds, .ref a_oldSeqs, .ref a_oldVersions, .ref a_seenSeqs, .ref a_sources, .ref a_oldSources, .ref a_seenSources, .ref a_done, .int v_checkpoint, .int v_max, .int v_persisted, .int v_oldCheckpoint, .int v_oldMax, .int v_down, .ref a_bytes, .ref a_lengths, .ref a_greatest, .int v_oldest, .int v_generations, .int v_synced, .int v_rKind, .int v_rSeq, .int v_rId, .int v_rVersion, .int v_rEnd, .long v_rSource, .ref a_tKind, .ref a_tA, .ref a_tB, .ref a_points, .ref a_holds, .int v_tokens, .int v_visible])), (a_tKind, .inl (X.1.2.2.1, 15, .inl v_tKind))] [(0, .ref a_this), (1, .int y3), (2, .int y4)] 4 [] := by
    intro n
    induction n with
    | zero => intro y3 y4 hf; exact (lo2_z hf).elim
    | succ n ih4 =>
      intro y3 y4 hf
      obtain ⟨R4, eR4, hf⟩ := lo2_x hf
      unfold sX6_isQuery_4 at hf
      refine g_iload_n C dX6_isQuery_4 rfl 2 rfl ?_
      refine g_aload_n C dX6_isQuery_5 rfl 0 rfl ?_
      refine g_get C inX6_isQuery_6 0 rfl rfl 34 (by decide) (List.mem_of_getElem? (i := 1) rfl) rfl rfl dX6_isQuery_6 ?_
      refine g_icmp_ge C dX6_isQuery_9 (tgt := 57) (by decide) hf (fun hf => ?_) (fun hf => ?_)
      · exact g_lv [1] rfl (hJ57 y3 hf)
      · refine g_iload_n C dX6_isQuery_12 rfl 1 rfl ?_
        refine g_if_ne C dX6_isQuery_13 (tgt := 18) (by decide) hf (fun hf => ?_) (fun hf => ?_)
        · refine g_iload_n C dX6_isQuery_18 rfl 1 rfl ?_
          refine g_aload_n C dX6_isQuery_19 rfl 0 rfl ?_
          refine g_get C inX6_isQuery_6 0 rfl rfl 29 (by decide) (List.mem_of_getElem? (i := 2) rfl) rfl rfl dX6_isQuery_20 ?_
          refine g_iload_n C dX6_isQuery_23 rfl 2 rfl ?_
          refine g_iaload C 1 rfl dX6_isQuery_24 hf (fun z5 hf => ?_)
          refine g_iconst (v := 4) C dX6_isQuery_25 (by decide) ?_
          obtain ⟨J49, eJ49, hf⟩ := jp_x hf
          have hJ49 : ∀ (k6 : Int32), J49 k6 = some t → G X 0 0 [(a_this, .inr (6, [.ref a_kinds, .ref a_seqs, .ref a_versions, .ref a_oldKinds, .ref a_oldSeqs, .ref a_oldVersions, .ref a_seenSeqs, .ref a_sources, .ref a_oldSources, .ref a_seenSources, .ref a_done, .int v_checkpoint, .int v_max, .int v_persisted, .int v_oldCheckpoint, .int v_oldMax, .int v_down, .ref a_bytes, .ref a_lengths, .ref a_greatest, .int v_oldest, .int v_generations, .int v_synced, .int v_rKind, .int v_rSeq, .int v_rId, .int v_rVersion, .int v_rEnd, .long v_rSource, .ref a_tKind, .ref a_tA, .ref a_tB, .ref a_points, .ref a_holds, .int v_tokens, .int v_visible])), (a_tKind, .inl (X.1.2.2.1, 15, .inl v_tKind))] [(0, .ref a_this), (2, .int y4)] 49 [.int k6, .int y3] := by
            intro k6 hf
            have hf := app1 eJ49 hf
            refine g_iadd C dX6_isQuery_49 hf (fun z7 hf => ?_)
            refine g_istore_n (lv2 := [(1, .int z7), (0, .ref a_this), (2, .int y4)]) C dX6_isQuery_50 rfl (by decide) rfl ?_
            refine g_iinc (v := 1) (lv2 := fun z8 => [(2, .int z8), (1, .int z7), (0, .ref a_this)]) C dX6_isQuery_51 2 rfl (by decide) (by decide) hf (fun _ => rfl) (fun z8 hf => ?_)
            refine g_goto C dX6_isQuery_54 (tgt := 4) (by decide) ?_
            exact g_lv [2, 1, 0] rfl (ih4 z7 z8 (app2 eR4 hf))
          refine g_icmp_ge C dX6_isQuery_26 (tgt := 33) (by decide) hf (fun hf => ?_) (fun hf => ?_)
          · refine g_aload_n C dX6_isQuery_33 rfl 0 rfl ?_
            refine g_get C inX6_isQuery_6 0 rfl rfl 29 (by decide) (List.mem_of_getElem? (i := 2) rfl) rfl rfl dX6_isQuery_34 ?_
            refine g_iload_n C dX6_isQuery_37 rfl 2 rfl ?_
            refine g_iaload C 1 rfl dX6_isQuery_38 hf (fun z9 hf => ?_)
            refine g_bipush (v := 6) C dX6_isQuery_39 (by decide) ?_
            refine g_icmp_ge C dX6_isQuery_41 (tgt := 48) (by decide) hf (fun hf => ?_) (fun hf => ?_)
            · refine g_iconst (v := 0) C dX6_isQuery_48 (by decide) ?_
              exact g_lv [0, 2] rfl (hJ49 0 hf)
            · refine g_iconst (v := 1) C dX6_isQuery_44 (by decide) ?_
              refine g_goto C dX6_isQuery_45 (tgt := 49) (by decide) ?_
              exact g_lv [0, 2] rfl (hJ49 1 hf)
          · refine g_iconst (v := (-1)) C dX6_isQuery_29 (by decide) ?_
            refine g_goto C dX6_isQuery_30 (tgt := 49) (by decide) ?_
            exact g_lv [0, 2] rfl (hJ49 (-1) hf)
        · refine g_iconst (v := 0) C dX6_isQuery_16 (by decide) ?_
          rw [← Option.some.inj hf] at hret
          exact hret () _ _ (show narrow .boolean (.int (0 : Int32)) = .int 0 from rfl) dX6_isQuery_17
  exact g_lv [2, 1, 0] rfl (hL4 _ 1 0 hf)
def sX6_word_9 (x1 : Int32) (J35 : Option ((Int32))) (z2 : Int32) (R9 : (Int32) → Option ((Int32))) (y7 : Int32) : Option ((Int32)) :=
  (if x1 ≤ y7 then J35 else (bnd (4 * y7 : Int32) (fun z8 => (bnd (z2 >>> (z8 &&& 31) : Int32) (fun z9 => (bnd (z9 &&& 15 : Int32) (fun z10 => (if z10 = 0 then (some (0)) else (bnd (y7 + 1) (fun z11 => (R9 z11)))))))))))
def fX6_word (x0 : Int64) (x1 : Int32) : Option ((Int32)) :=
  (bnd ((Int64.toUInt64 x0 >>> ((Int32.toInt64 32).toUInt64 &&& Int64.toUInt64 63)).toInt64 : Int64) (fun z1 => (bnd (Int64.toInt32 z1) (fun z2 => (jp (jp (fun (k3 : Int32) => (some (k3))) (fun J53 => (if x1 ≤ 7 then (bnd (4 * x1 : Int32) (fun z4 => (bnd (z2 >>> (z4 &&& 31) : Int32) (fun z5 => (bnd (z5 &&& 15 : Int32) (fun z6 => (J53 z6))))))) else (J53 0)))) (fun J35 => (lo1 (sX6_word_9 x1 J35 z2) 1000 0)))))))
set_option maxRecDepth 100000 in
set_option maxHeartbeats 8000000 in
theorem cX6_word_ok (L : XL)  (x0 : Int64) (x1 : Int32) {t : (Int32)} (hf : fX6_word x0 x1 = some t) : xM L yX6_word wsX6_word ({ frames := 0, cells := 0, slots := 0, locals := 0 }) [.long x0, .int x1] [] 0 0 (some (.int t)) (fun _ : Unit => []) := by
  refine enter_i (own := RX6) (by decide) rfl rfl (Nat.le_of_ble_eq_true rfl) ?_
  intro X hXL C _ hret
  subst hXL
  unfold fX6_word at hf
  show G X 0 0 [] [(0, .long x0), (2, .int x1)] 0 []
  refine g_lload_n C dX6_word_0 rfl 0 rfl ?_
  refine g_bipush (v := 32) C dX6_word_1 (by decide) ?_
  refine g_lushr C dX6_word_3 hf (fun z1 hf => ?_)
  refine g_l2i C dX6_word_4 hf (fun z2 hf => ?_)
  refine g_istore_n (lv2 := [(3, .int z2), (0, .long x0), (2, .int x1)]) C dX6_word_5 rfl (by decide) rfl ?_
  refine g_iconst (v := 0) C dX6_word_6 (by decide) ?_
  refine g_istore (lv2 := [(4, .int 0), (3, .int z2), (0, .long x0), (2, .int x1)]) C dX6_word_7 (by decide) rfl ?_
  obtain ⟨J35, eJ35, hf⟩ := jp_x hf
  have hJ35 : J35 = some t → G X 0 0 [] [(2, .int x1), (3, .int z2)] 35 [] := by
    intro  hf
    have hf := app0 eJ35 hf
    refine g_iload_n C dX6_word_35 rfl 0 rfl ?_
    refine g_bipush (v := 7) C dX6_word_36 (by decide) ?_
    obtain ⟨J53, eJ53, hf⟩ := jp_x hf
    have hJ53 : ∀ (k3 : Int32), J53 k3 = some t → G X 0 0 [] [] 53 [.int k3] := by
      intro k3 hf
      have hf := app1 eJ53 hf
      rw [← Option.some.inj hf] at hret
      exact hret () _ _ dX6_word_53
    refine g_icmp_le C dX6_word_38 (tgt := 45) (by decide) hf (fun hf => ?_) (fun hf => ?_)
    · refine g_iload_n C dX6_word_45 rfl 1 rfl ?_
      refine g_iconst (v := 4) C dX6_word_46 (by decide) ?_
      refine g_iload_n C dX6_word_47 rfl 0 rfl ?_
      refine g_imul C dX6_word_48 hf (fun z4 hf => ?_)
      refine g_ishr C dX6_word_49 hf (fun z5 hf => ?_)
      refine g_bipush (v := 15) C dX6_word_50 (by decide) ?_
      refine g_iand C dX6_word_52 hf (fun z6 hf => ?_)
      exact g_lv [] rfl (hJ53 z6 hf)
    · refine g_iconst (v := 0) C dX6_word_41 (by decide) ?_
      refine g_goto C dX6_word_42 (tgt := 53) (by decide) ?_
      exact g_lv [] rfl (hJ53 0 hf)
  have hL9 : ∀ (n : Nat) (y7 : Int32), lo1 (sX6_word_9 x1 J35 z2) n y7 = some t → G X 0 0 [] [(2, .int x1), (3, .int z2), (4, .int y7)] 9 [] := by
    intro n
    induction n with
    | zero => intro y7 hf; exact (lo1_z hf).elim
    | succ n ih9 =>
      intro y7 hf
      obtain ⟨R9, eR9, hf⟩ := lo1_x hf
      unfold sX6_word_9 at hf
      refine g_iload C dX6_word_9 2 rfl ?_
      refine g_iload_n C dX6_word_11 rfl 0 rfl ?_
      refine g_icmp_ge C dX6_word_12 (tgt := 35) (by decide) hf (fun hf => ?_) (fun hf => ?_)
      · exact g_lv [0, 1] rfl (hJ35 hf)
      · refine g_iload_n C dX6_word_15 rfl 1 rfl ?_
        refine g_iconst (v := 4) C dX6_word_16 (by decide) ?_
        refine g_iload C dX6_word_17 2 rfl ?_
        refine g_imul C dX6_word_19 hf (fun z8 hf => ?_)
        refine g_ishr C dX6_word_20 hf (fun z9 hf => ?_)
        refine g_bipush (v := 15) C dX6_word_21 (by decide) ?_
        refine g_iand C dX6_word_23 hf (fun z10 hf => ?_)
        refine g_if_ne C dX6_word_24 (tgt := 29) (by decide) hf (fun hf => ?_) (fun hf => ?_)
        · refine g_iinc (v := 1) (lv2 := fun z11 => [(4, .int z11), (2, .int x1), (3, .int z2)]) C dX6_word_29 2 rfl (by decide) (by decide) hf (fun _ => rfl) (fun z11 hf => ?_)
          refine g_goto C dX6_word_32 (tgt := 9) (by decide) ?_
          exact g_lv [1, 2, 0] rfl (ih9 z11 (app1 eR9 hf))
        · refine g_iconst (v := 0) C dX6_word_27 (by decide) ?_
          rw [← Option.some.inj hf] at hret
          exact hret () _ _ dX6_word_28
  exact g_lv [3, 1, 0] rfl (hL9 _ 0 hf)
def sX6_often_6 (J56 : (Int32) → Option ((Int32))) (x0 : Int64) (x1 : Int32) (x2 : Int32) (R6 : (Int32) → (Int32) → Option ((Int32))) (y2 : Int32) (y3 : Int32) : Option ((Int32)) :=
  (if 8 ≤ y3 then (J56 y2) else (cal1 (fX6_word x0 y3) (fun r4 => (bnd (y3 + 1 : Int32) (fun z6 => (cal1 (fX6_word x0 z6) (fun r7 => (jp (fun (y9 : Int32) => (bnd (y3 + 1) (fun z10 => (R6 y9 z10)))) (fun J50 => (if r4 = x1 then (jp (bnd (y2 + 1) (fun z11 => (J50 z11))) (fun J47 => (if x2 = 0 then J47 else (if r7 = x2 then J47 else (J50 y2))))) else (J50 y2)))))))))))
def fX6_often (x0 : Int64) (x1 : Int32) (x2 : Int32) : Option ((Int32)) :=
  (jp (fun (y1 : Int32) => (some (y1))) (fun J56 => (lo2 (sX6_often_6 J56 x0 x1 x2) 1000 0 0)))
set_option maxRecDepth 100000 in
set_option maxHeartbeats 8000000 in
theorem cX6_often_ok (L : XL)  (x0 : Int64) (x1 : Int32) (x2 : Int32) {t : (Int32)} (hf : fX6_often x0 x1 x2 = some t) : xM L yX6_often wsX6_often ({ frames := 1, cells := 0, slots := 0, locals := 24 }) [.long x0, .int x1, .int x2] [] 0 0 (some (.int t)) (fun _ : Unit => []) := by
  refine enter_i (own := RX6) (by decide) rfl rfl (Nat.le_of_ble_eq_true rfl) ?_
  intro X hXL C _ hret
  subst hXL
  unfold fX6_often at hf
  show G X 0 0 [] [(0, .long x0), (2, .int x1), (3, .int x2)] 0 []
  refine g_iconst (v := 0) C dX6_often_0 (by decide) ?_
  refine g_istore (lv2 := [(4, .int 0), (0, .long x0), (2, .int x1), (3, .int x2)]) C dX6_often_1 (by decide) rfl ?_
  refine g_iconst (v := 0) C dX6_often_3 (by decide) ?_
  refine g_istore (lv2 := [(5, .int 0), (4, .int 0), (0, .long x0), (2, .int x1), (3, .int x2)]) C dX6_often_4 (by decide) rfl ?_
  obtain ⟨J56, eJ56, hf⟩ := jp_x hf
  have hJ56 : ∀ (y1 : Int32), J56 y1 = some t → G X 0 0 [] [(4, .int y1)] 56 [] := by
    intro y1 hf
    have hf := app1 eJ56 hf
    refine g_iload C dX6_often_56 0 rfl ?_
    rw [← Option.some.inj hf] at hret
    exact hret () _ _ dX6_often_58
  have hL6 : ∀ (n : Nat) (y2 : Int32) (y3 : Int32), lo2 (sX6_often_6 J56 x0 x1 x2) n y2 y3 = some t → G X 0 0 [] [(0, .long x0), (2, .int x1), (3, .int x2), (4, .int y2), (5, .int y3)] 6 [] := by
    intro n
    induction n with
    | zero => intro y2 y3 hf; exact (lo2_z hf).elim
    | succ n ih6 =>
      intro y2 y3 hf
      obtain ⟨R6, eR6, hf⟩ := lo2_x hf
      unfold sX6_often_6 at hf
      refine g_iload C dX6_often_6 4 rfl ?_
      refine g_bipush (v := 8) C dX6_often_8 (by decide) ?_
      refine g_icmp_ge C dX6_often_10 (tgt := 56) (by decide) hf (fun hf => ?_) (fun hf => ?_)
      · exact g_lv [3] rfl (hJ56 y2 hf)
      · refine g_lload_n C dX6_often_13 rfl 0 rfl ?_
        refine g_iload C dX6_often_14 4 rfl ?_
        obtain ⟨r4, hq5, hf⟩ := cal1_x hf
        refine g_callS (As := [.long x0, .int y3]) (rest := []) (st2 := [.int r4]) (n := 2) C (cX6_word_ok X.1 x0 y3 hq5) gX6_often_X6_word rfl rfl rfl (by decide +kernel) (by decide) [] (by decide) rfl [] (Wr := []) (by decide) rfl (by decide) [] (by decide) (Wn := fun _ => []) (fun _ => rfl) rfl rfl rfl (Nat.le_of_ble_eq_true rfl) dX6_often_16 ⟨Nat.le_refl _, Nat.le_refl _⟩ (fun _ => ?_)
        refine g_istore (lv2 := [(6, .int r4), (0, .long x0), (2, .int x1), (3, .int x2), (4, .int y2), (5, .int y3)]) C dX6_often_19 (by decide) rfl ?_
        refine g_lload_n C dX6_often_21 rfl 1 rfl ?_
        refine g_iload C dX6_often_22 5 rfl ?_
        refine g_iconst (v := 1) C dX6_often_24 (by decide) ?_
        refine g_iadd C dX6_often_25 hf (fun z6 hf => ?_)
        obtain ⟨r7, hq8, hf⟩ := cal1_x hf
        refine g_callS (As := [.long x0, .int z6]) (rest := []) (st2 := [.int r7]) (n := 2) C (cX6_word_ok X.1 x0 z6 hq8) gX6_often_X6_word rfl rfl rfl (by decide +kernel) (by decide) [] (by decide) rfl [] (Wr := []) (by decide) rfl (by decide) [] (by decide) (Wn := fun _ => []) (fun _ => rfl) rfl rfl rfl (Nat.le_of_ble_eq_true rfl) dX6_often_26 ⟨Nat.le_refl _, Nat.le_refl _⟩ (fun _ => ?_)
        refine g_istore (lv2 := [(7, .int r7), (6, .int r4), (0, .long x0), (2, .int x1), (3, .int x2), (4, .int y2), (5, .int y3)]) C dX6_often_29 (by decide) rfl ?_
        refine g_iload C dX6_often_31 1 rfl ?_
        refine g_iload_n C dX6_often_33 rfl 3 rfl ?_
        obtain ⟨J50, eJ50, hf⟩ := jp_x hf
        have hJ50 : ∀ (y9 : Int32), J50 y9 = some t → G X 0 0 [] [(0, .long x0), (2, .int x1), (3, .int x2), (4, .int y9), (5, .int y3)] 50 [] := by
          intro y9 hf
          have hf := app1 eJ50 hf
          refine g_iinc (v := 1) (lv2 := fun z10 => [(5, .int z10), (0, .long x0), (2, .int x1), (3, .int x2), (4, .int y9)]) C dX6_often_50 4 rfl (by decide) (by decide) hf (fun _ => rfl) (fun z10 hf => ?_)
          refine g_goto C dX6_often_53 (tgt := 6) (by decide) ?_
          exact g_lv [1, 2, 3, 4, 0] rfl (ih6 y9 z10 (app2 eR6 hf))
        refine g_icmp_ne C dX6_often_34 (tgt := 50) (by decide) hf (fun hf => ?_) (fun hf => ?_)
        · exact g_lv [2, 3, 4, 5, 6] rfl (hJ50 y2 hf)
        · refine g_iload_n C dX6_often_37 rfl 4 rfl ?_
          obtain ⟨J47, eJ47, hf⟩ := jp_x hf
          have hJ47 : J47 = some t → G X 0 0 [] [(0, .long x0), (2, .int x1), (3, .int x2), (4, .int y2), (5, .int y3)] 47 [] := by
            intro  hf
            have hf := app0 eJ47 hf
            refine g_iinc (v := 1) (lv2 := fun z11 => [(4, .int z11), (0, .long x0), (2, .int x1), (3, .int x2), (5, .int y3)]) C dX6_often_47 3 rfl (by decide) (by decide) hf (fun _ => rfl) (fun z11 hf => ?_)
            exact g_lv [1, 2, 3, 0, 4] rfl (hJ50 z11 hf)
          refine g_if_eq C dX6_often_38 (tgt := 47) (by decide) hf (fun hf => ?_) (fun hf => ?_)
          · exact g_lv [2, 3, 4, 5, 6] rfl (hJ47 hf)
          · refine g_iload C dX6_often_41 0 rfl ?_
            refine g_iload_n C dX6_often_43 rfl 4 rfl ?_
            refine g_icmp_ne C dX6_often_44 (tgt := 50) (by decide) hf (fun hf => ?_) (fun hf => ?_)
            · exact g_lv [2, 3, 4, 5, 6] rfl (hJ50 y2 hf)
            · exact g_lv [2, 3, 4, 5, 6] rfl (hJ47 hf)
  exact g_lv [2, 3, 4, 1, 0] rfl (hL6 _ 0 0 hf)
def fX6_given (v_tKind : Nat → Int32) (v_tA : Nat → Int32) (v_tB : Nat → Int32) (x0 : Int32) (x1 : Int64) : Option ((Int32)) :=
  (bnd (Int64.toInt32 x1) (fun z1 => (rdI v_tKind 15 x0 (fun z2 => (if z2 = 1 then (rdI v_tA 15 x0 (fun z13 => (cal1 (fX6_often x1 z13 0) (fun r14 => (some (r14)))))) else (rdI v_tKind 15 x0 (fun z3 => (if z3 = 2 then (rdI v_tA 15 x0 (fun z8 => (rdI v_tB 15 x0 (fun z9 => (cal1 (fX6_often x1 z8 z9) (fun r10 => (bnd (2 * r10 : Int32) (fun z12 => (some (z12)))))))))) else (rdI v_tKind 15 x0 (fun z4 => (jp (fun (k5 : Int32) => (some (k5))) (fun J91 => (jp (J91 1) (fun J86 => (if z4 = 0 then J86 else (rdI v_tA 15 x0 (fun z6 => (jp (J91 0) (fun J90 => (if z1 < z6 then J90 else (rdI v_tB 15 x0 (fun z7 => (if z7 < z1 then J90 else J86)))))))))))))))))))))))
theorem inX6_given_6 : ∀ w ∈ wsX60, w ∈ wsX6_given := fun _ h => List.mem_cons_of_mem _ (List.mem_append_right _ h)
set_option maxRecDepth 100000 in
set_option maxHeartbeats 8000000 in
theorem cX6_given_ok (L : XL) (a_this a_kinds a_seqs a_versions a_oldKinds a_oldSeqs a_oldVersions a_seenSeqs a_sources a_oldSources a_seenSources a_done a_bytes a_lengths a_greatest a_tKind a_tA a_tB a_points a_holds : Nat) (v_checkpoint : Int32) (v_max : Int32) (v_persisted : Int32) (v_oldCheckpoint : Int32) (v_oldMax : Int32) (v_down : Int32) (v_oldest : Int32) (v_generations : Int32) (v_synced : Int32) (v_rKind : Int32) (v_rSeq : Int32) (v_rId : Int32) (v_rVersion : Int32) (v_rEnd : Int32) (v_rSource : Int64) (v_tKind : Nat → Int32) (v_tA : Nat → Int32) (v_tB : Nat → Int32) (v_tokens : Int32) (v_visible : Int32) (x0 : Int32) (x1 : Int64) {t : (Int32)} (hf : fX6_given v_tKind v_tA v_tB x0 x1 = some t) : xM L yX6_given wsX6_given ({ frames := 2, cells := 0, slots := 0, locals := 51 }) [.ref a_this, .int x0, .long x1] [(a_this, .inr (6, [.ref a_kinds, .ref a_seqs, .ref a_versions, .ref a_oldKinds, .ref a_oldSeqs, .ref a_oldVersions, .ref a_seenSeqs, .ref a_sources, .ref a_oldSources, .ref a_seenSources, .ref a_done, .int v_checkpoint, .int v_max, .int v_persisted, .int v_oldCheckpoint, .int v_oldMax, .int v_down, .ref a_bytes, .ref a_lengths, .ref a_greatest, .int v_oldest, .int v_generations, .int v_synced, .int v_rKind, .int v_rSeq, .int v_rId, .int v_rVersion, .int v_rEnd, .long v_rSource, .ref a_tKind, .ref a_tA, .ref a_tB, .ref a_points, .ref a_holds, .int v_tokens, .int v_visible])), (a_tKind, .inl (L.2.2.1, 15, .inl v_tKind)), (a_tA, .inl (L.2.2.1, 15, .inl v_tA)), (a_tB, .inl (L.2.2.1, 15, .inl v_tB))] 0 0 (some (.int t)) (fun _ : Unit => [(a_this, .inr (6, [.ref a_kinds, .ref a_seqs, .ref a_versions, .ref a_oldKinds, .ref a_oldSeqs, .ref a_oldVersions, .ref a_seenSeqs, .ref a_sources, .ref a_oldSources, .ref a_seenSources, .ref a_done, .int v_checkpoint, .int v_max, .int v_persisted, .int v_oldCheckpoint, .int v_oldMax, .int v_down, .ref a_bytes, .ref a_lengths, .ref a_greatest, .int v_oldest, .int v_generations, .int v_synced, .int v_rKind, .int v_rSeq, .int v_rId, .int v_rVersion, .int v_rEnd, .long v_rSource, .ref a_tKind, .ref a_tA, .ref a_tB, .ref a_points, .ref a_holds, .int v_tokens, .int v_visible])), (a_tKind, .inl (L.2.2.1, 15, .inl v_tKind)), (a_tA, .inl (L.2.2.1, 15, .inl v_tA)), (a_tB, .inl (L.2.2.1, 15, .inl v_tB))]) := by
  refine enter_i (own := RX6) (by decide) rfl rfl (Nat.le_of_ble_eq_true rfl) ?_
  intro X hXL C _ hret
  subst hXL
  unfold fX6_given at hf
  show G X 0 0 [(a_this, .inr (6, [.ref a_kinds, .ref a_seqs, .ref a_versions, .ref a_oldKinds, .ref a_oldSeqs, .ref a_oldVersions, .ref a_seenSeqs, .ref a_sources, .ref a_oldSources, .ref a_seenSources, .ref a_done, .int v_checkpoint, .int v_max, .int v_persisted, .int v_oldCheckpoint, .int v_oldMax, .int v_down, .ref a_bytes, .ref a_lengths, .ref a_greatest, .int v_oldest, .int v_generations, .int v_synced, .int v_rKind, .int v_rSeq, .int v_rId, .int v_rVersion, .int v_rEnd, .long v_rSource, .ref a_tKind, .ref a_tA, .ref a_tB, .ref a_points, .ref a_holds, .int v_tokens, .int v_visible])), (a_tKind, .inl (X.1.2.2.1, 15, .inl v_tKind)), (a_tA, .inl (X.1.2.2.1, 15, .inl v_tA)), (a_tB, .inl (X.1.2.2.1, 15, .inl v_tB))] [(0, .ref a_this), (1, .int x0), (2, .long x1)] 0 []
  refine g_lload_n C dX6_given_0 rfl 2 rfl ?_
  refine g_l2i C dX6_given_1 hf (fun z1 hf => ?_)
  refine g_istore (lv2 := [(4, .int z1), (0, .ref a_this), (1, .int x0), (2, .long x1)]) C dX6_given_2 (by decide) rfl ?_
  refine g_aload_n C dX6_given_4 rfl 1 rfl ?_
  refine g_get C inX6_given_6 0 rfl rfl 29 (by decide) (List.mem_of_getElem? (i := 1) rfl) rfl rfl dX6_given_5 ?_
  refine g_iload_n C dX6_given_8 rfl 2 rfl ?_
  refine g_iaload C 1 rfl dX6_given_9 hf (fun z2 hf => ?_)
  refine g_iconst (v := 1) C dX6_given_10 (by decide) ?_
  refine g_icmp_ne C dX6_given_11 (tgt := 26) (by decide) hf (fun hf => ?_) (fun hf => ?_)
  · refine g_aload_n C dX6_given_26 rfl 1 rfl ?_
    refine g_get C inX6_given_6 0 rfl rfl 29 (by decide) (List.mem_of_getElem? (i := 1) rfl) rfl rfl dX6_given_27 ?_
    refine g_iload_n C dX6_given_30 rfl 2 rfl ?_
    refine g_iaload C 1 rfl dX6_given_31 hf (fun z3 hf => ?_)
    refine g_iconst (v := 2) C dX6_given_32 (by decide) ?_
    refine g_icmp_ne C dX6_given_33 (tgt := 55) (by decide) hf (fun hf => ?_) (fun hf => ?_)
    · refine g_aload_n C dX6_given_55 rfl 1 rfl ?_
      refine g_get C inX6_given_6 0 rfl rfl 29 (by decide) (List.mem_of_getElem? (i := 1) rfl) rfl rfl dX6_given_56 ?_
      refine g_iload_n C dX6_given_59 rfl 2 rfl ?_
      refine g_iaload C 1 rfl dX6_given_60 hf (fun z4 hf => ?_)
      obtain ⟨J91, eJ91, hf⟩ := jp_x hf
      have hJ91 : ∀ (k5 : Int32), J91 k5 = some t → G X 0 0 [(a_this, .inr (6, [.ref a_kinds, .ref a_seqs, .ref a_versions, .ref a_oldKinds, .ref a_oldSeqs, .ref a_oldVersions, .ref a_seenSeqs, .ref a_sources, .ref a_oldSources, .ref a_seenSources, .ref a_done, .int v_checkpoint, .int v_max, .int v_persisted, .int v_oldCheckpoint, .int v_oldMax, .int v_down, .ref a_bytes, .ref a_lengths, .ref a_greatest, .int v_oldest, .int v_generations, .int v_synced, .int v_rKind, .int v_rSeq, .int v_rId, .int v_rVersion, .int v_rEnd, .long v_rSource, .ref a_tKind, .ref a_tA, .ref a_tB, .ref a_points, .ref a_holds, .int v_tokens, .int v_visible])), (a_tKind, .inl (X.1.2.2.1, 15, .inl v_tKind)), (a_tA, .inl (X.1.2.2.1, 15, .inl v_tA)), (a_tB, .inl (X.1.2.2.1, 15, .inl v_tB))] [] 91 [.int k5] := by
        intro k5 hf
        have hf := app1 eJ91 hf
        rw [← Option.some.inj hf] at hret
        exact hret () _ _ dX6_given_91
      obtain ⟨J86, eJ86, hf⟩ := jp_x hf
      have hJ86 : J86 = some t → G X 0 0 [(a_this, .inr (6, [.ref a_kinds, .ref a_seqs, .ref a_versions, .ref a_oldKinds, .ref a_oldSeqs, .ref a_oldVersions, .ref a_seenSeqs, .ref a_sources, .ref a_oldSources, .ref a_seenSources, .ref a_done, .int v_checkpoint, .int v_max, .int v_persisted, .int v_oldCheckpoint, .int v_oldMax, .int v_down, .ref a_bytes, .ref a_lengths, .ref a_greatest, .int v_oldest, .int v_generations, .int v_synced, .int v_rKind, .int v_rSeq, .int v_rId, .int v_rVersion, .int v_rEnd, .long v_rSource, .ref a_tKind, .ref a_tA, .ref a_tB, .ref a_points, .ref a_holds, .int v_tokens, .int v_visible])), (a_tKind, .inl (X.1.2.2.1, 15, .inl v_tKind)), (a_tA, .inl (X.1.2.2.1, 15, .inl v_tA)), (a_tB, .inl (X.1.2.2.1, 15, .inl v_tB))] [] 86 [] := by
        intro  hf
        have hf := app0 eJ86 hf
        refine g_iconst (v := 1) C dX6_given_86 (by decide) ?_
        refine g_goto C dX6_given_87 (tgt := 91) (by decide) ?_
        exact hJ91 1 hf
      refine g_if_eq C dX6_given_61 (tgt := 86) (by decide) hf (fun hf => ?_) (fun hf => ?_)
      · exact g_lv [] rfl (hJ86 hf)
      · refine g_iload C dX6_given_64 0 rfl ?_
        refine g_aload_n C dX6_given_66 rfl 1 rfl ?_
        refine g_get C inX6_given_6 0 rfl rfl 30 (by decide) (List.mem_of_getElem? (i := 2) rfl) rfl rfl dX6_given_67 ?_
        refine g_iload_n C dX6_given_70 rfl 2 rfl ?_
        refine g_iaload C 2 rfl dX6_given_71 hf (fun z6 hf => ?_)
        obtain ⟨J90, eJ90, hf⟩ := jp_x hf
        have hJ90 : J90 = some t → G X 0 0 [(a_this, .inr (6, [.ref a_kinds, .ref a_seqs, .ref a_versions, .ref a_oldKinds, .ref a_oldSeqs, .ref a_oldVersions, .ref a_seenSeqs, .ref a_sources, .ref a_oldSources, .ref a_seenSources, .ref a_done, .int v_checkpoint, .int v_max, .int v_persisted, .int v_oldCheckpoint, .int v_oldMax, .int v_down, .ref a_bytes, .ref a_lengths, .ref a_greatest, .int v_oldest, .int v_generations, .int v_synced, .int v_rKind, .int v_rSeq, .int v_rId, .int v_rVersion, .int v_rEnd, .long v_rSource, .ref a_tKind, .ref a_tA, .ref a_tB, .ref a_points, .ref a_holds, .int v_tokens, .int v_visible])), (a_tKind, .inl (X.1.2.2.1, 15, .inl v_tKind)), (a_tA, .inl (X.1.2.2.1, 15, .inl v_tA)), (a_tB, .inl (X.1.2.2.1, 15, .inl v_tB))] [] 90 [] := by
          intro  hf
          have hf := app0 eJ90 hf
          refine g_iconst (v := 0) C dX6_given_90 (by decide) ?_
          exact hJ91 0 hf
        refine g_icmp_lt C dX6_given_72 (tgt := 90) (by decide) hf (fun hf => ?_) (fun hf => ?_)
        · exact g_lv [] rfl (hJ90 hf)
        · refine g_iload C dX6_given_75 0 rfl ?_
          refine g_aload_n C dX6_given_77 rfl 1 rfl ?_
          refine g_get C inX6_given_6 0 rfl rfl 31 (by decide) (List.mem_of_getElem? (i := 3) rfl) rfl rfl dX6_given_78 ?_
          refine g_iload_n C dX6_given_81 rfl 2 rfl ?_
          refine g_iaload C 3 rfl dX6_given_82 hf (fun z7 hf => ?_)
          refine g_icmp_gt C dX6_given_83 (tgt := 90) (by decide) hf (fun hf => ?_) (fun hf => ?_)
          · exact g_lv [] rfl (hJ90 hf)
          · exact g_lv [] rfl (hJ86 hf)
    · refine g_iconst (v := 2) C dX6_given_36 (by decide) ?_
      refine g_lload_n C dX6_given_37 rfl 3 rfl ?_
      refine g_aload_n C dX6_given_38 rfl 1 rfl ?_
      refine g_get C inX6_given_6 0 rfl rfl 30 (by decide) (List.mem_of_getElem? (i := 2) rfl) rfl rfl dX6_given_39 ?_
      refine g_iload_n C dX6_given_42 rfl 2 rfl ?_
      refine g_iaload C 2 rfl dX6_given_43 hf (fun z8 hf => ?_)
      refine g_aload_n C dX6_given_44 rfl 1 rfl ?_
      refine g_get C inX6_given_6 0 rfl rfl 31 (by decide) (List.mem_of_getElem? (i := 3) rfl) rfl rfl dX6_given_45 ?_
      refine g_iload_n C dX6_given_48 rfl 2 rfl ?_
      refine g_iaload C 3 rfl dX6_given_49 hf (fun z9 hf => ?_)
      obtain ⟨r10, hq11, hf⟩ := cal1_x hf
      refine g_callS (As := [.long x1, .int z8, .int z9]) (rest := [.int 2]) (st2 := [.int r10, .int 2]) (n := 3) C (cX6_often_ok X.1 x1 z8 z9 hq11) gX6_given_X6_often rfl rfl rfl (by decide +kernel) (by decide) [] (by decide) rfl [0, 1, 2, 3] (Wr := [(a_this, .inr (6, [.ref a_kinds, .ref a_seqs, .ref a_versions, .ref a_oldKinds, .ref a_oldSeqs, .ref a_oldVersions, .ref a_seenSeqs, .ref a_sources, .ref a_oldSources, .ref a_seenSources, .ref a_done, .int v_checkpoint, .int v_max, .int v_persisted, .int v_oldCheckpoint, .int v_oldMax, .int v_down, .ref a_bytes, .ref a_lengths, .ref a_greatest, .int v_oldest, .int v_generations, .int v_synced, .int v_rKind, .int v_rSeq, .int v_rId, .int v_rVersion, .int v_rEnd, .long v_rSource, .ref a_tKind, .ref a_tA, .ref a_tB, .ref a_points, .ref a_holds, .int v_tokens, .int v_visible])), (a_tKind, .inl (X.1.2.2.1, 15, .inl v_tKind)), (a_tA, .inl (X.1.2.2.1, 15, .inl v_tA)), (a_tB, .inl (X.1.2.2.1, 15, .inl v_tB))]) (by decide) rfl (by decide) [0, 1, 2, 3] (by decide) (Wn := fun _ => [(a_this, .inr (6, [.ref a_kinds, .ref a_seqs, .ref a_versions, .ref a_oldKinds, .ref a_oldSeqs, .ref a_oldVersions, .ref a_seenSeqs, .ref a_sources, .ref a_oldSources, .ref a_seenSources, .ref a_done, .int v_checkpoint, .int v_max, .int v_persisted, .int v_oldCheckpoint, .int v_oldMax, .int v_down, .ref a_bytes, .ref a_lengths, .ref a_greatest, .int v_oldest, .int v_generations, .int v_synced, .int v_rKind, .int v_rSeq, .int v_rId, .int v_rVersion, .int v_rEnd, .long v_rSource, .ref a_tKind, .ref a_tA, .ref a_tB, .ref a_points, .ref a_holds, .int v_tokens, .int v_visible])), (a_tKind, .inl (X.1.2.2.1, 15, .inl v_tKind)), (a_tA, .inl (X.1.2.2.1, 15, .inl v_tA)), (a_tB, .inl (X.1.2.2.1, 15, .inl v_tB))]) (fun _ => rfl) rfl rfl rfl (Nat.le_of_ble_eq_true rfl) dX6_given_50 ⟨Nat.le_refl _, Nat.le_refl _⟩ (fun _ => ?_)
      refine g_imul C dX6_given_53 hf (fun z12 hf => ?_)
      rw [← Option.some.inj hf] at hret
      exact hret () _ _ dX6_given_54
  · refine g_lload_n C dX6_given_14 rfl 3 rfl ?_
    refine g_aload_n C dX6_given_15 rfl 1 rfl ?_
    refine g_get C inX6_given_6 0 rfl rfl 30 (by decide) (List.mem_of_getElem? (i := 2) rfl) rfl rfl dX6_given_16 ?_
    refine g_iload_n C dX6_given_19 rfl 2 rfl ?_
    refine g_iaload C 2 rfl dX6_given_20 hf (fun z13 hf => ?_)
    refine g_iconst (v := 0) C dX6_given_21 (by decide) ?_
    obtain ⟨r14, hq15, hf⟩ := cal1_x hf
    refine g_callS (As := [.long x1, .int z13, .int 0]) (rest := []) (st2 := [.int r14]) (n := 3) C (cX6_often_ok X.1 x1 z13 0 hq15) gX6_given_X6_often rfl rfl rfl (by decide +kernel) (by decide) [] (by decide) rfl [0, 1, 2, 3] (Wr := [(a_this, .inr (6, [.ref a_kinds, .ref a_seqs, .ref a_versions, .ref a_oldKinds, .ref a_oldSeqs, .ref a_oldVersions, .ref a_seenSeqs, .ref a_sources, .ref a_oldSources, .ref a_seenSources, .ref a_done, .int v_checkpoint, .int v_max, .int v_persisted, .int v_oldCheckpoint, .int v_oldMax, .int v_down, .ref a_bytes, .ref a_lengths, .ref a_greatest, .int v_oldest, .int v_generations, .int v_synced, .int v_rKind, .int v_rSeq, .int v_rId, .int v_rVersion, .int v_rEnd, .long v_rSource, .ref a_tKind, .ref a_tA, .ref a_tB, .ref a_points, .ref a_holds, .int v_tokens, .int v_visible])), (a_tKind, .inl (X.1.2.2.1, 15, .inl v_tKind)), (a_tA, .inl (X.1.2.2.1, 15, .inl v_tA)), (a_tB, .inl (X.1.2.2.1, 15, .inl v_tB))]) (by decide) rfl (by decide) [0, 1, 2, 3] (by decide) (Wn := fun _ => [(a_this, .inr (6, [.ref a_kinds, .ref a_seqs, .ref a_versions, .ref a_oldKinds, .ref a_oldSeqs, .ref a_oldVersions, .ref a_seenSeqs, .ref a_sources, .ref a_oldSources, .ref a_seenSources, .ref a_done, .int v_checkpoint, .int v_max, .int v_persisted, .int v_oldCheckpoint, .int v_oldMax, .int v_down, .ref a_bytes, .ref a_lengths, .ref a_greatest, .int v_oldest, .int v_generations, .int v_synced, .int v_rKind, .int v_rSeq, .int v_rId, .int v_rVersion, .int v_rEnd, .long v_rSource, .ref a_tKind, .ref a_tA, .ref a_tB, .ref a_points, .ref a_holds, .int v_tokens, .int v_visible])), (a_tKind, .inl (X.1.2.2.1, 15, .inl v_tKind)), (a_tA, .inl (X.1.2.2.1, 15, .inl v_tA)), (a_tB, .inl (X.1.2.2.1, 15, .inl v_tB))]) (fun _ => rfl) rfl rfl rfl (Nat.le_of_ble_eq_true rfl) dX6_given_22 ⟨Nat.le_refl _, Nat.le_refl _⟩ (fun _ => ?_)
    rw [← Option.some.inj hf] at hret
    exact hret () _ _ dX6_given_25
def sX6_worth_20 (J217 : (Nat → Int32) → (Nat → Int32) → Option ((Int32) × (Nat → Int32) × (Nat → Int32))) (v_tKind : Nat → Int32) (v_seenSources : Nat → Int64) (x0 : Int32) (v_tA : Nat → Int32) (v_tB : Nat → Int32) (R20 : (Int32) → (Int32) → (Nat → Int32) → (Nat → Int32) → Option ((Int32) × (Nat → Int32) × (Nat → Int32))) (y8 : Int32) (y9 : Int32) (w10 : Nat → Int32) (w11 : Nat → Int32) : Option ((Int32) × (Nat → Int32) × (Nat → Int32)) :=
  (if y9 < 0 then (J217 w10 w11) else (rdI v_tKind 15 y9 (fun z12 => (jp (fun (y13 : Int32) (w14 : Nat → Int32) (w15 : Nat → Int32) => (bnd (y9 + (-1)) (fun z16 => (R20 y13 z16 w14 w15)))) (fun J211 => (if 4 ≤ z12 then (if z12 = 6 then (bnd (y8 - 1 : Int32) (fun z32 => (wrI w10 16 z32 0 (fun g33 => (bnd (y8 - 1 : Int32) (fun z34 => (bnd (y8 - 1 : Int32) (fun z35 => (rdI w11 16 z35 (fun z36 => (jp (fun (k37 : Int32) => (wrZ w11 16 z34 k37 (fun g38 => (J211 y8 g33 g38)))) (fun J120 => (if z36 = 0 then (J120 1) else (J120 0)))))))))))))) else (bnd (y8 + (-1)) (fun z17 => (bnd (z17 - 1 : Int32) (fun z18 => (rdI w10 16 z18 (fun z19 => (rdI w10 16 z17 (fun z20 => (bnd (z19 + z20 : Int32) (fun z21 => (wrI w10 16 z18 z21 (fun g22 => (bnd (z17 - 1 : Int32) (fun z23 => (jp (fun (k24 : Int32) => (wrZ w11 16 z23 k24 (fun g25 => (J211 z17 g22 g25)))) (fun J210 => (if z12 = 4 then (bnd (z17 - 1 : Int32) (fun z29 => (rdI w11 16 z29 (fun z30 => (jp (J210 0) (fun J181 => (if z30 = 0 then J181 else (rdI w11 16 z17 (fun z31 => (if z31 = 0 then J181 else (J210 1))))))))))) else (bnd (z17 - 1 : Int32) (fun z26 => (rdI w11 16 z26 (fun z27 => (jp (J210 1) (fun J205 => (if z27 = 0 then (rdI w11 16 z17 (fun z28 => (if z28 = 0 then (J210 0) else J205))) else J205))))))))))))))))))))))))) else (rdJ v_seenSources 16 x0 (fun z39 => (cal1 (fX6_given v_tKind v_tA v_tB y9 z39) (fun r40 => (wrI w10 16 y8 r40 (fun g42 => (rdI g42 16 y8 (fun z43 => (jp (fun (k44 : Int32) => (wrZ w11 16 y8 k44 (fun g45 => (bnd (y8 + 1) (fun z46 => (J211 z46 g42 g45)))))) (fun J74 => (if z43 ≤ 0 then (J74 0) else (J74 1))))))))))))))))))
def fX6_worth (v_seenSeqs : Nat → Int32) (v_seenSources : Nat → Int64) (v_tKind : Nat → Int32) (v_tA : Nat → Int32) (v_tB : Nat → Int32) (v_points : Nat → Int32) (v_holds : Nat → Int32) (v_tokens : Int32) (x0 : Int32) : Option ((Int32) × (Nat → Int32) × (Nat → Int32)) :=
  (rdI v_seenSeqs 16 x0 (fun z1 => (if 0 ≤ z1 then (bnd (v_tokens - 1 : Int32) (fun z2 => (jp (fun (w3 : Nat → Int32) (w4 : Nat → Int32) => (rdI w4 16 0 (fun z5 => (jp (fun (k6 : Int32) => (some (k6, w3, w4))) (fun J236 => (if z5 = 0 then (J236 (-1)) else (rdI w3 16 0 (fun z7 => (J236 z7))))))))) (fun J217 => (lo4 (sX6_worth_20 J217 v_tKind v_seenSources x0 v_tA v_tB) 1000 0 z2 v_points v_holds))))) else (some ((-1), v_points, v_holds)))))
theorem inX6_worth_6 : ∀ w ∈ wsX60, w ∈ wsX6_worth := fun _ h => List.mem_cons_of_mem _ (List.mem_append_right _ h)
set_option maxRecDepth 100000 in
set_option maxHeartbeats 8000000 in
theorem cX6_worth_ok (L : XL) (a_this a_kinds a_seqs a_versions a_oldKinds a_oldSeqs a_oldVersions a_seenSeqs a_sources a_oldSources a_seenSources a_done a_bytes a_lengths a_greatest a_tKind a_tA a_tB a_points a_holds : Nat) (v_seenSeqs : Nat → Int32) (v_seenSources : Nat → Int64) (v_checkpoint : Int32) (v_max : Int32) (v_persisted : Int32) (v_oldCheckpoint : Int32) (v_oldMax : Int32) (v_down : Int32) (v_oldest : Int32) (v_generations : Int32) (v_synced : Int32) (v_rKind : Int32) (v_rSeq : Int32) (v_rId : Int32) (v_rVersion : Int32) (v_rEnd : Int32) (v_rSource : Int64) (v_tKind : Nat → Int32) (v_tA : Nat → Int32) (v_tB : Nat → Int32) (v_points : Nat → Int32) (v_holds : Nat → Int32) (v_tokens : Int32) (v_visible : Int32) (x0 : Int32) {t : (Int32) × (Nat → Int32) × (Nat → Int32)} (hf : fX6_worth v_seenSeqs v_seenSources v_tKind v_tA v_tB v_points v_holds v_tokens x0 = some t) : xM L yX6_worth wsX6_worth ({ frames := 3, cells := 0, slots := 0, locals := 75 }) [.ref a_this, .int x0] [(a_this, .inr (6, [.ref a_kinds, .ref a_seqs, .ref a_versions, .ref a_oldKinds, .ref a_oldSeqs, .ref a_oldVersions, .ref a_seenSeqs, .ref a_sources, .ref a_oldSources, .ref a_seenSources, .ref a_done, .int v_checkpoint, .int v_max, .int v_persisted, .int v_oldCheckpoint, .int v_oldMax, .int v_down, .ref a_bytes, .ref a_lengths, .ref a_greatest, .int v_oldest, .int v_generations, .int v_synced, .int v_rKind, .int v_rSeq, .int v_rId, .int v_rVersion, .int v_rEnd, .long v_rSource, .ref a_tKind, .ref a_tA, .ref a_tB, .ref a_points, .ref a_holds, .int v_tokens, .int v_visible])), (a_seenSeqs, .inl (L.2.2.1, 16, .inl v_seenSeqs)), (a_seenSources, .inl (L.2.2.2.1, 16, .inr (.inl v_seenSources))), (a_tKind, .inl (L.2.2.1, 15, .inl v_tKind)), (a_tA, .inl (L.2.2.1, 15, .inl v_tA)), (a_tB, .inl (L.2.2.1, 15, .inl v_tB)), (a_points, .inl (L.2.2.1, 16, .inl v_points)), (a_holds, .inl (L.2.2.2.2, 16, .inl v_holds))] 0 0 (some (.int t.1)) (fun _ : Unit => [(a_this, .inr (6, [.ref a_kinds, .ref a_seqs, .ref a_versions, .ref a_oldKinds, .ref a_oldSeqs, .ref a_oldVersions, .ref a_seenSeqs, .ref a_sources, .ref a_oldSources, .ref a_seenSources, .ref a_done, .int v_checkpoint, .int v_max, .int v_persisted, .int v_oldCheckpoint, .int v_oldMax, .int v_down, .ref a_bytes, .ref a_lengths, .ref a_greatest, .int v_oldest, .int v_generations, .int v_synced, .int v_rKind, .int v_rSeq, .int v_rId, .int v_rVersion, .int v_rEnd, .long v_rSource, .ref a_tKind, .ref a_tA, .ref a_tB, .ref a_points, .ref a_holds, .int v_tokens, .int v_visible])), (a_seenSeqs, .inl (L.2.2.1, 16, .inl v_seenSeqs)), (a_seenSources, .inl (L.2.2.2.1, 16, .inr (.inl v_seenSources))), (a_tKind, .inl (L.2.2.1, 15, .inl v_tKind)), (a_tA, .inl (L.2.2.1, 15, .inl v_tA)), (a_tB, .inl (L.2.2.1, 15, .inl v_tB)), (a_points, .inl (L.2.2.1, 16, .inl t.2.1)), (a_holds, .inl (L.2.2.2.2, 16, .inl t.2.2))]) := by
  refine enter_i (own := RX6) (by decide) rfl rfl (Nat.le_of_ble_eq_true rfl) ?_
  intro X hXL C _ hret
  subst hXL
  unfold fX6_worth at hf
  show G X 0 0 [(a_this, .inr (6, [.ref a_kinds, .ref a_seqs, .ref a_versions, .ref a_oldKinds, .ref a_oldSeqs, .ref a_oldVersions, .ref a_seenSeqs, .ref a_sources, .ref a_oldSources, .ref a_seenSources, .ref a_done, .int v_checkpoint, .int v_max, .int v_persisted, .int v_oldCheckpoint, .int v_oldMax, .int v_down, .ref a_bytes, .ref a_lengths, .ref a_greatest, .int v_oldest, .int v_generations, .int v_synced, .int v_rKind, .int v_rSeq, .int v_rId, .int v_rVersion, .int v_rEnd, .long v_rSource, .ref a_tKind, .ref a_tA, .ref a_tB, .ref a_points, .ref a_holds, .int v_tokens, .int v_visible])), (a_seenSeqs, .inl (X.1.2.2.1, 16, .inl v_seenSeqs)), (a_seenSources, .inl (X.1.2.2.2.1, 16, .inr (.inl v_seenSources))), (a_tKind, .inl (X.1.2.2.1, 15, .inl v_tKind)), (a_tA, .inl (X.1.2.2.1, 15, .inl v_tA)), (a_tB, .inl (X.1.2.2.1, 15, .inl v_tB)), (a_points, .inl (X.1.2.2.1, 16, .inl v_points)), (a_holds, .inl (X.1.2.2.2.2, 16, .inl v_holds))] [(0, .ref a_this), (1, .int x0)] 0 []
  refine g_aload_n C dX6_worth_0 rfl 0 rfl ?_
  refine g_get C inX6_worth_6 0 rfl rfl 6 (by decide) (List.mem_of_getElem? (i := 1) rfl) rfl rfl dX6_worth_1 ?_
  refine g_iload_n C dX6_worth_4 rfl 1 rfl ?_
  refine g_iaload C 1 rfl dX6_worth_5 hf (fun z1 hf => ?_)
  refine g_if_ge C dX6_worth_6 (tgt := 11) (by decide) hf (fun hf => ?_) (fun hf => ?_)
  · refine g_iconst (v := 0) C dX6_worth_11 (by decide) ?_
    refine g_istore_n (lv2 := [(2, .int 0), (0, .ref a_this), (1, .int x0)]) C dX6_worth_12 rfl (by decide) rfl ?_
    refine g_aload_n C dX6_worth_13 rfl 1 rfl ?_
    refine g_get C inX6_worth_6 0 rfl rfl 34 (by decide) (List.mem_of_getElem? (i := 2) rfl) rfl rfl dX6_worth_14 ?_
    refine g_iconst (v := 1) C dX6_worth_17 (by decide) ?_
    refine g_isub C dX6_worth_18 hf (fun z2 hf => ?_)
    refine g_istore_n (lv2 := [(3, .int z2), (2, .int 0), (0, .ref a_this), (1, .int x0)]) C dX6_worth_19 rfl (by decide) rfl ?_
    obtain ⟨J217, eJ217, hf⟩ := jp_x hf
    have hJ217 : ∀ (w3 : Nat → Int32) (w4 : Nat → Int32), J217 w3 w4 = some t → G X 0 0 [(a_this, .inr (6, [.ref a_kinds, .ref a_seqs, .ref a_versions, .ref a_oldKinds, .ref a_oldSeqs, .ref a_oldVersions, .ref a_seenSeqs, .ref a_sources, .ref a_oldSources, .ref a_seenSources, .ref a_done, .int v_checkpoint, .int v_max, .int v_persisted, .int v_oldCheckpoint, .int v_oldMax, .int v_down, .ref a_bytes, .ref a_lengths, .ref a_greatest, .int v_oldest, .int v_generations, .int v_synced, .int v_rKind, .int v_rSeq, .int v_rId, .int v_rVersion, .int v_rEnd, .long v_rSource, .ref a_tKind, .ref a_tA, .ref a_tB, .ref a_points, .ref a_holds, .int v_tokens, .int v_visible])), (a_seenSeqs, .inl (X.1.2.2.1, 16, .inl v_seenSeqs)), (a_seenSources, .inl (X.1.2.2.2.1, 16, .inr (.inl v_seenSources))), (a_tKind, .inl (X.1.2.2.1, 15, .inl v_tKind)), (a_tA, .inl (X.1.2.2.1, 15, .inl v_tA)), (a_tB, .inl (X.1.2.2.1, 15, .inl v_tB)), (a_points, .inl (X.1.2.2.1, 16, .inl w3)), (a_holds, .inl (X.1.2.2.2.2, 16, .inl w4))] [(0, .ref a_this)] 217 [] := by
      intro w3 w4 hf
      have hf := app2 eJ217 hf
      refine g_aload_n C dX6_worth_217 rfl 0 rfl ?_
      refine g_get C inX6_worth_6 0 rfl rfl 33 (by decide) (List.mem_of_getElem? (i := 6) rfl) rfl rfl dX6_worth_218 ?_
      refine g_iconst (v := 0) C dX6_worth_221 (by decide) ?_
      refine g_zaload C 7 rfl dX6_worth_222 hf (fun z5 hf => ?_)
      obtain ⟨J236, eJ236, hf⟩ := jp_x hf
      have hJ236 : ∀ (k6 : Int32), J236 k6 = some t → G X 0 0 [(a_this, .inr (6, [.ref a_kinds, .ref a_seqs, .ref a_versions, .ref a_oldKinds, .ref a_oldSeqs, .ref a_oldVersions, .ref a_seenSeqs, .ref a_sources, .ref a_oldSources, .ref a_seenSources, .ref a_done, .int v_checkpoint, .int v_max, .int v_persisted, .int v_oldCheckpoint, .int v_oldMax, .int v_down, .ref a_bytes, .ref a_lengths, .ref a_greatest, .int v_oldest, .int v_generations, .int v_synced, .int v_rKind, .int v_rSeq, .int v_rId, .int v_rVersion, .int v_rEnd, .long v_rSource, .ref a_tKind, .ref a_tA, .ref a_tB, .ref a_points, .ref a_holds, .int v_tokens, .int v_visible])), (a_seenSeqs, .inl (X.1.2.2.1, 16, .inl v_seenSeqs)), (a_seenSources, .inl (X.1.2.2.2.1, 16, .inr (.inl v_seenSources))), (a_tKind, .inl (X.1.2.2.1, 15, .inl v_tKind)), (a_tA, .inl (X.1.2.2.1, 15, .inl v_tA)), (a_tB, .inl (X.1.2.2.1, 15, .inl v_tB)), (a_points, .inl (X.1.2.2.1, 16, .inl w3)), (a_holds, .inl (X.1.2.2.2.2, 16, .inl w4))] [] 236 [.int k6] := by
        intro k6 hf
        have hf := app1 eJ236 hf
        rw [← Option.some.inj hf] at hret
        exact hret () _ _ dX6_worth_236
      refine g_if_eq C dX6_worth_223 (tgt := 235) (by decide) hf (fun hf => ?_) (fun hf => ?_)
      · refine g_iconst (v := (-1)) C dX6_worth_235 (by decide) ?_
        exact g_lv [] rfl (hJ236 (-1) hf)
      · refine g_aload_n C dX6_worth_226 rfl 0 rfl ?_
        refine g_get C inX6_worth_6 0 rfl rfl 32 (by decide) (List.mem_of_getElem? (i := 4) rfl) rfl rfl dX6_worth_227 ?_
        refine g_iconst (v := 0) C dX6_worth_230 (by decide) ?_
        refine g_iaload C 6 rfl dX6_worth_231 hf (fun z7 hf => ?_)
        refine g_goto C dX6_worth_232 (tgt := 236) (by decide) ?_
        exact g_lv [] rfl (hJ236 z7 hf)
    have hL20 : ∀ (n : Nat) (y8 : Int32) (y9 : Int32) (w10 : Nat → Int32) (w11 : Nat → Int32), lo4 (sX6_worth_20 J217 v_tKind v_seenSources x0 v_tA v_tB) n y8 y9 w10 w11 = some t → G X 0 0 [(a_this, .inr (6, [.ref a_kinds, .ref a_seqs, .ref a_versions, .ref a_oldKinds, .ref a_oldSeqs, .ref a_oldVersions, .ref a_seenSeqs, .ref a_sources, .ref a_oldSources, .ref a_seenSources, .ref a_done, .int v_checkpoint, .int v_max, .int v_persisted, .int v_oldCheckpoint, .int v_oldMax, .int v_down, .ref a_bytes, .ref a_lengths, .ref a_greatest, .int v_oldest, .int v_generations, .int v_synced, .int v_rKind, .int v_rSeq, .int v_rId, .int v_rVersion, .int v_rEnd, .long v_rSource, .ref a_tKind, .ref a_tA, .ref a_tB, .ref a_points, .ref a_holds, .int v_tokens, .int v_visible])), (a_seenSeqs, .inl (X.1.2.2.1, 16, .inl v_seenSeqs)), (a_seenSources, .inl (X.1.2.2.2.1, 16, .inr (.inl v_seenSources))), (a_tKind, .inl (X.1.2.2.1, 15, .inl v_tKind)), (a_tA, .inl (X.1.2.2.1, 15, .inl v_tA)), (a_tB, .inl (X.1.2.2.1, 15, .inl v_tB)), (a_points, .inl (X.1.2.2.1, 16, .inl w10)), (a_holds, .inl (X.1.2.2.2.2, 16, .inl w11))] [(0, .ref a_this), (1, .int x0), (2, .int y8), (3, .int y9)] 20 [] := by
      intro n
      induction n with
      | zero => intro y8 y9 w10 w11 hf; exact (lo4_z hf).elim
      | succ n ih20 =>
        intro y8 y9 w10 w11 hf
        obtain ⟨R20, eR20, hf⟩ := lo4_x hf
        unfold sX6_worth_20 at hf
        refine g_iload_n C dX6_worth_20 rfl 3 rfl ?_
        refine g_if_lt C dX6_worth_21 (tgt := 217) (by decide) hf (fun hf => ?_) (fun hf => ?_)
        · exact g_lv [0] rfl (hJ217 w10 w11 hf)
        · refine g_aload_n C dX6_worth_24 rfl 0 rfl ?_
          refine g_get C inX6_worth_6 0 rfl rfl 29 (by decide) (List.mem_of_getElem? (i := 3) rfl) rfl rfl dX6_worth_25 ?_
          refine g_iload_n C dX6_worth_28 rfl 3 rfl ?_
          refine g_iaload C 3 rfl dX6_worth_29 hf (fun z12 hf => ?_)
          refine g_istore (lv2 := [(4, .int z12), (0, .ref a_this), (1, .int x0), (2, .int y8), (3, .int y9)]) C dX6_worth_30 (by decide) rfl ?_
          refine g_iload C dX6_worth_32 0 rfl ?_
          refine g_iconst (v := 4) C dX6_worth_34 (by decide) ?_
          obtain ⟨J211, eJ211, hf⟩ := jp_x hf
          have hJ211 : ∀ (y13 : Int32) (w14 : Nat → Int32) (w15 : Nat → Int32), J211 y13 w14 w15 = some t → G X 0 0 [(a_this, .inr (6, [.ref a_kinds, .ref a_seqs, .ref a_versions, .ref a_oldKinds, .ref a_oldSeqs, .ref a_oldVersions, .ref a_seenSeqs, .ref a_sources, .ref a_oldSources, .ref a_seenSources, .ref a_done, .int v_checkpoint, .int v_max, .int v_persisted, .int v_oldCheckpoint, .int v_oldMax, .int v_down, .ref a_bytes, .ref a_lengths, .ref a_greatest, .int v_oldest, .int v_generations, .int v_synced, .int v_rKind, .int v_rSeq, .int v_rId, .int v_rVersion, .int v_rEnd, .long v_rSource, .ref a_tKind, .ref a_tA, .ref a_tB, .ref a_points, .ref a_holds, .int v_tokens, .int v_visible])), (a_seenSeqs, .inl (X.1.2.2.1, 16, .inl v_seenSeqs)), (a_seenSources, .inl (X.1.2.2.2.1, 16, .inr (.inl v_seenSources))), (a_tKind, .inl (X.1.2.2.1, 15, .inl v_tKind)), (a_tA, .inl (X.1.2.2.1, 15, .inl v_tA)), (a_tB, .inl (X.1.2.2.1, 15, .inl v_tB)), (a_points, .inl (X.1.2.2.1, 16, .inl w14)), (a_holds, .inl (X.1.2.2.2.2, 16, .inl w15))] [(0, .ref a_this), (1, .int x0), (2, .int y13), (3, .int y9)] 211 [] := by
            intro y13 w14 w15 hf
            have hf := app3 eJ211 hf
            refine g_iinc (v := (-1)) (lv2 := fun z16 => [(3, .int z16), (0, .ref a_this), (1, .int x0), (2, .int y13)]) C dX6_worth_211 3 rfl (by decide) (by decide) hf (fun _ => rfl) (fun z16 hf => ?_)
            refine g_goto C dX6_worth_214 (tgt := 20) (by decide) ?_
            exact g_lv [1, 2, 3, 0] rfl (ih20 y13 z16 w14 w15 (app4 eR20 hf))
          refine g_icmp_ge C dX6_worth_35 (tgt := 81) (by decide) hf (fun hf => ?_) (fun hf => ?_)
          · refine g_iload C dX6_worth_81 0 rfl ?_
            refine g_bipush (v := 6) C dX6_worth_83 (by decide) ?_
            refine g_icmp_ne C dX6_worth_85 (tgt := 124) (by decide) hf (fun hf => ?_) (fun hf => ?_)
            · refine g_iinc (v := (-1)) (lv2 := fun z17 => [(2, .int z17), (4, .int z12), (0, .ref a_this), (1, .int x0), (3, .int y9)]) C dX6_worth_124 3 rfl (by decide) (by decide) hf (fun _ => rfl) (fun z17 hf => ?_)
              refine g_aload_n C dX6_worth_127 rfl 2 rfl ?_
              refine g_get C inX6_worth_6 0 rfl rfl 32 (by decide) (List.mem_of_getElem? (i := 4) rfl) rfl rfl dX6_worth_128 ?_
              refine g_iload_n C dX6_worth_131 rfl 0 rfl ?_
              refine g_iconst (v := 1) C dX6_worth_132 (by decide) ?_
              refine g_isub C dX6_worth_133 hf (fun z18 hf => ?_)
              refine g_dup2 C dX6_worth_134 rfl rfl ?_
              refine g_iaload C 6 rfl dX6_worth_135 hf (fun z19 hf => ?_)
              refine g_aload_n C dX6_worth_136 rfl 2 rfl ?_
              refine g_get C inX6_worth_6 0 rfl rfl 32 (by decide) (List.mem_of_getElem? (i := 4) rfl) rfl rfl dX6_worth_137 ?_
              refine g_iload_n C dX6_worth_140 rfl 0 rfl ?_
              refine g_iaload C 6 rfl dX6_worth_141 hf (fun z20 hf => ?_)
              refine g_iadd C dX6_worth_142 hf (fun z21 hf => ?_)
              refine g_iastore (Wd2 := fun g22 => [(a_this, .inr (6, [.ref a_kinds, .ref a_seqs, .ref a_versions, .ref a_oldKinds, .ref a_oldSeqs, .ref a_oldVersions, .ref a_seenSeqs, .ref a_sources, .ref a_oldSources, .ref a_seenSources, .ref a_done, .int v_checkpoint, .int v_max, .int v_persisted, .int v_oldCheckpoint, .int v_oldMax, .int v_down, .ref a_bytes, .ref a_lengths, .ref a_greatest, .int v_oldest, .int v_generations, .int v_synced, .int v_rKind, .int v_rSeq, .int v_rId, .int v_rVersion, .int v_rEnd, .long v_rSource, .ref a_tKind, .ref a_tA, .ref a_tB, .ref a_points, .ref a_holds, .int v_tokens, .int v_visible])), (a_seenSeqs, .inl (X.1.2.2.1, 16, .inl v_seenSeqs)), (a_seenSources, .inl (X.1.2.2.2.1, 16, .inr (.inl v_seenSources))), (a_tKind, .inl (X.1.2.2.1, 15, .inl v_tKind)), (a_tA, .inl (X.1.2.2.1, 15, .inl v_tA)), (a_tB, .inl (X.1.2.2.1, 15, .inl v_tB)), (a_points, .inl (X.1.2.2.1, 16, .inl g22)), (a_holds, .inl (X.1.2.2.2.2, 16, .inl w11))]) C 6 rfl dX6_worth_143 hf (fun _ => rfl) (fun g22 hf => ?_)
              refine g_aload_n C dX6_worth_144 rfl 2 rfl ?_
              refine g_get C inX6_worth_6 0 rfl rfl 33 (by decide) (List.mem_of_getElem? (i := 6) rfl) rfl rfl dX6_worth_145 ?_
              refine g_iload_n C dX6_worth_148 rfl 0 rfl ?_
              refine g_iconst (v := 1) C dX6_worth_149 (by decide) ?_
              refine g_isub C dX6_worth_150 hf (fun z23 hf => ?_)
              refine g_iload C dX6_worth_151 1 rfl ?_
              refine g_iconst (v := 4) C dX6_worth_153 (by decide) ?_
              obtain ⟨J210, eJ210, hf⟩ := jp_x hf
              have hJ210 : ∀ (k24 : Int32), J210 k24 = some t → G X 0 0 [(a_this, .inr (6, [.ref a_kinds, .ref a_seqs, .ref a_versions, .ref a_oldKinds, .ref a_oldSeqs, .ref a_oldVersions, .ref a_seenSeqs, .ref a_sources, .ref a_oldSources, .ref a_seenSources, .ref a_done, .int v_checkpoint, .int v_max, .int v_persisted, .int v_oldCheckpoint, .int v_oldMax, .int v_down, .ref a_bytes, .ref a_lengths, .ref a_greatest, .int v_oldest, .int v_generations, .int v_synced, .int v_rKind, .int v_rSeq, .int v_rId, .int v_rVersion, .int v_rEnd, .long v_rSource, .ref a_tKind, .ref a_tA, .ref a_tB, .ref a_points, .ref a_holds, .int v_tokens, .int v_visible])), (a_seenSeqs, .inl (X.1.2.2.1, 16, .inl v_seenSeqs)), (a_seenSources, .inl (X.1.2.2.2.1, 16, .inr (.inl v_seenSources))), (a_tKind, .inl (X.1.2.2.1, 15, .inl v_tKind)), (a_tA, .inl (X.1.2.2.1, 15, .inl v_tA)), (a_tB, .inl (X.1.2.2.1, 15, .inl v_tB)), (a_points, .inl (X.1.2.2.1, 16, .inl g22)), (a_holds, .inl (X.1.2.2.2.2, 16, .inl w11))] [(0, .ref a_this), (1, .int x0), (2, .int z17), (3, .int y9)] 210 [.int k24, .int z23, .ref a_holds] := by
                intro k24 hf
                have hf := app1 eJ210 hf
                refine g_zastore (Wd2 := fun g25 => [(a_this, .inr (6, [.ref a_kinds, .ref a_seqs, .ref a_versions, .ref a_oldKinds, .ref a_oldSeqs, .ref a_oldVersions, .ref a_seenSeqs, .ref a_sources, .ref a_oldSources, .ref a_seenSources, .ref a_done, .int v_checkpoint, .int v_max, .int v_persisted, .int v_oldCheckpoint, .int v_oldMax, .int v_down, .ref a_bytes, .ref a_lengths, .ref a_greatest, .int v_oldest, .int v_generations, .int v_synced, .int v_rKind, .int v_rSeq, .int v_rId, .int v_rVersion, .int v_rEnd, .long v_rSource, .ref a_tKind, .ref a_tA, .ref a_tB, .ref a_points, .ref a_holds, .int v_tokens, .int v_visible])), (a_seenSeqs, .inl (X.1.2.2.1, 16, .inl v_seenSeqs)), (a_seenSources, .inl (X.1.2.2.2.1, 16, .inr (.inl v_seenSources))), (a_tKind, .inl (X.1.2.2.1, 15, .inl v_tKind)), (a_tA, .inl (X.1.2.2.1, 15, .inl v_tA)), (a_tB, .inl (X.1.2.2.1, 15, .inl v_tB)), (a_points, .inl (X.1.2.2.1, 16, .inl g22)), (a_holds, .inl (X.1.2.2.2.2, 16, .inl g25))]) C 7 rfl dX6_worth_210 hf (fun _ => rfl) (fun g25 hf => ?_)
                exact hJ211 z17 g22 g25 hf
              refine g_icmp_ne C dX6_worth_154 (tgt := 185) (by decide) hf (fun hf => ?_) (fun hf => ?_)
              · refine g_aload_n C dX6_worth_185 rfl 2 rfl ?_
                refine g_get C inX6_worth_6 0 rfl rfl 33 (by decide) (List.mem_of_getElem? (i := 6) rfl) rfl rfl dX6_worth_186 ?_
                refine g_iload_n C dX6_worth_189 rfl 0 rfl ?_
                refine g_iconst (v := 1) C dX6_worth_190 (by decide) ?_
                refine g_isub C dX6_worth_191 hf (fun z26 hf => ?_)
                refine g_zaload C 7 rfl dX6_worth_192 hf (fun z27 hf => ?_)
                obtain ⟨J205, eJ205, hf⟩ := jp_x hf
                have hJ205 : J205 = some t → G X 0 0 [(a_this, .inr (6, [.ref a_kinds, .ref a_seqs, .ref a_versions, .ref a_oldKinds, .ref a_oldSeqs, .ref a_oldVersions, .ref a_seenSeqs, .ref a_sources, .ref a_oldSources, .ref a_seenSources, .ref a_done, .int v_checkpoint, .int v_max, .int v_persisted, .int v_oldCheckpoint, .int v_oldMax, .int v_down, .ref a_bytes, .ref a_lengths, .ref a_greatest, .int v_oldest, .int v_generations, .int v_synced, .int v_rKind, .int v_rSeq, .int v_rId, .int v_rVersion, .int v_rEnd, .long v_rSource, .ref a_tKind, .ref a_tA, .ref a_tB, .ref a_points, .ref a_holds, .int v_tokens, .int v_visible])), (a_seenSeqs, .inl (X.1.2.2.1, 16, .inl v_seenSeqs)), (a_seenSources, .inl (X.1.2.2.2.1, 16, .inr (.inl v_seenSources))), (a_tKind, .inl (X.1.2.2.1, 15, .inl v_tKind)), (a_tA, .inl (X.1.2.2.1, 15, .inl v_tA)), (a_tB, .inl (X.1.2.2.1, 15, .inl v_tB)), (a_points, .inl (X.1.2.2.1, 16, .inl g22)), (a_holds, .inl (X.1.2.2.2.2, 16, .inl w11))] [(0, .ref a_this), (1, .int x0), (2, .int z17), (3, .int y9)] 205 [.int z23, .ref a_holds] := by
                  intro  hf
                  have hf := app0 eJ205 hf
                  refine g_iconst (v := 1) C dX6_worth_205 (by decide) ?_
                  refine g_goto C dX6_worth_206 (tgt := 210) (by decide) ?_
                  exact hJ210 1 hf
                refine g_if_ne C dX6_worth_193 (tgt := 205) (by decide) hf (fun hf => ?_) (fun hf => ?_)
                · exact g_lv [2, 3, 0, 4] rfl (hJ205 hf)
                · refine g_aload_n C dX6_worth_196 rfl 2 rfl ?_
                  refine g_get C inX6_worth_6 0 rfl rfl 33 (by decide) (List.mem_of_getElem? (i := 6) rfl) rfl rfl dX6_worth_197 ?_
                  refine g_iload_n C dX6_worth_200 rfl 0 rfl ?_
                  refine g_zaload C 7 rfl dX6_worth_201 hf (fun z28 hf => ?_)
                  refine g_if_eq C dX6_worth_202 (tgt := 209) (by decide) hf (fun hf => ?_) (fun hf => ?_)
                  · refine g_iconst (v := 0) C dX6_worth_209 (by decide) ?_
                    exact g_lv [2, 3, 0, 4] rfl (hJ210 0 hf)
                  · exact g_lv [2, 3, 0, 4] rfl (hJ205 hf)
              · refine g_aload_n C dX6_worth_157 rfl 2 rfl ?_
                refine g_get C inX6_worth_6 0 rfl rfl 33 (by decide) (List.mem_of_getElem? (i := 6) rfl) rfl rfl dX6_worth_158 ?_
                refine g_iload_n C dX6_worth_161 rfl 0 rfl ?_
                refine g_iconst (v := 1) C dX6_worth_162 (by decide) ?_
                refine g_isub C dX6_worth_163 hf (fun z29 hf => ?_)
                refine g_zaload C 7 rfl dX6_worth_164 hf (fun z30 hf => ?_)
                obtain ⟨J181, eJ181, hf⟩ := jp_x hf
                have hJ181 : J181 = some t → G X 0 0 [(a_this, .inr (6, [.ref a_kinds, .ref a_seqs, .ref a_versions, .ref a_oldKinds, .ref a_oldSeqs, .ref a_oldVersions, .ref a_seenSeqs, .ref a_sources, .ref a_oldSources, .ref a_seenSources, .ref a_done, .int v_checkpoint, .int v_max, .int v_persisted, .int v_oldCheckpoint, .int v_oldMax, .int v_down, .ref a_bytes, .ref a_lengths, .ref a_greatest, .int v_oldest, .int v_generations, .int v_synced, .int v_rKind, .int v_rSeq, .int v_rId, .int v_rVersion, .int v_rEnd, .long v_rSource, .ref a_tKind, .ref a_tA, .ref a_tB, .ref a_points, .ref a_holds, .int v_tokens, .int v_visible])), (a_seenSeqs, .inl (X.1.2.2.1, 16, .inl v_seenSeqs)), (a_seenSources, .inl (X.1.2.2.2.1, 16, .inr (.inl v_seenSources))), (a_tKind, .inl (X.1.2.2.1, 15, .inl v_tKind)), (a_tA, .inl (X.1.2.2.1, 15, .inl v_tA)), (a_tB, .inl (X.1.2.2.1, 15, .inl v_tB)), (a_points, .inl (X.1.2.2.1, 16, .inl g22)), (a_holds, .inl (X.1.2.2.2.2, 16, .inl w11))] [(0, .ref a_this), (1, .int x0), (2, .int z17), (3, .int y9)] 181 [.int z23, .ref a_holds] := by
                  intro  hf
                  have hf := app0 eJ181 hf
                  refine g_iconst (v := 0) C dX6_worth_181 (by decide) ?_
                  refine g_goto C dX6_worth_182 (tgt := 210) (by decide) ?_
                  exact hJ210 0 hf
                refine g_if_eq C dX6_worth_165 (tgt := 181) (by decide) hf (fun hf => ?_) (fun hf => ?_)
                · exact g_lv [2, 3, 0, 4] rfl (hJ181 hf)
                · refine g_aload_n C dX6_worth_168 rfl 2 rfl ?_
                  refine g_get C inX6_worth_6 0 rfl rfl 33 (by decide) (List.mem_of_getElem? (i := 6) rfl) rfl rfl dX6_worth_169 ?_
                  refine g_iload_n C dX6_worth_172 rfl 0 rfl ?_
                  refine g_zaload C 7 rfl dX6_worth_173 hf (fun z31 hf => ?_)
                  refine g_if_eq C dX6_worth_174 (tgt := 181) (by decide) hf (fun hf => ?_) (fun hf => ?_)
                  · exact g_lv [2, 3, 0, 4] rfl (hJ181 hf)
                  · refine g_iconst (v := 1) C dX6_worth_177 (by decide) ?_
                    refine g_goto C dX6_worth_178 (tgt := 210) (by decide) ?_
                    exact g_lv [2, 3, 0, 4] rfl (hJ210 1 hf)
            · refine g_aload_n C dX6_worth_88 rfl 1 rfl ?_
              refine g_get C inX6_worth_6 0 rfl rfl 32 (by decide) (List.mem_of_getElem? (i := 4) rfl) rfl rfl dX6_worth_89 ?_
              refine g_iload_n C dX6_worth_92 rfl 3 rfl ?_
              refine g_iconst (v := 1) C dX6_worth_93 (by decide) ?_
              refine g_isub C dX6_worth_94 hf (fun z32 hf => ?_)
              refine g_iconst (v := 0) C dX6_worth_95 (by decide) ?_
              refine g_iastore (Wd2 := fun g33 => [(a_this, .inr (6, [.ref a_kinds, .ref a_seqs, .ref a_versions, .ref a_oldKinds, .ref a_oldSeqs, .ref a_oldVersions, .ref a_seenSeqs, .ref a_sources, .ref a_oldSources, .ref a_seenSources, .ref a_done, .int v_checkpoint, .int v_max, .int v_persisted, .int v_oldCheckpoint, .int v_oldMax, .int v_down, .ref a_bytes, .ref a_lengths, .ref a_greatest, .int v_oldest, .int v_generations, .int v_synced, .int v_rKind, .int v_rSeq, .int v_rId, .int v_rVersion, .int v_rEnd, .long v_rSource, .ref a_tKind, .ref a_tA, .ref a_tB, .ref a_points, .ref a_holds, .int v_tokens, .int v_visible])), (a_seenSeqs, .inl (X.1.2.2.1, 16, .inl v_seenSeqs)), (a_seenSources, .inl (X.1.2.2.2.1, 16, .inr (.inl v_seenSources))), (a_tKind, .inl (X.1.2.2.1, 15, .inl v_tKind)), (a_tA, .inl (X.1.2.2.1, 15, .inl v_tA)), (a_tB, .inl (X.1.2.2.1, 15, .inl v_tB)), (a_points, .inl (X.1.2.2.1, 16, .inl g33)), (a_holds, .inl (X.1.2.2.2.2, 16, .inl w11))]) C 6 rfl dX6_worth_96 hf (fun _ => rfl) (fun g33 hf => ?_)
              refine g_aload_n C dX6_worth_97 rfl 1 rfl ?_
              refine g_get C inX6_worth_6 0 rfl rfl 33 (by decide) (List.mem_of_getElem? (i := 6) rfl) rfl rfl dX6_worth_98 ?_
              refine g_iload_n C dX6_worth_101 rfl 3 rfl ?_
              refine g_iconst (v := 1) C dX6_worth_102 (by decide) ?_
              refine g_isub C dX6_worth_103 hf (fun z34 hf => ?_)
              refine g_aload_n C dX6_worth_104 rfl 1 rfl ?_
              refine g_get C inX6_worth_6 0 rfl rfl 33 (by decide) (List.mem_of_getElem? (i := 6) rfl) rfl rfl dX6_worth_105 ?_
              refine g_iload_n C dX6_worth_108 rfl 3 rfl ?_
              refine g_iconst (v := 1) C dX6_worth_109 (by decide) ?_
              refine g_isub C dX6_worth_110 hf (fun z35 hf => ?_)
              refine g_zaload C 7 rfl dX6_worth_111 hf (fun z36 hf => ?_)
              obtain ⟨J120, eJ120, hf⟩ := jp_x hf
              have hJ120 : ∀ (k37 : Int32), J120 k37 = some t → G X 0 0 [(a_this, .inr (6, [.ref a_kinds, .ref a_seqs, .ref a_versions, .ref a_oldKinds, .ref a_oldSeqs, .ref a_oldVersions, .ref a_seenSeqs, .ref a_sources, .ref a_oldSources, .ref a_seenSources, .ref a_done, .int v_checkpoint, .int v_max, .int v_persisted, .int v_oldCheckpoint, .int v_oldMax, .int v_down, .ref a_bytes, .ref a_lengths, .ref a_greatest, .int v_oldest, .int v_generations, .int v_synced, .int v_rKind, .int v_rSeq, .int v_rId, .int v_rVersion, .int v_rEnd, .long v_rSource, .ref a_tKind, .ref a_tA, .ref a_tB, .ref a_points, .ref a_holds, .int v_tokens, .int v_visible])), (a_seenSeqs, .inl (X.1.2.2.1, 16, .inl v_seenSeqs)), (a_seenSources, .inl (X.1.2.2.2.1, 16, .inr (.inl v_seenSources))), (a_tKind, .inl (X.1.2.2.1, 15, .inl v_tKind)), (a_tA, .inl (X.1.2.2.1, 15, .inl v_tA)), (a_tB, .inl (X.1.2.2.1, 15, .inl v_tB)), (a_points, .inl (X.1.2.2.1, 16, .inl g33)), (a_holds, .inl (X.1.2.2.2.2, 16, .inl w11))] [(0, .ref a_this), (1, .int x0), (2, .int y8), (3, .int y9)] 120 [.int k37, .int z34, .ref a_holds] := by
                intro k37 hf
                have hf := app1 eJ120 hf
                refine g_zastore (Wd2 := fun g38 => [(a_this, .inr (6, [.ref a_kinds, .ref a_seqs, .ref a_versions, .ref a_oldKinds, .ref a_oldSeqs, .ref a_oldVersions, .ref a_seenSeqs, .ref a_sources, .ref a_oldSources, .ref a_seenSources, .ref a_done, .int v_checkpoint, .int v_max, .int v_persisted, .int v_oldCheckpoint, .int v_oldMax, .int v_down, .ref a_bytes, .ref a_lengths, .ref a_greatest, .int v_oldest, .int v_generations, .int v_synced, .int v_rKind, .int v_rSeq, .int v_rId, .int v_rVersion, .int v_rEnd, .long v_rSource, .ref a_tKind, .ref a_tA, .ref a_tB, .ref a_points, .ref a_holds, .int v_tokens, .int v_visible])), (a_seenSeqs, .inl (X.1.2.2.1, 16, .inl v_seenSeqs)), (a_seenSources, .inl (X.1.2.2.2.1, 16, .inr (.inl v_seenSources))), (a_tKind, .inl (X.1.2.2.1, 15, .inl v_tKind)), (a_tA, .inl (X.1.2.2.1, 15, .inl v_tA)), (a_tB, .inl (X.1.2.2.1, 15, .inl v_tB)), (a_points, .inl (X.1.2.2.1, 16, .inl g33)), (a_holds, .inl (X.1.2.2.2.2, 16, .inl g38))]) C 7 rfl dX6_worth_120 hf (fun _ => rfl) (fun g38 hf => ?_)
                refine g_goto C dX6_worth_121 (tgt := 211) (by decide) ?_
                exact hJ211 y8 g33 g38 hf
              refine g_if_ne C dX6_worth_112 (tgt := 119) (by decide) hf (fun hf => ?_) (fun hf => ?_)
              · refine g_iconst (v := 0) C dX6_worth_119 (by decide) ?_
                exact g_lv [1, 2, 3, 4] rfl (hJ120 0 hf)
              · refine g_iconst (v := 1) C dX6_worth_115 (by decide) ?_
                refine g_goto C dX6_worth_116 (tgt := 120) (by decide) ?_
                exact g_lv [1, 2, 3, 4] rfl (hJ120 1 hf)
          · refine g_aload_n C dX6_worth_38 rfl 1 rfl ?_
            refine g_get C inX6_worth_6 0 rfl rfl 32 (by decide) (List.mem_of_getElem? (i := 4) rfl) rfl rfl dX6_worth_39 ?_
            refine g_iload_n C dX6_worth_42 rfl 3 rfl ?_
            refine g_aload_n C dX6_worth_43 rfl 1 rfl ?_
            refine g_iload_n C dX6_worth_44 rfl 4 rfl ?_
            refine g_aload_n C dX6_worth_45 rfl 1 rfl ?_
            refine g_get C inX6_worth_6 0 rfl rfl 9 (by decide) (List.mem_of_getElem? (i := 5) rfl) rfl rfl dX6_worth_46 ?_
            refine g_iload_n C dX6_worth_49 rfl 2 rfl ?_
            refine g_laload C 2 rfl dX6_worth_50 hf (fun z39 hf => ?_)
            obtain ⟨r40, hq41, hf⟩ := cal1_x hf
            refine g_callV (As := [.int y9, .long z39]) (rest := [.int y8, .ref a_points]) (st2 := [.int r40, .int y8, .ref a_points]) (n := 2) C (cX6_given_ok X.1 a_this a_kinds a_seqs a_versions a_oldKinds a_oldSeqs a_oldVersions a_seenSeqs a_sources a_oldSources a_seenSources a_done a_bytes a_lengths a_greatest a_tKind a_tA a_tB a_points a_holds v_checkpoint v_max v_persisted v_oldCheckpoint v_oldMax v_down v_oldest v_generations v_synced v_rKind v_rSeq v_rId v_rVersion v_rEnd v_rSource v_tKind v_tA v_tB v_tokens v_visible y9 z39 hq41) gX6_worth_X6_given rfl rfl rfl ⟨rfl, by decide +kernel⟩ (by decide) 0 rfl rfl rfl [0, 3, 4, 5] (by decide) rfl [1, 2, 6, 7] (Wr := [(a_seenSeqs, .inl (X.1.2.2.1, 16, .inl v_seenSeqs)), (a_seenSources, .inl (X.1.2.2.2.1, 16, .inr (.inl v_seenSources))), (a_points, .inl (X.1.2.2.1, 16, .inl w10)), (a_holds, .inl (X.1.2.2.2.2, 16, .inl w11))]) (by decide) rfl (by decide) [4, 0, 1, 5, 6, 7, 2, 3] (by decide) (Wn := fun _ => [(a_this, .inr (6, [.ref a_kinds, .ref a_seqs, .ref a_versions, .ref a_oldKinds, .ref a_oldSeqs, .ref a_oldVersions, .ref a_seenSeqs, .ref a_sources, .ref a_oldSources, .ref a_seenSources, .ref a_done, .int v_checkpoint, .int v_max, .int v_persisted, .int v_oldCheckpoint, .int v_oldMax, .int v_down, .ref a_bytes, .ref a_lengths, .ref a_greatest, .int v_oldest, .int v_generations, .int v_synced, .int v_rKind, .int v_rSeq, .int v_rId, .int v_rVersion, .int v_rEnd, .long v_rSource, .ref a_tKind, .ref a_tA, .ref a_tB, .ref a_points, .ref a_holds, .int v_tokens, .int v_visible])), (a_seenSeqs, .inl (X.1.2.2.1, 16, .inl v_seenSeqs)), (a_seenSources, .inl (X.1.2.2.2.1, 16, .inr (.inl v_seenSources))), (a_tKind, .inl (X.1.2.2.1, 15, .inl v_tKind)), (a_tA, .inl (X.1.2.2.1, 15, .inl v_tA)), (a_tB, .inl (X.1.2.2.1, 15, .inl v_tB)), (a_points, .inl (X.1.2.2.1, 16, .inl w10)), (a_holds, .inl (X.1.2.2.2.2, 16, .inl w11))]) (fun _ => rfl) rfl rfl rfl (Nat.le_of_ble_eq_true rfl) dX6_worth_51 ⟨Nat.le_refl _, Nat.le_refl _⟩ (fun _ => ?_)
            refine g_iastore (Wd2 := fun g42 => [(a_this, .inr (6, [.ref a_kinds, .ref a_seqs, .ref a_versions, .ref a_oldKinds, .ref a_oldSeqs, .ref a_oldVersions, .ref a_seenSeqs, .ref a_sources, .ref a_oldSources, .ref a_seenSources, .ref a_done, .int v_checkpoint, .int v_max, .int v_persisted, .int v_oldCheckpoint, .int v_oldMax, .int v_down, .ref a_bytes, .ref a_lengths, .ref a_greatest, .int v_oldest, .int v_generations, .int v_synced, .int v_rKind, .int v_rSeq, .int v_rId, .int v_rVersion, .int v_rEnd, .long v_rSource, .ref a_tKind, .ref a_tA, .ref a_tB, .ref a_points, .ref a_holds, .int v_tokens, .int v_visible])), (a_seenSeqs, .inl (X.1.2.2.1, 16, .inl v_seenSeqs)), (a_seenSources, .inl (X.1.2.2.2.1, 16, .inr (.inl v_seenSources))), (a_tKind, .inl (X.1.2.2.1, 15, .inl v_tKind)), (a_tA, .inl (X.1.2.2.1, 15, .inl v_tA)), (a_tB, .inl (X.1.2.2.1, 15, .inl v_tB)), (a_points, .inl (X.1.2.2.1, 16, .inl g42)), (a_holds, .inl (X.1.2.2.2.2, 16, .inl w11))]) C 6 rfl dX6_worth_54 hf (fun _ => rfl) (fun g42 hf => ?_)
            refine g_aload_n C dX6_worth_55 rfl 1 rfl ?_
            refine g_get C inX6_worth_6 0 rfl rfl 33 (by decide) (List.mem_of_getElem? (i := 6) rfl) rfl rfl dX6_worth_56 ?_
            refine g_iload_n C dX6_worth_59 rfl 3 rfl ?_
            refine g_aload_n C dX6_worth_60 rfl 1 rfl ?_
            refine g_get C inX6_worth_6 0 rfl rfl 32 (by decide) (List.mem_of_getElem? (i := 4) rfl) rfl rfl dX6_worth_61 ?_
            refine g_iload_n C dX6_worth_64 rfl 3 rfl ?_
            refine g_iaload C 6 rfl dX6_worth_65 hf (fun z43 hf => ?_)
            obtain ⟨J74, eJ74, hf⟩ := jp_x hf
            have hJ74 : ∀ (k44 : Int32), J74 k44 = some t → G X 0 0 [(a_this, .inr (6, [.ref a_kinds, .ref a_seqs, .ref a_versions, .ref a_oldKinds, .ref a_oldSeqs, .ref a_oldVersions, .ref a_seenSeqs, .ref a_sources, .ref a_oldSources, .ref a_seenSources, .ref a_done, .int v_checkpoint, .int v_max, .int v_persisted, .int v_oldCheckpoint, .int v_oldMax, .int v_down, .ref a_bytes, .ref a_lengths, .ref a_greatest, .int v_oldest, .int v_generations, .int v_synced, .int v_rKind, .int v_rSeq, .int v_rId, .int v_rVersion, .int v_rEnd, .long v_rSource, .ref a_tKind, .ref a_tA, .ref a_tB, .ref a_points, .ref a_holds, .int v_tokens, .int v_visible])), (a_seenSeqs, .inl (X.1.2.2.1, 16, .inl v_seenSeqs)), (a_seenSources, .inl (X.1.2.2.2.1, 16, .inr (.inl v_seenSources))), (a_tKind, .inl (X.1.2.2.1, 15, .inl v_tKind)), (a_tA, .inl (X.1.2.2.1, 15, .inl v_tA)), (a_tB, .inl (X.1.2.2.1, 15, .inl v_tB)), (a_points, .inl (X.1.2.2.1, 16, .inl g42)), (a_holds, .inl (X.1.2.2.2.2, 16, .inl w11))] [(0, .ref a_this), (1, .int x0), (2, .int y8), (3, .int y9)] 74 [.int k44, .int y8, .ref a_holds] := by
              intro k44 hf
              have hf := app1 eJ74 hf
              refine g_zastore (Wd2 := fun g45 => [(a_this, .inr (6, [.ref a_kinds, .ref a_seqs, .ref a_versions, .ref a_oldKinds, .ref a_oldSeqs, .ref a_oldVersions, .ref a_seenSeqs, .ref a_sources, .ref a_oldSources, .ref a_seenSources, .ref a_done, .int v_checkpoint, .int v_max, .int v_persisted, .int v_oldCheckpoint, .int v_oldMax, .int v_down, .ref a_bytes, .ref a_lengths, .ref a_greatest, .int v_oldest, .int v_generations, .int v_synced, .int v_rKind, .int v_rSeq, .int v_rId, .int v_rVersion, .int v_rEnd, .long v_rSource, .ref a_tKind, .ref a_tA, .ref a_tB, .ref a_points, .ref a_holds, .int v_tokens, .int v_visible])), (a_seenSeqs, .inl (X.1.2.2.1, 16, .inl v_seenSeqs)), (a_seenSources, .inl (X.1.2.2.2.1, 16, .inr (.inl v_seenSources))), (a_tKind, .inl (X.1.2.2.1, 15, .inl v_tKind)), (a_tA, .inl (X.1.2.2.1, 15, .inl v_tA)), (a_tB, .inl (X.1.2.2.1, 15, .inl v_tB)), (a_points, .inl (X.1.2.2.1, 16, .inl g42)), (a_holds, .inl (X.1.2.2.2.2, 16, .inl g45))]) C 7 rfl dX6_worth_74 hf (fun _ => rfl) (fun g45 hf => ?_)
              refine g_iinc (v := 1) (lv2 := fun z46 => [(2, .int z46), (0, .ref a_this), (1, .int x0), (3, .int y9)]) C dX6_worth_75 2 rfl (by decide) (by decide) hf (fun _ => rfl) (fun z46 hf => ?_)
              refine g_goto C dX6_worth_78 (tgt := 211) (by decide) ?_
              exact g_lv [1, 2, 0, 3] rfl (hJ211 z46 g42 g45 hf)
            refine g_if_le C dX6_worth_66 (tgt := 73) (by decide) hf (fun hf => ?_) (fun hf => ?_)
            · refine g_iconst (v := 0) C dX6_worth_73 (by decide) ?_
              exact g_lv [1, 2, 3, 4] rfl (hJ74 0 hf)
            · refine g_iconst (v := 1) C dX6_worth_69 (by decide) ?_
              refine g_goto C dX6_worth_70 (tgt := 74) (by decide) ?_
              exact g_lv [1, 2, 3, 4] rfl (hJ74 1 hf)
    exact g_lv [2, 3, 1, 0] rfl (hL20 _ 0 z2 v_points v_holds hf)
  · refine g_iconst (v := (-1)) C dX6_worth_9 (by decide) ?_
    rw [← Option.some.inj hf] at hret
    exact hret () _ _ dX6_worth_10
def fX6_keyOf (v_seenSeqs : Nat → Int32) (v_seenSources : Nat → Int64) (v_tKind : Nat → Int32) (v_tA : Nat → Int32) (v_tB : Nat → Int32) (v_points : Nat → Int32) (v_holds : Nat → Int32) (v_tokens : Int32) (x0 : Int32) (x1 : Int32) : Option ((Int32) × (Nat → Int32) × (Nat → Int32)) :=
  (jp (fun (w1 : Nat → Int32) (w2 : Nat → Int32) (k3 : Int32) => (some (k3, w1, w2))) (fun J19 => (if x0 = 0 then (cal3 (fX6_worth v_seenSeqs v_seenSources v_tKind v_tA v_tB v_points v_holds v_tokens x1) (fun r6 u7 u8 => (J19 u7 u8 r6))) else (rdJ v_seenSources 16 x1 (fun z4 => (bnd (Int64.toInt32 z4) (fun z5 => (J19 v_points v_holds z5))))))))
theorem inX6_keyOf_6 : ∀ w ∈ wsX60, w ∈ wsX6_keyOf := fun _ h => List.mem_cons_of_mem _ (List.mem_append_right _ h)
set_option maxRecDepth 100000 in
set_option maxHeartbeats 8000000 in
theorem cX6_keyOf_ok (L : XL) (a_this a_kinds a_seqs a_versions a_oldKinds a_oldSeqs a_oldVersions a_seenSeqs a_sources a_oldSources a_seenSources a_done a_bytes a_lengths a_greatest a_tKind a_tA a_tB a_points a_holds : Nat) (v_seenSeqs : Nat → Int32) (v_seenSources : Nat → Int64) (v_checkpoint : Int32) (v_max : Int32) (v_persisted : Int32) (v_oldCheckpoint : Int32) (v_oldMax : Int32) (v_down : Int32) (v_oldest : Int32) (v_generations : Int32) (v_synced : Int32) (v_rKind : Int32) (v_rSeq : Int32) (v_rId : Int32) (v_rVersion : Int32) (v_rEnd : Int32) (v_rSource : Int64) (v_tKind : Nat → Int32) (v_tA : Nat → Int32) (v_tB : Nat → Int32) (v_points : Nat → Int32) (v_holds : Nat → Int32) (v_tokens : Int32) (v_visible : Int32) (x0 : Int32) (x1 : Int32) {t : (Int32) × (Nat → Int32) × (Nat → Int32)} (hf : fX6_keyOf v_seenSeqs v_seenSources v_tKind v_tA v_tB v_points v_holds v_tokens x0 x1 = some t) : xM L yX6_keyOf wsX6_keyOf ({ frames := 4, cells := 0, slots := 0, locals := 99 }) [.ref a_this, .int x0, .int x1] [(a_this, .inr (6, [.ref a_kinds, .ref a_seqs, .ref a_versions, .ref a_oldKinds, .ref a_oldSeqs, .ref a_oldVersions, .ref a_seenSeqs, .ref a_sources, .ref a_oldSources, .ref a_seenSources, .ref a_done, .int v_checkpoint, .int v_max, .int v_persisted, .int v_oldCheckpoint, .int v_oldMax, .int v_down, .ref a_bytes, .ref a_lengths, .ref a_greatest, .int v_oldest, .int v_generations, .int v_synced, .int v_rKind, .int v_rSeq, .int v_rId, .int v_rVersion, .int v_rEnd, .long v_rSource, .ref a_tKind, .ref a_tA, .ref a_tB, .ref a_points, .ref a_holds, .int v_tokens, .int v_visible])), (a_seenSeqs, .inl (L.2.2.1, 16, .inl v_seenSeqs)), (a_seenSources, .inl (L.2.2.2.1, 16, .inr (.inl v_seenSources))), (a_tKind, .inl (L.2.2.1, 15, .inl v_tKind)), (a_tA, .inl (L.2.2.1, 15, .inl v_tA)), (a_tB, .inl (L.2.2.1, 15, .inl v_tB)), (a_points, .inl (L.2.2.1, 16, .inl v_points)), (a_holds, .inl (L.2.2.2.2, 16, .inl v_holds))] 0 0 (some (.int t.1)) (fun _ : Unit => [(a_this, .inr (6, [.ref a_kinds, .ref a_seqs, .ref a_versions, .ref a_oldKinds, .ref a_oldSeqs, .ref a_oldVersions, .ref a_seenSeqs, .ref a_sources, .ref a_oldSources, .ref a_seenSources, .ref a_done, .int v_checkpoint, .int v_max, .int v_persisted, .int v_oldCheckpoint, .int v_oldMax, .int v_down, .ref a_bytes, .ref a_lengths, .ref a_greatest, .int v_oldest, .int v_generations, .int v_synced, .int v_rKind, .int v_rSeq, .int v_rId, .int v_rVersion, .int v_rEnd, .long v_rSource, .ref a_tKind, .ref a_tA, .ref a_tB, .ref a_points, .ref a_holds, .int v_tokens, .int v_visible])), (a_seenSeqs, .inl (L.2.2.1, 16, .inl v_seenSeqs)), (a_seenSources, .inl (L.2.2.2.1, 16, .inr (.inl v_seenSources))), (a_tKind, .inl (L.2.2.1, 15, .inl v_tKind)), (a_tA, .inl (L.2.2.1, 15, .inl v_tA)), (a_tB, .inl (L.2.2.1, 15, .inl v_tB)), (a_points, .inl (L.2.2.1, 16, .inl t.2.1)), (a_holds, .inl (L.2.2.2.2, 16, .inl t.2.2))]) := by
  refine enter_i (own := RX6) (by decide) rfl rfl (Nat.le_of_ble_eq_true rfl) ?_
  intro X hXL C _ hret
  subst hXL
  unfold fX6_keyOf at hf
  show G X 0 0 [(a_this, .inr (6, [.ref a_kinds, .ref a_seqs, .ref a_versions, .ref a_oldKinds, .ref a_oldSeqs, .ref a_oldVersions, .ref a_seenSeqs, .ref a_sources, .ref a_oldSources, .ref a_seenSources, .ref a_done, .int v_checkpoint, .int v_max, .int v_persisted, .int v_oldCheckpoint, .int v_oldMax, .int v_down, .ref a_bytes, .ref a_lengths, .ref a_greatest, .int v_oldest, .int v_generations, .int v_synced, .int v_rKind, .int v_rSeq, .int v_rId, .int v_rVersion, .int v_rEnd, .long v_rSource, .ref a_tKind, .ref a_tA, .ref a_tB, .ref a_points, .ref a_holds, .int v_tokens, .int v_visible])), (a_seenSeqs, .inl (X.1.2.2.1, 16, .inl v_seenSeqs)), (a_seenSources, .inl (X.1.2.2.2.1, 16, .inr (.inl v_seenSources))), (a_tKind, .inl (X.1.2.2.1, 15, .inl v_tKind)), (a_tA, .inl (X.1.2.2.1, 15, .inl v_tA)), (a_tB, .inl (X.1.2.2.1, 15, .inl v_tB)), (a_points, .inl (X.1.2.2.1, 16, .inl v_points)), (a_holds, .inl (X.1.2.2.2.2, 16, .inl v_holds))] [(0, .ref a_this), (1, .int x0), (2, .int x1)] 0 []
  refine g_iload_n C dX6_keyOf_0 rfl 1 rfl ?_
  obtain ⟨J19, eJ19, hf⟩ := jp_x hf
  have hJ19 : ∀ (w1 : Nat → Int32) (w2 : Nat → Int32) (k3 : Int32), J19 w1 w2 k3 = some t → G X 0 0 [(a_this, .inr (6, [.ref a_kinds, .ref a_seqs, .ref a_versions, .ref a_oldKinds, .ref a_oldSeqs, .ref a_oldVersions, .ref a_seenSeqs, .ref a_sources, .ref a_oldSources, .ref a_seenSources, .ref a_done, .int v_checkpoint, .int v_max, .int v_persisted, .int v_oldCheckpoint, .int v_oldMax, .int v_down, .ref a_bytes, .ref a_lengths, .ref a_greatest, .int v_oldest, .int v_generations, .int v_synced, .int v_rKind, .int v_rSeq, .int v_rId, .int v_rVersion, .int v_rEnd, .long v_rSource, .ref a_tKind, .ref a_tA, .ref a_tB, .ref a_points, .ref a_holds, .int v_tokens, .int v_visible])), (a_seenSeqs, .inl (X.1.2.2.1, 16, .inl v_seenSeqs)), (a_seenSources, .inl (X.1.2.2.2.1, 16, .inr (.inl v_seenSources))), (a_tKind, .inl (X.1.2.2.1, 15, .inl v_tKind)), (a_tA, .inl (X.1.2.2.1, 15, .inl v_tA)), (a_tB, .inl (X.1.2.2.1, 15, .inl v_tB)), (a_points, .inl (X.1.2.2.1, 16, .inl w1)), (a_holds, .inl (X.1.2.2.2.2, 16, .inl w2))] [] 19 [.int k3] := by
    intro w1 w2 k3 hf
    have hf := app3 eJ19 hf
    rw [← Option.some.inj hf] at hret
    exact hret () _ _ dX6_keyOf_19
  refine g_if_ne C dX6_keyOf_1 (tgt := 12) (by decide) hf (fun hf => ?_) (fun hf => ?_)
  · refine g_aload_n C dX6_keyOf_12 rfl 0 rfl ?_
    refine g_get C inX6_keyOf_6 0 rfl rfl 9 (by decide) (List.mem_of_getElem? (i := 1) rfl) rfl rfl dX6_keyOf_13 ?_
    refine g_iload_n C dX6_keyOf_16 rfl 2 rfl ?_
    refine g_laload C 2 rfl dX6_keyOf_17 hf (fun z4 hf => ?_)
    refine g_l2i C dX6_keyOf_18 hf (fun z5 hf => ?_)
    exact g_lv [] rfl (hJ19 v_points v_holds z5 hf)
  · refine g_aload_n C dX6_keyOf_4 rfl 0 rfl ?_
    refine g_iload_n C dX6_keyOf_5 rfl 2 rfl ?_
    obtain ⟨r6, u7, u8, hq9, hf⟩ := cal3_x hf
    refine g_callV (As := [.int x1]) (rest := []) (st2 := [.int r6]) (n := 1) C (cX6_worth_ok X.1 a_this a_kinds a_seqs a_versions a_oldKinds a_oldSeqs a_oldVersions a_seenSeqs a_sources a_oldSources a_seenSources a_done a_bytes a_lengths a_greatest a_tKind a_tA a_tB a_points a_holds v_seenSeqs v_seenSources v_checkpoint v_max v_persisted v_oldCheckpoint v_oldMax v_down v_oldest v_generations v_synced v_rKind v_rSeq v_rId v_rVersion v_rEnd v_rSource v_tKind v_tA v_tB v_points v_holds v_tokens v_visible x1 hq9) gX6_keyOf_X6_worth rfl rfl rfl ⟨rfl, by decide +kernel⟩ (by decide) 0 rfl rfl rfl [0, 1, 2, 3, 4, 5, 6, 7] (by decide) rfl [] (Wr := []) (by decide) rfl (by decide) [0, 1, 2, 3, 4, 5, 6, 7] (by decide) (Wn := fun _ => [(a_this, .inr (6, [.ref a_kinds, .ref a_seqs, .ref a_versions, .ref a_oldKinds, .ref a_oldSeqs, .ref a_oldVersions, .ref a_seenSeqs, .ref a_sources, .ref a_oldSources, .ref a_seenSources, .ref a_done, .int v_checkpoint, .int v_max, .int v_persisted, .int v_oldCheckpoint, .int v_oldMax, .int v_down, .ref a_bytes, .ref a_lengths, .ref a_greatest, .int v_oldest, .int v_generations, .int v_synced, .int v_rKind, .int v_rSeq, .int v_rId, .int v_rVersion, .int v_rEnd, .long v_rSource, .ref a_tKind, .ref a_tA, .ref a_tB, .ref a_points, .ref a_holds, .int v_tokens, .int v_visible])), (a_seenSeqs, .inl (X.1.2.2.1, 16, .inl v_seenSeqs)), (a_seenSources, .inl (X.1.2.2.2.1, 16, .inr (.inl v_seenSources))), (a_tKind, .inl (X.1.2.2.1, 15, .inl v_tKind)), (a_tA, .inl (X.1.2.2.1, 15, .inl v_tA)), (a_tB, .inl (X.1.2.2.1, 15, .inl v_tB)), (a_points, .inl (X.1.2.2.1, 16, .inl u7)), (a_holds, .inl (X.1.2.2.2.2, 16, .inl u8))]) (fun _ => rfl) rfl rfl rfl (Nat.le_of_ble_eq_true rfl) dX6_keyOf_6 ⟨Nat.le_refl _, Nat.le_refl _⟩ (fun _ => ?_)
    refine g_goto C dX6_keyOf_9 (tgt := 19) (by decide) ?_
    exact g_lv [] rfl (hJ19 u7 u8 r6 hf)
def fX6_before (x0 : Int32) (x1 : Int32) (x2 : Int32) (x3 : Int32) (x4 : Int32) : Option ((Int32)) :=
  (if x1 = x3 then (jp (fun (k2 : Int32) => (zok k2 (some (k2)))) (fun J16 => (if x4 ≤ x2 then (J16 0) else (J16 1)))) else (jp (fun (k1 : Int32) => (zok k1 (some (k1)))) (fun J45 => (if x0 = 1 then (if x3 ≤ x1 then (J45 0) else (J45 1)) else (if x1 ≤ x3 then (J45 0) else (J45 1))))))
set_option maxRecDepth 100000 in
set_option maxHeartbeats 8000000 in
theorem cX6_before_ok (L : XL)  (x0 : Int32) (x1 : Int32) (x2 : Int32) (x3 : Int32) (x4 : Int32) {t : (Int32)} (hf : fX6_before x0 x1 x2 x3 x4 = some t) : xM L yX6_before wsX6_before ({ frames := 0, cells := 0, slots := 0, locals := 0 }) [.int x0, .int x1, .int x2, .int x3, .int x4] [] 0 0 (some (.int t)) (fun _ : Unit => []) := by
  refine enter_z (own := RX6) (by decide) rfl rfl (Nat.le_of_ble_eq_true rfl) ?_
  intro X hXL C _ hret
  subst hXL
  unfold fX6_before at hf
  show G X 0 0 [] [(0, .int x0), (1, .int x1), (2, .int x2), (3, .int x3), (4, .int x4)] 0 []
  refine g_iload_n C dX6_before_0 rfl 1 rfl ?_
  refine g_iload_n C dX6_before_1 rfl 3 rfl ?_
  refine g_icmp_ne C dX6_before_2 (tgt := 17) (by decide) hf (fun hf => ?_) (fun hf => ?_)
  · refine g_iload_n C dX6_before_17 rfl 0 rfl ?_
    refine g_iconst (v := 1) C dX6_before_18 (by decide) ?_
    obtain ⟨J45, eJ45, hf⟩ := jp_x hf
    have hJ45 : ∀ (k1 : Int32), J45 k1 = some t → G X 0 0 [] [] 45 [.int k1] := by
      intro k1 hf
      have hf := app1 eJ45 hf
      obtain ⟨hz, hf⟩ := zok_x hf
      rw [← Option.some.inj hf] at hret
      exact hret () _ _ hz dX6_before_45
    refine g_icmp_ne C dX6_before_19 (tgt := 35) (by decide) hf (fun hf => ?_) (fun hf => ?_)
    · refine g_iload_n C dX6_before_35 rfl 1 rfl ?_
      refine g_iload_n C dX6_before_36 rfl 3 rfl ?_
      refine g_icmp_le C dX6_before_37 (tgt := 44) (by decide) hf (fun hf => ?_) (fun hf => ?_)
      · refine g_iconst (v := 0) C dX6_before_44 (by decide) ?_
        exact g_lv [] rfl (hJ45 0 hf)
      · refine g_iconst (v := 1) C dX6_before_40 (by decide) ?_
        refine g_goto C dX6_before_41 (tgt := 45) (by decide) ?_
        exact g_lv [] rfl (hJ45 1 hf)
    · refine g_iload_n C dX6_before_22 rfl 1 rfl ?_
      refine g_iload_n C dX6_before_23 rfl 3 rfl ?_
      refine g_icmp_ge C dX6_before_24 (tgt := 31) (by decide) hf (fun hf => ?_) (fun hf => ?_)
      · refine g_iconst (v := 0) C dX6_before_31 (by decide) ?_
        refine g_goto C dX6_before_32 (tgt := 45) (by decide) ?_
        exact g_lv [] rfl (hJ45 0 hf)
      · refine g_iconst (v := 1) C dX6_before_27 (by decide) ?_
        refine g_goto C dX6_before_28 (tgt := 45) (by decide) ?_
        exact g_lv [] rfl (hJ45 1 hf)
  · refine g_iload_n C dX6_before_5 rfl 2 rfl ?_
    refine g_iload C dX6_before_6 4 rfl ?_
    obtain ⟨J16, eJ16, hf⟩ := jp_x hf
    have hJ16 : ∀ (k2 : Int32), J16 k2 = some t → G X 0 0 [] [] 16 [.int k2] := by
      intro k2 hf
      have hf := app1 eJ16 hf
      obtain ⟨hz, hf⟩ := zok_x hf
      rw [← Option.some.inj hf] at hret
      exact hret () _ _ hz dX6_before_16
    refine g_icmp_ge C dX6_before_8 (tgt := 15) (by decide) hf (fun hf => ?_) (fun hf => ?_)
    · refine g_iconst (v := 0) C dX6_before_15 (by decide) ?_
      exact g_lv [] rfl (hJ16 0 hf)
    · refine g_iconst (v := 1) C dX6_before_11 (by decide) ?_
      refine g_goto C dX6_before_12 (tgt := 16) (by decide) ?_
      exact g_lv [] rfl (hJ16 1 hf)
def fX6_isBad (v_tKind : Nat → Int32) (v_tokens : Int32) (x0 : Int32) : Option ((Int32)) :=
  (cal1 (fX6_in x0 0 2) (fun r1 => (jp (fun (k3 : Int32) => (zok k3 (some (k3)))) (fun J21 => (jp (J21 1) (fun J16 => (if r1 = 0 then J16 else (cal1 (fX6_isQuery v_tKind v_tokens) (fun r4 => (if r4 = 0 then J16 else (J21 0)))))))))))
theorem inX6_isBad_6 : ∀ w ∈ wsX60, w ∈ wsX6_isBad := fun _ h => List.mem_cons_of_mem _ (List.mem_append_right _ h)
set_option maxRecDepth 100000 in
set_option maxHeartbeats 8000000 in
theorem cX6_isBad_ok (L : XL) (a_this a_kinds a_seqs a_versions a_oldKinds a_oldSeqs a_oldVersions a_seenSeqs a_sources a_oldSources a_seenSources a_done a_bytes a_lengths a_greatest a_tKind a_tA a_tB a_points a_holds : Nat) (v_checkpoint : Int32) (v_max : Int32) (v_persisted : Int32) (v_oldCheckpoint : Int32) (v_oldMax : Int32) (v_down : Int32) (v_oldest : Int32) (v_generations : Int32) (v_synced : Int32) (v_rKind : Int32) (v_rSeq : Int32) (v_rId : Int32) (v_rVersion : Int32) (v_rEnd : Int32) (v_rSource : Int64) (v_tKind : Nat → Int32) (v_tokens : Int32) (v_visible : Int32) (x0 : Int32) {t : (Int32)} (hf : fX6_isBad v_tKind v_tokens x0 = some t) : xM L yX6_isBad wsX6_isBad ({ frames := 1, cells := 0, slots := 0, locals := 22 }) [.ref a_this, .int x0] [(a_this, .inr (6, [.ref a_kinds, .ref a_seqs, .ref a_versions, .ref a_oldKinds, .ref a_oldSeqs, .ref a_oldVersions, .ref a_seenSeqs, .ref a_sources, .ref a_oldSources, .ref a_seenSources, .ref a_done, .int v_checkpoint, .int v_max, .int v_persisted, .int v_oldCheckpoint, .int v_oldMax, .int v_down, .ref a_bytes, .ref a_lengths, .ref a_greatest, .int v_oldest, .int v_generations, .int v_synced, .int v_rKind, .int v_rSeq, .int v_rId, .int v_rVersion, .int v_rEnd, .long v_rSource, .ref a_tKind, .ref a_tA, .ref a_tB, .ref a_points, .ref a_holds, .int v_tokens, .int v_visible])), (a_tKind, .inl (L.2.2.1, 15, .inl v_tKind))] 0 0 (some (.int t)) (fun _ : Unit => [(a_this, .inr (6, [.ref a_kinds, .ref a_seqs, .ref a_versions, .ref a_oldKinds, .ref a_oldSeqs, .ref a_oldVersions, .ref a_seenSeqs, .ref a_sources, .ref a_oldSources, .ref a_seenSources, .ref a_done, .int v_checkpoint, .int v_max, .int v_persisted, .int v_oldCheckpoint, .int v_oldMax, .int v_down, .ref a_bytes, .ref a_lengths, .ref a_greatest, .int v_oldest, .int v_generations, .int v_synced, .int v_rKind, .int v_rSeq, .int v_rId, .int v_rVersion, .int v_rEnd, .long v_rSource, .ref a_tKind, .ref a_tA, .ref a_tB, .ref a_points, .ref a_holds, .int v_tokens, .int v_visible])), (a_tKind, .inl (L.2.2.1, 15, .inl v_tKind))]) := by
  refine enter_z (own := RX6) (by decide) rfl rfl (Nat.le_of_ble_eq_true rfl) ?_
  intro X hXL C _ hret
  subst hXL
  unfold fX6_isBad at hf
  show G X 0 0 [(a_this, .inr (6, [.ref a_kinds, .ref a_seqs, .ref a_versions, .ref a_oldKinds, .ref a_oldSeqs, .ref a_oldVersions, .ref a_seenSeqs, .ref a_sources, .ref a_oldSources, .ref a_seenSources, .ref a_done, .int v_checkpoint, .int v_max, .int v_persisted, .int v_oldCheckpoint, .int v_oldMax, .int v_down, .ref a_bytes, .ref a_lengths, .ref a_greatest, .int v_oldest, .int v_generations, .int v_synced, .int v_rKind, .int v_rSeq, .int v_rId, .int v_rVersion, .int v_rEnd, .long v_rSource, .ref a_tKind, .ref a_tA, .ref a_tB, .ref a_points, .ref a_holds, .int v_tokens, .int v_visible])), (a_tKind, .inl (X.1.2.2.1, 15, .inl v_tKind))] [(0, .ref a_this), (1, .int x0)] 0 []
  refine g_iload_n C dX6_isBad_0 rfl 1 rfl ?_
  refine g_iconst (v := 0) C dX6_isBad_1 (by decide) ?_
  refine g_iconst (v := 2) C dX6_isBad_2 (by decide) ?_
  obtain ⟨r1, hq2, hf⟩ := cal1_x hf
  refine g_callS (As := [.int x0, .int 0, .int 2]) (rest := []) (st2 := [.int r1]) (n := 3) C (cX6_in_ok X.1 x0 0 2 hq2) gX6_isBad_X6_in rfl rfl rfl (by decide +kernel) (by decide) [] (by decide) rfl [0, 1] (Wr := [(a_this, .inr (6, [.ref a_kinds, .ref a_seqs, .ref a_versions, .ref a_oldKinds, .ref a_oldSeqs, .ref a_oldVersions, .ref a_seenSeqs, .ref a_sources, .ref a_oldSources, .ref a_seenSources, .ref a_done, .int v_checkpoint, .int v_max, .int v_persisted, .int v_oldCheckpoint, .int v_oldMax, .int v_down, .ref a_bytes, .ref a_lengths, .ref a_greatest, .int v_oldest, .int v_generations, .int v_synced, .int v_rKind, .int v_rSeq, .int v_rId, .int v_rVersion, .int v_rEnd, .long v_rSource, .ref a_tKind, .ref a_tA, .ref a_tB, .ref a_points, .ref a_holds, .int v_tokens, .int v_visible])), (a_tKind, .inl (X.1.2.2.1, 15, .inl v_tKind))]) (by decide) rfl (by decide) [0, 1] (by decide) (Wn := fun _ => [(a_this, .inr (6, [.ref a_kinds, .ref a_seqs, .ref a_versions, .ref a_oldKinds, .ref a_oldSeqs, .ref a_oldVersions, .ref a_seenSeqs, .ref a_sources, .ref a_oldSources, .ref a_seenSources, .ref a_done, .int v_checkpoint, .int v_max, .int v_persisted, .int v_oldCheckpoint, .int v_oldMax, .int v_down, .ref a_bytes, .ref a_lengths, .ref a_greatest, .int v_oldest, .int v_generations, .int v_synced, .int v_rKind, .int v_rSeq, .int v_rId, .int v_rVersion, .int v_rEnd, .long v_rSource, .ref a_tKind, .ref a_tA, .ref a_tB, .ref a_points, .ref a_holds, .int v_tokens, .int v_visible])), (a_tKind, .inl (X.1.2.2.1, 15, .inl v_tKind))]) (fun _ => rfl) rfl rfl rfl (Nat.le_of_ble_eq_true rfl) dX6_isBad_3 ⟨Nat.le_refl _, Nat.le_refl _⟩ (fun _ => ?_)
  obtain ⟨J21, eJ21, hf⟩ := jp_x hf
  have hJ21 : ∀ (k3 : Int32), J21 k3 = some t → G X 0 0 [(a_this, .inr (6, [.ref a_kinds, .ref a_seqs, .ref a_versions, .ref a_oldKinds, .ref a_oldSeqs, .ref a_oldVersions, .ref a_seenSeqs, .ref a_sources, .ref a_oldSources, .ref a_seenSources, .ref a_done, .int v_checkpoint, .int v_max, .int v_persisted, .int v_oldCheckpoint, .int v_oldMax, .int v_down, .ref a_bytes, .ref a_lengths, .ref a_greatest, .int v_oldest, .int v_generations, .int v_synced, .int v_rKind, .int v_rSeq, .int v_rId, .int v_rVersion, .int v_rEnd, .long v_rSource, .ref a_tKind, .ref a_tA, .ref a_tB, .ref a_points, .ref a_holds, .int v_tokens, .int v_visible])), (a_tKind, .inl (X.1.2.2.1, 15, .inl v_tKind))] [] 21 [.int k3] := by
    intro k3 hf
    have hf := app1 eJ21 hf
    obtain ⟨hz, hf⟩ := zok_x hf
    rw [← Option.some.inj hf] at hret
    exact hret () _ _ hz dX6_isBad_21
  obtain ⟨J16, eJ16, hf⟩ := jp_x hf
  have hJ16 : J16 = some t → G X 0 0 [(a_this, .inr (6, [.ref a_kinds, .ref a_seqs, .ref a_versions, .ref a_oldKinds, .ref a_oldSeqs, .ref a_oldVersions, .ref a_seenSeqs, .ref a_sources, .ref a_oldSources, .ref a_seenSources, .ref a_done, .int v_checkpoint, .int v_max, .int v_persisted, .int v_oldCheckpoint, .int v_oldMax, .int v_down, .ref a_bytes, .ref a_lengths, .ref a_greatest, .int v_oldest, .int v_generations, .int v_synced, .int v_rKind, .int v_rSeq, .int v_rId, .int v_rVersion, .int v_rEnd, .long v_rSource, .ref a_tKind, .ref a_tA, .ref a_tB, .ref a_points, .ref a_holds, .int v_tokens, .int v_visible])), (a_tKind, .inl (X.1.2.2.1, 15, .inl v_tKind))] [] 16 [] := by
    intro  hf
    have hf := app0 eJ16 hf
    refine g_iconst (v := 1) C dX6_isBad_16 (by decide) ?_
    refine g_goto C dX6_isBad_17 (tgt := 21) (by decide) ?_
    exact hJ21 1 hf
  refine g_if_eq C dX6_isBad_6 (tgt := 16) (by decide) hf (fun hf => ?_) (fun hf => ?_)
  · exact g_lv [] rfl (hJ16 hf)
  · refine g_aload_n C dX6_isBad_9 rfl 0 rfl ?_
    obtain ⟨r4, hq5, hf⟩ := cal1_x hf
    refine g_callV (As := []) (rest := []) (st2 := [.int r4]) (n := 0) C (cX6_isQuery_ok X.1 a_this a_kinds a_seqs a_versions a_oldKinds a_oldSeqs a_oldVersions a_seenSeqs a_sources a_oldSources a_seenSources a_done a_bytes a_lengths a_greatest a_tKind a_tA a_tB a_points a_holds v_checkpoint v_max v_persisted v_oldCheckpoint v_oldMax v_down v_oldest v_generations v_synced v_rKind v_rSeq v_rId v_rVersion v_rEnd v_rSource v_tKind v_tokens v_visible hq5) gX6_isBad_X6_isQuery rfl rfl rfl ⟨rfl, by decide +kernel⟩ (by decide) 0 rfl rfl rfl [0, 1] (by decide) rfl [] (Wr := []) (by decide) rfl (by decide) [0, 1] (by decide) (Wn := fun _ => [(a_this, .inr (6, [.ref a_kinds, .ref a_seqs, .ref a_versions, .ref a_oldKinds, .ref a_oldSeqs, .ref a_oldVersions, .ref a_seenSeqs, .ref a_sources, .ref a_oldSources, .ref a_seenSources, .ref a_done, .int v_checkpoint, .int v_max, .int v_persisted, .int v_oldCheckpoint, .int v_oldMax, .int v_down, .ref a_bytes, .ref a_lengths, .ref a_greatest, .int v_oldest, .int v_generations, .int v_synced, .int v_rKind, .int v_rSeq, .int v_rId, .int v_rVersion, .int v_rEnd, .long v_rSource, .ref a_tKind, .ref a_tA, .ref a_tB, .ref a_points, .ref a_holds, .int v_tokens, .int v_visible])), (a_tKind, .inl (X.1.2.2.1, 15, .inl v_tKind))]) (fun _ => rfl) rfl rfl rfl (Nat.le_of_ble_eq_true rfl) dX6_isBad_10 ⟨Nat.le_refl _, Nat.le_refl _⟩ (fun _ => ?_)
    refine g_if_ne C dX6_isBad_13 (tgt := 20) (by decide) hf (fun hf => ?_) (fun hf => ?_)
    · refine g_iconst (v := 0) C dX6_isBad_20 (by decide) ?_
      exact g_lv [] rfl (hJ21 0 hf)
    · exact g_lv [] rfl (hJ16 hf)
def sX6_hit_69 (J131 : (Int32) → (Nat → Int32) → (Nat → Int32) → Option ((Int32) × (Nat → Int32) × (Nat → Int32))) (v_seenSeqs : Nat → Int32) (v_seenSources : Nat → Int64) (v_tKind : Nat → Int32) (v_tA : Nat → Int32) (v_tB : Nat → Int32) (v_tokens : Int32) (x0 : Int32) (r23 : Int32) (y10 : Int32) (R69 : (Int32) → (Int32) → (Nat → Int32) → (Nat → Int32) → Option ((Int32) × (Nat → Int32) × (Nat → Int32))) (y30 : Int32) (y31 : Int32) (w32 : Nat → Int32) (w33 : Nat → Int32) : Option ((Int32) × (Nat → Int32) × (Nat → Int32)) :=
  (if 16 ≤ y31 then (J131 y30 w32 w33) else (cal3 (fX6_worth v_seenSeqs v_seenSources v_tKind v_tA v_tB w32 w33 v_tokens y31) (fun r34 u35 u36 => (jp (fun (w38 : Nat → Int32) (w39 : Nat → Int32) (k40 : Int32) => (jp (fun (y41 : Int32) => (bnd (y31 + 1) (fun z42 => (R69 y41 z42 w38 w39)))) (fun J125 => (if r34 < 0 then (J125 y30) else (cal1 (fX6_before x0 k40 y31 r23 y10) (fun r43 => (if r43 = 0 then (J125 y30) else (bnd (y30 + 1) (fun z45 => (J125 z45)))))))))) (fun J100 => (if 0 ≤ r34 then (cal3 (fX6_keyOf v_seenSeqs v_seenSources v_tKind v_tA v_tB u35 u36 v_tokens x0 y31) (fun r46 u47 u48 => (J100 u47 u48 r46))) else (J100 u35 u36 0)))))))
def sX6_hit_28 (J147 : (Int32) → (Int32) → (Nat → Int32) → (Nat → Int32) → Option ((Int32) × (Nat → Int32) × (Nat → Int32))) (v_seenSeqs : Nat → Int32) (v_seenSources : Nat → Int64) (v_tKind : Nat → Int32) (v_tA : Nat → Int32) (v_tB : Nat → Int32) (v_tokens : Int32) (x0 : Int32) (x1 : Int32) (R28 : (Int32) → (Int32) → (Int32) → (Nat → Int32) → (Nat → Int32) → Option ((Int32) × (Nat → Int32) × (Nat → Int32))) (y8 : Int32) (y9 : Int32) (y10 : Int32) (w11 : Nat → Int32) (w12 : Nat → Int32) : Option ((Int32) × (Nat → Int32) × (Nat → Int32)) :=
  (if 16 ≤ y10 then (J147 y8 y9 w11 w12) else (cal3 (fX6_worth v_seenSeqs v_seenSources v_tKind v_tA v_tB w11 w12 v_tokens y10) (fun r13 u14 u15 => (jp (fun (y17 : Int32) (y18 : Int32) (w19 : Nat → Int32) (w20 : Nat → Int32) => (bnd (y10 + 1) (fun z21 => (R28 y17 y18 z21 w19 w20)))) (fun J141 => (if 0 ≤ r13 then (bnd (y8 + 1) (fun z22 => (cal3 (fX6_keyOf v_seenSeqs v_seenSources v_tKind v_tA v_tB u14 u15 v_tokens x0 y10) (fun r23 u24 u25 => (jp (fun (y27 : Int32) (w28 : Nat → Int32) (w29 : Nat → Int32) => (if y27 = x1 then (J141 z22 y10 w28 w29) else (J141 z22 y9 w28 w29))) (fun J131 => (lo4 (sX6_hit_69 J131 v_seenSeqs v_seenSources v_tKind v_tA v_tB v_tokens x0 r23 y10) 1000 0 0 u24 u25))))))) else (J141 y8 y9 u14 u15)))))))
def fX6_hit (v_seenSeqs : Nat → Int32) (v_seenSources : Nat → Int64) (v_down : Int32) (v_tKind : Nat → Int32) (v_tA : Nat → Int32) (v_tB : Nat → Int32) (v_points : Nat → Int32) (v_holds : Nat → Int32) (v_tokens : Int32) (x0 : Int32) (x1 : Int32) : Option ((Int32) × (Nat → Int32) × (Nat → Int32)) :=
  (if v_down = 0 then (cal1 (fX6_isBad v_tKind v_tokens x0) (fun r1 => (if r1 = 0 then (jp (fun (y3 : Int32) (y4 : Int32) (w5 : Nat → Int32) (w6 : Nat → Int32) => (jp (fun (k7 : Int32) => (some (k7, w5, w6))) (fun J158 => (if x1 = (-1) then (J158 y3) else (J158 y4))))) (fun J147 => (lo5 (sX6_hit_28 J147 v_seenSeqs v_seenSources v_tKind v_tA v_tB v_tokens x0 x1) 1000 0 (-1) 0 v_points v_holds))) else (some ((-1), v_points, v_holds))))) else (some ((-4), v_points, v_holds)))
theorem inX6_hit_6 : ∀ w ∈ wsX60, w ∈ wsX6_hit := fun _ h => List.mem_cons_of_mem _ (List.mem_append_right _ h)
set_option maxRecDepth 100000 in
set_option maxHeartbeats 8000000 in
theorem cX6_hit_ok (L : XL) (a_this a_kinds a_seqs a_versions a_oldKinds a_oldSeqs a_oldVersions a_seenSeqs a_sources a_oldSources a_seenSources a_done a_bytes a_lengths a_greatest a_tKind a_tA a_tB a_points a_holds : Nat) (v_seenSeqs : Nat → Int32) (v_seenSources : Nat → Int64) (v_checkpoint : Int32) (v_max : Int32) (v_persisted : Int32) (v_oldCheckpoint : Int32) (v_oldMax : Int32) (v_down : Int32) (v_oldest : Int32) (v_generations : Int32) (v_synced : Int32) (v_rKind : Int32) (v_rSeq : Int32) (v_rId : Int32) (v_rVersion : Int32) (v_rEnd : Int32) (v_rSource : Int64) (v_tKind : Nat → Int32) (v_tA : Nat → Int32) (v_tB : Nat → Int32) (v_points : Nat → Int32) (v_holds : Nat → Int32) (v_tokens : Int32) (v_visible : Int32) (x0 : Int32) (x1 : Int32) {t : (Int32) × (Nat → Int32) × (Nat → Int32)} (hf : fX6_hit v_seenSeqs v_seenSources v_down v_tKind v_tA v_tB v_points v_holds v_tokens x0 x1 = some t) : xM L yX6_hit wsX6_hit ({ frames := 5, cells := 0, slots := 0, locals := 121 }) [.ref a_this, .int x0, .int x1] [(a_this, .inr (6, [.ref a_kinds, .ref a_seqs, .ref a_versions, .ref a_oldKinds, .ref a_oldSeqs, .ref a_oldVersions, .ref a_seenSeqs, .ref a_sources, .ref a_oldSources, .ref a_seenSources, .ref a_done, .int v_checkpoint, .int v_max, .int v_persisted, .int v_oldCheckpoint, .int v_oldMax, .int v_down, .ref a_bytes, .ref a_lengths, .ref a_greatest, .int v_oldest, .int v_generations, .int v_synced, .int v_rKind, .int v_rSeq, .int v_rId, .int v_rVersion, .int v_rEnd, .long v_rSource, .ref a_tKind, .ref a_tA, .ref a_tB, .ref a_points, .ref a_holds, .int v_tokens, .int v_visible])), (a_seenSeqs, .inl (L.2.2.1, 16, .inl v_seenSeqs)), (a_seenSources, .inl (L.2.2.2.1, 16, .inr (.inl v_seenSources))), (a_tKind, .inl (L.2.2.1, 15, .inl v_tKind)), (a_tA, .inl (L.2.2.1, 15, .inl v_tA)), (a_tB, .inl (L.2.2.1, 15, .inl v_tB)), (a_points, .inl (L.2.2.1, 16, .inl v_points)), (a_holds, .inl (L.2.2.2.2, 16, .inl v_holds))] 0 0 (some (.int t.1)) (fun _ : Unit => [(a_this, .inr (6, [.ref a_kinds, .ref a_seqs, .ref a_versions, .ref a_oldKinds, .ref a_oldSeqs, .ref a_oldVersions, .ref a_seenSeqs, .ref a_sources, .ref a_oldSources, .ref a_seenSources, .ref a_done, .int v_checkpoint, .int v_max, .int v_persisted, .int v_oldCheckpoint, .int v_oldMax, .int v_down, .ref a_bytes, .ref a_lengths, .ref a_greatest, .int v_oldest, .int v_generations, .int v_synced, .int v_rKind, .int v_rSeq, .int v_rId, .int v_rVersion, .int v_rEnd, .long v_rSource, .ref a_tKind, .ref a_tA, .ref a_tB, .ref a_points, .ref a_holds, .int v_tokens, .int v_visible])), (a_seenSeqs, .inl (L.2.2.1, 16, .inl v_seenSeqs)), (a_seenSources, .inl (L.2.2.2.1, 16, .inr (.inl v_seenSources))), (a_tKind, .inl (L.2.2.1, 15, .inl v_tKind)), (a_tA, .inl (L.2.2.1, 15, .inl v_tA)), (a_tB, .inl (L.2.2.1, 15, .inl v_tB)), (a_points, .inl (L.2.2.1, 16, .inl t.2.1)), (a_holds, .inl (L.2.2.2.2, 16, .inl t.2.2))]) := by
  refine enter_i (own := RX6) (by decide) rfl rfl (Nat.le_of_ble_eq_true rfl) ?_
  intro X hXL C _ hret
  subst hXL
  unfold fX6_hit at hf
  show G X 0 0 [(a_this, .inr (6, [.ref a_kinds, .ref a_seqs, .ref a_versions, .ref a_oldKinds, .ref a_oldSeqs, .ref a_oldVersions, .ref a_seenSeqs, .ref a_sources, .ref a_oldSources, .ref a_seenSources, .ref a_done, .int v_checkpoint, .int v_max, .int v_persisted, .int v_oldCheckpoint, .int v_oldMax, .int v_down, .ref a_bytes, .ref a_lengths, .ref a_greatest, .int v_oldest, .int v_generations, .int v_synced, .int v_rKind, .int v_rSeq, .int v_rId, .int v_rVersion, .int v_rEnd, .long v_rSource, .ref a_tKind, .ref a_tA, .ref a_tB, .ref a_points, .ref a_holds, .int v_tokens, .int v_visible])), (a_seenSeqs, .inl (X.1.2.2.1, 16, .inl v_seenSeqs)), (a_seenSources, .inl (X.1.2.2.2.1, 16, .inr (.inl v_seenSources))), (a_tKind, .inl (X.1.2.2.1, 15, .inl v_tKind)), (a_tA, .inl (X.1.2.2.1, 15, .inl v_tA)), (a_tB, .inl (X.1.2.2.1, 15, .inl v_tB)), (a_points, .inl (X.1.2.2.1, 16, .inl v_points)), (a_holds, .inl (X.1.2.2.2.2, 16, .inl v_holds))] [(0, .ref a_this), (1, .int x0), (2, .int x1)] 0 []
  refine g_aload_n C dX6_hit_0 rfl 0 rfl ?_
  refine g_get C inX6_hit_6 0 rfl rfl 16 (by decide) (List.mem_of_getElem? (i := 1) rfl) rfl rfl dX6_hit_1 ?_
  refine g_if_eq C dX6_hit_4 (tgt := 10) (by decide) hf (fun hf => ?_) (fun hf => ?_)
  · refine g_aload_n C dX6_hit_10 rfl 0 rfl ?_
    refine g_iload_n C dX6_hit_11 rfl 1 rfl ?_
    obtain ⟨r1, hq2, hf⟩ := cal1_x hf
    refine g_callV (As := [.int x0]) (rest := []) (st2 := [.int r1]) (n := 1) C (cX6_isBad_ok X.1 a_this a_kinds a_seqs a_versions a_oldKinds a_oldSeqs a_oldVersions a_seenSeqs a_sources a_oldSources a_seenSources a_done a_bytes a_lengths a_greatest a_tKind a_tA a_tB a_points a_holds v_checkpoint v_max v_persisted v_oldCheckpoint v_oldMax v_down v_oldest v_generations v_synced v_rKind v_rSeq v_rId v_rVersion v_rEnd v_rSource v_tKind v_tokens v_visible x0 hq2) gX6_hit_X6_isBad rfl rfl rfl ⟨rfl, by decide +kernel⟩ (by decide) 0 rfl rfl rfl [0, 3] (by decide) rfl [1, 2, 4, 5, 6, 7] (Wr := [(a_seenSeqs, .inl (X.1.2.2.1, 16, .inl v_seenSeqs)), (a_seenSources, .inl (X.1.2.2.2.1, 16, .inr (.inl v_seenSources))), (a_tA, .inl (X.1.2.2.1, 15, .inl v_tA)), (a_tB, .inl (X.1.2.2.1, 15, .inl v_tB)), (a_points, .inl (X.1.2.2.1, 16, .inl v_points)), (a_holds, .inl (X.1.2.2.2.2, 16, .inl v_holds))]) (by decide) rfl (by decide) [6, 0, 1, 7, 2, 3, 4, 5] (by decide) (Wn := fun _ => [(a_this, .inr (6, [.ref a_kinds, .ref a_seqs, .ref a_versions, .ref a_oldKinds, .ref a_oldSeqs, .ref a_oldVersions, .ref a_seenSeqs, .ref a_sources, .ref a_oldSources, .ref a_seenSources, .ref a_done, .int v_checkpoint, .int v_max, .int v_persisted, .int v_oldCheckpoint, .int v_oldMax, .int v_down, .ref a_bytes, .ref a_lengths, .ref a_greatest, .int v_oldest, .int v_generations, .int v_synced, .int v_rKind, .int v_rSeq, .int v_rId, .int v_rVersion, .int v_rEnd, .long v_rSource, .ref a_tKind, .ref a_tA, .ref a_tB, .ref a_points, .ref a_holds, .int v_tokens, .int v_visible])), (a_seenSeqs, .inl (X.1.2.2.1, 16, .inl v_seenSeqs)), (a_seenSources, .inl (X.1.2.2.2.1, 16, .inr (.inl v_seenSources))), (a_tKind, .inl (X.1.2.2.1, 15, .inl v_tKind)), (a_tA, .inl (X.1.2.2.1, 15, .inl v_tA)), (a_tB, .inl (X.1.2.2.1, 15, .inl v_tB)), (a_points, .inl (X.1.2.2.1, 16, .inl v_points)), (a_holds, .inl (X.1.2.2.2.2, 16, .inl v_holds))]) (fun _ => rfl) rfl rfl rfl (Nat.le_of_ble_eq_true rfl) dX6_hit_12 ⟨Nat.le_refl _, Nat.le_refl _⟩ (fun _ => ?_)
    refine g_if_eq C dX6_hit_15 (tgt := 20) (by decide) hf (fun hf => ?_) (fun hf => ?_)
    · refine g_iconst (v := 0) C dX6_hit_20 (by decide) ?_
      refine g_istore_n (lv2 := [(3, .int 0), (0, .ref a_this), (1, .int x0), (2, .int x1)]) C dX6_hit_21 rfl (by decide) rfl ?_
      refine g_iconst (v := (-1)) C dX6_hit_22 (by decide) ?_
      refine g_istore (lv2 := [(4, .int (-1)), (3, .int 0), (0, .ref a_this), (1, .int x0), (2, .int x1)]) C dX6_hit_23 (by decide) rfl ?_
      refine g_iconst (v := 0) C dX6_hit_25 (by decide) ?_
      refine g_istore (lv2 := [(5, .int 0), (4, .int (-1)), (3, .int 0), (0, .ref a_this), (1, .int x0), (2, .int x1)]) C dX6_hit_26 (by decide) rfl ?_
      obtain ⟨J147, eJ147, hf⟩ := jp_x hf
      have hJ147 : ∀ (y3 : Int32) (y4 : Int32) (w5 : Nat → Int32) (w6 : Nat → Int32), J147 y3 y4 w5 w6 = some t → G X 0 0 [(a_this, .inr (6, [.ref a_kinds, .ref a_seqs, .ref a_versions, .ref a_oldKinds, .ref a_oldSeqs, .ref a_oldVersions, .ref a_seenSeqs, .ref a_sources, .ref a_oldSources, .ref a_seenSources, .ref a_done, .int v_checkpoint, .int v_max, .int v_persisted, .int v_oldCheckpoint, .int v_oldMax, .int v_down, .ref a_bytes, .ref a_lengths, .ref a_greatest, .int v_oldest, .int v_generations, .int v_synced, .int v_rKind, .int v_rSeq, .int v_rId, .int v_rVersion, .int v_rEnd, .long v_rSource, .ref a_tKind, .ref a_tA, .ref a_tB, .ref a_points, .ref a_holds, .int v_tokens, .int v_visible])), (a_seenSeqs, .inl (X.1.2.2.1, 16, .inl v_seenSeqs)), (a_seenSources, .inl (X.1.2.2.2.1, 16, .inr (.inl v_seenSources))), (a_tKind, .inl (X.1.2.2.1, 15, .inl v_tKind)), (a_tA, .inl (X.1.2.2.1, 15, .inl v_tA)), (a_tB, .inl (X.1.2.2.1, 15, .inl v_tB)), (a_points, .inl (X.1.2.2.1, 16, .inl w5)), (a_holds, .inl (X.1.2.2.2.2, 16, .inl w6))] [(2, .int x1), (3, .int y3), (4, .int y4)] 147 [] := by
        intro y3 y4 w5 w6 hf
        have hf := app4 eJ147 hf
        refine g_iload_n C dX6_hit_147 rfl 0 rfl ?_
        refine g_iconst (v := (-1)) C dX6_hit_148 (by decide) ?_
        obtain ⟨J158, eJ158, hf⟩ := jp_x hf
        have hJ158 : ∀ (k7 : Int32), J158 k7 = some t → G X 0 0 [(a_this, .inr (6, [.ref a_kinds, .ref a_seqs, .ref a_versions, .ref a_oldKinds, .ref a_oldSeqs, .ref a_oldVersions, .ref a_seenSeqs, .ref a_sources, .ref a_oldSources, .ref a_seenSources, .ref a_done, .int v_checkpoint, .int v_max, .int v_persisted, .int v_oldCheckpoint, .int v_oldMax, .int v_down, .ref a_bytes, .ref a_lengths, .ref a_greatest, .int v_oldest, .int v_generations, .int v_synced, .int v_rKind, .int v_rSeq, .int v_rId, .int v_rVersion, .int v_rEnd, .long v_rSource, .ref a_tKind, .ref a_tA, .ref a_tB, .ref a_points, .ref a_holds, .int v_tokens, .int v_visible])), (a_seenSeqs, .inl (X.1.2.2.1, 16, .inl v_seenSeqs)), (a_seenSources, .inl (X.1.2.2.2.1, 16, .inr (.inl v_seenSources))), (a_tKind, .inl (X.1.2.2.1, 15, .inl v_tKind)), (a_tA, .inl (X.1.2.2.1, 15, .inl v_tA)), (a_tB, .inl (X.1.2.2.1, 15, .inl v_tB)), (a_points, .inl (X.1.2.2.1, 16, .inl w5)), (a_holds, .inl (X.1.2.2.2.2, 16, .inl w6))] [] 158 [.int k7] := by
          intro k7 hf
          have hf := app1 eJ158 hf
          rw [← Option.some.inj hf] at hret
          exact hret () _ _ dX6_hit_158
        refine g_icmp_ne C dX6_hit_149 (tgt := 156) (by decide) hf (fun hf => ?_) (fun hf => ?_)
        · refine g_iload C dX6_hit_156 2 rfl ?_
          exact g_lv [] rfl (hJ158 y4 hf)
        · refine g_iload_n C dX6_hit_152 rfl 1 rfl ?_
          refine g_goto C dX6_hit_153 (tgt := 158) (by decide) ?_
          exact g_lv [] rfl (hJ158 y3 hf)
      have hL28 : ∀ (n : Nat) (y8 : Int32) (y9 : Int32) (y10 : Int32) (w11 : Nat → Int32) (w12 : Nat → Int32), lo5 (sX6_hit_28 J147 v_seenSeqs v_seenSources v_tKind v_tA v_tB v_tokens x0 x1) n y8 y9 y10 w11 w12 = some t → G X 0 0 [(a_this, .inr (6, [.ref a_kinds, .ref a_seqs, .ref a_versions, .ref a_oldKinds, .ref a_oldSeqs, .ref a_oldVersions, .ref a_seenSeqs, .ref a_sources, .ref a_oldSources, .ref a_seenSources, .ref a_done, .int v_checkpoint, .int v_max, .int v_persisted, .int v_oldCheckpoint, .int v_oldMax, .int v_down, .ref a_bytes, .ref a_lengths, .ref a_greatest, .int v_oldest, .int v_generations, .int v_synced, .int v_rKind, .int v_rSeq, .int v_rId, .int v_rVersion, .int v_rEnd, .long v_rSource, .ref a_tKind, .ref a_tA, .ref a_tB, .ref a_points, .ref a_holds, .int v_tokens, .int v_visible])), (a_seenSeqs, .inl (X.1.2.2.1, 16, .inl v_seenSeqs)), (a_seenSources, .inl (X.1.2.2.2.1, 16, .inr (.inl v_seenSources))), (a_tKind, .inl (X.1.2.2.1, 15, .inl v_tKind)), (a_tA, .inl (X.1.2.2.1, 15, .inl v_tA)), (a_tB, .inl (X.1.2.2.1, 15, .inl v_tB)), (a_points, .inl (X.1.2.2.1, 16, .inl w11)), (a_holds, .inl (X.1.2.2.2.2, 16, .inl w12))] [(0, .ref a_this), (1, .int x0), (2, .int x1), (3, .int y8), (4, .int y9), (5, .int y10)] 28 [] := by
        intro n
        induction n with
        | zero => intro y8 y9 y10 w11 w12 hf; exact (lo5_z hf).elim
        | succ n ih28 =>
          intro y8 y9 y10 w11 w12 hf
          obtain ⟨R28, eR28, hf⟩ := lo5_x hf
          unfold sX6_hit_28 at hf
          refine g_iload C dX6_hit_28 5 rfl ?_
          refine g_bipush (v := 16) C dX6_hit_30 (by decide) ?_
          refine g_icmp_ge C dX6_hit_32 (tgt := 147) (by decide) hf (fun hf => ?_) (fun hf => ?_)
          · exact g_lv [2, 3, 4] rfl (hJ147 y8 y9 w11 w12 hf)
          · refine g_aload_n C dX6_hit_35 rfl 0 rfl ?_
            refine g_iload C dX6_hit_36 5 rfl ?_
            obtain ⟨r13, u14, u15, hq16, hf⟩ := cal3_x hf
            refine g_callV (As := [.int y10]) (rest := []) (st2 := [.int r13]) (n := 1) C (cX6_worth_ok X.1 a_this a_kinds a_seqs a_versions a_oldKinds a_oldSeqs a_oldVersions a_seenSeqs a_sources a_oldSources a_seenSources a_done a_bytes a_lengths a_greatest a_tKind a_tA a_tB a_points a_holds v_seenSeqs v_seenSources v_checkpoint v_max v_persisted v_oldCheckpoint v_oldMax v_down v_oldest v_generations v_synced v_rKind v_rSeq v_rId v_rVersion v_rEnd v_rSource v_tKind v_tA v_tB w11 w12 v_tokens v_visible y10 hq16) gX6_hit_X6_worth rfl rfl rfl ⟨rfl, by decide +kernel⟩ (by decide) 0 rfl rfl rfl [0, 1, 2, 3, 4, 5, 6, 7] (by decide) rfl [] (Wr := []) (by decide) rfl (by decide) [0, 1, 2, 3, 4, 5, 6, 7] (by decide) (Wn := fun _ => [(a_this, .inr (6, [.ref a_kinds, .ref a_seqs, .ref a_versions, .ref a_oldKinds, .ref a_oldSeqs, .ref a_oldVersions, .ref a_seenSeqs, .ref a_sources, .ref a_oldSources, .ref a_seenSources, .ref a_done, .int v_checkpoint, .int v_max, .int v_persisted, .int v_oldCheckpoint, .int v_oldMax, .int v_down, .ref a_bytes, .ref a_lengths, .ref a_greatest, .int v_oldest, .int v_generations, .int v_synced, .int v_rKind, .int v_rSeq, .int v_rId, .int v_rVersion, .int v_rEnd, .long v_rSource, .ref a_tKind, .ref a_tA, .ref a_tB, .ref a_points, .ref a_holds, .int v_tokens, .int v_visible])), (a_seenSeqs, .inl (X.1.2.2.1, 16, .inl v_seenSeqs)), (a_seenSources, .inl (X.1.2.2.2.1, 16, .inr (.inl v_seenSources))), (a_tKind, .inl (X.1.2.2.1, 15, .inl v_tKind)), (a_tA, .inl (X.1.2.2.1, 15, .inl v_tA)), (a_tB, .inl (X.1.2.2.1, 15, .inl v_tB)), (a_points, .inl (X.1.2.2.1, 16, .inl u14)), (a_holds, .inl (X.1.2.2.2.2, 16, .inl u15))]) (fun _ => rfl) rfl rfl rfl (Nat.le_of_ble_eq_true rfl) dX6_hit_38 ⟨Nat.le_refl _, Nat.le_refl _⟩ (fun _ => ?_)
            refine g_istore (lv2 := [(6, .int r13), (0, .ref a_this), (1, .int x0), (2, .int x1), (3, .int y8), (4, .int y9), (5, .int y10)]) C dX6_hit_41 (by decide) rfl ?_
            refine g_iload C dX6_hit_43 0 rfl ?_
            obtain ⟨J141, eJ141, hf⟩ := jp_x hf
            have hJ141 : ∀ (y17 : Int32) (y18 : Int32) (w19 : Nat → Int32) (w20 : Nat → Int32), J141 y17 y18 w19 w20 = some t → G X 0 0 [(a_this, .inr (6, [.ref a_kinds, .ref a_seqs, .ref a_versions, .ref a_oldKinds, .ref a_oldSeqs, .ref a_oldVersions, .ref a_seenSeqs, .ref a_sources, .ref a_oldSources, .ref a_seenSources, .ref a_done, .int v_checkpoint, .int v_max, .int v_persisted, .int v_oldCheckpoint, .int v_oldMax, .int v_down, .ref a_bytes, .ref a_lengths, .ref a_greatest, .int v_oldest, .int v_generations, .int v_synced, .int v_rKind, .int v_rSeq, .int v_rId, .int v_rVersion, .int v_rEnd, .long v_rSource, .ref a_tKind, .ref a_tA, .ref a_tB, .ref a_points, .ref a_holds, .int v_tokens, .int v_visible])), (a_seenSeqs, .inl (X.1.2.2.1, 16, .inl v_seenSeqs)), (a_seenSources, .inl (X.1.2.2.2.1, 16, .inr (.inl v_seenSources))), (a_tKind, .inl (X.1.2.2.1, 15, .inl v_tKind)), (a_tA, .inl (X.1.2.2.1, 15, .inl v_tA)), (a_tB, .inl (X.1.2.2.1, 15, .inl v_tB)), (a_points, .inl (X.1.2.2.1, 16, .inl w19)), (a_holds, .inl (X.1.2.2.2.2, 16, .inl w20))] [(0, .ref a_this), (1, .int x0), (2, .int x1), (3, .int y17), (4, .int y18), (5, .int y10)] 141 [] := by
              intro y17 y18 w19 w20 hf
              have hf := app4 eJ141 hf
              refine g_iinc (v := 1) (lv2 := fun z21 => [(5, .int z21), (0, .ref a_this), (1, .int x0), (2, .int x1), (3, .int y17), (4, .int y18)]) C dX6_hit_141 5 rfl (by decide) (by decide) hf (fun _ => rfl) (fun z21 hf => ?_)
              refine g_goto C dX6_hit_144 (tgt := 28) (by decide) ?_
              exact g_lv [1, 2, 3, 4, 5, 0] rfl (ih28 y17 y18 z21 w19 w20 (app5 eR28 hf))
            refine g_if_ge C dX6_hit_45 (tgt := 51) (by decide) hf (fun hf => ?_) (fun hf => ?_)
            · refine g_iinc (v := 1) (lv2 := fun z22 => [(3, .int z22), (6, .int r13), (0, .ref a_this), (1, .int x0), (2, .int x1), (4, .int y9), (5, .int y10)]) C dX6_hit_51 4 rfl (by decide) (by decide) hf (fun _ => rfl) (fun z22 hf => ?_)
              refine g_aload_n C dX6_hit_54 rfl 2 rfl ?_
              refine g_iload_n C dX6_hit_55 rfl 3 rfl ?_
              refine g_iload C dX6_hit_56 6 rfl ?_
              obtain ⟨r23, u24, u25, hq26, hf⟩ := cal3_x hf
              refine g_callV (As := [.int x0, .int y10]) (rest := []) (st2 := [.int r23]) (n := 2) C (cX6_keyOf_ok X.1 a_this a_kinds a_seqs a_versions a_oldKinds a_oldSeqs a_oldVersions a_seenSeqs a_sources a_oldSources a_seenSources a_done a_bytes a_lengths a_greatest a_tKind a_tA a_tB a_points a_holds v_seenSeqs v_seenSources v_checkpoint v_max v_persisted v_oldCheckpoint v_oldMax v_down v_oldest v_generations v_synced v_rKind v_rSeq v_rId v_rVersion v_rEnd v_rSource v_tKind v_tA v_tB u14 u15 v_tokens v_visible x0 y10 hq26) gX6_hit_X6_keyOf rfl rfl rfl ⟨rfl, by decide +kernel⟩ (by decide) 0 rfl rfl rfl [0, 1, 2, 3, 4, 5, 6, 7] (by decide) rfl [] (Wr := []) (by decide) rfl (by decide) [0, 1, 2, 3, 4, 5, 6, 7] (by decide) (Wn := fun _ => [(a_this, .inr (6, [.ref a_kinds, .ref a_seqs, .ref a_versions, .ref a_oldKinds, .ref a_oldSeqs, .ref a_oldVersions, .ref a_seenSeqs, .ref a_sources, .ref a_oldSources, .ref a_seenSources, .ref a_done, .int v_checkpoint, .int v_max, .int v_persisted, .int v_oldCheckpoint, .int v_oldMax, .int v_down, .ref a_bytes, .ref a_lengths, .ref a_greatest, .int v_oldest, .int v_generations, .int v_synced, .int v_rKind, .int v_rSeq, .int v_rId, .int v_rVersion, .int v_rEnd, .long v_rSource, .ref a_tKind, .ref a_tA, .ref a_tB, .ref a_points, .ref a_holds, .int v_tokens, .int v_visible])), (a_seenSeqs, .inl (X.1.2.2.1, 16, .inl v_seenSeqs)), (a_seenSources, .inl (X.1.2.2.2.1, 16, .inr (.inl v_seenSources))), (a_tKind, .inl (X.1.2.2.1, 15, .inl v_tKind)), (a_tA, .inl (X.1.2.2.1, 15, .inl v_tA)), (a_tB, .inl (X.1.2.2.1, 15, .inl v_tB)), (a_points, .inl (X.1.2.2.1, 16, .inl u24)), (a_holds, .inl (X.1.2.2.2.2, 16, .inl u25))]) (fun _ => rfl) rfl rfl rfl (Nat.le_of_ble_eq_true rfl) dX6_hit_58 ⟨Nat.le_refl _, Nat.le_refl _⟩ (fun _ => ?_)
              refine g_istore (lv2 := [(7, .int r23), (3, .int z22), (6, .int r13), (0, .ref a_this), (1, .int x0), (2, .int x1), (4, .int y9), (5, .int y10)]) C dX6_hit_61 (by decide) rfl ?_
              refine g_iconst (v := 0) C dX6_hit_63 (by decide) ?_
              refine g_istore (lv2 := [(8, .int 0), (7, .int r23), (3, .int z22), (6, .int r13), (0, .ref a_this), (1, .int x0), (2, .int x1), (4, .int y9), (5, .int y10)]) C dX6_hit_64 (by decide) rfl ?_
              refine g_iconst (v := 0) C dX6_hit_66 (by decide) ?_
              refine g_istore (lv2 := [(9, .int 0), (8, .int 0), (7, .int r23), (3, .int z22), (6, .int r13), (0, .ref a_this), (1, .int x0), (2, .int x1), (4, .int y9), (5, .int y10)]) C dX6_hit_67 (by decide) rfl ?_
              obtain ⟨J131, eJ131, hf⟩ := jp_x hf
              have hJ131 : ∀ (y27 : Int32) (w28 : Nat → Int32) (w29 : Nat → Int32), J131 y27 w28 w29 = some t → G X 0 0 [(a_this, .inr (6, [.ref a_kinds, .ref a_seqs, .ref a_versions, .ref a_oldKinds, .ref a_oldSeqs, .ref a_oldVersions, .ref a_seenSeqs, .ref a_sources, .ref a_oldSources, .ref a_seenSources, .ref a_done, .int v_checkpoint, .int v_max, .int v_persisted, .int v_oldCheckpoint, .int v_oldMax, .int v_down, .ref a_bytes, .ref a_lengths, .ref a_greatest, .int v_oldest, .int v_generations, .int v_synced, .int v_rKind, .int v_rSeq, .int v_rId, .int v_rVersion, .int v_rEnd, .long v_rSource, .ref a_tKind, .ref a_tA, .ref a_tB, .ref a_points, .ref a_holds, .int v_tokens, .int v_visible])), (a_seenSeqs, .inl (X.1.2.2.1, 16, .inl v_seenSeqs)), (a_seenSources, .inl (X.1.2.2.2.1, 16, .inr (.inl v_seenSources))), (a_tKind, .inl (X.1.2.2.1, 15, .inl v_tKind)), (a_tA, .inl (X.1.2.2.1, 15, .inl v_tA)), (a_tB, .inl (X.1.2.2.1, 15, .inl v_tB)), (a_points, .inl (X.1.2.2.1, 16, .inl w28)), (a_holds, .inl (X.1.2.2.2.2, 16, .inl w29))] [(0, .ref a_this), (1, .int x0), (2, .int x1), (3, .int z22), (4, .int y9), (5, .int y10), (8, .int y27)] 131 [] := by
                intro y27 w28 w29 hf
                have hf := app3 eJ131 hf
                refine g_iload C dX6_hit_131 6 rfl ?_
                refine g_iload_n C dX6_hit_133 rfl 2 rfl ?_
                refine g_icmp_ne C dX6_hit_134 (tgt := 141) (by decide) hf (fun hf => ?_) (fun hf => ?_)
                · exact g_lv [0, 1, 2, 3, 4, 5] rfl (hJ141 z22 y9 w28 w29 hf)
                · refine g_iload C dX6_hit_137 5 rfl ?_
                  refine g_istore (lv2 := [(4, .int y10), (0, .ref a_this), (1, .int x0), (2, .int x1), (3, .int z22), (5, .int y10), (8, .int y27)]) C dX6_hit_139 (by decide) rfl ?_
                  exact g_lv [1, 2, 3, 4, 0, 5] rfl (hJ141 z22 y10 w28 w29 hf)
              have hL69 : ∀ (n : Nat) (y30 : Int32) (y31 : Int32) (w32 : Nat → Int32) (w33 : Nat → Int32), lo4 (sX6_hit_69 J131 v_seenSeqs v_seenSources v_tKind v_tA v_tB v_tokens x0 r23 y10) n y30 y31 w32 w33 = some t → G X 0 0 [(a_this, .inr (6, [.ref a_kinds, .ref a_seqs, .ref a_versions, .ref a_oldKinds, .ref a_oldSeqs, .ref a_oldVersions, .ref a_seenSeqs, .ref a_sources, .ref a_oldSources, .ref a_seenSources, .ref a_done, .int v_checkpoint, .int v_max, .int v_persisted, .int v_oldCheckpoint, .int v_oldMax, .int v_down, .ref a_bytes, .ref a_lengths, .ref a_greatest, .int v_oldest, .int v_generations, .int v_synced, .int v_rKind, .int v_rSeq, .int v_rId, .int v_rVersion, .int v_rEnd, .long v_rSource, .ref a_tKind, .ref a_tA, .ref a_tB, .ref a_points, .ref a_holds, .int v_tokens, .int v_visible])), (a_seenSeqs, .inl (X.1.2.2.1, 16, .inl v_seenSeqs)), (a_seenSources, .inl (X.1.2.2.2.1, 16, .inr (.inl v_seenSources))), (a_tKind, .inl (X.1.2.2.1, 15, .inl v_tKind)), (a_tA, .inl (X.1.2.2.1, 15, .inl v_tA)), (a_tB, .inl (X.1.2.2.1, 15, .inl v_tB)), (a_points, .inl (X.1.2.2.1, 16, .inl w32)), (a_holds, .inl (X.1.2.2.2.2, 16, .inl w33))] [(0, .ref a_this), (1, .int x0), (2, .int x1), (3, .int z22), (4, .int y9), (5, .int y10), (7, .int r23), (8, .int y30), (9, .int y31)] 69 [] := by
                intro n
                induction n with
                | zero => intro y30 y31 w32 w33 hf; exact (lo4_z hf).elim
                | succ n ih69 =>
                  intro y30 y31 w32 w33 hf
                  obtain ⟨R69, eR69, hf⟩ := lo4_x hf
                  unfold sX6_hit_69 at hf
                  refine g_iload C dX6_hit_69 8 rfl ?_
                  refine g_bipush (v := 16) C dX6_hit_71 (by decide) ?_
                  refine g_icmp_ge C dX6_hit_73 (tgt := 131) (by decide) hf (fun hf => ?_) (fun hf => ?_)
                  · exact g_lv [0, 1, 2, 3, 4, 5, 7] rfl (hJ131 y30 w32 w33 hf)
                  · refine g_aload_n C dX6_hit_76 rfl 0 rfl ?_
                    refine g_iload C dX6_hit_77 8 rfl ?_
                    obtain ⟨r34, u35, u36, hq37, hf⟩ := cal3_x hf
                    refine g_callV (As := [.int y31]) (rest := []) (st2 := [.int r34]) (n := 1) C (cX6_worth_ok X.1 a_this a_kinds a_seqs a_versions a_oldKinds a_oldSeqs a_oldVersions a_seenSeqs a_sources a_oldSources a_seenSources a_done a_bytes a_lengths a_greatest a_tKind a_tA a_tB a_points a_holds v_seenSeqs v_seenSources v_checkpoint v_max v_persisted v_oldCheckpoint v_oldMax v_down v_oldest v_generations v_synced v_rKind v_rSeq v_rId v_rVersion v_rEnd v_rSource v_tKind v_tA v_tB w32 w33 v_tokens v_visible y31 hq37) gX6_hit_X6_worth rfl rfl rfl ⟨rfl, by decide +kernel⟩ (by decide) 0 rfl rfl rfl [0, 1, 2, 3, 4, 5, 6, 7] (by decide) rfl [] (Wr := []) (by decide) rfl (by decide) [0, 1, 2, 3, 4, 5, 6, 7] (by decide) (Wn := fun _ => [(a_this, .inr (6, [.ref a_kinds, .ref a_seqs, .ref a_versions, .ref a_oldKinds, .ref a_oldSeqs, .ref a_oldVersions, .ref a_seenSeqs, .ref a_sources, .ref a_oldSources, .ref a_seenSources, .ref a_done, .int v_checkpoint, .int v_max, .int v_persisted, .int v_oldCheckpoint, .int v_oldMax, .int v_down, .ref a_bytes, .ref a_lengths, .ref a_greatest, .int v_oldest, .int v_generations, .int v_synced, .int v_rKind, .int v_rSeq, .int v_rId, .int v_rVersion, .int v_rEnd, .long v_rSource, .ref a_tKind, .ref a_tA, .ref a_tB, .ref a_points, .ref a_holds, .int v_tokens, .int v_visible])), (a_seenSeqs, .inl (X.1.2.2.1, 16, .inl v_seenSeqs)), (a_seenSources, .inl (X.1.2.2.2.1, 16, .inr (.inl v_seenSources))), (a_tKind, .inl (X.1.2.2.1, 15, .inl v_tKind)), (a_tA, .inl (X.1.2.2.1, 15, .inl v_tA)), (a_tB, .inl (X.1.2.2.1, 15, .inl v_tB)), (a_points, .inl (X.1.2.2.1, 16, .inl u35)), (a_holds, .inl (X.1.2.2.2.2, 16, .inl u36))]) (fun _ => rfl) rfl rfl rfl (Nat.le_of_ble_eq_true rfl) dX6_hit_79 ⟨Nat.le_refl _, Nat.le_refl _⟩ (fun _ => ?_)
                    refine g_istore (lv2 := [(10, .int r34), (0, .ref a_this), (1, .int x0), (2, .int x1), (3, .int z22), (4, .int y9), (5, .int y10), (7, .int r23), (8, .int y30), (9, .int y31)]) C dX6_hit_82 (by decide) rfl ?_
                    refine g_iload C dX6_hit_84 0 rfl ?_
                    obtain ⟨J100, eJ100, hf⟩ := jp_x hf
                    have hJ100 : ∀ (w38 : Nat → Int32) (w39 : Nat → Int32) (k40 : Int32), J100 w38 w39 k40 = some t → G X 0 0 [(a_this, .inr (6, [.ref a_kinds, .ref a_seqs, .ref a_versions, .ref a_oldKinds, .ref a_oldSeqs, .ref a_oldVersions, .ref a_seenSeqs, .ref a_sources, .ref a_oldSources, .ref a_seenSources, .ref a_done, .int v_checkpoint, .int v_max, .int v_persisted, .int v_oldCheckpoint, .int v_oldMax, .int v_down, .ref a_bytes, .ref a_lengths, .ref a_greatest, .int v_oldest, .int v_generations, .int v_synced, .int v_rKind, .int v_rSeq, .int v_rId, .int v_rVersion, .int v_rEnd, .long v_rSource, .ref a_tKind, .ref a_tA, .ref a_tB, .ref a_points, .ref a_holds, .int v_tokens, .int v_visible])), (a_seenSeqs, .inl (X.1.2.2.1, 16, .inl v_seenSeqs)), (a_seenSources, .inl (X.1.2.2.2.1, 16, .inr (.inl v_seenSources))), (a_tKind, .inl (X.1.2.2.1, 15, .inl v_tKind)), (a_tA, .inl (X.1.2.2.1, 15, .inl v_tA)), (a_tB, .inl (X.1.2.2.1, 15, .inl v_tB)), (a_points, .inl (X.1.2.2.1, 16, .inl w38)), (a_holds, .inl (X.1.2.2.2.2, 16, .inl w39))] [(0, .ref a_this), (1, .int x0), (2, .int x1), (3, .int z22), (4, .int y9), (5, .int y10), (7, .int r23), (8, .int y30), (9, .int y31), (10, .int r34)] 100 [.int k40] := by
                      intro w38 w39 k40 hf
                      have hf := app3 eJ100 hf
                      refine g_istore (lv2 := [(11, .int k40), (0, .ref a_this), (1, .int x0), (2, .int x1), (3, .int z22), (4, .int y9), (5, .int y10), (7, .int r23), (8, .int y30), (9, .int y31), (10, .int r34)]) C dX6_hit_100 (by decide) rfl ?_
                      refine g_iload C dX6_hit_102 10 rfl ?_
                      obtain ⟨J125, eJ125, hf⟩ := jp_x hf
                      have hJ125 : ∀ (y41 : Int32), J125 y41 = some t → G X 0 0 [(a_this, .inr (6, [.ref a_kinds, .ref a_seqs, .ref a_versions, .ref a_oldKinds, .ref a_oldSeqs, .ref a_oldVersions, .ref a_seenSeqs, .ref a_sources, .ref a_oldSources, .ref a_seenSources, .ref a_done, .int v_checkpoint, .int v_max, .int v_persisted, .int v_oldCheckpoint, .int v_oldMax, .int v_down, .ref a_bytes, .ref a_lengths, .ref a_greatest, .int v_oldest, .int v_generations, .int v_synced, .int v_rKind, .int v_rSeq, .int v_rId, .int v_rVersion, .int v_rEnd, .long v_rSource, .ref a_tKind, .ref a_tA, .ref a_tB, .ref a_points, .ref a_holds, .int v_tokens, .int v_visible])), (a_seenSeqs, .inl (X.1.2.2.1, 16, .inl v_seenSeqs)), (a_seenSources, .inl (X.1.2.2.2.1, 16, .inr (.inl v_seenSources))), (a_tKind, .inl (X.1.2.2.1, 15, .inl v_tKind)), (a_tA, .inl (X.1.2.2.1, 15, .inl v_tA)), (a_tB, .inl (X.1.2.2.1, 15, .inl v_tB)), (a_points, .inl (X.1.2.2.1, 16, .inl w38)), (a_holds, .inl (X.1.2.2.2.2, 16, .inl w39))] [(0, .ref a_this), (1, .int x0), (2, .int x1), (3, .int z22), (4, .int y9), (5, .int y10), (7, .int r23), (8, .int y41), (9, .int y31)] 125 [] := by
                        intro y41 hf
                        have hf := app1 eJ125 hf
                        refine g_iinc (v := 1) (lv2 := fun z42 => [(9, .int z42), (0, .ref a_this), (1, .int x0), (2, .int x1), (3, .int z22), (4, .int y9), (5, .int y10), (7, .int r23), (8, .int y41)]) C dX6_hit_125 8 rfl (by decide) (by decide) hf (fun _ => rfl) (fun z42 hf => ?_)
                        refine g_goto C dX6_hit_128 (tgt := 69) (by decide) ?_
                        exact g_lv [1, 2, 3, 4, 5, 6, 7, 8, 0] rfl (ih69 y41 z42 w38 w39 (app4 eR69 hf))
                      refine g_if_lt C dX6_hit_104 (tgt := 125) (by decide) hf (fun hf => ?_) (fun hf => ?_)
                      · exact g_lv [1, 2, 3, 4, 5, 6, 7, 8, 9] rfl (hJ125 y30 hf)
                      · refine g_iload_n C dX6_hit_107 rfl 2 rfl ?_
                        refine g_iload C dX6_hit_108 0 rfl ?_
                        refine g_iload C dX6_hit_110 9 rfl ?_
                        refine g_iload C dX6_hit_112 7 rfl ?_
                        refine g_iload C dX6_hit_114 6 rfl ?_
                        obtain ⟨r43, hq44, hf⟩ := cal1_x hf
                        refine g_callS (As := [.int x0, .int k40, .int y31, .int r23, .int y10]) (rest := []) (st2 := [.int r43]) (n := 5) C (cX6_before_ok X.1 x0 k40 y31 r23 y10 hq44) gX6_hit_X6_before rfl rfl rfl (by decide +kernel) (by decide) [] (by decide) rfl [0, 1, 2, 3, 4, 5, 6, 7] (Wr := [(a_this, .inr (6, [.ref a_kinds, .ref a_seqs, .ref a_versions, .ref a_oldKinds, .ref a_oldSeqs, .ref a_oldVersions, .ref a_seenSeqs, .ref a_sources, .ref a_oldSources, .ref a_seenSources, .ref a_done, .int v_checkpoint, .int v_max, .int v_persisted, .int v_oldCheckpoint, .int v_oldMax, .int v_down, .ref a_bytes, .ref a_lengths, .ref a_greatest, .int v_oldest, .int v_generations, .int v_synced, .int v_rKind, .int v_rSeq, .int v_rId, .int v_rVersion, .int v_rEnd, .long v_rSource, .ref a_tKind, .ref a_tA, .ref a_tB, .ref a_points, .ref a_holds, .int v_tokens, .int v_visible])), (a_seenSeqs, .inl (X.1.2.2.1, 16, .inl v_seenSeqs)), (a_seenSources, .inl (X.1.2.2.2.1, 16, .inr (.inl v_seenSources))), (a_tKind, .inl (X.1.2.2.1, 15, .inl v_tKind)), (a_tA, .inl (X.1.2.2.1, 15, .inl v_tA)), (a_tB, .inl (X.1.2.2.1, 15, .inl v_tB)), (a_points, .inl (X.1.2.2.1, 16, .inl w38)), (a_holds, .inl (X.1.2.2.2.2, 16, .inl w39))]) (by decide) rfl (by decide) [0, 1, 2, 3, 4, 5, 6, 7] (by decide) (Wn := fun _ => [(a_this, .inr (6, [.ref a_kinds, .ref a_seqs, .ref a_versions, .ref a_oldKinds, .ref a_oldSeqs, .ref a_oldVersions, .ref a_seenSeqs, .ref a_sources, .ref a_oldSources, .ref a_seenSources, .ref a_done, .int v_checkpoint, .int v_max, .int v_persisted, .int v_oldCheckpoint, .int v_oldMax, .int v_down, .ref a_bytes, .ref a_lengths, .ref a_greatest, .int v_oldest, .int v_generations, .int v_synced, .int v_rKind, .int v_rSeq, .int v_rId, .int v_rVersion, .int v_rEnd, .long v_rSource, .ref a_tKind, .ref a_tA, .ref a_tB, .ref a_points, .ref a_holds, .int v_tokens, .int v_visible])), (a_seenSeqs, .inl (X.1.2.2.1, 16, .inl v_seenSeqs)), (a_seenSources, .inl (X.1.2.2.2.1, 16, .inr (.inl v_seenSources))), (a_tKind, .inl (X.1.2.2.1, 15, .inl v_tKind)), (a_tA, .inl (X.1.2.2.1, 15, .inl v_tA)), (a_tB, .inl (X.1.2.2.1, 15, .inl v_tB)), (a_points, .inl (X.1.2.2.1, 16, .inl w38)), (a_holds, .inl (X.1.2.2.2.2, 16, .inl w39))]) (fun _ => rfl) rfl rfl rfl (Nat.le_of_ble_eq_true rfl) dX6_hit_116 ⟨Nat.le_refl _, Nat.le_refl _⟩ (fun _ => ?_)
                        refine g_if_eq C dX6_hit_119 (tgt := 125) (by decide) hf (fun hf => ?_) (fun hf => ?_)
                        · exact g_lv [1, 2, 3, 4, 5, 6, 7, 8, 9] rfl (hJ125 y30 hf)
                        · refine g_iinc (v := 1) (lv2 := fun z45 => [(8, .int z45), (11, .int k40), (0, .ref a_this), (1, .int x0), (2, .int x1), (3, .int z22), (4, .int y9), (5, .int y10), (7, .int r23), (9, .int y31), (10, .int r34)]) C dX6_hit_122 8 rfl (by decide) (by decide) hf (fun _ => rfl) (fun z45 hf => ?_)
                          exact g_lv [2, 3, 4, 5, 6, 7, 8, 0, 9] rfl (hJ125 z45 hf)
                    refine g_if_ge C dX6_hit_86 (tgt := 93) (by decide) hf (fun hf => ?_) (fun hf => ?_)
                    · refine g_aload_n C dX6_hit_93 rfl 1 rfl ?_
                      refine g_iload_n C dX6_hit_94 rfl 2 rfl ?_
                      refine g_iload C dX6_hit_95 9 rfl ?_
                      obtain ⟨r46, u47, u48, hq49, hf⟩ := cal3_x hf
                      refine g_callV (As := [.int x0, .int y31]) (rest := []) (st2 := [.int r46]) (n := 2) C (cX6_keyOf_ok X.1 a_this a_kinds a_seqs a_versions a_oldKinds a_oldSeqs a_oldVersions a_seenSeqs a_sources a_oldSources a_seenSources a_done a_bytes a_lengths a_greatest a_tKind a_tA a_tB a_points a_holds v_seenSeqs v_seenSources v_checkpoint v_max v_persisted v_oldCheckpoint v_oldMax v_down v_oldest v_generations v_synced v_rKind v_rSeq v_rId v_rVersion v_rEnd v_rSource v_tKind v_tA v_tB u35 u36 v_tokens v_visible x0 y31 hq49) gX6_hit_X6_keyOf rfl rfl rfl ⟨rfl, by decide +kernel⟩ (by decide) 0 rfl rfl rfl [0, 1, 2, 3, 4, 5, 6, 7] (by decide) rfl [] (Wr := []) (by decide) rfl (by decide) [0, 1, 2, 3, 4, 5, 6, 7] (by decide) (Wn := fun _ => [(a_this, .inr (6, [.ref a_kinds, .ref a_seqs, .ref a_versions, .ref a_oldKinds, .ref a_oldSeqs, .ref a_oldVersions, .ref a_seenSeqs, .ref a_sources, .ref a_oldSources, .ref a_seenSources, .ref a_done, .int v_checkpoint, .int v_max, .int v_persisted, .int v_oldCheckpoint, .int v_oldMax, .int v_down, .ref a_bytes, .ref a_lengths, .ref a_greatest, .int v_oldest, .int v_generations, .int v_synced, .int v_rKind, .int v_rSeq, .int v_rId, .int v_rVersion, .int v_rEnd, .long v_rSource, .ref a_tKind, .ref a_tA, .ref a_tB, .ref a_points, .ref a_holds, .int v_tokens, .int v_visible])), (a_seenSeqs, .inl (X.1.2.2.1, 16, .inl v_seenSeqs)), (a_seenSources, .inl (X.1.2.2.2.1, 16, .inr (.inl v_seenSources))), (a_tKind, .inl (X.1.2.2.1, 15, .inl v_tKind)), (a_tA, .inl (X.1.2.2.1, 15, .inl v_tA)), (a_tB, .inl (X.1.2.2.1, 15, .inl v_tB)), (a_points, .inl (X.1.2.2.1, 16, .inl u47)), (a_holds, .inl (X.1.2.2.2.2, 16, .inl u48))]) (fun _ => rfl) rfl rfl rfl (Nat.le_of_ble_eq_true rfl) dX6_hit_97 ⟨Nat.le_refl _, Nat.le_refl _⟩ (fun _ => ?_)
                      exact g_lv [1, 2, 3, 4, 5, 6, 7, 8, 9, 0] rfl (hJ100 u47 u48 r46 hf)
                    · refine g_iconst (v := 0) C dX6_hit_89 (by decide) ?_
                      refine g_goto C dX6_hit_90 (tgt := 100) (by decide) ?_
                      exact g_lv [1, 2, 3, 4, 5, 6, 7, 8, 9, 0] rfl (hJ100 u35 u36 0 hf)
              exact g_lv [5, 6, 7, 3, 8, 9, 2, 1, 0] rfl (hL69 _ 0 0 u24 u25 hf)
            · refine g_goto C dX6_hit_48 (tgt := 141) (by decide) ?_
              exact g_lv [1, 2, 3, 4, 5, 6] rfl (hJ141 y8 y9 u14 u15 hf)
      exact g_lv [3, 4, 5, 2, 1, 0] rfl (hL28 _ 0 (-1) 0 v_points v_holds hf)
    · refine g_iconst (v := (-1)) C dX6_hit_18 (by decide) ?_
      rw [← Option.some.inj hf] at hret
      exact hret () _ _ dX6_hit_19
  · refine g_bipush (v := (-4)) C dX6_hit_7 (by decide) ?_
    rw [← Option.some.inj hf] at hret
    exact hret () _ _ dX6_hit_9
def sX6_after_29 (J111 : (Int32) → (Nat → Int32) → (Nat → Int32) → Option ((Int32) × (Nat → Int32) × (Nat → Int32))) (v_seenSeqs : Nat → Int32) (v_seenSources : Nat → Int64) (v_tKind : Nat → Int32) (v_tA : Nat → Int32) (v_tB : Nat → Int32) (v_tokens : Int32) (x0 : Int32) (x1 : Int32) (x2 : Int32) (R29 : (Int32) → (Int32) → (Int32) → (Nat → Int32) → (Nat → Int32) → Option ((Int32) × (Nat → Int32) × (Nat → Int32))) (y6 : Int32) (y7 : Int32) (y8 : Int32) (w9 : Nat → Int32) (w10 : Nat → Int32) : Option ((Int32) × (Nat → Int32) × (Nat → Int32)) :=
  (if 16 ≤ y8 then (J111 y6 w9 w10) else (cal3 (fX6_worth v_seenSeqs v_seenSources v_tKind v_tA v_tB w9 w10 v_tokens y8) (fun r11 u12 u13 => (jp (fun (y15 : Int32) (y16 : Int32) (w17 : Nat → Int32) (w18 : Nat → Int32) => (bnd (y8 + 1) (fun z19 => (R29 y15 y16 z19 w17 w18)))) (fun J105 => (if 0 ≤ r11 then (cal3 (fX6_keyOf v_seenSeqs v_seenSources v_tKind v_tA v_tB u12 u13 v_tokens x0 y8) (fun r20 u21 u22 => (cal1 (fX6_before x0 x1 x2 r20 y8) (fun r24 => (if r24 = 0 then (J105 y6 y7 u21 u22) else (jp (J105 y8 r20 u21 u22) (fun J97 => (if y6 < 0 then J97 else (cal1 (fX6_before x0 r20 y8 y7 y6) (fun r26 => (if r26 = 0 then (J105 y6 y7 u21 u22) else J97))))))))))) else (J105 y6 y7 u12 u13)))))))
def fX6_after (v_seenSeqs : Nat → Int32) (v_seenSources : Nat → Int64) (v_down : Int32) (v_tKind : Nat → Int32) (v_tA : Nat → Int32) (v_tB : Nat → Int32) (v_points : Nat → Int32) (v_holds : Nat → Int32) (v_tokens : Int32) (x0 : Int32) (x1 : Int32) (x2 : Int32) : Option ((Int32) × (Nat → Int32) × (Nat → Int32)) :=
  (if v_down = 0 then (cal1 (fX6_isBad v_tKind v_tokens x0) (fun r1 => (if r1 = 0 then (jp (fun (y3 : Int32) (w4 : Nat → Int32) (w5 : Nat → Int32) => (some (y3, w4, w5))) (fun J111 => (lo5 (sX6_after_29 J111 v_seenSeqs v_seenSources v_tKind v_tA v_tB v_tokens x0 x1 x2) 1000 (-1) 0 0 v_points v_holds))) else (some ((-1), v_points, v_holds))))) else (some ((-4), v_points, v_holds)))
theorem inX6_after_6 : ∀ w ∈ wsX60, w ∈ wsX6_after := fun _ h => List.mem_cons_of_mem _ (List.mem_append_right _ h)
set_option maxRecDepth 100000 in
set_option maxHeartbeats 8000000 in
theorem cX6_after_ok (L : XL) (a_this a_kinds a_seqs a_versions a_oldKinds a_oldSeqs a_oldVersions a_seenSeqs a_sources a_oldSources a_seenSources a_done a_bytes a_lengths a_greatest a_tKind a_tA a_tB a_points a_holds : Nat) (v_seenSeqs : Nat → Int32) (v_seenSources : Nat → Int64) (v_checkpoint : Int32) (v_max : Int32) (v_persisted : Int32) (v_oldCheckpoint : Int32) (v_oldMax : Int32) (v_down : Int32) (v_oldest : Int32) (v_generations : Int32) (v_synced : Int32) (v_rKind : Int32) (v_rSeq : Int32) (v_rId : Int32) (v_rVersion : Int32) (v_rEnd : Int32) (v_rSource : Int64) (v_tKind : Nat → Int32) (v_tA : Nat → Int32) (v_tB : Nat → Int32) (v_points : Nat → Int32) (v_holds : Nat → Int32) (v_tokens : Int32) (v_visible : Int32) (x0 : Int32) (x1 : Int32) (x2 : Int32) {t : (Int32) × (Nat → Int32) × (Nat → Int32)} (hf : fX6_after v_seenSeqs v_seenSources v_down v_tKind v_tA v_tB v_points v_holds v_tokens x0 x1 x2 = some t) : xM L yX6_after wsX6_after ({ frames := 5, cells := 0, slots := 0, locals := 121 }) [.ref a_this, .int x0, .int x1, .int x2] [(a_this, .inr (6, [.ref a_kinds, .ref a_seqs, .ref a_versions, .ref a_oldKinds, .ref a_oldSeqs, .ref a_oldVersions, .ref a_seenSeqs, .ref a_sources, .ref a_oldSources, .ref a_seenSources, .ref a_done, .int v_checkpoint, .int v_max, .int v_persisted, .int v_oldCheckpoint, .int v_oldMax, .int v_down, .ref a_bytes, .ref a_lengths, .ref a_greatest, .int v_oldest, .int v_generations, .int v_synced, .int v_rKind, .int v_rSeq, .int v_rId, .int v_rVersion, .int v_rEnd, .long v_rSource, .ref a_tKind, .ref a_tA, .ref a_tB, .ref a_points, .ref a_holds, .int v_tokens, .int v_visible])), (a_seenSeqs, .inl (L.2.2.1, 16, .inl v_seenSeqs)), (a_seenSources, .inl (L.2.2.2.1, 16, .inr (.inl v_seenSources))), (a_tKind, .inl (L.2.2.1, 15, .inl v_tKind)), (a_tA, .inl (L.2.2.1, 15, .inl v_tA)), (a_tB, .inl (L.2.2.1, 15, .inl v_tB)), (a_points, .inl (L.2.2.1, 16, .inl v_points)), (a_holds, .inl (L.2.2.2.2, 16, .inl v_holds))] 0 0 (some (.int t.1)) (fun _ : Unit => [(a_this, .inr (6, [.ref a_kinds, .ref a_seqs, .ref a_versions, .ref a_oldKinds, .ref a_oldSeqs, .ref a_oldVersions, .ref a_seenSeqs, .ref a_sources, .ref a_oldSources, .ref a_seenSources, .ref a_done, .int v_checkpoint, .int v_max, .int v_persisted, .int v_oldCheckpoint, .int v_oldMax, .int v_down, .ref a_bytes, .ref a_lengths, .ref a_greatest, .int v_oldest, .int v_generations, .int v_synced, .int v_rKind, .int v_rSeq, .int v_rId, .int v_rVersion, .int v_rEnd, .long v_rSource, .ref a_tKind, .ref a_tA, .ref a_tB, .ref a_points, .ref a_holds, .int v_tokens, .int v_visible])), (a_seenSeqs, .inl (L.2.2.1, 16, .inl v_seenSeqs)), (a_seenSources, .inl (L.2.2.2.1, 16, .inr (.inl v_seenSources))), (a_tKind, .inl (L.2.2.1, 15, .inl v_tKind)), (a_tA, .inl (L.2.2.1, 15, .inl v_tA)), (a_tB, .inl (L.2.2.1, 15, .inl v_tB)), (a_points, .inl (L.2.2.1, 16, .inl t.2.1)), (a_holds, .inl (L.2.2.2.2, 16, .inl t.2.2))]) := by
  refine enter_i (own := RX6) (by decide) rfl rfl (Nat.le_of_ble_eq_true rfl) ?_
  intro X hXL C _ hret
  subst hXL
  unfold fX6_after at hf
  show G X 0 0 [(a_this, .inr (6, [.ref a_kinds, .ref a_seqs, .ref a_versions, .ref a_oldKinds, .ref a_oldSeqs, .ref a_oldVersions, .ref a_seenSeqs, .ref a_sources, .ref a_oldSources, .ref a_seenSources, .ref a_done, .int v_checkpoint, .int v_max, .int v_persisted, .int v_oldCheckpoint, .int v_oldMax, .int v_down, .ref a_bytes, .ref a_lengths, .ref a_greatest, .int v_oldest, .int v_generations, .int v_synced, .int v_rKind, .int v_rSeq, .int v_rId, .int v_rVersion, .int v_rEnd, .long v_rSource, .ref a_tKind, .ref a_tA, .ref a_tB, .ref a_points, .ref a_holds, .int v_tokens, .int v_visible])), (a_seenSeqs, .inl (X.1.2.2.1, 16, .inl v_seenSeqs)), (a_seenSources, .inl (X.1.2.2.2.1, 16, .inr (.inl v_seenSources))), (a_tKind, .inl (X.1.2.2.1, 15, .inl v_tKind)), (a_tA, .inl (X.1.2.2.1, 15, .inl v_tA)), (a_tB, .inl (X.1.2.2.1, 15, .inl v_tB)), (a_points, .inl (X.1.2.2.1, 16, .inl v_points)), (a_holds, .inl (X.1.2.2.2.2, 16, .inl v_holds))] [(0, .ref a_this), (1, .int x0), (2, .int x1), (3, .int x2)] 0 []
  refine g_aload_n C dX6_after_0 rfl 0 rfl ?_
  refine g_get C inX6_after_6 0 rfl rfl 16 (by decide) (List.mem_of_getElem? (i := 1) rfl) rfl rfl dX6_after_1 ?_
  refine g_if_eq C dX6_after_4 (tgt := 10) (by decide) hf (fun hf => ?_) (fun hf => ?_)
  · refine g_aload_n C dX6_after_10 rfl 0 rfl ?_
    refine g_iload_n C dX6_after_11 rfl 1 rfl ?_
    obtain ⟨r1, hq2, hf⟩ := cal1_x hf
    refine g_callV (As := [.int x0]) (rest := []) (st2 := [.int r1]) (n := 1) C (cX6_isBad_ok X.1 a_this a_kinds a_seqs a_versions a_oldKinds a_oldSeqs a_oldVersions a_seenSeqs a_sources a_oldSources a_seenSources a_done a_bytes a_lengths a_greatest a_tKind a_tA a_tB a_points a_holds v_checkpoint v_max v_persisted v_oldCheckpoint v_oldMax v_down v_oldest v_generations v_synced v_rKind v_rSeq v_rId v_rVersion v_rEnd v_rSource v_tKind v_tokens v_visible x0 hq2) gX6_after_X6_isBad rfl rfl rfl ⟨rfl, by decide +kernel⟩ (by decide) 0 rfl rfl rfl [0, 3] (by decide) rfl [1, 2, 4, 5, 6, 7] (Wr := [(a_seenSeqs, .inl (X.1.2.2.1, 16, .inl v_seenSeqs)), (a_seenSources, .inl (X.1.2.2.2.1, 16, .inr (.inl v_seenSources))), (a_tA, .inl (X.1.2.2.1, 15, .inl v_tA)), (a_tB, .inl (X.1.2.2.1, 15, .inl v_tB)), (a_points, .inl (X.1.2.2.1, 16, .inl v_points)), (a_holds, .inl (X.1.2.2.2.2, 16, .inl v_holds))]) (by decide) rfl (by decide) [6, 0, 1, 7, 2, 3, 4, 5] (by decide) (Wn := fun _ => [(a_this, .inr (6, [.ref a_kinds, .ref a_seqs, .ref a_versions, .ref a_oldKinds, .ref a_oldSeqs, .ref a_oldVersions, .ref a_seenSeqs, .ref a_sources, .ref a_oldSources, .ref a_seenSources, .ref a_done, .int v_checkpoint, .int v_max, .int v_persisted, .int v_oldCheckpoint, .int v_oldMax, .int v_down, .ref a_bytes, .ref a_lengths, .ref a_greatest, .int v_oldest, .int v_generations, .int v_synced, .int v_rKind, .int v_rSeq, .int v_rId, .int v_rVersion, .int v_rEnd, .long v_rSource, .ref a_tKind, .ref a_tA, .ref a_tB, .ref a_points, .ref a_holds, .int v_tokens, .int v_visible])), (a_seenSeqs, .inl (X.1.2.2.1, 16, .inl v_seenSeqs)), (a_seenSources, .inl (X.1.2.2.2.1, 16, .inr (.inl v_seenSources))), (a_tKind, .inl (X.1.2.2.1, 15, .inl v_tKind)), (a_tA, .inl (X.1.2.2.1, 15, .inl v_tA)), (a_tB, .inl (X.1.2.2.1, 15, .inl v_tB)), (a_points, .inl (X.1.2.2.1, 16, .inl v_points)), (a_holds, .inl (X.1.2.2.2.2, 16, .inl v_holds))]) (fun _ => rfl) rfl rfl rfl (Nat.le_of_ble_eq_true rfl) dX6_after_12 ⟨Nat.le_refl _, Nat.le_refl _⟩ (fun _ => ?_)
    refine g_if_eq C dX6_after_15 (tgt := 20) (by decide) hf (fun hf => ?_) (fun hf => ?_)
    · refine g_iconst (v := (-1)) C dX6_after_20 (by decide) ?_
      refine g_istore (lv2 := [(4, .int (-1)), (0, .ref a_this), (1, .int x0), (2, .int x1), (3, .int x2)]) C dX6_after_21 (by decide) rfl ?_
      refine g_iconst (v := 0) C dX6_after_23 (by decide) ?_
      refine g_istore (lv2 := [(5, .int 0), (4, .int (-1)), (0, .ref a_this), (1, .int x0), (2, .int x1), (3, .int x2)]) C dX6_after_24 (by decide) rfl ?_
      refine g_iconst (v := 0) C dX6_after_26 (by decide) ?_
      refine g_istore (lv2 := [(6, .int 0), (5, .int 0), (4, .int (-1)), (0, .ref a_this), (1, .int x0), (2, .int x1), (3, .int x2)]) C dX6_after_27 (by decide) rfl ?_
      obtain ⟨J111, eJ111, hf⟩ := jp_x hf
      have hJ111 : ∀ (y3 : Int32) (w4 : Nat → Int32) (w5 : Nat → Int32), J111 y3 w4 w5 = some t → G X 0 0 [(a_this, .inr (6, [.ref a_kinds, .ref a_seqs, .ref a_versions, .ref a_oldKinds, .ref a_oldSeqs, .ref a_oldVersions, .ref a_seenSeqs, .ref a_sources, .ref a_oldSources, .ref a_seenSources, .ref a_done, .int v_checkpoint, .int v_max, .int v_persisted, .int v_oldCheckpoint, .int v_oldMax, .int v_down, .ref a_bytes, .ref a_lengths, .ref a_greatest, .int v_oldest, .int v_generations, .int v_synced, .int v_rKind, .int v_rSeq, .int v_rId, .int v_rVersion, .int v_rEnd, .long v_rSource, .ref a_tKind, .ref a_tA, .ref a_tB, .ref a_points, .ref a_holds, .int v_tokens, .int v_visible])), (a_seenSeqs, .inl (X.1.2.2.1, 16, .inl v_seenSeqs)), (a_seenSources, .inl (X.1.2.2.2.1, 16, .inr (.inl v_seenSources))), (a_tKind, .inl (X.1.2.2.1, 15, .inl v_tKind)), (a_tA, .inl (X.1.2.2.1, 15, .inl v_tA)), (a_tB, .inl (X.1.2.2.1, 15, .inl v_tB)), (a_points, .inl (X.1.2.2.1, 16, .inl w4)), (a_holds, .inl (X.1.2.2.2.2, 16, .inl w5))] [(4, .int y3)] 111 [] := by
        intro y3 w4 w5 hf
        have hf := app3 eJ111 hf
        refine g_iload C dX6_after_111 0 rfl ?_
        rw [← Option.some.inj hf] at hret
        exact hret () _ _ dX6_after_113
      have hL29 : ∀ (n : Nat) (y6 : Int32) (y7 : Int32) (y8 : Int32) (w9 : Nat → Int32) (w10 : Nat → Int32), lo5 (sX6_after_29 J111 v_seenSeqs v_seenSources v_tKind v_tA v_tB v_tokens x0 x1 x2) n y6 y7 y8 w9 w10 = some t → G X 0 0 [(a_this, .inr (6, [.ref a_kinds, .ref a_seqs, .ref a_versions, .ref a_oldKinds, .ref a_oldSeqs, .ref a_oldVersions, .ref a_seenSeqs, .ref a_sources, .ref a_oldSources, .ref a_seenSources, .ref a_done, .int v_checkpoint, .int v_max, .int v_persisted, .int v_oldCheckpoint, .int v_oldMax, .int v_down, .ref a_bytes, .ref a_lengths, .ref a_greatest, .int v_oldest, .int v_generations, .int v_synced, .int v_rKind, .int v_rSeq, .int v_rId, .int v_rVersion, .int v_rEnd, .long v_rSource, .ref a_tKind, .ref a_tA, .ref a_tB, .ref a_points, .ref a_holds, .int v_tokens, .int v_visible])), (a_seenSeqs, .inl (X.1.2.2.1, 16, .inl v_seenSeqs)), (a_seenSources, .inl (X.1.2.2.2.1, 16, .inr (.inl v_seenSources))), (a_tKind, .inl (X.1.2.2.1, 15, .inl v_tKind)), (a_tA, .inl (X.1.2.2.1, 15, .inl v_tA)), (a_tB, .inl (X.1.2.2.1, 15, .inl v_tB)), (a_points, .inl (X.1.2.2.1, 16, .inl w9)), (a_holds, .inl (X.1.2.2.2.2, 16, .inl w10))] [(0, .ref a_this), (1, .int x0), (2, .int x1), (3, .int x2), (4, .int y6), (5, .int y7), (6, .int y8)] 29 [] := by
        intro n
        induction n with
        | zero => intro y6 y7 y8 w9 w10 hf; exact (lo5_z hf).elim
        | succ n ih29 =>
          intro y6 y7 y8 w9 w10 hf
          obtain ⟨R29, eR29, hf⟩ := lo5_x hf
          unfold sX6_after_29 at hf
          refine g_iload C dX6_after_29 6 rfl ?_
          refine g_bipush (v := 16) C dX6_after_31 (by decide) ?_
          refine g_icmp_ge C dX6_after_33 (tgt := 111) (by decide) hf (fun hf => ?_) (fun hf => ?_)
          · exact g_lv [4] rfl (hJ111 y6 w9 w10 hf)
          · refine g_aload_n C dX6_after_36 rfl 0 rfl ?_
            refine g_iload C dX6_after_37 6 rfl ?_
            obtain ⟨r11, u12, u13, hq14, hf⟩ := cal3_x hf
            refine g_callV (As := [.int y8]) (rest := []) (st2 := [.int r11]) (n := 1) C (cX6_worth_ok X.1 a_this a_kinds a_seqs a_versions a_oldKinds a_oldSeqs a_oldVersions a_seenSeqs a_sources a_oldSources a_seenSources a_done a_bytes a_lengths a_greatest a_tKind a_tA a_tB a_points a_holds v_seenSeqs v_seenSources v_checkpoint v_max v_persisted v_oldCheckpoint v_oldMax v_down v_oldest v_generations v_synced v_rKind v_rSeq v_rId v_rVersion v_rEnd v_rSource v_tKind v_tA v_tB w9 w10 v_tokens v_visible y8 hq14) gX6_after_X6_worth rfl rfl rfl ⟨rfl, by decide +kernel⟩ (by decide) 0 rfl rfl rfl [0, 1, 2, 3, 4, 5, 6, 7] (by decide) rfl [] (Wr := []) (by decide) rfl (by decide) [0, 1, 2, 3, 4, 5, 6, 7] (by decide) (Wn := fun _ => [(a_this, .inr (6, [.ref a_kinds, .ref a_seqs, .ref a_versions, .ref a_oldKinds, .ref a_oldSeqs, .ref a_oldVersions, .ref a_seenSeqs, .ref a_sources, .ref a_oldSources, .ref a_seenSources, .ref a_done, .int v_checkpoint, .int v_max, .int v_persisted, .int v_oldCheckpoint, .int v_oldMax, .int v_down, .ref a_bytes, .ref a_lengths, .ref a_greatest, .int v_oldest, .int v_generations, .int v_synced, .int v_rKind, .int v_rSeq, .int v_rId, .int v_rVersion, .int v_rEnd, .long v_rSource, .ref a_tKind, .ref a_tA, .ref a_tB, .ref a_points, .ref a_holds, .int v_tokens, .int v_visible])), (a_seenSeqs, .inl (X.1.2.2.1, 16, .inl v_seenSeqs)), (a_seenSources, .inl (X.1.2.2.2.1, 16, .inr (.inl v_seenSources))), (a_tKind, .inl (X.1.2.2.1, 15, .inl v_tKind)), (a_tA, .inl (X.1.2.2.1, 15, .inl v_tA)), (a_tB, .inl (X.1.2.2.1, 15, .inl v_tB)), (a_points, .inl (X.1.2.2.1, 16, .inl u12)), (a_holds, .inl (X.1.2.2.2.2, 16, .inl u13))]) (fun _ => rfl) rfl rfl rfl (Nat.le_of_ble_eq_true rfl) dX6_after_39 ⟨Nat.le_refl _, Nat.le_refl _⟩ (fun _ => ?_)
            refine g_istore (lv2 := [(7, .int r11), (0, .ref a_this), (1, .int x0), (2, .int x1), (3, .int x2), (4, .int y6), (5, .int y7), (6, .int y8)]) C dX6_after_42 (by decide) rfl ?_
            refine g_iload C dX6_after_44 0 rfl ?_
            obtain ⟨J105, eJ105, hf⟩ := jp_x hf
            have hJ105 : ∀ (y15 : Int32) (y16 : Int32) (w17 : Nat → Int32) (w18 : Nat → Int32), J105 y15 y16 w17 w18 = some t → G X 0 0 [(a_this, .inr (6, [.ref a_kinds, .ref a_seqs, .ref a_versions, .ref a_oldKinds, .ref a_oldSeqs, .ref a_oldVersions, .ref a_seenSeqs, .ref a_sources, .ref a_oldSources, .ref a_seenSources, .ref a_done, .int v_checkpoint, .int v_max, .int v_persisted, .int v_oldCheckpoint, .int v_oldMax, .int v_down, .ref a_bytes, .ref a_lengths, .ref a_greatest, .int v_oldest, .int v_generations, .int v_synced, .int v_rKind, .int v_rSeq, .int v_rId, .int v_rVersion, .int v_rEnd, .long v_rSource, .ref a_tKind, .ref a_tA, .ref a_tB, .ref a_points, .ref a_holds, .int v_tokens, .int v_visible])), (a_seenSeqs, .inl (X.1.2.2.1, 16, .inl v_seenSeqs)), (a_seenSources, .inl (X.1.2.2.2.1, 16, .inr (.inl v_seenSources))), (a_tKind, .inl (X.1.2.2.1, 15, .inl v_tKind)), (a_tA, .inl (X.1.2.2.1, 15, .inl v_tA)), (a_tB, .inl (X.1.2.2.1, 15, .inl v_tB)), (a_points, .inl (X.1.2.2.1, 16, .inl w17)), (a_holds, .inl (X.1.2.2.2.2, 16, .inl w18))] [(0, .ref a_this), (1, .int x0), (2, .int x1), (3, .int x2), (4, .int y15), (5, .int y16), (6, .int y8)] 105 [] := by
              intro y15 y16 w17 w18 hf
              have hf := app4 eJ105 hf
              refine g_iinc (v := 1) (lv2 := fun z19 => [(6, .int z19), (0, .ref a_this), (1, .int x0), (2, .int x1), (3, .int x2), (4, .int y15), (5, .int y16)]) C dX6_after_105 6 rfl (by decide) (by decide) hf (fun _ => rfl) (fun z19 hf => ?_)
              refine g_goto C dX6_after_108 (tgt := 29) (by decide) ?_
              exact g_lv [1, 2, 3, 4, 5, 6, 0] rfl (ih29 y15 y16 z19 w17 w18 (app5 eR29 hf))
            refine g_if_ge C dX6_after_46 (tgt := 52) (by decide) hf (fun hf => ?_) (fun hf => ?_)
            · refine g_aload_n C dX6_after_52 rfl 1 rfl ?_
              refine g_iload_n C dX6_after_53 rfl 2 rfl ?_
              refine g_iload C dX6_after_54 7 rfl ?_
              obtain ⟨r20, u21, u22, hq23, hf⟩ := cal3_x hf
              refine g_callV (As := [.int x0, .int y8]) (rest := []) (st2 := [.int r20]) (n := 2) C (cX6_keyOf_ok X.1 a_this a_kinds a_seqs a_versions a_oldKinds a_oldSeqs a_oldVersions a_seenSeqs a_sources a_oldSources a_seenSources a_done a_bytes a_lengths a_greatest a_tKind a_tA a_tB a_points a_holds v_seenSeqs v_seenSources v_checkpoint v_max v_persisted v_oldCheckpoint v_oldMax v_down v_oldest v_generations v_synced v_rKind v_rSeq v_rId v_rVersion v_rEnd v_rSource v_tKind v_tA v_tB u12 u13 v_tokens v_visible x0 y8 hq23) gX6_after_X6_keyOf rfl rfl rfl ⟨rfl, by decide +kernel⟩ (by decide) 0 rfl rfl rfl [0, 1, 2, 3, 4, 5, 6, 7] (by decide) rfl [] (Wr := []) (by decide) rfl (by decide) [0, 1, 2, 3, 4, 5, 6, 7] (by decide) (Wn := fun _ => [(a_this, .inr (6, [.ref a_kinds, .ref a_seqs, .ref a_versions, .ref a_oldKinds, .ref a_oldSeqs, .ref a_oldVersions, .ref a_seenSeqs, .ref a_sources, .ref a_oldSources, .ref a_seenSources, .ref a_done, .int v_checkpoint, .int v_max, .int v_persisted, .int v_oldCheckpoint, .int v_oldMax, .int v_down, .ref a_bytes, .ref a_lengths, .ref a_greatest, .int v_oldest, .int v_generations, .int v_synced, .int v_rKind, .int v_rSeq, .int v_rId, .int v_rVersion, .int v_rEnd, .long v_rSource, .ref a_tKind, .ref a_tA, .ref a_tB, .ref a_points, .ref a_holds, .int v_tokens, .int v_visible])), (a_seenSeqs, .inl (X.1.2.2.1, 16, .inl v_seenSeqs)), (a_seenSources, .inl (X.1.2.2.2.1, 16, .inr (.inl v_seenSources))), (a_tKind, .inl (X.1.2.2.1, 15, .inl v_tKind)), (a_tA, .inl (X.1.2.2.1, 15, .inl v_tA)), (a_tB, .inl (X.1.2.2.1, 15, .inl v_tB)), (a_points, .inl (X.1.2.2.1, 16, .inl u21)), (a_holds, .inl (X.1.2.2.2.2, 16, .inl u22))]) (fun _ => rfl) rfl rfl rfl (Nat.le_of_ble_eq_true rfl) dX6_after_56 ⟨Nat.le_refl _, Nat.le_refl _⟩ (fun _ => ?_)
              refine g_istore (lv2 := [(8, .int r20), (7, .int r11), (0, .ref a_this), (1, .int x0), (2, .int x1), (3, .int x2), (4, .int y6), (5, .int y7), (6, .int y8)]) C dX6_after_59 (by decide) rfl ?_
              refine g_iload_n C dX6_after_61 rfl 3 rfl ?_
              refine g_iload_n C dX6_after_62 rfl 4 rfl ?_
              refine g_iload_n C dX6_after_63 rfl 5 rfl ?_
              refine g_iload C dX6_after_64 0 rfl ?_
              refine g_iload C dX6_after_66 8 rfl ?_
              obtain ⟨r24, hq25, hf⟩ := cal1_x hf
              refine g_callS (As := [.int x0, .int x1, .int x2, .int r20, .int y8]) (rest := []) (st2 := [.int r24]) (n := 5) C (cX6_before_ok X.1 x0 x1 x2 r20 y8 hq25) gX6_after_X6_before rfl rfl rfl (by decide +kernel) (by decide) [] (by decide) rfl [0, 1, 2, 3, 4, 5, 6, 7] (Wr := [(a_this, .inr (6, [.ref a_kinds, .ref a_seqs, .ref a_versions, .ref a_oldKinds, .ref a_oldSeqs, .ref a_oldVersions, .ref a_seenSeqs, .ref a_sources, .ref a_oldSources, .ref a_seenSources, .ref a_done, .int v_checkpoint, .int v_max, .int v_persisted, .int v_oldCheckpoint, .int v_oldMax, .int v_down, .ref a_bytes, .ref a_lengths, .ref a_greatest, .int v_oldest, .int v_generations, .int v_synced, .int v_rKind, .int v_rSeq, .int v_rId, .int v_rVersion, .int v_rEnd, .long v_rSource, .ref a_tKind, .ref a_tA, .ref a_tB, .ref a_points, .ref a_holds, .int v_tokens, .int v_visible])), (a_seenSeqs, .inl (X.1.2.2.1, 16, .inl v_seenSeqs)), (a_seenSources, .inl (X.1.2.2.2.1, 16, .inr (.inl v_seenSources))), (a_tKind, .inl (X.1.2.2.1, 15, .inl v_tKind)), (a_tA, .inl (X.1.2.2.1, 15, .inl v_tA)), (a_tB, .inl (X.1.2.2.1, 15, .inl v_tB)), (a_points, .inl (X.1.2.2.1, 16, .inl u21)), (a_holds, .inl (X.1.2.2.2.2, 16, .inl u22))]) (by decide) rfl (by decide) [0, 1, 2, 3, 4, 5, 6, 7] (by decide) (Wn := fun _ => [(a_this, .inr (6, [.ref a_kinds, .ref a_seqs, .ref a_versions, .ref a_oldKinds, .ref a_oldSeqs, .ref a_oldVersions, .ref a_seenSeqs, .ref a_sources, .ref a_oldSources, .ref a_seenSources, .ref a_done, .int v_checkpoint, .int v_max, .int v_persisted, .int v_oldCheckpoint, .int v_oldMax, .int v_down, .ref a_bytes, .ref a_lengths, .ref a_greatest, .int v_oldest, .int v_generations, .int v_synced, .int v_rKind, .int v_rSeq, .int v_rId, .int v_rVersion, .int v_rEnd, .long v_rSource, .ref a_tKind, .ref a_tA, .ref a_tB, .ref a_points, .ref a_holds, .int v_tokens, .int v_visible])), (a_seenSeqs, .inl (X.1.2.2.1, 16, .inl v_seenSeqs)), (a_seenSources, .inl (X.1.2.2.2.1, 16, .inr (.inl v_seenSources))), (a_tKind, .inl (X.1.2.2.1, 15, .inl v_tKind)), (a_tA, .inl (X.1.2.2.1, 15, .inl v_tA)), (a_tB, .inl (X.1.2.2.1, 15, .inl v_tB)), (a_points, .inl (X.1.2.2.1, 16, .inl u21)), (a_holds, .inl (X.1.2.2.2.2, 16, .inl u22))]) (fun _ => rfl) rfl rfl rfl (Nat.le_of_ble_eq_true rfl) dX6_after_68 ⟨Nat.le_refl _, Nat.le_refl _⟩ (fun _ => ?_)
              refine g_if_ne C dX6_after_71 (tgt := 77) (by decide) hf (fun hf => ?_) (fun hf => ?_)
              · refine g_iload C dX6_after_77 6 rfl ?_
                obtain ⟨J97, eJ97, hf⟩ := jp_x hf
                have hJ97 : J97 = some t → G X 0 0 [(a_this, .inr (6, [.ref a_kinds, .ref a_seqs, .ref a_versions, .ref a_oldKinds, .ref a_oldSeqs, .ref a_oldVersions, .ref a_seenSeqs, .ref a_sources, .ref a_oldSources, .ref a_seenSources, .ref a_done, .int v_checkpoint, .int v_max, .int v_persisted, .int v_oldCheckpoint, .int v_oldMax, .int v_down, .ref a_bytes, .ref a_lengths, .ref a_greatest, .int v_oldest, .int v_generations, .int v_synced, .int v_rKind, .int v_rSeq, .int v_rId, .int v_rVersion, .int v_rEnd, .long v_rSource, .ref a_tKind, .ref a_tA, .ref a_tB, .ref a_points, .ref a_holds, .int v_tokens, .int v_visible])), (a_seenSeqs, .inl (X.1.2.2.1, 16, .inl v_seenSeqs)), (a_seenSources, .inl (X.1.2.2.2.1, 16, .inr (.inl v_seenSources))), (a_tKind, .inl (X.1.2.2.1, 15, .inl v_tKind)), (a_tA, .inl (X.1.2.2.1, 15, .inl v_tA)), (a_tB, .inl (X.1.2.2.1, 15, .inl v_tB)), (a_points, .inl (X.1.2.2.1, 16, .inl u21)), (a_holds, .inl (X.1.2.2.2.2, 16, .inl u22))] [(0, .ref a_this), (1, .int x0), (2, .int x1), (3, .int x2), (6, .int y8), (8, .int r20)] 97 [] := by
                  intro  hf
                  have hf := app0 eJ97 hf
                  refine g_iload C dX6_after_97 4 rfl ?_
                  refine g_istore (lv2 := [(4, .int y8), (0, .ref a_this), (1, .int x0), (2, .int x1), (3, .int x2), (6, .int y8), (8, .int r20)]) C dX6_after_99 (by decide) rfl ?_
                  refine g_iload C dX6_after_101 6 rfl ?_
                  refine g_istore (lv2 := [(5, .int r20), (4, .int y8), (0, .ref a_this), (1, .int x0), (2, .int x1), (3, .int x2), (6, .int y8), (8, .int r20)]) C dX6_after_103 (by decide) rfl ?_
                  exact g_lv [2, 3, 4, 5, 1, 0, 6] rfl (hJ105 y8 r20 u21 u22 hf)
                refine g_if_lt C dX6_after_79 (tgt := 97) (by decide) hf (fun hf => ?_) (fun hf => ?_)
                · exact g_lv [2, 3, 4, 5, 8, 0] rfl (hJ97 hf)
                · refine g_iload_n C dX6_after_82 rfl 3 rfl ?_
                  refine g_iload C dX6_after_83 0 rfl ?_
                  refine g_iload C dX6_after_85 8 rfl ?_
                  refine g_iload C dX6_after_87 7 rfl ?_
                  refine g_iload C dX6_after_89 6 rfl ?_
                  obtain ⟨r26, hq27, hf⟩ := cal1_x hf
                  refine g_callS (As := [.int x0, .int r20, .int y8, .int y7, .int y6]) (rest := []) (st2 := [.int r26]) (n := 5) C (cX6_before_ok X.1 x0 r20 y8 y7 y6 hq27) gX6_after_X6_before rfl rfl rfl (by decide +kernel) (by decide) [] (by decide) rfl [0, 1, 2, 3, 4, 5, 6, 7] (Wr := [(a_this, .inr (6, [.ref a_kinds, .ref a_seqs, .ref a_versions, .ref a_oldKinds, .ref a_oldSeqs, .ref a_oldVersions, .ref a_seenSeqs, .ref a_sources, .ref a_oldSources, .ref a_seenSources, .ref a_done, .int v_checkpoint, .int v_max, .int v_persisted, .int v_oldCheckpoint, .int v_oldMax, .int v_down, .ref a_bytes, .ref a_lengths, .ref a_greatest, .int v_oldest, .int v_generations, .int v_synced, .int v_rKind, .int v_rSeq, .int v_rId, .int v_rVersion, .int v_rEnd, .long v_rSource, .ref a_tKind, .ref a_tA, .ref a_tB, .ref a_points, .ref a_holds, .int v_tokens, .int v_visible])), (a_seenSeqs, .inl (X.1.2.2.1, 16, .inl v_seenSeqs)), (a_seenSources, .inl (X.1.2.2.2.1, 16, .inr (.inl v_seenSources))), (a_tKind, .inl (X.1.2.2.1, 15, .inl v_tKind)), (a_tA, .inl (X.1.2.2.1, 15, .inl v_tA)), (a_tB, .inl (X.1.2.2.1, 15, .inl v_tB)), (a_points, .inl (X.1.2.2.1, 16, .inl u21)), (a_holds, .inl (X.1.2.2.2.2, 16, .inl u22))]) (by decide) rfl (by decide) [0, 1, 2, 3, 4, 5, 6, 7] (by decide) (Wn := fun _ => [(a_this, .inr (6, [.ref a_kinds, .ref a_seqs, .ref a_versions, .ref a_oldKinds, .ref a_oldSeqs, .ref a_oldVersions, .ref a_seenSeqs, .ref a_sources, .ref a_oldSources, .ref a_seenSources, .ref a_done, .int v_checkpoint, .int v_max, .int v_persisted, .int v_oldCheckpoint, .int v_oldMax, .int v_down, .ref a_bytes, .ref a_lengths, .ref a_greatest, .int v_oldest, .int v_generations, .int v_synced, .int v_rKind, .int v_rSeq, .int v_rId, .int v_rVersion, .int v_rEnd, .long v_rSource, .ref a_tKind, .ref a_tA, .ref a_tB, .ref a_points, .ref a_holds, .int v_tokens, .int v_visible])), (a_seenSeqs, .inl (X.1.2.2.1, 16, .inl v_seenSeqs)), (a_seenSources, .inl (X.1.2.2.2.1, 16, .inr (.inl v_seenSources))), (a_tKind, .inl (X.1.2.2.1, 15, .inl v_tKind)), (a_tA, .inl (X.1.2.2.1, 15, .inl v_tA)), (a_tB, .inl (X.1.2.2.1, 15, .inl v_tB)), (a_points, .inl (X.1.2.2.1, 16, .inl u21)), (a_holds, .inl (X.1.2.2.2.2, 16, .inl u22))]) (fun _ => rfl) rfl rfl rfl (Nat.le_of_ble_eq_true rfl) dX6_after_91 ⟨Nat.le_refl _, Nat.le_refl _⟩ (fun _ => ?_)
                  refine g_if_eq C dX6_after_94 (tgt := 105) (by decide) hf (fun hf => ?_) (fun hf => ?_)
                  · exact g_lv [2, 3, 4, 5, 6, 7, 8] rfl (hJ105 y6 y7 u21 u22 hf)
                  · exact g_lv [2, 3, 4, 5, 8, 0] rfl (hJ97 hf)
              · refine g_goto C dX6_after_74 (tgt := 105) (by decide) ?_
                exact g_lv [2, 3, 4, 5, 6, 7, 8] rfl (hJ105 y6 y7 u21 u22 hf)
            · refine g_goto C dX6_after_49 (tgt := 105) (by decide) ?_
              exact g_lv [1, 2, 3, 4, 5, 6, 7] rfl (hJ105 y6 y7 u12 u13 hf)
      exact g_lv [3, 4, 5, 6, 2, 1, 0] rfl (hL29 _ (-1) 0 0 v_points v_holds hf)
    · refine g_iconst (v := (-1)) C dX6_after_18 (by decide) ?_
      rw [← Option.some.inj hf] at hret
      exact hret () _ _ dX6_after_19
  · refine g_bipush (v := (-4)) C dX6_after_7 (by decide) ?_
    rw [← Option.some.inj hf] at hret
    exact hret () _ _ dX6_after_9
def fX6_score (v_seenSeqs : Nat → Int32) (v_seenSources : Nat → Int64) (v_down : Int32) (v_tKind : Nat → Int32) (v_tA : Nat → Int32) (v_tB : Nat → Int32) (v_points : Nat → Int32) (v_holds : Nat → Int32) (v_tokens : Int32) (x0 : Int32) : Option ((Int32) × (Nat → Int32) × (Nat → Int32)) :=
  (if v_down = 0 then (cal1 (fX6_in x0 0 15) (fun r1 => (jp (some ((-1), v_points, v_holds)) (fun J27 => (if r1 = 0 then J27 else (cal1 (fX6_isQuery v_tKind v_tokens) (fun r3 => (if r3 = 0 then J27 else (cal3 (fX6_worth v_seenSeqs v_seenSources v_tKind v_tA v_tB v_points v_holds v_tokens x0) (fun r5 u6 u7 => (some (r5, u6, u7)))))))))))) else (some ((-4), v_points, v_holds)))
theorem inX6_score_6 : ∀ w ∈ wsX60, w ∈ wsX6_score := fun _ h => List.mem_cons_of_mem _ (List.mem_append_right _ h)
set_option maxRecDepth 100000 in
set_option maxHeartbeats 8000000 in
theorem cX6_score_ok (L : XL) (a_this a_kinds a_seqs a_versions a_oldKinds a_oldSeqs a_oldVersions a_seenSeqs a_sources a_oldSources a_seenSources a_done a_bytes a_lengths a_greatest a_tKind a_tA a_tB a_points a_holds : Nat) (v_seenSeqs : Nat → Int32) (v_seenSources : Nat → Int64) (v_checkpoint : Int32) (v_max : Int32) (v_persisted : Int32) (v_oldCheckpoint : Int32) (v_oldMax : Int32) (v_down : Int32) (v_oldest : Int32) (v_generations : Int32) (v_synced : Int32) (v_rKind : Int32) (v_rSeq : Int32) (v_rId : Int32) (v_rVersion : Int32) (v_rEnd : Int32) (v_rSource : Int64) (v_tKind : Nat → Int32) (v_tA : Nat → Int32) (v_tB : Nat → Int32) (v_points : Nat → Int32) (v_holds : Nat → Int32) (v_tokens : Int32) (v_visible : Int32) (x0 : Int32) {t : (Int32) × (Nat → Int32) × (Nat → Int32)} (hf : fX6_score v_seenSeqs v_seenSources v_down v_tKind v_tA v_tB v_points v_holds v_tokens x0 = some t) : xM L yX6_score wsX6_score ({ frames := 4, cells := 0, slots := 0, locals := 99 }) [.ref a_this, .int x0] [(a_this, .inr (6, [.ref a_kinds, .ref a_seqs, .ref a_versions, .ref a_oldKinds, .ref a_oldSeqs, .ref a_oldVersions, .ref a_seenSeqs, .ref a_sources, .ref a_oldSources, .ref a_seenSources, .ref a_done, .int v_checkpoint, .int v_max, .int v_persisted, .int v_oldCheckpoint, .int v_oldMax, .int v_down, .ref a_bytes, .ref a_lengths, .ref a_greatest, .int v_oldest, .int v_generations, .int v_synced, .int v_rKind, .int v_rSeq, .int v_rId, .int v_rVersion, .int v_rEnd, .long v_rSource, .ref a_tKind, .ref a_tA, .ref a_tB, .ref a_points, .ref a_holds, .int v_tokens, .int v_visible])), (a_seenSeqs, .inl (L.2.2.1, 16, .inl v_seenSeqs)), (a_seenSources, .inl (L.2.2.2.1, 16, .inr (.inl v_seenSources))), (a_tKind, .inl (L.2.2.1, 15, .inl v_tKind)), (a_tA, .inl (L.2.2.1, 15, .inl v_tA)), (a_tB, .inl (L.2.2.1, 15, .inl v_tB)), (a_points, .inl (L.2.2.1, 16, .inl v_points)), (a_holds, .inl (L.2.2.2.2, 16, .inl v_holds))] 0 0 (some (.int t.1)) (fun _ : Unit => [(a_this, .inr (6, [.ref a_kinds, .ref a_seqs, .ref a_versions, .ref a_oldKinds, .ref a_oldSeqs, .ref a_oldVersions, .ref a_seenSeqs, .ref a_sources, .ref a_oldSources, .ref a_seenSources, .ref a_done, .int v_checkpoint, .int v_max, .int v_persisted, .int v_oldCheckpoint, .int v_oldMax, .int v_down, .ref a_bytes, .ref a_lengths, .ref a_greatest, .int v_oldest, .int v_generations, .int v_synced, .int v_rKind, .int v_rSeq, .int v_rId, .int v_rVersion, .int v_rEnd, .long v_rSource, .ref a_tKind, .ref a_tA, .ref a_tB, .ref a_points, .ref a_holds, .int v_tokens, .int v_visible])), (a_seenSeqs, .inl (L.2.2.1, 16, .inl v_seenSeqs)), (a_seenSources, .inl (L.2.2.2.1, 16, .inr (.inl v_seenSources))), (a_tKind, .inl (L.2.2.1, 15, .inl v_tKind)), (a_tA, .inl (L.2.2.1, 15, .inl v_tA)), (a_tB, .inl (L.2.2.1, 15, .inl v_tB)), (a_points, .inl (L.2.2.1, 16, .inl t.2.1)), (a_holds, .inl (L.2.2.2.2, 16, .inl t.2.2))]) := by
  refine enter_i (own := RX6) (by decide) rfl rfl (Nat.le_of_ble_eq_true rfl) ?_
  intro X hXL C _ hret
  subst hXL
  unfold fX6_score at hf
  show G X 0 0 [(a_this, .inr (6, [.ref a_kinds, .ref a_seqs, .ref a_versions, .ref a_oldKinds, .ref a_oldSeqs, .ref a_oldVersions, .ref a_seenSeqs, .ref a_sources, .ref a_oldSources, .ref a_seenSources, .ref a_done, .int v_checkpoint, .int v_max, .int v_persisted, .int v_oldCheckpoint, .int v_oldMax, .int v_down, .ref a_bytes, .ref a_lengths, .ref a_greatest, .int v_oldest, .int v_generations, .int v_synced, .int v_rKind, .int v_rSeq, .int v_rId, .int v_rVersion, .int v_rEnd, .long v_rSource, .ref a_tKind, .ref a_tA, .ref a_tB, .ref a_points, .ref a_holds, .int v_tokens, .int v_visible])), (a_seenSeqs, .inl (X.1.2.2.1, 16, .inl v_seenSeqs)), (a_seenSources, .inl (X.1.2.2.2.1, 16, .inr (.inl v_seenSources))), (a_tKind, .inl (X.1.2.2.1, 15, .inl v_tKind)), (a_tA, .inl (X.1.2.2.1, 15, .inl v_tA)), (a_tB, .inl (X.1.2.2.1, 15, .inl v_tB)), (a_points, .inl (X.1.2.2.1, 16, .inl v_points)), (a_holds, .inl (X.1.2.2.2.2, 16, .inl v_holds))] [(0, .ref a_this), (1, .int x0)] 0 []
  refine g_aload_n C dX6_score_0 rfl 0 rfl ?_
  refine g_get C inX6_score_6 0 rfl rfl 16 (by decide) (List.mem_of_getElem? (i := 1) rfl) rfl rfl dX6_score_1 ?_
  refine g_if_eq C dX6_score_4 (tgt := 10) (by decide) hf (fun hf => ?_) (fun hf => ?_)
  · refine g_iload_n C dX6_score_10 rfl 1 rfl ?_
    refine g_iconst (v := 0) C dX6_score_11 (by decide) ?_
    refine g_bipush (v := 15) C dX6_score_12 (by decide) ?_
    obtain ⟨r1, hq2, hf⟩ := cal1_x hf
    refine g_callS (As := [.int x0, .int 0, .int 15]) (rest := []) (st2 := [.int r1]) (n := 3) C (cX6_in_ok X.1 x0 0 15 hq2) gX6_score_X6_in rfl rfl rfl (by decide +kernel) (by decide) [] (by decide) rfl [0, 1, 2, 3, 4, 5, 6, 7] (Wr := [(a_this, .inr (6, [.ref a_kinds, .ref a_seqs, .ref a_versions, .ref a_oldKinds, .ref a_oldSeqs, .ref a_oldVersions, .ref a_seenSeqs, .ref a_sources, .ref a_oldSources, .ref a_seenSources, .ref a_done, .int v_checkpoint, .int v_max, .int v_persisted, .int v_oldCheckpoint, .int v_oldMax, .int v_down, .ref a_bytes, .ref a_lengths, .ref a_greatest, .int v_oldest, .int v_generations, .int v_synced, .int v_rKind, .int v_rSeq, .int v_rId, .int v_rVersion, .int v_rEnd, .long v_rSource, .ref a_tKind, .ref a_tA, .ref a_tB, .ref a_points, .ref a_holds, .int v_tokens, .int v_visible])), (a_seenSeqs, .inl (X.1.2.2.1, 16, .inl v_seenSeqs)), (a_seenSources, .inl (X.1.2.2.2.1, 16, .inr (.inl v_seenSources))), (a_tKind, .inl (X.1.2.2.1, 15, .inl v_tKind)), (a_tA, .inl (X.1.2.2.1, 15, .inl v_tA)), (a_tB, .inl (X.1.2.2.1, 15, .inl v_tB)), (a_points, .inl (X.1.2.2.1, 16, .inl v_points)), (a_holds, .inl (X.1.2.2.2.2, 16, .inl v_holds))]) (by decide) rfl (by decide) [0, 1, 2, 3, 4, 5, 6, 7] (by decide) (Wn := fun _ => [(a_this, .inr (6, [.ref a_kinds, .ref a_seqs, .ref a_versions, .ref a_oldKinds, .ref a_oldSeqs, .ref a_oldVersions, .ref a_seenSeqs, .ref a_sources, .ref a_oldSources, .ref a_seenSources, .ref a_done, .int v_checkpoint, .int v_max, .int v_persisted, .int v_oldCheckpoint, .int v_oldMax, .int v_down, .ref a_bytes, .ref a_lengths, .ref a_greatest, .int v_oldest, .int v_generations, .int v_synced, .int v_rKind, .int v_rSeq, .int v_rId, .int v_rVersion, .int v_rEnd, .long v_rSource, .ref a_tKind, .ref a_tA, .ref a_tB, .ref a_points, .ref a_holds, .int v_tokens, .int v_visible])), (a_seenSeqs, .inl (X.1.2.2.1, 16, .inl v_seenSeqs)), (a_seenSources, .inl (X.1.2.2.2.1, 16, .inr (.inl v_seenSources))), (a_tKind, .inl (X.1.2.2.1, 15, .inl v_tKind)), (a_tA, .inl (X.1.2.2.1, 15, .inl v_tA)), (a_tB, .inl (X.1.2.2.1, 15, .inl v_tB)), (a_points, .inl (X.1.2.2.1, 16, .inl v_points)), (a_holds, .inl (X.1.2.2.2.2, 16, .inl v_holds))]) (fun _ => rfl) rfl rfl rfl (Nat.le_of_ble_eq_true rfl) dX6_score_14 ⟨Nat.le_refl _, Nat.le_refl _⟩ (fun _ => ?_)
    obtain ⟨J27, eJ27, hf⟩ := jp_x hf
    have hJ27 : J27 = some t → G X 0 0 [(a_this, .inr (6, [.ref a_kinds, .ref a_seqs, .ref a_versions, .ref a_oldKinds, .ref a_oldSeqs, .ref a_oldVersions, .ref a_seenSeqs, .ref a_sources, .ref a_oldSources, .ref a_seenSources, .ref a_done, .int v_checkpoint, .int v_max, .int v_persisted, .int v_oldCheckpoint, .int v_oldMax, .int v_down, .ref a_bytes, .ref a_lengths, .ref a_greatest, .int v_oldest, .int v_generations, .int v_synced, .int v_rKind, .int v_rSeq, .int v_rId, .int v_rVersion, .int v_rEnd, .long v_rSource, .ref a_tKind, .ref a_tA, .ref a_tB, .ref a_points, .ref a_holds, .int v_tokens, .int v_visible])), (a_seenSeqs, .inl (X.1.2.2.1, 16, .inl v_seenSeqs)), (a_seenSources, .inl (X.1.2.2.2.1, 16, .inr (.inl v_seenSources))), (a_tKind, .inl (X.1.2.2.1, 15, .inl v_tKind)), (a_tA, .inl (X.1.2.2.1, 15, .inl v_tA)), (a_tB, .inl (X.1.2.2.1, 15, .inl v_tB)), (a_points, .inl (X.1.2.2.1, 16, .inl v_points)), (a_holds, .inl (X.1.2.2.2.2, 16, .inl v_holds))] [] 27 [] := by
      intro  hf
      have hf := app0 eJ27 hf
      refine g_iconst (v := (-1)) C dX6_score_27 (by decide) ?_
      rw [← Option.some.inj hf] at hret
      exact hret () _ _ dX6_score_28
    refine g_if_eq C dX6_score_17 (tgt := 27) (by decide) hf (fun hf => ?_) (fun hf => ?_)
    · exact g_lv [] rfl (hJ27 hf)
    · refine g_aload_n C dX6_score_20 rfl 0 rfl ?_
      obtain ⟨r3, hq4, hf⟩ := cal1_x hf
      refine g_callV (As := []) (rest := []) (st2 := [.int r3]) (n := 0) C (cX6_isQuery_ok X.1 a_this a_kinds a_seqs a_versions a_oldKinds a_oldSeqs a_oldVersions a_seenSeqs a_sources a_oldSources a_seenSources a_done a_bytes a_lengths a_greatest a_tKind a_tA a_tB a_points a_holds v_checkpoint v_max v_persisted v_oldCheckpoint v_oldMax v_down v_oldest v_generations v_synced v_rKind v_rSeq v_rId v_rVersion v_rEnd v_rSource v_tKind v_tokens v_visible hq4) gX6_score_X6_isQuery rfl rfl rfl ⟨rfl, by decide +kernel⟩ (by decide) 0 rfl rfl rfl [0, 3] (by decide) rfl [1, 2, 4, 5, 6, 7] (Wr := [(a_seenSeqs, .inl (X.1.2.2.1, 16, .inl v_seenSeqs)), (a_seenSources, .inl (X.1.2.2.2.1, 16, .inr (.inl v_seenSources))), (a_tA, .inl (X.1.2.2.1, 15, .inl v_tA)), (a_tB, .inl (X.1.2.2.1, 15, .inl v_tB)), (a_points, .inl (X.1.2.2.1, 16, .inl v_points)), (a_holds, .inl (X.1.2.2.2.2, 16, .inl v_holds))]) (by decide) rfl (by decide) [6, 0, 1, 7, 2, 3, 4, 5] (by decide) (Wn := fun _ => [(a_this, .inr (6, [.ref a_kinds, .ref a_seqs, .ref a_versions, .ref a_oldKinds, .ref a_oldSeqs, .ref a_oldVersions, .ref a_seenSeqs, .ref a_sources, .ref a_oldSources, .ref a_seenSources, .ref a_done, .int v_checkpoint, .int v_max, .int v_persisted, .int v_oldCheckpoint, .int v_oldMax, .int v_down, .ref a_bytes, .ref a_lengths, .ref a_greatest, .int v_oldest, .int v_generations, .int v_synced, .int v_rKind, .int v_rSeq, .int v_rId, .int v_rVersion, .int v_rEnd, .long v_rSource, .ref a_tKind, .ref a_tA, .ref a_tB, .ref a_points, .ref a_holds, .int v_tokens, .int v_visible])), (a_seenSeqs, .inl (X.1.2.2.1, 16, .inl v_seenSeqs)), (a_seenSources, .inl (X.1.2.2.2.1, 16, .inr (.inl v_seenSources))), (a_tKind, .inl (X.1.2.2.1, 15, .inl v_tKind)), (a_tA, .inl (X.1.2.2.1, 15, .inl v_tA)), (a_tB, .inl (X.1.2.2.1, 15, .inl v_tB)), (a_points, .inl (X.1.2.2.1, 16, .inl v_points)), (a_holds, .inl (X.1.2.2.2.2, 16, .inl v_holds))]) (fun _ => rfl) rfl rfl rfl (Nat.le_of_ble_eq_true rfl) dX6_score_21 ⟨Nat.le_refl _, Nat.le_refl _⟩ (fun _ => ?_)
      refine g_if_ne C dX6_score_24 (tgt := 29) (by decide) hf (fun hf => ?_) (fun hf => ?_)
      · refine g_aload_n C dX6_score_29 rfl 0 rfl ?_
        refine g_iload_n C dX6_score_30 rfl 1 rfl ?_
        obtain ⟨r5, u6, u7, hq8, hf⟩ := cal3_x hf
        refine g_callV (As := [.int x0]) (rest := []) (st2 := [.int r5]) (n := 1) C (cX6_worth_ok X.1 a_this a_kinds a_seqs a_versions a_oldKinds a_oldSeqs a_oldVersions a_seenSeqs a_sources a_oldSources a_seenSources a_done a_bytes a_lengths a_greatest a_tKind a_tA a_tB a_points a_holds v_seenSeqs v_seenSources v_checkpoint v_max v_persisted v_oldCheckpoint v_oldMax v_down v_oldest v_generations v_synced v_rKind v_rSeq v_rId v_rVersion v_rEnd v_rSource v_tKind v_tA v_tB v_points v_holds v_tokens v_visible x0 hq8) gX6_score_X6_worth rfl rfl rfl ⟨rfl, by decide +kernel⟩ (by decide) 0 rfl rfl rfl [0, 1, 2, 3, 4, 5, 6, 7] (by decide) rfl [] (Wr := []) (by decide) rfl (by decide) [0, 1, 2, 3, 4, 5, 6, 7] (by decide) (Wn := fun _ => [(a_this, .inr (6, [.ref a_kinds, .ref a_seqs, .ref a_versions, .ref a_oldKinds, .ref a_oldSeqs, .ref a_oldVersions, .ref a_seenSeqs, .ref a_sources, .ref a_oldSources, .ref a_seenSources, .ref a_done, .int v_checkpoint, .int v_max, .int v_persisted, .int v_oldCheckpoint, .int v_oldMax, .int v_down, .ref a_bytes, .ref a_lengths, .ref a_greatest, .int v_oldest, .int v_generations, .int v_synced, .int v_rKind, .int v_rSeq, .int v_rId, .int v_rVersion, .int v_rEnd, .long v_rSource, .ref a_tKind, .ref a_tA, .ref a_tB, .ref a_points, .ref a_holds, .int v_tokens, .int v_visible])), (a_seenSeqs, .inl (X.1.2.2.1, 16, .inl v_seenSeqs)), (a_seenSources, .inl (X.1.2.2.2.1, 16, .inr (.inl v_seenSources))), (a_tKind, .inl (X.1.2.2.1, 15, .inl v_tKind)), (a_tA, .inl (X.1.2.2.1, 15, .inl v_tA)), (a_tB, .inl (X.1.2.2.1, 15, .inl v_tB)), (a_points, .inl (X.1.2.2.1, 16, .inl u6)), (a_holds, .inl (X.1.2.2.2.2, 16, .inl u7))]) (fun _ => rfl) rfl rfl rfl (Nat.le_of_ble_eq_true rfl) dX6_score_31 ⟨Nat.le_refl _, Nat.le_refl _⟩ (fun _ => ?_)
        rw [← Option.some.inj hf] at hret
        exact hret () _ _ dX6_score_34
      · exact g_lv [] rfl (hJ27 hf)
  · refine g_bipush (v := (-4)) C dX6_score_7 (by decide) ?_
    rw [← Option.some.inj hf] at hret
    exact hret () _ _ dX6_score_9
def fX6_info (v_checkpoint : Int32) (v_max : Int32) (v_persisted : Int32) (v_oldCheckpoint : Int32) (v_oldMax : Int32) (v_down : Int32) (v_lengths : Nat → Int32) (v_oldest : Int32) (v_generations : Int32) (v_synced : Int32) (v_visible : Int32) (x0 : Int32) : Option ((Int32)) :=
  (if x0 = 0 then (jp (fun (k1 : Int32) => (some (k1))) (fun J75 => (if v_down = 0 then (J75 v_max) else (J75 (-1))))) else (if x0 = 1 then (jp (fun (k2 : Int32) => (some (k2))) (fun J91 => (if v_down = 0 then (J91 v_checkpoint) else (J91 (-1))))) else (if x0 = 2 then (jp (fun (k3 : Int32) => (some (k3))) (fun J107 => (if v_down = 0 then (J107 v_persisted) else (J107 (-1))))) else (if x0 = 3 then (some (v_generations)) else (if x0 = 4 then (some (v_oldest)) else (if x0 = 5 then (bnd (v_generations - 1 : Int32) (fun z4 => (rdI v_lengths 4 z4 (fun z5 => (some (z5)))))) else (if x0 = 6 then (some (v_synced)) else (if x0 = 7 then (jp (fun (k6 : Int32) => (some (k6))) (fun J147 => (if v_down = 0 then (J147 0) else (J147 1)))) else (if x0 = 8 then (some (v_oldCheckpoint)) else (if x0 = 9 then (some (v_oldMax)) else (if x0 = 10 then (jp (fun (k7 : Int32) => (some (k7))) (fun J173 => (if v_down = 0 then (J173 v_visible) else (J173 0)))) else (some ((-1))))))))))))))
theorem inX6_info_6 : ∀ w ∈ wsX60, w ∈ wsX6_info := fun _ h => List.mem_cons_of_mem _ (List.mem_append_right _ h)
set_option maxRecDepth 100000 in
set_option maxHeartbeats 8000000 in
theorem cX6_info_ok (L : XL) (a_this a_kinds a_seqs a_versions a_oldKinds a_oldSeqs a_oldVersions a_seenSeqs a_sources a_oldSources a_seenSources a_done a_bytes a_lengths a_greatest a_tKind a_tA a_tB a_points a_holds : Nat) (v_checkpoint : Int32) (v_max : Int32) (v_persisted : Int32) (v_oldCheckpoint : Int32) (v_oldMax : Int32) (v_down : Int32) (v_lengths : Nat → Int32) (v_oldest : Int32) (v_generations : Int32) (v_synced : Int32) (v_rKind : Int32) (v_rSeq : Int32) (v_rId : Int32) (v_rVersion : Int32) (v_rEnd : Int32) (v_rSource : Int64) (v_tokens : Int32) (v_visible : Int32) (x0 : Int32) {t : (Int32)} (hf : fX6_info v_checkpoint v_max v_persisted v_oldCheckpoint v_oldMax v_down v_lengths v_oldest v_generations v_synced v_visible x0 = some t) : xM L yX6_info wsX6_info ({ frames := 0, cells := 0, slots := 0, locals := 0 }) [.ref a_this, .int x0] [(a_this, .inr (6, [.ref a_kinds, .ref a_seqs, .ref a_versions, .ref a_oldKinds, .ref a_oldSeqs, .ref a_oldVersions, .ref a_seenSeqs, .ref a_sources, .ref a_oldSources, .ref a_seenSources, .ref a_done, .int v_checkpoint, .int v_max, .int v_persisted, .int v_oldCheckpoint, .int v_oldMax, .int v_down, .ref a_bytes, .ref a_lengths, .ref a_greatest, .int v_oldest, .int v_generations, .int v_synced, .int v_rKind, .int v_rSeq, .int v_rId, .int v_rVersion, .int v_rEnd, .long v_rSource, .ref a_tKind, .ref a_tA, .ref a_tB, .ref a_points, .ref a_holds, .int v_tokens, .int v_visible])), (a_lengths, .inl (L.2.2.1, 4, .inl v_lengths))] 0 0 (some (.int t)) (fun _ : Unit => [(a_this, .inr (6, [.ref a_kinds, .ref a_seqs, .ref a_versions, .ref a_oldKinds, .ref a_oldSeqs, .ref a_oldVersions, .ref a_seenSeqs, .ref a_sources, .ref a_oldSources, .ref a_seenSources, .ref a_done, .int v_checkpoint, .int v_max, .int v_persisted, .int v_oldCheckpoint, .int v_oldMax, .int v_down, .ref a_bytes, .ref a_lengths, .ref a_greatest, .int v_oldest, .int v_generations, .int v_synced, .int v_rKind, .int v_rSeq, .int v_rId, .int v_rVersion, .int v_rEnd, .long v_rSource, .ref a_tKind, .ref a_tA, .ref a_tB, .ref a_points, .ref a_holds, .int v_tokens, .int v_visible])), (a_lengths, .inl (L.2.2.1, 4, .inl v_lengths))]) := by
  refine enter_i (own := RX6) (by decide) rfl rfl (Nat.le_of_ble_eq_true rfl) ?_
  intro X hXL C _ hret
  subst hXL
  unfold fX6_info at hf
  show G X 0 0 [(a_this, .inr (6, [.ref a_kinds, .ref a_seqs, .ref a_versions, .ref a_oldKinds, .ref a_oldSeqs, .ref a_oldVersions, .ref a_seenSeqs, .ref a_sources, .ref a_oldSources, .ref a_seenSources, .ref a_done, .int v_checkpoint, .int v_max, .int v_persisted, .int v_oldCheckpoint, .int v_oldMax, .int v_down, .ref a_bytes, .ref a_lengths, .ref a_greatest, .int v_oldest, .int v_generations, .int v_synced, .int v_rKind, .int v_rSeq, .int v_rId, .int v_rVersion, .int v_rEnd, .long v_rSource, .ref a_tKind, .ref a_tA, .ref a_tB, .ref a_points, .ref a_holds, .int v_tokens, .int v_visible])), (a_lengths, .inl (X.1.2.2.1, 4, .inl v_lengths))] [(0, .ref a_this), (1, .int x0)] 0 []
  refine g_iload_n C dX6_info_0 rfl 1 rfl ?_
  rcases it_c hf with ⟨c0, hf⟩ | ⟨c0, hf⟩
  · refine g_tin C dX6_info_1 c0 (by decide) (by decide) rfl (tgt := 60) (by decide) ?_
    refine g_aload_n C dX6_info_60 rfl 0 rfl ?_
    refine g_get C inX6_info_6 0 rfl rfl 16 (by decide) (List.mem_of_getElem? (i := 1) rfl) rfl rfl dX6_info_61 ?_
    obtain ⟨J75, eJ75, hf⟩ := jp_x hf
    have hJ75 : ∀ (k1 : Int32), J75 k1 = some t → G X 0 0 [(a_this, .inr (6, [.ref a_kinds, .ref a_seqs, .ref a_versions, .ref a_oldKinds, .ref a_oldSeqs, .ref a_oldVersions, .ref a_seenSeqs, .ref a_sources, .ref a_oldSources, .ref a_seenSources, .ref a_done, .int v_checkpoint, .int v_max, .int v_persisted, .int v_oldCheckpoint, .int v_oldMax, .int v_down, .ref a_bytes, .ref a_lengths, .ref a_greatest, .int v_oldest, .int v_generations, .int v_synced, .int v_rKind, .int v_rSeq, .int v_rId, .int v_rVersion, .int v_rEnd, .long v_rSource, .ref a_tKind, .ref a_tA, .ref a_tB, .ref a_points, .ref a_holds, .int v_tokens, .int v_visible])), (a_lengths, .inl (X.1.2.2.1, 4, .inl v_lengths))] [] 75 [.int k1] := by
      intro k1 hf
      have hf := app1 eJ75 hf
      rw [← Option.some.inj hf] at hret
      exact hret () _ _ dX6_info_75
    refine g_if_eq C dX6_info_64 (tgt := 71) (by decide) hf (fun hf => ?_) (fun hf => ?_)
    · refine g_aload_n C dX6_info_71 rfl 0 rfl ?_
      refine g_get C inX6_info_6 0 rfl rfl 12 (by decide) (List.mem_of_getElem? (i := 2) rfl) rfl rfl dX6_info_72 ?_
      exact g_lv [] rfl (hJ75 v_max hf)
    · refine g_iconst (v := (-1)) C dX6_info_67 (by decide) ?_
      refine g_goto C dX6_info_68 (tgt := 75) (by decide) ?_
      exact g_lv [] rfl (hJ75 (-1) hf)
  rcases it_c hf with ⟨c1, hf⟩ | ⟨c1, hf⟩
  · refine g_tin C dX6_info_1 c1 (by decide) (by decide) rfl (tgt := 76) (by decide) ?_
    refine g_aload_n C dX6_info_76 rfl 0 rfl ?_
    refine g_get C inX6_info_6 0 rfl rfl 16 (by decide) (List.mem_of_getElem? (i := 1) rfl) rfl rfl dX6_info_77 ?_
    obtain ⟨J91, eJ91, hf⟩ := jp_x hf
    have hJ91 : ∀ (k2 : Int32), J91 k2 = some t → G X 0 0 [(a_this, .inr (6, [.ref a_kinds, .ref a_seqs, .ref a_versions, .ref a_oldKinds, .ref a_oldSeqs, .ref a_oldVersions, .ref a_seenSeqs, .ref a_sources, .ref a_oldSources, .ref a_seenSources, .ref a_done, .int v_checkpoint, .int v_max, .int v_persisted, .int v_oldCheckpoint, .int v_oldMax, .int v_down, .ref a_bytes, .ref a_lengths, .ref a_greatest, .int v_oldest, .int v_generations, .int v_synced, .int v_rKind, .int v_rSeq, .int v_rId, .int v_rVersion, .int v_rEnd, .long v_rSource, .ref a_tKind, .ref a_tA, .ref a_tB, .ref a_points, .ref a_holds, .int v_tokens, .int v_visible])), (a_lengths, .inl (X.1.2.2.1, 4, .inl v_lengths))] [] 91 [.int k2] := by
      intro k2 hf
      have hf := app1 eJ91 hf
      rw [← Option.some.inj hf] at hret
      exact hret () _ _ dX6_info_91
    refine g_if_eq C dX6_info_80 (tgt := 87) (by decide) hf (fun hf => ?_) (fun hf => ?_)
    · refine g_aload_n C dX6_info_87 rfl 0 rfl ?_
      refine g_get C inX6_info_6 0 rfl rfl 11 (by decide) (List.mem_of_getElem? (i := 3) rfl) rfl rfl dX6_info_88 ?_
      exact g_lv [] rfl (hJ91 v_checkpoint hf)
    · refine g_iconst (v := (-1)) C dX6_info_83 (by decide) ?_
      refine g_goto C dX6_info_84 (tgt := 91) (by decide) ?_
      exact g_lv [] rfl (hJ91 (-1) hf)
  rcases it_c hf with ⟨c2, hf⟩ | ⟨c2, hf⟩
  · refine g_tin C dX6_info_1 c2 (by decide) (by decide) rfl (tgt := 92) (by decide) ?_
    refine g_aload_n C dX6_info_92 rfl 0 rfl ?_
    refine g_get C inX6_info_6 0 rfl rfl 16 (by decide) (List.mem_of_getElem? (i := 1) rfl) rfl rfl dX6_info_93 ?_
    obtain ⟨J107, eJ107, hf⟩ := jp_x hf
    have hJ107 : ∀ (k3 : Int32), J107 k3 = some t → G X 0 0 [(a_this, .inr (6, [.ref a_kinds, .ref a_seqs, .ref a_versions, .ref a_oldKinds, .ref a_oldSeqs, .ref a_oldVersions, .ref a_seenSeqs, .ref a_sources, .ref a_oldSources, .ref a_seenSources, .ref a_done, .int v_checkpoint, .int v_max, .int v_persisted, .int v_oldCheckpoint, .int v_oldMax, .int v_down, .ref a_bytes, .ref a_lengths, .ref a_greatest, .int v_oldest, .int v_generations, .int v_synced, .int v_rKind, .int v_rSeq, .int v_rId, .int v_rVersion, .int v_rEnd, .long v_rSource, .ref a_tKind, .ref a_tA, .ref a_tB, .ref a_points, .ref a_holds, .int v_tokens, .int v_visible])), (a_lengths, .inl (X.1.2.2.1, 4, .inl v_lengths))] [] 107 [.int k3] := by
      intro k3 hf
      have hf := app1 eJ107 hf
      rw [← Option.some.inj hf] at hret
      exact hret () _ _ dX6_info_107
    refine g_if_eq C dX6_info_96 (tgt := 103) (by decide) hf (fun hf => ?_) (fun hf => ?_)
    · refine g_aload_n C dX6_info_103 rfl 0 rfl ?_
      refine g_get C inX6_info_6 0 rfl rfl 13 (by decide) (List.mem_of_getElem? (i := 4) rfl) rfl rfl dX6_info_104 ?_
      exact g_lv [] rfl (hJ107 v_persisted hf)
    · refine g_iconst (v := (-1)) C dX6_info_99 (by decide) ?_
      refine g_goto C dX6_info_100 (tgt := 107) (by decide) ?_
      exact g_lv [] rfl (hJ107 (-1) hf)
  rcases it_c hf with ⟨c3, hf⟩ | ⟨c3, hf⟩
  · refine g_tin C dX6_info_1 c3 (by decide) (by decide) rfl (tgt := 108) (by decide) ?_
    refine g_aload_n C dX6_info_108 rfl 0 rfl ?_
    refine g_get C inX6_info_6 0 rfl rfl 21 (by decide) (List.mem_of_getElem? (i := 5) rfl) rfl rfl dX6_info_109 ?_
    rw [← Option.some.inj hf] at hret
    exact hret () _ _ dX6_info_112
  rcases it_c hf with ⟨c4, hf⟩ | ⟨c4, hf⟩
  · refine g_tin C dX6_info_1 c4 (by decide) (by decide) rfl (tgt := 113) (by decide) ?_
    refine g_aload_n C dX6_info_113 rfl 0 rfl ?_
    refine g_get C inX6_info_6 0 rfl rfl 20 (by decide) (List.mem_of_getElem? (i := 6) rfl) rfl rfl dX6_info_114 ?_
    rw [← Option.some.inj hf] at hret
    exact hret () _ _ dX6_info_117
  rcases it_c hf with ⟨c5, hf⟩ | ⟨c5, hf⟩
  · refine g_tin C dX6_info_1 c5 (by decide) (by decide) rfl (tgt := 118) (by decide) ?_
    refine g_aload_n C dX6_info_118 rfl 0 rfl ?_
    refine g_get C inX6_info_6 0 rfl rfl 18 (by decide) (List.mem_of_getElem? (i := 7) rfl) rfl rfl dX6_info_119 ?_
    refine g_aload_n C dX6_info_122 rfl 0 rfl ?_
    refine g_get C inX6_info_6 0 rfl rfl 21 (by decide) (List.mem_of_getElem? (i := 5) rfl) rfl rfl dX6_info_123 ?_
    refine g_iconst (v := 1) C dX6_info_126 (by decide) ?_
    refine g_isub C dX6_info_127 hf (fun z4 hf => ?_)
    refine g_iaload C 1 rfl dX6_info_128 hf (fun z5 hf => ?_)
    rw [← Option.some.inj hf] at hret
    exact hret () _ _ dX6_info_129
  rcases it_c hf with ⟨c6, hf⟩ | ⟨c6, hf⟩
  · refine g_tin C dX6_info_1 c6 (by decide) (by decide) rfl (tgt := 130) (by decide) ?_
    refine g_aload_n C dX6_info_130 rfl 0 rfl ?_
    refine g_get C inX6_info_6 0 rfl rfl 22 (by decide) (List.mem_of_getElem? (i := 8) rfl) rfl rfl dX6_info_131 ?_
    rw [← Option.some.inj hf] at hret
    exact hret () _ _ dX6_info_134
  rcases it_c hf with ⟨c7, hf⟩ | ⟨c7, hf⟩
  · refine g_tin C dX6_info_1 c7 (by decide) (by decide) rfl (tgt := 135) (by decide) ?_
    refine g_aload_n C dX6_info_135 rfl 0 rfl ?_
    refine g_get C inX6_info_6 0 rfl rfl 16 (by decide) (List.mem_of_getElem? (i := 1) rfl) rfl rfl dX6_info_136 ?_
    obtain ⟨J147, eJ147, hf⟩ := jp_x hf
    have hJ147 : ∀ (k6 : Int32), J147 k6 = some t → G X 0 0 [(a_this, .inr (6, [.ref a_kinds, .ref a_seqs, .ref a_versions, .ref a_oldKinds, .ref a_oldSeqs, .ref a_oldVersions, .ref a_seenSeqs, .ref a_sources, .ref a_oldSources, .ref a_seenSources, .ref a_done, .int v_checkpoint, .int v_max, .int v_persisted, .int v_oldCheckpoint, .int v_oldMax, .int v_down, .ref a_bytes, .ref a_lengths, .ref a_greatest, .int v_oldest, .int v_generations, .int v_synced, .int v_rKind, .int v_rSeq, .int v_rId, .int v_rVersion, .int v_rEnd, .long v_rSource, .ref a_tKind, .ref a_tA, .ref a_tB, .ref a_points, .ref a_holds, .int v_tokens, .int v_visible])), (a_lengths, .inl (X.1.2.2.1, 4, .inl v_lengths))] [] 147 [.int k6] := by
      intro k6 hf
      have hf := app1 eJ147 hf
      rw [← Option.some.inj hf] at hret
      exact hret () _ _ dX6_info_147
    refine g_if_eq C dX6_info_139 (tgt := 146) (by decide) hf (fun hf => ?_) (fun hf => ?_)
    · refine g_iconst (v := 0) C dX6_info_146 (by decide) ?_
      exact g_lv [] rfl (hJ147 0 hf)
    · refine g_iconst (v := 1) C dX6_info_142 (by decide) ?_
      refine g_goto C dX6_info_143 (tgt := 147) (by decide) ?_
      exact g_lv [] rfl (hJ147 1 hf)
  rcases it_c hf with ⟨c8, hf⟩ | ⟨c8, hf⟩
  · refine g_tin C dX6_info_1 c8 (by decide) (by decide) rfl (tgt := 148) (by decide) ?_
    refine g_aload_n C dX6_info_148 rfl 0 rfl ?_
    refine g_get C inX6_info_6 0 rfl rfl 14 (by decide) (List.mem_of_getElem? (i := 9) rfl) rfl rfl dX6_info_149 ?_
    rw [← Option.some.inj hf] at hret
    exact hret () _ _ dX6_info_152
  rcases it_c hf with ⟨c9, hf⟩ | ⟨c9, hf⟩
  · refine g_tin C dX6_info_1 c9 (by decide) (by decide) rfl (tgt := 153) (by decide) ?_
    refine g_aload_n C dX6_info_153 rfl 0 rfl ?_
    refine g_get C inX6_info_6 0 rfl rfl 15 (by decide) (List.mem_of_getElem? (i := 10) rfl) rfl rfl dX6_info_154 ?_
    rw [← Option.some.inj hf] at hret
    exact hret () _ _ dX6_info_157
  rcases it_c hf with ⟨c10, hf⟩ | ⟨c10, hf⟩
  · refine g_tin C dX6_info_1 c10 (by decide) (by decide) rfl (tgt := 158) (by decide) ?_
    refine g_aload_n C dX6_info_158 rfl 0 rfl ?_
    refine g_get C inX6_info_6 0 rfl rfl 16 (by decide) (List.mem_of_getElem? (i := 1) rfl) rfl rfl dX6_info_159 ?_
    obtain ⟨J173, eJ173, hf⟩ := jp_x hf
    have hJ173 : ∀ (k7 : Int32), J173 k7 = some t → G X 0 0 [(a_this, .inr (6, [.ref a_kinds, .ref a_seqs, .ref a_versions, .ref a_oldKinds, .ref a_oldSeqs, .ref a_oldVersions, .ref a_seenSeqs, .ref a_sources, .ref a_oldSources, .ref a_seenSources, .ref a_done, .int v_checkpoint, .int v_max, .int v_persisted, .int v_oldCheckpoint, .int v_oldMax, .int v_down, .ref a_bytes, .ref a_lengths, .ref a_greatest, .int v_oldest, .int v_generations, .int v_synced, .int v_rKind, .int v_rSeq, .int v_rId, .int v_rVersion, .int v_rEnd, .long v_rSource, .ref a_tKind, .ref a_tA, .ref a_tB, .ref a_points, .ref a_holds, .int v_tokens, .int v_visible])), (a_lengths, .inl (X.1.2.2.1, 4, .inl v_lengths))] [] 173 [.int k7] := by
      intro k7 hf
      have hf := app1 eJ173 hf
      rw [← Option.some.inj hf] at hret
      exact hret () _ _ dX6_info_173
    refine g_if_eq C dX6_info_162 (tgt := 169) (by decide) hf (fun hf => ?_) (fun hf => ?_)
    · refine g_aload_n C dX6_info_169 rfl 0 rfl ?_
      refine g_get C inX6_info_6 0 rfl rfl 35 (by decide) (List.mem_of_getElem? (i := 11) rfl) rfl rfl dX6_info_170 ?_
      exact g_lv [] rfl (hJ173 v_visible hf)
    · refine g_iconst (v := 0) C dX6_info_165 (by decide) ?_
      refine g_goto C dX6_info_166 (tgt := 173) (by decide) ?_
      exact g_lv [] rfl (hJ173 0 hf)
  refine g_tout C dX6_info_1 (tgt := 174) (by have h0 := lv_neT c0 (show (0 : Int32).toInt = 0 from rfl); have h1 := lv_neT c1 (show (1 : Int32).toInt = 1 from rfl); have h2 := lv_neT c2 (show (2 : Int32).toInt = 2 from rfl); have h3 := lv_neT c3 (show (3 : Int32).toInt = 3 from rfl); have h4 := lv_neT c4 (show (4 : Int32).toInt = 4 from rfl); have h5 := lv_neT c5 (show (5 : Int32).toInt = 5 from rfl); have h6 := lv_neT c6 (show (6 : Int32).toInt = 6 from rfl); have h7 := lv_neT c7 (show (7 : Int32).toInt = 7 from rfl); have h8 := lv_neT c8 (show (8 : Int32).toInt = 8 from rfl); have h9 := lv_neT c9 (show (9 : Int32).toInt = 9 from rfl); have h10 := lv_neT c10 (show (10 : Int32).toInt = 10 from rfl); omega) (by decide) ?_
  refine g_iconst (v := (-1)) C dX6_info_174 (by decide) ?_
  rw [← Option.some.inj hf] at hret
  exact hret () _ _ dX6_info_175
