/-! turns -/
theorem known0 (k s v rk rs : Nat → Int32) {i : Nat} (hi : i < 16) : fX5_known k s v rk rs 0 (nI i) 0 = some (k i) := by
  rw [fX5_known, if_pos rfl, isId_n hi, cal1_e, if_neg (by decide), if_pos rfl, kindOf_ok k hi, cal1_e]
theorem known1 (k s v rk rs : Nat → Int32) {i : Nat} (hi : i < 16) : fX5_known k s v rk rs 0 (nI i) 1 = some (s i) := by
  rw [fX5_known, if_pos rfl, isId_n hi, cal1_e, if_neg (by decide), if_neg (by decide), if_pos rfl, seqOf_ok s hi, cal1_e]
theorem known2 (k s v rk rs : Nat → Int32) {i : Nat} (hi : i < 16) : fX5_known k s v rk rs 0 (nI i) 2 = some (v i) := by
  rw [fX5_known, if_pos rfl, isId_n hi, cal1_e, if_neg (by decide), if_neg (by decide), if_neg (by decide), if_pos rfl, versionOf_ok v hi, cal1_e]
theorem known3 (k s v rk rs : Nat → Int32) {i : Nat} (hi : i < 16) : fX5_known k s v rk rs 0 (nI i) 3 = some (if rk i = 1 then 1 else 0) := by
  rw [fX5_known, if_pos rfl, isId_n hi, cal1_e, if_neg (by decide), if_neg (by decide), if_neg (by decide), if_neg (by decide), if_pos rfl, isDocument_ok rk hi, cal1_e, jp_e]
  by_cases h : rk i = 1
  · rw [if_pos h, if_neg (by decide)]
  · rw [if_neg h, if_pos rfl]
theorem getU (o : Nat → Int64) {i : Nat} (hi : i < 16) : fX5_get o 0 (nI i) = some (o i) := by
  rw [fX5_get, if_pos rfl, isId_n hi, cal1_e, if_neg (by decide), sourceOf_ok o hi, cal1_e]
theorem docs_loop (k s v rk rs : Nat → Int32) (J : Int32 → Option Int32) : ∀ (m i : Nat), i + m = 16 → ∀ (f : Nat), m < f → lo2 (sL_documents_4 J k s v rk rs 0) f (nI (cnt1 k i)) (nI i) = J (nI (cnt1 k 16)) := by
  intro m
  induction m with
  | zero =>
    intro i hi f hf
    obtain rfl : i = 16 := by omega
    obtain ⟨f, rfl⟩ : ∃ z, f = z + 1 := ⟨f - 1, by omega⟩
    rw [lo2_s, sL_documents_4, if_pos (by rw [l16, n_le (by omega) (by omega)]; omega)]
  | succ m ih =>
    intro i hi f hf
    obtain ⟨f, rfl⟩ : ∃ z, f = z + 1 := ⟨f - 1, by omega⟩
    rw [lo2_s, sL_documents_4, if_neg (by rw [l16, n_le (by omega) (by omega)]; omega), known0 k s v rk rs (by omega), cal1_e, jp_e]
    by_cases h : k i = 1
    · rw [if_pos h, bnd_e]
      dsimp only
      rw [bnd_e, nI_1, nI_1, ← cnt1_y h]
      exact ih (i + 1) (by omega) f (by omega)
    · rw [if_neg h]
      dsimp only
      rw [bnd_e, nI_1, ← cnt1_n h]
      exact ih (i + 1) (by omega) f (by omega)
theorem docs_ok (k s v rk rs : Nat → Int32) : fL_documents k s v rk rs 0 = some (nI (cnt1 k 16)) := by
  rw [fL_documents, jp_e]
  exact docs_loop k s v rk rs _ 16 0 (by omega) 1000 (by omega)
theorem info0 (c mx cc cm : Int32) (rk : Nat → Int32) (old cur sy : Int32) (l : Nat → Int32) (per : Int32) : fX5_info c mx cc cm rk old cur sy l per 0 0 = some mx := by
  rw [fX5_info, if_pos rfl, jp_e, if_pos rfl]
theorem info1 (c mx cc cm : Int32) (rk : Nat → Int32) (old cur sy : Int32) (l : Nat → Int32) (per : Int32) : fX5_info c mx cc cm rk old cur sy l per 0 1 = some c := by
  rw [fX5_info, if_neg (by decide), if_pos rfl, jp_e, if_pos rfl]
theorem info2 (c mx cc cm : Int32) (rk : Nat → Int32) (old cur sy : Int32) (l : Nat → Int32) (per : Int32) : fX5_info c mx cc cm rk old cur sy l per 0 2 = some per := by
  rw [fX5_info, if_neg (by decide), if_neg (by decide), if_pos rfl, jp_e, if_pos rfl]
theorem info3 (c mx cc cm : Int32) (rk : Nat → Int32) (old cur sy : Int32) (l : Nat → Int32) (per d : Int32) {r : Int32} (h : fX2_count old cur = some r) : fX5_info c mx cc cm rk old cur sy l per d 3 = some r := by
  rw [fX5_info, if_neg (by decide), if_neg (by decide), if_neg (by decide), if_pos rfl, h, cal1_e]
theorem info4 (c mx cc cm : Int32) (rk : Nat → Int32) (old cur sy : Int32) (l : Nat → Int32) (per d : Int32) : fX5_info c mx cc cm rk old cur sy l per d 4 = some old := by
  rw [fX5_info, if_neg (by decide), if_neg (by decide), if_neg (by decide), if_neg (by decide), if_pos rfl]
theorem info5 (c mx cc cm : Int32) (rk : Nat → Int32) (old sy : Int32) (l : Nat → Int32) (per d : Int32) {q L : Nat} (hq : q < 2000) (h : l (q % 4) = nI L) : fX5_info c mx cc cm rk old (nI q) sy l per d 5 = some (nI L) := by
  rw [fX5_info, if_neg (by decide), if_neg (by decide), if_neg (by decide), if_neg (by decide), if_neg (by decide), if_pos rfl, lengthOf_ok (by omega) l h, cal1_e]
theorem info6 (c mx cc cm : Int32) (rk : Nat → Int32) (old cur sy : Int32) (l : Nat → Int32) (per d : Int32) : fX5_info c mx cc cm rk old cur sy l per d 6 = some sy := by
  rw [fX5_info, if_neg (by decide), if_neg (by decide), if_neg (by decide), if_neg (by decide), if_neg (by decide), if_neg (by decide), if_pos rfl]
theorem info7 (c mx cc cm : Int32) (rk : Nat → Int32) (old cur sy : Int32) (l : Nat → Int32) (per : Int32) (d : Bool) : fX5_info c mx cc cm rk old cur sy l per (qz_b d) 7 = some (qz_b d) := by
  rw [fX5_info, if_neg (by decide), if_neg (by decide), if_neg (by decide), if_neg (by decide), if_neg (by decide), if_neg (by decide), if_neg (by decide), if_pos rfl, jp_e]
  cases d
  · exact if_pos rfl
  · exact if_neg (by decide)
theorem info10 (c mx cc cm : Int32) (rk : Nat → Int32) (old cur sy : Int32) (l : Nat → Int32) (per : Int32) : fX5_info c mx cc cm rk old cur sy l per 0 10 = some (nI (cnt1 rk 16)) := by
  rw [fX5_info, if_neg (by decide), if_neg (by decide), if_neg (by decide), if_neg (by decide), if_neg (by decide), if_neg (by decide), if_neg (by decide), if_neg (by decide), if_neg (by decide), if_neg (by decide), if_pos rfl, jp_e, if_pos rfl, count_ok, cal1_e]
/-- what is visible is what is known -/
def VIS (k : Nat → Int32) (o : Nat → Int64) (rk : Nat → Int32) (ro : Nat → Int64) : Prop := ∀ i, i < 16 → (rk i = 1 ↔ k i = 1) ∧ ro i = o i
def pkN (c : Int32) : Nat := (c &&& 15).toNatClampNeg
theorem pk_C (c : Int32) : c &&& 15 = nI (pkN c) ∧ pkN c < 16 := by
  obtain ⟨j, hj, e⟩ := pk_andE c (m := 15) 4 rfl
  have hj8 : j < 16 := by omega
  have e3 : pkN c = j := by unfold pkN; rw [e, n_cl (by omega)]
  rw [e3]
  exact ⟨e, hj8⟩
theorem wr_C (c : Int32) : wrB c = true ↔ pkN c < 10 := by
  obtain ⟨h1, h2⟩ := pk_C c
  unfold wrB
  rw [h1, show (10 : Int32) = nI 10 from rfl]
  by_cases h : 10 ≤ pkN c
  · rw [decide_eq_true (by rw [n_le (by omega) (by omega)]; exact h)]
    exact ⟨fun h => absurd h (by decide), fun h2 => by omega⟩
  · rw [decide_eq_false (by rw [n_le (by omega) (by omega)]; exact h)]
    exact ⟨fun _ => by omega, fun _ => rfl⟩
section UPT
variable {e : Nat → Int32} {n B P0 : Nat} {k s v : Nat → Int32} {o : Nat → Int64} {c mx : Int32} {ah : Int64} {ck cs cv : Nat → Int32} {co : Nat → Int64} {cc cm : Int32} {old cur sy : Int32} {b l g : Nat → Int32} {per : Int32}
theorem UPR_B (h : UPR e n B P0 k s v o c mx ah ck cs cv co cc cm old cur sy b l g per) {B' : Nat} (h1 : B ≤ B') (h2 : B' ≤ 1000) : UPR e n B' P0 k s v o c mx ah ck cs cv co cc cm old cur sy b l g per := by
  obtain ⟨V, n0, p, a, q, S, h1, h2, h3, h4, h5⟩ := h
  exact ⟨V, n0, p, a, q, S, h1, h2, ⟨h3.1, by omega, by omega⟩, ⟨h4.1, h4.2.1, by omega, h4.2.2.2⟩, h5⟩
theorem UPR_c (h : UPR e n B P0 k s v o c mx ah ck cs cv co cc cm old cur sy b l g per) : c = mI n ∧ mx = mI n ∧ n ≤ B ∧ B ≤ 1000 := by
  obtain ⟨V, n0, p, a, q, S, h1, h2, h3, h4, h5⟩ := h
  exact ⟨h1.1, h1.2.1, h3.2.1, h3.2.2⟩
theorem syncU (h : UPR e n B P0 k s v o c mx ah ck cs cv co cc cm old cur sy b l g per) : ∃ (q L : Nat), cur = nI q ∧ q < 2000 ∧ l (q % 4) = nI L ∧ fX5_sync c old cur sy l g per 0 0 = some (nI L - sy, cur, nI L, l, g, c) ∧ UPR e n B P0 k s v o c mx ah ck cs cv co cc cm old cur (nI L) b l g c := by
  obtain ⟨V, n0, p, a, q, S, ⟨rfl, rfl, rfl, hD⟩, hC, ⟨hV, hnB, hB2⟩, ⟨rfl, rfl, hqB, hLG, hSa, hSq, hG⟩, hS⟩ := h
  obtain ⟨c1, c2, c3, c4⟩ := hLG.2.2 q hLG.1 (Nat.le_refl _)
  rw [hSq] at c1 c2 c3 c4
  refine ⟨q, _, rfl, by omega, c2, ?_, ⟨V, n0, n, a, q, S, ⟨rfl, rfl, rfl, hD⟩, hC, ⟨hV, hnB, hB2⟩, ⟨rfl, rfl, hqB, hLG, hSa, hSq, hG⟩, ⟨c1, Nat.le_refl _, rfl, rfl, Nat.le_trans hS.2.2.2.2 hS.2.1⟩⟩⟩
  rw [fX5_sync, if_pos rfl, jp_e, if_pos rfl, fX2_syncCurrent, fX2_unsynced, lengthOf_ok (by omega) l c2, cal1_e, bnd_e, cal1_e, cal1_e, cal2_e, if_pos rfl]
theorem rollU (h : UPR e n B P0 k s v o c mx ah ck cs cv co cc cm old cur sy b l g per) (hB : B < 1000) : ∃ (r r' cur' sy' : Int32) (l' g' : Nat → Int32) (per' : Int32), fX2_count old cur = some r ∧ fX5_sync c old cur sy l g per 0 1 = some (r', cur', sy', l', g', per') ∧ ((r = 4 ∧ r' = -3) ∨ (¬ r = 4 ∧ 0 ≤ r')) ∧ UPR e n (B + 1) P0 k s v o c mx ah ck cs cv co cc cm old cur' sy' b l' g' per' := by
  have h0 := h
  obtain ⟨V, n0, p, a, q, S, ⟨rfl, rfl, rfl, hD⟩, hC, ⟨hV, hnB, hB2⟩, ⟨rfl, rfl, hqB, hLG, hSa, hSq, hG⟩, hS⟩ := h
  obtain ⟨c1, c2, c3, c4⟩ := hLG.2.2 q hLG.1 (Nat.le_refl _)
  rw [hSq] at c1 c2 c3 c4
  have haq := hLG.1
  have haq3 := hLG.2.1
  have hcnt : fX2_count (nI a) (nI q) = some (nI (q + 1 - a)) := by
    rw [fX2_count, n_sub haq, bnd_e, l1, n_add, bnd_e, show q - a + 1 = q + 1 - a by omega]
  by_cases h4 : q + 1 - a = 4
  · refine ⟨nI (q + 1 - a), -3, nI q, sy, l, g, per, hcnt, ?_, Or.inl ⟨by rw [h4]; rfl, rfl⟩, UPR_B h0 (by omega) (by omega)⟩
    rw [fX5_sync, if_pos rfl, jp_e, if_neg (by decide), hcnt, cal1_e, if_neg (by rw [l4, n_lt (by omega) (by omega)]; omega)]
  · refine ⟨nI (q + 1 - a), nI (q + 1), nI (q + 1), 0, upd l ((q + 1) % 4) 0, upd g ((q + 1) % 4) (-1), mI n, hcnt, ?_, Or.inr ⟨by rw [l4, n_eq (by omega) (by omega)]; exact h4, by rw [l0, n_le (by omega) (by omega)]; omega⟩, ⟨V, n0, n, a, q + 1, fun x => if x = q + 2 then n else S x, ⟨rfl, rfl, rfl, hD⟩, hC, ⟨hV, by omega, by omega⟩, ⟨rfl, rfl, by omega, LG_begin hLG hSq a (Nat.le_refl _) (by omega) (by omega), (if_neg (by omega)).trans hSa, if_pos rfl, GR_begin hG (Nat.le_refl _) (by omega)⟩, ?_⟩⟩
    · rw [fX5_sync, if_pos rfl, jp_e, if_neg (by decide), hcnt, cal1_e, if_pos (by rw [l4, n_lt (by omega) (by omega)]; omega), fX2_syncCurrent, fX2_unsynced, lengthOf_ok (by omega) l c2, cal1_e, bnd_e, cal1_e, cal1_e, cal2_e, if_neg (by decide), beginX_ok (by omega), cal4_e]
    · dsimp only
      rw [if_neg (by omega), hSq, Nat.sub_self]
      exact ⟨Nat.le_refl _, Nat.le_refl _, rfl, rfl, Nat.le_trans hS.2.2.2.2 hS.2.1⟩
theorem refreshU (h : UPR e n B P0 k s v o c mx ah ck cs cv co cc cm old cur sy b l g per) (rk rs rv : Nat → Int32) (ro : Nat → Int64) : ∃ (k' s' v' rk' rs' rv' : Nat → Int32) (ro' : Nat → Int64), fX5_refresh k s v o c rk rs rv ro 0 = some (nI (cnt1 k' 16), k', s', v', rk', rs', rv', ro') ∧ UPR e n B P0 k' s' v' o c mx ah ck cs cv co cc cm old cur sy b l g per ∧ VIS k' o rk' ro' ∧ cnt1 k' 16 = cnt1 k 16 := by
  obtain ⟨V, n0, p, a, q, S, ⟨rfl, rfl, rfl, hD⟩, hC, h3, h4, h5⟩ := h
  refine ⟨fgt k s k (mI n) 0 0, fgt k s s (mI n) (-1) 0, fgt k s v (mI n) 0 0, cpf rk (fgt k s k (mI n) 0 0) 0 16, cpf rs (fgt k s s (mI n) (-1) 0) 0 16, cpf rv (fgt k s v (mI n) 0 0) 0 16, cpf ro o 0 16, ?_, ⟨V, n0, p, a, q, S, ⟨rfl, rfl, rfl, DR_fgt hD _⟩, hC, h3, h4, h5⟩, ?_, cnt1_congr (fun i hi => fgt_1 i)⟩
  · rw [fX5_refresh, if_pos rfl, forget_ok, cal3_e, copyFrom_ok, cal4_e, count_ok, cal1_e, cnt1_congr (k := cpf rk (fgt k s k (mI n) 0 0) 0 16) (k' := fgt k s k (mI n) 0 0) (fun i hi => by rw [cpf_at _ _ (by omega) hi])]
  · intro i hi
    rw [cpf_at _ _ (by omega) hi, cpf_at _ _ (by omega) hi]
    exact ⟨Iff.rfl, rfl⟩
end UPT
/-- a turn: the cell at i, in the loop of turns -/
theorem turnU {e xs : Nat → Int32} {n B P0 Ln i en : Nat} {k : Nat → Int32} {s : Nat → Int32} {v : Nat → Int32} {o : Nat → Int64} {c : Int32} {mx : Int32} {ah : Int64} {ck : Nat → Int32} {cs : Nat → Int32} {cv : Nat → Int32} {co : Nat → Int64} {cc : Int32} {cm : Int32} {ca : Int64} {rk : Nat → Int32} {rs : Nat → Int32} {rv : Nat → Int32} {ro : Nat → Int64} {old : Int32} {cur : Int32} {sy : Int32} {b : Nat → Int32} {l : Nat → Int32} {g : Nat → Int32} {p1 : Int32} {p2 : Int32} {p3 : Int32} {p4 : Int32} {p5 : Int64} {per : Int32} (h : UPR e n B P0 k s v o c mx ah ck cs cv co cc cm old cur sy b l g per) (hB : B + 2 ≤ 1000) (hi : i < Ln) (hLn : Ln < 100000) (hen : i < en) (hen2 : en < 100000) (he : wrB (xs i) = true → e n = xs i)
    (J276 J156 J107 : (Nat → Int32) → (Nat → Int32) → (Nat → Int32) → (Nat → Int64) → (Int32) → (Int32) → (Int64) → (Nat → Int32) → (Nat → Int32) → (Nat → Int32) → (Nat → Int64) → (Int32) → (Int32) → (Int64) → (Nat → Int32) → (Nat → Int32) → (Nat → Int32) → (Nat → Int64) → (Int32) → (Int32) → (Int32) → (Nat → Int32) → (Nat → Int32) → (Nat → Int32) → (Int32) → (Int32) → (Int32) → (Int32) → (Int64) → (Int32) → Option ((Int32) × (Nat → Int32) × (Nat → Int32) × (Nat → Int32) × (Nat → Int64) × (Int32) × (Int32) × (Int64) × (Nat → Int32) × (Nat → Int32) × (Nat → Int32) × (Nat → Int64) × (Int32) × (Int32) × (Int64) × (Nat → Int32) × (Nat → Int32) × (Nat → Int32) × (Nat → Int64) × (Int32) × (Int32) × (Int32) × (Nat → Int32) × (Nat → Int32) × (Nat → Int32) × (Int32) × (Int32) × (Int32) × (Int32) × (Int64) × (Int32))) (f : Nat) :
    ∃ (k' : Nat → Int32) (s' : Nat → Int32) (v' : Nat → Int32) (o' : Nat → Int64) (c' : Int32) (mx' : Int32) (ah' : Int64) (ck' : Nat → Int32) (cs' : Nat → Int32) (cv' : Nat → Int32) (co' : Nat → Int64) (cc' : Int32) (cm' : Int32) (ca' : Int64) (rk' : Nat → Int32) (rs' : Nat → Int32) (rv' : Nat → Int32) (ro' : Nat → Int64) (old' : Int32) (cur' : Int32) (sy' : Int32) (b' : Nat → Int32) (l' : Nat → Int32) (g' : Nat → Int32) (p1' : Int32) (p2' : Int32) (p3' : Int32) (p4' : Int32) (p5' : Int64) (per' : Int32), lo31 (sL_turns_3 (nI en) J276 Ln xs 0 J156 J107) (f + 1) (nI i) k s v o c mx ah ck cs cv co cc cm ca rk rs rv ro old cur sy b l g p1 p2 p3 p4 p5 per = lo31 (sL_turns_3 (nI en) J276 Ln xs 0 J156 J107) f (nI (i + 1)) k' s' v' o' c' mx' ah' ck' cs' cv' co' cc' cm' ca' rk' rs' rv' ro' old' cur' sy' b' l' g' p1' p2' p3' p4' p5' per' ∧
      UPR e (if wrB (xs i) = true then n + 1 else n) (B + 2) P0 k' s' v' o' c' mx' ah' ck' cs' cv' co' cc' cm' old' cur' sy' b' l' g' per' ∧ (¬ (pkN (xs i) = 13 ∨ pkN (xs i) = 14) → rk' = rk ∧ ro' = ro) := by
  obtain ⟨hcn, hmn, hnB, -⟩ := UPR_c h
  obtain ⟨hz, hz16⟩ := pk_C (xs i)
  have hw := wr_C (xs i)
  obtain ⟨hid, hid8⟩ := id_C (xs i)
  have hfin : ∀ (c' mx' cc' cm' : Int32) (rk' : Nat → Int32) (old' cur' sy' : Int32) (l' : Nat → Int32) (per' : Int32) {n' B' P0 : Nat} {k' s' v' : Nat → Int32} {o' : Nat → Int64} {ah' : Int64} {ck' cs' cv' : Nat → Int32} {co' : Nat → Int64} {b' g' : Nat → Int32} (K : Option ((Int32) × (Nat → Int32) × (Nat → Int32) × (Nat → Int32) × (Nat → Int64) × (Int32) × (Int32) × (Int64) × (Nat → Int32) × (Nat → Int32) × (Nat → Int32) × (Nat → Int64) × (Int32) × (Int32) × (Int64) × (Nat → Int32) × (Nat → Int32) × (Nat → Int32) × (Nat → Int64) × (Int32) × (Int32) × (Int32) × (Nat → Int32) × (Nat → Int32) × (Nat → Int32) × (Int32) × (Int32) × (Int32) × (Int32) × (Int64) × (Int32))) (K2 : Option ((Int32) × (Nat → Int32) × (Nat → Int32) × (Nat → Int32) × (Nat → Int64) × (Int32) × (Int32) × (Int64) × (Nat → Int32) × (Nat → Int32) × (Nat → Int32) × (Nat → Int64) × (Int32) × (Int32) × (Int64) × (Nat → Int32) × (Nat → Int32) × (Nat → Int32) × (Nat → Int64) × (Int32) × (Int32) × (Int32) × (Nat → Int32) × (Nat → Int32) × (Nat → Int32) × (Int32) × (Int32) × (Int32) × (Int32) × (Int64) × (Int32))), UPR e n' B' P0 k' s' v' o' c' mx' ah' ck' cs' cv' co' cc' cm' old' cur' sy' b' l' g' per' → cal1 (fX5_info c' mx' cc' cm' rk' old' cur' sy' l' per' 0 1) (fun r159 => cal1 (fX5_info c' mx' cc' cm' rk' old' cur' sy' l' per' 0 0) (fun r161 => if r159 = r161 then K else K2)) = K := by
    intro c' mx' cc' cm' rk' old' cur' sy' l' per' n' B' P0 k' s' v' o' ah' ck' cs' cv' co' b' g' K K2 hU
    obtain ⟨h1, h2, -, -⟩ := UPR_c hU
    rw [info1, cal1_e, info0, cal1_e, if_pos (by rw [h1, h2])]
  rw [lo31_s, sL_turns_3, if_neg (by rw [n_le (by omega) (by omega)]; omega), show Int32.ofNat Ln = nI Ln from rfl, if_neg (by rw [n_le (by omega) (by omega)]; omega), rdI_n hi (by omega), info0, cal1_e, bnd_e, bnd_e, writes_ok, cal1_e, jp_e]
  by_cases hwr : wrB (xs i) = true
  · rw [if_pos hwr, if_pos hwr]
    obtain ⟨k', s', v', o', c', mx', ah', ck', cs', cv', co', cc', cm', ca', old', cur', sy', b', l', g', r1, r2, r3, r4, r5, per', ha, hU, hv, hs⟩ := applyU h hB (he hwr) ca p1 p2 p3 p4 p5
    refine ⟨k', s', v', o', c', mx', ah', ck', cs', cv', co', cc', cm', ca', rk, rs, rv, ro, old', cur', sy', b', l', g', r1, r2, r3, r4, r5, per', ?_, hU, fun _ => ⟨rfl, rfl⟩⟩
    rw [if_neg (by decide), bnd_e, bnd_e, show xs i >>> (4 &&& 31) &&& 7 = idI (xs i) from rfl, hid, known2 _ _ _ _ _ (by omega), cal1_e, ha, cal27_e, if_pos (by rw [hmn, m_succ]), bnd_e, bnd_e, show xs i >>> (4 &&& 31) &&& 7 = idI (xs i) from rfl, hid, known2 _ _ _ _ _ (by omega), cal1_e, bnd_e, if_pos hv, bnd_e, bnd_e, show xs i >>> (4 &&& 31) &&& 7 = idI (xs i) from rfl, hid, known1 _ _ _ _ _ (by omega), cal1_e, if_pos (by rw [hs, hmn, m_succ])]
    try dsimp only
    rw [hfin _ _ _ _ _ _ _ _ _ _ _ _ hU, nI_1, bnd_e]
  · rw [if_neg hwr, if_neg hwr, if_pos rfl, hz]
    have hz10 : ¬ pkN (xs i) < 10 := fun h => hwr (hw.mpr h)
    by_cases h10 : pkN (xs i) = 10
    · obtain ⟨q, L, rfl, hq, hl, hsy, hU⟩ := syncU h
      refine ⟨k, s, v, o, c, mx, ah, ck, cs, cv, co, cc, cm, ca, rk, rs, rv, ro, old, nI q, nI L, b, l, g, p1, p2, p3, p4, p5, c, ?_, UPR_B hU (by omega) (by omega), fun _ => ⟨rfl, rfl⟩⟩
      rw [if_pos (by rw [h10]; rfl), info5 _ _ _ _ _ _ _ _ _ _ hq hl, cal1_e, info6, cal1_e, bnd_e, hsy, cal6_e, if_pos rfl, info2, cal1_e, info1, cal1_e, if_pos rfl]
      try dsimp only
      rw [hfin _ _ _ _ _ _ _ _ _ _ _ _ hU, nI_1, bnd_e]
    · rw [if_neg (by rw [show (10 : Int32) = nI 10 from rfl, n_eq (by omega) (by omega)]; exact h10)]
      by_cases h11 : pkN (xs i) = 11
      · obtain ⟨r, r', cur', sy', l', g', per', hcnt, hsy, hr, hU⟩ := rollU h (by omega)
        refine ⟨k, s, v, o, c, mx, ah, ck, cs, cv, co, cc, cm, ca, rk, rs, rv, ro, old, cur', sy', b, l', g', p1, p2, p3, p4, p5, per', ?_, UPR_B hU (by omega) (by omega), fun _ => ⟨rfl, rfl⟩⟩
        rw [if_pos (by rw [h11]; rfl), info3 _ _ _ _ _ _ _ _ _ _ _ hcnt, cal1_e, jp_ite, hsy, cal6_e, jp_ite]
        rcases hr with ⟨e1, e2⟩ | ⟨e1, e2⟩
        · rw [if_pos e1, e2, if_neg (show ¬ (0 : Int32) ≤ -3 by decide), if_pos rfl]
          try dsimp only
          rw [hfin _ _ _ _ _ _ _ _ _ _ _ _ hU, nI_1, bnd_e]
        · rw [if_neg e1, if_pos e2, if_pos rfl]
          try dsimp only
          rw [hfin _ _ _ _ _ _ _ _ _ _ _ _ hU, nI_1, bnd_e]
      · rw [if_neg (by rw [l11, n_eq (by omega) (by omega)]; exact h11)]
        by_cases h12 : pkN (xs i) = 12
        · obtain ⟨r, ck', cs', cv', co', cc', cm', ca', old', cur', sy', l', g', per', q, hfl, hcnt, hr0, hU, -, -, -⟩ := flushU h (by omega) ca
          refine ⟨k, s, v, o, c, mx, ah, ck', cs', cv', co', cc', cm', ca', rk, rs, rv, ro, old', cur', sy', b, l', g', p1, p2, p3, p4, p5, per', ?_, UPR_B hU (by omega) (by omega), fun _ => ⟨rfl, rfl⟩⟩
          rw [if_pos (by rw [h12]; rfl), info3 _ _ _ _ _ _ _ _ _ _ _ hcnt, cal1_e, hfl, cal14_e, if_pos rfl]
          try dsimp only
          rw [hfin _ _ _ _ _ _ _ _ _ _ _ _ hU, nI_1, bnd_e]
        · rw [if_neg (by rw [show (12 : Int32) = nI 12 from rfl, n_eq (by omega) (by omega)]; exact h12)]
          by_cases h15 : 15 ≤ pkN (xs i)
          · refine ⟨k, s, v, o, c, mx, ah, ck, cs, cv, co, cc, cm, ca, rk, rs, rv, ro, old, cur, sy, b, l, g, p1, p2, p3, p4, p5, per, ?_, UPR_B h (by omega) (by omega), fun _ => ⟨rfl, rfl⟩⟩
            rw [if_pos (by rw [l15, n_le (by omega) (by omega)]; exact h15)]
            try dsimp only
            rw [hfin _ _ _ _ _ _ _ _ _ _ _ _ h, nI_1, bnd_e]
          · obtain ⟨k', s', v', rk', rs', rv', ro', hr, hU, -, -⟩ := refreshU h rk rs rv ro
            refine ⟨k', s', v', o, c, mx, ah, ck, cs, cv, co, cc, cm, ca, rk', rs', rv', ro', old, cur, sy, b, l, g, p1, p2, p3, p4, p5, per, ?_, UPR_B hU (by omega) (by omega), fun hh => absurd (by omega) hh⟩
            rw [if_neg (by rw [l15, n_le (by omega) (by omega)]; exact h15), hr, cal8_e, docs_ok, cal1_e, if_pos rfl]
            try dsimp only
            rw [hfin _ _ _ _ _ _ _ _ _ _ _ _ hU, nI_1, bnd_e]
/-! the operations of a row of cells -/
def cnw (xs : Nat → Int32) (Ln a : Nat) : Nat → Nat
  | 0 => 0
  | m + 1 => cnw xs Ln a m + (if a + m < Ln ∧ wrB (xs (a + m)) = true then 1 else 0)
def nth (xs : Nat → Int32) (Ln a : Nat) : Nat → Nat → Int32
  | 0, _ => 0
  | m + 1, j => if (a + m < Ln ∧ wrB (xs (a + m)) = true) ∧ cnw xs Ln a m = j then xs (a + m) else nth xs Ln a m j
theorem cnw_mono (xs : Nat → Int32) (Ln a : Nat) {m : Nat} : ∀ {m' : Nat}, m ≤ m' → cnw xs Ln a m ≤ cnw xs Ln a m' := by
  intro m'
  induction m' with
  | zero => intro h; obtain rfl : m = 0 := by omega
            exact Nat.le_refl _
  | succ m' ih =>
    intro h
    by_cases h2 : m = m' + 1
    · rw [h2]; exact Nat.le_refl _
    · exact Nat.le_trans (ih (by omega)) (Nat.le_add_right _ _)
theorem cnw_y {xs : Nat → Int32} {Ln a m : Nat} (h : a + m < Ln ∧ wrB (xs (a + m)) = true) : cnw xs Ln a (m + 1) = cnw xs Ln a m + 1 := by
  show cnw xs Ln a m + _ = _
  rw [if_pos h]
theorem cnw_n {xs : Nat → Int32} {Ln a m : Nat} (h : ¬ (a + m < Ln ∧ wrB (xs (a + m)) = true)) : cnw xs Ln a (m + 1) = cnw xs Ln a m := by
  show cnw xs Ln a m + _ = _
  rw [if_neg h]
  rfl
theorem cnw_le (xs : Nat → Int32) (Ln a : Nat) : ∀ (m : Nat), cnw xs Ln a m ≤ m := by
  intro m
  induction m with
  | zero => exact Nat.le_refl _
  | succ m ih =>
    by_cases h : a + m < Ln ∧ wrB (xs (a + m)) = true
    · rw [cnw_y h]; omega
    · rw [cnw_n h]; omega
theorem nth_at {xs : Nat → Int32} {Ln a m : Nat} (h : a + m < Ln ∧ wrB (xs (a + m)) = true) : ∀ {M : Nat}, m < M → nth xs Ln a M (cnw xs Ln a m) = xs (a + m) := by
  intro M
  induction M with
  | zero => intro h; omega
  | succ M ih =>
    intro hm
    by_cases e : m = M
    · subst e
      exact if_pos ⟨h, rfl⟩
    · have h1 := cnw_mono xs Ln a (show m + 1 ≤ M by omega)
      rw [cnw_y h] at h1
      have h2 : nth xs Ln a (M + 1) (cnw xs Ln a m) = nth xs Ln a M (cnw xs Ln a m) := if_neg (fun hh => by omega)
      rw [h2]
      exact ih (by omega)
/-- the loop of turns, to its end -/
theorem turns_loop {e xs : Nat → Int32} {P0 Ln a en n1 : Nat} (hLn : Ln < 100000) (hen2 : en < 100000) (he : ∀ m, a + m < Ln → a + m < en → wrB (xs (a + m)) = true → e (n1 + cnw xs Ln a m) = xs (a + m))
    (J276 J156 J107 : (Nat → Int32) → (Nat → Int32) → (Nat → Int32) → (Nat → Int64) → (Int32) → (Int32) → (Int64) → (Nat → Int32) → (Nat → Int32) → (Nat → Int32) → (Nat → Int64) → (Int32) → (Int32) → (Int64) → (Nat → Int32) → (Nat → Int32) → (Nat → Int32) → (Nat → Int64) → (Int32) → (Int32) → (Int32) → (Nat → Int32) → (Nat → Int32) → (Nat → Int32) → (Int32) → (Int32) → (Int32) → (Int32) → (Int64) → (Int32) → Option ((Int32) × (Nat → Int32) × (Nat → Int32) × (Nat → Int32) × (Nat → Int64) × (Int32) × (Int32) × (Int64) × (Nat → Int32) × (Nat → Int32) × (Nat → Int32) × (Nat → Int64) × (Int32) × (Int32) × (Int64) × (Nat → Int32) × (Nat → Int32) × (Nat → Int32) × (Nat → Int64) × (Int32) × (Int32) × (Int32) × (Nat → Int32) × (Nat → Int32) × (Nat → Int32) × (Int32) × (Int32) × (Int32) × (Int32) × (Int64) × (Int32))) : ∀ (d m : Nat), m + d = en - a → a + m ≤ en → ∀ (f : Nat), d < f → ∀ (k : Nat → Int32) (s : Nat → Int32) (v : Nat → Int32) (o : Nat → Int64) (c : Int32) (mx : Int32) (ah : Int64) (ck : Nat → Int32) (cs : Nat → Int32) (cv : Nat → Int32) (co : Nat → Int64) (cc : Int32) (cm : Int32) (ca : Int64) (rk : Nat → Int32) (rs : Nat → Int32) (rv : Nat → Int32) (ro : Nat → Int64) (old : Int32) (cur : Int32) (sy : Int32) (b : Nat → Int32) (l : Nat → Int32) (g : Nat → Int32) (p1 : Int32) (p2 : Int32) (p3 : Int32) (p4 : Int32) (p5 : Int64) (per : Int32) (B : Nat), UPR e (n1 + cnw xs Ln a m) B P0 k s v o c mx ah ck cs cv co cc cm old cur sy b l g per → B + 2 * d ≤ 1000 →
    ∃ (k' : Nat → Int32) (s' : Nat → Int32) (v' : Nat → Int32) (o' : Nat → Int64) (c' : Int32) (mx' : Int32) (ah' : Int64) (ck' : Nat → Int32) (cs' : Nat → Int32) (cv' : Nat → Int32) (co' : Nat → Int64) (cc' : Int32) (cm' : Int32) (ca' : Int64) (rk' : Nat → Int32) (rs' : Nat → Int32) (rv' : Nat → Int32) (ro' : Nat → Int64) (old' : Int32) (cur' : Int32) (sy' : Int32) (b' : Nat → Int32) (l' : Nat → Int32) (g' : Nat → Int32) (p1' : Int32) (p2' : Int32) (p3' : Int32) (p4' : Int32) (p5' : Int64) (per' : Int32), lo31 (sL_turns_3 (nI en) J276 Ln xs 0 J156 J107) f (nI (a + m)) k s v o c mx ah ck cs cv co cc cm ca rk rs rv ro old cur sy b l g p1 p2 p3 p4 p5 per = J276 k' s' v' o' c' mx' ah' ck' cs' cv' co' cc' cm' ca' rk' rs' rv' ro' old' cur' sy' b' l' g' p1' p2' p3' p4' p5' per' ∧ UPR e (n1 + cnw xs Ln a (en - a)) (B + 2 * d) P0 k' s' v' o' c' mx' ah' ck' cs' cv' co' cc' cm' old' cur' sy' b' l' g' per' ∧ ((∀ j, m ≤ j → j < en - a → a + j < Ln → ¬ (pkN (xs (a + j)) = 13 ∨ pkN (xs (a + j)) = 14)) → rk' = rk ∧ ro' = ro) := by
  intro d
  induction d with
  | zero =>
    intro m hm ha f hf k s v o c mx ah ck cs cv co cc cm ca rk rs rv ro old cur sy b l g p1 p2 p3 p4 p5 per B h hB
    obtain ⟨f, rfl⟩ : ∃ z, f = z + 1 := ⟨f - 1, by omega⟩
    refine ⟨k, s, v, o, c, mx, ah, ck, cs, cv, co, cc, cm, ca, rk, rs, rv, ro, old, cur, sy, b, l, g, p1, p2, p3, p4, p5, per, ?_, by rw [show en - a = m by omega]; exact h, fun _ => ⟨rfl, rfl⟩⟩
    rw [lo31_s, sL_turns_3, if_pos (by rw [n_le (by omega) (by omega)]; omega)]
  | succ d ih =>
    intro m hm ha f hf k s v o c mx ah ck cs cv co cc cm ca rk rs rv ro old cur sy b l g p1 p2 p3 p4 p5 per B h hB
    obtain ⟨f, rfl⟩ : ∃ z, f = z + 1 := ⟨f - 1, by omega⟩
    by_cases hl : a + m < Ln
    · obtain ⟨k', s', v', o', c', mx', ah', ck', cs', cv', co', cc', cm', ca', rk', rs', rv', ro', old', cur', sy', b', l', g', p1', p2', p3', p4', p5', per', h1, h2, h3⟩ := turnU h (by omega) hl hLn (show a + m < en by omega) hen2 (fun hw => he m hl (by omega) hw) J276 J156 J107 f
      have h4 : UPR e (n1 + cnw xs Ln a (m + 1)) (B + 2) P0 k' s' v' o' c' mx' ah' ck' cs' cv' co' cc' cm' old' cur' sy' b' l' g' per' := by
        by_cases hw : wrB (xs (a + m)) = true
        · rw [cnw_y ⟨hl, hw⟩, ← Nat.add_assoc]
          rw [if_pos hw] at h2
          exact h2
        · rw [cnw_n (fun h => hw h.2)]
          rw [if_neg hw] at h2
          exact h2
      obtain ⟨k2, s2, v2, o2, c2, mx2, ah2, ck2, cs2, cv2, co2, cc2, cm2, ca2, rk2, rs2, rv2, ro2, old2, cur2, sy2, b2, l2, g2, p12, p22, p32, p42, p52, per2, hh1, hh2, hh3⟩ := ih (m + 1) (by omega) (by omega) f (by omega) k' s' v' o' c' mx' ah' ck' cs' cv' co' cc' cm' ca' rk' rs' rv' ro' old' cur' sy' b' l' g' p1' p2' p3' p4' p5' per' (B + 2) h4 (by omega)
      refine ⟨k2, s2, v2, o2, c2, mx2, ah2, ck2, cs2, cv2, co2, cc2, cm2, ca2, rk2, rs2, rv2, ro2, old2, cur2, sy2, b2, l2, g2, p12, p22, p32, p42, p52, per2, ?_, UPR_B hh2 (by omega) (by omega), fun hh => ?_⟩
      · rw [h1]; exact hh1
      · obtain ⟨x1, x2⟩ := hh3 (fun j j1 j2 j3 => hh j (by omega) j2 j3)
        obtain ⟨y1, y2⟩ := h3 (hh m (Nat.le_refl _) (by omega) hl)
        exact ⟨x1.trans y1, x2.trans y2⟩
    · have hz : ∀ j, cnw xs Ln a (m + j) = cnw xs Ln a m := by
        intro j
        induction j with
        | zero => rfl
        | succ j ihj => rw [← Nat.add_assoc, cnw_n (fun h => by omega), ihj]
      refine ⟨k, s, v, o, c, mx, ah, ck, cs, cv, co, cc, cm, ca, rk, rs, rv, ro, old, cur, sy, b, l, g, p1, p2, p3, p4, p5, per, ?_, ?_, fun _ => ⟨rfl, rfl⟩⟩
      · rw [lo31_s, sL_turns_3, if_neg (by rw [n_le (by omega) (by omega)]; omega), show Int32.ofNat Ln = nI Ln from rfl, if_pos (by rw [n_le (by omega) (by omega)]; omega)]
      · rw [show en - a = m + (d + 1) by omega, hz]
        exact UPR_B h (by omega) (by omega)
theorem turns_ok {e xs : Nat → Int32} {Ln a en n1 B P0 : Nat} (hLn : Ln < 100000) (hen2 : en < 100000) (ha : a ≤ en) (hd : en - a < 900) (he : ∀ m, a + m < Ln → a + m < en → wrB (xs (a + m)) = true → e (n1 + cnw xs Ln a m) = xs (a + m)) {k : Nat → Int32} {s : Nat → Int32} {v : Nat → Int32} {o : Nat → Int64} {c : Int32} {mx : Int32} {ah : Int64} {ck : Nat → Int32} {cs : Nat → Int32} {cv : Nat → Int32} {co : Nat → Int64} {cc : Int32} {cm : Int32} {ca : Int64} {rk : Nat → Int32} {rs : Nat → Int32} {rv : Nat → Int32} {ro : Nat → Int64} {old : Int32} {cur : Int32} {sy : Int32} {b : Nat → Int32} {l : Nat → Int32} {g : Nat → Int32} {p1 : Int32} {p2 : Int32} {p3 : Int32} {p4 : Int32} {p5 : Int64} {per : Int32} (h : UPR e n1 B P0 k s v o c mx ah ck cs cv co cc cm old cur sy b l g per) (hB : B + 2 * (en - a) ≤ 1000) :
    ∃ (k' : Nat → Int32) (s' : Nat → Int32) (v' : Nat → Int32) (o' : Nat → Int64) (c' : Int32) (mx' : Int32) (ah' : Int64) (ck' : Nat → Int32) (cs' : Nat → Int32) (cv' : Nat → Int32) (co' : Nat → Int64) (cc' : Int32) (cm' : Int32) (ca' : Int64) (rk' : Nat → Int32) (rs' : Nat → Int32) (rv' : Nat → Int32) (ro' : Nat → Int64) (old' : Int32) (cur' : Int32) (sy' : Int32) (b' : Nat → Int32) (l' : Nat → Int32) (g' : Nat → Int32) (p1' : Int32) (p2' : Int32) (p3' : Int32) (p4' : Int32) (p5' : Int64) (per' : Int32), fL_turns xs Ln k s v o c mx ah ck cs cv co cc cm ca rk rs rv ro old cur sy b l g p1 p2 p3 p4 p5 per 0 (nI a) (nI en) = some (1, k', s', v', o', c', mx', ah', ck', cs', cv', co', cc', cm', ca', rk', rs', rv', ro', old', cur', sy', b', l', g', p1', p2', p3', p4', p5', per') ∧ UPR e (n1 + cnw xs Ln a (en - a)) (B + 2 * (en - a)) P0 k' s' v' o' c' mx' ah' ck' cs' cv' co' cc' cm' old' cur' sy' b' l' g' per' ∧ ((∀ j, j < en - a → a + j < Ln → ¬ (pkN (xs (a + j)) = 13 ∨ pkN (xs (a + j)) = 14)) → rk' = rk ∧ ro' = ro) := by
  rw [fL_turns, jp_e, jp_e, jp_e]
  obtain ⟨k', s', v', o', c', mx', ah', ck', cs', cv', co', cc', cm', ca', rk', rs', rv', ro', old', cur', sy', b', l', g', p1', p2', p3', p4', p5', per', h1, h2, h3⟩ := turns_loop hLn hen2 he (fun w0 w1 w2 w3 w4 w5 w6 w7 w8 w9 w10 w11 w12 w13 w14 w15 w16 w17 w18 w19 w20 w21 w22 w23 w24 w25 w26 w27 w28 w29 => some (1, w0, w1, w2, w3, w4, w5, w6, w7, w8, w9, w10, w11, w12, w13, w14, w15, w16, w17, w18, w19, w20, w21, w22, w23, w24, w25, w26, w27, w28, w29)) (fun w0 w1 w2 w3 w4 w5 w6 w7 w8 w9 w10 w11 w12 w13 w14 w15 w16 w17 w18 w19 w20 w21 w22 w23 w24 w25 w26 w27 w28 w29 => some (0, w0, w1, w2, w3, w4, w5, w6, w7, w8, w9, w10, w11, w12, w13, w14, w15, w16, w17, w18, w19, w20, w21, w22, w23, w24, w25, w26, w27, w28, w29)) (fun w0 w1 w2 w3 w4 w5 w6 w7 w8 w9 w10 w11 w12 w13 w14 w15 w16 w17 w18 w19 w20 w21 w22 w23 w24 w25 w26 w27 w28 w29 => some (0, w0, w1, w2, w3, w4, w5, w6, w7, w8, w9, w10, w11, w12, w13, w14, w15, w16, w17, w18, w19, w20, w21, w22, w23, w24, w25, w26, w27, w28, w29)) (en - a) 0 (by omega) (by omega) 1000 (by omega) k s v o c mx ah ck cs cv co cc cm ca rk rs rv ro old cur sy b l g p1 p2 p3 p4 p5 per B h hB
  exact ⟨k', s', v', o', c', mx', ah', ck', cs', cv', co', cc', cm', ca', rk', rs', rv', ro', old', cur', sy', b', l', g', p1', p2', p3', p4', p5', per', h1, h2, fun hh => h3 (fun j _ j2 j3 => hh j j2 j3)⟩
