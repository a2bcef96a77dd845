/-! a shard that is up: its state after a row of operations, and each of its calls -/
theorem markU {n : Nat} (hn : n < 900000000) : fX1_mark (mI n) (mI n) 0 (nI n) = some (mI (n + 1), mI (n + 1), 0) := by
  have e1 : nI n - nI n = 0 := by rw [n_sub (Nat.le_refl _), Nat.sub_self]; rfl
  have hs1 : ∀ (J : Int32 → Int64 → Option (Int32 × Int32 × Int64)), lo3 (sX1_mark_33 J) 1000 0 (mI n) 1 = J (mI (n + 1)) 0 := by
    intro J
    rw [show (1000 : Nat) = 998 + 1 + 1 from rfl, lo3_s, sX1_mark_33, if_neg (by decide)]
    simp only [bnd_e]
    rw [if_neg (by decide), m_succ, ← m_of n, show ((Int64.toUInt64 1 >>> ((Int32.toInt64 1).toUInt64 &&& Int64.toUInt64 63)).toInt64) = 0 from by decide, lo3_s, sX1_mark_33, if_neg (by decide)]
    simp only [bnd_e]
    rw [if_pos (by decide)]
  rw [fX1_mark, bnd_e, bnd_e, m_sub, e1, jp_e, if_neg (by decide), if_neg (by decide), bnd_e, bnd_e]
  dsimp only
  rw [jp_e, show (0 : Int64) ||| (1 <<< (Int32.toInt64 0 &&& 63)) = 1 from by decide, hs1, bnd_e, if_pos (by rw [mn_lt (by omega) (by omega)]; omega), m_of]
theorem processU {n i : Nat} {k s v : Nat → Int32} {o : Nat → Int64} {kind ver : Int32} {src : Int64} (hn : n < 900000000) (hi : i < 16) (hk : ¬ kind = 3) (hs : s i < nI n) :
    fX1_process k s v o (mI n) (mI n) 0 kind (nI n) (nI i) ver src = some (1, upd k i kind, upd s i (nI n), upd v i ver, vp_updL o i (if kind = 1 then src else 0), mI (n + 1), mI (n + 1), 0) := by
  rw [fX1_process, markU hn, cal3_e, fX0_learn, jp_e, if_neg hk, isId_n hi, cal1_e, if_neg (by decide), rdI_n hi (by omega), if_pos hs, wrI_n hi (by omega), wrI_n hi (by omega), wrI_n hi (by omega), jp_ite, wrJ_n hi (by omega), cal5_e]
  rfl
/-- after the operations e 0 .. e (n - 1) -/
def UPR (e : Nat → Int32) (n B P0 : Nat) (k s v : Nat → Int32) (o : Nat → Int64) (c mx : Int32) (ah : Int64) (ck cs cv : Nat → Int32) (co : Nat → Int64) (cc cm : Int32) (old cur sy : Int32) (b l g : Nat → Int32) (per : Int32) : Prop :=
  ∃ (V : Nat → Int32) (n0 p a q : Nat) (S : Nat → Nat),
   (c = mI n ∧ mx = mI n ∧ ah = 0 ∧ DR e V n k s v o) ∧ (DR e V n0 ck cs cv co ∧ cc = mI n0 ∧ cm = mI n0) ∧ (VB V n ∧ n ≤ B ∧ B ≤ 1000) ∧
   (old = nI a ∧ cur = nI q ∧ q ≤ B ∧ LG b l e V a q S ∧ S a = n0 ∧ S (q + 1) = n ∧ GR g a q n) ∧
   (S q ≤ p ∧ p ≤ n ∧ sy = nI (PS e p - PS e (S q)) ∧ per = mI p ∧ P0 ≤ p)
theorem S_le {b l e V : Nat → Int32} {a q : Nat} {S : Nat → Nat} (h : LG b l e V a q S) : ∀ (d g : Nat), a ≤ g → g + d ≤ q + 1 → S g ≤ S (g + d) := by
  intro d
  induction d with
  | zero => intro g _ _; exact Nat.le_refl _
  | succ d ih => intro g h1 h2; exact Nat.le_trans (ih g h1 (by omega)) (h.2.2 (g + d) (by omega) (by omega)).1
theorem S_le2 {b l e V : Nat → Int32} {a q g r : Nat} {S : Nat → Nat} (h : LG b l e V a q S) (h1 : a ≤ g) (h2 : g ≤ r) (h3 : r ≤ q + 1) : S g ≤ S r := by
  have := S_le h (r - g) g h1 (by omega)
  rw [show g + (r - g) = r by omega] at this
  exact this
theorem and_65535 {b : Nat} (h : b < 65536) : nI b &&& 65535 = nI b := by
  rw [show (65535 : Int32) = nI (2 ^ 16 - 1) from rfl, ← Int32.toBitVec_inj, Int32.toBitVec_and]
  apply BitVec.eq_of_toNat_eq
  rw [BitVec.toNat_and]
  have e1 : (nI b).toBitVec.toNat = b := by show b % 2 ^ 32 = b; omega
  have e2 : (nI (2 ^ 16 - 1)).toBitVec.toNat = 2 ^ 16 - 1 := rfl
  rw [e1, e2, Nat.and_two_pow_sub_one_eq_mod]
  omega
section UPS
variable {e : Nat → Int32} {n B P0 : Nat} {k s v : Nat → Int32} {o : Nat → Int64} {c mx : Int32} {ah : Int64} {ck cs cv : Nat → Int32} {co : Nat → Int64} {cc cm : Int32} {old cur sy : Int32} {b l g : Nat → Int32} {per : Int32}
/-- how many bytes the current generation has -/
theorem lenU (h : UPR e n B P0 k s v o c mx ah ck cs cv co cc cm old cur sy b l g per) : ∃ q L, cur = nI q ∧ q < 2000 ∧ L ≤ 240 ∧ l (q % 4) = nI L := by
  obtain ⟨V, n0, p, a, q, S, -, -, hB, ⟨-, h1, h2, h3, -, -, -⟩, -⟩ := h
  obtain ⟨c1, c2, c3, c4⟩ := h3.2.2 q h3.1 (Nat.le_refl _)
  exact ⟨q, _, h1, by omega, c3, c2⟩
theorem writeU (h : UPR e n B P0 k s v o c mx ah ck cs cv co cc cm old cur sy b l g per) (hB : B < 1000) {ce : Int32} (hc : e n = ce) {q L : Nat} (hq : cur = nI q) (hq2 : q < 2000) (hL : l (q % 4) = nI L) (hL2 : L ≤ 240) (p1 p2 p3 p4 : Int32) (p5 : Int64) :
    if L + rl ce ≤ 240 then ∃ (k' s' v' : Nat → Int32) (o' : Nat → Int64) (c' mx' : Int32) (ah' : Int64) (b' l' g' : Nat → Int32) (r1 r2 r3 r4 : Int32) (r5 : Int64),
      fX5_write k s v o c mx ah cur b l g p1 p2 p3 p4 p5 0 (kdC ce) (idI ce) (srcC ce) (-1) = some (nI n, k', s', v', o', c', mx', ah', b', l', g', r1, r2, r3, r4, r5) ∧
      UPR e (n + 1) (B + 1) P0 k' s' v' o' c' mx' ah' ck cs cv co cc cm old cur sy b' l' g' per ∧ v' (idN ce) = v (idN ce) + 1 ∧ s' (idN ce) = nI n
    else fX5_write k s v o c mx ah cur b l g p1 p2 p3 p4 p5 0 (kdC ce) (idI ce) (srcC ce) (-1) = some (-3, k, s, v, o, c, mx, ah, b, l, g, p1, p2, p3, p4, p5) := by
  obtain ⟨V, n0, p, a, q', S, ⟨rfl, rfl, rfl, hD⟩, hC, ⟨hV, hnB, hB2⟩, ⟨rfl, hcur, hqB, hLG, hSa, hSq, hG⟩, hS⟩ := h
  obtain rfl : q' = q := by
    have : nI q = nI q' := by rw [← hq, hcur]
    rw [n_eq (by omega) (by omega)] at this
    exact this.symm
  subst hq
  obtain ⟨c1, c2, c3, c4⟩ := hLG.2.2 q' hLG.1 (Nat.le_refl _)
  rw [hSq] at c1 c2 c3 c4
  have hLe : L = PS e n - PS e (S q') := by
    have : nI L = nI (PS e n - PS e (S q')) := by rw [← hL, c2]
    rw [n_eq (by omega) (by omega)] at this
    exact this
  subst hc
  obtain ⟨hid, hid8⟩ := id_C (e n)
  obtain ⟨bb, hbb, hve⟩ := DR_ver hD hV (show idN (e n) < 16 by omega)
  have hsz := rl_le (e n)
  have hrl : rl (e n) = szC (e n) + 5 := rfl
  have hX : ∀ (A C : Option (Int32 × (Nat → Int32) × (Nat → Int32) × (Nat → Int32) × (Nat → Int64) × Int32 × Int32 × Int64 × (Nat → Int32) × (Nat → Int32) × (Nat → Int32) × Int32 × Int32 × Int32 × Int32 × Int64)), (if kdC (e n) = 1 then A else if kdC (e n) = 2 then A else C) = A := by
    intro A C
    rcases kd_C (e n) with h | h
    · rw [if_pos h]
    · rw [if_neg (by rw [h]; decide), if_pos h]
  have hroom : fX2_room (nI q') l = some (nI (240 - L)) := by
    rw [fX2_room, lengthOf_ok (by omega) l hL, cal1_e, bnd_e, show (240 : Int32) - nI L = nI (240 - L) from by rw [l240, n_sub hL2]]
  have hcf : ((-1 : Int32) = -1 ∨ ((-1 : Int32) = -2 ∧ ¬ k (idN (e n)) = 1) ∨ (0 ≤ (-1 : Int32) ∧ k (idN (e n)) = 1 ∧ s (idN (e n)) = -1)) := Or.inl rfl
  have hver : v (idN (e n)) + 1 &&& 65535 = nI (bb + 1) := by rw [hve, l1, n_add, and_65535 (by omega)]
  by_cases hfit : L + rl (e n) ≤ 240
  · rw [if_pos hfit]
    have hw : fX5_write k s v o (mI n) (mI n) 0 (nI q') b l g p1 p2 p3 p4 p5 0 (kdC (e n)) (idI (e n)) (srcC (e n)) (-1) = some (nI n, upd k (idN (e n)) (kdC (e n)), upd s (idN (e n)) (nI n), upd v (idN (e n)) (nI (bb + 1)), vp_updL o (idN (e n)) (ovC (e n)), mI (n + 1), mI (n + 1), 0,
        recd b (240 * (q' % 4) + L) (kdC (e n)) (szC (e n)) (nI n) (idI (e n)) (nI (bb + 1)) (srcC (e n)), upd l (q' % 4) (nI (L + szC (e n) + 5)), upd g (q' % 4) (if g (q' % 4) < nI n then nI n else g (q' % 4)), kdC (e n), nI n, idI (e n), nI (bb + 1), srcC (e n)) := by
      rw [fX5_write, if_pos rfl]
      simp only [jp_e]
      rw [hX, hid, isId_n (by omega), cal1_e, if_neg (by decide), if_pos (by decide), holds_ok (by omega) (by decide), cal1_e, if_pos hcf, if_neg (by decide), m_succ, bnd_e, hroom, cal1_e, sizeX_ok (kz_C _), cal1_e, if_neg (by rw [n_lt (by omega) (by omega)]; omega), bnd_e, show mI n + 64 = nI (n + 63) from m_add n 63, if_pos (by rw [n_le (by omega) (by omega)]; omega), versionOf_ok v (by omega), cal1_e, bnd_e, bnd_e, hver, fX3_become, cal5_e, fX5_append, appendX_ok (by omega) (kz_C _) _ _ _ _ _ _ _ hL (by omega), cal3_e, processU (by omega) (by omega) (kd_3 _) (DR_seq hD (by omega) (by omega)), cal8_e, zok_1, cal11_e]
      rfl
    refine ⟨_, _, _, _, _, _, _, _, _, _, _, _, _, _, _, hw, ⟨upd V n (nI (bb + 1)), n0, p, a, q', fun x => if x = q' + 1 then n + 1 else S x, ⟨rfl, rfl, rfl, DR_step hD _⟩, ⟨?_, hC.2⟩, ⟨VB_step hV hbb, by omega, by omega⟩, ⟨rfl, rfl, by omega, ?_, ?_, ?_, GR_note hG hLG.2.1 (by omega) hLG.1⟩, ?_⟩, ?_, upd_s _ _ _⟩
    · have hn0 : n0 ≤ n := by rw [← hSa, ← hSq]; exact S_le2 hLG (Nat.le_refl _) (by have := hLG.1; omega) (Nat.le_refl _)
      exact DR_congr (fun j hj => rfl) (fun j hj => (upd_o _ _ (by omega)).symm) hC.1
    · subst hLe; exact LG_append hLG hSq (by omega) _
    · dsimp only; rw [if_neg (by have := hLG.1; omega)]; exact hSa
    · exact if_pos rfl
    · dsimp only
      rw [if_neg (by omega)]
      exact ⟨hS.1, by have := hS.2.1; omega, hS.2.2⟩
    · rw [upd_s, hve, l1, n_add]
  · rw [if_neg hfit]
    rw [fX5_write, if_pos rfl]
    simp only [jp_e]
    rw [hX, hid, isId_n (by omega), cal1_e, if_neg (by decide), if_pos (by decide), holds_ok (by omega) (by decide), cal1_e, if_pos hcf, if_neg (by decide), m_succ, bnd_e, hroom, cal1_e, sizeX_ok (kz_C _), cal1_e, if_pos (by rw [n_lt (by omega) (by omega)]; omega)]
theorem countU {g : Nat → Int32} {a q n : Nat} (hq : q < 2000) (hn : n < 100000) (haq : a ≤ q) (hG : GR g a q n) : ∀ (m i : Nat), a + i + m = q + 1 → ∀ (f : Nat), m < f → lo2 (sX2_countUpTo_7 (nI q) (fun y => some y) g (mI n)) f (nI i) (nI (a + i)) = some (nI (q + 1 - a)) := by
  intro m
  induction m with
  | zero =>
    intro i hi f hf
    obtain ⟨f, rfl⟩ : ∃ z, f = z + 1 := ⟨f - 1, by omega⟩
    rw [lo2_s, sX2_countUpTo_7, if_pos (by rw [n_lt (by omega) (by omega)]; omega)]
    rw [show q + 1 - a = i by omega]
  | succ m ih =>
    intro i hi f hf
    obtain ⟨f, rfl⟩ : ∃ z, f = z + 1 := ⟨f - 1, by omega⟩
    obtain ⟨w, hw, hg⟩ := hG (a + i) (by omega) (by omega)
    rw [lo2_s, sX2_countUpTo_7, if_neg (by rw [n_lt (by omega) (by omega)]; omega), rowOf_ok _ (by omega), cal1_e, rdI_n (by omega) (by omega), hg, if_pos (by rw [mm_le (by omega) (by omega)]; exact hw), nI_1, bnd_e, nI_1, bnd_e]
    exact ih (i + 1) (by omega) f (by omega)
/-- a generation that begins -/
theorem LG_begin {b l e V : Nat → Int32} {a q n : Nat} {S : Nat → Nat} (h : LG b l e V a q S) (hS : S (q + 1) = n) (a' : Nat) (h1 : a ≤ a') (h2 : a' ≤ q + 1) (h3 : q + 1 ≤ a' + 3) : LG b (upd l ((q + 1) % 4) 0) e V a' (q + 1) (fun x => if x = q + 2 then n else S x) := by
  refine ⟨h2, h3, fun g hg1 hg2 => ?_⟩
  by_cases eg : g = q + 1
  · subst eg
    have e1 : (fun x => if x = q + 2 then n else S x) (q + 1 + 1) = n := if_pos rfl
    have e2 : (fun x => if x = q + 2 then n else S x) (q + 1) = n := (if_neg (by omega)).trans hS
    rw [e1, e2]
    refine ⟨Nat.le_refl _, by rw [upd_s, Nat.sub_self]; rfl, by omega, fun j a b => by omega⟩
  · have e1 : (fun x => if x = q + 2 then n else S x) (g + 1) = S (g + 1) := if_neg (by omega)
    have e2 : (fun x => if x = q + 2 then n else S x) g = S g := if_neg (by omega)
    have hne : g % 4 ≠ (q + 1) % 4 := by omega
    rw [e1, e2]
    obtain ⟨c1, c2, c3, c4⟩ := h.2.2 g (by omega) (by omega)
    exact ⟨c1, by rw [upd_o _ _ hne]; exact c2, c3, c4⟩
theorem GR_begin {g : Nat → Int32} {a q n a' : Nat} (h : GR g a q n) (h1 : a ≤ a') (h3 : q + 1 ≤ a' + 3) : GR (upd g ((q + 1) % 4) (-1)) a' (q + 1) n := by
  intro i i1 i2
  by_cases e : i = q + 1
  · subst e; exact ⟨0, by omega, upd_s _ _ _⟩
  · rw [upd_o _ _ (by omega)]; exact h i (by omega) (by omega)
theorem flushU (h : UPR e n B P0 k s v o c mx ah ck cs cv co cc cm old cur sy b l g per) (hB : B < 1000) (ca : Int64) :
    ∃ (r : Int32) (ck' cs' cv' : Nat → Int32) (co' : Nat → Int64) (cc' cm' : Int32) (ca' : Int64) (old' cur' sy' : Int32) (l' g' : Nat → Int32) (per' : Int32) (q : Nat),
      fX5_flush k s v o c mx ck cs cv co cc cm ca old cur sy l g per 0 = some (r, ck', cs', cv', co', cc', cm', ca', old', cur', sy', l', g', per') ∧ fX2_count old cur = some r ∧ 0 ≤ r ∧
      UPR e n (B + 1) P0 k s v o c mx ah ck' cs' cv' co' cc' cm' old' cur' sy' b l' g' per' ∧ cur' = nI q ∧ q < 2000 ∧ l' (q % 4) = nI 0 := by
  obtain ⟨V, n0, p, a, q, S, ⟨rfl, rfl, rfl, hD⟩, hC, ⟨hV, hnB, hB2⟩, ⟨rfl, rfl, hqB, hLG, hSa, hSq, hG⟩, hS⟩ := h
  obtain ⟨c1, c2, c3, c4⟩ := hLG.2.2 q hLG.1 (Nat.le_refl _)
  rw [hSq] at c1 c2 c3 c4
  have haq := hLG.1
  have hcnt : fX2_count (nI a) (nI q) = some (nI (q + 1 - a)) := by
    rw [fX2_count, n_sub haq, bnd_e, l1, n_add, bnd_e, show q - a + 1 = q + 1 - a by omega]
  have hup : fX2_countUpTo (nI a) (nI q) g (mI n) = some (nI (q + 1 - a)) := by
    rw [fX2_countUpTo, jp_e]
    exact countU (by omega) (by omega) haq hG (q + 1 - a) 0 (by omega) 1000 (by have := hLG.2.1; omega)
  have hsync : fX2_syncCurrent (nI q) sy l = some (nI (PS e n - PS e (S q)) - sy, nI (PS e n - PS e (S q))) := by
    rw [fX2_syncCurrent, fX2_unsynced, lengthOf_ok (by omega) l c2, cal1_e, bnd_e, cal1_e, cal1_e]
  refine ⟨nI (q + 1 - a), cpf ck k 0 16, cpf cs s 0 16, cpf cv v 0 16, cpf co o 0 16, mI n, mI n, 0, nI (q + 1), nI (q + 1), 0, upd l ((q + 1) % 4) 0, upd g ((q + 1) % 4) (-1), mI n, q + 1, ?_, hcnt, by rw [l0, n_le (by omega) (by omega)]; omega, ⟨V, n, n, q + 1, q + 1, fun x => if x = q + 2 then n else S x, ⟨rfl, rfl, rfl, hD⟩, ⟨DR_cpf hD ck cs cv co, rfl, rfl⟩, ⟨hV, by omega, by omega⟩, ⟨rfl, rfl, by omega, LG_begin hLG hSq (q + 1) (by omega) (Nat.le_refl _) (by omega), (if_neg (by omega)).trans hSq, if_pos rfl, GR_begin hG (by omega) (by omega)⟩, ?_⟩, rfl, by omega, upd_s _ _ _⟩
  · rw [fX5_flush, if_pos rfl, hup, cal1_e, hcnt, cal1_e, n_sub (Nat.le_refl _), bnd_e, Nat.sub_self, if_pos (by decide), hsync, cal2_e, startFrom_ok, cal7_e, n_add, bnd_e, beginX_ok (by omega), cal4_e, show a + (q + 1 - a) = q + 1 by omega]
  · dsimp only
    rw [if_neg (by omega), hSq, Nat.sub_self]
    exact ⟨Nat.le_refl _, Nat.le_refl _, rfl, rfl, Nat.le_trans hS.2.2.2.2 hS.2.1⟩
/-- an operation, after a flush if there is no place -/
theorem applyU (h : UPR e n B P0 k s v o c mx ah ck cs cv co cc cm old cur sy b l g per) (hB : B + 2 ≤ 1000) {ce : Int32} (hc : e n = ce) (ca : Int64) (p1 p2 p3 p4 : Int32) (p5 : Int64) :
    ∃ (k' s' v' : Nat → Int32) (o' : Nat → Int64) (c' mx' : Int32) (ah' : Int64) (ck' cs' cv' : Nat → Int32) (co' : Nat → Int64) (cc' cm' : Int32) (ca' : Int64) (old' cur' sy' : Int32) (b' l' g' : Nat → Int32) (r1 r2 r3 r4 : Int32) (r5 : Int64) (per' : Int32),
      fL_apply k s v o c mx ah ck cs cv co cc cm ca old cur sy b l g p1 p2 p3 p4 p5 per 0 ce = some (nI n, k', s', v', o', c', mx', ah', ck', cs', cv', co', cc', cm', ca', old', cur', sy', b', l', g', r1, r2, r3, r4, r5, per') ∧
      UPR e (n + 1) (B + 2) P0 k' s' v' o' c' mx' ah' ck' cs' cv' co' cc' cm' old' cur' sy' b' l' g' per' ∧ v' (idN ce) = v (idN ce) + 1 ∧ s' (idN ce) = nI n := by
  have hn3 : ∀ m : Nat, m < 2000 → ¬ nI m = -3 := by
    intro m hm h
    have h2 := congrArg Int32.toInt h
    rw [nI_toInt (by omega), show (-3 : Int32).toInt = -3 from rfl] at h2
    omega
  have hnB : n ≤ B := by obtain ⟨V, n0, p, a, q, S, -, -, hB, -, -⟩ := h; exact hB.2.1
  obtain ⟨q, L, hq, hq2, hL2, hL⟩ := lenU h
  have hw := writeU h (by omega) hc hq hq2 hL hL2 p1 p2 p3 p4 p5
  have hkd : ∀ (K : Int32 → Option ((Int32) × (Nat → Int32) × (Nat → Int32) × (Nat → Int32) × (Nat → Int64) × (Int32) × (Int32) × (Int64) × (Nat → Int32) × (Nat → Int32) × (Nat → Int32) × (Nat → Int64) × (Int32) × (Int32) × (Int64) × (Int32) × (Int32) × (Int32) × (Nat → Int32) × (Nat → Int32) × (Nat → Int32) × (Int32) × (Int32) × (Int32) × (Int32) × (Int64) × (Int32))), jp K (fun J => if 8 ≤ ce &&& 15 then J 2 else J 1) = K (kdC ce) := by
    intro K
    rw [jp_ite]; rfl
  by_cases hf : L + rl ce ≤ 240
  · rw [if_pos hf] at hw
    obtain ⟨k', s', v', o', c', mx', ah', b', l', g', r1, r2, r3, r4, r5, hw, hU, hv, hs⟩ := hw
    refine ⟨k', s', v', o', c', mx', ah', ck, cs, cv, co, cc, cm, ca, old, cur, sy, b', l', g', r1, r2, r3, r4, r5, per, ?_, ?_, hv, hs⟩
    · rw [fL_apply, bnd_e, hkd, bnd_e, bnd_e, source_ok, cal1_e]
      rw [show ce >>> (4 &&& 31) &&& 7 = idI ce from rfl, hw, cal16_e, if_neg (hn3 n (by omega))]
    · obtain ⟨V, n0, p, a, q, S, h1, h2, h3, h4, h5⟩ := hU
      exact ⟨V, n0, p, a, q, S, h1, h2, ⟨h3.1, by omega, by omega⟩, ⟨h4.1, h4.2.1, by omega, h4.2.2.2⟩, h5⟩
  · rw [if_neg hf] at hw
    obtain ⟨r, ck', cs', cv', co', cc', cm', ca', old', cur', sy', l', g', per', q', hfl, hcnt, hr0, hU, hq', hq2', hL'⟩ := flushU h (by omega) ca
    have hw2 := writeU hU (by omega) hc hq' hq2' hL' (by omega) p1 p2 p3 p4 p5
    rw [if_pos (by have := rl_le ce; omega)] at hw2
    obtain ⟨k', s', v', o', c', mx', ah', b', l'', g'', r1, r2, r3, r4, r5, hw2, hU2, hv, hs⟩ := hw2
    refine ⟨k', s', v', o', c', mx', ah', ck', cs', cv', co', cc', cm', ca', old', cur', sy', b', l'', g'', r1, r2, r3, r4, r5, per', ?_, hU2, hv, hs⟩
    rw [fL_apply, bnd_e, hkd, bnd_e, bnd_e, source_ok, cal1_e]
    rw [show ce >>> (4 &&& 31) &&& 7 = idI ce from rfl, hw, cal16_e, if_pos rfl, hfl, cal14_e, jp_e, if_pos hr0]
    simp only [bnd_e]
    rw [cal1_e, show ce >>> (4 &&& 31) &&& 7 = idI ce from rfl, hw2, cal16_e]
end UPS
