/-! records: appended by the class and by the reference -/
def RB (bX : Nat → Int32) (pX : Nat) (bM : Nat → Int32) (pM n : Nat) : Prop := ∀ j, j < n → bX (pX + j) = bM (pM + j)
theorem RB_stb {bX bM : Nat → Int32} {pX pM l : Nat} (h : RB bX pX bM pM l) (v : Int64) (n : Nat) : RB (stb bX (pX + l) v n) pX (stb bM (pM + l) v n) pM (l + n) := by
  intro j hj
  unfold stb
  by_cases h1 : j < l
  · rw [if_neg (by omega), if_neg (by omega)]; exact h j h1
  · rw [if_pos (by omega), if_pos (by omega)]; congr 1; omega
def stbs : (Nat → Int32) → Nat → List (Int64 × Nat) → (Nat → Int32)
  | f, _, [] => f
  | f, p, (v, n) :: t => stbs (stb f p v n) (p + n) t
def lens : List (Int64 × Nat) → Nat
  | [] => 0
  | (_, n) :: t => n + lens t
theorem RB_stbs : ∀ (L : List (Int64 × Nat)) {bX bM : Nat → Int32} {pX pM l : Nat}, RB bX pX bM pM l → RB (stbs bX (pX + l) L) pX (stbs bM (pM + l) L) pM (l + lens L)
  | [], _, _, _, _, _, h => h
  | (v, n) :: t, bX, bM, pX, pM, l, h => by
    have h2 := RB_stbs t (RB_stb h v n)
    show RB (stbs (stb bX (pX + l) v n) (pX + l + n) t) pX (stbs (stb bM (pM + l) v n) (pM + l + n) t) pM (l + (n + lens t))
    rw [Nat.add_assoc pX, Nat.add_assoc pM, ← Nat.add_assoc l]
    exact h2
theorem stbs_out : ∀ (L : List (Int64 × Nat)) {f : Nat → Int32} {p j : Nat}, (j < p ∨ p + lens L ≤ j) → stbs f p L j = f j
  | [], _, _, _, _ => rfl
  | (v, n) :: t, f, p, j, h => by
    have h' : j < p ∨ p + (n + lens t) ≤ j := h
    show stbs (stb f p v n) (p + n) t j = f j
    rw [stbs_out t (by omega)]
    unfold stb
    rw [if_neg (by omega)]
theorem By_byteOf (v : Int64) (k : Nat) : By (byteOf v k) := byteOf_lt v k
theorem stbs_by : ∀ (L : List (Int64 × Nat)) {f : Nat → Int32} {p j : Nat}, p ≤ j → j < p + lens L → By (stbs f p L j)
  | [], _, _, _, h1, h2 => absurd h2 (by show ¬ _ < _ + 0; omega)
  | (v, n) :: t, f, p, j, h1, h2 => by
    have h2' : j < p + (n + lens t) := h2
    show By (stbs (stb f p v n) (p + n) t j)
    by_cases h : p + n ≤ j
    · exact stbs_by t h (by omega)
    · rw [stbs_out t (by omega)]
      unfold stb
      rw [if_pos (by omega)]
      exact By_byteOf _ _
theorem stbs_snoc : ∀ (L : List (Int64 × Nat)) (f : Nat → Int32) (p : Nat) (v : Int64) (n : Nat), stb (stbs f p L) (p + lens L) v n = stbs f p (L ++ [(v, n)])
  | [], f, p, v, n => rfl
  | (w, k) :: t, f, p, v, n => by
    show stb (stbs (stb f p w k) (p + k) t) (p + (k + lens t)) v n = stbs (stb f p w k) (p + k) (t ++ [(v, n)])
    rw [← Nat.add_assoc, stbs_snoc t]
theorem lens_snoc : ∀ (L : List (Int64 × Nat)) (v : Int64) (n : Nat), lens (L ++ [(v, n)]) = lens L + n
  | [], v, n => by show n + 0 = 0 + n; omega
  | (w, k) :: t, v, n => by
    show k + lens (t ++ [(v, n)]) = k + lens t + n
    rw [lens_snoc t]; omega
/-- what is written ahead of the checksum -/
def body (kind : Int32) (sz : Nat) (seq id ver : Int32) (src : Int64) : List (Int64 × Nat) :=
  [(Int32.toInt64 (nI sz), 1), (Int32.toInt64 kind, 1), (Int32.toInt64 seq, 2)] ++ ((if kind = 3 then [] else [(Int32.toInt64 id, 1), (Int32.toInt64 ver, 2)]) ++ (if kind = 1 then [(src, 8)] else []))
def crcOf (f : Nat → Int32) (p n : Nat) : Int32 := crcAcc (fun j => f (p + j)) 0 n (-1) ^^^ (-1)
theorem crcOf_RB {bX bM : Nat → Int32} {pX pM l n : Nat} (h : RB bX pX bM pM (l + n)) : crcOf bX (pX + l) n = crcOf bM (pM + l) n := by
  unfold crcOf
  congr 1
  refine crcAcc_congr n 0 _ (fun j h1 h2 => ?_)
  show bX (pX + l + j) = bM (pM + l + j)
  rw [Nat.add_assoc, Nat.add_assoc]
  exact h (l + j) (by omega)
def recd (f : Nat → Int32) (p : Nat) (kind : Int32) (sz : Nat) (seq id ver : Int32) (src : Int64) : Nat → Int32 :=
  stb (stbs f p (body kind sz seq id ver src)) (p + (sz + 1)) (Int32.toInt64 (crcOf (stbs f p (body kind sz seq id ver src)) p (sz + 1))) 4
/-- kinds and how many bytes stand behind L -/
def kz (kind : Int32) (sz : Nat) : Prop := (kind = 1 ∧ sz = 14) ∨ (kind = 2 ∧ sz = 6) ∨ (kind = 3 ∧ sz = 3)
theorem body_len {kind : Int32} {sz : Nat} (h : kz kind sz) (seq id ver : Int32) (src : Int64) : lens (body kind sz seq id ver src) = sz + 1 := by
  rcases h with ⟨rfl, rfl⟩ | ⟨rfl, rfl⟩ | ⟨rfl, rfl⟩ <;> rfl
theorem sizeX_ok {kind : Int32} {sz : Nat} (h : kz kind sz) : fX5_sizeOf kind = some (nI (sz + 5)) := by
  rcases h with ⟨rfl, rfl⟩ | ⟨rfl, rfl⟩ | ⟨rfl, rfl⟩ <;> rfl
theorem lengthOf_ok {a l : Nat} (ha : a < 2147483648) (le : Nat → Int32) (hl : le (a % 4) = nI l) : fX2_lengthOf le (nI a) = some (nI l) := by
  rw [fX2_lengthOf, rowOf_ok a ha, cal1_e, rdI_n (by omega) (by omega), hl]
theorem putX_1 {cur l : Nat} (hcur : cur < 2147483648) (v : Int64) (b le : Nat → Int32) (hl : le (cur % 4) = nI l) (hc : l + 1 ≤ 240) : fX2_put (nI cur) b le v 1 = some (stb b (240 * (cur % 4) + l) v 1, upd le (cur % 4) (nI (l + 1))) := putX_ok (cnt := 1) v hcur rfl b le hl hc (by omega)
theorem putX_2 {cur l : Nat} (hcur : cur < 2147483648) (v : Int64) (b le : Nat → Int32) (hl : le (cur % 4) = nI l) (hc : l + 2 ≤ 240) : fX2_put (nI cur) b le v 2 = some (stb b (240 * (cur % 4) + l) v 2, upd le (cur % 4) (nI (l + 2))) := putX_ok (cnt := 2) v hcur rfl b le hl hc (by omega)
theorem putX_4 {cur l : Nat} (hcur : cur < 2147483648) (v : Int64) (b le : Nat → Int32) (hl : le (cur % 4) = nI l) (hc : l + 4 ≤ 240) : fX2_put (nI cur) b le v 4 = some (stb b (240 * (cur % 4) + l) v 4, upd le (cur % 4) (nI (l + 4))) := putX_ok (cnt := 4) v hcur rfl b le hl hc (by omega)
theorem putX_8 {cur l : Nat} (hcur : cur < 2147483648) (v : Int64) (b le : Nat → Int32) (hl : le (cur % 4) = nI l) (hc : l + 8 ≤ 240) : fX2_put (nI cur) b le v 8 = some (stb b (240 * (cur % 4) + l) v 8, upd le (cur % 4) (nI (l + 8))) := putX_ok (cnt := 8) v hcur rfl b le hl hc (by omega)
theorem noteSeq_ok {a : Nat} (ha : a < 2147483648) (gr : Nat → Int32) (x : Int32) : fX2_noteSeq gr (nI a) x = some (upd gr (a % 4) (if gr (a % 4) < x then x else gr (a % 4))) := by
  rw [fX2_noteSeq, rowOf_ok a ha, cal1_e, rdI_n (by omega) (by omega), bnd_e, wrI_n (by omega) (by omega)]
theorem appendX_ok {cur l sz : Nat} (hcur : cur < 2147483648) {kind : Int32} (hk : kz kind sz) (seq id ver : Int32) (src : Int64) (b le gr : Nat → Int32) (hl : le (cur % 4) = nI l) (hc : l + sz + 5 ≤ 240) :
    fX2_append (nI cur) b le gr kind seq id ver src = some (recd b (240 * (cur % 4) + l) kind sz seq id ver src, upd le (cur % 4) (nI (l + sz + 5)), upd gr (cur % 4) (if gr (cur % 4) < seq then seq else gr (cur % 4))) := by
  have hsz : sz ≤ 14 := by rcases hk with ⟨_, h⟩ | ⟨_, h⟩ | ⟨_, h⟩ <;> omega
  have hck : ∀ f : Nat → Int32, fX2_checksum f (nI cur) (nI l) (nI (sz + 1)) = some (crcOf f (240 * (cur % 4) + l) (sz + 1)) := fun f => checksum_ok f hcur (by omega)
  rw [fX2_append, lengthOf_ok hcur le hl, cal1_e, sizeX_ok hk, cal1_e]
  simp only [bnd_e]
  rw [show nI (sz + 5) - 5 = nI sz from by rw [l5, n_sub (by omega)]; congr 1, nI_1]
  rw [putX_1 hcur _ b le hl (by omega), cal2_e, putX_1 hcur _ _ _ (upd_s _ _ _) (by omega), cal2_e, upd_u, putX_2 hcur _ _ _ (upd_s _ _ _) (by omega), cal2_e, upd_u, jp_e]
  rcases hk with ⟨rfl, rfl⟩ | ⟨rfl, rfl⟩ | ⟨rfl, rfl⟩
  · rw [if_neg (by decide), putX_1 hcur _ _ _ (upd_s _ _ _) (by omega), cal2_e, upd_u, putX_2 hcur _ _ _ (upd_s _ _ _) (by omega), cal2_e, upd_u]
    dsimp only
    rw [jp_e, if_pos rfl, putX_8 hcur _ _ _ (upd_s _ _ _) (by omega), cal2_e, upd_u]
    dsimp only
    rw [hck, cal1_e, putX_4 hcur _ _ _ (upd_s _ _ _) (by omega), cal2_e, upd_u, noteSeq_ok hcur, cal1_e]
    rfl
  · rw [if_neg (by decide), putX_1 hcur _ _ _ (upd_s _ _ _) (by omega), cal2_e, upd_u, putX_2 hcur _ _ _ (upd_s _ _ _) (by omega), cal2_e, upd_u]
    dsimp only
    rw [jp_e, if_neg (by decide)]
    dsimp only
    rw [hck, cal1_e, putX_4 hcur _ _ _ (upd_s _ _ _) (by omega), cal2_e, upd_u, noteSeq_ok hcur, cal1_e]
    rfl
  · rw [if_pos rfl]
    dsimp only
    rw [jp_e, if_neg (by decide)]
    dsimp only
    rw [hck, cal1_e, putX_4 hcur _ _ _ (upd_s _ _ _) (by omega), cal2_e, upd_u, noteSeq_ok hcur, cal1_e]
    rfl
