/-! the relation of the two states, in parts -/
/-- what is live, while the shard is up -/
def RV (kX sX vX : Nat → Int32) (oX : Nat → Int64) (cX mX : Int32) (a : Int64) (kM sM vM : Nat → Int32) (oM : Nat → Int64) (d : Nat → Int32) (cM mM : Int32) (B : Nat) : Prop :=
  ∃ c mx : Nat, cX = mI c ∧ cM = mI c ∧ mX = mI mx ∧ mM = mI mx ∧ RD kX sX vX oX kM sM vM oM ∧ ID kX sX oX ∧ RM a d ∧ (∀ b, jb a b = true → c + b < mx) ∧ c ≤ mx ∧ mx ≤ c + 64 ∧ c ≤ B
/-- the log -/
def RLo (a g s : Nat) (lX bX lM bM : Nat → Int32) (len : Nat → Nat) : Prop :=
  1 ≤ g ∧ g ≤ 4 ∧ s ≤ len (g - 1) ∧ ∀ i, i < g → len i ≤ 240 ∧ lX ((a + i) % 4) = nI (len i) ∧ lM i = nI (len i) ∧ RB bX (240 * ((a + i) % 4)) bM (240 * i) (len i) ∧ ∀ j, j < len i → By (bM (240 * i + j))
def RG (a g : Nat) (gX gM : Nat → Int32) : Prop := ∀ i, i < g → gX ((a + i) % 4) = gM i
def RLg (up : Prop) (old cur sy : Int32) (bX lX gX : Nat → Int32) (bM lM gM : Nat → Int32) (oldM gen syM : Int32) (B : Nat) : Prop :=
  ∃ (a g s : Nat) (len : Nat → Nat), old = nI a ∧ cur = nI (a + (g - 1)) ∧ sy = nI s ∧ oldM = nI a ∧ gen = nI g ∧ syM = nI s ∧ a ≤ B ∧ RLo a g s lX bX lM bM len ∧ (up → RG a g gX gM)
theorem recd_out {f : Nat → Int32} {p sz : Nat} {kind seq id ver : Int32} {src : Int64} (hk : kz kind sz) {j : Nat} (h : j < p ∨ p + (sz + 5) ≤ j) : recd f p kind sz seq id ver src j = f j := by
  have hl := body_len hk seq id ver src
  unfold recd
  rw [show stb (stbs f p (body kind sz seq id ver src)) (p + (sz + 1)) (Int32.toInt64 (crcOf (stbs f p (body kind sz seq id ver src)) p (sz + 1))) 4 j = stbs f p (body kind sz seq id ver src) j from if_neg (by omega), stbs_out _ (by omega)]
theorem recd_by {f : Nat → Int32} {p sz : Nat} {kind seq id ver : Int32} {src : Int64} (hk : kz kind sz) {j : Nat} (h1 : p ≤ j) (h2 : j < p + (sz + 5)) : By (recd f p kind sz seq id ver src j) := by
  have hl := body_len hk seq id ver src
  unfold recd stb
  split
  · exact By_byteOf _ _
  · exact stbs_by _ h1 (by omega)
theorem body_id {kind : Int32} {sz : Nat} (hk : kz kind sz) (seq : Int32) {i1 i2 : Int32} (h : kind = 3 ∨ i1 = i2) {v1 v2 : Int32} (hv : kind = 3 ∨ v1 = v2) (src : Int64) {src2 : Int64} (hs : kind ≠ 1 ∨ src = src2) : body kind sz seq i1 v1 src = body kind sz seq i2 v2 src2 := by
  have h31 : ¬ (3 : Int32) = 1 := by decide
  have h13 : ¬ (1 : Int32) = 3 := by decide
  have h23 : ¬ (2 : Int32) = 3 := by decide
  have h21 : ¬ (2 : Int32) = 1 := by decide
  unfold body
  rcases hk with ⟨rfl, rfl⟩ | ⟨rfl, rfl⟩ | ⟨rfl, rfl⟩
  · rcases h with h | rfl
    · exact absurd h h13
    · rcases hv with h | rfl
      · exact absurd h h13
      · rcases hs with h | rfl
        · exact absurd rfl h
        · rfl
  · rcases h with h | rfl
    · exact absurd h h23
    · rcases hv with h | rfl
      · exact absurd h h23
      · rw [if_neg h21, if_neg h21]
  · rw [if_pos rfl, if_neg h31, if_pos rfl, if_neg h31]
theorem recd_RB {bX bM : Nat → Int32} {pX pM l sz : Nat} {kind seq i1 i2 v1 v2 : Int32} {src src2 : Int64} (hk : kz kind sz) (h : kind = 3 ∨ i1 = i2) (hv : kind = 3 ∨ v1 = v2) (hs : kind ≠ 1 ∨ src = src2) (hb : RB bX pX bM pM l) :
    RB (recd bX (pX + l) kind sz seq i1 v1 src) pX (recd bM (pM + l) kind sz seq i2 v2 src2) pM (l + (sz + 5)) := by
  have h1 := RB_stbs (body kind sz seq i1 v1 src) hb
  rw [body_len hk] at h1
  unfold recd
  rw [← body_id hk seq h hv src hs, crcOf_RB h1, Nat.add_assoc pX, Nat.add_assoc pM]
  exact RB_stb h1 _ 4
theorem room_ok {a g s : Nat} {lX bX lM bM : Nat → Int32} {len : Nat → Nat} (hR : RLo a g s lX bX lM bM len) (ha : a < 100000000) : fX2_room (nI (a + (g - 1))) lX = some (nI (240 - len (g - 1))) := by
  obtain ⟨hg1, hg4, hs0, hR⟩ := hR
  obtain ⟨q1, q2, q3, q4, q5⟩ := hR (g - 1) (by omega)
  rw [fX2_room, lengthOf_ok (by omega) lX q2, cal1_e, bnd_e, show (240 : Int32) - nI (len (g - 1)) = nI (240 - len (g - 1)) from by rw [l240, n_sub q1]]
