/-! operations: a cell of the script, its kind, id and source; what is known after a row of them -/
def kdC (c : Int32) : Int32 := if 8 ≤ c &&& 15 then 2 else 1
def szC (c : Int32) : Nat := if 8 ≤ c &&& 15 then 6 else 14
def idI (c : Int32) : Int32 := c >>> (4 &&& 31) &&& 7
def idN (c : Int32) : Nat := (idI c).toNatClampNeg
def wrB (c : Int32) : Bool := !decide (10 ≤ c &&& 15)
def srcC (c : Int32) : Int64 := (Int32.toInt64 ((Int32.toUInt32 (c * 40503) >>> (Int32.toUInt32 3 &&& Int32.toUInt32 31)).toInt32 &&& 858993459)) <<< (Int32.toInt64 32 &&& 63) ||| (Int32.toInt64 (((c >>> (7 &&& 31)) &&& 7) - 3) &&& 4294967295)
def rl (c : Int32) : Nat := szC c + 5
def ovC (c : Int32) : Int64 := if kdC c = 1 then srcC c else 0
theorem kz_C (c : Int32) : kz (kdC c) (szC c) := by
  unfold kdC szC
  by_cases h : 8 ≤ c &&& 15
  · rw [if_pos h, if_pos h]; exact Or.inr (Or.inl ⟨rfl, rfl⟩)
  · rw [if_neg h, if_neg h]; exact Or.inl ⟨rfl, rfl⟩
theorem kd_C (c : Int32) : kdC c = 1 ∨ kdC c = 2 := by
  unfold kdC
  by_cases h : 8 ≤ c &&& 15
  · rw [if_pos h]; exact Or.inr rfl
  · rw [if_neg h]; exact Or.inl rfl
theorem kd_3 (c : Int32) : ¬ kdC c = 3 := by
  rcases kd_C c with h | h <;> rw [h] <;> decide
theorem id_C (c : Int32) : idI c = nI (idN c) ∧ idN c < 8 := by
  obtain ⟨j, hj, e⟩ := pk_andE (c >>> (4 &&& 31)) (m := 7) 3 rfl
  have e2 : idI c = nI j := e
  have hj8 : j < 8 := by omega
  have e3 : idN c = j := by unfold idN; rw [e2, n_cl (by omega)]
  rw [e3]
  exact ⟨e2, hj8⟩
theorem rl_le (c : Int32) : 11 ≤ rl c ∧ rl c ≤ 19 := by
  unfold rl szC
  by_cases h : 8 ≤ c &&& 15
  · rw [if_pos h]; omega
  · rw [if_neg h]; omega
theorem source_ok (c : Int32) : fL_source c = some (srcC c) := by
  rw [fL_source]
  simp only [bnd_e]
  rfl
theorem writes_ok (c : Int32) : fL_writes c = some (if wrB c = true then 1 else 0) := by
  rw [fL_writes, bnd_e, jp_e]
  by_cases h : 10 ≤ c &&& 15
  · rw [if_pos h, if_neg (by unfold wrB; rw [decide_eq_true h]; decide)]
    exact zok_0
  · rw [if_neg h, if_pos (by unfold wrB; rw [decide_eq_false h]; decide)]
    exact zok_1
def IL (e : Nat → Int32) (n i q : Nat) : Prop := q < n ∧ idN (e q) = i ∧ ∀ j, q < j → j < n → idN (e j) ≠ i
theorem IL_new {e : Nat → Int32} {n : Nat} : IL e (n + 1) (idN (e n)) n := ⟨by omega, rfl, fun j h1 h2 => by omega⟩
theorem IL_old {e : Nat → Int32} {n i q : Nat} (h : idN (e n) ≠ i) : IL e (n + 1) i q ↔ IL e n i q := by
  constructor
  · intro ⟨h1, h2, h3⟩
    have hq : q ≠ n := by rintro rfl; exact h h2
    exact ⟨by omega, h2, fun j a b => h3 j a (by omega)⟩
  · intro ⟨h1, h2, h3⟩
    refine ⟨by omega, h2, fun j a b => ?_⟩
    by_cases hj : j = n
    · rw [hj]; exact h
    · exact h3 j a (by omega)
theorem IL_uni {e : Nat → Int32} {n i q q' : Nat} (h : IL e n i q) (h' : IL e n i q') : q = q' := by
  obtain ⟨h1, h2, h3⟩ := h
  obtain ⟨g1, g2, g3⟩ := h'
  by_cases a : q < q'
  · exact absurd g2 (h3 q' a g1)
  · by_cases b : q' < q
    · exact absurd h2 (g3 q b h1)
    · omega
theorem IL_congr {e e' : Nat → Int32} {n i q : Nat} (h : ∀ j, j < n → e j = e' j) (hi : IL e n i q) : IL e' n i q := by
  obtain ⟨h1, h2, h3⟩ := hi
  exact ⟨h1, by rw [← h q h1]; exact h2, fun j a b => by rw [← h j b]; exact h3 j a b⟩
/-- what is known of an id -/
def DA (e V : Nat → Int32) (n i : Nat) (k s v : Int32) (o : Int64) : Prop :=
  (∃ q, IL e n i q ∧ k = kdC (e q) ∧ s = nI q ∧ v = V q ∧ o = ovC (e q)) ∨ ((∀ q, IL e n i q → kdC (e q) = 2) ∧ k = 0 ∧ s = -1 ∧ v = 0 ∧ o = 0)
def DR (e V : Nat → Int32) (n : Nat) (k s v : Nat → Int32) (o : Nat → Int64) : Prop := ∀ i, i < 16 → DA e V n i (k i) (s i) (v i) (o i)
theorem DA_congr {e e' V V' : Nat → Int32} {n i : Nat} {k s v : Int32} {o : Int64} (h : ∀ j, j < n → e j = e' j) (hV : ∀ j, j < n → V j = V' j) (hd : DA e V n i k s v o) : DA e' V' n i k s v o := by
  rcases hd with ⟨q, h1, h2, h3, h4, h5⟩ | ⟨h1, h2⟩
  · exact Or.inl ⟨q, IL_congr h h1, by rw [← h q h1.1]; exact h2, h3, by rw [← hV q h1.1]; exact h4, by rw [← h q h1.1]; exact h5⟩
  · refine Or.inr ⟨fun q hq => ?_, h2⟩
    rw [← h q hq.1]
    exact h1 q (IL_congr (fun j hj => (h j hj).symm) hq)
theorem DR_congr {e e' V V' : Nat → Int32} {n : Nat} {k s v : Nat → Int32} {o : Nat → Int64} (h : ∀ j, j < n → e j = e' j) (hV : ∀ j, j < n → V j = V' j) (hd : DR e V n k s v o) : DR e' V' n k s v o := fun i hi => DA_congr h hV (hd i hi)
theorem DR_at {e V : Nat → Int32} {n : Nat} {k s v k' s' v' : Nat → Int32} {o o' : Nat → Int64} (hd : DR e V n k s v o) (h : ∀ i, i < 16 → k' i = k i ∧ s' i = s i ∧ v' i = v i ∧ o' i = o i) : DR e V n k' s' v' o' := by
  intro i hi
  obtain ⟨a, b, c, d⟩ := h i hi
  rw [a, b, c, d]
  exact hd i hi
theorem DR_cpf {e V : Nat → Int32} {n : Nat} {k s v : Nat → Int32} {o : Nat → Int64} (hd : DR e V n k s v o) (a b c : Nat → Int32) (d : Nat → Int64) : DR e V n (cpf a k 0 16) (cpf b s 0 16) (cpf c v 0 16) (cpf d o 0 16) :=
  DR_at hd (fun i hi => ⟨cpf_at _ _ (by omega) hi, cpf_at _ _ (by omega) hi, cpf_at _ _ (by omega) hi, cpf_at _ _ (by omega) hi⟩)
theorem DR_step {e V : Nat → Int32} {n : Nat} {k s v : Nat → Int32} {o : Nat → Int64} (hd : DR e V n k s v o) (w : Int32) : DR e (upd V n w) (n + 1) (upd k (idN (e n)) (kdC (e n))) (upd s (idN (e n)) (nI n)) (upd v (idN (e n)) w) (vp_updL o (idN (e n)) (ovC (e n))) := by
  intro i hi
  by_cases h : i = idN (e n)
  · subst h
    exact Or.inl ⟨n, IL_new, upd_s _ _ _, upd_s _ _ _, by rw [upd_s, upd_s], updL_s _ _ _⟩
  · rw [upd_o _ _ h, upd_o _ _ h, upd_o _ _ h, updL_o _ _ h]
    rcases hd i hi with ⟨q, h1, h2, h3, h4, h5⟩ | ⟨h1, h2⟩
    · exact Or.inl ⟨q, (IL_old (fun e => h e.symm)).mpr h1, h2, h3, by rw [upd_o _ _ (by have := h1.1; omega)]; exact h4, h5⟩
    · exact Or.inr ⟨fun q hq => h1 q ((IL_old (fun e => h e.symm)).mp hq), h2⟩
theorem DR_0 (e V : Nat → Int32) {k s v : Nat → Int32} {o : Nat → Int64} (h : ∀ i, i < 16 → k i = 0 ∧ s i = -1 ∧ v i = 0 ∧ o i = 0) : DR e V 0 k s v o := fun i hi => Or.inr ⟨fun q hq => absurd hq.1 (Nat.not_lt_zero _), h i hi⟩
theorem DR_fgt {e V : Nat → Int32} {n : Nat} {k s v : Nat → Int32} {o : Nat → Int64} (hd : DR e V n k s v o) (c : Int32) : DR e V n (fgt k s k c 0 0) (fgt k s s c (-1) 0) (fgt k s v c 0 0) o := by
  intro i hi
  unfold fgt
  by_cases h : 0 ≤ i ∧ i < 16 ∧ k i = 2 ∧ s i ≤ c
  · rw [if_pos h, if_pos h, if_pos h]
    rcases hd i hi with ⟨q, h1, h2, h3, h4, h5⟩ | ⟨h1, h2, h3, h4, h5⟩
    · have hk : kdC (e q) = 2 := by rw [← h2]; exact h.2.2.1
      refine Or.inr ⟨fun q' hq' => by rw [IL_uni hq' h1]; exact hk, rfl, rfl, rfl, ?_⟩
      rw [h5, ovC, if_neg (by rw [hk]; decide)]
    · exact Or.inr ⟨h1, rfl, rfl, rfl, h5⟩
  · rw [if_neg h, if_neg h, if_neg h]
    exact hd i hi
theorem DR_doc {e V : Nat → Int32} {n i : Nat} {k s v : Nat → Int32} {o : Nat → Int64} (hd : DR e V n k s v o) (hi : i < 16) : k i = 1 ↔ ∃ q, IL e n i q ∧ kdC (e q) = 1 := by
  rcases hd i hi with ⟨q, h1, h2, h3, h4, h5⟩ | ⟨h1, h2, h3, h4, h5⟩
  · rw [h2]
    exact ⟨fun h => ⟨q, h1, h⟩, fun ⟨q', a, b⟩ => by rw [IL_uni h1 a]; exact b⟩
  · rw [h2]
    refine ⟨fun h => absurd h (by decide), fun ⟨q, a, b⟩ => ?_⟩
    rw [h1 q a] at b
    exact absurd b (by decide)
theorem DR_src {e V : Nat → Int32} {n i : Nat} {k s v : Nat → Int32} {o : Nat → Int64} (hd : DR e V n k s v o) (hi : i < 16) : (∃ q, IL e n i q ∧ kdC (e q) = 1 ∧ k i = 1 ∧ s i = nI q ∧ o i = srcC (e q)) ∨ ((¬ ∃ q, IL e n i q ∧ kdC (e q) = 1) ∧ ¬ k i = 1 ∧ o i = 0) := by
  by_cases h : k i = 1
  · rcases hd i hi with ⟨q, h1, h2, h3, h4, h5⟩ | ⟨h1, h2, h3, h4, h5⟩
    · have h6 : kdC (e q) = 1 := by rw [← h2]; exact h
      exact Or.inl ⟨q, h1, h6, h, h3, by rw [h5, ovC, if_pos h6]⟩
    · rw [h2] at h; exact absurd h (by decide)
  · refine Or.inr ⟨fun hq => h ((DR_doc hd hi).mpr hq), h, ?_⟩
    rcases hd i hi with ⟨q, h1, h2, h3, h4, h5⟩ | ⟨h1, h2, h3, h4, h5⟩
    · rw [h5, ovC, if_neg (by rw [← h2]; exact h)]
    · exact h5
/-- the known SEQ is below the next one -/
theorem DR_seq {e V : Nat → Int32} {n i : Nat} {k s v : Nat → Int32} {o : Nat → Int64} (hd : DR e V n k s v o) (hi : i < 16) (hn : n < 1000000) : s i < nI n := by
  rcases hd i hi with ⟨q, h1, h2, h3, h4, h5⟩ | ⟨h1, h2, h3, h4, h5⟩
  · rw [h3, n_lt (by have := h1.1; omega) (by omega)]; exact h1.1
  · rw [h3, lm1, mn_lt (by omega) (by omega)]; omega
def VB (V : Nat → Int32) (n : Nat) : Prop := ∀ q, q < n → ∃ b : Nat, 1 ≤ b ∧ b ≤ q + 1 ∧ V q = nI b
theorem VB_step {V : Nat → Int32} {n b : Nat} (h : VB V n) (hb : b ≤ n) : VB (upd V n (nI (b + 1))) (n + 1) := by
  intro q hq
  by_cases e : q = n
  · subst e; exact ⟨b + 1, by omega, by omega, upd_s _ _ _⟩
  · rw [upd_o _ _ e]; exact h q (by omega)
theorem VB_le {V : Nat → Int32} {n m : Nat} (h : VB V n) (hm : m ≤ n) : VB V m := fun q hq => h q (by omega)
theorem DR_ver {e V : Nat → Int32} {n i : Nat} {k s v : Nat → Int32} {o : Nat → Int64} (hd : DR e V n k s v o) (hV : VB V n) (hi : i < 16) : ∃ b : Nat, b ≤ n ∧ v i = nI b := by
  rcases hd i hi with ⟨q, h1, h2, h3, h4, h5⟩ | ⟨h1, h2, h3, h4, h5⟩
  · obtain ⟨b, hb1, hb2, hb3⟩ := hV q h1.1
    exact ⟨b, by have := h1.1; omega, by rw [h4]; exact hb3⟩
  · exact ⟨0, by omega, h4⟩
/-! records in a row -/
def PS (e : Nat → Int32) : Nat → Nat
  | 0 => 0
  | n + 1 => PS e n + rl (e n)
theorem PS_s (e : Nat → Int32) (n : Nat) : PS e (n + 1) = PS e n + rl (e n) := rfl
theorem PS_mono (e : Nat → Int32) {a : Nat} : ∀ {b : Nat}, a ≤ b → PS e a ≤ PS e b := by
  intro b
  induction b with
  | zero => intro h; obtain rfl : a = 0 := by omega
            exact Nat.le_refl _
  | succ b ih =>
    intro h
    by_cases h2 : a = b + 1
    · rw [h2]; exact Nat.le_refl _
    · have := ih (by omega)
      rw [PS_s]; omega
theorem PS_lt (e : Nat → Int32) {a b : Nat} (h : a < b) : PS e a + rl (e a) ≤ PS e b := by
  rw [← PS_s]; exact PS_mono e h
theorem PS_congr {e e' : Nat → Int32} : ∀ {n : Nat}, (∀ j, j < n → e j = e' j) → PS e n = PS e' n := by
  intro n
  induction n with
  | zero => intro h; rfl
  | succ n ih => intro h; rw [PS_s, PS_s, ih (fun j hj => h j (by omega)), h n (by omega)]
def rcb (kind : Int32) (sz : Nat) (seq id ver : Int32) (src : Int64) : Nat → Int32 := recd (fun _ => 0) 0 kind sz seq id ver src
theorem recd_at {kind : Int32} {sz : Nat} (hk : kz kind sz) (f : Nat → Int32) (p : Nat) (seq id ver : Int32) (src : Int64) {t : Nat} (ht : t < sz + 5) : recd f p kind sz seq id ver src (p + t) = rcb kind sz seq id ver src t := by
  have h := recd_RB (bX := f) (pX := p) (bM := fun _ => 0) (pM := 0) (l := 0) (seq := seq) hk (Or.inr (Eq.refl id)) (Or.inr (Eq.refl ver)) (Or.inr (Eq.refl src)) (fun j hj => absurd hj (Nat.not_lt_zero _)) t (by omega)
  have h2 : recd f p kind sz seq id ver src (p + t) = recd (fun _ => 0) 0 kind sz seq id ver src (0 + t) := h
  rw [h2, Nat.zero_add]
  rfl
def opb (e V : Nat → Int32) (j : Nat) : Nat → Int32 := rcb (kdC (e j)) (szC (e j)) (nI j) (idI (e j)) (V j) (srcC (e j))
def RecB (b : Nat → Int32) (p : Nat) (e V : Nat → Int32) (j : Nat) : Prop := ∀ t, t < rl (e j) → b (p + t) = opb e V j t
theorem RecB_congr {b : Nat → Int32} {p j : Nat} {e V e' V' : Nat → Int32} (h : e j = e' j) (hV : V j = V' j) (hr : RecB b p e V j) : RecB b p e' V' j := by
  intro t ht
  rw [hr t (by rw [h]; exact ht)]
  unfold opb
  rw [h, hV]
/-- the generations a .. q: generation g has the records of the operations S g .. S (g + 1) - 1 -/
def LG (b l e V : Nat → Int32) (a q : Nat) (S : Nat → Nat) : Prop :=
  a ≤ q ∧ q ≤ a + 3 ∧ ∀ g, a ≤ g → g ≤ q → S g ≤ S (g + 1) ∧ l (g % 4) = nI (PS e (S (g + 1)) - PS e (S g)) ∧ PS e (S (g + 1)) - PS e (S g) ≤ 240 ∧ ∀ j, S g ≤ j → j < S (g + 1) → RecB b (240 * (g % 4) + (PS e j - PS e (S g))) e V j
def GR (g : Nat → Int32) (a q n : Nat) : Prop := ∀ i, a ≤ i → i ≤ q → ∃ m, m ≤ n ∧ g (i % 4) = mI m
theorem GR_note {g : Nat → Int32} {a q n : Nat} (h : GR g a q n) (hq : q ≤ a + 3) (hn : n < 1000000) (haq : a ≤ q) : GR (upd g (q % 4) (if g (q % 4) < nI n then nI n else g (q % 4))) a q (n + 1) := by
  intro i h1 h2
  by_cases e : i = q
  · subst e
    rw [upd_s]
    by_cases hc : g (i % 4) < nI n
    · rw [if_pos hc]; exact ⟨n + 1, by omega, (m_of n).symm⟩
    · rw [if_neg hc]
      obtain ⟨m, hm, hg⟩ := h i h1 h2
      exact ⟨m, by omega, hg⟩
  · rw [upd_o _ _ (by omega)]
    obtain ⟨m, hm, hg⟩ := h i h1 h2
    exact ⟨m, by omega, hg⟩
theorem LG_append {b l e V : Nat → Int32} {a q n : Nat} {S : Nat → Nat} (h : LG b l e V a q S) (hS : S (q + 1) = n) (hc : PS e n - PS e (S q) + rl (e n) ≤ 240) (w : Int32) :
    LG (recd b (240 * (q % 4) + (PS e n - PS e (S q))) (kdC (e n)) (szC (e n)) (nI n) (idI (e n)) w (srcC (e n))) (upd l (q % 4) (nI (PS e n - PS e (S q) + szC (e n) + 5))) e (upd V n w) a q (fun g => if g = q + 1 then n + 1 else S g) := by
  obtain ⟨h1, h2, h3⟩ := h
  have hSq := (h3 q h1 (Nat.le_refl _)).1
  rw [hS] at hSq
  have hm := PS_mono e hSq
  have hrl : rl (e n) = szC (e n) + 5 := rfl
  refine ⟨h1, h2, fun g hg1 hg2 => ?_⟩
  obtain ⟨c1, c2, c3, c4⟩ := h3 g hg1 hg2
  by_cases eg : g = q
  · subst eg
    have e1 : (fun x => if x = g + 1 then n + 1 else S x) (g + 1) = n + 1 := if_pos rfl
    have e2 : (fun x => if x = g + 1 then n + 1 else S x) g = S g := if_neg (by omega)
    rw [e1, e2, PS_s]
    refine ⟨by omega, ?_, by omega, fun j hj1 hj2 => ?_⟩
    · rw [upd_s]; congr 1; omega
    · by_cases ej : j = n
      · subst ej
        intro t ht
        rw [recd_at (kz_C _) _ _ _ _ _ _ ht]
        unfold opb
        rw [upd_s]
      · have hjn : j < n := by omega
        have hp := PS_lt e hjn
        have hp2 := PS_mono e hj1
        intro t ht
        rw [recd_out (kz_C _) (by omega), c4 j hj1 (by omega) t ht]
        unfold opb
        rw [upd_o _ _ ej]
  · have e1 : (fun x => if x = q + 1 then n + 1 else S x) (g + 1) = S (g + 1) := if_neg (by omega)
    have e2 : (fun x => if x = q + 1 then n + 1 else S x) g = S g := if_neg (by omega)
    have hne : g % 4 ≠ q % 4 := by omega
    rw [e1, e2]
    have hle : S (g + 1) ≤ n := by
      have : ∀ d, g + 1 + d ≤ q + 1 → S (g + 1) ≤ S (g + 1 + d) := by
        intro d
        induction d with
        | zero => intro _; exact Nat.le_refl _
        | succ d ih => intro hd; exact Nat.le_trans (ih (by omega)) (h3 (g + 1 + d) (by omega) (by omega)).1
      have := this (q - g) (by omega)
      rw [show g + 1 + (q - g) = q + 1 by omega, hS] at this
      exact this
    refine ⟨c1, by rw [upd_o _ _ hne]; exact c2, c3, fun j hj1 hj2 => ?_⟩
    have hp := PS_lt e hj2
    have hp2 := PS_mono e hj1
    intro t ht
    rw [recd_out (kz_C _) (by omega), c4 j hj1 hj2 t ht]
    unfold opb
    rw [upd_o _ _ (by omega)]
