/-! PURE ROWS, 5: what is missing -/
def lk (kn : Nat → Int32) (du v : Nat → Int64) (n : Nat) : Bool := decide (¬ kn n = 0 ∧ ¬ du n = dg v n ∧ (64 ≤ n ∨ kn (2 * n) = 0))
def b2 (b : Bool) : Int32 := if b = true then 1 else 0
/-- the numbers in i .. i + k - 1 that q holds of -/
def LL (q : Nat → Bool) : Nat → Nat → List Nat
  | _, 0 => []
  | i, k + 1 => if q i = true then i :: LL q (i + 1) k else LL q (i + 1) k
def lay (lr : Nat → Int32) : Nat → List Nat → Nat → Int32
  | _, [] => lr
  | a, x :: l => lay (upd lr a (nI x)) (a + 1) l
theorem lay_at : ∀ (l : List Nat) (lr : Nat → Int32) (a j : Nat), lay lr a l j = if a ≤ j ∧ j < a + l.length then nI (l.getD (j - a) 0) else lr j := by
  intro l
  induction l with
  | nil =>
    intro lr a j
    rw [lay, if_neg (by simp)]
  | cons x l ih =>
    intro lr a j
    rw [lay, ih]
    by_cases hj : j = a
    · subst hj
      rw [if_neg (by omega), if_pos (by simp), upd_at, if_pos rfl, Nat.sub_self]
      rfl
    · by_cases h2 : a + 1 ≤ j ∧ j < a + 1 + l.length
      · rw [if_pos h2, if_pos (by simp only [List.length_cons]; omega), show j - a = (j - (a + 1)) + 1 by omega]
        rfl
      · rw [if_neg h2, if_neg (by simp only [List.length_cons]; omega), upd_at, if_neg hj]
theorem LL_len (q : Nat → Bool) : ∀ (k i : Nat), (LL q i k).length ≤ k := by
  intro k
  induction k with
  | zero => intro i; exact Nat.le_refl 0
  | succ k ih =>
    intro i
    have := ih (i + 1)
    rw [LL]
    split
    · rw [List.length_cons]; omega
    · omega
theorem LL_in (q : Nat → Bool) : ∀ (k i j : Nat), j < (LL q i k).length → i ≤ (LL q i k).getD j 0 ∧ (LL q i k).getD j 0 < i + k ∧ q ((LL q i k).getD j 0) = true := by
  intro k
  induction k with
  | zero => intro i j h; exact absurd h (Nat.not_lt_zero _)
  | succ k ih =>
    intro i j h
    rw [LL] at h ⊢
    by_cases hq : q i = true
    · rw [if_pos hq] at h ⊢
      cases j with
      | zero => exact ⟨Nat.le_refl _, by show i < i + (k + 1); omega, hq⟩
      | succ j =>
        have := ih (i + 1) j (by rw [List.length_cons] at h; omega)
        refine ⟨?_, ?_, this.2.2⟩
        · show i ≤ (LL q (i + 1) k).getD j 0; omega
        · show (LL q (i + 1) k).getD j 0 < i + (k + 1); omega
    · rw [if_neg hq] at h ⊢
      have := ih (i + 1) j h
      exact ⟨by omega, by omega, this.2.2⟩
theorem LL_congr {q r : Nat → Bool} : ∀ (k i : Nat), (∀ j, i ≤ j → j < i + k → q j = r j) → LL q i k = LL r i k := by
  intro k
  induction k with
  | zero => intro i _; rfl
  | succ k ih =>
    intro i h
    rw [LL, LL, h i (by omega) (by omega), ih (i + 1) (fun j a b => h j (by omega) (by omega))]
theorem LL_none {q : Nat → Bool} : ∀ (k i : Nat), (∀ j, i ≤ j → j < i + k → q j = false) → LL q i k = [] := by
  intro k
  induction k with
  | zero => intro i _; rfl
  | succ k ih =>
    intro i h
    rw [LL, h i (by omega) (by omega), ih (i + 1) (fun j a b => h j (by omega) (by omega))]
    rfl
theorem lacks_in {ow nw bf : S_Tree} {kn lr : Nat → Int32} {du : Nat → Int64} {ls go : Int32} (ht : TOK ow) {n : Nat} (h1 : 1 ≤ n) (h2 : n < 128) : f_X1_lacks (ow, nw, bf, kn, du, lr, ls, go) (nI n) = some (b2 (lk kn du ow.1 n)) := by
  unfold f_X1_lacks
  rw [isNode_in h1 h2]
  rw [sb, if_neg (by decide), kb_t (ib_nI h2 (by omega)), nI_clamp (by omega), kb_t (ib_nI h2 (by omega)), digestOf_in h1 h2]
  show (if kn n = 0 then some 0 else (if du n = ow.2 n then some 0 else (Option.bind (f_X4_isLeaf (nI n)) fun u8 => if u8 = 0 then (kb (ib (2 * nI n) 128) (if kn ((2 * nI n).toNatClampNeg) = 0 then some 1 else some 0)) else some 1))) = _
  rw [ht n h1 h2, isLeaf_in h2]
  unfold lk b2
  by_cases a1 : kn n = 0
  · rw [if_pos a1, if_neg (by rw [decide_eq_true_eq]; exact fun z => z.1 a1)]
  · rw [if_neg a1]
    by_cases a2 : du n = dg ow.1 n
    · rw [if_pos a2, if_neg (by rw [decide_eq_true_eq]; exact fun z => z.2.1 a2)]
    · rw [if_neg a2]
      by_cases a3 : 64 ≤ n
      · rw [if_pos a3, sb, if_neg (show ¬ (1 : Int32) = 0 by decide), if_pos (by rw [decide_eq_true_eq]; exact ⟨a1, a2, Or.inl a3⟩)]
      · rw [if_neg a3]
        show kb (ib (2 * nI n) 128) (if kn ((2 * nI n).toNatClampNeg) = 0 then some 1 else some 0) = _
        rw [show (2 : Int32) * nI n = nI (2 * n) from pk_mul 2 n, kb_t (ib_nI (by omega) (by omega)), nI_clamp (by omega)]
        by_cases a4 : kn (2 * n) = 0
        · rw [if_pos a4, if_pos (by rw [decide_eq_true_eq]; exact ⟨a1, a2, Or.inr a4⟩)]
        · rw [if_neg a4, if_neg (by rw [decide_eq_true_eq]; exact fun z => z.2.2.elim a3 a4)]
theorem b2_0 {b : Bool} : b2 b = 0 ↔ ¬ b = true := by
  cases b <;> simp [b2]
theorem find7_ok {ow nw bf : S_Tree} {kn : Nat → Int32} {du : Nat → Int64} {go : Int32} (ht : TOK ow) : ∀ (n i : Nat) (lr : Nat → Int32) (a : Nat), 1 ≤ i → i ≤ 128 → a < i → 128 - i < n →
    f_X1_findLacks_7 ow nw bf kn du go n (nI i) lr (nI a) = some (lay lr a (LL (lk kn du ow.1) i (128 - i)), nI (a + (LL (lk kn du ow.1) i (128 - i)).length)) := by
  intro n
  induction n with
  | zero => intro i lr a h0 h1 h2 h3; omega
  | succ n ih =>
    intro i lr a h0 h1 h2 h3
    rw [f_X1_findLacks_7]
    by_cases hc : 128 ≤ i
    · rw [if_pos (show (128 : Int32) ≤ nI i from nI_le (a := 128) hc (by omega)), show 128 - i = 0 by omega]
      rfl
    · rw [if_neg (show ¬ (128 : Int32) ≤ nI i from nI_ge (b := 128) (by omega) (by omega)), lacks_in ht h0 (by omega)]
      show (if b2 (lk kn du ow.1 i) = 0 then _ else _) = _
      rw [nI_1, nI_1, show 128 - i = (128 - (i + 1)) + 1 by omega, LL]
      by_cases hq : lk kn du ow.1 i = true
      · rw [if_pos hq, if_neg (fun z => b2_0.mp z hq), kb_t (ib_nI (by omega) (by omega)), nI_clamp (by omega), ih (i + 1) _ (a + 1) (by omega) (by omega) (by omega) (by omega), List.length_cons, lay, show a + 1 + (LL (lk kn du ow.1) (i + 1) (128 - (i + 1))).length = a + ((LL (lk kn du ow.1) (i + 1) (128 - (i + 1))).length + 1) by omega]
      · rw [if_neg hq, if_pos (b2_0.mpr hq), ih (i + 1) lr a (by omega) (by omega) (by omega) (by omega)]
/-- the row of what is missing -/
def LM (kn : Nat → Int32) (du v : Nat → Int64) : List Nat := LL (lk kn du v) 1 127
theorem LM_len (kn : Nat → Int32) (du v : Nat → Int64) : (LM kn du v).length ≤ 127 := LL_len _ 127 1
theorem LM_in {kn : Nat → Int32} {du v : Nat → Int64} {j : Nat} (h : j < (LM kn du v).length) : 1 ≤ (LM kn du v).getD j 0 ∧ (LM kn du v).getD j 0 < 128 ∧ lk kn du v ((LM kn du v).getD j 0) = true := by
  have := LL_in (lk kn du v) 127 1 j h
  exact ⟨this.1, by have := this.2.1; show (LL (lk kn du v) 1 127).getD j 0 < 128; omega, this.2.2⟩
def LKR (kn : Nat → Int32) (du v : Nat → Int64) (lr : Nat → Int32) (ls : Int32) : Prop := ls = nI (LM kn du v).length ∧ ∀ j, j < (LM kn du v).length → lr j = nI ((LM kn du v).getD j 0)
theorem findLacks_in {ow nw bf : S_Tree} {kn lr : Nat → Int32} {du : Nat → Int64} {ls go : Int32} (ht : TOK ow) :
    ∃ (lr' : Nat → Int32) (ls' : Int32), f_X1_findLacks (ow, nw, bf, kn, du, lr, ls, go) = some (ow, nw, bf, kn, du, lr', ls', go) ∧ LKR kn du ow.1 lr' ls' := by
  refine ⟨lay lr 0 (LM kn du ow.1), nI (LM kn du ow.1).length, ?_, rfl, fun j hj => ?_⟩
  · unfold f_X1_findLacks
    show Option.bind (f_X1_findLacks_7 ow nw bf kn du go FU (nI 1) lr (nI 0)) _ = _
    rw [find7_ok ht FU 1 lr 0 (by omega) (by omega) (by omega) (by unfold FU; omega), Nat.zero_add]
    rfl
  · rw [lay_at, if_pos (by omega), Nat.sub_zero]
theorem lackAt_in {ow nw bf : S_Tree} {kn lr : Nat → Int32} {du : Nat → Int64} {ls go : Int32} (h : LKR kn du ow.1 lr ls) {j : Nat} (hj : j < (LM kn du ow.1).length) : f_X1_lackAt (ow, nw, bf, kn, du, lr, ls, go) (nI j) = some (nI ((LM kn du ow.1).getD j 0)) := by
  have := LM_len kn du ow.1
  unfold f_X1_lackAt
  show (if nI j < 0 then _ else (if ls ≤ nI j then _ else kb (ib (nI j) 128) (some (lr ((nI j).toNatClampNeg))))) = _
  rw [h.1, if_neg (nI_pos (by omega)), if_neg (nI_ge hj (by omega)), kb_t (ib_nI (by omega) (by omega)), nI_clamp (by omega), h.2 j hj]
theorem lackAt_out {ow nw bf : S_Tree} {kn lr : Nat → Int32} {du : Nat → Int64} {ls go : Int32} (h : LKR kn du ow.1 lr ls) {x : Int32} (hx : x < 0 ∨ nI (LM kn du ow.1).length ≤ x) : f_X1_lackAt (ow, nw, bf, kn, du, lr, ls, go) x = some (-1) := by
  unfold f_X1_lackAt
  show (if x < 0 then _ else (if ls ≤ x then _ else _)) = _
  by_cases h0 : x < 0
  · rw [if_pos h0]
  · rw [if_neg h0, h.1, if_pos (hx.resolve_left h0)]
