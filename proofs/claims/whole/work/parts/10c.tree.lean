/-! PURE ROWS, 3: the tree's other functions -/
theorem isPath_in {p : Nat} (h : p < 64) : f_X4_isPath (nI p) = some 1 := by
  unfold f_X4_isPath
  rw [if_neg (nI_pos (by omega)), if_neg (show ¬ (64 : Int32) ≤ nI p from nI_ge (b := 64) h (by omega))]
theorem isLeaf_in {n : Nat} (h : n < 128) : f_X4_isLeaf (nI n) = some (if 64 ≤ n then 1 else 0) := by
  unfold f_X4_isLeaf
  by_cases h1 : 64 ≤ n
  · rw [if_neg (show ¬ nI n < (64 : Int32) from nI_nlt (b := 64) h1 (by omega)), if_neg (show ¬ (128 : Int32) ≤ nI n from nI_ge (b := 128) h (by omega)), if_pos h1]
  · rw [if_pos (show nI n < (64 : Int32) from nI_lt (b := 64) (by omega) (by omega)), if_neg h1]
/-- an int is a path, or isn't -/
theorem path_or (x : Int32) : (∃ p, p < 64 ∧ x = nI p) ∨ (f_X4_isPath x = some 0 ∧ (x < 0 ∨ nI 64 ≤ x)) := by
  rcases pk_ix x (n := 64) (by omega) with h | h | h
  · exact Or.inr ⟨by unfold f_X4_isPath; rw [if_pos h], Or.inl h⟩
  · refine Or.inr ⟨?_, Or.inr h⟩
    unfold f_X4_isPath
    by_cases h0 : x < 0
    · rw [if_pos h0]
    · rw [if_neg h0, if_pos (show (64 : Int32) ≤ x from h)]
  · exact Or.inl h
theorem node_or (x : Int32) : (∃ n, 1 ≤ n ∧ n < 128 ∧ x = nI n) ∨ (f_X4_isNode x = some 0 ∧ (x < 1 ∨ nI 128 ≤ x)) := by
  by_cases h1 : x < 1
  · exact Or.inr ⟨by unfold f_X4_isNode; rw [if_pos h1], Or.inl h1⟩
  · rcases pk_ix x (n := 128) (by omega) with h | h | ⟨n, hn, rfl⟩
    · exact absurd (show x < 1 by rw [Int32.lt_iff_toInt_lt] at h ⊢; exact Int.lt_trans h (by decide)) h1
    · exact Or.inr ⟨by unfold f_X4_isNode; rw [if_neg h1, if_pos (show (128 : Int32) ≤ x from h)], Or.inr h⟩
    · refine Or.inl ⟨n, ?_, hn, rfl⟩
      cases n with
      | zero => exact absurd (show nI 0 < 1 by decide) h1
      | succ n => omega
theorem valueOf_in {t : S_Tree} {p : Nat} (h : p < 64) : f_X4_valueOf t (nI p) = some (t.1 p) := by
  unfold f_X4_valueOf
  rw [isPath_in h]
  rw [sb, if_neg (by decide), kb_t (ib_nI h (by omega)), nI_clamp (by omega)]
theorem digestOf_in {t : S_Tree} {n : Nat} (h1 : 1 ≤ n) (h : n < 128) : f_X4_digestOf t (nI n) = some (t.2 n) := by
  unfold f_X4_digestOf
  rw [isNode_in h1 h]
  rw [sb, if_neg (by decide), kb_t (ib_nI h (by omega)), nI_clamp (by omega)]
theorem put_in {t : S_Tree} (ht : TOK t) {p : Nat} (h : p < 64) (x : Int64) : ∃ t' : S_Tree, f_X4_put t (nI p) x = some t' ∧ TOK t' ∧ t'.1 = vp_updL t.1 p x := by
  obtain ⟨d', e, ok⟩ := renew_ok (v := vp_updL t.1 p x) (v0 := t.1) (d := t.2) (n := 64 + p) (by omega) (by omega) ht (fun q hq hn => by
    obtain ⟨a, b⟩ := fl_leaf (n := 64 + p) (by omega)
    rw [updL_at, if_neg (by omega)])
  refine ⟨(vp_updL t.1 p x, d'), ?_, ok, rfl⟩
  unfold f_X4_put
  rw [isPath_in h]
  rw [sb, if_neg (by decide), kb_t (ib_nI h (by omega)), nI_clamp (by omega), show (64 : Int32) + nI p = nI (64 + p) from nI_add 64 p, e]
  rfl
theorem put_out {t : S_Tree} {y : Int32} (h : f_X4_isPath y = some 0) (x : Int64) : f_X4_put t y x = some t := by
  unfold f_X4_put
  rw [h]
  rfl
theorem empty18_ok {e : Nat} (he : e < 64) : ∀ (n i : Nat) (t : Nat → Int64), i ≤ e + 1 → e + 1 - i < n →
    f_X4_emptyBelow_18 (nI e) n (nI i) t = some (fun m => if i ≤ m ∧ m ≤ e then 0 else t m) := by
  intro n
  induction n with
  | zero => intro i t h1 h2; omega
  | succ n ih =>
    intro i t h1 h2
    rw [f_X4_emptyBelow_18]
    by_cases hc : e < i
    · rw [if_pos (nI_lt hc (by omega))]
      refine congrArg some (funext fun m => ?_)
      rw [if_neg (by omega)]
    · rw [if_neg (nI_nlt (by omega) (by omega)), kb_t (ib_nI (by omega) (by omega)), nI_1, nI_clamp (by omega), ih (i + 1) _ (by omega) (by omega)]
      refine congrArg some (funext fun m => ?_)
      by_cases hm : m = i
      · subst hm
        rw [if_neg (by omega), if_pos (by omega), updL_at, if_pos rfl]
      · by_cases hm2 : i + 1 ≤ m ∧ m ≤ e
        · rw [if_pos hm2, if_pos (by omega)]
        · rw [if_neg hm2, if_neg (by omega), updL_at, if_neg hm]
/-- what is below a node made empty -/
def cle (v : Nat → Int64) (n : Nat) : Nat → Int64 := fun p => if fp n ≤ p ∧ p ≤ lp n then 0 else v p
/-- what is below a node taken from another row -/
def cpy (v w : Nat → Int64) (n : Nat) : Nat → Int64 := fun p => if fp n ≤ p ∧ p ≤ lp n then w p else v p
theorem emptyBelow_in {t : S_Tree} (ht : TOK t) {n : Nat} (h1 : 1 ≤ n) (h2 : n < 128) : ∃ t' : S_Tree, f_X4_emptyBelow t (nI n) = some t' ∧ TOK t' ∧ t'.1 = cle t.1 n := by
  obtain ⟨hle, hlt⟩ := fl_le n h2 h1
  obtain ⟨d', e, ok⟩ := renew_ok (v := cle t.1 n) (v0 := t.1) (d := t.2) (n := n) h1 h2 ht (fun q hq hn => by unfold cle; rw [if_neg hn])
  refine ⟨(cle t.1 n, d'), ?_, ok, rfl⟩
  unfold f_X4_emptyBelow
  rw [isNode_in h1 h2]
  rw [sb, if_neg (by decide), fp_ok n h2 h1, lp_ok n h2 h1]
  show (Option.bind (f_X4_emptyBelow_18 (nI (lp n)) FU (nI (fp n)) t.1) _) = _
  rw [empty18_ok hlt FU (fp n) t.1 (by omega) (by unfold FU; omega)]
  show (Option.bind (f_X4_renew (cle t.1 n, t.2) (nI n)) _) = _
  rw [e]
  rfl
theorem copy19_ok (w : S_Tree) {e : Nat} (he : e < 64) : ∀ (n i : Nat) (t : Nat → Int64), i ≤ e + 1 → e + 1 - i < n →
    f_X4_copyBelow_19 (nI e) w n (nI i) t = some (fun m => if i ≤ m ∧ m ≤ e then w.1 m else t m) := by
  intro n
  induction n with
  | zero => intro i t h1 h2; omega
  | succ n ih =>
    intro i t h1 h2
    rw [f_X4_copyBelow_19]
    by_cases hc : e < i
    · rw [if_pos (nI_lt hc (by omega))]
      refine congrArg some (funext fun m => ?_)
      rw [if_neg (by omega)]
    · rw [if_neg (nI_nlt (by omega) (by omega)), kb_t (ib_nI (by omega) (by omega)), kb_t (ib_nI (by omega) (by omega)), nI_1, nI_clamp (by omega), ih (i + 1) _ (by omega) (by omega)]
      refine congrArg some (funext fun m => ?_)
      by_cases hm : m = i
      · subst hm
        rw [if_neg (by omega), if_pos (by omega), updL_at, if_pos rfl]
      · by_cases hm2 : i + 1 ≤ m ∧ m ≤ e
        · rw [if_pos hm2, if_pos (by omega)]
        · rw [if_neg hm2, if_neg (by omega), updL_at, if_neg hm]
theorem copyBelow_in {t : S_Tree} (ht : TOK t) (w : S_Tree) {n : Nat} (h1 : 1 ≤ n) (h2 : n < 128) : ∃ t' : S_Tree, f_X4_copyBelow t w (nI n) = some t' ∧ TOK t' ∧ t'.1 = cpy t.1 w.1 n := by
  obtain ⟨hle, hlt⟩ := fl_le n h2 h1
  obtain ⟨d', e, ok⟩ := renew_ok (v := cpy t.1 w.1 n) (v0 := t.1) (d := t.2) (n := n) h1 h2 ht (fun q hq hn => by unfold cpy; rw [if_neg hn])
  refine ⟨(cpy t.1 w.1 n, d'), ?_, ok, rfl⟩
  unfold f_X4_copyBelow
  rw [isNode_in h1 h2]
  rw [sb, if_neg (by decide), fp_ok n h2 h1, lp_ok n h2 h1]
  show (Option.bind (f_X4_copyBelow_19 (nI (lp n)) w FU (nI (fp n)) t.1) _) = _
  rw [copy19_ok w hlt FU (fp n) t.1 (by omega) (by unfold FU; omega)]
  show (Option.bind (f_X4_renew (cpy t.1 w.1 n, t.2) (nI n)) _) = _
  rw [e]
  rfl
/-- how many of the values at i .. are not 0 -/
def cnt (v : Nat → Int64) : Nat → Nat → Nat
  | _, 0 => 0
  | i, k + 1 => (if v i = 0 then 0 else 1) + cnt v (i + 1) k
theorem cnt_le (v : Nat → Int64) : ∀ (k i : Nat), cnt v i k ≤ k := by
  intro k
  induction k with
  | zero => intro i; exact Nat.le_refl 0
  | succ k ih =>
    intro i
    have := ih (i + 1)
    rw [cnt]
    split <;> omega
theorem cnt_congr {v w : Nat → Int64} : ∀ (k i : Nat), (∀ j, i ≤ j → j < i + k → v j = w j) → cnt v i k = cnt w i k := by
  intro k
  induction k with
  | zero => intro i _; rfl
  | succ k ih =>
    intro i h
    rw [cnt, cnt, h i (by omega) (by omega), ih (i + 1) (fun j q1 q2 => h j (by omega) (by omega))]
theorem filled22_ok (t : S_Tree) {e : Nat} (he : e < 64) : ∀ (n i a : Nat), i ≤ e + 1 → e + 1 - i < n →
    f_X4_filledBelow_22 (nI e) t n (nI i) (nI a) = some (nI (a + cnt t.1 i (e + 1 - i))) := by
  intro n
  induction n with
  | zero => intro i a h1 h2; omega
  | succ n ih =>
    intro i a h1 h2
    rw [f_X4_filledBelow_22]
    by_cases hc : e < i
    · rw [if_pos (nI_lt hc (by omega)), show e + 1 - i = 0 by omega]
      rfl
    · rw [if_neg (nI_nlt (by omega) (by omega)), kb_t (ib_nI (by omega) (by omega)), nI_1, nI_1, nI_clamp (by omega), show e + 1 - i = (e + 1 - (i + 1)) + 1 by omega, cnt]
      by_cases hz : t.1 i = 0
      · rw [if_pos hz, if_pos hz, ih (i + 1) a (by omega) (by omega), Nat.zero_add]
      · rw [if_neg hz, if_neg hz, ih (i + 1) (a + 1) (by omega) (by omega), Nat.add_assoc]
/-- how many leaves below a node are not empty -/
def cntB (v : Nat → Int64) (n : Nat) : Nat := cnt v (fp n) (lp n + 1 - fp n)
theorem filledBelow_in {t : S_Tree} {n : Nat} (h1 : 1 ≤ n) (h2 : n < 128) : f_X4_filledBelow t (nI n) = some (nI (cntB t.1 n)) := by
  obtain ⟨hle, hlt⟩ := fl_le n h2 h1
  unfold f_X4_filledBelow
  rw [isNode_in h1 h2]
  rw [sb, if_neg (by decide), fp_ok n h2 h1, lp_ok n h2 h1]
  show (Option.bind (f_X4_filledBelow_22 (nI (lp n)) t FU (nI (fp n)) (nI 0)) _) = _
  rw [filled22_ok t hlt FU (fp n) 0 (by omega) (by unfold FU; omega), Nat.zero_add]
  rfl
/-- the first, the last of the values in i .. i + k - 1 that is not 0 -/
def ffd (v : Nat → Int64) : Nat → Nat → Option Nat
  | _, 0 => none
  | i, k + 1 => if v i = 0 then ffd v (i + 1) k else some i
def lfd (v : Nat → Int64) (i : Nat) : Nat → Option Nat
  | 0 => none
  | k + 1 => if v (i + k) = 0 then lfd v i k else some (i + k)
def oI (o : Option Nat) : Int32 := match o with
  | none => -1
  | some p => nI p
theorem ffd_in (v : Nat → Int64) : ∀ (k i p : Nat), ffd v i k = some p → i ≤ p ∧ p < i + k ∧ v p ≠ 0 := by
  intro k
  induction k with
  | zero => intro i p h; cases h
  | succ k ih =>
    intro i p h
    rw [ffd] at h
    by_cases hz : v i = 0
    · rw [if_pos hz] at h
      have := ih (i + 1) p h
      exact ⟨by omega, by omega, this.2.2⟩
    · rw [if_neg hz] at h
      cases h
      exact ⟨Nat.le_refl _, by omega, hz⟩
theorem lfd_in (v : Nat → Int64) (i : Nat) : ∀ (k p : Nat), lfd v i k = some p → i ≤ p ∧ p < i + k ∧ v p ≠ 0 := by
  intro k
  induction k with
  | zero => intro p h; cases h
  | succ k ih =>
    intro p h
    rw [lfd] at h
    by_cases hz : v (i + k) = 0
    · rw [if_pos hz] at h
      have := ih p h
      exact ⟨by omega, by omega, this.2.2⟩
    · rw [if_neg hz] at h
      cases h
      exact ⟨by omega, by omega, hz⟩
theorem ffd_congr {v w : Nat → Int64} : ∀ (k i : Nat), (∀ j, i ≤ j → j < i + k → v j = w j) → ffd v i k = ffd w i k := by
  intro k
  induction k with
  | zero => intro i _; rfl
  | succ k ih =>
    intro i h
    rw [ffd, ffd, h i (by omega) (by omega), ih (i + 1) (fun j q1 q2 => h j (by omega) (by omega))]
theorem lfd_congr {v w : Nat → Int64} (i : Nat) : ∀ (k : Nat), (∀ j, i ≤ j → j < i + k → v j = w j) → lfd v i k = lfd w i k := by
  intro k
  induction k with
  | zero => intro _; rfl
  | succ k ih =>
    intro h
    rw [lfd, lfd, h (i + k) (by omega) (by omega), ih (fun j q1 q2 => h j (by omega) (by omega))]
theorem first19_ok (t : S_Tree) {e : Nat} (he : e < 64) : ∀ (n i : Nat), i ≤ e + 1 → e + 1 - i < n →
    f_X4_firstFilled_19 (nI e) t n (nI i) = some (oI (ffd t.1 i (e + 1 - i))) := by
  intro n
  induction n with
  | zero => intro i h1 h2; omega
  | succ n ih =>
    intro i h1 h2
    rw [f_X4_firstFilled_19]
    by_cases hc : e < i
    · rw [if_pos (nI_lt hc (by omega)), show e + 1 - i = 0 by omega]
      rfl
    · rw [if_neg (nI_nlt (by omega) (by omega)), kb_t (ib_nI (by omega) (by omega)), nI_1, nI_clamp (by omega), show e + 1 - i = (e + 1 - (i + 1)) + 1 by omega, ffd]
      by_cases hz : t.1 i = 0
      · rw [if_pos hz, if_pos hz, ih (i + 1) (by omega) (by omega)]
      · rw [if_neg hz, if_neg hz]
        rfl
theorem firstFilled_in {t : S_Tree} {n : Nat} (h1 : 1 ≤ n) (h2 : n < 128) : f_X4_firstFilled t (nI n) = some (oI (ffd t.1 (fp n) (lp n + 1 - fp n))) := by
  obtain ⟨hle, hlt⟩ := fl_le n h2 h1
  unfold f_X4_firstFilled
  rw [isNode_in h1 h2]
  rw [sb, if_neg (by decide), fp_ok n h2 h1, lp_ok n h2 h1]
  exact first19_ok t hlt FU (fp n) (by omega) (by unfold FU; omega)
theorem nI_dn_lt {F : Nat} (h : F < 64) : nI F + (-1) < nI F := by
  cases F with
  | zero => decide
  | succ F => rw [pk_m1]; exact nI_lt (by omega) (by omega)
theorem last19_ok (t : S_Tree) {F : Nat} (hF : F < 64) : ∀ (n k : Nat), F + k ≤ 64 → k < n →
    f_X4_lastFilled_19 (nI F) t n (nI (F + k) + (-1)) = some (oI (lfd t.1 F k)) := by
  intro n
  induction n with
  | zero => intro k h1 h2; omega
  | succ n ih =>
    intro k h1 h2
    rw [f_X4_lastFilled_19]
    cases k with
    | zero =>
      rw [Nat.add_zero, if_pos (nI_dn_lt hF)]
      rfl
    | succ k =>
      rw [show F + (k + 1) = (F + k) + 1 from rfl, pk_m1, if_neg (nI_nlt (by omega) (by omega)), kb_t (ib_nI (by omega) (by omega)), nI_clamp (by omega), lfd]
      by_cases hz : t.1 (F + k) = 0
      · rw [if_pos hz, if_pos hz, ih k (by omega) (by omega)]
      · rw [if_neg hz, if_neg hz]
        rfl
theorem lastFilled_in {t : S_Tree} {n : Nat} (h1 : 1 ≤ n) (h2 : n < 128) : f_X4_lastFilled t (nI n) = some (oI (lfd t.1 (fp n) (lp n + 1 - fp n))) := by
  obtain ⟨hle, hlt⟩ := fl_le n h2 h1
  unfold f_X4_lastFilled
  rw [isNode_in h1 h2]
  rw [sb, if_neg (by decide), fp_ok n h2 h1, lp_ok n h2 h1]
  show f_X4_lastFilled_19 (nI (fp n)) t FU (nI (lp n)) = _
  have h := last19_ok t (F := fp n) (by omega) FU (lp n + 1 - fp n) (by omega) (by unfold FU; omega)
  rw [show fp n + (lp n + 1 - fp n) = lp n + 1 by omega, pk_m1] at h
  exact h
