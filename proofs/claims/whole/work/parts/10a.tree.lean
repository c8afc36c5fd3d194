/-! PURE ROWS, 1: the digest of a node as a function of the values; what the tree's functions compute -/
theorem sb {α β : Type} (a : α) (f : α → Option β) : Option.bind (some a) f = f a := rfl
def mx (x y : Int64) : Int64 := (f_X4_mix x y).getD 0
theorem mix_mx (x y : Int64) : f_X4_mix x y = some (mx x y) := rfl
theorem mixed_mx (x y : Int64) : f_X6_mixed x y = some (mx x y) := rfl
theorem mx_00 : mx 0 0 = 0 := by decide +kernel
/-- first and last leaf below a node -/
def fp (n : Nat) : Nat := if 64 ≤ n then n - 64 else if 32 ≤ n then 2 * n - 64 else if 16 ≤ n then 4 * n - 64 else if 8 ≤ n then 8 * n - 64 else if 4 ≤ n then 16 * n - 64 else if 2 ≤ n then 32 * n - 64 else 64 * n - 64
def lp (n : Nat) : Nat := if 64 ≤ n then n - 64 else if 32 ≤ n then 2 * n + 1 - 64 else if 16 ≤ n then 4 * n + 3 - 64 else if 8 ≤ n then 8 * n + 7 - 64 else if 4 ≤ n then 16 * n + 15 - 64 else if 2 ≤ n then 32 * n + 31 - 64 else 64 * n + 63 - 64
theorem fp_ok : ∀ n, n < 128 → 1 ≤ n → f_X4_firstPath (nI n) = some (nI (fp n)) := by decide +kernel
theorem lp_ok : ∀ n, n < 128 → 1 ≤ n → f_X4_lastPath (nI n) = some (nI (lp n)) := by decide +kernel
theorem fo_ok : ∀ n, n < 128 → 1 ≤ n → f_X6_firstOf (nI n) = some (nI (fp n)) := by decide +kernel
theorem lo_ok : ∀ n, n < 128 → 1 ≤ n → f_X6_lastOf (nI n) = some (nI (lp n)) := by decide +kernel
theorem fl_le : ∀ n, n < 128 → 1 ≤ n → fp n ≤ lp n ∧ lp n < 64 := by decide +kernel
theorem fl_kid : ∀ m, m < 64 → 1 ≤ m → fp (2 * m) = fp m ∧ lp (2 * m) ≤ lp m ∧ fp m ≤ fp (2 * m + 1) ∧ lp (2 * m + 1) = lp m := by decide +kernel
theorem fl_leaf {n : Nat} (h : 64 ≤ n) : fp n = n - 64 ∧ lp n = n - 64 := by
  unfold fp lp
  rw [if_pos h, if_pos h]
  exact ⟨rfl, rfl⟩
theorem fl_1 : fp 1 = 0 ∧ lp 1 = 63 := by decide
/-- digests -/
def lf (p : Nat) (x : Int64) : Int64 := if x = 0 then 0 else mx (lN (p + 1)) x
def dgf (v : Nat → Int64) : Nat → Nat → Int64
  | 0, m => lf (m - 64) (v (m - 64))
  | k + 1, m => if 64 ≤ m then lf (m - 64) (v (m - 64)) else mx (dgf v k (2 * m)) (dgf v k (2 * m + 1))
def dg (v : Nat → Int64) (m : Nat) : Int64 := dgf v 6 m
theorem dgf_leaf (v : Nat → Int64) (k : Nat) {m : Nat} (h : 64 ≤ m) : dgf v k m = lf (m - 64) (v (m - 64)) := by
  cases k with
  | zero => rfl
  | succ k => rw [dgf, if_pos h]
theorem dgf_in (v : Nat → Int64) (k : Nat) {m : Nat} (h : ¬ 64 ≤ m) : dgf v (k + 1) m = mx (dgf v k (2 * m)) (dgf v k (2 * m + 1)) := by
  rw [dgf, if_neg h]
theorem dgf_up (v : Nat → Int64) : ∀ (k m : Nat), 64 ≤ m * 2 ^ k → dgf v (k + 1) m = dgf v k m := by
  intro k
  induction k with
  | zero =>
    intro m h
    have h : 64 ≤ m := by simpa using h
    rw [dgf_leaf v _ h, dgf_leaf v _ h]
  | succ k ih =>
    intro m h
    by_cases h1 : 64 ≤ m
    · rw [dgf_leaf v _ h1, dgf_leaf v _ h1]
    · rw [dgf_in v (k + 1) h1, dgf_in v k h1]
      have e : m * 2 ^ (k + 1) = 2 * m * 2 ^ k := by rw [Nat.pow_succ]; rw [Nat.mul_comm (2 ^ k) 2, ← Nat.mul_assoc, Nat.mul_comm m 2]
      have h2 : 64 ≤ 2 * m * 2 ^ k := by rw [← e]; exact h
      have h3 : 64 ≤ (2 * m + 1) * 2 ^ k := Nat.le_trans h2 (Nat.mul_le_mul_right _ (Nat.le_succ _))
      rw [ih _ h2, ih _ h3]
theorem dg_leaf (v : Nat → Int64) (p : Nat) : dg v (64 + p) = lf p (v p) := by
  unfold dg
  rw [dgf_leaf v 6 (by omega), Nat.add_sub_cancel_left]
theorem dg_node (v : Nat → Int64) {m : Nat} (h1 : 1 ≤ m) (h : m < 64) : dg v m = mx (dg v (2 * m)) (dg v (2 * m + 1)) := by
  unfold dg
  have e1 := dgf_up v 5 (2 * m) (by omega)
  have e2 := dgf_up v 5 (2 * m + 1) (by omega)
  rw [e1, e2, dgf_in v 5 (by omega)]
/-- a digest hangs on the leaves below alone -/
theorem dg_loc {v w : Nat → Int64} : ∀ (k m : Nat), 1 ≤ m → m < 128 → 128 ≤ m + k → (∀ p, fp m ≤ p → p ≤ lp m → v p = w p) → dg v m = dg w m := by
  intro k
  induction k using Nat.strongRecOn with
  | ind k ih =>
    intro m h1 h2 h3 h
    by_cases hm : 64 ≤ m
    · obtain ⟨a, b⟩ := fl_leaf hm
      have e : m = 64 + (m - 64) := by omega
      rw [e, dg_leaf, dg_leaf, h (m - 64) (by omega) (by omega)]
    · obtain ⟨a, b, c, d⟩ := fl_kid m (by omega) h1
      rw [dg_node v h1 (by omega), dg_node w h1 (by omega)]
      rw [ih (128 - 2 * m) (by omega) (2 * m) (by omega) (by omega) (by omega) (fun p q1 q2 => h p (by omega) (by omega))]
      rw [ih (128 - (2 * m + 1)) (by omega) (2 * m + 1) (by omega) (by omega) (by omega) (fun p q1 q2 => h p (by omega) (by omega))]
theorem dg_same {v w : Nat → Int64} {m : Nat} (h1 : 1 ≤ m) (h2 : m < 128) (h : ∀ p, fp m ≤ p → p ≤ lp m → v p = w p) : dg v m = dg w m := dg_loc 128 m h1 h2 (by omega) h
theorem dg_eq64 {v w : Nat → Int64} (h : ∀ p, p < 64 → v p = w p) {m : Nat} (h1 : 1 ≤ m) (h2 : m < 128) : dg v m = dg w m :=
  dg_same h1 h2 (fun p _ q => h p (by have := fl_le m h2 h1; omega))
theorem dg_zero : ∀ (k m : Nat), 1 ≤ m → m < 128 → 128 ≤ m + k → dg (fun _ => 0) m = 0 := by
  intro k
  induction k using Nat.strongRecOn with
  | ind k ih =>
    intro m h1 h2 h3
    by_cases hm : 64 ≤ m
    · have e : m = 64 + (m - 64) := by omega
      rw [e, dg_leaf]
      rfl
    · rw [dg_node _ h1 (by omega), ih (128 - 2 * m) (by omega) (2 * m) (by omega) (by omega) (by omega), ih (128 - (2 * m + 1)) (by omega) (2 * m + 1) (by omega) (by omega) (by omega), mx_00]
/-- a tree whose digests are those of its values -/
def TOK (t : S_Tree) : Prop := ∀ m, 1 ≤ m → m < 128 → t.2 m = dg t.1 m
theorem updL_at (f : Nat → Int64) (k : Nat) (x : Int64) (j : Nat) : vp_updL f k x j = if j = k then x else f j := rfl
theorem upd_at (f : Nat → Int32) (k : Nat) (x : Int32) (j : Nat) : upd f k x j = if j = k then x else f j := rfl
/-- the leaves' loop of renew -/
theorem renew13_ok (v : Nat → Int64) {e : Nat} (he : e < 64) : ∀ (n i : Nat) (t : Nat → Int64), i ≤ e + 1 → e + 1 - i < n →
    f_X4_renew_21 (nI e) v n (nI i) t = some (fun m => if 64 + i ≤ m ∧ m ≤ 64 + e then lf (m - 64) (v (m - 64)) else t m) := by
  intro n
  induction n with
  | zero => intro i t h1 h2; omega
  | succ n ih =>
    intro i t h1 h2
    rw [f_X4_renew_21]
    by_cases hc : e < i
    · rw [if_pos (nI_lt hc (by omega))]
      refine congrArg some (funext fun m => ?_)
      rw [if_neg (by omega)]
    · rw [if_neg (nI_nlt (by omega) (by omega))]
      have hib : ib (nI i) 64 = true := ib_nI (by omega) (by omega)
      have e1 : (64 : Int32) + nI i = nI (64 + i) := nI_add 64 i
      have hib2 : ib (64 + nI i) 128 = true := by rw [e1]; exact ib_nI (by omega) (by omega)
      have e2 : (64 + nI i).toNatClampNeg = 64 + i := by rw [e1]; exact nI_clamp (by omega)
      have e3 : (nI i).toNatClampNeg = i := nI_clamp (by omega)
      have e4 : nI i + 1 = nI (i + 1) := nI_1 i
      have e5 : (nI i).toInt64 + 1 = lN (i + 1) := by rw [nI_l (by omega)]; exact lN_1 i
      rw [kb_t hib, e2, e3, e4, e5]
      have fin : ∀ y : Int64, y = lf i (v i) → f_X4_renew_21 (nI e) v n (nI (i + 1)) (vp_updL t (64 + i) y) = some (fun m => if 64 + i ≤ m ∧ m ≤ 64 + e then lf (m - 64) (v (m - 64)) else t m) := by
        intro y hy
        rw [ih (i + 1) _ (by omega) (by omega)]
        refine congrArg some (funext fun m => ?_)
        by_cases hm : m = 64 + i
        · subst hm
          rw [if_neg (by omega), if_pos (by omega), updL_at, if_pos rfl, hy, Nat.add_sub_cancel_left]
        · by_cases hm2 : 64 + (i + 1) ≤ m ∧ m ≤ 64 + e
          · rw [if_pos hm2, if_pos (by omega)]
          · rw [if_neg hm2, if_neg (by omega), updL_at, if_neg hm]
      by_cases hz : v i = 0
      · rw [if_pos hz, kb_t hib2]
        exact fin 0 (by unfold lf; rw [if_pos hz])
      · rw [if_neg hz, kb_t hib, mix_mx]
        show kb _ _ = _
        rw [kb_t hib2]
        exact fin _ (by unfold lf; rw [if_neg hz])
/-- one level's loop of renew -/
theorem renew104_ok {e : Nat} (he : e < 64) : ∀ (n i : Nat) (t : Nat → Int64), 1 ≤ i → i ≤ e + 1 → e < 2 * i → e + 1 - i < n →
    f_X4_renew_112 (nI e) n (nI i) t = some (fun m => if i ≤ m ∧ m ≤ e then mx (t (2 * m)) (t (2 * m + 1)) else t m) := by
  intro n
  induction n with
  | zero => intro i t h0 h1 h2 h3; omega
  | succ n ih =>
    intro i t h0 h1 h2 h3
    rw [f_X4_renew_112]
    by_cases hc : e < i
    · rw [if_pos (nI_lt hc (by omega))]
      refine congrArg some (funext fun m => ?_)
      rw [if_neg (by omega)]
    · rw [if_neg (nI_nlt (by omega) (by omega))]
      have e1 : (2 : Int32) * nI i = nI (2 * i) := pk_mul 2 i
      have e2 : nI (2 * i) + 1 = nI (2 * i + 1) := nI_1 _
      have e4 : nI i + 1 = nI (i + 1) := nI_1 i
      rw [e1, e2, e4, kb_t (ib_nI (by omega) (by omega)), kb_t (ib_nI (by omega) (by omega)), nI_clamp (by omega), nI_clamp (by omega), nI_clamp (by omega), mix_mx]
      show kb _ _ = _
      rw [kb_t (ib_nI (by omega) (by omega)), ih (i + 1) _ (by omega) (by omega) (by omega) (by omega)]
      refine congrArg some (funext fun m => ?_)
      by_cases hm : m = i
      · subst hm
        rw [if_neg (by omega), if_pos (by omega), updL_at, if_pos rfl]
      · by_cases hm2 : i + 1 ≤ m ∧ m ≤ e
        · rw [if_pos hm2, if_pos (by omega), updL_at, updL_at, if_neg (by omega), if_neg (by omega)]
        · rw [if_neg hm2, if_neg (by omega), updL_at, if_neg hm]
