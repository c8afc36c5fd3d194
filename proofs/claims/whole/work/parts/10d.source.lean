/-! PURE ROWS, 4: the source's states -/
def sv (pa : Nat → Int32) (va : Nat → Int64) : Nat → Nat → Int64
  | 0 => fun _ => 0
  | k + 1 => vp_updL (sv pa va k) (pa (k + 1)).toNatClampNeg (va (k + 1))
def pOK (pa : Nat → Int32) (h : Nat) : Prop := ∀ k, 1 ≤ k → k ≤ h → ∃ j, j < 64 ∧ pa k = nI j
theorem sv_congr {pa pb : Nat → Int32} {va vb : Nat → Int64} : ∀ (h : Nat), (∀ k, 1 ≤ k → k ≤ h → pa k = pb k ∧ va k = vb k) → sv pa va h = sv pb vb h := by
  intro h
  induction h with
  | zero => intro _; rfl
  | succ h ih =>
    intro q
    rw [sv, sv, ih (fun k a b => q k a (by omega)), (q (h + 1) (by omega) (by omega)).1, (q (h + 1) (by omega) (by omega)).2]
theorem zero2_ok : ∀ (n i : Nat) (t : Nat → Int64), i ≤ 64 → 64 - i < n → f_X3_copyState_2 n (nI i) t = some (fun m => if i ≤ m ∧ m < 64 then 0 else t m) := by
  intro n
  induction n with
  | zero => intro i t h1 h2; omega
  | succ n ih =>
    intro i t h1 h2
    rw [f_X3_copyState_2]
    by_cases hc : 64 ≤ i
    · rw [if_pos (show (64 : Int32) ≤ nI i from nI_le (a := 64) hc (by omega))]
      refine congrArg some (funext fun m => ?_)
      rw [if_neg (by omega)]
    · rw [if_neg (show ¬ (64 : Int32) ≤ nI i from nI_ge (b := 64) (by omega) (by omega)), kb_t (ib_nI (by omega) (by omega)), nI_1, nI_clamp (by omega), ih (i + 1) _ (by omega) (by omega)]
      refine congrArg some (funext fun m => ?_)
      by_cases hm : m = i
      · subst hm
        rw [if_neg (by omega), if_pos (by omega), updL_at, if_pos rfl]
      · by_cases hm2 : i + 1 ≤ m ∧ m < 64
        · rw [if_pos hm2, if_pos (by omega)]
        · rw [if_neg hm2, if_neg (by omega), updL_at, if_neg hm]
theorem zero2m_ok : ∀ (n i : Nat) (t : Nat → Int64), i ≤ 64 → 64 - i < n → f_X6_stateAt_2 n (nI i) t = some (fun m => if i ≤ m ∧ m < 64 then 0 else t m) := by
  intro n
  induction n with
  | zero => intro i t h1 h2; omega
  | succ n ih =>
    intro i t h1 h2
    rw [f_X6_stateAt_2]
    by_cases hc : 64 ≤ i
    · rw [if_pos (show (64 : Int32) ≤ nI i from nI_le (a := 64) hc (by omega))]
      refine congrArg some (funext fun m => ?_)
      rw [if_neg (by omega)]
    · rw [if_neg (show ¬ (64 : Int32) ≤ nI i from nI_ge (b := 64) (by omega) (by omega)), kb_t (ib_nI (by omega) (by omega)), nI_1, nI_clamp (by omega), ih (i + 1) _ (by omega) (by omega)]
      refine congrArg some (funext fun m => ?_)
      by_cases hm : m = i
      · subst hm
        rw [if_neg (by omega), if_pos (by omega), updL_at, if_pos rfl]
      · by_cases hm2 : i + 1 ≤ m ∧ m < 64
        · rw [if_pos hm2, if_pos (by omega)]
        · rw [if_neg hm2, if_neg (by omega), updL_at, if_neg hm]
/-- the class's loop over the heights -/
theorem copy33_ok {pa : Nat → Int32} {va : Nat → Int64} {top : Int32} {h : Nat} (hh : h ≤ 200) (hp : pOK pa h) : ∀ (n k : Nat) (t : Nat → Int64), k ≤ h → h - k < n → (∀ p, p < 64 → t p = sv pa va k p) →
    ∃ t' : Nat → Int64, f_X3_copyState_33 (nI h) (pa, va, top) n (nI (k + 1)) t = some t' ∧ ∀ p, p < 64 → t' p = sv pa va h p := by
  intro n
  induction n with
  | zero => intro k t h1 h2; omega
  | succ n ih =>
    intro k t h1 h2 h3
    rw [f_X3_copyState_33]
    by_cases hc : h < k + 1
    · rw [if_pos (nI_lt hc (by omega))]
      have e : k = h := by omega
      exact ⟨t, rfl, by rw [← e]; exact h3⟩
    · rw [if_neg (nI_nlt (by omega) (by omega)), kb_t (ib_nI (by omega) (by omega)), nI_1, nI_clamp (by omega)]
      obtain ⟨j, hj, ej⟩ := hp (k + 1) (by omega) (by omega)
      dsimp only
      rw [ej, isPath_in hj, sb, if_neg (by decide), kb_t (ib_nI (by omega) (by omega)), kb_t (ib_nI hj (by omega)), nI_clamp (by omega)]
      refine ih (k + 1) _ (by omega) (by omega) (fun p hp2 => ?_)
      show vp_updL t j (va (k + 1)) p = _
      rw [sv, ej, nI_clamp (by omega), updL_at, updL_at, h3 p hp2]
theorem state23_ok {pa : Nat → Int32} {va : Nat → Int64} {h : Nat} (hh : h ≤ 200) (hp : pOK pa h) : ∀ (n k : Nat) (t : Nat → Int64), k ≤ h → h - k < n → (∀ p, p < 64 → t p = sv pa va k p) →
    ∃ t' : Nat → Int64, f_X6_stateAt_23 (nI h) pa va n (nI (k + 1)) t = some t' ∧ ∀ p, p < 64 → t' p = sv pa va h p := by
  intro n
  induction n with
  | zero => intro k t h1 h2; omega
  | succ n ih =>
    intro k t h1 h2 h3
    rw [f_X6_stateAt_23]
    by_cases hc : h < k + 1
    · rw [if_pos (nI_lt hc (by omega))]
      have e : k = h := by omega
      exact ⟨t, rfl, by rw [← e]; exact h3⟩
    · rw [if_neg (nI_nlt (by omega) (by omega)), kb_t (ib_nI (by omega) (by omega)), kb_t (ib_nI (by omega) (by omega)), nI_1, nI_clamp (by omega)]
      obtain ⟨j, hj, ej⟩ := hp (k + 1) (by omega) (by omega)
      rw [ej, kb_t (ib_nI hj (by omega)), nI_clamp (by omega)]
      refine ih (k + 1) _ (by omega) (by omega) (fun p hp2 => ?_)
      rw [sv, ej, nI_clamp (by omega), updL_at, updL_at, h3 p hp2]
theorem copyState_in {pa : Nat → Int32} {va : Nat → Int64} {top h : Nat} (hh : top ≤ 200) (hle : h ≤ top) (hp : pOK pa top) {t : S_Tree} (ht : TOK t) :
    ∃ t' : S_Tree, f_X3_copyState (pa, va, nI top) t (nI h) = some t' ∧ TOK t' ∧ ∀ p, p < 64 → t'.1 p = sv pa va h p := by
  unfold f_X3_copyState
  rw [show (0 : Int32) = nI 0 from rfl, zero2_ok FU 0 t.1 (by omega) (by unfold FU; omega)]
  show ∃ t' : S_Tree, Option.bind (f_X3_copyState_33 (if nI top < nI h then nI top else nI h) (pa, va, nI top) FU (nI (0 + 1)) _) _ = some t' ∧ _
  rw [if_neg (nI_nlt hle (by omega))]
  obtain ⟨w, e, hw⟩ := copy33_ok (va := va) (top := nI top) (h := h) (by omega) (fun k a b => hp k a (by omega)) FU 0 (fun m => if 0 ≤ m ∧ m < 64 then 0 else t.1 m) (by omega) (by unfold FU; omega) (fun p hp2 => by rw [if_pos ⟨Nat.zero_le _, hp2⟩]; rfl)
  rw [e]
  obtain ⟨d', e2, ok⟩ := renew_ok (v := w) (v0 := t.1) (d := t.2) (n := 1) (by omega) (by omega) ht (fun q hq hn => absurd ⟨by have := fl_1; omega, by have := fl_1; omega⟩ hn)
  show ∃ t' : S_Tree, Option.bind (f_X4_renew (w, t.2) (nI 1)) _ = some t' ∧ _
  rw [e2]
  exact ⟨_, rfl, ok, hw⟩
/-- the class's value at a height -/
theorem valueAt9_ok {pa : Nat → Int32} {va : Nat → Int64} {top : Int32} {h : Nat} (hh : h ≤ 200) (hp : pOK pa h) (p : Nat) (hp64 : p < 64) : ∀ (n k : Nat), k ≤ h → k < n →
    f_X3_valueAt_9 (nI p) (pa, va, top) n (nI k) = some (sv pa va k p) := by
  intro n
  induction n with
  | zero => intro k h1 h2; omega
  | succ n ih =>
    intro k h1 h2
    rw [f_X3_valueAt_9]
    cases k with
    | zero => rw [if_pos (show nI 0 < 1 by decide)]; rfl
    | succ k =>
      rw [if_neg (show ¬ nI (k + 1) < (1 : Int32) from nI_nlt (b := 1) (by omega) (by omega)), kb_t (ib_nI (by omega) (by omega)), nI_clamp (by omega), pk_m1, sv]
      obtain ⟨j, hj, ej⟩ := hp (k + 1) (by omega) (by omega)
      dsimp only
      have hcl : (pa (k + 1)).toNatClampNeg = j := by rw [ej]; exact nI_clamp (by omega)
      rw [updL_at, hcl]
      by_cases hjp : j = p
      · have hq : pa (k + 1) = nI p := by rw [ej, hjp]
        rw [if_pos hq, if_pos hjp.symm, kb_t (ib_nI (by omega) (by omega))]
      · have hq : ¬ pa (k + 1) = nI p := fun z => hjp ((nI_eq (by omega) (by omega)).mp (ej.symm.trans z))
        rw [if_neg hq, if_neg (fun z => hjp z.symm), ih k (by omega) (by omega)]
/-- a path that there is none of is never found -/
theorem valueAt9_out {pa : Nat → Int32} {va : Nat → Int64} {top : Int32} {h : Nat} (hh : h ≤ 200) (hp : pOK pa h) (y : Int32) (hy : y < 0 ∨ nI 64 ≤ y) : ∀ (n k : Nat), k ≤ h → k < n →
    f_X3_valueAt_9 y (pa, va, top) n (nI k) = some 0 := by
  intro n
  induction n with
  | zero => intro k h1 h2; omega
  | succ n ih =>
    intro k h1 h2
    rw [f_X3_valueAt_9]
    cases k with
    | zero => rw [if_pos (show nI 0 < 1 by decide)]
    | succ k =>
      rw [if_neg (show ¬ nI (k + 1) < (1 : Int32) from nI_nlt (b := 1) (by omega) (by omega)), kb_t (ib_nI (by omega) (by omega)), nI_clamp (by omega), pk_m1]
      obtain ⟨j, hj, ej⟩ := hp (k + 1) (by omega) (by omega)
      dsimp only
      have hq : ¬ pa (k + 1) = y := fun z => by
        rw [← z, ej] at hy
        rcases hy with q | q
        · exact nI_pos (by omega) q
        · exact nI_ge (b := 64) hj (by omega) q
      rw [if_neg hq, ih k (by omega) (by omega)]
