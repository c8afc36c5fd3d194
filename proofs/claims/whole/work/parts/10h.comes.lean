/-! PURE ROWS, 8: what comes of an ask -/
/-- the values of a row below n as a giver of kind kd gives them -/
def rw1 (v : Nat → Int64) (F K : Nat) : Nat → Int64 := match ffd v F K with
  | none => vp_updL v F 1
  | some p => vp_updL v p (v p ^^^ 1)
def rw2 (v : Nat → Int64) (F K : Nat) : Nat → Int64 := match lfd v F K with
  | none => v
  | some p => vp_updL v p 0
def rwk (kd : Int32) (v : Nat → Int64) (n : Nat) : Nat → Int64 := if kd = 1 then rw1 v (fp n) (lp n + 1 - fp n) else if kd = 2 then rw2 v (fp n) (lp n + 1 - fp n) else v
theorem ffd_none (v : Nat → Int64) : ∀ (k i : Nat), ffd v i k = none → ∀ j, i ≤ j → j < i + k → v j = 0 := by
  intro k
  induction k with
  | zero => intro i _ j h1 h2; omega
  | succ k ih =>
    intro i h j h1 h2
    rw [ffd] at h
    by_cases hz : v i = 0
    · rw [if_pos hz] at h
      by_cases hj : j = i
      · rw [hj]; exact hz
      · exact ih (i + 1) h j (by omega) (by omega)
    · rw [if_neg hz] at h; cases h
theorem lfd_none (v : Nat → Int64) (i : Nat) : ∀ (k : Nat), lfd v i k = none → ∀ j, i ≤ j → j < i + k → v j = 0 := by
  intro k
  induction k with
  | zero => intro _ j h1 h2; omega
  | succ k ih =>
    intro h j h1 h2
    rw [lfd] at h
    by_cases hz : v (i + k) = 0
    · rw [if_pos hz] at h
      by_cases hj : j = i + k
      · rw [hj]; exact hz
      · exact ih h j (by omega) (by omega)
    · rw [if_neg hz] at h; cases h
/-- rows that agree below n are given alike there -/
theorem rwk_congr {kd : Int32} {v w : Nat → Int64} {n : Nat} (h1 : 1 ≤ n) (h2 : n < 128) (h : ∀ p, fp n ≤ p → p ≤ lp n → v p = w p) : ∀ p, fp n ≤ p → p ≤ lp n → rwk kd v n p = rwk kd w n p := by
  obtain ⟨hle, hlt⟩ := fl_le n h2 h1
  intro p a b
  unfold rwk
  by_cases k1 : kd = 1
  · rw [if_pos k1, if_pos k1]
    unfold rw1
    rw [ffd_congr (lp n + 1 - fp n) (fp n) (fun j c d => h j c (by omega))]
    cases hf : ffd w (fp n) (lp n + 1 - fp n) with
    | none =>
      show vp_updL v (fp n) 1 p = vp_updL w (fp n) 1 p
      rw [updL_at, updL_at, h p a b]
    | some q =>
      have hq := ffd_in w _ _ q hf
      show vp_updL v q (v q ^^^ 1) p = vp_updL w q (w q ^^^ 1) p
      rw [updL_at, updL_at, h p a b, h q (by omega) (by omega)]
  · rw [if_neg k1, if_neg k1]
    by_cases k2 : kd = 2
    · rw [if_pos k2, if_pos k2]
      unfold rw2
      rw [lfd_congr (fp n) (lp n + 1 - fp n) (fun j c d => h j c (by omega))]
      cases hf : lfd w (fp n) (lp n + 1 - fp n) with
      | none => exact h p a b
      | some q =>
        show vp_updL v q 0 p = vp_updL w q 0 p
        rw [updL_at, updL_at, h p a b]
    · rw [if_neg k2, if_neg k2]
      exact h p a b
theorem cpy_congr {v w w' : Nat → Int64} {n : Nat} (h : ∀ p, fp n ≤ p → p ≤ lp n → w p = w' p) : cpy v w n = cpy v w' n := by
  funext p
  unfold cpy
  by_cases hp : fp n ≤ p ∧ p ≤ lp n
  · rw [if_pos hp, if_pos hp, h p hp.1 hp.2]
  · rw [if_neg hp, if_neg hp]
theorem cntB_congr {v w : Nat → Int64} {n : Nat} (h1 : 1 ≤ n) (h2 : n < 128) (h : ∀ p, fp n ≤ p → p ≤ lp n → v p = w p) : cntB v n = cntB w n := by
  obtain ⟨hle, hlt⟩ := fl_le n h2 h1
  unfold cntB
  exact cnt_congr _ _ (fun j a b => h j a (by omega))
/-- the class: the leaves of a piece -/
theorem turnFirst_in {L : S_Tree} (hL : TOK L) {n : Nat} (h1 : 1 ≤ n) (h2 : n < 128) (pr : Int32) (le ri : Int64) (by0 : Int32) :
    ∃ L' : S_Tree, f_X2_turnFirst (L, nI n, pr, le, ri, by0) = some (L', nI n, pr, le, ri, by0) ∧ TOK L' ∧ L'.1 = rw1 L.1 (fp n) (lp n + 1 - fp n) := by
  obtain ⟨hle, hlt⟩ := fl_le n h2 h1
  unfold f_X2_turnFirst rw1
  show ∃ L' : S_Tree, Option.bind (f_X4_firstFilled L (nI n)) _ = _ ∧ _
  rw [firstFilled_in h1 h2]
  cases hf : ffd L.1 (fp n) (lp n + 1 - fp n) with
  | none =>
    have hz := ffd_none L.1 _ _ hf (fp n) (Nat.le_refl _) (by omega)
    show ∃ L' : S_Tree, Option.bind (if (-1 : Int32) = -1 then Option.bind (f_X4_firstPath (nI n)) _ else _) _ = _ ∧ _
    rw [if_pos rfl, fp_ok n h2 h1]
    show ∃ L' : S_Tree, Option.bind (f_X4_valueOf L (nI (fp n))) _ = _ ∧ _
    rw [valueOf_in (by omega), hz]
    obtain ⟨t', e, ok, ev⟩ := put_in hL (p := fp n) (by omega) ((0 : Int64) ^^^ 1)
    show ∃ L' : S_Tree, Option.bind (f_X4_put L (nI (fp n)) ((0 : Int64) ^^^ 1)) _ = _ ∧ _
    rw [e]
    exact ⟨t', rfl, ok, ev⟩
  | some q =>
    have hq := ffd_in L.1 _ _ q hf
    show ∃ L' : S_Tree, Option.bind (if nI q = -1 then _ else some (nI q)) _ = _ ∧ _
    rw [if_neg (fun z => nI_pos (n := q) (by omega) (by rw [z]; decide))]
    show ∃ L' : S_Tree, Option.bind (f_X4_valueOf L (nI q)) _ = _ ∧ _
    rw [valueOf_in (by omega)]
    obtain ⟨t', e, ok, ev⟩ := put_in hL (p := q) (by omega) (L.1 q ^^^ 1)
    show ∃ L' : S_Tree, Option.bind (f_X4_put L (nI q) (L.1 q ^^^ 1)) _ = _ ∧ _
    rw [e]
    exact ⟨t', rfl, ok, ev⟩
/-- BYTES of a row, of a leaf -/
def rbytes (v : Nat → Int64) (n : Nat) : Int32 := if 64 ≤ n then 8 else 4 + 12 * nI (cntB v n)
theorem fillLeaves_in {pc : S_Piece} (hL : TOK pc.1) (T : S_Tree) (kd : Int32) {n : Nat} (h1 : 1 ≤ n) (h2 : n < 128) :
    ∃ L' : S_Tree, f_X2_fillLeaves pc T kd (nI n) = some (L', nI n, 0, pc.2.2.2.1, pc.2.2.2.2.1, rbytes L'.1 n) ∧ TOK L' ∧ ∀ p, fp n ≤ p → p ≤ lp n → L'.1 p = rwk kd T.1 n p := by
  obtain ⟨hle, hlt⟩ := fl_le n h2 h1
  obtain ⟨C, e, ok, ev⟩ := copyBelow_in hL T h1 h2
  have hag : ∀ p, fp n ≤ p → p ≤ lp n → C.1 p = T.1 p := fun p a b => by rw [ev]; unfold cpy; rw [if_pos ⟨a, b⟩]
  have hag2 := rwk_congr (kd := kd) h1 h2 hag
  unfold f_X2_fillLeaves
  rw [e]
  have tail : ∀ L' : S_Tree, (Option.bind (some ((L', nI n, 0, pc.2.2.2.1, pc.2.2.2.2.1, pc.2.2.2.2.2) : S_Piece)) fun v2 => (f_X4_isLeaf v2.2.1).bind fun u3 => if u3 = 0 then ((f_X4_filledBelow v2.1 v2.2.1).bind fun u5 => some (v2.1, v2.2.1, v2.2.2.1, v2.2.2.2.1, v2.2.2.2.2.1, (4 + (12 * u5)))) else (some (v2.1, v2.2.1, v2.2.2.1, v2.2.2.2.1, v2.2.2.2.2.1, 8))) = some (L', nI n, 0, pc.2.2.2.1, pc.2.2.2.2.1, rbytes L'.1 n) := by
    intro L'
    show Option.bind (f_X4_isLeaf (nI n)) _ = _
    rw [isLeaf_in h2]
    unfold rbytes
    by_cases h64 : 64 ≤ n
    · rw [if_pos h64, if_pos h64]
      rfl
    · rw [if_neg h64, if_neg h64]
      show Option.bind (f_X4_filledBelow L' (nI n)) _ = _
      rw [filledBelow_in h1 h2]
      rfl
  show ∃ L' : S_Tree, Option.bind (if kd = 1 then Option.bind (f_X2_turnFirst (C, nI n, 0, pc.2.2.2.1, pc.2.2.2.2.1, pc.2.2.2.2.2)) _ else Option.bind (if kd = 2 then Option.bind (f_X4_lastFilled C (nI n)) (fun u9 => Option.bind (f_X4_put C u9 0) fun u10 => some u10) else some C) _) _ = _ ∧ _
  by_cases k1 : kd = 1
  · rw [if_pos k1]
    obtain ⟨L', e2, ok2, ev2⟩ := turnFirst_in ok h1 h2 0 pc.2.2.2.1 pc.2.2.2.2.1 pc.2.2.2.2.2
    rw [e2]
    refine ⟨L', tail L', ok2, fun p a b => ?_⟩
    rw [← hag2 p a b, ev2]
    unfold rwk
    rw [if_pos k1]
  · rw [if_neg k1]
    by_cases k2 : kd = 2
    · rw [if_pos k2, lastFilled_in h1 h2]
      cases hf : lfd C.1 (fp n) (lp n + 1 - fp n) with
      | none =>
        show ∃ L' : S_Tree, Option.bind (Option.bind (Option.bind (f_X4_put C (-1) 0) _) _) _ = _ ∧ _
        rw [put_out (by decide)]
        refine ⟨C, tail C, ok, fun p a b => ?_⟩
        rw [← hag2 p a b]
        unfold rwk rw2
        rw [if_neg k1, if_pos k2, hf]
      | some q =>
        have hq := lfd_in C.1 _ _ q hf
        obtain ⟨t', e3, ok3, ev3⟩ := put_in ok (p := q) (by omega) 0
        show ∃ L' : S_Tree, Option.bind (Option.bind (Option.bind (f_X4_put C (nI q) 0) _) _) _ = _ ∧ _
        rw [e3]
        refine ⟨t', tail t', ok3, fun p a b => ?_⟩
        rw [← hag2 p a b, ev3]
        unfold rwk rw2
        rw [if_neg k1, if_pos k2, hf]
    · rw [if_neg k2]
      refine ⟨C, tail C, ok, fun p a b => ?_⟩
      rw [← hag2 p a b]
      unfold rwk
      rw [if_neg k1, if_neg k2]
/-- the two digests below n as a giver of kind kd gives them -/
def prk (kd : Int32) (v : Nat → Int64) (n : Nat) : Int64 × Int64 := if kd = 1 then (dg v (2 * n) ^^^ 1, dg v (2 * n + 1)) else if kd = 2 then (dg v (2 * n + 1), dg v (2 * n)) else (dg v (2 * n), dg v (2 * n + 1))
theorem fillPair_in (pc : S_Piece) {T : S_Tree} (hT : TOK T) (kd : Int32) {n : Nat} (h1 : 1 ≤ n) (h2 : n < 64) :
    f_X2_fillPair pc T kd (nI n) = some (pc.1, nI n, 1, (prk kd T.1 n).1, (prk kd T.1 n).2, 16) := by
  unfold f_X2_fillPair prk
  rw [show (2 : Int32) * nI n = nI (2 * n) from pk_mul 2 n, nI_1, digestOf_in (by omega) (by omega), digestOf_in (by omega) (by omega), hT (2 * n) (by omega) (by omega), hT (2 * n + 1) (by omega) (by omega)]
  show Option.bind (if kd = 2 then some (1 : Int32) else some 0) _ = _
  by_cases k2 : kd = 2
  · rw [if_pos k2]
    have k1 : ¬ kd = 1 := by rw [k2]; decide
    rw [if_neg k1, if_pos k2]
    show (if kd = 1 then _ else _) = _
    rw [if_neg k1]
  · rw [if_neg k2]
    show (if kd = 1 then _ else _) = _
    by_cases k1 : kd = 1
    · rw [if_pos k1, if_pos k1]
    · rw [if_neg k1, if_neg k1, if_neg k2]
theorem ownDigest_row {L : S_Tree} (hL : TOK L) {n : Nat} (h1 : 1 ≤ n) (h2 : n < 128) (le ri : Int64) (b : Int32) : f_X2_ownDigest (L, nI n, 0, le, ri, b) = some (dg L.1 n) := by
  unfold f_X2_ownDigest
  show (if (0 : Int32) = 0 then Option.bind (f_X4_digestOf L (nI n)) _ else _) = _
  rw [if_pos rfl, digestOf_in h1 h2, hL n h1 h2]
  rfl
theorem ownDigest_pair (L : S_Tree) (nd : Int32) (le ri : Int64) (b : Int32) : f_X2_ownDigest (L, nd, 1, le, ri, b) = some (mx le ri) := by
  unfold f_X2_ownDigest
  show (if (1 : Int32) = 0 then _ else Option.bind (f_X4_mix le ri) _) = _
  rw [if_neg (by decide), mix_mx]
  rfl
