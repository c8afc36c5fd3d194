/-! PURE ROWS, 2: renew, put, emptyBelow, copyBelow -/
theorem fl_32 {m : Nat} (h1 : 32 ≤ m) (h2 : m < 64) : fp m = 2 * m - 64 ∧ lp m = 2 * m + 1 - 64 := by
  unfold fp lp
  rw [if_neg (by omega), if_pos h1, if_neg (by omega), if_pos h1]
  exact ⟨rfl, rfl⟩
theorem fl_16 {m : Nat} (h1 : 16 ≤ m) (h2 : m < 32) : fp m = 4 * m - 64 ∧ lp m = 4 * m + 3 - 64 := by
  unfold fp lp
  rw [if_neg (by omega), if_neg (by omega), if_pos h1, if_neg (by omega), if_neg (by omega), if_pos h1]
  exact ⟨rfl, rfl⟩
theorem fl_8 {m : Nat} (h1 : 8 ≤ m) (h2 : m < 16) : fp m = 8 * m - 64 ∧ lp m = 8 * m + 7 - 64 := by
  unfold fp lp
  rw [if_neg (by omega), if_neg (by omega), if_neg (by omega), if_pos h1, if_neg (by omega), if_neg (by omega), if_neg (by omega), if_pos h1]
  exact ⟨rfl, rfl⟩
theorem fl_4 {m : Nat} (h1 : 4 ≤ m) (h2 : m < 8) : fp m = 16 * m - 64 ∧ lp m = 16 * m + 15 - 64 := by
  unfold fp lp
  rw [if_neg (by omega), if_neg (by omega), if_neg (by omega), if_neg (by omega), if_pos h1, if_neg (by omega), if_neg (by omega), if_neg (by omega), if_neg (by omega), if_pos h1]
  exact ⟨rfl, rfl⟩
theorem fl_2 {m : Nat} (h1 : 2 ≤ m) (h2 : m < 4) : fp m = 32 * m - 64 ∧ lp m = 32 * m + 31 - 64 := by
  unfold fp lp
  rw [if_neg (by omega), if_neg (by omega), if_neg (by omega), if_neg (by omega), if_neg (by omega), if_pos h1, if_neg (by omega), if_neg (by omega), if_neg (by omega), if_neg (by omega), if_neg (by omega), if_pos h1]
  exact ⟨rfl, rfl⟩
theorem renew81_step {n k hi lo : Nat} {t : Nat → Int64} (hk : k < 6) (h1 : hi < 128) (h2 : 1 ≤ lo / 2) (h3 : lo ≤ hi) (h4 : hi / 2 < 2 * (lo / 2)) :
    f_X4_renew_89 (n + 1) (nI k) (nI hi) (nI lo) t = f_X4_renew_89 n (nI (k + 1)) (nI (hi / 2)) (nI (lo / 2)) (fun m => if lo / 2 ≤ m ∧ m ≤ hi / 2 then mx (t (2 * m)) (t (2 * m + 1)) else t m) := by
  rw [f_X4_renew_89]
  rw [if_neg (show ¬ (6 : Int32) ≤ nI k from nI_ge (b := 6) hk (by omega))]
  rw [show nI hi / 2 = nI (hi / 2) from pk_div (d := 2) (by omega) (by omega) (by omega), show nI lo / 2 = nI (lo / 2) from pk_div (d := 2) (by omega) (by omega) (by omega), nI_1]
  rw [renew104_ok (by omega) FU (lo / 2) t h2 (by omega) h4 (by unfold FU; omega)]
  rfl
theorem renew81_end {n : Nat} {hi lo : Int32} {t : Nat → Int64} : f_X4_renew_89 (n + 1) (nI 6) hi lo t = some t := by
  rw [f_X4_renew_89]
  rw [if_pos (show (6 : Int32) ≤ nI 6 from nI_le (Nat.le_refl 6) (by omega))]
def Clev (v v0 : Nat → Int64) (B : Nat) (t : Nat → Int64) : Prop := ∀ m, 1 ≤ m → m < 128 → t m = if B ≤ m then dg v m else dg v0 m
theorem renew_lev {v v0 : Nat → Int64} {B lo hi : Nat} {t : Nat → Int64} (hC : Clev v v0 (2 * B) t) (hB : 1 ≤ B) (hB2 : 2 * B ≤ 64) (h1 : B ≤ lo) (h2 : hi < 2 * B)
    (hloc : ∀ m, B ≤ m → m < 2 * B → ¬ (lo ≤ m ∧ m ≤ hi) → dg v m = dg v0 m) : Clev v v0 B (fun m => if lo ≤ m ∧ m ≤ hi then mx (t (2 * m)) (t (2 * m + 1)) else t m) := by
  intro m hm1 hm2
  show (if lo ≤ m ∧ m ≤ hi then mx (t (2 * m)) (t (2 * m + 1)) else t m) = _
  by_cases hr : lo ≤ m ∧ m ≤ hi
  · rw [if_pos hr, hC (2 * m) (by omega) (by omega), hC (2 * m + 1) (by omega) (by omega), if_pos (by omega), if_pos (by omega), if_pos (by omega), dg_node v hm1 (by omega)]
  · rw [if_neg hr, hC m hm1 hm2]
    by_cases hb : B ≤ m
    · rw [if_pos hb]
      by_cases hb2 : 2 * B ≤ m
      · rw [if_pos hb2]
      · rw [if_neg hb2, hloc m hb (by omega) hr]
    · rw [if_neg hb, if_neg (by omega)]
theorem isNode_in {n : Nat} (h1 : 1 ≤ n) (h : n < 128) : f_X4_isNode (nI n) = some 1 := by
  unfold f_X4_isNode
  rw [if_neg (show ¬ nI n < (1 : Int32) from nI_nlt (b := 1) h1 (by omega)), if_neg (show ¬ (128 : Int32) ≤ nI n from nI_ge (b := 128) h (by omega))]
/-- renew mends all digests, where the values differ below the node alone -/
theorem renew_ok {v v0 d : Nat → Int64} {n : Nat} (hn1 : 1 ≤ n) (hn2 : n < 128) (hd : ∀ m, 1 ≤ m → m < 128 → d m = dg v0 m) (hv : ∀ p, p < 64 → ¬ (fp n ≤ p ∧ p ≤ lp n) → v p = v0 p) :
    ∃ d' : Nat → Int64, f_X4_renew (v, d) (nI n) = some (v, d') ∧ TOK (v, d') := by
  obtain ⟨hle, hlt⟩ := fl_le n hn2 hn1
  unfold f_X4_renew
  rw [isNode_in hn1 hn2]
  rw [sb, if_neg (by decide), fp_ok n hn2 hn1, lp_ok n hn2 hn1]
  generalize fp n = F at *
  generalize lp n = E at *
  show ∃ d' : Nat → Int64, (Option.bind (f_X4_renew_21 (nI E) v FU (nI F) d) _) = _ ∧ _
  rw [renew13_ok v hlt FU F d (by omega) (by unfold FU; omega)]
  show ∃ d' : Nat → Int64, (Option.bind (f_X4_renew_89 FU 0 (64 + nI E) (64 + nI F) _) _) = _ ∧ _
  rw [show (64 : Int32) + nI E = nI (64 + E) from nI_add 64 E, show (64 : Int32) + nI F = nI (64 + F) from nI_add 64 F]
  have C0 : Clev v v0 64 (fun m => if 64 + F ≤ m ∧ m ≤ 64 + E then lf (m - 64) (v (m - 64)) else d m) := by
    intro m hm1 hm2
    show (if 64 + F ≤ m ∧ m ≤ 64 + E then lf (m - 64) (v (m - 64)) else d m) = _
    by_cases hr : 64 + F ≤ m ∧ m ≤ 64 + E
    · rw [if_pos hr, if_pos (by omega)]
      have e : dg v m = dg v (64 + (m - 64)) := by rw [show 64 + (m - 64) = m by omega]
      rw [e, dg_leaf]
    · rw [if_neg hr, hd m hm1 hm2]
      by_cases hb : 64 ≤ m
      · rw [if_pos hb]
        have e : ∀ w : Nat → Int64, dg w m = dg w (64 + (m - 64)) := fun w => by rw [show 64 + (m - 64) = m by omega]
        rw [e, e, dg_leaf, dg_leaf, hv (m - 64) (by omega) (by omega)]
      · rw [if_neg hb]
  have loc : ∀ m, 1 ≤ m → m < 64 → (lp m < F ∨ E < fp m) → dg v m = dg v0 m := fun m h1 h2 h3 => dg_same h1 (by omega) (fun p q1 q2 => hv p (by have := fl_le m (by omega) h1; omega) (by omega))
  have C1 := renew_lev (B := 32) (lo := (64 + F) / 2) (hi := (64 + E) / 2) C0 (by omega) (by omega) (by omega) (by omega) (fun m q1 q2 q3 => loc m (by omega) (by omega) (by have := fl_32 q1 (by omega); omega))
  have C2 := renew_lev (B := 16) (lo := (64 + F) / 2 / 2) (hi := (64 + E) / 2 / 2) C1 (by omega) (by omega) (by omega) (by omega) (fun m q1 q2 q3 => loc m (by omega) (by omega) (by have := fl_16 q1 (by omega); omega))
  have C3 := renew_lev (B := 8) (lo := (64 + F) / 2 / 2 / 2) (hi := (64 + E) / 2 / 2 / 2) C2 (by omega) (by omega) (by omega) (by omega) (fun m q1 q2 q3 => loc m (by omega) (by omega) (by have := fl_8 q1 (by omega); omega))
  have C4 := renew_lev (B := 4) (lo := (64 + F) / 2 / 2 / 2 / 2) (hi := (64 + E) / 2 / 2 / 2 / 2) C3 (by omega) (by omega) (by omega) (by omega) (fun m q1 q2 q3 => loc m (by omega) (by omega) (by have := fl_4 q1 (by omega); omega))
  have C5 := renew_lev (B := 2) (lo := (64 + F) / 2 / 2 / 2 / 2 / 2) (hi := (64 + E) / 2 / 2 / 2 / 2 / 2) C4 (by omega) (by omega) (by omega) (by omega) (fun m q1 q2 q3 => loc m (by omega) (by omega) (by have := fl_2 q1 (by omega); omega))
  have C6 := renew_lev (B := 1) (lo := (64 + F) / 2 / 2 / 2 / 2 / 2 / 2) (hi := (64 + E) / 2 / 2 / 2 / 2 / 2 / 2) C5 (by omega) (by omega) (by omega) (by omega) (fun m q1 q2 q3 => absurd (show _ by omega) q3)
  have hFU : FU = 4089 + 1 + 1 + 1 + 1 + 1 + 1 + 1 := rfl
  rw [hFU, show (0 : Int32) = nI 0 from rfl]
  rw [renew81_step (by omega) (by omega) (by omega) (by omega) (by omega), renew81_step (by omega) (by omega) (by omega) (by omega) (by omega), renew81_step (by omega) (by omega) (by omega) (by omega) (by omega), renew81_step (by omega) (by omega) (by omega) (by omega) (by omega), renew81_step (by omega) (by omega) (by omega) (by omega) (by omega), renew81_step (by omega) (by omega) (by omega) (by omega) (by omega), renew81_end]
  refine ⟨_, rfl, fun m h1 h2 => ?_⟩
  have := C6 m h1 h2
  rw [if_pos h1] at this
  exact this
