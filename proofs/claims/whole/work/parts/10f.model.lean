/-! PURE ROWS, 6: the reference's small functions -/
theorem in_1 {j a b : Nat} (h1 : a ≤ j) (h2 : j ≤ b) (hb : b < 2 ^ 31) : f_X6_in (nI j) (nI a) (nI b) = some 1 := by
  unfold f_X6_in
  rw [if_neg (nI_nlt h1 (by omega)), if_neg (nI_nlt h2 hb)]
theorem in_0 {x lo hi : Int32} (h : x < lo ∨ hi < x) : f_X6_in x lo hi = some 0 := by
  unfold f_X6_in
  by_cases h1 : x < lo
  · rw [if_pos h1]
  · rw [if_neg h1, if_pos (h.resolve_left h1)]
theorem lt_of_nI_le {x : Int32} {b : Nat} (hb : b + 1 < 2 ^ 31) (h : nI (b + 1) ≤ x) : nI b < x := by
  rw [Int32.le_iff_toInt_le, nI_toInt hb] at h
  rw [Int32.lt_iff_toInt_lt, nI_toInt (by omega)]
  omega
theorem in_or (x : Int32) {b : Nat} (hb : b + 1 < 2 ^ 31) : (∃ j, j ≤ b ∧ x = nI j ∧ f_X6_in x 0 (nI b) = some 1) ∨ (f_X6_in x 0 (nI b) = some 0 ∧ (x < 0 ∨ nI (b + 1) ≤ x)) := by
  rcases pk_ix x (n := b + 1) hb with h | h | ⟨j, hj, rfl⟩
  · exact Or.inr ⟨in_0 (Or.inl h), Or.inl h⟩
  · exact Or.inr ⟨in_0 (Or.inr (lt_of_nI_le hb h)), Or.inr h⟩
  · exact Or.inl ⟨j, by omega, rfl, in_1 (a := 0) (Nat.zero_le _) (by omega) (by omega)⟩
/-- 'in(x, 0, n - 1)' -/
theorem in_pred (x : Int32) {n : Nat} (hn : n < 2 ^ 31) : (∃ j, j < n ∧ x = nI j ∧ f_X6_in x 0 (nI n - 1) = some 1) ∨ (f_X6_in x 0 (nI n - 1) = some 0 ∧ (x < 0 ∨ nI n ≤ x)) := by
  cases n with
  | zero =>
    refine Or.inr ?_
    by_cases h : x < 0
    · exact ⟨in_0 (Or.inl h), Or.inl h⟩
    · have h1 : (0 : Int32) ≤ x := by
        rw [Int32.lt_iff_toInt_lt, Int32.toInt_zero] at h
        rw [Int32.le_iff_toInt_le, Int32.toInt_zero]
        omega
      refine ⟨in_0 (Or.inr ?_), Or.inr h1⟩
      rw [show nI 0 - 1 = -1 from rfl, Int32.lt_iff_toInt_lt]
      rw [Int32.le_iff_toInt_le, Int32.toInt_zero] at h1
      exact Int.lt_of_lt_of_le (by decide) h1
  | succ n =>
    rw [nI_pred]
    rcases in_or x hn with ⟨j, h1, h2, h3⟩ | h
    · exact Or.inl ⟨j, by omega, h2, h3⟩
    · exact Or.inr h
theorem nar1 : vp_nar .boolean 1 = 1 := by decide
theorem nar0 : vp_nar .boolean 0 = 0 := by decide
/-- the leaves' loop of build -/
theorem build2_ok (v : Nat → Int64) : ∀ (n i : Nat) (t : Nat → Int64) (e : Nat → Int32), i ≤ 64 → 64 - i < n →
    f_X6_build_held_2 v n (nI i) t e = some ((fun m => if 64 + i ≤ m ∧ m < 128 then lf (m - 64) (v (m - 64)) else t m), (fun m => if 64 + i ≤ m ∧ m < 128 then (if v (m - 64) = 0 then 1 else 0) else e m)) := by
  intro n
  induction n with
  | zero => intro i t e h1 h2; omega
  | succ n ih =>
    intro i t e h1 h2
    rw [f_X6_build_held_2]
    by_cases hc : 64 ≤ i
    · rw [if_pos (show (64 : Int32) ≤ nI i from nI_le (a := 64) hc (by omega))]
      refine congrArg some (Prod.ext (funext fun m => ?_) (funext fun m => ?_))
      · show t m = if _ then _ else _
        rw [if_neg (by omega)]
      · show e m = if _ then _ else _
        rw [if_neg (by omega)]
    · rw [if_neg (show ¬ (64 : Int32) ≤ nI i from nI_ge (b := 64) (by omega) (by omega))]
      have hib : ib (nI i) 64 = true := ib_nI (by omega) (by omega)
      have e1 : (64 : Int32) + nI i = nI (64 + i) := nI_add 64 i
      have hib2 : ib (64 + nI i) 128 = true := by rw [e1]; exact ib_nI (by omega) (by omega)
      have e2 : (64 + nI i).toNatClampNeg = 64 + i := by rw [e1]; exact nI_clamp (by omega)
      have e3 : (nI i).toNatClampNeg = i := nI_clamp (by omega)
      have e4 : nI i + 1 = nI (i + 1) := nI_1 i
      have e5 : (nI i).toInt64 + 1 = lN (i + 1) := by rw [nI_l (by omega)]; exact lN_1 i
      rw [kb_t hib, e2, e3, e4, e5]
      have fin : ∀ (y : Int64) (z : Int32), y = lf i (v i) → z = (if v i = 0 then 1 else 0) → f_X6_build_held_2 v n (nI (i + 1)) (vp_updL t (64 + i) y) (upd e (64 + i) z) = some ((fun m => if 64 + i ≤ m ∧ m < 128 then lf (m - 64) (v (m - 64)) else t m), (fun m => if 64 + i ≤ m ∧ m < 128 then (if v (m - 64) = 0 then 1 else 0) else e m)) := by
        intro y z hy hz
        rw [ih (i + 1) _ _ (by omega) (by omega)]
        refine congrArg some (Prod.ext (funext fun m => ?_) (funext fun m => ?_))
        · show (if 64 + (i + 1) ≤ m ∧ m < 128 then lf (m - 64) (v (m - 64)) else vp_updL t (64 + i) y m) = if _ then _ else _
          by_cases hm : m = 64 + i
          · subst hm
            rw [if_neg (by omega), if_pos (by omega), updL_at, if_pos rfl, hy, Nat.add_sub_cancel_left]
          · by_cases hm2 : 64 + (i + 1) ≤ m ∧ m < 128
            · rw [if_pos hm2, if_pos (by omega)]
            · rw [if_neg hm2, if_neg (by omega), updL_at, if_neg hm]
        · show (if 64 + (i + 1) ≤ m ∧ m < 128 then (if v (m - 64) = 0 then (1 : Int32) else 0) else upd e (64 + i) z m) = if _ then _ else _
          by_cases hm : m = 64 + i
          · subst hm
            rw [if_neg (by omega), if_pos (by omega), upd_at, if_pos rfl, hz, Nat.add_sub_cancel_left]
          · by_cases hm2 : 64 + (i + 1) ≤ m ∧ m < 128
            · rw [if_pos hm2, if_pos (show 64 + i ≤ m ∧ m < 128 by omega)]
            · rw [if_neg hm2, if_neg (show ¬ (64 + i ≤ m ∧ m < 128) by omega), upd_at, if_neg hm]
      by_cases hz : v i = 0
      · rw [if_pos hz]
        show kb _ (kb _ (if v i = 0 then _ else _)) = _
        rw [kb_t hib2, kb_t hib, if_pos hz, kb_t hib2, nar1]
        exact fin 0 1 (by unfold lf; rw [if_pos hz]) (by rw [if_pos hz])
      · rw [if_neg hz]
        show kb _ (kb _ (if v i = 0 then _ else _)) = _
        rw [kb_t hib2, kb_t hib, if_neg hz, kb_t hib, mixed_mx]
        show kb _ _ = _
        rw [kb_t hib2, nar0]
        exact fin _ 0 (by unfold lf; rw [if_neg hz]) (by rw [if_neg hz])
/-- the nodes' loop of build -/
theorem build70_ok (v : Nat → Int64) : ∀ (n i : Nat) (t : Nat → Int64) (e : Nat → Int32), i ≤ 63 → i < n → (∀ m, i < m → m < 128 → t m = dg v m ∧ (¬ e m = 0 → dg v m = 0)) →
    ∃ (t' : Nat → Int64) (e' : Nat → Int32), f_X6_build_held_70 n (nI i) t e = some (t', e') ∧ ∀ m, 1 ≤ m → m < 128 → t' m = dg v m := by
  intro n
  induction n with
  | zero => intro i t e h1 h2; omega
  | succ n ih =>
    intro i t e h1 h2 h3
    rw [f_X6_build_held_70]
    cases i with
    | zero =>
      rw [if_pos (show nI 0 ≤ 0 by decide)]
      exact ⟨t, e, rfl, fun m a b => (h3 m (by omega) b).1⟩
    | succ i =>
      rw [if_neg (nI_nle (by omega) (by omega))]
      have e1 : (2 : Int32) * nI (i + 1) = nI (2 * (i + 1)) := pk_mul 2 (i + 1)
      have e2 : nI (2 * (i + 1)) + 1 = nI (2 * (i + 1) + 1) := nI_1 _
      rw [e1, e2, kb_t (ib_nI (by omega) (by omega)), nI_clamp (by omega), nI_clamp (by omega), nI_clamp (by omega), pk_m1]
      have hk : ∀ {X : Option ((Nat → Int64) × (Nat → Int32))}, kb (ib (nI (i + 1)) 128) X = X := fun {X} => kb_t (ib_nI (by omega) (by omega))
      have hk2 : ∀ {X : Option ((Nat → Int64) × (Nat → Int32))}, kb (ib (nI (2 * (i + 1))) 128) X = X := fun {X} => kb_t (ib_nI (by omega) (by omega))
      have hk3 : ∀ {X : Option ((Nat → Int64) × (Nat → Int32))}, kb (ib (nI (2 * (i + 1) + 1)) 128) X = X := fun {X} => kb_t (ib_nI (by omega) (by omega))
      obtain ⟨a1, a2⟩ := h3 (2 * (i + 1)) (by omega) (by omega)
      obtain ⟨b1, b2⟩ := h3 (2 * (i + 1) + 1) (by omega) (by omega)
      have dn := dg_node v (m := i + 1) (by omega) (by omega)
      have full : ∀ z : Int32, z = 0 → ∃ (t' : Nat → Int64) (e' : Nat → Int32), f_X6_build_held_70 n (nI i) (vp_updL t (i + 1) (mx (t (2 * (i + 1))) (t (2 * (i + 1) + 1)))) (upd e (i + 1) z) = some (t', e') ∧ ∀ m, 1 ≤ m → m < 128 → t' m = dg v m := by
        intro z hz
        refine ih i _ _ (by omega) (by omega) (fun m c1 c2 => ?_)
        by_cases hm : m = i + 1
        · subst hm
          rw [updL_at, if_pos rfl, upd_at, if_pos rfl, hz, a1, b1, dn]
          exact ⟨rfl, fun q => absurd rfl q⟩
        · rw [updL_at, if_neg hm, upd_at, if_neg hm]
          exact h3 m (by omega) c2
      have low : ∀ z : Int32, dg v (i + 1) = 0 → ∃ (t' : Nat → Int64) (e' : Nat → Int32), f_X6_build_held_70 n (nI i) (vp_updL t (i + 1) 0) (upd e (i + 1) z) = some (t', e') ∧ ∀ m, 1 ≤ m → m < 128 → t' m = dg v m := by
        intro z hz
        refine ih i _ _ (by omega) (by omega) (fun m c1 c2 => ?_)
        by_cases hm : m = i + 1
        · subst hm
          rw [updL_at, if_pos rfl, hz]
          exact ⟨rfl, fun _ => rfl⟩
        · rw [updL_at, if_neg hm, upd_at, if_neg hm]
          exact h3 m (by omega) c2
      by_cases c1 : e (2 * (i + 1)) = 0
      · rw [if_pos c1]
        show ∃ (t' : Nat → Int64) (e' : Nat → Int32), kb _ (kb _ (if upd e (i + 1) (vp_nar .boolean 0) (i + 1) = 0 then _ else _)) = some (t', e') ∧ _
        rw [hk, hk, upd_at, if_pos rfl, nar0, if_pos rfl, hk2, hk3, mixed_mx]
        show ∃ (t' : Nat → Int64) (e' : Nat → Int32), kb _ _ = some (t', e') ∧ _
        rw [hk]
        exact full 0 rfl
      · rw [if_neg c1]
        by_cases c2 : e (2 * (i + 1) + 1) = 0
        · rw [if_pos c2]
          rw [show (kb (ib (nI (2 * (i + 1) + 1)) 128) ((some (0 : Int32)).bind fun v26 => some v26)) = some 0 from kb_t (ib_nI (by omega) (by omega))]
          show ∃ (t' : Nat → Int64) (e' : Nat → Int32), kb _ (kb _ (if upd e (i + 1) (vp_nar .boolean 0) (i + 1) = 0 then _ else _)) = some (t', e') ∧ _
          rw [hk, hk, upd_at, if_pos rfl, nar0, if_pos rfl, hk2, hk3, mixed_mx]
          show ∃ (t' : Nat → Int64) (e' : Nat → Int32), kb _ _ = some (t', e') ∧ _
          rw [hk]
          exact full 0 rfl
        · rw [if_neg c2]
          rw [show (kb (ib (nI (2 * (i + 1) + 1)) 128) ((some (1 : Int32)).bind fun v26 => some v26)) = some 1 from kb_t (ib_nI (by omega) (by omega))]
          show ∃ (t' : Nat → Int64) (e' : Nat → Int32), kb _ (kb _ (if upd e (i + 1) (vp_nar .boolean 1) (i + 1) = 0 then _ else _)) = some (t', e') ∧ _
          rw [hk, hk, upd_at, if_pos rfl, nar1, if_neg (by decide), hk]
          exact low 1 (by rw [dn, a2 c1, b2 c2, mx_00])
theorem bs2 : f_X6_build_state_2 = f_X6_build_held_2 := by
  funext v n
  induction n with
  | zero => funext x y z; rw [f_X6_build_state_2, f_X6_build_held_2]
  | succ n ih => funext x y z; rw [f_X6_build_state_2, f_X6_build_held_2, ih]
theorem bg2 : f_X6_build_given_2 = f_X6_build_held_2 := by
  funext v n
  induction n with
  | zero => funext x y z; rw [f_X6_build_given_2, f_X6_build_held_2]
  | succ n ih => funext x y z; rw [f_X6_build_given_2, f_X6_build_held_2, ih]
theorem bs70 : f_X6_build_state_70 = f_X6_build_held_70 := by
  funext n
  induction n with
  | zero => funext x y z; rw [f_X6_build_state_70, f_X6_build_held_70]
  | succ n ih => funext x y z; rw [f_X6_build_state_70, f_X6_build_held_70, ih]
theorem bg70 : f_X6_build_given_70 = f_X6_build_held_70 := by
  funext n
  induction n with
  | zero => funext x y z; rw [f_X6_build_given_70, f_X6_build_held_70]
  | succ n ih => funext x y z; rw [f_X6_build_given_70, f_X6_build_held_70, ih]
theorem build_loops (v : Nat → Int64) (t : Nat → Int64) (e : Nat → Int32) : ∃ (a : (Nat → Int64) × (Nat → Int32)) (t' : Nat → Int64) (e' : Nat → Int32), f_X6_build_held_2 v FU 0 t e = some a ∧ f_X6_build_held_70 FU 63 a.1 a.2 = some (t', e') ∧ ∀ m, 1 ≤ m → m < 128 → t' m = dg v m := by
  refine ⟨((fun m => if 64 + 0 ≤ m ∧ m < 128 then lf (m - 64) (v (m - 64)) else t m), (fun m => if 64 + 0 ≤ m ∧ m < 128 then (if v (m - 64) = 0 then 1 else 0) else e m)), ?_⟩
  obtain ⟨t', e', h1, h2⟩ := build70_ok v FU 63 (fun m => if 64 + 0 ≤ m ∧ m < 128 then lf (m - 64) (v (m - 64)) else t m) (fun m => if 64 + 0 ≤ m ∧ m < 128 then (if v (m - 64) = 0 then 1 else 0) else e m) (by omega) (by unfold FU; omega) (fun m q1 q2 => by
    have ed : dg v m = lf (m - 64) (v (m - 64)) := by rw [← dg_leaf, show 64 + (m - 64) = m by omega]
    rw [if_pos (by omega), if_pos (by omega), ed]
    refine ⟨rfl, fun z => ?_⟩
    unfold lf
    by_cases hz : v (m - 64) = 0
    · rw [if_pos hz]
    · rw [if_neg hz] at z; exact absurd rfl z)
  exact ⟨t', e', build2_ok v FU 0 t e (by omega) (by unfold FU; omega), h1, h2⟩
section MM
variable {pa : Nat → Int32} {va : Nat → Int64} {he : Int32} {ki : Nat → Int32} {hd : Nat → Int32} {sk : Nat → Int32} {wr : Nat → Int32} {od : Nat → Int32} {gi : Int32} {na : Int32} {go : Int32} {hl : Nat → Int64} {kn : Nat → Int32} {du : Nat → Int64} {bt : Int32} {ak : Int32} {st : Nat → Int64} {gv : Nat → Int64} {tr : Nat → Int64} {em : Nat → Int32}
theorem build_held_in : ∃ (tr' : Nat → Int64) (em' : Nat → Int32), f_X6_build_held ((pa, va, he, ki, hd, sk, wr, od, gi, na, go, hl, kn, du, bt, ak, st, gv, tr, em) : S_Mod) = some ((pa, va, he, ki, hd, sk, wr, od, gi, na, go, hl, kn, du, bt, ak, st, gv, tr', em') : S_Mod) ∧ ∀ m, 1 ≤ m → m < 128 → tr' m = dg hl m := by
  obtain ⟨a, t', e', h1, h2, h3⟩ := build_loops hl tr em
  refine ⟨t', e', ?_, h3⟩
  unfold f_X6_build_held
  show Option.bind (f_X6_build_held_2 hl FU 0 tr em) _ = _
  rw [h1]
  show Option.bind (f_X6_build_held_70 FU 63 a.1 a.2) _ = _
  rw [h2]
  rfl
theorem build_state_in : ∃ (tr' : Nat → Int64) (em' : Nat → Int32), f_X6_build_state ((pa, va, he, ki, hd, sk, wr, od, gi, na, go, hl, kn, du, bt, ak, st, gv, tr, em) : S_Mod) = some ((pa, va, he, ki, hd, sk, wr, od, gi, na, go, hl, kn, du, bt, ak, st, gv, tr', em') : S_Mod) ∧ ∀ m, 1 ≤ m → m < 128 → tr' m = dg st m := by
  obtain ⟨a, t', e', h1, h2, h3⟩ := build_loops st tr em
  refine ⟨t', e', ?_, h3⟩
  unfold f_X6_build_state
  rw [bs2, bs70]
  show Option.bind (f_X6_build_held_2 st FU 0 tr em) _ = _
  rw [h1]
  show Option.bind (f_X6_build_held_70 FU 63 a.1 a.2) _ = _
  rw [h2]
  rfl
theorem build_given_in : ∃ (tr' : Nat → Int64) (em' : Nat → Int32), f_X6_build_given ((pa, va, he, ki, hd, sk, wr, od, gi, na, go, hl, kn, du, bt, ak, st, gv, tr, em) : S_Mod) = some ((pa, va, he, ki, hd, sk, wr, od, gi, na, go, hl, kn, du, bt, ak, st, gv, tr', em') : S_Mod) ∧ ∀ m, 1 ≤ m → m < 128 → tr' m = dg gv m := by
  obtain ⟨a, t', e', h1, h2, h3⟩ := build_loops gv tr em
  refine ⟨t', e', ?_, h3⟩
  unfold f_X6_build_given
  rw [bg2, bg70]
  show Option.bind (f_X6_build_held_2 gv FU 0 tr em) _ = _
  rw [h1]
  show Option.bind (f_X6_build_held_70 FU 63 a.1 a.2) _ = _
  rw [h2]
  rfl
theorem stateAt_in {h : Nat} (hh : h ≤ 200) (hp : pOK pa h) : ∃ st' : Nat → Int64, f_X6_stateAt ((pa, va, he, ki, hd, sk, wr, od, gi, na, go, hl, kn, du, bt, ak, st, gv, tr, em) : S_Mod) (nI h) = some ((pa, va, he, ki, hd, sk, wr, od, gi, na, go, hl, kn, du, bt, ak, st', gv, tr, em) : S_Mod) ∧ ∀ p, p < 64 → st' p = sv pa va h p := by
  obtain ⟨w, e, hw⟩ := state23_ok (va := va) hh hp FU 0 (fun m => if 0 ≤ m ∧ m < 64 then 0 else st m) (by omega) (by unfold FU; omega) (fun p hp2 => by rw [if_pos ⟨Nat.zero_le _, hp2⟩]; rfl)
  refine ⟨w, ?_, hw⟩
  unfold f_X6_stateAt
  show Option.bind (f_X6_stateAt_2 FU (nI 0) st) _ = _
  rw [zero2m_ok FU 0 st (by omega) (by unfold FU; omega)]
  show Option.bind (f_X6_stateAt_23 (nI h) pa va FU (nI (0 + 1)) _) _ = _
  rw [e]
  rfl
end MM
