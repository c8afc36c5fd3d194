/-! PURE ROWS, 12: count and target -/
def cnk (kn : Nat → Int32) : Nat → Nat → Nat
  | _, 0 => 0
  | i, k + 1 => (if kn i = 0 then 0 else 1) + cnk kn (i + 1) k
theorem known4_ok {ow nw bf : S_Tree} {kn lr : Nat → Int32} {du : Nat → Int64} {ls go : Int32} : ∀ (n i a : Nat), i ≤ 128 → 128 - i < n → f_X1_knownSize_4 ((ow, nw, bf, kn, du, lr, ls, go) : S_Joiner) n (nI i) (nI a) = some (nI (a + cnk kn i (128 - i))) := by
  intro n
  induction n with
  | zero => intro i a h1 h2; omega
  | succ n ih =>
    intro i a h1 h2
    rw [f_X1_knownSize_4]
    by_cases hc : 128 ≤ i
    · rw [if_pos (show (128 : Int32) ≤ nI i from nI_le (a := 128) hc (by omega)), show 128 - i = 0 by omega]
      rfl
    · rw [if_neg (show ¬ (128 : Int32) ≤ nI i from nI_ge (b := 128) (by omega) (by omega)), kb_t (ib_nI (by omega) (by omega)), nI_1, nI_1, nI_clamp (by omega), show 128 - i = (128 - (i + 1)) + 1 by omega, cnk]
      dsimp only
      by_cases hz : kn i = 0
      · rw [if_pos hz, if_pos hz, ih (i + 1) a (by omega) (by omega), Nat.zero_add]
      · rw [if_neg hz, if_neg hz, ih (i + 1) (a + 1) (by omega) (by omega), Nat.add_assoc]
section MM
variable {pa : Nat → Int32} {va : Nat → Int64} {he : Int32} {ki : Nat → Int32} {hd : Nat → Int32} {sk : Nat → Int32} {wr : Nat → Int32} {od : Nat → Int32} {gi : Int32} {na : Int32} {go : Int32} {hl : Nat → Int64} {kn : Nat → Int32} {du : Nat → Int64} {bt : Int32} {ak : Int32} {st : Nat → Int64} {gv : Nat → Int64} {tr : Nat → Int64} {em : Nat → Int32}
theorem count124_ok : ∀ (n i a : Nat), i ≤ 128 → 128 - i < n → f_X6_count_124 ((pa, va, he, ki, hd, sk, wr, od, gi, na, go, hl, kn, du, bt, ak, st, gv, tr, em) : S_Mod) n (nI i) (nI a) = some (nI (a + cnk kn i (128 - i))) := by
  intro n
  induction n with
  | zero => intro i a h1 h2; omega
  | succ n ih =>
    intro i a h1 h2
    rw [f_X6_count_124]
    by_cases hc : 128 ≤ i
    · rw [if_pos (show (128 : Int32) ≤ nI i from nI_le (a := 128) hc (by omega)), show 128 - i = 0 by omega]
      rfl
    · rw [if_neg (show ¬ (128 : Int32) ≤ nI i from nI_ge (b := 128) (by omega) (by omega)), kb_t (ib_nI (by omega) (by omega)), nI_1, nI_1, nI_clamp (by omega), show 128 - i = (128 - (i + 1)) + 1 by omega, cnk]
      dsimp only
      by_cases hz : kn i = 0
      · rw [if_pos hz, if_pos hz, ih (i + 1) a (by omega) (by omega), Nat.zero_add]
      · rw [if_neg hz, if_neg hz, ih (i + 1) (a + 1) (by omega) (by omega), Nat.add_assoc]
theorem count89_ok : ∀ (n i a : Nat), i ≤ 64 → 64 - i < n → f_X6_count_89 ((pa, va, he, ki, hd, sk, wr, od, gi, na, go, hl, kn, du, bt, ak, st, gv, tr, em) : S_Mod) n (nI i) (nI a) = some (nI (a + cnt hl i (64 - i))) := by
  intro n
  induction n with
  | zero => intro i a h1 h2; omega
  | succ n ih =>
    intro i a h1 h2
    rw [f_X6_count_89]
    by_cases hc : 64 ≤ i
    · rw [if_pos (show (64 : Int32) ≤ nI i from nI_le (a := 64) hc (by omega)), show 64 - i = 0 by omega]
      rfl
    · rw [if_neg (show ¬ (64 : Int32) ≤ nI i from nI_ge (b := 64) (by omega) (by omega)), kb_t (ib_nI (by omega) (by omega)), nI_1, nI_1, nI_clamp (by omega), show 64 - i = (64 - (i + 1)) + 1 by omega, cnt]
      dsimp only
      by_cases hz : hl i = 0
      · rw [if_pos hz, if_pos hz, ih (i + 1) a (by omega) (by omega), Nat.zero_add]
      · rw [if_neg hz, if_neg hz, ih (i + 1) (a + 1) (by omega) (by omega), Nat.add_assoc]
end MM
theorem m_count {N : Nat} {c : S_SP} {m : S_Mod} (R : Rel N c m) (x : Int32) : ∃ (r : Int32) (m' : S_Mod), f_X5_count c x = some r ∧ f_X6_count m x = some (r, m') ∧ Rel N c m' := by
  have R0 := R
  obtain ⟨pa, va, h, ki, hd, sk, wr, od, g, a, ak, go, kn, du, lr, ls, bt, ow, nw, bf, pc, lo, st, gv, tr, em, rfl, rfl, i1, i2, i3, i4, ⟨t1, t2, t3, t4, t5⟩, ⟨i6, i6b⟩, i7⟩ := R
  unfold f_X5_count f_X6_count
  dsimp only
  by_cases c0 : x = 0
  · rw [if_pos c0, if_pos c0]; exact ⟨_, _, rfl, rfl, R0⟩
  rw [if_neg c0, if_neg c0]
  by_cases c1 : x = 1
  · rw [if_pos c1, if_pos c1]; exact ⟨_, _, rfl, rfl, R0⟩
  rw [if_neg c1, if_neg c1]
  by_cases c2 : x = 2
  · rw [if_pos c2, if_pos c2]
    unfold f_X1_hasGoal
    dsimp only
    rcases goal_neg i1.1 i4 with ⟨g1, -, -, -⟩ | ⟨g1, -, -, -⟩
    · rw [if_pos g1]
      exact ⟨-1, _, rfl, by rw [g1], R0⟩
    · rw [if_neg g1]
      exact ⟨go, _, rfl, rfl, R0⟩
  rw [if_neg c2, if_neg c2]
  by_cases c3 : x = 3
  · rw [if_pos c3, if_pos c3]
    obtain ⟨tr', em', e3⟩ := lacking_in (pa := pa) (va := va) (he := nI h) (ki := ki) (hd := hd) (sk := sk) (wr := wr) (od := od) (gi := nI g) (na := nI a) (go := go) (hl := ow.1) (kn := kn) (du := du) (bt := bt) (ak := ak) (st := st) (gv := gv) (tr := tr) (em := em) i6
    refine ⟨ls, _, rfl, ?_, ⟨pa, va, h, ki, hd, sk, wr, od, g, a, ak, go, kn, du, lr, ls, bt, ow, nw, bf, pc, lo, st, gv, tr', em', rfl, rfl, i1, i2, i3, i4, ⟨t1, t2, t3, t4, t5⟩, ⟨i6, i6b⟩, i7⟩⟩
    rw [e3, i7.1]
    rfl
  rw [if_neg c3, if_neg c3]
  by_cases c4 : x = 4
  · rw [if_pos c4, if_pos c4]; exact ⟨_, _, rfl, rfl, R0⟩
  rw [if_neg c4, if_neg c4]
  by_cases c5 : x = 5
  · rw [if_pos c5, if_pos c5]; exact ⟨_, _, rfl, rfl, R0⟩
  rw [if_neg c5, if_neg c5]
  by_cases c6 : x = 6
  · rw [if_pos c6, if_pos c6]; exact ⟨_, _, rfl, rfl, R0⟩
  rw [if_neg c6, if_neg c6]
  by_cases c7 : x = 7
  · rw [if_pos c7, if_pos c7]
    have e1 := filledBelow_in (t := ow) (n := 1) (by omega) (by omega)
    have e2 := count89_ok (pa := pa) (va := va) (he := nI h) (ki := ki) (hd := hd) (sk := sk) (wr := wr) (od := od) (gi := nI g) (na := nI a) (go := go) (hl := ow.1) (kn := kn) (du := du) (bt := bt) (ak := ak) (st := st) (gv := gv) (tr := tr) (em := em) FU 0 0 (by omega) (by unfold FU; omega)
    rw [Nat.zero_add] at e2
    rw [show (1 : Int32) = nI 1 from rfl, show (0 : Int32) = nI 0 from rfl, e1, e2, sb, sb]
    refine ⟨_, _, rfl, ?_, R0⟩
    unfold cntB
    rw [fl_1.1, fl_1.2]
  rw [if_neg c7, if_neg c7]
  by_cases c8 : x = 8
  · rw [if_pos c8, if_pos c8]
    have e1 := known4_ok (ow := ow) (nw := nw) (bf := bf) (kn := kn) (lr := lr) (du := du) (ls := ls) (go := go) FU 1 0 (by omega) (by unfold FU; omega)
    have e2 := count124_ok (pa := pa) (va := va) (he := nI h) (ki := ki) (hd := hd) (sk := sk) (wr := wr) (od := od) (gi := nI g) (na := nI a) (go := go) (hl := ow.1) (kn := kn) (du := du) (bt := bt) (ak := ak) (st := st) (gv := gv) (tr := tr) (em := em) FU 1 0 (by omega) (by unfold FU; omega)
    unfold f_X1_knownSize
    rw [show (1 : Int32) = nI 1 from rfl, show (0 : Int32) = nI 0 from rfl, e1, e2, sb, sb]
    exact ⟨_, _, rfl, rfl, R0⟩
  rw [if_neg c8, if_neg c8]
  exact ⟨-1, _, rfl, rfl, R0⟩
theorem m_target {N : Nat} {c : S_SP} {m : S_Mod} (R : Rel N c m) (x : Int32) : ∃ (r : Int32) (c' : S_SP) (m' : S_Mod), f_X5_target c x = some (r, c') ∧ f_X6_target m x = some (r, m') ∧ Rel N c' m' := by
  have R0 := R
  obtain ⟨pa, va, h, ki, hd, sk, wr, od, g, a, ak, go, kn, du, lr, ls, bt, ow, nw, bf, pc, lo, st, gv, tr, em, rfl, rfl, ⟨hh, hp⟩, i2, i3, i4, ⟨t1, t2, t3, t4, t5⟩, ⟨i6, i6b⟩, i7⟩ := R
  unfold f_X5_target f_X6_target
  dsimp only
  rcases in_or x (b := h) (by omega) with ⟨q, hq, rfl, hin⟩ | ⟨hin, hx⟩
  · rw [hin, hasHeight_in hq hh, sb, sb, if_neg one_ne, if_neg one_ne]
    have hpq : pOK pa q := fun k a1 a2 => hp k a1 (by omega)
    obtain ⟨nw', e1, ok1, hv1⟩ := copyState_in (va := va) hh hq hp t2
    obtain ⟨bf', e2, ok2, hv2⟩ := copyState_in (va := va) (h := q - 1) hh (by omega) hp t3
    have kfg : fgt kn 0 = fgt kn 1 := by
      funext n
      unfold fgt
      by_cases h0 : n = 0
      · subst h0
        rw [if_pos (by omega), if_neg (by omega), i6b]
      · by_cases h1 : n < 128
        · rw [if_pos (by omega), if_pos (by omega)]
        · rw [if_neg (by omega), if_neg (by omega)]
    have hpair : pair (upd (fgt kn 1) 1 1) := by
      intro n h1 h2
      rw [upd_at, if_neg (by omega), upd_at, if_neg (by omega)]
      exact pair_fgt (by omega) n h1 h2
    obtain ⟨ow', e3, ok3, hv3⟩ := learn_in (ow := ow) (nw := nw') (bf := bf') (kn := fgt kn 1) (lr := lr) (du := du) (ls := ls) (go := nI q) t1 (n := 1) (by omega) (by omega) (dg nw'.1 1)
    obtain ⟨lr', ls', e4, hkl⟩ := findLacks_in (ow := ow') (nw := nw') (bf := bf') (kn := upd (fgt kn 1) 1 1) (lr := lr) (du := vp_updL du 1 (dg nw'.1 1)) (ls := ls) (go := nI q) ok3
    obtain ⟨st', e5, hs⟩ := stateAt_in (pa := pa) (va := va) (he := nI h) (ki := ki) (hd := hd) (sk := sk) (wr := wr) (od := od) (gi := nI g) (na := nI a) (go := nI q) (hl := ow.1) (kn := fgt kn 0) (du := du) (bt := bt) (ak := ak) (st := st) (gv := gv) (tr := tr) (em := em) (h := q) (by omega) hpq
    obtain ⟨tr', em', e6, hs2⟩ := build_state_in (pa := pa) (va := va) (he := nI h) (ki := ki) (hd := hd) (sk := sk) (wr := wr) (od := od) (gi := nI g) (na := nI a) (go := nI q) (hl := ow.1) (kn := fgt kn 0) (du := du) (bt := bt) (ak := ak) (st := st') (gv := gv) (tr := tr) (em := em)
    have hd1 : tr' 1 = dg nw'.1 1 := (hs2 1 (by omega) (by omega)).trans (dg_eq64 (fun p hp2 => (hs p hp2).trans (hv1 p hp2).symm) (by omega) (by omega))
    have e7 := know_in (pa := pa) (va := va) (he := nI h) (ki := ki) (hd := hd) (sk := sk) (wr := wr) (od := od) (gi := nI g) (na := nI a) (go := nI q) (hl := ow.1) (kn := fgt kn 0) (du := du) (bt := bt) (ak := ak) (st := st') (gv := gv) (tr := tr') (em := em') (n := 1) (by omega) (by omega) (dg nw'.1 1)
    obtain ⟨tr2, em2, e8⟩ := lacking_in (pa := pa) (va := va) (he := nI h) (ki := ki) (hd := hd) (sk := sk) (wr := wr) (od := od) (gi := nI g) (na := nI a) (go := nI q) (hl := hk ow.1 1 (dg nw'.1 1)) (kn := upd (fgt kn 0) 1 1) (du := vp_updL du 1 (dg nw'.1 1)) (bt := bt) (ak := ak) (st := st') (gv := gv) (tr := tr') (em := em') (by rw [kfg]; exact hpair)
    refine ⟨ls', (((pa, va, (nI h)), (ki, hd, sk, wr, od, (nI g), (nI a), ak), (ow', nw', bf', (upd (fgt kn 1) 1 1), (vp_updL du 1 (dg nw'.1 1)), lr', ls', (nI q)), pc, lo, bt) : S_SP), ((pa, va, (nI h), ki, hd, sk, wr, od, (nI g), (nI a), (nI q), (ow'.1), (upd (fgt kn 1) 1 1), (vp_updL du 1 (dg nw'.1 1)), bt, ak, st', gv, tr2, em2) : S_Mod), ?_, ?_, ⟨pa, va, h, ki, hd, sk, wr, od, g, a, ak, nI q, upd (fgt kn 1) 1 1, vp_updL du 1 (dg nw'.1 1), lr', ls', bt, ow', nw', bf', pc, lo, st', gv, tr2, em2, rfl, rfl, ⟨hh, hp⟩, i2, i3, Or.inr ⟨q, rfl, hq, hv1, hv2⟩, ⟨ok3, ok1, ok2, t4, t5⟩, ⟨hpair, ?_⟩, hkl⟩⟩
    · unfold f_X1_aim
      dsimp only
      have eq1 : (if nI q - 1 < 0 then (0 : Int32) else nI q - 1) = nI (q - 1) := by
        cases q with
        | zero => rfl
        | succ q => rw [nI_pred, if_neg (nI_pos (by omega))]; rfl
      rw [e1, sb, eq1, e2, sb, show f_X1_forget ((ow, nw', bf', kn, du, lr, ls, (nI q)) : S_Joiner) 1 = some ((ow, nw', bf', (fgt kn 1), du, lr, ls, (nI q)) : S_Joiner) from forget_in (i := 1) (by omega), sb]
      dsimp only
      rw [show f_X4_digestOf nw' 1 = some (nw'.2 1) from digestOf_in (n := 1) (by omega) (by omega), ok1 1 (by omega) (by omega), sb, show f_X1_learn ((ow, nw', bf', (fgt kn 1), du, lr, ls, (nI q)) : S_Joiner) 1 (dg nw'.1 1) = _ from e3, sb, e4]
      rfl
    · rw [show f_X6_target_21 FU 0 kn = some (fgt kn 0) from target21_ok (i := 0) (by omega) kn, sb]
      unfold f_X6_digest
      dsimp only
      rw [hin, sb, if_neg one_ne, show f_X6_in 1 1 127 = some 1 from in_1 (j := 1) (a := 1) (b := 127) (by omega) (by omega) (by omega), sb, if_neg one_ne, e5, sb, e6, sb]
      dsimp only
      rw [show ib 1 128 = true from ib_nI (j := 1) (by omega) (by omega), kb_t rfl, sb]
      dsimp only
      rw [show Int32.toNatClampNeg 1 = 1 from nI_clamp (n := 1) (by omega), hd1, show (f_X6_know ((pa, va, (nI h), ki, hd, sk, wr, od, (nI g), (nI a), (nI q), ow.1, (fgt kn 0), du, bt, ak, st', gv, tr', em') : S_Mod) 1 (dg nw'.1 1)) = _ from e7, sb, e8, hkl.1, ← hv3, kfg]
      rfl
    · rw [upd_at, if_neg (by omega)]
      unfold fgt
      rw [if_neg (by omega)]
      exact i6b
  · rw [hin, hasHeight_out hh hx]
    exact ⟨-1, _, _, rfl, rfl, R0⟩
