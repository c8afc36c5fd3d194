/-! PURE ROWS, 11: the calls that ask nobody -/
theorem has_in {ki hd sk wr od : Nat → Int32} {na ak : Int32} {g j : Nat} (hj : j < g) (hg : g ≤ 12) : f_X0_has (ki, hd, sk, wr, od, nI g, na, ak) (nI j) = some 1 := by
  unfold f_X0_has
  dsimp only
  rw [if_neg (nI_pos (by omega)), if_neg (nI_ge hj (by omega))]
theorem has_out {ki hd sk wr od : Nat → Int32} {na ak : Int32} {g : Nat} {x : Int32} (hx : x < 0 ∨ nI g ≤ x) : f_X0_has (ki, hd, sk, wr, od, nI g, na, ak) x = some 0 := by
  unfold f_X0_has
  dsimp only
  by_cases h0 : x < 0
  · rw [if_pos h0]
  · rw [if_neg h0, if_pos (hx.resolve_left h0)]
theorem m_giver {N : Nat} {c : S_SP} {m : S_Mod} (R : Rel N c m) (x y : Int32) : ∃ (r : Int32) (c' : S_SP) (m' : S_Mod), f_X5_giver c x y = some (r, c') ∧ f_X6_giver m x y = some (r, m') ∧ Rel N c' m' := by
  have R0 := R
  obtain ⟨pa, va, h, ki, hd, sk, wr, od, g, a, ak, go, kn, du, lr, ls, bt, ow, nw, bf, pc, lo, st, gv, tr, em, rfl, rfl, i1, ⟨hg, hhd⟩, i3, i4, i5, i6, i7⟩ := R
  unfold f_X5_giver f_X6_giver f_X6_in
  by_cases a1 : x < 0
  · rw [if_pos a1, if_pos a1]
    exact ⟨-1, _, _, rfl, rfl, R0⟩
  · rw [if_neg a1, if_neg a1]
    by_cases a2 : 4 < x
    · rw [if_pos a2, if_pos a2]
      exact ⟨-1, _, _, rfl, rfl, R0⟩
    · rw [if_neg a2, if_neg a2, sb, if_neg one_ne]
      by_cases a3 : y < -1
      · rw [if_pos a3, if_pos a3]
        exact ⟨-1, _, _, rfl, rfl, R0⟩
      · rw [if_neg a3, if_neg a3]
        by_cases a4 : y ≤ 200
        · have a5 : ¬ 200 < y := by
            rw [Int32.le_iff_toInt_le] at a4
            rw [Int32.lt_iff_toInt_lt]
            omega
          rw [if_pos a4, if_neg a5, sb, if_neg one_ne]
          unfold f_X0_append
          dsimp only
          by_cases hf : g = 12
          · rw [if_neg (show ¬ nI g < (12 : Int32) from nI_nlt (b := 12) (by omega) (by omega)), if_pos (show nI g = (12 : Int32) by rw [hf]; rfl)]
            exact ⟨-2, _, _, rfl, rfl, R0⟩
          · rw [if_pos (show nI g < (12 : Int32) from nI_lt (b := 12) (by omega) (by omega)), if_neg (show ¬ nI g = (12 : Int32) from fun z => hf ((nI_eq (b := 12) (by omega) (by omega)).mp z)), kb_t (ib_nI (by omega) (by omega)), kb_t (ib_nI (by omega) (by omega)), kb_t (ib_nI (by omega) (by omega)), kb_t (ib_nI (by omega) (by omega)), nI_clamp (by omega), nI_1]
            refine ⟨nI (g + 1) - 1, (((pa, va, (nI h)), ((upd ki g x), (upd hd g y), sk, wr, od, (nI (g + 1)), (nI a), ak), (ow, nw, bf, kn, du, lr, ls, go), pc, lo, bt) : S_SP), ((pa, va, (nI h), (upd ki g x), (upd hd g y), sk, wr, od, (nI (g + 1)), (nI a), go, ow.1, kn, du, bt, ak, st, gv, tr, em) : S_Mod), rfl, rfl, ?_⟩
            refine ⟨pa, va, h, _, _, sk, wr, od, g + 1, a, ak, go, kn, du, lr, ls, bt, ow, nw, bf, pc, lo, st, gv, tr, em, rfl, rfl, i1, ⟨by omega, fun j hj => ?_⟩, i3, i4, i5, i6, i7⟩
            rw [upd_at]
            by_cases hjg : j = g
            · rw [if_pos hjg]
              by_cases y0 : y < 0
              · refine Or.inl ?_
                rw [Int32.lt_iff_toInt_lt] at a3 y0
                apply Int32.toInt_inj.mp
                have e1 : (-1 : Int32).toInt = -1 := by decide
                have e2 : (0 : Int32).toInt = 0 := by decide
                rw [e1] at a3 ⊢
                rw [e2] at y0
                omega
              · exact Or.inr y0
            · rw [if_neg hjg]
              exact hhd j (by omega)
        · have a5 : 200 < y := by
            rw [Int32.le_iff_toInt_le] at a4
            rw [Int32.lt_iff_toInt_lt]
            omega
          rw [if_neg a4, if_pos a5]
          exact ⟨-1, _, _, rfl, rfl, R0⟩
theorem m_faults {N : Nat} {c : S_SP} {m : S_Mod} (R : Rel N c m) (x : Int32) : ∃ r : Int32, f_X5_faults c x = some r ∧ f_X6_faults m x = some r := by
  obtain ⟨pa, va, h, ki, hd, sk, wr, od, g, a, ak, go, kn, du, lr, ls, bt, ow, nw, bf, pc, lo, st, gv, tr, em, rfl, rfl, i1, ⟨hg, hhd⟩, i3, i4, i5, i6, i7⟩ := R
  unfold f_X5_faults f_X6_faults
  dsimp only
  rcases in_pred x (n := g) (by omega) with ⟨j, hj, rfl, hin⟩ | ⟨hin, hx⟩
  · rw [hin, has_in hj hg, sb, if_neg one_ne, kb_t (ib_nI (by omega) (by omega))]
    exact ⟨_, rfl, rfl⟩
  · rw [hin, has_out hx]
    exact ⟨-1, rfl, rfl⟩
theorem m_named {N : Nat} {c : S_SP} {m : S_Mod} (R : Rel N c m) (x : Int32) : ∃ r : Int32, f_X5_named c x = some r ∧ f_X6_named m x = some r := by
  obtain ⟨pa, va, h, ki, hd, sk, wr, od, g, a, ak, go, kn, du, lr, ls, bt, ow, nw, bf, pc, lo, st, gv, tr, em, rfl, rfl, i1, i2, ⟨i3, i3b⟩, i4, i5, i6, i7⟩ := R
  have ha : a ≤ 12 := by rw [← i3]; exact cw_le wr 12
  unfold f_X5_named f_X6_named
  dsimp only
  rcases in_pred x (n := a) (by omega) with ⟨j, hj, rfl, hin⟩ | ⟨hin, hx⟩
  · rw [hin, if_neg (nI_pos (by omega)), if_neg (nI_ge hj (by omega)), sb, if_neg one_ne, kb_t (ib_nI (by omega) (by omega))]
    exact ⟨_, rfl, rfl⟩
  · rw [hin]
    refine ⟨-1, ?_, rfl⟩
    by_cases h0 : x < 0
    · rw [if_pos h0]
    · rw [if_neg h0, if_pos (hx.resolve_left h0)]
theorem m_missing {N : Nat} {c : S_SP} {m : S_Mod} (R : Rel N c m) (x : Int32) : ∃ (r : Int32) (m' : S_Mod), f_X5_missing c x = some r ∧ f_X6_missing m x = some (r, m') ∧ Rel N c m' := by
  obtain ⟨pa, va, h, ki, hd, sk, wr, od, g, a, ak, go, kn, du, lr, ls, bt, ow, nw, bf, pc, lo, st, gv, tr, em, rfl, rfl, i1, i2, i3, i4, i5, ⟨i6, i6b⟩, i7⟩ := R
  have hlen := LM_len kn du ow.1
  unfold f_X5_missing
  dsimp only
  by_cases h0 : x < 0
  · obtain ⟨tr', em', e⟩ := missing_neg (pa := pa) (va := va) (he := nI h) (ki := ki) (hd := hd) (sk := sk) (wr := wr) (od := od) (gi := nI g) (na := nI a) (go := go) (hl := ow.1) (kn := kn) (du := du) (bt := bt) (ak := ak) (st := st) (gv := gv) (tr := tr) (em := em) h0
    rw [e, lackAt_out i7 (Or.inl h0)]
    exact ⟨-1, _, rfl, rfl, ⟨pa, va, h, ki, hd, sk, wr, od, g, a, ak, go, kn, du, lr, ls, bt, ow, nw, bf, pc, lo, st, gv, tr', em', rfl, rfl, i1, i2, i3, i4, i5, ⟨i6, i6b⟩, i7⟩⟩
  · obtain ⟨k, hk, rfl⟩ := nI_of h0
    obtain ⟨tr', em', e⟩ := missing_in (pa := pa) (va := va) (he := nI h) (ki := ki) (hd := hd) (sk := sk) (wr := wr) (od := od) (gi := nI g) (na := nI a) (go := go) (hl := ow.1) (kn := kn) (du := du) (bt := bt) (ak := ak) (st := st) (gv := gv) (tr := tr) (em := em) i6 hk
    rw [e]
    by_cases hl : k < (LM kn du ow.1).length
    · rw [if_pos hl, lackAt_in i7 hl]
      exact ⟨_, _, rfl, rfl, ⟨pa, va, h, ki, hd, sk, wr, od, g, a, ak, go, kn, du, lr, ls, bt, ow, nw, bf, pc, lo, st, gv, tr', em', rfl, rfl, i1, i2, i3, i4, i5, ⟨i6, i6b⟩, i7⟩⟩
    · rw [if_neg hl, lackAt_out i7 (Or.inr (nI_le (by omega) (by omega)))]
      exact ⟨-1, _, rfl, rfl, ⟨pa, va, h, ki, hd, sk, wr, od, g, a, ak, go, kn, du, lr, ls, bt, ow, nw, bf, pc, lo, st, gv, tr', em', rfl, rfl, i1, i2, i3, i4, i5, ⟨i6, i6b⟩, i7⟩⟩
theorem goal_neg {pa : Nat → Int32} {va : Nat → Int64} {h : Nat} {go : Int32} {kn : Nat → Int32} {nw bf : S_Tree} (hh : h ≤ 200) (i4 : gOK pa va h go kn nw bf) : (go = -1 ∧ go < 0 ∧ ¬ 0 ≤ go ∧ ∀ n, kn n = 0) ∨ (¬ go = -1 ∧ ¬ go < 0 ∧ 0 ≤ go ∧ ∃ q, go = nI q ∧ q ≤ h ∧ (∀ p, p < 64 → nw.1 p = sv pa va q p) ∧ ∀ p, p < 64 → bf.1 p = sv pa va (q - 1) p) := by
  rcases i4 with ⟨rfl, q⟩ | ⟨q, rfl, q2, q3, q4⟩
  · exact Or.inl ⟨rfl, by decide, by decide, q⟩
  · exact Or.inr ⟨fun z => nI_pos (n := q) (by omega) (by rw [z]; decide), nI_pos (by omega), nI_pos' (by omega), q, rfl, q2, q3, q4⟩
theorem m_joined {N : Nat} {c : S_SP} {m : S_Mod} (R : Rel N c m) : ∃ (r : Int32) (m' : S_Mod), f_X5_joined c = some r ∧ f_X6_joined m = some (r, m') ∧ Rel N c m' := by
  obtain ⟨pa, va, h, ki, hd, sk, wr, od, g, a, ak, go, kn, du, lr, ls, bt, ow, nw, bf, pc, lo, st, gv, tr, em, rfl, rfl, i1, i2, i3, i4, ⟨t1, t2, t3, t4, t5⟩, i6, i7⟩ := R
  obtain ⟨tr', em', e, hs⟩ := build_held_in (pa := pa) (va := va) (he := nI h) (ki := ki) (hd := hd) (sk := sk) (wr := wr) (od := od) (gi := nI g) (na := nI a) (go := go) (hl := ow.1) (kn := kn) (du := du) (bt := bt) (ak := ak) (st := st) (gv := gv) (tr := tr) (em := em)
  have R' : Rel N (((pa, va, (nI h)), (ki, hd, sk, wr, od, (nI g), (nI a), ak), (ow, nw, bf, kn, du, lr, ls, go), pc, lo, bt) : S_SP) ((pa, va, (nI h), ki, hd, sk, wr, od, (nI g), (nI a), go, ow.1, kn, du, bt, ak, st, gv, tr', em') : S_Mod) := ⟨pa, va, h, ki, hd, sk, wr, od, g, a, ak, go, kn, du, lr, ls, bt, ow, nw, bf, pc, lo, st, gv, tr', em', rfl, rfl, i1, i2, i3, i4, ⟨t1, t2, t3, t4, t5⟩, i6, i7⟩
  unfold f_X5_joined f_X1_isWhole f_X1_hasGoal f_X6_joined
  rw [e, sb]
  dsimp only
  have e1 : Int32.toNatClampNeg 1 = 1 := nI_clamp (n := 1) (by omega)
  rw [e1, show f_X4_digestOf ow 1 = some (ow.2 1) from digestOf_in (n := 1) (by omega) (by omega), t1 1 (by omega) (by omega)]
  have hs1 := hs 1 (by omega) (by omega)
  rcases goal_neg i1.1 i4 with ⟨g1, g2, -, -⟩ | ⟨g1, g2, -, -⟩
  · rw [if_pos g1, if_pos g2]
    exact ⟨0, _, rfl, rfl, R'⟩
  · rw [if_neg g1, if_neg g2, sb, if_neg one_ne, sb]
    by_cases hd2 : du 1 = dg ow.1 1
    · rw [if_pos hd2, if_pos (show tr' 1 = du 1 from hs1.trans hd2.symm)]
      exact ⟨1, _, rfl, rfl, R'⟩
    · rw [if_neg hd2, if_neg (show ¬ tr' 1 = du 1 from fun z => hd2 (z.symm.trans hs1))]
      exact ⟨0, _, rfl, rfl, R'⟩
theorem m_held {N : Nat} {c : S_SP} {m : S_Mod} (R : Rel N c m) (x : Int32) : ∃ r : Int64, f_X5_held c x = some r ∧ f_X6_held m x = some r := by
  obtain ⟨pa, va, h, ki, hd, sk, wr, od, g, a, ak, go, kn, du, lr, ls, bt, ow, nw, bf, pc, lo, st, gv, tr, em, rfl, rfl, i1, i2, i3, i4, i5, i6, i7⟩ := R
  unfold f_X5_held f_X6_held
  dsimp only
  rcases path_or x with ⟨p, hp, rfl⟩ | ⟨h1, hx⟩
  · rw [valueOf_in hp, show (63 : Int32) = nI 63 from rfl, show (0 : Int32) = nI 0 from rfl, in_1 (Nat.zero_le p) (by omega) (by omega), sb, sb, show nI 0 = 0 from rfl, if_neg one_ne, kb_t (ib_nI hp (by omega)), nI_clamp (by omega)]
    exact ⟨_, rfl, rfl⟩
  · rw [in_0 (x := x) (lo := 0) (hi := 63) (hx.elim Or.inl (fun z => Or.inr (lt_of_nI_le (b := 63) (by omega) z)))]
    unfold f_X4_valueOf
    rw [h1]
    exact ⟨0, rfl, rfl⟩
theorem m_mine {N : Nat} {c : S_SP} {m : S_Mod} (R : Rel N c m) (x : Int32) : ∃ (r : Int64) (m' : S_Mod), f_X5_mine c x = some r ∧ f_X6_mine m x = some (r, m') ∧ Rel N c m' := by
  have R0 := R
  obtain ⟨pa, va, h, ki, hd, sk, wr, od, g, a, ak, go, kn, du, lr, ls, bt, ow, nw, bf, pc, lo, st, gv, tr, em, rfl, rfl, i1, i2, i3, i4, ⟨t1, t2, t3, t4, t5⟩, i6, i7⟩ := R
  unfold f_X5_mine f_X6_mine
  dsimp only
  rcases node_or x with ⟨n, h1, h2, rfl⟩ | ⟨hn, hy⟩
  · obtain ⟨tr', em', e, hs⟩ := build_held_in (pa := pa) (va := va) (he := nI h) (ki := ki) (hd := hd) (sk := sk) (wr := wr) (od := od) (gi := nI g) (na := nI a) (go := go) (hl := ow.1) (kn := kn) (du := du) (bt := bt) (ak := ak) (st := st) (gv := gv) (tr := tr) (em := em)
    rw [digestOf_in h1 h2, t1 n h1 h2, show f_X6_in (nI n) 1 127 = some 1 from in_1 (a := 1) (b := 127) h1 (by omega) (by omega), sb, sb, if_neg one_ne, e, sb]
    dsimp only
    rw [kb_t (ib_nI h2 (by omega)), nI_clamp (by omega), hs n h1 h2]
    exact ⟨_, _, rfl, rfl, ⟨pa, va, h, ki, hd, sk, wr, od, g, a, ak, go, kn, du, lr, ls, bt, ow, nw, bf, pc, lo, st, gv, tr', em', rfl, rfl, i1, i2, i3, i4, ⟨t1, t2, t3, t4, t5⟩, i6, i7⟩⟩
  · unfold f_X4_digestOf
    rw [hn, in_0 (x := x) (lo := 1) (hi := 127) (hy.elim Or.inl (fun z => Or.inr (lt_of_nI_le (b := 127) (by omega) z)))]
    exact ⟨0, _, rfl, rfl, R0⟩
theorem m_rot {N : Nat} {c : S_SP} {m : S_Mod} (R : Rel N c m) (x : Int32) (v : Int64) : ∃ (r : Int32) (c' : S_SP) (m' : S_Mod), f_X5_rot c x v = some (r, c') ∧ f_X6_rot m x v = some (r, m') ∧ Rel N c' m' := by
  have R0 := R
  obtain ⟨pa, va, h, ki, hd, sk, wr, od, g, a, ak, go, kn, du, lr, ls, bt, ow, nw, bf, pc, lo, st, gv, tr, em, rfl, rfl, i1, i2, i3, i4, ⟨t1, t2, t3, t4, t5⟩, ⟨i6, i6b⟩, i7⟩ := R
  unfold f_X5_rot f_X6_rot
  dsimp only
  rcases path_or x with ⟨p, hp, rfl⟩ | ⟨h1, hx⟩
  · obtain ⟨ow', e, ok, ev⟩ := put_in t1 hp v
    obtain ⟨lr', ls', e2, hk⟩ := findLacks_in (nw := nw) (bf := bf) (kn := kn) (lr := lr) (du := du) (ls := ls) (go := go) ok
    obtain ⟨tr', em', e3⟩ := lacking_in (pa := pa) (va := va) (he := nI h) (ki := ki) (hd := hd) (sk := sk) (wr := wr) (od := od) (gi := nI g) (na := nI a) (go := go) (hl := ow'.1) (kn := kn) (du := du) (bt := bt) (ak := ak) (st := st) (gv := gv) (tr := tr) (em := em) i6
    refine ⟨ls', (((pa, va, (nI h)), (ki, hd, sk, wr, od, (nI g), (nI a), ak), (ow', nw, bf, kn, du, lr', ls', go), pc, lo, bt) : S_SP), ((pa, va, (nI h), ki, hd, sk, wr, od, (nI g), (nI a), go, (ow'.1), kn, du, bt, ak, st, gv, tr', em') : S_Mod), ?_, ?_, ⟨pa, va, h, ki, hd, sk, wr, od, g, a, ak, go, kn, du, lr', ls', bt, ow', nw, bf, pc, lo, st, gv, tr', em', rfl, rfl, i1, i2, i3, i4, ⟨ok, t2, t3, t4, t5⟩, ⟨i6, i6b⟩, hk⟩⟩
    · rw [isPath_in hp, sb, if_neg one_ne]
      unfold f_X1_spoil
      dsimp only
      rw [e, sb, e2]
      rfl
    · rw [show f_X6_in (nI p) 0 63 = some 1 from in_1 (a := 0) (b := 63) (Nat.zero_le p) (by omega) (by omega), sb, if_neg one_ne, kb_t (ib_nI hp (by omega)), nI_clamp (by omega), ← ev, e3, hk.1]
      rfl
  · rw [h1, in_0 (x := x) (lo := 0) (hi := 63) (hx.elim Or.inl (fun z => Or.inr (lt_of_nI_le (b := 63) (by omega) z)))]
    exact ⟨-1, _, _, rfl, rfl, R0⟩
theorem pair_fgt {kn : Nat → Int32} {i : Nat} (hi : i ≤ 2) : pair (fgt kn i) := by
  intro n h1 h2
  unfold fgt
  rw [if_pos (by omega), if_pos (by omega)]
theorem m_cut {N : Nat} {c : S_SP} {m : S_Mod} (R : Rel N c m) : ∃ (r : Int32) (c' : S_SP) (m' : S_Mod), f_X5_cut c = some (r, c') ∧ f_X6_cut m = some (r, m') ∧ Rel N c' m' := by
  have R0 := R
  obtain ⟨pa, va, h, ki, hd, sk, wr, od, g, a, ak, go, kn, du, lr, ls, bt, ow, nw, bf, pc, lo, st, gv, tr, em, rfl, rfl, i1, i2, i3, i4, ⟨t1, t2, t3, t4, t5⟩, ⟨i6, i6b⟩, i7⟩ := R
  unfold f_X5_cut f_X1_hasGoal f_X6_cut
  dsimp only
  rcases goal_neg i1.1 i4 with ⟨g1, -, g3, -⟩ | ⟨g1, -, g3, g4⟩
  · rw [if_pos g1, if_neg g3]
    exact ⟨-3, _, _, rfl, rfl, R0⟩
  · rw [if_neg g1, if_pos g3, sb, if_neg one_ne]
    obtain ⟨lr', ls', e2, hk⟩ := findLacks_in (ow := ow) (nw := nw) (bf := bf) (kn := fgt kn 2) (lr := lr) (du := du) (ls := ls) (go := go) t1
    obtain ⟨tr', em', e3⟩ := lacking_in (pa := pa) (va := va) (he := nI h) (ki := ki) (hd := hd) (sk := sk) (wr := wr) (od := od) (gi := nI g) (na := nI a) (go := go) (hl := ow.1) (kn := fgt kn 2) (du := du) (bt := bt) (ak := ak) (st := st) (gv := gv) (tr := tr) (em := em) (pair_fgt (Nat.le_refl 2))
    refine ⟨ls', (((pa, va, (nI h)), (ki, hd, sk, wr, od, (nI g), (nI a), ak), (ow, nw, bf, (fgt kn 2), du, lr', ls', go), pc, lo, bt) : S_SP), ((pa, va, (nI h), ki, hd, sk, wr, od, (nI g), (nI a), go, ow.1, (fgt kn 2), du, bt, ak, st, gv, tr', em') : S_Mod), ?_, ?_, ⟨pa, va, h, ki, hd, sk, wr, od, g, a, ak, go, fgt kn 2, du, lr', ls', bt, ow, nw, bf, pc, lo, st, gv, tr', em', rfl, rfl, i1, i2, i3, Or.inr g4, ⟨t1, t2, t3, t4, t5⟩, ⟨pair_fgt (Nat.le_refl 2), ?_⟩, hk⟩⟩
    · unfold f_X1_forgetBelowRoot
      rw [show (2 : Int32) = nI 2 from rfl, forget_in (by omega), sb, e2]
      rfl
    · rw [show (2 : Int32) = nI 2 from rfl, cut12_ok (by omega), sb, e3, hk.1]
      rfl
    · unfold fgt
      rw [if_neg (by omega)]
      exact i6b
