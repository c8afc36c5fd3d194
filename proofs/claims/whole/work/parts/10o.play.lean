/-! PURE ROWS, 15: ask and play -/
theorem Rel.of {N : Nat} {pa : Nat → Int32} {va : Nat → Int64} {ki : Nat → Int32} {hd : Nat → Int32} {sk : Nat → Int32} {wr : Nat → Int32} {od : Nat → Int32} {go : Int32} {kn : Nat → Int32} {du : Nat → Int64} {bt : Int32} {ak : Int32} {st : Nat → Int64} {gv : Nat → Int64} {tr : Nat → Int64} {em : Nat → Int32} {ow : S_Tree} {nw : S_Tree} {bf : S_Tree} {lr : Nat → Int32} {ls : Int32} {pc : S_Piece} {lo : S_Tree} {g h a : Nat} (hI : Inv N pa va h hd wr g a go kn du lr ls ow nw bf pc lo) : Rel N (((pa, va, (nI h)), (ki, hd, sk, wr, od, (nI g), (nI a), ak), (ow, nw, bf, kn, du, lr, ls, go), pc, lo, bt) : S_SP) ((pa, va, (nI h), ki, hd, sk, wr, od, (nI g), (nI a), go, ow.1, kn, du, bt, ak, st, gv, tr, em) : S_Mod) := ⟨pa, va, h, ki, hd, sk, wr, od, g, a, ak, go, kn, du, lr, ls, bt, ow, nw, bf, pc, lo, st, gv, tr, em, rfl, rfl, hI⟩
theorem ask_tail {N : Nat} {pa : Nat → Int32} {va : Nat → Int64} {ki : Nat → Int32} {hd : Nat → Int32} {sk : Nat → Int32} {wr : Nat → Int32} {od : Nat → Int32} {go : Int32} {kn : Nat → Int32} {du : Nat → Int64} {bt : Int32} {ak : Int32} {st : Nat → Int64} {gv : Nat → Int64} {tr : Nat → Int64} {em : Nat → Int32} {ow : S_Tree} {nw : S_Tree} {bf : S_Tree} {lr : Nat → Int32} {ls : Int32} {pc : S_Piece} {lo : S_Tree} {g h a : Nat} (hI : Inv N pa va h hd wr g a go kn du lr ls ow nw bf pc lo) (hN : N < 2 ^ 30) {j n : Nat} (hj : j < g) (h1 : 1 ≤ n) (h2 : n < 128) (z : Int32) : ∃ (r : Int32) (c' : S_SP) (m' : S_Mod), f_X5_ask_29 (nI j) (nI n) z (((pa, va, (nI h)), (ki, hd, sk, wr, od, (nI g), (nI a), ak), (ow, nw, bf, kn, du, lr, ls, go), pc, lo, bt) : S_SP) = some (r, c') ∧ f_X6_ask_35 (nI j) (nI n) z ((pa, va, (nI h), ki, hd, sk, wr, od, (nI g), (nI a), go, ow.1, kn, du, bt, ak, st, gv, tr, em) : S_Mod) = some (r, m') ∧ Rel (N + 1) c' m' := by
  have hI0 := hI
  obtain ⟨i1, i2, i3, i4, ⟨t1, t2, t3, t4, t5⟩, ⟨i6, i6b⟩, i7⟩ := hI
  obtain ⟨tr', em', e, hs⟩ := build_held_in (pa := pa) (va := va) (he := nI h) (ki := ki) (hd := hd) (sk := sk) (wr := wr) (od := od) (gi := nI g) (na := nI a) (go := go) (hl := ow.1) (kn := kn) (du := du) (bt := bt) (ak := ak) (st := st) (gv := gv) (tr := tr) (em := em)
  have R' : Rel (N + 1) (((pa, va, (nI h)), (ki, hd, sk, wr, od, (nI g), (nI a), ak), (ow, nw, bf, kn, du, lr, ls, go), pc, lo, bt) : S_SP) ((pa, va, (nI h), ki, hd, sk, wr, od, (nI g), (nI a), go, ow.1, kn, du, bt, ak, st, gv, tr', em') : S_Mod) := (Rel.of hI0).mono (by omega)
  unfold f_X5_ask_29 f_X6_ask_35
  rw [e, sb]
  dsimp only
  rw [lacks_in t1 h1 h2, sb]
  rcases goal_neg i1.1 i4 with ⟨g1, g2, -, g4⟩ | ⟨g1, g2, -, -⟩
  · have hl : ¬ lk kn du ow.1 n = true := fun y => (of_decide_eq_true y).1 (g4 n)
    rw [if_pos g2, if_pos (b2_0.mpr hl)]
    exact ⟨-3, _, _, rfl, rfl, R'⟩
  · rw [if_neg g2, mlacks_in i6 hs h1 h2, sb]
    by_cases hl : lk kn du ow.1 n = true
    · rw [if_neg (fun y => b2_0.mp y hl)]
      obtain ⟨r, c', m', e1, e2, R2⟩ := x_core (ki := ki) (sk := sk) (od := od) (bt := bt) (ak := ak) (st := st) (gv := gv) (tr := tr') (em := em') hI0 hN hj h1 h2 hl z
      rw [e1, sb, if_neg (fun y => b2_0.mp y hl), e2, sb]
      exact ⟨r, c', m', rfl, rfl, R2⟩
    · rw [if_pos (b2_0.mpr hl), if_pos (b2_0.mpr hl)]
      exact ⟨-3, _, _, rfl, rfl, R'⟩
theorem m_ask {N : Nat} {c : S_SP} {m : S_Mod} (R : Rel N c m) (hN : N < 2 ^ 30) (x y z : Int32) : ∃ (r : Int32) (c' : S_SP) (m' : S_Mod), f_X5_ask c x y z = some (r, c') ∧ f_X6_ask m x y z = some (r, m') ∧ Rel (N + 1) c' m' := by
  have R0 : Rel (N + 1) c m := R.mono (by omega)
  obtain ⟨pa, va, h, ki, hd, sk, wr, od, g, a, ak, go, kn, du, lr, ls, bt, ow, nw, bf, pc, lo, st, gv, tr, em, rfl, rfl, hI⟩ := R
  have hg : g ≤ 12 := hI.2.1.1
  unfold f_X5_ask f_X6_ask
  dsimp only
  rcases in_pred x (n := g) (by omega) with ⟨j, hj, rfl, hin⟩ | ⟨hin, hx⟩
  · rw [hin, has_in hj hg, sb, sb, if_neg one_ne, if_neg one_ne]
    rcases node_or y with ⟨n, h1, h2, rfl⟩ | ⟨hn, hy⟩
    · rw [isNode_in h1 h2, show f_X6_in (nI n) 1 127 = some 1 from in_1 (a := 1) (b := 127) h1 (by omega) (by omega), sb, sb, if_neg one_ne, if_neg one_ne]
      by_cases z0 : z = 0
      · rw [if_pos z0, if_pos z0]
        exact ask_tail hI hN hj h1 h2 z
      · rw [if_neg z0, if_neg z0]
        by_cases n4 : (4 : Int32) ≤ nI n
        · rw [if_pos n4, if_pos n4]
          exact ask_tail hI hN hj h1 h2 z
        · rw [if_neg n4, if_neg n4]
          exact ⟨-1, _, _, rfl, rfl, R0⟩
    · rw [hn, in_0 (x := y) (lo := 1) (hi := 127) (hy.elim Or.inl (fun q => Or.inr (lt_of_nI_le (b := 127) (by omega) q)))]
      exact ⟨-1, _, _, rfl, rfl, R0⟩
  · rw [hin, has_out hx]
    exact ⟨-1, _, _, rfl, rfl, R0⟩
theorem play_loop {n : Nat} (hn : n ≤ 300) : ∀ (f i : Nat) (tk : Int32) (x : Int64) (c : S_SP) (m : S_Mod) (N : Nat), Rel N c m → N + (n - i) < 2 ^ 30 → i ≤ n → n - i < f →
    ∃ (r : Int32) (c' : S_SP) (m' : S_Mod), f_X5_play_36 (nI n) f (nI i) tk x c = some (r, c') ∧ f_X6_play_32 (nI n) f (nI i) tk x m = some (r, m') ∧ Rel (N + (n - i)) c' m' := by
  intro f
  induction f with
  | zero => intro i tk x c m N R h1 h2 h3; omega
  | succ f ih =>
    intro i tk x c m N R hN h2 h3
    have R0 : Rel (N + (n - i)) c m := R.mono (by omega)
    obtain ⟨pa, va, h, ki, hd, sk, wr, od, g, a, ak, go, kn, du, lr, ls, bt, ow, nw, bf, pc, lo, st, gv, tr, em, rfl, rfl, hI⟩ := R
    have hI0 := hI
    obtain ⟨i1, ⟨hg, hhd⟩, i3, i4, ⟨t1, t2, t3, t4, t5⟩, ⟨i6, i6b⟩, i7⟩ := hI
    rw [f_X5_play_36, f_X6_play_32]
    by_cases hc : nI n ≤ nI i
    · rw [if_pos hc, if_pos hc]
      exact ⟨tk, _, _, rfl, rfl, R0⟩
    · rw [if_neg hc, if_neg hc]
      have hin : i < n := by
        rcases Nat.lt_or_ge i n with q | q
        · exact q
        · exact absurd (nI_le q (by omega)) hc
      obtain ⟨tr1, em1, e1⟩ := lacking_in (pa := pa) (va := va) (he := nI h) (ki := ki) (hd := hd) (sk := sk) (wr := wr) (od := od) (gi := nI g) (na := nI a) (go := go) (hl := ow.1) (kn := kn) (du := du) (bt := bt) (ak := ak) (st := st) (gv := gv) (tr := tr) (em := em) i6
      have hlen := LM_len kn du ow.1
      have R1 : Rel (N + (n - i)) (((pa, va, (nI h)), (ki, hd, sk, wr, od, (nI g), (nI a), ak), (ow, nw, bf, kn, du, lr, ls, go), pc, lo, bt) : S_SP) ((pa, va, (nI h), ki, hd, sk, wr, od, (nI g), (nI a), go, ow.1, kn, du, bt, ak, st, gv, tr1, em1) : S_Mod) := (Rel.of hI0).mono (by omega)
      rw [e1, sb]
      dsimp only
      by_cases g0 : g = 0
      · rw [if_pos (show nI g ≤ 0 by rw [g0]; decide), if_pos (show nI g = 0 by rw [g0]; rfl)]
        exact ⟨tk, _, _, rfl, rfl, R1⟩
      · rw [if_neg (show ¬ nI g ≤ 0 from nI_nle (by omega) (by omega)), if_neg (show ¬ nI g = 0 from nI_ne0 (by omega) (by omega)), i7.1]
        by_cases l0 : (LM kn du ow.1).length = 0
        · rw [if_pos (show nI (LM kn du ow.1).length ≤ 0 by rw [l0]; decide), if_pos (show nI (LM kn du ow.1).length = 0 by rw [l0]; rfl)]
          exact ⟨tk, _, _, rfl, rfl, by rw [← i7.1]; exact R1⟩
        · have hkz : ∀ {k : Nat}, ¬ k = 0 → k < 2 ^ 31 → kz (nI k) = true := fun {k} a b => decide_eq_true (nI_ne0 (by omega) b)
          rw [if_neg (show ¬ nI (LM kn du ow.1).length ≤ 0 from nI_nle (by omega) (by omega)), if_neg (show ¬ nI (LM kn du ow.1).length = 0 from nI_ne0 (by omega) (by omega)), kb_t (hkz l0 (by omega)), kb_t (hkz l0 (by omega))]
          obtain ⟨Hh, hH, eH⟩ := pk_andE (Int64.toInt32 ((Int64.toUInt64 ((x * 6364136223846793005) + 1442695040888963407) >>> ((Int32.toInt64 32).toUInt64 &&& Int64.toUInt64 63)).toInt64)) (m := 2147483647) 31 (by decide)
          rw [eH]
          generalize (x * 6364136223846793005) + 1442695040888963407 = x2
          have e16 : nI Hh / 16 = nI (Hh / 16) := pk_div (d := 16) (by omega) (by omega) (by omega)
          have erem : nI (Hh / 16) - nI (Hh / 16) / nI (LM kn du ow.1).length * nI (LM kn du ow.1).length = nI (Hh / 16 % (LM kn du ow.1).length) := pk_rem (by omega) (by omega) (by omega)
          have hidx : Hh / 16 % (LM kn du ow.1).length < (LM kn du ow.1).length := Nat.mod_lt _ (by omega)
          have egrem : nI Hh - nI Hh / nI g * nI g = nI (Hh % g) := pk_rem (by omega) (by omega) (by omega)
          have hgi : Hh % g < g := Nat.mod_lt _ (by omega)
          obtain ⟨n1, n2, n3⟩ := LM_in hidx
          obtain ⟨tr2, em2, e2⟩ := missing_in (pa := pa) (va := va) (he := nI h) (ki := ki) (hd := hd) (sk := sk) (wr := wr) (od := od) (gi := nI g) (na := nI a) (go := go) (hl := ow.1) (kn := kn) (du := du) (bt := bt) (ak := ak) (st := st) (gv := gv) (tr := tr1) (em := em1) i6 (k := Hh / 16 % (LM kn du ow.1).length) (by omega)
          rw [if_pos hidx] at e2
          rw [← i7.1] at erem ⊢
          rw [e16, erem, lackAt_in i7 hidx, sb, e2, sb]
          dsimp only
          generalize hnd : (LM kn du ow.1).getD (Hh / 16 % (LM kn du ow.1).length) 0 = nd at n1 n2 n3
          have ew : (if nI nd < 4 then some (0 : Int32) else some 1) = (if nI nd ≤ 3 then some (0 : Int32) else some 1) := by
            by_cases q : nd < 4
            · rw [if_pos (show nI nd < (4 : Int32) from nI_lt (b := 4) q (by omega)), if_pos (show nI nd ≤ (3 : Int32) from nI_le (b := 3) (by omega) (by omega))]
            · rw [if_neg (show ¬ nI nd < (4 : Int32) from nI_nlt (b := 4) (by omega) (by omega)), if_neg (show ¬ nI nd ≤ (3 : Int32) from nI_ge (a := 3) (by omega) (by omega))]
          rw [ew]
          have hwv : ∃ wv : Int32, (if nI Hh / 4096 - nI Hh / 4096 / 2 * 2 = 1 then Option.bind (if nI nd ≤ 3 then some (0 : Int32) else some 1) (fun v15 => some v15) else some 0) = some wv := by
            by_cases q1 : nI Hh / 4096 - nI Hh / 4096 / 2 * 2 = 1
            · rw [if_pos q1]
              by_cases q2 : nI nd ≤ 3
              · rw [if_pos q2]; exact ⟨0, rfl⟩
              · rw [if_neg q2]; exact ⟨1, rfl⟩
            · rw [if_neg q1]; exact ⟨0, rfl⟩
          obtain ⟨wv, ewv⟩ := hwv
          rw [ewv, sb, sb, kb_t (hkz g0 (by omega)), kb_t (hkz g0 (by omega)), egrem]
          obtain ⟨r, c', m', x1, x3, R2⟩ := x_core (ki := ki) (sk := sk) (od := od) (bt := bt) (ak := ak) (st := st) (gv := gv) (tr := tr2) (em := em2) hI0 (by omega) hgi n1 n2 n3 wv
          rw [x1, x3, sb, sb, nI_1]
          dsimp only
          have hfin : ∀ tk2 : Int32, ∃ (r : Int32) (c'' : S_SP) (m'' : S_Mod), f_X5_play_36 (nI n) f (nI (i + 1)) tk2 x2 c' = some (r, c'') ∧ f_X6_play_32 (nI n) f (nI (i + 1)) tk2 x2 m' = some (r, m'') ∧ Rel (N + (n - i)) c'' m'' := by
            intro tk2
            obtain ⟨r2, c2, m2, y1, y2, y3⟩ := ih (i + 1) tk2 x2 c' m' (N + 1) R2 (by omega) (by omega) (by omega)
            exact ⟨r2, c2, m2, y1, y2, by rw [show N + (n - i) = N + 1 + (n - (i + 1)) by omega]; exact y3⟩
          by_cases r1 : r = 1
          · rw [if_pos r1, if_pos r1]
            exact hfin _
          · rw [if_neg r1, if_neg r1]
            exact hfin _
theorem m_play {N : Nat} {c : S_SP} {m : S_Mod} (R : Rel N c m) (hN : N + 300 < 2 ^ 30) (x : Int64) (y : Int32) : ∃ (r : Int32) (c' : S_SP) (m' : S_Mod), f_X5_play c x y = some (r, c') ∧ f_X6_play m x y = some (r, m') ∧ Rel (N + 300) c' m' := by
  have R0 : Rel (N + 300) c m := R.mono (by omega)
  have Rk := R
  obtain ⟨pa, va, h, ki, hd, sk, wr, od, g, a, ak, go, kn, du, lr, ls, bt, ow, nw, bf, pc, lo, st, gv, tr, em, rfl, rfl, hI⟩ := R
  unfold f_X5_play f_X6_play f_X6_in
  by_cases y1 : y < 1
  · rw [if_pos y1, if_pos y1]
    exact ⟨-1, _, _, rfl, rfl, R0⟩
  · rw [if_neg y1, if_neg y1]
    by_cases y2 : y ≤ 300
    · have y3 : ¬ 300 < y := fun z => lt_not_le.mp z y2
      rw [if_pos y2, if_neg y3, sb, if_neg one_ne]
      unfold f_X1_hasGoal
      dsimp only
      rcases goal_neg hI.1.1 hI.2.2.2.1 with ⟨g1, -, g3, -⟩ | ⟨g1, -, g3, -⟩
      · rw [if_pos g1, if_neg g3]
        exact ⟨-3, _, _, rfl, rfl, R0⟩
      · rw [if_neg g1, if_pos g3, sb, if_neg one_ne]
        obtain ⟨n, hn, rfl⟩ := nI_of2 (x := y) (M := 300) (n := 300) (by decide) (fun z => y1 (by rw [Int32.lt_iff_toInt_lt] at z ⊢; exact Int.lt_trans z (by decide))) y2
        obtain ⟨r, c', m', e1, e2, R2⟩ := play_loop hn FU 0 0 x _ _ N Rk (by omega) (by omega) (by unfold FU; omega)
        rw [show (0 : Int32) = nI 0 from rfl]
        rw [show f_X5_play_36 (nI n) FU (nI 0) (nI 0) x (((pa, va, (nI h)), (ki, hd, sk, wr, od, (nI g), (nI a), ak), (ow, nw, bf, kn, du, lr, ls, go), pc, lo, bt) : S_SP) = some (r, c') from e1, sb, show f_X6_play_32 (nI n) FU (nI 0) (nI 0) x ((pa, va, (nI h), ki, hd, sk, wr, od, (nI g), (nI a), go, ow.1, kn, du, bt, ak, st, gv, tr, em) : S_Mod) = some (r, m') from e2]
        exact ⟨r, c', m', rfl, rfl, R2.mono (by omega)⟩
    · have y3 : 300 < y := lt_not_le.mpr y2
      rw [if_neg y2, if_pos y3]
      exact ⟨-1, _, _, rfl, rfl, R0⟩
