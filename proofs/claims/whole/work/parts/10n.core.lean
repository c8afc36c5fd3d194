/-! PURE ROWS, 14: one ASK, both sides -/
theorem judge_row {ow nw bf L : S_Tree} {kn lr : Nat → Int32} {du : Nat → Int64} {ls go : Int32} (hL : TOK L) {n : Nat} (h1 : 1 ≤ n) (h2 : n < 128) (le ri : Int64) (b : Int32) : f_X1_judge ((ow, nw, bf, kn, du, lr, ls, go) : S_Joiner) (L, nI n, 0, le, ri, b) = some (if du n = dg L.1 n then 1 else 0) := by
  unfold f_X1_judge
  dsimp only
  rw [isNode_in h1 h2, sb, if_neg one_ne, kb_t (ib_nI h2 (by omega)), nI_clamp (by omega), ownDigest_row hL h1 h2, sb]
  by_cases hd : du n = dg L.1 n
  · rw [if_pos hd, if_pos hd]
  · rw [if_neg hd, if_neg hd]
theorem judge_pair {ow nw bf L : S_Tree} {kn lr : Nat → Int32} {du : Nat → Int64} {ls go : Int32} {n : Nat} (h1 : 1 ≤ n) (h2 : n < 128) (le ri : Int64) (b : Int32) : f_X1_judge ((ow, nw, bf, kn, du, lr, ls, go) : S_Joiner) (L, nI n, 1, le, ri, b) = some (if du n = mx le ri then 1 else 0) := by
  unfold f_X1_judge
  dsimp only
  rw [isNode_in h1 h2, sb, if_neg one_ne, kb_t (ib_nI h2 (by omega)), nI_clamp (by omega), ownDigest_pair, sb]
  by_cases hd : du n = mx le ri
  · rw [if_pos hd, if_pos hd]
  · rw [if_neg hd, if_neg hd]
theorem take_row {ow nw bf L : S_Tree} {kn lr : Nat → Int32} {du : Nat → Int64} {ls go : Int32} (ht : TOK ow) {n : Nat} (h1 : 1 ≤ n) (h2 : n < 128) (le ri : Int64) (b : Int32) : ∃ (ow' : S_Tree) (lr' : Nat → Int32) (ls' : Int32), f_X1_take ((ow, nw, bf, kn, du, lr, ls, go) : S_Joiner) (L, nI n, 0, le, ri, b) = some ((ow', nw, bf, kn, du, lr', ls', go) : S_Joiner) ∧ TOK ow' ∧ ow'.1 = cpy ow.1 L.1 n ∧ LKR kn du ow'.1 lr' ls' := by
  obtain ⟨ow', e, ok, ev⟩ := copyBelow_in ht L h1 h2
  obtain ⟨lr', ls', e2, hkl⟩ := findLacks_in (ow := ow') (nw := nw) (bf := bf) (kn := kn) (lr := lr) (du := du) (ls := ls) (go := go) ok
  refine ⟨ow', lr', ls', ?_, ok, ev, hkl⟩
  unfold f_X1_take
  dsimp only
  rw [if_pos rfl, e, sb, sb, e2]
  rfl
theorem take_pair {ow nw bf L : S_Tree} {kn lr : Nat → Int32} {du : Nat → Int64} {ls go : Int32} (ht : TOK ow) {n : Nat} (h1 : 1 ≤ n) (h2 : n < 64) (x y : Int64) (b : Int32) : ∃ (ow' : S_Tree) (lr' : Nat → Int32) (ls' : Int32), f_X1_take ((ow, nw, bf, kn, du, lr, ls, go) : S_Joiner) (L, nI n, 1, x, y, b) = some ((ow', nw, bf, (upd (upd kn (2 * n) 1) (2 * n + 1) 1), (vp_updL (vp_updL du (2 * n) x) (2 * n + 1) y), lr', ls', go) : S_Joiner) ∧ TOK ow' ∧ ow'.1 = hk (hk ow.1 (2 * n) x) (2 * n + 1) y ∧ LKR (upd (upd kn (2 * n) 1) (2 * n + 1) 1) (vp_updL (vp_updL du (2 * n) x) (2 * n + 1) y) ow'.1 lr' ls' := by
  obtain ⟨o1, e1, ok1, ev1⟩ := learn_in (ow := ow) (nw := nw) (bf := bf) (kn := kn) (lr := lr) (du := du) (ls := ls) (go := go) ht (n := 2 * n) (by omega) (by omega) x
  obtain ⟨o2, e2, ok2, ev2⟩ := learn_in (ow := o1) (nw := nw) (bf := bf) (kn := upd kn (2 * n) 1) (lr := lr) (du := vp_updL du (2 * n) x) (ls := ls) (go := go) ok1 (n := 2 * n + 1) (by omega) (by omega) y
  obtain ⟨lr', ls', e3, hkl⟩ := findLacks_in (ow := o2) (nw := nw) (bf := bf) (kn := upd (upd kn (2 * n) 1) (2 * n + 1) 1) (lr := lr) (du := vp_updL (vp_updL du (2 * n) x) (2 * n + 1) y) (ls := ls) (go := go) ok2
  refine ⟨o2, lr', ls', ?_, ok2, by rw [ev2, ev1], hkl⟩
  unfold f_X1_take
  dsimp only
  rw [if_neg one_ne, show (2 : Int32) * nI n = nI (2 * n) from pk_mul 2 n, nI_1, e1, sb, e2, sb, sb, e3]
  rfl
theorem pair_upd {kn : Nat → Int32} (hp : pair kn) {n : Nat} (h1 : 1 ≤ n) (h2 : n < 64) : pair (upd (upd kn (2 * n) 1) (2 * n + 1) 1) := by
  intro m q1 q2
  rw [upd_at, upd_at, upd_at, upd_at]
  by_cases hm : m = n
  · subst hm
    rw [if_neg (by omega), if_pos rfl, if_pos rfl]
  · rw [if_neg (by omega), if_neg (by omega), if_neg (by omega), if_neg (by omega)]
    exact hp m q1 q2
theorem x_core {N : Nat} {pa : Nat → Int32} {va : Nat → Int64} {ki : Nat → Int32} {hd : Nat → Int32} {sk : Nat → Int32} {wr : Nat → Int32} {od : Nat → Int32} {go : Int32} {kn : Nat → Int32} {du : Nat → Int64} {bt : Int32} {ak : Int32} {st : Nat → Int64} {gv : Nat → Int64} {tr : Nat → Int64} {em : Nat → Int32} {ow : S_Tree} {nw : S_Tree} {bf : S_Tree} {lr : Nat → Int32} {ls : Int32} {pc : S_Piece} {lo : S_Tree} {g h a : Nat} (hI : Inv N pa va h hd wr g a go kn du lr ls ow nw bf pc lo) (hN : N < 2 ^ 30) {j n : Nat} (hj : j < g) (h1 : 1 ≤ n) (h2 : n < 128) (hlk : lk kn du ow.1 n = true) (wh : Int32) :
    ∃ (r : Int32) (c' : S_SP) (m' : S_Mod), f_X5_exchange (((pa, va, (nI h)), (ki, hd, sk, wr, od, (nI g), (nI a), ak), (ow, nw, bf, kn, du, lr, ls, go), pc, lo, bt) : S_SP) (nI j) (nI n) wh = some (r, c') ∧ f_X6_asking ((pa, va, (nI h), ki, hd, sk, wr, od, (nI g), (nI a), go, ow.1, kn, du, bt, ak, st, gv, tr, em) : S_Mod) (nI j) (nI n) wh = some (r, m') ∧ Rel (N + 1) c' m' := by
  obtain ⟨i1, ⟨hg, hhd⟩, ⟨i3, i3b⟩, i4, ⟨t1, t2, t3, t4, t5⟩, ⟨i6, i6b⟩, i7⟩ := hI
  have hkn : ¬ kn n = 0 := (of_decide_eq_true hlk).1
  have i4b := i4
  rcases i4 with ⟨-, q⟩ | ⟨q, hgo, hq, hv1, hv2⟩
  · exact absurd (q n) hkn
  obtain ⟨xa, xb⟩ := exchange_in (pa := pa) (va := va) (ki := ki) (hd := hd) (sk := sk) (wr := wr) (od := od) (go := go) (kn := kn) (du := du) (bt := bt) (ak := ak) (ow := ow) (nw := nw) (bf := bf) (lr := lr) (ls := ls) (pc := pc) (lo := lo) (g := g) (h := h) (a := a) hj hg (nI n) wh
  obtain ⟨ya, yb⟩ := asking_in (pa := pa) (va := va) (he := nI h) (ki := ki) (hd := hd) (sk := sk) (wr := wr) (od := od) (gi := nI g) (na := nI a) (go := go) (hl := ow.1) (kn := kn) (du := du) (bt := bt) (ak := ak) (st := st) (gv := gv) (tr := tr) (em := em) (g := g) hj hg (hhd j hj) (nI n) wh hgo (by omega)
  have i3n : ∀ j', j' < 12 → ∃ w, w ≤ N + 1 ∧ wr j' = nI w := fun j' hj' => (i3b j' hj').elim fun w z => ⟨w, by omega, z.2⟩
  by_cases hqt : qt ki hd (sk j + 1) go j
  · rw [xa hqt, ya hqt]
    exact ⟨2, _, _, rfl, rfl, ⟨pa, va, h, ki, hd, upd sk j (sk j + 1), wr, od, g, a, ak + 1, go, kn, du, lr, ls, bt, ow, nw, bf, pc, lo, st, gv, tr, em, rfl, rfl, i1, ⟨hg, hhd⟩, ⟨i3, i3n⟩, i4b, ⟨t1, t2, t3, t4, t5⟩, ⟨i6, i6b⟩, i7⟩⟩
  · rw [xb hqt, yb hqt]
    -- the state that is given
    obtain ⟨st', e, hs⟩ := stateAt_in (pa := pa) (va := va) (he := nI h) (ki := ki) (hd := hd) (sk := upd sk j (sk j + 1)) (wr := wr) (od := od) (gi := nI g) (na := nI a) (go := go) (hl := ow.1) (kn := kn) (du := du) (bt := bt) (ak := ak + 1) (st := st) (gv := gv) (tr := tr) (em := em) (h := if ki j = 3 then q - 1 else q) (by split <;> omega) (fun k a1 a2 => i1.2 k a1 (by split at a2 <;> omega))
    rw [e, sb]
    have hT : TOK (if ki j = 3 then bf else nw) := by split <;> assumption
    have hTv : ∀ p, p < 64 → (if ki j = 3 then bf else nw).1 p = st' p := by
      intro p hp
      rw [hs p hp]
      by_cases k3 : ki j = 3
      · rw [if_pos k3, if_pos k3]; exact hv2 p hp
      · rw [if_neg k3, if_neg k3]; exact hv1 p hp
    generalize (if ki j = 3 then bf else nw) = T at hT hTv
    generalize ki j = kd
    -- a fault
    have ha : wr j = 0 → a < 12 := fun z => by rw [← i3]; exact cw_lt wr z 12 (by omega)
    obtain ⟨w, hw, ew⟩ := i3b j (by omega)
    have hw1 : ¬ wr j + 1 = 0 := by rw [ew, nI_1]; exact nI_ne0 (by omega) (by omega)
    have hcw : cw (upd wr j (wr j + 1)) 12 = if wr j = 0 then a + 1 else a := by
      rw [cw_upd wr hw1 12, i3]
      by_cases w0 : wr j = 0
      · rw [if_pos ⟨by omega, w0⟩, if_pos w0]
      · rw [if_neg (fun z => w0 z.2), if_neg w0]; rfl
    have i3w : ∀ j', j' < 12 → ∃ w, w ≤ N + 1 ∧ upd wr j (wr j + 1) j' = nI w := by
      intro j' hj'
      rw [upd_at]
      by_cases hjj : j' = j
      · rw [if_pos hjj, ew, nI_1]
        exact ⟨w + 1, by omega, rfl⟩
      · rw [if_neg hjj]
        exact i3n j' hj'
    have hbl := blame_in (ki := ki) (hd := hd) (sk := upd sk j (sk j + 1)) (wr := wr) (od := od) (ak := ak + 1) (g := g) (a := a) hj hg ha
    obtain ⟨hle, hlt⟩ := fl_le n h2 h1
    have hag : ∀ p, fp n ≤ p → p ≤ lp n → T.1 p = st' p := fun p _ b => hTv p (by omega)
    by_cases hx : 64 ≤ n ∨ ¬ wh = 0
    · -- a row, a leaf
      obtain ⟨L, eL, okL, hvL⟩ := fillLeaves_in t4 T kd h1 h2
      have hvL2 : ∀ p, fp n ≤ p → p ≤ lp n → L.1 p = rwk kd st' n p := fun p a1 a2 => (hvL p a1 a2).trans (rwk_congr h1 h2 hag p a1 a2)
      have hdL : dg L.1 n = dg (rwk kd st' n) n := dg_same h1 h2 hvL2
      have hbL : rbytes L.1 n = rbytes (rwk kd st' n) n := by unfold rbytes; rw [cntB_congr h1 h2 hvL2]
      have hcL : cpy ow.1 L.1 n = cpy ow.1 (rwk kd st' n) n := cpy_congr hvL2
      obtain ⟨gv', tr', em', em1⟩ := mc_row (pa := pa) (va := va) (he := nI h) (ki := ki) (hd := hd) (sk := upd sk j (sk j + 1)) (wr := wr) (od := od) (gi := nI g) (na := nI a) (go := go) (hl := ow.1) (kn := kn) (du := du) (bt := bt) (ak := ak + 1) (st := st') (gv := gv) (tr := tr) (em := em) kd h1 h2 hx
      rw [em1, sb]
      have hpiece : (if wh = 0 then ((f_X4_isLeaf (nI n)).bind fun u => (if u = 0 then ((f_X2_fillPair pc T kd (nI n)).bind fun z => some z) else ((f_X2_fillLeaves pc T kd (nI n)).bind fun z => some z) : Option (S_Piece)).bind fun v => some v) else ((f_X2_fillLeaves pc T kd (nI n)).bind fun z => some z) : Option (S_Piece)) = some (L, nI n, 0, pc.2.2.2.1, pc.2.2.2.2.1, rbytes L.1 n) := by
        by_cases hw0 : wh = 0
        · have h64 : 64 ≤ n := hx.resolve_right (fun z => z hw0)
          rw [if_pos hw0, isLeaf_in h2, if_pos h64, sb, if_neg one_ne, eL]
          rfl
        · rw [if_neg hw0, eL]
          rfl
      unfold xr
      rw [hpiece, sb, judge_row okL h1 h2, sb]
      dsimp only
      rw [hdL]
      by_cases hd2 : du n = dg (rwk kd st' n) n
      · rw [if_pos hd2, if_pos hd2, if_neg one_ne, mt_1]
        obtain ⟨ow', lr', ls', e2, ok2, ev2, hkl⟩ := take_row (ow := ow) (nw := nw) (bf := bf) (L := L) (kn := kn) (lr := lr) (du := du) (ls := ls) (go := go) t1 h1 h2 pc.2.2.2.1 pc.2.2.2.2.1 (rbytes L.1 n)
        rw [e2, sb, hbL, ← hcL, ← ev2]
        exact ⟨1, _, _, rfl, rfl, ⟨pa, va, h, ki, hd, upd sk j (sk j + 1), wr, od, g, a, ak + 1, go, kn, du, lr', ls', bt + rbytes (rwk kd st' n) n, ow', nw, bf, _, lo, st', gv', tr', em', rfl, rfl, i1, ⟨hg, hhd⟩, ⟨i3, i3n⟩, i4b, ⟨ok2, t2, t3, okL, t5⟩, ⟨i6, i6b⟩, hkl⟩⟩
      · rw [if_neg hd2, if_neg hd2, if_pos rfl, hbl, sb, mt_0 (by omega) ha, hbL]
        exact ⟨0, _, _, rfl, rfl, ⟨pa, va, h, ki, hd, upd sk j (sk j + 1), upd wr j (wr j + 1), _, g, _, ak + 1, go, kn, du, lr, ls, bt + rbytes (rwk kd st' n) n, ow, nw, bf, _, lo, st', gv', tr', em', rfl, rfl, i1, ⟨hg, hhd⟩, ⟨hcw, i3w⟩, i4b, ⟨t1, t2, t3, okL, t5⟩, ⟨i6, i6b⟩, i7⟩⟩
    · -- two digests
      have hn : n < 64 := by omega
      have hw0 : wh = 0 := Classical.byContradiction (fun z => hx (Or.inr z))
      subst hw0
      obtain ⟨tr', em', em1⟩ := mc_pair (pa := pa) (va := va) (he := nI h) (ki := ki) (hd := hd) (sk := upd sk j (sk j + 1)) (wr := wr) (od := od) (gi := nI g) (na := nI a) (go := go) (hl := ow.1) (kn := kn) (du := du) (bt := bt) (ak := ak + 1) (st := st') (gv := gv) (tr := tr) (em := em) kd h1 hn
      have hpr : prk kd T.1 n = prk kd st' n := by
        unfold prk
        rw [dg_eq64 hTv (m := 2 * n) (by omega) (by omega), dg_eq64 hTv (m := 2 * n + 1) (by omega) (by omega)]
      have ePr := fillPair_in pc hT kd h1 hn
      rw [hpr] at ePr
      rw [em1, sb]
      generalize prk kd st' n = xy at ePr ⊢
      obtain ⟨x, y⟩ := xy
      dsimp only at ePr ⊢
      unfold xr
      rw [if_pos rfl, isLeaf_in h2, if_neg (by omega), sb, if_pos rfl, ePr, sb, sb, sb, judge_pair h1 h2, sb]
      dsimp only
      by_cases hd2 : du n = mx x y
      · rw [if_pos hd2, if_pos hd2, if_neg one_ne, mt_1]
        obtain ⟨ow', lr', ls', e2, ok2, ev2, hkl⟩ := take_pair (ow := ow) (nw := nw) (bf := bf) (L := pc.1) (kn := kn) (lr := lr) (du := du) (ls := ls) (go := go) t1 h1 hn x y 16
        rw [e2, sb, ← ev2]
        exact ⟨1, _, _, rfl, rfl, ⟨pa, va, h, ki, hd, upd sk j (sk j + 1), wr, od, g, a, ak + 1, go, _, _, lr', ls', bt + 16, ow', nw, bf, _, lo, st', gv, tr', em', rfl, rfl, i1, ⟨hg, hhd⟩, ⟨i3, i3n⟩, Or.inr ⟨q, hgo, hq, hv1, hv2⟩, ⟨ok2, t2, t3, t4, t5⟩, ⟨pair_upd i6 h1 hn, by rw [upd_at, if_neg (by omega), upd_at, if_neg (by omega)]; exact i6b⟩, hkl⟩⟩
      · rw [if_neg hd2, if_neg hd2, if_pos rfl, hbl, sb, mt_0 (by omega) ha]
        exact ⟨0, _, _, rfl, rfl, ⟨pa, va, h, ki, hd, upd sk j (sk j + 1), upd wr j (wr j + 1), _, g, _, ak + 1, go, kn, du, lr, ls, bt + 16, ow, nw, bf, _, lo, st', gv, tr', em', rfl, rfl, i1, ⟨hg, hhd⟩, ⟨hcw, i3w⟩, i4b, ⟨t1, t2, t3, t4, t5⟩, ⟨i6, i6b⟩, i7⟩⟩
