/-! PURE ROWS, 10: the class's state beside the reference's -/
/-- how many givers have a fault -/
def cw (wr : Nat → Int32) : Nat → Nat
  | 0 => 0
  | k + 1 => (if wr k = 0 then 0 else 1) + cw wr k
theorem cw_le (wr : Nat → Int32) : ∀ k, cw wr k ≤ k := by
  intro k
  induction k with
  | zero => exact Nat.le_refl 0
  | succ k ih =>
    rw [cw]
    split <;> omega
theorem cw_lt (wr : Nat → Int32) {j : Nat} (h0 : wr j = 0) : ∀ k, j < k → cw wr k < k := by
  intro k
  induction k with
  | zero => intro h; omega
  | succ k ih =>
    intro h
    rw [cw]
    by_cases hj : j = k
    · subst hj
      have := cw_le wr j
      rw [if_pos h0]
      omega
    · have := ih (by omega)
      split <;> omega
theorem cw_upd (wr : Nat → Int32) {j : Nat} {x : Int32} (hx : ¬ x = 0) : ∀ k, cw (upd wr j x) k = cw wr k + (if j < k ∧ wr j = 0 then 1 else 0) := by
  intro k
  induction k with
  | zero => rw [if_neg (by omega)]; rfl
  | succ k ih =>
    rw [cw, cw, ih, upd_at]
    by_cases hj : k = j
    · subst hj
      rw [if_pos rfl, if_neg hx, if_neg (by omega)]
      by_cases h0 : wr k = 0
      · rw [if_pos h0, if_pos (show k < k + 1 ∧ wr k = 0 from ⟨by omega, h0⟩)]; omega
      · rw [if_neg h0, if_neg (show ¬ (k < k + 1 ∧ wr k = 0) from fun z => h0 z.2)]; omega
    · rw [if_neg hj]
      by_cases h0 : j < k ∧ wr j = 0
      · rw [if_pos h0, if_pos (show j < k + 1 ∧ wr j = 0 from ⟨by omega, h0.2⟩)]; omega
      · rw [if_neg h0, if_neg (show ¬ (j < k + 1 ∧ wr j = 0) from fun z => h0 ⟨by omega, z.2⟩)]; omega
theorem one_ne : ¬ (1 : Int32) = 0 := by decide
def gOK (pa : Nat → Int32) (va : Nat → Int64) (h : Nat) (go : Int32) (kn : Nat → Int32) (nw bf : S_Tree) : Prop :=
  (go = -1 ∧ ∀ n, kn n = 0) ∨ ∃ q, go = nI q ∧ q ≤ h ∧ (∀ p, p < 64 → nw.1 p = sv pa va q p) ∧ ∀ p, p < 64 → bf.1 p = sv pa va (q - 1) p
def Inv (N : Nat) (pa : Nat → Int32) (va : Nat → Int64) (h : Nat) (hd wr : Nat → Int32) (g a : Nat) (go : Int32) (kn : Nat → Int32) (du : Nat → Int64) (lr : Nat → Int32) (ls : Int32) (ow nw bf : S_Tree) (pc : S_Piece) (lo : S_Tree) : Prop :=
  (h ≤ 200 ∧ pOK pa h) ∧ (g ≤ 12 ∧ ∀ j, j < g → hd j = -1 ∨ ¬ hd j < 0) ∧ (cw wr 12 = a ∧ ∀ j, j < 12 → ∃ w, w ≤ N ∧ wr j = nI w) ∧ gOK pa va h go kn nw bf ∧ (TOK ow ∧ TOK nw ∧ TOK bf ∧ TOK pc.1 ∧ TOK lo) ∧ (pair kn ∧ kn 0 = 0) ∧ LKR kn du ow.1 lr ls
def Rel (N : Nat) (c : S_SP) (m : S_Mod) : Prop :=
  ∃ (pa : Nat → Int32) (va : Nat → Int64) (h : Nat) (ki hd sk wr od : Nat → Int32) (g a : Nat) (ak go : Int32) (kn : Nat → Int32) (du : Nat → Int64) (lr : Nat → Int32) (ls bt : Int32) (ow nw bf : S_Tree) (pc : S_Piece) (lo : S_Tree) (st gv tr : Nat → Int64) (em : Nat → Int32),
    c = (((pa, va, (nI h)), (ki, hd, sk, wr, od, (nI g), (nI a), ak), (ow, nw, bf, kn, du, lr, ls, go), pc, lo, bt) : S_SP) ∧ m = ((pa, va, (nI h), ki, hd, sk, wr, od, (nI g), (nI a), go, ow.1, kn, du, bt, ak, st, gv, tr, em) : S_Mod) ∧ Inv N pa va h hd wr g a go kn du lr ls ow nw bf pc lo
theorem Rel.mono {N N' : Nat} {c : S_SP} {m : S_Mod} (R : Rel N c m) (hN : N ≤ N') : Rel N' c m := by
  obtain ⟨pa, va, h, ki, hd, sk, wr, od, g, a, ak, go, kn, du, lr, ls, bt, ow, nw, bf, pc, lo, st, gv, tr, em, ec, em', i1, i2, ⟨i3, i3b⟩, i4, i5, i6, i7⟩ := R
  exact ⟨pa, va, h, ki, hd, sk, wr, od, g, a, ak, go, kn, du, lr, ls, bt, ow, nw, bf, pc, lo, st, gv, tr, em, ec, em', i1, i2, ⟨i3, fun j hj => (i3b j hj).elim fun w q => ⟨w, by omega, q.2⟩⟩, i4, i5, i6, i7⟩
theorem hasHeight_in {pa : Nat → Int32} {va : Nat → Int64} {h j : Nat} (hj : j ≤ h) (hh : h ≤ 200) : f_X3_hasHeight (pa, va, nI h) (nI j) = some 1 := by
  unfold f_X3_hasHeight
  show (if nI j < 0 then _ else (if nI h < nI j then _ else _)) = _
  rw [if_neg (nI_pos (by omega)), if_neg (nI_nlt hj (by omega))]
theorem hasHeight_out {pa : Nat → Int32} {va : Nat → Int64} {h : Nat} {x : Int32} (hh : h ≤ 200) (hx : x < 0 ∨ nI (h + 1) ≤ x) : f_X3_hasHeight (pa, va, nI h) x = some 0 := by
  unfold f_X3_hasHeight
  show (if x < 0 then _ else (if nI h < x then _ else _)) = _
  by_cases h0 : x < 0
  · rw [if_pos h0]
  · rw [if_neg h0, if_pos (lt_of_nI_le (by omega) (hx.resolve_left h0))]
theorem m_leaf {N : Nat} {c : S_SP} {m : S_Mod} (R : Rel N c m) (x : Int32) (v : Int64) : ∃ (r : Int32) (c' : S_SP) (m' : S_Mod), f_X5_leaf c x v = some (r, c') ∧ f_X6_leaf m x v = some (r, m') ∧ Rel N c' m' := by
  have R0 := R
  obtain ⟨pa, va, h, ki, hd, sk, wr, od, g, a, ak, go, kn, du, lr, ls, bt, ow, nw, bf, pc, lo, st, gv, tr, em, rfl, rfl, ⟨hh, hp⟩, i2, i3, i4, i5, i6, i7⟩ := R
  unfold f_X5_leaf f_X6_leaf
  rcases in_or x (b := 63) (by omega) with ⟨p, hp1, rfl, hin⟩ | ⟨hin, hx⟩
  · rw [show (63 : Int32) = nI 63 from rfl, hin, isPath_in (by omega)]
    by_cases hf : h = 200
    · refine ⟨-2, _, _, ?_, ?_, R0⟩
      · show Option.bind (f_X3_append (pa, va, nI h) (nI p) v) _ = _
        unfold f_X3_append
        show Option.bind (if nI h < 200 then _ else _) _ = _
        rw [if_neg (show ¬ nI h < (200 : Int32) from nI_nlt (b := 200) (by omega) (by omega))]
        rfl
      · show (if nI h = 200 then _ else _) = _
        rw [if_pos (by rw [hf]; rfl)]
    · have e1 : nI h + 1 = nI (h + 1) := nI_1 h
      refine ⟨nI (h + 1), ((((upd pa (h + 1) (nI p)), (vp_updL va (h + 1) v), (nI (h + 1))), (ki, hd, sk, wr, od, (nI g), (nI a), ak), (ow, nw, bf, kn, du, lr, ls, go), pc, lo, bt) : S_SP), (((upd pa (h + 1) (nI p)), (vp_updL va (h + 1) v), (nI (h + 1)), ki, hd, sk, wr, od, (nI g), (nI a), go, ow.1, kn, du, bt, ak, st, gv, tr, em) : S_Mod), ?_, ?_, ?_⟩
      · show Option.bind (f_X3_append (pa, va, nI h) (nI p) v) _ = _
        unfold f_X3_append
        show Option.bind (if nI h < 200 then kb (ib (nI h + 1) 201) (kb (ib (nI h + 1) 201) (some (1, (upd pa (Int32.toNatClampNeg (nI h + 1)) (nI p)), (vp_updL va (Int32.toNatClampNeg (nI h + 1)) v), nI h + 1))) else _) _ = _
        rw [if_pos (show nI h < (200 : Int32) from nI_lt (b := 200) (by omega) (by omega)), e1, kb_t (ib_nI (by omega) (by omega)), kb_t (ib_nI (by omega) (by omega)), nI_clamp (by omega)]
        rfl
      · rw [sb, if_neg one_ne]
        dsimp only
        rw [if_neg (show ¬ nI h = (200 : Int32) from fun z => hf ((nI_eq (b := 200) (by omega) (by omega)).mp z)), e1, kb_t (ib_nI (by omega) (by omega)), kb_t (ib_nI (by omega) (by omega)), nI_clamp (by omega)]
      · have hc : ∀ k, 1 ≤ k → k ≤ h → upd pa (h + 1) (nI p) k = pa k ∧ vp_updL va (h + 1) v k = va k := fun k q1 q2 => by
          rw [upd_at, if_neg (by omega), updL_at, if_neg (by omega)]
          exact ⟨rfl, rfl⟩
        refine ⟨_, _, h + 1, ki, hd, sk, wr, od, g, a, ak, go, kn, du, lr, ls, bt, ow, nw, bf, pc, lo, st, gv, tr, em, rfl, rfl, ⟨by omega, fun k q1 q2 => ?_⟩, i2, i3, ?_, i5, i6, i7⟩
        · by_cases hk : k = h + 1
          · rw [hk, upd_at, if_pos rfl]
            exact ⟨p, by omega, rfl⟩
          · rw [(hc k q1 (by omega)).1]
            exact hp k q1 (by omega)
        · rcases i4 with q | ⟨q, q1, q2, q3, q4⟩
          · exact Or.inl q
          · refine Or.inr ⟨q, q1, by omega, fun p2 hp2 => ?_, fun p2 hp2 => ?_⟩
            · rw [sv_congr q (fun k a1 a2 => hc k a1 (by omega))]
              exact q3 p2 hp2
            · rw [sv_congr (q - 1) (fun k a1 a2 => hc k a1 (by omega))]
              exact q4 p2 hp2
  · rw [show (63 : Int32) = nI 63 from rfl, hin]
    rcases path_or x with ⟨p, h1, rfl⟩ | ⟨h1, -⟩
    · exact absurd hx (fun z => z.elim (nI_pos (by omega)) (nI_ge (b := 64) h1 (by omega)))
    · rw [h1]
      exact ⟨-1, _, _, rfl, rfl, R0⟩
theorem m_value {N : Nat} {c : S_SP} {m : S_Mod} (R : Rel N c m) (x y : Int32) : ∃ (r : Int64) (m' : S_Mod), f_X5_value c x y = some r ∧ f_X6_value m x y = some (r, m') ∧ Rel N c m' := by
  have R0 := R
  obtain ⟨pa, va, h, ki, hd, sk, wr, od, g, a, ak, go, kn, du, lr, ls, bt, ow, nw, bf, pc, lo, st, gv, tr, em, rfl, rfl, ⟨hh, hp⟩, i2, i3, i4, i5, i6, i7⟩ := R
  unfold f_X5_value f_X6_value
  show ∃ (r : Int64) (m' : S_Mod), Option.bind (f_X3_hasHeight (pa, va, nI h) x) _ = _ ∧ Option.bind (f_X6_in x 0 (nI h)) _ = _ ∧ _
  rcases in_or x (b := h) (by omega) with ⟨q, hq, rfl, hin⟩ | ⟨hin, hx⟩
  · rw [hin, hasHeight_in hq hh]
    show ∃ (r : Int64) (m' : S_Mod), Option.bind (f_X3_valueAt (pa, va, nI h) (nI q) y) _ = _ ∧ Option.bind (f_X6_in y 0 63) _ = _ ∧ _
    have e0 : f_X3_valueAt (pa, va, nI h) (nI q) y = f_X3_valueAt_9 y (pa, va, nI h) FU (nI q) := by
      unfold f_X3_valueAt
      show f_X3_valueAt_9 y (pa, va, nI h) FU (if nI h < nI q then nI h else nI q) = _
      rw [if_neg (nI_nlt hq (by omega))]
    rw [e0]
    have hpq : pOK pa q := fun k a1 a2 => hp k a1 (by omega)
    rcases in_or y (b := 63) (by omega) with ⟨p, hp1, rfl, hin2⟩ | ⟨hin2, hy⟩
    · rw [show (63 : Int32) = nI 63 from rfl, hin2, valueAt9_ok (h := q) (by omega) hpq p (by omega) FU q (Nat.le_refl _) (by unfold FU; omega)]
      obtain ⟨st', e, hs⟩ := stateAt_in (pa := pa) (va := va) (he := nI h) (ki := ki) (hd := hd) (sk := sk) (wr := wr) (od := od) (gi := nI g) (na := nI a) (go := go) (hl := ow.1) (kn := kn) (du := du) (bt := bt) (ak := ak) (st := st) (gv := gv) (tr := tr) (em := em) (h := q) (by omega) hpq
      refine ⟨sv pa va q p, ((pa, va, (nI h), ki, hd, sk, wr, od, (nI g), (nI a), go, ow.1, kn, du, bt, ak, st', gv, tr, em) : S_Mod), rfl, ?_, ⟨pa, va, h, ki, hd, sk, wr, od, g, a, ak, go, kn, du, lr, ls, bt, ow, nw, bf, pc, lo, st', gv, tr, em, rfl, rfl, ⟨hh, hp⟩, i2, i3, i4, i5, i6, i7⟩⟩
      show Option.bind (f_X6_stateAt ((pa, va, (nI h), ki, hd, sk, wr, od, (nI g), (nI a), go, ow.1, kn, du, bt, ak, st, gv, tr, em) : S_Mod) (nI q)) _ = _
      rw [e]
      show kb (ib (nI p) 64) (some (st' (nI p).toNatClampNeg, _)) = _
      rw [kb_t (ib_nI (by omega) (by omega)), nI_clamp (by omega), hs p (by omega)]
    · rw [show (63 : Int32) = nI 63 from rfl, hin2, valueAt9_out (h := q) (by omega) hpq y hy FU q (Nat.le_refl _) (by unfold FU; omega)]
      exact ⟨0, _, rfl, rfl, R0⟩
  · rw [hin, hasHeight_out hh hx]
    exact ⟨0, _, rfl, rfl, R0⟩
theorem m_digest {N : Nat} {c : S_SP} {m : S_Mod} (R : Rel N c m) (x y : Int32) : ∃ (r : Int64) (c' : S_SP) (m' : S_Mod), f_X5_digest c x y = some (r, c') ∧ f_X6_digest m x y = some (r, m') ∧ Rel N c' m' := by
  have R0 := R
  obtain ⟨pa, va, h, ki, hd, sk, wr, od, g, a, ak, go, kn, du, lr, ls, bt, ow, nw, bf, pc, lo, st, gv, tr, em, rfl, rfl, ⟨hh, hp⟩, i2, i3, i4, ⟨t1, t2, t3, t4, t5⟩, i6, i7⟩ := R
  unfold f_X5_digest f_X6_digest
  show ∃ (r : Int64) (c' : S_SP) (m' : S_Mod), Option.bind (f_X3_hasHeight (pa, va, nI h) x) _ = _ ∧ Option.bind (f_X6_in x 0 (nI h)) _ = _ ∧ _
  rcases in_or x (b := h) (by omega) with ⟨q, hq, rfl, hin⟩ | ⟨hin, hx⟩
  · rw [hin, hasHeight_in hq hh]
    show ∃ (r : Int64) (c' : S_SP) (m' : S_Mod), Option.bind (f_X4_isNode y) _ = _ ∧ Option.bind (f_X6_in y 1 127) _ = _ ∧ _
    have hpq : pOK pa q := fun k a1 a2 => hp k a1 (by omega)
    rcases node_or y with ⟨n, h1, h2, rfl⟩ | ⟨hn, hy⟩
    · rw [isNode_in h1 h2, show (127 : Int32) = nI 127 from rfl, show (1 : Int32) = nI 1 from rfl, in_1 h1 (by omega) (by omega)]
      obtain ⟨st', e, hs⟩ := stateAt_in (pa := pa) (va := va) (he := nI h) (ki := ki) (hd := hd) (sk := sk) (wr := wr) (od := od) (gi := nI g) (na := nI a) (go := go) (hl := ow.1) (kn := kn) (du := du) (bt := bt) (ak := ak) (st := st) (gv := gv) (tr := tr) (em := em) (h := q) (by omega) hpq
      obtain ⟨tr', em', e2, hs2⟩ := build_state_in (pa := pa) (va := va) (he := nI h) (ki := ki) (hd := hd) (sk := sk) (wr := wr) (od := od) (gi := nI g) (na := nI a) (go := go) (hl := ow.1) (kn := kn) (du := du) (bt := bt) (ak := ak) (st := st') (gv := gv) (tr := tr) (em := em)
      obtain ⟨t', e3, ok, hv⟩ := copyState_in (va := va) hh hq hp t5
      refine ⟨dg t'.1 n, (((pa, va, (nI h)), (ki, hd, sk, wr, od, (nI g), (nI a), ak), (ow, nw, bf, kn, du, lr, ls, go), pc, t', bt) : S_SP), ((pa, va, (nI h), ki, hd, sk, wr, od, (nI g), (nI a), go, ow.1, kn, du, bt, ak, st', gv, tr', em') : S_Mod), ?_, ?_, ⟨pa, va, h, ki, hd, sk, wr, od, g, a, ak, go, kn, du, lr, ls, bt, ow, nw, bf, pc, t', st', gv, tr', em', rfl, rfl, ⟨hh, hp⟩, i2, i3, i4, ⟨t1, t2, t3, t4, ok⟩, i6, i7⟩⟩
      · show Option.bind (f_X3_copyState (pa, va, nI h) lo (nI q)) _ = _
        rw [e3]
        show Option.bind (f_X4_digestOf t' (nI n)) _ = _
        rw [digestOf_in h1 h2, ok n h1 h2]
        rfl
      · show Option.bind (f_X6_stateAt ((pa, va, (nI h), ki, hd, sk, wr, od, (nI g), (nI a), go, ow.1, kn, du, bt, ak, st, gv, tr, em) : S_Mod) (nI q)) _ = _
        rw [e]
        show Option.bind (f_X6_build_state ((pa, va, (nI h), ki, hd, sk, wr, od, (nI g), (nI a), go, ow.1, kn, du, bt, ak, st', gv, tr, em) : S_Mod)) _ = _
        rw [e2]
        show kb (ib (nI n) 128) (some (tr' (nI n).toNatClampNeg, _)) = _
        rw [kb_t (ib_nI h2 (by omega)), nI_clamp (by omega), hs2 n h1 h2, dg_eq64 (v := st') (w := t'.1) (fun p hp2 => (hs p hp2).trans (hv p hp2).symm) h1 h2]
    · rw [hn, in_0 (x := y) (lo := 1) (hi := 127) (hy.elim Or.inl (fun z => Or.inr (lt_of_nI_le (b := 127) (by omega) z)))]
      exact ⟨0, _, _, rfl, rfl, R0⟩
  · rw [hin, hasHeight_out hh hx]
    exact ⟨0, _, _, rfl, rfl, R0⟩
