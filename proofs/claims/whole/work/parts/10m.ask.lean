/-! PURE ROWS, 13: one ASK -/
def od2 (x : Int32) : Int32 := x - x / 2 * 2
/-- nothing comes -/
def qt (ki hd : Nat → Int32) (x : Int32) (go : Int32) (j : Nat) : Prop := (¬ hd j = -1 ∧ hd j < go) ∨ (ki j = 4 ∧ od2 x = 0)
theorem upd_self (f : Nat → Int32) (k : Nat) (x : Int32) : upd f k x k = x := by rw [upd_at, if_pos rfl]
theorem lt_not_le {x y : Int32} : x < y ↔ ¬ y ≤ x := by
  rw [Int32.lt_iff_toInt_lt, Int32.le_iff_toInt_le]
  omega
section MM
variable {pa : Nat → Int32} {va : Nat → Int64} {he : Int32} {ki : Nat → Int32} {hd : Nat → Int32} {sk : Nat → Int32} {wr : Nat → Int32} {od : Nat → Int32} {gi : Int32} {na : Int32} {go : Int32} {hl : Nat → Int64} {kn : Nat → Int32} {du : Nat → Int64} {bt : Int32} {ak : Int32} {st : Nat → Int64} {gv : Nat → Int64} {tr : Nat → Int64} {em : Nat → Int32} {ow : S_Tree} {nw : S_Tree} {bf : S_Tree} {lr : Nat → Int32} {ls : Int32} {pc : S_Piece} {lo : S_Tree} {g h a : Nat}
theorem answers_in {j : Nat} (hj : j < g) (hg : g ≤ 12) : ∃ b : Int32, f_X0_answers (ki, hd, sk, wr, od, nI g, na, ak) (nI j) go = some (b, (ki, hd, upd sk j (sk j + 1), wr, od, nI g, na, ak + 1)) ∧ ((b = 0 ∧ qt ki hd (sk j + 1) go j) ∨ (b = 1 ∧ ¬ qt ki hd (sk j + 1) go j)) := by
  unfold f_X0_answers
  rw [has_in hj hg, sb, if_neg one_ne]
  have hib : ∀ {α : Type} {X : Option α}, kb (ib (nI j) 12) X = X := fun {α} {X} => kb_t (ib_nI (by omega) (by omega))
  dsimp only
  simp only [hib]
  rw [nI_clamp (by omega)]
  have e0 : upd sk j (sk j + 1) j = sk j + 1 := upd_self _ _ _
  rw [show ((upd sk j (sk j + 1)) j - (upd sk j (sk j + 1)) j / 2 * 2) = od2 (sk j + 1) by rw [e0]; rfl]
  have e1 : (if hd j = -1 then some (0 : Int32) else Option.bind (if go ≤ hd j then some (0 : Int32) else some 1) fun v17 => some v17) = some (if ¬ hd j = -1 ∧ hd j < go then 1 else 0) := by
    by_cases a1 : hd j = -1
    · rw [if_pos a1, if_neg (fun z => z.1 a1)]
    · rw [if_neg a1]
      by_cases a2 : go ≤ hd j
      · rw [if_pos a2, if_neg (fun z => lt_not_le.mp z.2 a2)]; rfl
      · rw [if_neg a2, if_pos ⟨a1, lt_not_le.mpr a2⟩]; rfl
  have e2 : (if ki j = 4 then Option.bind (if od2 (sk j + 1) = 0 then some (1 : Int32) else some 0) (fun v13 => some v13) else some 0) = some (if ki j = 4 ∧ od2 (sk j + 1) = 0 then 1 else 0) := by
    by_cases a1 : ki j = 4
    · rw [if_pos a1]
      by_cases a2 : od2 (sk j + 1) = 0
      · rw [if_pos a2, if_pos ⟨a1, a2⟩]; rfl
      · rw [if_neg a2, if_neg (fun z => a2 z.2)]; rfl
    · rw [if_neg a1, if_neg (fun z => a1 z.1)]
  rw [e1, sb, e2, sb]
  by_cases c1 : ¬ hd j = -1 ∧ hd j < go
  · rw [if_pos c1, if_neg one_ne]
    exact ⟨0, rfl, Or.inl ⟨rfl, Or.inl c1⟩⟩
  · rw [if_neg c1, if_pos rfl]
    by_cases c2 : ki j = 4 ∧ od2 (sk j + 1) = 0
    · rw [if_pos c2, if_neg one_ne]
      exact ⟨0, rfl, Or.inl ⟨rfl, Or.inr c2⟩⟩
    · rw [if_neg c2, if_pos rfl]
      exact ⟨1, rfl, Or.inr ⟨rfl, fun z => z.elim c1 c2⟩⟩
/-- the rest of an ASK in the class, of the state T -/
def xr (src : S_Source) (g2 : S_Givers) (jo : S_Joiner) (p0 : S_Piece) (l0 : S_Tree) (b0 : Int32) (T : S_Tree) (kd x1 x2 x3 : Int32) : Option (Int32 × S_SP) :=
  (if x3 = 0 then ((f_X4_isLeaf x2).bind fun u => (if u = 0 then ((f_X2_fillPair p0 T kd x2).bind fun z => some z) else ((f_X2_fillLeaves p0 T kd x2).bind fun z => some z) : Option (S_Piece)).bind fun v => some v) else ((f_X2_fillLeaves p0 T kd x2).bind fun z => some z) : Option (S_Piece)).bind fun v => (f_X1_judge jo v).bind fun u => if u = 0 then ((f_X0_blame g2 x1).bind fun z => some (0, (src, z, jo, v, l0, (b0 + v.2.2.2.2.2)))) else ((f_X1_take jo v).bind fun z => some (1, (src, g2, z, v, l0, (b0 + v.2.2.2.2.2))))
theorem exchange_in {j : Nat} (hj : j < g) (hg : g ≤ 12) (x2 x3 : Int32) : (qt ki hd (sk j + 1) go j → f_X5_exchange (((pa, va, (nI h)), (ki, hd, sk, wr, od, (nI g), (nI a), ak), (ow, nw, bf, kn, du, lr, ls, go), pc, lo, bt) : S_SP) (nI j) x2 x3 = some (2, (((pa, va, (nI h)), (ki, hd, (upd sk j (sk j + 1)), wr, od, (nI g), (nI a), (ak + 1)), (ow, nw, bf, kn, du, lr, ls, go), pc, lo, bt) : S_SP))) ∧ (¬ qt ki hd (sk j + 1) go j → f_X5_exchange (((pa, va, (nI h)), (ki, hd, sk, wr, od, (nI g), (nI a), ak), (ow, nw, bf, kn, du, lr, ls, go), pc, lo, bt) : S_SP) (nI j) x2 x3 = xr (pa, va, nI h) (ki, hd, upd sk j (sk j + 1), wr, od, nI g, nI a, ak + 1) ((ow, nw, bf, kn, du, lr, ls, go) : S_Joiner) pc lo bt (if ki j = 3 then bf else nw) (ki j) (nI j) x2 x3) := by
  obtain ⟨b, e, hb⟩ := answers_in (ki := ki) (hd := hd) (sk := sk) (wr := wr) (od := od) (na := nI a) (go := go) (ak := ak) hj hg
  unfold f_X5_exchange
  dsimp only
  rw [has_in hj hg, sb, if_neg one_ne, e, sb]
  dsimp only
  rcases hb with ⟨rfl, hq⟩ | ⟨rfl, hq⟩
  · exact ⟨fun _ => by rw [if_pos rfl], fun z => absurd hq z⟩
  · refine ⟨fun z => absurd z hq, fun _ => ?_⟩
    rw [if_neg one_ne, kb_t (ib_nI (by omega) (by omega)), nI_clamp (by omega)]
    unfold xr
    by_cases k3 : ki j = 3
    · rw [if_pos k3, if_pos k3]
    · rw [if_neg k3, if_neg k3]
theorem blame_in {j : Nat} (hj : j < g) (hg : g ≤ 12) (ha : wr j = 0 → a < 12) : f_X0_blame (ki, hd, sk, wr, od, nI g, nI a, ak) (nI j) = some (ki, hd, sk, upd wr j (wr j + 1), (if wr j = 0 then upd od a (nI j) else od), nI g, nI (if wr j = 0 then a + 1 else a), ak) := by
  unfold f_X0_blame
  rw [has_in hj hg, sb, if_neg one_ne]
  have hib : ∀ {α : Type} {X : Option α}, kb (ib (nI j) 12) X = X := fun {α} {X} => kb_t (ib_nI (by omega) (by omega))
  dsimp only
  simp only [hib]
  rw [nI_clamp (by omega)]
  by_cases w0 : wr j = 0
  · have hlt := ha w0
    rw [if_pos w0, if_pos w0, if_pos w0, if_neg (show ¬ (12 : Int32) ≤ nI a from nI_ge (b := 12) hlt (by omega)), kb_t (ib_nI hlt (by omega)), nI_clamp (by omega), nI_1]
    rfl
  · rw [if_neg w0, if_neg w0, if_neg w0]
    rfl
/-- the rest of an ASK in the reference, behind what came -/
def mt (v7 : Int32 × S_Mod) (y1 : Int32) : Option (Int32 × S_Mod) := if v7.1 = 0 then (kb (ib y1 12) ((if (v7.2.2.2.2.2.2.2.1 (Int32.toNatClampNeg y1)) = 0 then (kb (ib v7.2.2.2.2.2.2.2.2.2.2.1 12) (some ((upd v7.2.2.2.2.2.2.2.2.1 (Int32.toNatClampNeg v7.2.2.2.2.2.2.2.2.2.2.1) y1), (v7.2.2.2.2.2.2.2.2.2.2.1 + 1)))) else (some (v7.2.2.2.2.2.2.2.2.1, v7.2.2.2.2.2.2.2.2.2.2.1)) : Option ((Nat → Int32) × Int32)).bind fun v10 => kb (ib y1 12) (kb (ib y1 12) (some (0, (v7.2.1, v7.2.2.1, v7.2.2.2.1, v7.2.2.2.2.1, v7.2.2.2.2.2.1, v7.2.2.2.2.2.2.1, (upd v7.2.2.2.2.2.2.2.1 (Int32.toNatClampNeg y1) ((v7.2.2.2.2.2.2.2.1 (Int32.toNatClampNeg y1)) + 1)), v10.1, v7.2.2.2.2.2.2.2.2.2.1, v10.2, v7.2.2.2.2.2.2.2.2.2.2.2.1, v7.2.2.2.2.2.2.2.2.2.2.2.2.1, v7.2.2.2.2.2.2.2.2.2.2.2.2.2.1, v7.2.2.2.2.2.2.2.2.2.2.2.2.2.2.1, v7.2.2.2.2.2.2.2.2.2.2.2.2.2.2.2.1, v7.2.2.2.2.2.2.2.2.2.2.2.2.2.2.2.2.1, v7.2.2.2.2.2.2.2.2.2.2.2.2.2.2.2.2.2.1, v7.2.2.2.2.2.2.2.2.2.2.2.2.2.2.2.2.2.2.1, v7.2.2.2.2.2.2.2.2.2.2.2.2.2.2.2.2.2.2.2.1, v7.2.2.2.2.2.2.2.2.2.2.2.2.2.2.2.2.2.2.2.2)))))) else (some (1, v7.2))
theorem mt_0 {j : Nat} (hj : j < 12) (ha : wr j = 0 → a < 12) : mt (0, ((pa, va, he, ki, hd, sk, wr, od, gi, (nI a), go, hl, kn, du, bt, ak, st, gv, tr, em) : S_Mod)) (nI j) = some (0, ((pa, va, he, ki, hd, sk, (upd wr j (wr j + 1)), (if wr j = 0 then upd od a (nI j) else od), gi, (nI (if wr j = 0 then a + 1 else a)), go, hl, kn, du, bt, ak, st, gv, tr, em) : S_Mod)) := by
  unfold mt
  have hib : ∀ {α : Type} {X : Option α}, kb (ib (nI j) 12) X = X := fun {α} {X} => kb_t (ib_nI (by omega) (by omega))
  dsimp only
  rw [if_pos rfl]
  simp only [hib]
  rw [nI_clamp (n := j) (by omega)]
  by_cases w0 : wr j = 0
  · have hlt := ha w0
    rw [if_pos w0, if_pos w0, if_pos w0, kb_t (ib_nI hlt (by omega)), nI_clamp (by omega), nI_1]
    rfl
  · rw [if_neg w0, if_neg w0, if_neg w0]
    rfl
theorem mt_1 (m : S_Mod) (y : Int32) : mt (1, m) y = some (1, m) := by
  unfold mt
  dsimp only
  rw [if_neg one_ne]
/-- what comes, in the reference -/
def mc (m : S_Mod) (kd x2 x3 : Int32) : Option (Int32 × S_Mod) := (if x2 ≤ 63 then ((if x3 = 0 then ((f_X6_pairComes m x2 kd).bind fun u18 => some u18) else ((f_X6_rowComes m x2 kd).bind fun u19 => some u19) : Option (Int32 × S_Mod)).bind fun v16 => some v16) else ((f_X6_leafComes m x2 kd).bind fun u20 => some u20) : Option (Int32 × S_Mod))
theorem asking_in {j q : Nat} (hj : j < g) (hg : g ≤ 12) (hhd : hd j = -1 ∨ ¬ hd j < 0) (x2 x3 : Int32) (hgo : go = nI q) (hq : q ≤ 200) : (qt ki hd (sk j + 1) go j → f_X6_asking ((pa, va, he, ki, hd, sk, wr, od, gi, na, go, hl, kn, du, bt, ak, st, gv, tr, em) : S_Mod) (nI j) x2 x3 = some (2, ((pa, va, he, ki, hd, (upd sk j (sk j + 1)), wr, od, gi, na, go, hl, kn, du, bt, (ak + 1), st, gv, tr, em) : S_Mod))) ∧ (¬ qt ki hd (sk j + 1) go j → f_X6_asking ((pa, va, he, ki, hd, sk, wr, od, gi, na, go, hl, kn, du, bt, ak, st, gv, tr, em) : S_Mod) (nI j) x2 x3 = (f_X6_stateAt ((pa, va, he, ki, hd, (upd sk j (sk j + 1)), wr, od, gi, na, go, hl, kn, du, bt, (ak + 1), st, gv, tr, em) : S_Mod) (nI (if ki j = 3 then q - 1 else q))).bind fun u6 => (mc u6 (ki j) x2 x3).bind fun v7 => mt v7 (nI j)) := by
  have hib : ∀ {α : Type} {X : Option α}, kb (ib (nI j) 12) X = X := fun {α} {X} => kb_t (ib_nI (by omega) (by omega))
  have h69 : f_X6_asking_69 (ki j) (nI j) x2 x3 ((pa, va, he, ki, hd, (upd sk j (sk j + 1)), wr, od, gi, na, go, hl, kn, du, bt, (ak + 1), st, gv, tr, em) : S_Mod) = (f_X6_stateAt ((pa, va, he, ki, hd, (upd sk j (sk j + 1)), wr, od, gi, na, go, hl, kn, du, bt, (ak + 1), st, gv, tr, em) : S_Mod) (nI (if ki j = 3 then q - 1 else q))).bind fun u6 => (mc u6 (ki j) x2 x3).bind fun v7 => mt v7 (nI j) := by
    unfold f_X6_asking_69
    dsimp only
    have e : (if ki j = 3 then Option.bind (if go ≤ 0 then some go else some (go - 1)) (fun v22 => some v22) else some go) = some (nI (if ki j = 3 then q - 1 else q)) := by
      by_cases k3 : ki j = 3
      · rw [if_pos k3, if_pos k3, hgo]
        cases q with
        | zero => rw [if_pos (show nI 0 ≤ 0 by decide)]; rfl
        | succ q => rw [if_neg (nI_nle (by omega) (by omega)), nI_pred]; rfl
      · rw [if_neg k3, if_neg k3, hgo]
    rw [e, sb]
    rfl
  have h50 : f_X6_asking_50 (ki j) (nI j) x2 x3 ((pa, va, he, ki, hd, (upd sk j (sk j + 1)), wr, od, gi, na, go, hl, kn, du, bt, (ak + 1), st, gv, tr, em) : S_Mod) = if ki j = 4 ∧ od2 (sk j + 1) = 0 then some (2, ((pa, va, he, ki, hd, (upd sk j (sk j + 1)), wr, od, gi, na, go, hl, kn, du, bt, (ak + 1), st, gv, tr, em) : S_Mod)) else f_X6_asking_69 (ki j) (nI j) x2 x3 ((pa, va, he, ki, hd, (upd sk j (sk j + 1)), wr, od, gi, na, go, hl, kn, du, bt, (ak + 1), st, gv, tr, em) : S_Mod) := by
    unfold f_X6_asking_50
    dsimp only
    simp only [hib]
    rw [nI_clamp (by omega), show ((upd sk j (sk j + 1)) j - (upd sk j (sk j + 1)) j / 2 * 2) = od2 (sk j + 1) by rw [upd_self]; rfl]
    by_cases a1 : ki j = 4
    · rw [if_pos a1]
      by_cases a2 : od2 (sk j + 1) = 0
      · rw [if_pos a2, if_pos ⟨a1, a2⟩]
      · rw [if_neg a2, if_neg (fun z => a2 z.2)]
    · rw [if_neg a1, if_neg (fun z => a1 z.1)]
  unfold f_X6_asking
  dsimp only
  simp only [hib]
  rw [nI_clamp (by omega), h50]
  rcases hhd with q1 | q1
  · rw [if_pos (show hd j < 0 by rw [q1]; decide)]
    refine ⟨fun z => ?_, fun z => ?_⟩
    · rw [if_pos (z.resolve_left (fun y => y.1 q1))]
    · rw [if_neg (fun y => z (Or.inr y)), h69]
  · rw [if_neg q1]
    have q2 : ¬ hd j = -1 := fun z => q1 (by rw [z]; decide)
    by_cases c1 : hd j < go
    · rw [if_pos c1]
      exact ⟨fun _ => rfl, fun z => absurd (Or.inl ⟨q2, c1⟩) z⟩
    · rw [if_neg c1]
      refine ⟨fun z => ?_, fun z => ?_⟩
      · rw [if_pos (z.resolve_left (fun y => c1 y.2))]
      · rw [if_neg (fun y => z (Or.inr y)), h69]
/-- what comes of a row or of a leaf -/
theorem mc_row (kd : Int32) {n : Nat} (h1 : 1 ≤ n) (h2 : n < 128) {x3 : Int32} (hx : 64 ≤ n ∨ ¬ x3 = 0) : ∃ (gv' tr' : Nat → Int64) (em' : Nat → Int32), mc ((pa, va, he, ki, hd, sk, wr, od, gi, na, go, hl, kn, du, bt, ak, st, gv, tr, em) : S_Mod) kd (nI n) x3 = some (if du n = dg (rwk kd st n) n then (1, ((pa, va, he, ki, hd, sk, wr, od, gi, na, go, (cpy hl (rwk kd st n) n), kn, du, (bt + rbytes (rwk kd st n) n), ak, st, gv', tr', em') : S_Mod)) else (0, ((pa, va, he, ki, hd, sk, wr, od, gi, na, go, hl, kn, du, (bt + rbytes (rwk kd st n) n), ak, st, gv', tr', em') : S_Mod))) := by
  unfold mc
  by_cases h64 : 64 ≤ n
  · refine ⟨gv, tr, em, ?_⟩
    rw [if_neg (show ¬ nI n ≤ (63 : Int32) from nI_ge (a := 63) (by omega) (by omega))]
    have e := leafComes_in (pa := pa) (va := va) (he := he) (ki := ki) (hd := hd) (sk := sk) (wr := wr) (od := od) (gi := gi) (na := na) (go := go) (hl := hl) (kn := kn) (du := du) (bt := bt) (ak := ak) (st := st) (gv := gv) (tr := tr) (em := em) kd (p := n - 64) (by omega)
    rw [show 64 + (n - 64) = n by omega] at e
    rw [e, sb, show rbytes (rwk kd st n) n = 8 by unfold rbytes; rw [if_pos h64]]
  · rw [if_pos (show nI n ≤ (63 : Int32) from nI_le (b := 63) (by omega) (by omega)), if_neg (hx.resolve_left h64)]
    obtain ⟨gv', tr', em', e⟩ := rowComes_in (pa := pa) (va := va) (he := he) (ki := ki) (hd := hd) (sk := sk) (wr := wr) (od := od) (gi := gi) (na := na) (go := go) (hl := hl) (kn := kn) (du := du) (bt := bt) (ak := ak) (st := st) (gv := gv) (tr := tr) (em := em) kd h1 (by omega)
    refine ⟨gv', tr', em', ?_⟩
    rw [e]
    rfl
theorem mc_pair (kd : Int32) {n : Nat} (h1 : 1 ≤ n) (h2 : n < 64) : ∃ (tr' : Nat → Int64) (em' : Nat → Int32), mc ((pa, va, he, ki, hd, sk, wr, od, gi, na, go, hl, kn, du, bt, ak, st, gv, tr, em) : S_Mod) kd (nI n) 0 = some (if du n = mx (prk kd st n).1 (prk kd st n).2 then (1, ((pa, va, he, ki, hd, sk, wr, od, gi, na, go, (hk (hk hl (2 * n) (prk kd st n).1) (2 * n + 1) (prk kd st n).2), (upd (upd kn (2 * n) 1) (2 * n + 1) 1), (vp_updL (vp_updL du (2 * n) (prk kd st n).1) (2 * n + 1) (prk kd st n).2), (bt + 16), ak, st, gv, tr', em') : S_Mod)) else (0, ((pa, va, he, ki, hd, sk, wr, od, gi, na, go, hl, kn, du, (bt + 16), ak, st, gv, tr', em') : S_Mod))) := by
  unfold mc
  obtain ⟨tr', em', e⟩ := pairComes_in (pa := pa) (va := va) (he := he) (ki := ki) (hd := hd) (sk := sk) (wr := wr) (od := od) (gi := gi) (na := na) (go := go) (hl := hl) (kn := kn) (du := du) (bt := bt) (ak := ak) (st := st) (gv := gv) (tr := tr) (em := em) kd h1 h2
  refine ⟨tr', em', ?_⟩
  rw [if_pos (show nI n ≤ (63 : Int32) from nI_le (b := 63) (by omega) (by omega)), if_pos rfl, e]
  rfl
end MM
