/-! PURE ROWS, 7: to know, to forget; what the reference counts as missing -/
theorem know26_ok {nd : Nat} (h1 : 1 ≤ nd) (h2 : nd < 128) : ∀ (n i : Nat) (t : Nat → Int64), i ≤ lp nd + 1 → lp nd + 1 - i < n →
    f_X6_know_26 (nI nd) n (nI i) t = some (fun m => if i ≤ m ∧ m ≤ lp nd then 0 else t m) := by
  obtain ⟨hle, hlt⟩ := fl_le nd h2 h1
  intro n
  induction n with
  | zero => intro i t h1 h2; omega
  | succ n ih =>
    intro i t q1 q2
    rw [f_X6_know_26, lo_ok nd h2 h1]
    show (if nI (lp nd) < nI i then _ else _) = _
    by_cases hc : lp nd < i
    · rw [if_pos (nI_lt hc (by omega))]
      refine congrArg some (funext fun m => ?_)
      rw [if_neg (by omega)]
    · rw [if_neg (nI_nlt (by omega) (by omega)), kb_t (ib_nI (by omega) (by omega)), nI_1, nI_clamp (by omega), ih (i + 1) _ (by omega) (by omega)]
      refine congrArg some (funext fun m => ?_)
      by_cases hm : m = i
      · subst hm
        rw [if_neg (by omega), if_pos (by omega), updL_at, if_pos rfl]
      · by_cases hm2 : i + 1 ≤ m ∧ m ≤ lp nd
        · rw [if_pos hm2, if_pos (by omega)]
        · rw [if_neg hm2, if_neg (by omega), updL_at, if_neg hm]
/-- what is held behind a digest that got known -/
def hk (v : Nat → Int64) (n : Nat) (d : Int64) : Nat → Int64 := if d = 0 then cle v n else v
/-- forgetting from a node on -/
def fgt (kn : Nat → Int32) (i : Nat) : Nat → Int32 := fun m => if i ≤ m ∧ m < 128 then 0 else kn m
theorem fgt_loop (f : Nat → Int32 → (Nat → Int32) → Option (Nat → Int32)) (hf : ∀ n y t, f (n + 1) y t = if 128 ≤ y then (some t) else (kb (ib y 128) (f n (y + 1) (upd t (Int32.toNatClampNeg y) 0)))) : ∀ (n i : Nat) (t : Nat → Int32), i ≤ 128 → 128 - i < n → f n (nI i) t = some (fgt t i) := by
  intro n
  induction n with
  | zero => intro i t h1 h2; omega
  | succ n ih =>
    intro i t h1 h2
    rw [hf]
    by_cases hc : 128 ≤ i
    · rw [if_pos (show (128 : Int32) ≤ nI i from nI_le (a := 128) hc (by omega))]
      refine congrArg some (funext fun m => ?_)
      unfold fgt
      rw [if_neg (by omega)]
    · rw [if_neg (show ¬ (128 : Int32) ≤ nI i from nI_ge (b := 128) (by omega) (by omega)), kb_t (ib_nI (by omega) (by omega)), nI_1, nI_clamp (by omega), ih (i + 1) _ (by omega) (by omega)]
      refine congrArg some (funext fun m => ?_)
      unfold fgt
      by_cases hm : m = i
      · subst hm
        rw [if_neg (by omega), if_pos (by omega), upd_at, if_pos rfl]
      · by_cases hm2 : i + 1 ≤ m ∧ m < 128
        · rw [if_pos hm2, if_pos (by omega)]
        · rw [if_neg hm2, if_neg (by omega), upd_at, if_neg hm]
theorem forget2_ok {i : Nat} (h : i ≤ 128) (t : Nat → Int32) : f_X1_forget_2 FU (nI i) t = some (fgt t i) := fgt_loop f_X1_forget_2 (fun _ _ _ => by rw [f_X1_forget_2]) FU i t h (by unfold FU; omega)
theorem target21_ok {i : Nat} (h : i ≤ 128) (t : Nat → Int32) : f_X6_target_21 FU (nI i) t = some (fgt t i) := fgt_loop f_X6_target_21 (fun _ _ _ => by rw [f_X6_target_21]) FU i t h (by unfold FU; omega)
theorem cut12_ok {i : Nat} (h : i ≤ 128) (t : Nat → Int32) : f_X6_cut_12 FU (nI i) t = some (fgt t i) := fgt_loop f_X6_cut_12 (fun _ _ _ => by rw [f_X6_cut_12]) FU i t h (by unfold FU; omega)
/-- the two below a node are known together -/
def pair (kn : Nat → Int32) : Prop := ∀ n, 1 ≤ n → n < 64 → (kn (2 * n) = 0 ↔ kn (2 * n + 1) = 0)
section MM
variable {pa : Nat → Int32} {va : Nat → Int64} {he : Int32} {ki : Nat → Int32} {hd : Nat → Int32} {sk : Nat → Int32} {wr : Nat → Int32} {od : Nat → Int32} {gi : Int32} {na : Int32} {go : Int32} {hl : Nat → Int64} {kn : Nat → Int32} {du : Nat → Int64} {bt : Int32} {ak : Int32} {st : Nat → Int64} {gv : Nat → Int64} {tr : Nat → Int64} {em : Nat → Int32} {ow : S_Tree} {nw : S_Tree} {bf : S_Tree} {lr : Nat → Int32} {ls : Int32}
theorem forget_in {i : Nat} (h : i ≤ 128) : f_X1_forget ((ow, nw, bf, kn, du, lr, ls, go) : S_Joiner) (nI i) = some ((ow, nw, bf, (fgt kn i), du, lr, ls, go) : S_Joiner) := by
  unfold f_X1_forget
  show Option.bind (f_X1_forget_2 FU (nI i) kn) _ = _
  rw [forget2_ok h]
  rfl
theorem learn_in (ht : TOK ow) {n : Nat} (h1 : 1 ≤ n) (h2 : n < 128) (d : Int64) : ∃ ow' : S_Tree, f_X1_learn ((ow, nw, bf, kn, du, lr, ls, go) : S_Joiner) (nI n) d = some ((ow', nw, bf, (upd kn n 1), (vp_updL du n d), lr, ls, go) : S_Joiner) ∧ TOK ow' ∧ ow'.1 = hk ow.1 n d := by
  unfold f_X1_learn hk
  rw [isNode_in h1 h2]
  rw [sb, if_neg (by decide), kb_t (ib_nI h2 (by omega)), kb_t (ib_nI h2 (by omega)), nI_clamp (by omega)]
  by_cases hd : d = 0
  · rw [if_pos hd, if_pos hd]
    obtain ⟨t', e, ok, ev⟩ := emptyBelow_in ht h1 h2
    refine ⟨t', ?_, ok, ev⟩
    show Option.bind (f_X4_emptyBelow ow (nI n)) _ = _
    rw [e]
    rfl
  · rw [if_neg hd, if_neg hd]
    exact ⟨ow, rfl, ht, rfl⟩
theorem know_in {n : Nat} (h1 : 1 ≤ n) (h2 : n < 128) (d : Int64) : f_X6_know ((pa, va, he, ki, hd, sk, wr, od, gi, na, go, hl, kn, du, bt, ak, st, gv, tr, em) : S_Mod) (nI n) d = some ((pa, va, he, ki, hd, sk, wr, od, gi, na, go, (hk hl n d), (upd kn n 1), (vp_updL du n d), bt, ak, st, gv, tr, em) : S_Mod) := by
  obtain ⟨hle, hlt⟩ := fl_le n h2 h1
  unfold f_X6_know hk
  rw [kb_t (ib_nI h2 (by omega)), kb_t (ib_nI h2 (by omega)), nI_clamp (by omega)]
  by_cases hd : d = 0
  · rw [if_pos hd, if_pos hd, fo_ok n h2 h1]
    show Option.bind (f_X6_know_26 (nI n) FU (nI (fp n)) hl) _ = _
    rw [know26_ok h1 h2 FU (fp n) hl (by omega) (by unfold FU; omega)]
    rfl
  · rw [if_neg hd, if_neg hd]
theorem mlacks_in (hp : pair kn) (htr : ∀ m, 1 ≤ m → m < 128 → tr m = dg hl m) {n : Nat} (h1 : 1 ≤ n) (h2 : n < 128) : f_X6_lacks ((pa, va, he, ki, hd, sk, wr, od, gi, na, go, hl, kn, du, bt, ak, st, gv, tr, em) : S_Mod) (nI n) = some (b2 (lk kn du hl n)) := by
  unfold f_X6_lacks
  rw [kb_t (ib_nI h2 (by omega)), kb_t (ib_nI h2 (by omega)), kb_t (ib_nI h2 (by omega)), nI_clamp (by omega), show (2 : Int32) * nI n = nI (2 * n) from pk_mul 2 n, nI_1]
  show (if kn n = 0 then some 0 else (if tr n = du n then some 0 else (if (63 : Int32) < nI n then some 1 else (kb (ib (nI (2 * n)) 128) (if kn ((nI (2 * n)).toNatClampNeg) = 0 then (kb (ib (nI (2 * n + 1)) 128) (if kn ((nI (2 * n + 1)).toNatClampNeg) = 0 then some 1 else some 0)) else some 0))))) = _
  rw [htr n h1 h2]
  unfold lk b2
  by_cases a1 : kn n = 0
  · rw [if_pos a1, if_neg (by rw [decide_eq_true_eq]; exact fun z => z.1 a1)]
  · rw [if_neg a1]
    by_cases a2 : dg hl n = du n
    · rw [if_pos a2, if_neg (by rw [decide_eq_true_eq]; exact fun z => z.2.1 a2.symm)]
    · rw [if_neg a2]
      by_cases a3 : 64 ≤ n
      · rw [if_pos (show (63 : Int32) < nI n from nI_lt (a := 63) (by omega) (by omega)), if_pos (by rw [decide_eq_true_eq]; exact ⟨a1, fun z => a2 z.symm, Or.inl a3⟩)]
      · rw [if_neg (show ¬ (63 : Int32) < nI n from nI_nlt (a := 63) (by omega) (by omega)), kb_t (ib_nI (by omega) (by omega)), nI_clamp (by omega), nI_clamp (by omega), kb_t (ib_nI (by omega) (by omega))]
        by_cases a4 : kn (2 * n) = 0
        · rw [if_pos a4, if_pos ((hp n h1 (by omega)).mp a4), if_pos (by rw [decide_eq_true_eq]; exact ⟨a1, fun z => a2 z.symm, Or.inr a4⟩)]
        · rw [if_neg a4, if_neg (by rw [decide_eq_true_eq]; exact fun z => z.2.2.elim a3 a4)]
theorem lacking12_ok (hp : pair kn) (htr : ∀ m, 1 ≤ m → m < 128 → tr m = dg hl m) : ∀ (n i a : Nat), 1 ≤ i → i ≤ 128 → 128 - i < n → f_X6_lacking_12 ((pa, va, he, ki, hd, sk, wr, od, gi, na, go, hl, kn, du, bt, ak, st, gv, tr, em) : S_Mod) n (nI i) (nI a) = some (nI (a + (LL (lk kn du hl) i (128 - i)).length)) := by
  intro n
  induction n with
  | zero => intro i a h0 h1 h2; omega
  | succ n ih =>
    intro i a h0 h1 h2
    rw [f_X6_lacking_12]
    by_cases hc : 128 ≤ i
    · rw [if_pos (show (128 : Int32) ≤ nI i from nI_le (a := 128) hc (by omega)), show 128 - i = 0 by omega]
      rfl
    · rw [if_neg (show ¬ (128 : Int32) ≤ nI i from nI_ge (b := 128) (by omega) (by omega)), mlacks_in hp htr h0 (by omega)]
      show (if b2 (lk kn du hl i) = 0 then _ else _) = _
      rw [nI_1, nI_1, show 128 - i = (128 - (i + 1)) + 1 by omega, LL]
      by_cases hq : lk kn du hl i = true
      · rw [if_pos hq, if_neg (fun z => b2_0.mp z hq), ih (i + 1) (a + 1) (by omega) (by omega) (by omega), List.length_cons, show a + 1 + (LL (lk kn du hl) (i + 1) (128 - (i + 1))).length = a + ((LL (lk kn du hl) (i + 1) (128 - (i + 1))).length + 1) by omega]
      · rw [if_neg hq, if_pos (b2_0.mpr hq), ih (i + 1) a (by omega) (by omega) (by omega)]
theorem lacking_in (hp : pair kn) : ∃ (tr' : Nat → Int64) (em' : Nat → Int32), f_X6_lacking ((pa, va, he, ki, hd, sk, wr, od, gi, na, go, hl, kn, du, bt, ak, st, gv, tr, em) : S_Mod) = some (nI (LM kn du hl).length, ((pa, va, he, ki, hd, sk, wr, od, gi, na, go, hl, kn, du, bt, ak, st, gv, tr', em') : S_Mod)) := by
  obtain ⟨tr', em', e, h⟩ := build_held_in (pa := pa) (va := va) (he := he) (ki := ki) (hd := hd) (sk := sk) (wr := wr) (od := od) (gi := gi) (na := na) (go := go) (hl := hl) (kn := kn) (du := du) (bt := bt) (ak := ak) (st := st) (gv := gv) (tr := tr) (em := em)
  refine ⟨tr', em', ?_⟩
  unfold f_X6_lacking
  rw [e]
  show Option.bind (f_X6_lacking_12 ((pa, va, he, ki, hd, sk, wr, od, gi, na, go, hl, kn, du, bt, ak, st, gv, tr', em') : S_Mod) FU (nI 1) (nI 0)) _ = _
  rw [lacking12_ok hp h FU 1 0 (by omega) (by omega) (by unfold FU; omega), Nat.zero_add]
  rfl
/-- the k-th of what is missing, from i on -/
theorem missing12_ok (hp : pair kn) (htr : ∀ m, 1 ≤ m → m < 128 → tr m = dg hl m) : ∀ (n i k : Nat), 1 ≤ i → i ≤ 128 → 128 - i < n → k < 2 ^ 31 → f_X6_missing_12 ((pa, va, he, ki, hd, sk, wr, od, gi, na, go, hl, kn, du, bt, ak, st, gv, tr, em) : S_Mod) n (nI i) (nI k) = some (if k < (LL (lk kn du hl) i (128 - i)).length then nI ((LL (lk kn du hl) i (128 - i)).getD k 0) else -1, ((pa, va, he, ki, hd, sk, wr, od, gi, na, go, hl, kn, du, bt, ak, st, gv, tr, em) : S_Mod)) := by
  intro n
  induction n with
  | zero => intro i k h0 h1 h2; omega
  | succ n ih =>
    intro i k h0 h1 h2 hk
    rw [f_X6_missing_12]
    by_cases hc : 128 ≤ i
    · rw [if_pos (show (128 : Int32) ≤ nI i from nI_le (a := 128) hc (by omega)), show 128 - i = 0 by omega]
      rfl
    · rw [if_neg (show ¬ (128 : Int32) ≤ nI i from nI_ge (b := 128) (by omega) (by omega)), if_neg (nI_pos hk), mlacks_in hp htr h0 (by omega)]
      show (if b2 (lk kn du hl i) = 0 then _ else _) = _
      rw [nI_1, show 128 - i = (128 - (i + 1)) + 1 by omega, LL]
      by_cases hq : lk kn du hl i = true
      · rw [if_pos hq, if_neg (fun z => b2_0.mp z hq)]
        cases k with
        | zero =>
          rw [if_pos (show nI 0 = 0 from rfl), if_pos (by rw [List.length_cons]; omega)]
          rfl
        | succ k =>
          rw [if_neg (nI_ne0 (by omega) hk), pk_m1, ih (i + 1) k (by omega) (by omega) (by omega) (by omega), List.length_cons]
          by_cases hl2 : k < (LL (lk kn du hl) (i + 1) (128 - (i + 1))).length
          · rw [if_pos hl2, if_pos (by omega)]
            rfl
          · rw [if_neg hl2, if_neg (by omega)]
      · rw [if_neg hq, if_pos (b2_0.mpr hq), ih (i + 1) k (by omega) (by omega) (by omega) hk]
theorem missing_in (hp : pair kn) {k : Nat} (hk : k < 2 ^ 31) : ∃ (tr' : Nat → Int64) (em' : Nat → Int32), f_X6_missing ((pa, va, he, ki, hd, sk, wr, od, gi, na, go, hl, kn, du, bt, ak, st, gv, tr, em) : S_Mod) (nI k) = some (if k < (LM kn du hl).length then nI ((LM kn du hl).getD k 0) else -1, ((pa, va, he, ki, hd, sk, wr, od, gi, na, go, hl, kn, du, bt, ak, st, gv, tr', em') : S_Mod)) := by
  obtain ⟨tr', em', e, h⟩ := build_held_in (pa := pa) (va := va) (he := he) (ki := ki) (hd := hd) (sk := sk) (wr := wr) (od := od) (gi := gi) (na := na) (go := go) (hl := hl) (kn := kn) (du := du) (bt := bt) (ak := ak) (st := st) (gv := gv) (tr := tr) (em := em)
  refine ⟨tr', em', ?_⟩
  unfold f_X6_missing
  have h3 := missing12_ok (pa := pa) (va := va) (he := he) (ki := ki) (hd := hd) (sk := sk) (wr := wr) (od := od) (gi := gi) (na := na) (go := go) (du := du) (bt := bt) (ak := ak) (st := st) (gv := gv) (em := em') hp h FU 1 k (by omega) (by omega) (by unfold FU; omega) hk
  rw [show 128 - 1 = 127 from rfl] at h3
  rw [e, sb]
  exact h3
theorem missing_neg {x : Int32} (hx : x < 0) : ∃ (tr' : Nat → Int64) (em' : Nat → Int32), f_X6_missing ((pa, va, he, ki, hd, sk, wr, od, gi, na, go, hl, kn, du, bt, ak, st, gv, tr, em) : S_Mod) x = some (-1, ((pa, va, he, ki, hd, sk, wr, od, gi, na, go, hl, kn, du, bt, ak, st, gv, tr', em') : S_Mod)) := by
  obtain ⟨tr', em', e, h⟩ := build_held_in (pa := pa) (va := va) (he := he) (ki := ki) (hd := hd) (sk := sk) (wr := wr) (od := od) (gi := gi) (na := na) (go := go) (hl := hl) (kn := kn) (du := du) (bt := bt) (ak := ak) (st := st) (gv := gv) (tr := tr) (em := em)
  refine ⟨tr', em', ?_⟩
  unfold f_X6_missing
  rw [e]
  show f_X6_missing_12 ((pa, va, he, ki, hd, sk, wr, od, gi, na, go, hl, kn, du, bt, ak, st, gv, tr', em') : S_Mod) (4095 + 1) 1 x = _
  rw [f_X6_missing_12, if_neg (by decide), if_pos hx]
end MM
