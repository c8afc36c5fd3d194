/-! PURE ROWS, 9: what comes of an ask, in the reference -/
theorem lfd_front (v : Nat → Int64) : ∀ (k i : Nat), lfd v i (k + 1) = match lfd v (i + 1) k with
    | some p => some p
    | none => if v i = 0 then none else some i := by
  intro k
  induction k with
  | zero => intro i; rfl
  | succ k ih =>
    intro i
    rw [lfd, show lfd v (i + 1) (k + 1) = if v (i + 1 + k) = 0 then lfd v (i + 1) k else some (i + 1 + k) from rfl, show i + (k + 1) = i + 1 + k by omega]
    by_cases hz : v (i + 1 + k) = 0
    · rw [if_pos hz, if_pos hz, ih i]
    · rw [if_neg hz, if_neg hz]
theorem ffd_skip (v : Nat → Int64) : ∀ (a i k : Nat), (∀ j, i ≤ j → j < i + a → v j = 0) → ffd v i (a + k) = ffd v (i + a) k := by
  intro a
  induction a with
  | zero => intro i k _; rw [Nat.zero_add, Nat.add_zero]
  | succ a ih =>
    intro i k h
    rw [show a + 1 + k = (a + k) + 1 by omega, ffd, if_pos (h i (by omega) (by omega)), ih (i + 1) k (fun j p q => h j (by omega) (by omega)), show i + 1 + a = i + (a + 1) by omega]
theorem ffd_cut (v : Nat → Int64) (b : Nat) : ∀ (k i : Nat), (∀ j, i + k ≤ j → j < i + k + b → v j = 0) → ffd v i (k + b) = ffd v i k := by
  intro k
  induction k with
  | zero =>
    intro i h
    have := ffd_skip v b i 0 (fun j p q => h j (by omega) (by omega))
    rw [Nat.zero_add]
    rw [Nat.add_zero] at this
    rw [this]
    rfl
  | succ k ih =>
    intro i h
    rw [show k + 1 + b = (k + b) + 1 by omega, ffd, ffd, ih (i + 1) (fun j p q => h j (by omega) (by omega))]
theorem lfd_cut (v : Nat → Int64) (i k : Nat) : ∀ (b : Nat), (∀ j, i + k ≤ j → j < i + k + b → v j = 0) → lfd v i (k + b) = lfd v i k := by
  intro b
  induction b with
  | zero => intro _; rfl
  | succ b ih =>
    intro h
    rw [show k + (b + 1) = (k + b) + 1 by omega, lfd, if_pos (h (i + (k + b)) (by omega) (by omega)), ih (fun j p q => h j p (by omega))]
theorem lfd_skip (v : Nat → Int64) : ∀ (a i k : Nat), (∀ j, i ≤ j → j < i + a → v j = 0) → lfd v i (a + k) = lfd v (i + a) k := by
  intro a
  induction a with
  | zero => intro i k _; rw [Nat.zero_add, Nat.add_zero]
  | succ a ih =>
    intro i k h
    rw [show a + 1 + k = (a + k) + 1 by omega, lfd_front, ih (i + 1) k (fun j p q => h j (by omega) (by omega)), show i + 1 + a = i + (a + 1) by omega, if_pos (h i (by omega) (by omega))]
    cases lfd v (i + (a + 1)) k <;> rfl
def o3 (o : Option Nat) (d : Int32) : Int32 := match o with
  | none => d
  | some p => nI p
/-- the state's leaves from F to E, the others empty -/
def msk (v : Nat → Int64) (F E : Nat) : Nat → Int64 := fun p => if F ≤ p ∧ p ≤ E then v p else 0
theorem in_msk {F E i : Nat} (hF : F < 64) (hE : E < 64) (hi : i < 64) : f_X6_in (nI i) (nI F) (nI E) = some (if F ≤ i ∧ i ≤ E then 1 else 0) := by
  by_cases h : F ≤ i ∧ i ≤ E
  · rw [if_pos h, in_1 h.1 h.2 (by omega)]
  · rw [if_neg h]
    by_cases h1 : i < F
    · exact in_0 (Or.inl (nI_lt h1 (by omega)))
    · exact in_0 (Or.inr (nI_lt (by omega) (by omega)))
theorem nI_ne3 {p : Nat} (h : p < 2 ^ 31) : ¬ nI p = -3 := fun z => nI_pos h (by rw [z]; decide)
theorem row22_ok (st : Nat → Int64) {F E : Nat} (hF : F < 64) (hE : E < 64) : ∀ (n i : Nat) (en on : Int32) (g : Nat → Int64), i ≤ 64 → 64 - i < n →
    f_X6_rowComes_22 (nI E) (nI F) st n (nI i) en on g = some (o3 (lfd (msk st F E) i (64 - i)) en, (if on = -3 then o3 (ffd (msk st F E) i (64 - i)) (-3) else on), fun p => if i ≤ p ∧ p < 64 then msk st F E p else g p) := by
  intro n
  induction n with
  | zero => intro i en on g h1 h2; omega
  | succ n ih =>
    intro i en on g h1 h2
    rw [f_X6_rowComes_22]
    by_cases hc : 64 ≤ i
    · rw [if_pos (show (64 : Int32) ≤ nI i from nI_le (a := 64) hc (by omega)), show 64 - i = 0 by omega]
      refine congrArg some (Prod.ext rfl (Prod.ext ?_ (funext fun p => ?_)))
      · show on = if on = -3 then -3 else on
        by_cases ho : on = -3
        · rw [if_pos ho, ho]
        · rw [if_neg ho]
      · show g p = if _ then _ else _
        rw [if_neg (by omega)]
    · rw [if_neg (show ¬ (64 : Int32) ≤ nI i from nI_ge (b := 64) (by omega) (by omega)), in_msk hF hE (by omega)]
      have hib : ∀ {α : Type} {X : Option α}, kb (ib (nI i) 64) X = X := fun {α} {X} => kb_t (ib_nI (by omega) (by omega))
      show Option.bind (if (if F ≤ i ∧ i ≤ E then (1 : Int32) else 0) = 0 then some 0 else kb (ib (nI i) 64) (some (st (nI i).toNatClampNeg))) _ = _
      rw [hib, nI_clamp (by omega)]
      have e0 : (if (if F ≤ i ∧ i ≤ E then (1 : Int32) else 0) = 0 then some 0 else some (st i)) = some (msk st F E i) := by
        unfold msk
        by_cases h : F ≤ i ∧ i ≤ E
        · rw [if_pos h, if_pos h, if_neg (by decide)]
        · rw [if_neg h, if_neg h, if_pos rfl]
      rw [e0]
      show kb _ (Option.bind (if on = -3 then _ else some on) _) = _
      rw [hib, hib, updL_at, if_pos rfl, nI_1]
      have e1 : (if on = -3 then (Option.bind (if msk st F E i = 0 then some on else some (nI i)) fun v12 => some v12) else some on) = some (if on = -3 then (if msk st F E i = 0 then on else nI i) else on) := by
        by_cases ho : on = -3
        · rw [if_pos ho, if_pos ho]
          by_cases hz : msk st F E i = 0
          · rw [if_pos hz, if_pos hz]; rfl
          · rw [if_neg hz, if_neg hz]; rfl
        · rw [if_neg ho, if_neg ho]
      rw [e1]
      show kb _ (if msk st F E i = 0 then _ else _) = _
      rw [hib, show 64 - i = (64 - (i + 1)) + 1 by omega, lfd_front, ffd]
      have fing : ∀ (q : Nat → Int64), q = vp_updL g i (msk st F E i) → (fun p => if i + 1 ≤ p ∧ p < 64 then msk st F E p else q p) = (fun p => if i ≤ p ∧ p < 64 then msk st F E p else g p) := by
        intro q hq
        funext p
        by_cases hp : p = i
        · subst hp
          rw [if_neg (by omega), if_pos (by omega), hq, updL_at, if_pos rfl]
        · by_cases hp2 : i + 1 ≤ p ∧ p < 64
          · rw [if_pos hp2, if_pos (by omega)]
          · rw [if_neg hp2, if_neg (by omega), hq, updL_at, if_neg hp]
      by_cases hz : msk st F E i = 0
      · rw [if_pos hz, ih (i + 1) _ _ _ (by omega) (by omega), fing _ rfl, if_pos hz, if_pos hz]
        refine congrArg some (Prod.ext ?_ (Prod.ext ?_ rfl))
        · show o3 (lfd (msk st F E) (i + 1) (64 - (i + 1))) en = o3 _ en
          cases lfd (msk st F E) (i + 1) (64 - (i + 1)) <;> rfl
        · by_cases ho : on = -3
          · subst ho
            simp [hz]
          · simp [ho]
      · rw [if_neg hz, ih (i + 1) _ _ _ (by omega) (by omega), fing _ rfl, if_neg hz, if_neg hz]
        refine congrArg some (Prod.ext ?_ (Prod.ext ?_ rfl))
        · show o3 (lfd (msk st F E) (i + 1) (64 - (i + 1))) (nI i) = o3 _ en
          cases lfd (msk st F E) (i + 1) (64 - (i + 1)) <;> rfl
        · by_cases ho : on = -3
          · subst ho
            simp [hz, nI_ne3 (show i < 2 ^ 31 by omega), o3]
          · simp [ho]
theorem row184_ok (g : Nat → Int64) {E : Nat} (hE : E < 64) : ∀ (n i : Nat) (b : Int32), i ≤ E + 1 → E + 1 - i < n →
    f_X6_rowComes_184 (nI E) g n (nI i) b = some (b + 12 * nI (cnt g i (E + 1 - i))) := by
  intro n
  induction n with
  | zero => intro i b h1 h2; omega
  | succ n ih =>
    intro i b h1 h2
    rw [f_X6_rowComes_184]
    by_cases hc : E < i
    · rw [if_pos (nI_lt hc (by omega)), show E + 1 - i = 0 by omega]
      show some b = some (b + 12 * nI 0)
      rw [show (12 : Int32) * nI 0 = 0 from rfl, Int32.add_zero]
    · rw [if_neg (nI_nlt (by omega) (by omega)), kb_t (ib_nI (by omega) (by omega)), nI_1, nI_clamp (by omega), show E + 1 - i = (E + 1 - (i + 1)) + 1 by omega, cnt]
      by_cases hz : g i = 0
      · rw [if_pos hz, if_pos hz, ih (i + 1) b (by omega) (by omega), Nat.zero_add]
      · rw [if_neg hz, if_neg hz, ih (i + 1) (b + 12) (by omega) (by omega), ← nI_add 1, Int32.mul_add, show (12 : Int32) * nI 1 = 12 from rfl, Int32.add_assoc]
theorem row256_ok (g : Nat → Int64) {E : Nat} (hE : E < 64) : ∀ (n i : Nat) (t : Nat → Int64), i ≤ E + 1 → E + 1 - i < n →
    f_X6_rowComes_256 (nI E) g n (nI i) t = some (fun m => if i ≤ m ∧ m ≤ E then g m else t m) := by
  intro n
  induction n with
  | zero => intro i t h1 h2; omega
  | succ n ih =>
    intro i t h1 h2
    rw [f_X6_rowComes_256]
    by_cases hc : E < i
    · rw [if_pos (nI_lt hc (by omega))]
      refine congrArg some (funext fun m => ?_)
      rw [if_neg (by omega)]
    · rw [if_neg (nI_nlt (by omega) (by omega)), kb_t (ib_nI (by omega) (by omega)), kb_t (ib_nI (by omega) (by omega)), nI_1, nI_clamp (by omega), ih (i + 1) _ (by omega) (by omega)]
      refine congrArg some (funext fun m => ?_)
      by_cases hm : m = i
      · subst hm
        rw [if_neg (by omega), if_pos (by omega), updL_at, if_pos rfl]
      · by_cases hm2 : i + 1 ≤ m ∧ m ≤ E
        · rw [if_pos hm2, if_pos (by omega)]
        · rw [if_neg hm2, if_neg (by omega), updL_at, if_neg hm]
theorem ffd_msk (st : Nat → Int64) {F E : Nat} (h1 : F ≤ E) (h2 : E < 64) : ffd (msk st F E) 0 (64 - 0) = ffd st F (E + 1 - F) := by
  rw [show 64 - 0 = F + ((E + 1 - F) + (63 - E)) by omega, ffd_skip (msk st F E) F 0 _ (fun j a b => by unfold msk; rw [if_neg (by omega)]), Nat.zero_add, ffd_cut (msk st F E) (63 - E) (E + 1 - F) F (fun j a b => by unfold msk; rw [if_neg (by omega)])]
  exact ffd_congr _ _ (fun j a b => by unfold msk; rw [if_pos (by omega)])
theorem lfd_msk (st : Nat → Int64) {F E : Nat} (h1 : F ≤ E) (h2 : E < 64) : lfd (msk st F E) 0 (64 - 0) = lfd st F (E + 1 - F) := by
  rw [show 64 - 0 = F + ((E + 1 - F) + (63 - E)) by omega, lfd_skip (msk st F E) F 0 _ (fun j a b => by unfold msk; rw [if_neg (by omega)]), Nat.zero_add, lfd_cut (msk st F E) F (E + 1 - F) (63 - E) (fun j a b => by unfold msk; rw [if_neg (by omega)])]
  exact lfd_congr F _ (fun j a b => by unfold msk; rw [if_pos (by omega)])
theorem rwk_leaf {kd : Int32} {v : Nat → Int64} {p : Nat} : rwk kd v (64 + p) p = if kd = 1 then v p ^^^ 1 else if kd = 2 then 0 else v p := by
  obtain ⟨a, b⟩ := fl_leaf (n := 64 + p) (by omega)
  unfold rwk
  rw [a, b, show 64 + p - 64 = p by omega, show p + 1 - p = 0 + 1 by omega]
  by_cases k1 : kd = 1
  · rw [if_pos k1, if_pos k1]
    unfold rw1
    rw [ffd]
    by_cases hz : v p = 0
    · rw [if_pos hz]
      show vp_updL v p 1 p = _
      rw [updL_at, if_pos rfl, hz]
      rfl
    · rw [if_neg hz]
      show vp_updL v p (v p ^^^ 1) p = _
      rw [updL_at, if_pos rfl]
  · rw [if_neg k1, if_neg k1]
    by_cases k2 : kd = 2
    · rw [if_pos k2, if_pos k2]
      unfold rw2
      rw [lfd, Nat.add_zero]
      by_cases hz : v p = 0
      · rw [if_pos hz]
        exact hz
      · rw [if_neg hz]
        show vp_updL v p 0 p = _
        rw [updL_at, if_pos rfl]
    · rw [if_neg k2, if_neg k2]
theorem cpy_leaf (v w : Nat → Int64) (p : Nat) : cpy v w (64 + p) = vp_updL v p (w p) := by
  obtain ⟨a, b⟩ := fl_leaf (n := 64 + p) (by omega)
  funext q
  unfold cpy
  rw [a, b, updL_at]
  by_cases hq : q = p
  · subst hq
    rw [if_pos (by omega), if_pos rfl]
  · rw [if_neg (by omega), if_neg hq]
/-- a row turned or shortened by its giver -/
theorem row_mid {kd : Int32} {st g0 : Nat → Int64} {n : Nat} (h1 : 1 ≤ n) (h2 : n < 128) (hag : ∀ p, fp n ≤ p → p ≤ lp n → g0 p = st p) {on en : Int32} (hon : on = o3 (ffd st (fp n) (lp n + 1 - fp n)) (-3)) (hen : en = o3 (lfd st (fp n) (lp n + 1 - fp n)) (-3)) :
    ∃ g2 : Nat → Int64, (∀ p, fp n ≤ p → p ≤ lp n → g2 p = rwk kd st n p) ∧ ∀ {β : Type} (k : (Nat → Int64) → Option β),
      (Option.bind (if kd = 1 then Option.bind (if on = -3 then kb (ib (nI (fp n)) 64) (some (vp_updL g0 (Int32.toNatClampNeg (nI (fp n))) 1)) else kb (ib on 64) (kb (ib on 64) (some (vp_updL g0 (Int32.toNatClampNeg on) (g0 (Int32.toNatClampNeg on) ^^^ 1))))) (fun v36 => some v36) else some g0) fun v17 =>
        Option.bind (if kd = 2 then Option.bind (if en = -3 then some v17 else kb (ib en 64) (some (vp_updL v17 (Int32.toNatClampNeg en) 0))) (fun v32 => some v32) else some v17) k) = k g2 := by
  obtain ⟨hle, hlt⟩ := fl_le n h2 h1
  by_cases k1 : kd = 1
  · have k2 : ¬ kd = 2 := by rw [k1]; decide
    cases hf : ffd st (fp n) (lp n + 1 - fp n) with
    | none =>
      rw [hf] at hon
      refine ⟨vp_updL g0 (fp n) 1, fun p a b => ?_, fun {β} k => ?_⟩
      · unfold rwk rw1
        rw [if_pos k1, hf]
        show _ = vp_updL st (fp n) 1 p
        rw [updL_at, updL_at, hag p a b]
      · rw [if_pos k1, if_pos (show on = -3 from hon), kb_t (ib_nI (by omega) (by omega)), nI_clamp (by omega)]
        show Option.bind (if kd = 2 then _ else _) _ = _
        rw [if_neg k2]
        rfl
    | some q =>
      have hq := ffd_in st _ _ q hf
      rw [hf] at hon
      have hon : on = nI q := hon
      refine ⟨vp_updL g0 q (st q ^^^ 1), fun p a b => ?_, fun {β} k => ?_⟩
      · unfold rwk rw1
        rw [if_pos k1, hf]
        show _ = vp_updL st q (st q ^^^ 1) p
        rw [updL_at, updL_at, hag p a b]
      · rw [if_pos k1, hon, if_neg (nI_ne3 (by omega)), kb_t (ib_nI (by omega) (by omega)), kb_t (ib_nI (by omega) (by omega)), nI_clamp (by omega), hag q (by omega) (by omega)]
        show Option.bind (if kd = 2 then _ else _) _ = _
        rw [if_neg k2]
        rfl
  · by_cases k2 : kd = 2
    · cases hf : lfd st (fp n) (lp n + 1 - fp n) with
      | none =>
        rw [hf] at hen
        refine ⟨g0, fun p a b => ?_, fun {β} k => ?_⟩
        · unfold rwk rw2
          rw [if_neg k1, if_pos k2, hf]
          exact hag p a b
        · rw [if_neg k1]
          show Option.bind (if kd = 2 then Option.bind (if en = -3 then _ else _) _ else _) _ = _
          rw [if_pos k2, if_pos (show en = -3 from hen)]
          rfl
      | some q =>
        have hq := lfd_in st _ _ q hf
        rw [hf] at hen
        have hen : en = nI q := hen
        refine ⟨vp_updL g0 q 0, fun p a b => ?_, fun {β} k => ?_⟩
        · unfold rwk rw2
          rw [if_neg k1, if_pos k2, hf]
          show _ = vp_updL st q 0 p
          rw [updL_at, updL_at, hag p a b]
        · rw [if_neg k1, hen]
          show Option.bind (if kd = 2 then Option.bind (if nI q = -3 then _ else kb (ib (nI q) 64) (some (vp_updL g0 (Int32.toNatClampNeg (nI q)) 0))) _ else _) _ = _
          rw [if_pos k2, if_neg (nI_ne3 (by omega)), kb_t (ib_nI (by omega) (by omega)), nI_clamp (by omega)]
          rfl
    · refine ⟨g0, fun p a b => ?_, fun {β} k => ?_⟩
      · unfold rwk
        rw [if_neg k1, if_neg k2]
        exact hag p a b
      · rw [if_neg k1]
        show Option.bind (if kd = 2 then _ else _) _ = _
        rw [if_neg k2]
        rfl
section MM
variable {pa : Nat → Int32} {va : Nat → Int64} {he : Int32} {ki : Nat → Int32} {hd : Nat → Int32} {sk : Nat → Int32} {wr : Nat → Int32} {od : Nat → Int32} {gi : Int32} {na : Int32} {go : Int32} {hl : Nat → Int64} {kn : Nat → Int32} {du : Nat → Int64} {bt : Int32} {ak : Int32} {st : Nat → Int64} {gv : Nat → Int64} {tr : Nat → Int64} {em : Nat → Int32}
theorem leafComes_in (kd : Int32) {p : Nat} (hp : p < 64) : f_X6_leafComes ((pa, va, he, ki, hd, sk, wr, od, gi, na, go, hl, kn, du, bt, ak, st, gv, tr, em) : S_Mod) (nI (64 + p)) kd = some (if du (64 + p) = dg (rwk kd st (64 + p)) (64 + p) then (1, ((pa, va, he, ki, hd, sk, wr, od, gi, na, go, (cpy hl (rwk kd st (64 + p)) (64 + p)), kn, du, (bt + 8), ak, st, gv, tr, em) : S_Mod)) else (0, ((pa, va, he, ki, hd, sk, wr, od, gi, na, go, hl, kn, du, (bt + 8), ak, st, gv, tr, em) : S_Mod))) := by
  unfold f_X6_leafComes
  have e1 : nI (64 + p) - 64 = nI p := by rw [show nI (64 + p) - (64 : Int32) = nI (64 + p - 64) from pk_sub (b := 64) (by omega), show 64 + p - 64 = p by omega]
  have hib : ∀ {α : Type} {X : Option α}, kb (ib (nI p) 64) X = X := fun {α} {X} => kb_t (ib_nI hp (by omega))
  dsimp only
  rw [e1]
  simp only [hib]
  rw [nI_clamp (n := p) (by omega), nI_clamp (n := 64 + p) (by omega), nI_l (by omega), lN_1, cpy_leaf, dg_leaf]
  have e2 : (if kd = 1 then some (st p ^^^ 1) else Option.bind (if kd = 2 then some 0 else some (st p)) fun v9 => some v9) = some (rwk kd st (64 + p) p) := by
    rw [rwk_leaf]
    by_cases k1 : kd = 1
    · rw [if_pos k1, if_pos k1]
    · rw [if_neg k1, if_neg k1]
      by_cases k2 : kd = 2
      · rw [if_pos k2, if_pos k2]; rfl
      · rw [if_neg k2, if_neg k2]; rfl
  rw [e2, sb]
  generalize rwk kd st (64 + p) p = y
  have e3 : (if y = 0 then some 0 else Option.bind (f_X6_mixed (lN (p + 1)) y) fun u7 => some u7) = some (lf p y) := by
    unfold lf
    by_cases hy : y = 0
    · rw [if_pos hy, if_pos hy]
    · rw [if_neg hy, if_neg hy, mixed_mx]; rfl
  rw [e3, sb, kb_t (ib_nI (by omega) (by omega))]
  by_cases hd2 : du (64 + p) = lf p y
  · rw [if_pos hd2, if_pos hd2.symm]
  · rw [if_neg hd2, if_neg (fun z => hd2 z.symm)]
theorem pairComes_in (kd : Int32) {n : Nat} (h1 : 1 ≤ n) (h2 : n < 64) : ∃ (tr' : Nat → Int64) (em' : Nat → Int32), f_X6_pairComes ((pa, va, he, ki, hd, sk, wr, od, gi, na, go, hl, kn, du, bt, ak, st, gv, tr, em) : S_Mod) (nI n) kd = some (if du n = mx (prk kd st n).1 (prk kd st n).2 then (1, ((pa, va, he, ki, hd, sk, wr, od, gi, na, go, (hk (hk hl (2 * n) (prk kd st n).1) (2 * n + 1) (prk kd st n).2), (upd (upd kn (2 * n) 1) (2 * n + 1) 1), (vp_updL (vp_updL du (2 * n) (prk kd st n).1) (2 * n + 1) (prk kd st n).2), (bt + 16), ak, st, gv, tr', em') : S_Mod)) else (0, ((pa, va, he, ki, hd, sk, wr, od, gi, na, go, hl, kn, du, (bt + 16), ak, st, gv, tr', em') : S_Mod))) := by
  obtain ⟨tr', em', e, h⟩ := build_state_in (pa := pa) (va := va) (he := he) (ki := ki) (hd := hd) (sk := sk) (wr := wr) (od := od) (gi := gi) (na := na) (go := go) (hl := hl) (kn := kn) (du := du) (bt := bt) (ak := ak) (st := st) (gv := gv) (tr := tr) (em := em)
  refine ⟨tr', em', ?_⟩
  unfold f_X6_pairComes
  rw [e, show (2 : Int32) * nI n = nI (2 * n) from pk_mul 2 n, nI_1]
  show kb _ (kb _ (Option.bind (if kd = 1 then some (tr' (nI (2 * n)).toNatClampNeg ^^^ 1) else some (tr' (nI (2 * n)).toNatClampNeg)) fun v4 => Option.bind (if kd = 2 then some (tr' (nI (2 * n + 1)).toNatClampNeg, v4) else some (v4, tr' (nI (2 * n + 1)).toNatClampNeg)) _)) = _
  rw [kb_t (ib_nI (by omega) (by omega)), kb_t (ib_nI (by omega) (by omega)), nI_clamp (by omega), nI_clamp (by omega), h (2 * n) (by omega) (by omega), h (2 * n + 1) (by omega) (by omega)]
  have e2 : ∀ {β : Type} (k : Int64 × Int64 → Option β), (Option.bind (if kd = 1 then some (dg st (2 * n) ^^^ 1) else some (dg st (2 * n))) fun v4 => Option.bind (if kd = 2 then some (dg st (2 * n + 1), v4) else some (v4, dg st (2 * n + 1))) k) = k (prk kd st n) := by
    intro β k
    unfold prk
    by_cases k1 : kd = 1
    · have k2 : ¬ kd = 2 := by rw [k1]; decide
      rw [if_pos k1, if_pos k1]
      show Option.bind (if kd = 2 then _ else _) _ = _
      rw [if_neg k2]
      rfl
    · rw [if_neg k1, if_neg k1]
      show Option.bind (if kd = 2 then _ else _) _ = _
      by_cases k2 : kd = 2
      · rw [if_pos k2, if_pos k2]; rfl
      · rw [if_neg k2, if_neg k2]; rfl
  rw [e2]
  generalize prk kd st n = q
  obtain ⟨x, y⟩ := q
  have e3 : (if x = 0 then (Option.bind (if y = 0 then some 0 else (Option.bind (f_X6_mixed x y) fun u15 => some u15)) fun v13 => some v13) else (Option.bind (f_X6_mixed x y) fun u12 => some u12)) = some (mx x y) := by
    rw [mixed_mx]
    by_cases hx : x = 0
    · rw [if_pos hx]
      by_cases hy : y = 0
      · rw [if_pos hy, hx, hy, mx_00]; rfl
      · rw [if_neg hy]; rfl
    · rw [if_neg hx]; rfl
  show Option.bind (if x = 0 then (Option.bind (if y = 0 then some 0 else (Option.bind (f_X6_mixed x y) fun u15 => some u15)) fun v13 => some v13) else (Option.bind (f_X6_mixed x y) fun u12 => some u12)) _ = _
  rw [e3]
  show kb (ib (nI n) 128) (if mx x y = du (nI n).toNatClampNeg then _ else _) = _
  rw [kb_t (ib_nI (by omega) (by omega)), nI_clamp (by omega)]
  by_cases hd2 : du n = mx x y
  · rw [if_pos hd2, if_pos hd2.symm]
    show Option.bind (f_X6_know ((pa, va, he, ki, hd, sk, wr, od, gi, na, go, hl, kn, du, (bt + 16), ak, st, gv, tr', em') : S_Mod) (nI (2 * n)) x) _ = _
    rw [know_in (by omega) (by omega)]
    show Option.bind (f_X6_know ((pa, va, he, ki, hd, sk, wr, od, gi, na, go, (hk hl (2 * n) x), (upd kn (2 * n) 1), (vp_updL du (2 * n) x), (bt + 16), ak, st, gv, tr', em') : S_Mod) (nI (2 * n + 1)) y) _ = _
    rw [know_in (by omega) (by omega)]
    rfl
  · rw [if_neg hd2, if_neg (fun z => hd2 z.symm)]
theorem rowComes_in (kd : Int32) {n : Nat} (h1 : 1 ≤ n) (hn : n < 64) : ∃ (gv' : Nat → Int64) (tr' : Nat → Int64) (em' : Nat → Int32), f_X6_rowComes ((pa, va, he, ki, hd, sk, wr, od, gi, na, go, hl, kn, du, bt, ak, st, gv, tr, em) : S_Mod) (nI n) kd = some (if du n = dg (rwk kd st n) n then (1, ((pa, va, he, ki, hd, sk, wr, od, gi, na, go, (cpy hl (rwk kd st n) n), kn, du, (bt + rbytes (rwk kd st n) n), ak, st, gv', tr', em') : S_Mod)) else (0, ((pa, va, he, ki, hd, sk, wr, od, gi, na, go, hl, kn, du, (bt + rbytes (rwk kd st n) n), ak, st, gv', tr', em') : S_Mod))) := by
  have h2 : n < 128 := by omega
  obtain ⟨hle, hlt⟩ := fl_le n h2 h1
  obtain ⟨g2, hg, hbind⟩ := row_mid (kd := kd) (st := st) (g0 := fun p => if 0 ≤ p ∧ p < 64 then msk st (fp n) (lp n) p else gv p) (n := n) h1 h2 (fun p a b => by rw [if_pos ⟨Nat.zero_le _, by omega⟩]; unfold msk; rw [if_pos ⟨a, b⟩]) rfl rfl
  obtain ⟨tr', em', e, h⟩ := build_given_in (pa := pa) (va := va) (he := he) (ki := ki) (hd := hd) (sk := sk) (wr := wr) (od := od) (gi := gi) (na := na) (go := go) (hl := hl) (kn := kn) (du := du) (bt := bt + 4 + 12 * nI (cntB g2 n)) (ak := ak) (st := st) (gv := g2) (tr := tr) (em := em)
  refine ⟨g2, tr', em', ?_⟩
  have hb : bt + 4 + 12 * nI (cntB g2 n) = bt + rbytes (rwk kd st n) n := by
    unfold rbytes
    rw [if_neg (by omega), cntB_congr h1 h2 hg, Int32.add_assoc]
  have hdg : dg g2 n = dg (rwk kd st n) n := dg_same h1 h2 hg
  have hcp : cpy hl g2 n = cpy hl (rwk kd st n) n := cpy_congr hg
  unfold f_X6_rowComes
  rw [fo_ok n h2 h1, lo_ok n h2 h1]
  show Option.bind (f_X6_rowComes_22 (nI (lp n)) (nI (fp n)) st FU (nI 0) (-3) (-3) gv) _ = _
  rw [row22_ok st (by omega) hlt FU 0 (-3) (-3) gv (by omega) (by unfold FU; omega), if_pos rfl, ffd_msk st hle hlt, lfd_msk st hle hlt]
  refine (hbind _).trans ?_
  show Option.bind (f_X6_rowComes_184 (nI (lp n)) g2 FU (nI (fp n)) (bt + 4)) _ = _
  rw [row184_ok g2 hlt FU (fp n) (bt + 4) (by omega) (by unfold FU; omega)]
  show Option.bind (f_X6_build_given ((pa, va, he, ki, hd, sk, wr, od, gi, na, go, hl, kn, du, (bt + 4 + 12 * nI (cntB g2 n)), ak, st, g2, tr, em) : S_Mod)) _ = _
  rw [e]
  show kb (ib (nI n) 128) (kb (ib (nI n) 128) (if tr' (nI n).toNatClampNeg = du (nI n).toNatClampNeg then Option.bind (f_X6_rowComes_256 (nI (lp n)) g2 FU (nI (fp n)) hl) _ else _)) = _
  rw [kb_t (ib_nI h2 (by omega)), kb_t (ib_nI h2 (by omega)), nI_clamp (by omega), h n h1 h2, hdg, row256_ok g2 hlt FU (fp n) hl (by omega) (by unfold FU; omega)]
  rw [← hb, ← hcp]
  by_cases hd2 : du n = dg (rwk kd st n) n
  · rw [if_pos hd2, if_pos hd2.symm]
    rfl
  · rw [if_neg hd2, if_neg (fun z => hd2 z.symm)]
end MM
