/-! PURE ROWS, 16: the law -/
theorem rel_start : Rel 0 i_SP i_Mod := by
  have z0 : TOK (i_Tree) := fun m h1 h2 => (dg_zero 128 m h1 h2 (by omega)).symm
  refine ⟨fun _ => 0, fun _ => 0, 0, fun _ => 0, fun _ => 0, fun _ => 0, fun _ => 0, fun _ => 0, 0, 0, 0, -1, fun _ => 0, fun _ => 0, fun _ => 0, 0, 0, i_Tree, i_Tree, i_Tree, i_Piece, i_Tree, fun _ => 0, fun _ => 0, fun _ => 0, fun _ => 0, rfl, rfl, ⟨by omega, fun k a b => by omega⟩, ⟨by omega, fun j hj => by omega⟩, ⟨by decide, fun j hj => ⟨0, by omega, rfl⟩⟩, Or.inl ⟨rfl, fun _ => rfl⟩, ⟨z0, z0, z0, z0, z0⟩, ⟨fun n _ _ => Iff.rfl, rfl⟩, ?_⟩
  have e : LM (fun _ => 0) (fun _ => 0) (i_Tree).1 = [] := LL_none 127 1 (fun j _ _ => decide_eq_false (fun z => z.1 rfl))
  unfold LKR
  rw [e]
  exact ⟨rfl, fun j hj => absurd hj (Nat.not_lt_zero _)⟩
theorem law_pure {L : Nat} (hL : L ≤ 2048) (xs : Nat → Int32) : ∀ (f i : Nat) (c : S_SP) (m : S_Mod) (N : Nat), Rel N c m → N ≤ 75 * i → i ≤ L → L - i < f → f_L_law_18 L xs f (nI i) c m = some 1 := by
  intro f
  induction f with
  | zero => intro i c m N R h1 h2 h3; omega
  | succ f ih =>
    intro i c m N R hN hi hf
    rw [f_L_law_18]
    by_cases hc : i + 4 ≤ L
    · have hlt : ¬ (Int32.ofNat L - 4 < nI i) := by
        have e := pk_sub_toInt (a := L) (b := 4) (by omega) (by omega)
        rw [Int32.lt_iff_toInt_lt, show (Int32.ofNat L - 4).toInt = (L : Int) - (4 : Nat) from e, nI_toInt (by omega)]
        omega
      rw [if_neg hlt]
      have k0 : ∀ {X : Option Int32}, kb (ib (nI i) L) X = X := fun {X} => kb_t (ib_nI (by omega) (by omega))
      have k1 : ∀ {X : Option Int32}, kb (ib (nI i + 1) L) X = X := fun {X} => kb_t (by rw [nI_1]; exact ib_nI (by omega) (by omega))
      have k2 : ∀ {X : Option Int32}, kb (ib (nI i + 2) L) X = X := fun {X} => kb_t (by rw [show nI i + 2 = nI (i + 2) from nI_add i 2]; exact ib_nI (by omega) (by omega))
      have k3 : ∀ {X : Option Int32}, kb (ib (nI i + 3) L) X = X := fun {X} => kb_t (by rw [show nI i + 3 = nI (i + 3) from nI_add i 3]; exact ib_nI (by omega) (by omega))
      simp only [k0, k1, k2, k3]
      rw [show nI i + 4 = nI (i + 4) from nI_add i 4]
      generalize xs (Int32.toNatClampNeg (nI i)) &&& 15 = sel
      generalize xs (Int32.toNatClampNeg (nI i + 1)) = s1
      generalize xs (Int32.toNatClampNeg (nI i + 2)) = s2
      generalize xs (Int32.toNatClampNeg (nI i + 3)) = s3
      generalize (Int32.toInt64 s2 <<< (Int32.toInt64 32 &&& 63)) ||| (Int32.toInt64 s3 &&& 4294967295) = l2
      generalize (Int32.toInt64 s1 <<< (Int32.toInt64 32 &&& 63)) ||| (Int32.toInt64 s2 &&& 4294967295) = l1
      have go : ∀ (c' : S_SP) (m' : S_Mod) (N' : Nat), Rel N' c' m' → N' ≤ N + 300 → f_L_law_18 L xs f (nI (i + 4)) c' m' = some 1 := fun c' m' N' R' hN' => ih (i + 4) c' m' N' R' (by omega) (by omega) (by omega)
      by_cases c0 : sel = 0
      · obtain ⟨r, c', m', e1, e2, R'⟩ := m_leaf R s1 l2
        rw [if_pos c0, e1, sb, e2, sb, if_pos rfl]
        exact go c' m' N R' (by omega)
      rw [if_neg c0]
      by_cases c1 : sel = 1
      · obtain ⟨r, m', e1, e2, R'⟩ := m_value R s1 s2
        rw [if_pos c1, e1, sb, e2, sb, if_pos rfl]
        exact go c m' N R' (by omega)
      rw [if_neg c1]
      by_cases c2 : sel = 2
      · obtain ⟨r, c', m', e1, e2, R'⟩ := m_digest R s1 s2
        rw [if_pos c2, e1, sb, e2, sb, if_pos rfl]
        exact go c' m' N R' (by omega)
      rw [if_neg c2]
      by_cases c3 : sel = 3
      · obtain ⟨r, c', m', e1, e2, R'⟩ := m_giver R s1 s2
        rw [if_pos c3, e1, sb, e2, sb, if_pos rfl]
        exact go c' m' N R' (by omega)
      rw [if_neg c3]
      by_cases c4 : sel = 4
      · obtain ⟨r, e1, e2⟩ := m_faults R s1
        rw [if_pos c4, e1, sb, e2, sb, if_pos rfl]
        exact go c m N R (by omega)
      rw [if_neg c4]
      by_cases c5 : sel = 5
      · obtain ⟨r, e1, e2⟩ := m_named R s1
        rw [if_pos c5, e1, sb, e2, sb, if_pos rfl]
        exact go c m N R (by omega)
      rw [if_neg c5]
      by_cases c6 : sel = 6
      · obtain ⟨r, c', m', e1, e2, R'⟩ := m_target R s1
        rw [if_pos c6, e1, sb, e2, sb, if_pos rfl]
        exact go c' m' N R' (by omega)
      rw [if_neg c6]
      by_cases c7 : sel = 7
      · rw [if_pos c7]
        have hw : ∃ w : Int32, (if s3 = 0 then some (0 : Int32) else some 1) = some w := by
          by_cases q : s3 = 0
          · rw [if_pos q]; exact ⟨0, rfl⟩
          · rw [if_neg q]; exact ⟨1, rfl⟩
        obtain ⟨w, ew⟩ := hw
        obtain ⟨r, c', m', e1, e2, R'⟩ := m_ask R (by omega) s1 s2 w
        rw [ew, sb, e1, sb, sb, e2, sb, if_pos rfl]
        exact go c' m' (N + 1) R' (by omega)
      rw [if_neg c7]
      by_cases c8 : sel = 8
      · obtain ⟨r, c', m', e1, e2, R'⟩ := m_play R (by omega) l1 s3
        rw [if_pos c8, e1, sb, e2, sb, if_pos rfl]
        exact go c' m' (N + 300) R' (by omega)
      rw [if_neg c8]
      by_cases c9 : sel = 9
      · obtain ⟨r, m', e1, e2, R'⟩ := m_missing R s1
        rw [if_pos c9, e1, sb, e2, sb, if_pos rfl]
        exact go c m' N R' (by omega)
      rw [if_neg c9]
      by_cases c10 : sel = 10
      · obtain ⟨r, m', e1, e2, R'⟩ := m_joined R
        rw [if_pos c10, e1, sb, e2, sb, if_pos rfl]
        exact go c m' N R' (by omega)
      rw [if_neg c10]
      by_cases c11 : sel = 11
      · obtain ⟨r, e1, e2⟩ := m_held R s1
        rw [if_pos c11, e1, sb, e2, sb, if_pos rfl]
        exact go c m N R (by omega)
      rw [if_neg c11]
      by_cases c12 : sel = 12
      · obtain ⟨r, m', e1, e2, R'⟩ := m_mine R s1
        rw [if_pos c12, e1, sb, e2, sb, if_pos rfl]
        exact go c m' N R' (by omega)
      rw [if_neg c12]
      by_cases c13 : sel = 13
      · obtain ⟨r, c', m', e1, e2, R'⟩ := m_rot R s1 l2
        rw [if_pos c13, e1, sb, e2, sb, if_pos rfl]
        exact go c' m' N R' (by omega)
      rw [if_neg c13]
      by_cases c14 : sel = 14
      · obtain ⟨r, c', m', e1, e2, R'⟩ := m_cut R
        rw [if_pos c14, e1, sb, e2, sb, if_pos rfl]
        exact go c' m' N R' (by omega)
      rw [if_neg c14]
      by_cases c15 : sel = 15
      · obtain ⟨r, m', e1, e2, R'⟩ := m_count R s1
        rw [if_pos c15, e1, sb, e2, sb, if_pos rfl]
        exact go c m' N R' (by omega)
      rw [if_neg c15]
      exact go c m N R (by omega)
    · have hlt : (Int32.ofNat L - 4 < nI i) := by
        have e := pk_sub_toInt (a := L) (b := 4) (by omega) (by omega)
        rw [Int32.lt_iff_toInt_lt, show (Int32.ofNat L - 4).toInt = (L : Int) - (4 : Nat) from e, nI_toInt (by omega)]
        omega
      rw [if_pos hlt]
theorem law_all {L : Nat} (hL : L ≤ 2048) (xs : Nat → Int32) : f_L_law_18 L xs FU 0 i_SP i_Mod = some 1 := law_pure hL xs FU 0 i_SP i_Mod 0 rel_start (by omega) (by omega) (by unfold FU; omega)
