def f_X0_has (s0 : S_Givers) (x1 : Int32) : Option (Int32) := if x1 < 0 then (some 0) else (if s0.2.2.2.2.2.1 ≤ x1 then (some 0) else (some 1))
set_option maxHeartbeats 4000000 in
set_option maxRecDepth 100000 in
theorem k_X0_has (l : Launch) (dC : Nat → ClassId) (dI : Nat → Nat → Nat) (cI cJ cZ : ClassId) (h0 h1 h2 h3 h4 h5 : Nat) (s0 : S_Givers) (x1 : Int32) (u : Int32) (hf : f_X0_has s0 x1 = some u) (sz : Nat) : Met l yX0_has wsX0_has ({ frames := 0, cells := 0, slots := 0, locals := 0 }) (cPre (dC, dI) vwCl (TY cI cJ cZ) [.ref h0, .int x1] [(h0, .inr (0, [.ref h1, .ref h2, .ref h3, .ref h4, .ref h5, .int s0.2.2.2.2.2.1, .int s0.2.2.2.2.2.2.1, .int s0.2.2.2.2.2.2.2])), (h1, .inl (cI, 12, .inl s0.1)), (h2, .inl (cI, 12, .inl s0.2.1)), (h3, .inl (cI, 12, .inl s0.2.2.1)), (h4, .inl (cI, 12, .inl s0.2.2.2.1)), (h5, .inl (cI, 12, .inl s0.2.2.2.2.1))] sz) (va_Qi (fun (r : Int32) (_ : Unit) => r = u) (fun _ t => cB (dC, dI) vwCl (TY cI cJ cZ) (va_A [(h0, .inr (0, [.ref h1, .ref h2, .ref h3, .ref h4, .ref h5, .int s0.2.2.2.2.2.1, .int s0.2.2.2.2.2.2.1, .int s0.2.2.2.2.2.2.2])), (h1, .inl (cI, 12, .inl s0.1)), (h2, .inl (cI, 12, .inl s0.2.1)), (h3, .inl (cI, 12, .inl s0.2.2.1)), (h4, .inl (cI, 12, .inl s0.2.2.2.1)), (h5, .inl (cI, 12, .inl s0.2.2.2.2.1))] sz) [(h0, .inr (0, [.ref h1, .ref h2, .ref h3, .ref h4, .ref h5, .int s0.2.2.2.2.2.1, .int s0.2.2.2.2.2.2.1, .int s0.2.2.2.2.2.2.2])), (h1, .inl (cI, 12, .inl s0.1)), (h2, .inl (cI, 12, .inl s0.2.1)), (h3, .inl (cI, 12, .inl s0.2.2.1)), (h4, .inl (cI, 12, .inl s0.2.2.2.1)), (h5, .inl (cI, 12, .inl s0.2.2.2.2.1))] t) (va_A [(h0, .inr (0, [.ref h1, .ref h2, .ref h3, .ref h4, .ref h5, .int s0.2.2.2.2.2.1, .int s0.2.2.2.2.2.2.1, .int s0.2.2.2.2.2.2.2])), (h1, .inl (cI, 12, .inl s0.1)), (h2, .inl (cI, 12, .inl s0.2.1)), (h3, .inl (cI, 12, .inl s0.2.2.1)), (h4, .inl (cI, 12, .inl s0.2.2.2.1)), (h5, .inl (cI, 12, .inl s0.2.2.2.2.1))] sz)) 0 0 (va_A [(h0, .inr (0, [.ref h1, .ref h2, .ref h3, .ref h4, .ref h5, .int s0.2.2.2.2.2.1, .int s0.2.2.2.2.2.2.1, .int s0.2.2.2.2.2.2.2])), (h1, .inl (cI, 12, .inl s0.1)), (h2, .inl (cI, 12, .inl s0.2.1)), (h3, .inl (cI, 12, .inl s0.2.2.1)), (h4, .inl (cI, 12, .inl s0.2.2.2.1)), (h5, .inl (cI, 12, .inl s0.2.2.2.2.1))] sz) := by
  refine Met.ofW (cc := cX0_has) (maxL := 2) (ret := (some .boolean)) (by decide) rfl ?_
  intro p e s m args below meth c s₁ B hml hv
  obtain ⟨rfl, hsz, hP, hK, hD0⟩ := hv
  have hx := B.exec
  have hb := B.bytes
  have hr := B.returns
  have hts := atoms_spec (ws := wsX0_has) B.pre
  have hown : s.vm.findClass RX0 = some m.cls := findClass_of_methodNamed B.named
  have hlocks := B.notSynchronized
  subst hsz
  have hD := hD0.self (sz := s.heap.size)
  generalize hAe : va_A [(h0, .inr (0, [.ref h1, .ref h2, .ref h3, .ref h4, .ref h5, .int s0.2.2.2.2.2.1, .int s0.2.2.2.2.2.2.1, .int s0.2.2.2.2.2.2.2])), (h1, .inl (cI, 12, .inl s0.1)), (h2, .inl (cI, 12, .inl s0.2.1)), (h3, .inl (cI, 12, .inl s0.2.2.1)), (h4, .inl (cI, 12, .inl s0.2.2.2.1)), (h5, .inl (cI, 12, .inl s0.2.2.2.2.1))] s.heap.size = A at hD ⊢
  have hA : ∀ q : Nat, s.heap.size ≤ q → A q := fun q h => by rw [← hAe]; exact Or.inr h
  have hS : va_S A s.heap s.heap [] := va_S.rf
  have hl := lv_entry ([.ref h0, .int x1]) (n := 2) (Nat.le_of_ble_eq_true rfl)
  rw [lg_entry_eq]
  generalize (lg_sl ([.ref h0, .int x1]) ++ List.replicate (2 - (lg_sl ([.ref h0, .int x1])).length) Slot.unset).toArray = ls at hl ⊢
  have hl : lv_has ls 2 [(0, .ref h0), (1, .int x1)] := hl
  have h := hf
  unfold f_X0_has at h
  refine lv_iload_n hx hb dX0_has_0 rfl (lv_at hl 1 rfl) ?_
  refine lv_if_lt (tgt := 16) hx hb dX0_has_1 (by decide) (fun c1 => ?_) (fun c1 => ?_)
  · have h := ie_t c1 h
    refine lv_iconst (v := 0) hx hb dX0_has_16 (by decide) ?_
    obtain rfl := Option.some.inj h
    exact W.zret (v := 0) hx hb hr rfl (fun t ht hW => ⟨⟨_, (), rfl, rfl, by rw [ht]; exact hP, va_K.moved hW.alike hK, hD⟩, hS.F ht⟩) hS.2.2 dX0_has_17
  · have h := ie_f c1 h
    refine lv_iload_n hx hb dX0_has_4 rfl (lv_at hl 1 rfl) ?_
    refine lv_aload_n hx hb dX0_has_5 rfl (lv_at hl 0 rfl) ?_
    refine va_get (D := (dC, dI)) (ci := 0) (v := .int s0.2.2.2.2.2.1) (C := RX0) (T := TX0) (N := 8) hx hb hts (by decide +kernel) hown hK hP 0 rfl rfl 5 (by decide) (hts (.fieldLink RX0 25 "SnapshotPieces$Givers" "size" "I") (by decide +kernel)) (fun _ h9 => h9) rfl dX0_has_6 ?_
    refine lv_icmp_ge (tgt := 16) hx hb dX0_has_9 (by decide) (fun c2 => ?_) (fun c2 => ?_)
    · have h := ie_t c2 h
      refine lv_iconst (v := 0) hx hb dX0_has_16 (by decide) ?_
      obtain rfl := Option.some.inj h
      exact W.zret (v := 0) hx hb hr rfl (fun t ht hW => ⟨⟨_, (), rfl, rfl, by rw [ht]; exact hP, va_K.moved hW.alike hK, hD⟩, hS.F ht⟩) hS.2.2 dX0_has_17
    · have h := ie_f c2 h
      refine lv_iconst (v := 1) hx hb dX0_has_12 (by decide) ?_
      refine lv_goto (tgt := 17) hx hb dX0_has_13 (by decide) ?_
      obtain rfl := Option.some.inj h
      exact W.zret (v := 1) hx hb hr rfl (fun t ht hW => ⟨⟨_, (), rfl, rfl, by rw [ht]; exact hP, va_K.moved hW.alike hK, hD⟩, hS.F ht⟩) hS.2.2 dX0_has_17
def f_X0_append (s0 : S_Givers) (x1 : Int32) (x2 : Int32) : Option (Int32 × S_Givers) := if s0.2.2.2.2.2.1 < 12 then (kb (ib s0.2.2.2.2.2.1 12) (kb (ib s0.2.2.2.2.2.1 12) (some (1, ((upd s0.1 (Int32.toNatClampNeg s0.2.2.2.2.2.1) x1), (upd s0.2.1 (Int32.toNatClampNeg s0.2.2.2.2.2.1) x2), s0.2.2.1, s0.2.2.2.1, s0.2.2.2.2.1, (s0.2.2.2.2.2.1 + 1), s0.2.2.2.2.2.2.1, s0.2.2.2.2.2.2.2))))) else (some (0, s0))
set_option maxHeartbeats 4000000 in
set_option maxRecDepth 100000 in
theorem k_X0_append (l : Launch) (dC : Nat → ClassId) (dI : Nat → Nat → Nat) (cI cJ cZ : ClassId) (h0 h1 h2 h3 h4 h5 : Nat) (s0 : S_Givers) (x1 : Int32) (x2 : Int32) (u : Int32 × S_Givers) (hf : f_X0_append s0 x1 x2 = some u) (sz : Nat) : Met l yX0_append wsX0_append ({ frames := 0, cells := 0, slots := 0, locals := 0 }) (cPre (dC, dI) vwCl (TY cI cJ cZ) [.ref h0, .int x1, .int x2] [(h0, .inr (0, [.ref h1, .ref h2, .ref h3, .ref h4, .ref h5, .int s0.2.2.2.2.2.1, .int s0.2.2.2.2.2.2.1, .int s0.2.2.2.2.2.2.2])), (h1, .inl (cI, 12, .inl s0.1)), (h2, .inl (cI, 12, .inl s0.2.1)), (h3, .inl (cI, 12, .inl s0.2.2.1)), (h4, .inl (cI, 12, .inl s0.2.2.2.1)), (h5, .inl (cI, 12, .inl s0.2.2.2.2.1))] sz) (va_Qi (fun (r : Int32) (_ : Unit) => r = u.1) (fun _ t => cB (dC, dI) vwCl (TY cI cJ cZ) (va_A [(h0, .inr (0, [.ref h1, .ref h2, .ref h3, .ref h4, .ref h5, .int s0.2.2.2.2.2.1, .int s0.2.2.2.2.2.2.1, .int s0.2.2.2.2.2.2.2])), (h1, .inl (cI, 12, .inl s0.1)), (h2, .inl (cI, 12, .inl s0.2.1)), (h3, .inl (cI, 12, .inl s0.2.2.1)), (h4, .inl (cI, 12, .inl s0.2.2.2.1)), (h5, .inl (cI, 12, .inl s0.2.2.2.2.1))] sz) [(h0, .inr (0, [.ref h1, .ref h2, .ref h3, .ref h4, .ref h5, .int u.2.2.2.2.2.2.1, .int u.2.2.2.2.2.2.2.1, .int u.2.2.2.2.2.2.2.2])), (h1, .inl (cI, 12, .inl u.2.1)), (h2, .inl (cI, 12, .inl u.2.2.1)), (h3, .inl (cI, 12, .inl u.2.2.2.1)), (h4, .inl (cI, 12, .inl u.2.2.2.2.1)), (h5, .inl (cI, 12, .inl u.2.2.2.2.2.1))] t) (va_A [(h0, .inr (0, [.ref h1, .ref h2, .ref h3, .ref h4, .ref h5, .int s0.2.2.2.2.2.1, .int s0.2.2.2.2.2.2.1, .int s0.2.2.2.2.2.2.2])), (h1, .inl (cI, 12, .inl s0.1)), (h2, .inl (cI, 12, .inl s0.2.1)), (h3, .inl (cI, 12, .inl s0.2.2.1)), (h4, .inl (cI, 12, .inl s0.2.2.2.1)), (h5, .inl (cI, 12, .inl s0.2.2.2.2.1))] sz)) 0 0 (va_A [(h0, .inr (0, [.ref h1, .ref h2, .ref h3, .ref h4, .ref h5, .int s0.2.2.2.2.2.1, .int s0.2.2.2.2.2.2.1, .int s0.2.2.2.2.2.2.2])), (h1, .inl (cI, 12, .inl s0.1)), (h2, .inl (cI, 12, .inl s0.2.1)), (h3, .inl (cI, 12, .inl s0.2.2.1)), (h4, .inl (cI, 12, .inl s0.2.2.2.1)), (h5, .inl (cI, 12, .inl s0.2.2.2.2.1))] sz) := by
  refine Met.ofW (cc := cX0_append) (maxL := 3) (ret := (some .boolean)) (by decide) rfl ?_
  intro p e s m args below meth c s₁ B hml hv
  obtain ⟨rfl, hsz, hP, hK, hD0⟩ := hv
  have hx := B.exec
  have hb := B.bytes
  have hr := B.returns
  have hts := atoms_spec (ws := wsX0_append) B.pre
  have hown : s.vm.findClass RX0 = some m.cls := findClass_of_methodNamed B.named
  have hlocks := B.notSynchronized
  subst hsz
  have hD := hD0.self (sz := s.heap.size)
  generalize hAe : va_A [(h0, .inr (0, [.ref h1, .ref h2, .ref h3, .ref h4, .ref h5, .int s0.2.2.2.2.2.1, .int s0.2.2.2.2.2.2.1, .int s0.2.2.2.2.2.2.2])), (h1, .inl (cI, 12, .inl s0.1)), (h2, .inl (cI, 12, .inl s0.2.1)), (h3, .inl (cI, 12, .inl s0.2.2.1)), (h4, .inl (cI, 12, .inl s0.2.2.2.1)), (h5, .inl (cI, 12, .inl s0.2.2.2.2.1))] s.heap.size = A at hD ⊢
  have hA : ∀ q : Nat, s.heap.size ≤ q → A q := fun q h => by rw [← hAe]; exact Or.inr h
  have hS : va_S A s.heap s.heap [] := va_S.rf
  have hl := lv_entry ([.ref h0, .int x1, .int x2]) (n := 3) (Nat.le_of_ble_eq_true rfl)
  rw [lg_entry_eq]
  generalize (lg_sl ([.ref h0, .int x1, .int x2]) ++ List.replicate (3 - (lg_sl ([.ref h0, .int x1, .int x2])).length) Slot.unset).toArray = ls at hl ⊢
  have hl : lv_has ls 3 [(0, .ref h0), (1, .int x1), (2, .int x2)] := hl
  have h := hf
  unfold f_X0_append at h
  refine lv_aload_n hx hb dX0_append_0 rfl (lv_at hl 0 rfl) ?_
  refine va_get (D := (dC, dI)) (ci := 0) (v := .int s0.2.2.2.2.2.1) (C := RX0) (T := TX0) (N := 8) hx hb hts (by decide +kernel) hown hK hP 0 rfl rfl 5 (by decide) (hts (.fieldLink RX0 25 "SnapshotPieces$Givers" "size" "I") (by decide +kernel)) (fun _ h9 => h9) rfl dX0_append_1 ?_
  refine lv_bipush (v := 12) hx hb dX0_append_4 (by decide) ?_
  refine lv_icmp_lt (tgt := 11) hx hb dX0_append_6 (by decide) (fun c1 => ?_) (fun c1 => ?_)
  · have h := ie_t c1 h
    refine lv_aload_n hx hb dX0_append_11 rfl (lv_at hl 0 rfl) ?_
    refine va_get (D := (dC, dI)) (ci := 0) (v := .ref h1) (C := RX0) (T := TX0) (N := 8) hx hb hts (by decide +kernel) hown hK hP 0 rfl rfl 0 (by decide) (hts (.fieldLink RX0 9 "SnapshotPieces$Givers" "kindOf" "[I") (by decide +kernel)) (fun _ h9 => h9) rfl dX0_append_12 ?_
    refine lv_aload_n hx hb dX0_append_15 rfl (lv_at hl 0 rfl) ?_
    refine va_get (D := (dC, dI)) (ci := 0) (v := .int s0.2.2.2.2.2.1) (C := RX0) (T := TX0) (N := 8) hx hb hts (by decide +kernel) hown hK hP 0 rfl rfl 5 (by decide) (hts (.fieldLink RX0 25 "SnapshotPieces$Givers" "size" "I") (by decide +kernel)) (fun _ h9 => h9) rfl dX0_append_16 ?_
    refine lv_iload_n hx hb dX0_append_19 rfl (lv_at hl 1 rfl) ?_
    obtain ⟨g2, h⟩ := kb_e h
    refine va_iast hx hb hK hP hD hS 1 0 rfl rfl (ib_in g2) dX0_append_20 (fun H locs hP hD hS => ?_)
    have hP : va_P (dC, dI) vwCl [(h0, .inr (0, [.ref h1, .ref h2, .ref h3, .ref h4, .ref h5, .int s0.2.2.2.2.2.1, .int s0.2.2.2.2.2.2.1, .int s0.2.2.2.2.2.2.2])), (h1, .inl (cI, 12, .inl (upd s0.1 (Int32.toNatClampNeg s0.2.2.2.2.2.1) x1))), (h2, .inl (cI, 12, .inl s0.2.1)), (h3, .inl (cI, 12, .inl s0.2.2.1)), (h4, .inl (cI, 12, .inl s0.2.2.2.1)), (h5, .inl (cI, 12, .inl s0.2.2.2.2.1))] H := hP
    have hD : va_D A [(h0, .inr (0, [.ref h1, .ref h2, .ref h3, .ref h4, .ref h5, .int s0.2.2.2.2.2.1, .int s0.2.2.2.2.2.2.1, .int s0.2.2.2.2.2.2.2])), (h1, .inl (cI, 12, .inl (upd s0.1 (Int32.toNatClampNeg s0.2.2.2.2.2.1) x1))), (h2, .inl (cI, 12, .inl s0.2.1)), (h3, .inl (cI, 12, .inl s0.2.2.1)), (h4, .inl (cI, 12, .inl s0.2.2.2.1)), (h5, .inl (cI, 12, .inl s0.2.2.2.2.1))] := hD
    refine lv_aload_n hx hb dX0_append_21 rfl (lv_at hl 0 rfl) ?_
    refine va_get (D := (dC, dI)) (ci := 0) (v := .ref h2) (C := RX0) (T := TX0) (N := 8) hx hb hts (by decide +kernel) hown hK hP 0 rfl rfl 1 (by decide) (hts (.fieldLink RX0 13 "SnapshotPieces$Givers" "headOf" "[I") (by decide +kernel)) (fun _ h9 => h9) rfl dX0_append_22 ?_
    refine lv_aload_n hx hb dX0_append_25 rfl (lv_at hl 0 rfl) ?_
    refine va_get (D := (dC, dI)) (ci := 0) (v := .int s0.2.2.2.2.2.1) (C := RX0) (T := TX0) (N := 8) hx hb hts (by decide +kernel) hown hK hP 0 rfl rfl 5 (by decide) (hts (.fieldLink RX0 25 "SnapshotPieces$Givers" "size" "I") (by decide +kernel)) (fun _ h9 => h9) rfl dX0_append_26 ?_
    refine lv_iload_n hx hb dX0_append_29 rfl (lv_at hl 2 rfl) ?_
    obtain ⟨g3, h⟩ := kb_e h
    refine va_iast hx hb hK hP hD hS 2 0 rfl rfl (ib_in g3) dX0_append_30 (fun H locs hP hD hS => ?_)
    have hP : va_P (dC, dI) vwCl [(h0, .inr (0, [.ref h1, .ref h2, .ref h3, .ref h4, .ref h5, .int s0.2.2.2.2.2.1, .int s0.2.2.2.2.2.2.1, .int s0.2.2.2.2.2.2.2])), (h1, .inl (cI, 12, .inl (upd s0.1 (Int32.toNatClampNeg s0.2.2.2.2.2.1) x1))), (h2, .inl (cI, 12, .inl (upd s0.2.1 (Int32.toNatClampNeg s0.2.2.2.2.2.1) x2))), (h3, .inl (cI, 12, .inl s0.2.2.1)), (h4, .inl (cI, 12, .inl s0.2.2.2.1)), (h5, .inl (cI, 12, .inl s0.2.2.2.2.1))] H := hP
    have hD : va_D A [(h0, .inr (0, [.ref h1, .ref h2, .ref h3, .ref h4, .ref h5, .int s0.2.2.2.2.2.1, .int s0.2.2.2.2.2.2.1, .int s0.2.2.2.2.2.2.2])), (h1, .inl (cI, 12, .inl (upd s0.1 (Int32.toNatClampNeg s0.2.2.2.2.2.1) x1))), (h2, .inl (cI, 12, .inl (upd s0.2.1 (Int32.toNatClampNeg s0.2.2.2.2.2.1) x2))), (h3, .inl (cI, 12, .inl s0.2.2.1)), (h4, .inl (cI, 12, .inl s0.2.2.2.1)), (h5, .inl (cI, 12, .inl s0.2.2.2.2.1))] := hD
    refine lv_aload_n hx hb dX0_append_31 rfl (lv_at hl 0 rfl) ?_
    refine lv_dup hx hb dX0_append_32 rfl ?_
    refine va_get (D := (dC, dI)) (ci := 0) (v := .int s0.2.2.2.2.2.1) (C := RX0) (T := TX0) (N := 8) hx hb hts (by decide +kernel) hown hK hP 0 rfl rfl 5 (by decide) (hts (.fieldLink RX0 25 "SnapshotPieces$Givers" "size" "I") (by decide +kernel)) (fun _ h9 => h9) rfl dX0_append_33 ?_
    refine lv_iconst (v := 1) hx hb dX0_append_36 (by decide) ?_
    refine lv_iadd hx hb dX0_append_37 ?_
    refine va_put (D := (dC, dI)) (ci := 0) (v := .int (s0.2.2.2.2.2.1 + 1)) (ty := .int) (C := RX0) (T := TX0) (N := 8) hx hb hts (by decide +kernel) tyX0 tyX0_ok nmX0 hown hK hP hD hS 0 rfl rfl 5 (by decide) (hts (.fieldLink RX0 25 "SnapshotPieces$Givers" "size" "I") (by decide +kernel)) (fun _ h9 => h9) rfl (by decide +kernel) rfl rfl (Nat.le_of_ble_eq_true rfl) dX0_append_38 (fun H locs hP hD hS => ?_)
    have hP : va_P (dC, dI) vwCl [(h0, .inr (0, [.ref h1, .ref h2, .ref h3, .ref h4, .ref h5, .int (s0.2.2.2.2.2.1 + 1), .int s0.2.2.2.2.2.2.1, .int s0.2.2.2.2.2.2.2])), (h1, .inl (cI, 12, .inl (upd s0.1 (Int32.toNatClampNeg s0.2.2.2.2.2.1) x1))), (h2, .inl (cI, 12, .inl (upd s0.2.1 (Int32.toNatClampNeg s0.2.2.2.2.2.1) x2))), (h3, .inl (cI, 12, .inl s0.2.2.1)), (h4, .inl (cI, 12, .inl s0.2.2.2.1)), (h5, .inl (cI, 12, .inl s0.2.2.2.2.1))] H := hP
    have hD : va_D A [(h0, .inr (0, [.ref h1, .ref h2, .ref h3, .ref h4, .ref h5, .int (s0.2.2.2.2.2.1 + 1), .int s0.2.2.2.2.2.2.1, .int s0.2.2.2.2.2.2.2])), (h1, .inl (cI, 12, .inl (upd s0.1 (Int32.toNatClampNeg s0.2.2.2.2.2.1) x1))), (h2, .inl (cI, 12, .inl (upd s0.2.1 (Int32.toNatClampNeg s0.2.2.2.2.2.1) x2))), (h3, .inl (cI, 12, .inl s0.2.2.1)), (h4, .inl (cI, 12, .inl s0.2.2.2.1)), (h5, .inl (cI, 12, .inl s0.2.2.2.2.1))] := hD
    refine lv_iconst (v := 1) hx hb dX0_append_41 (by decide) ?_
    obtain rfl := Option.some.inj h
    exact W.zret (v := 1) hx hb hr rfl (fun t ht hW => ⟨⟨_, (), rfl, rfl, by rw [ht]; exact hP, va_K.moved hW.alike hK, hD⟩, hS.F ht⟩) hS.2.2 dX0_append_42
  · have h := ie_f c1 h
    refine lv_iconst (v := 0) hx hb dX0_append_9 (by decide) ?_
    obtain rfl := Option.some.inj h
    exact W.zret (v := 0) hx hb hr rfl (fun t ht hW => ⟨⟨_, (), rfl, rfl, by rw [ht]; exact hP, va_K.moved hW.alike hK, hD⟩, hS.F ht⟩) hS.2.2 dX0_append_10
def f_X0_answers (s0 : S_Givers) (x1 : Int32) (x2 : Int32) : Option (Int32 × S_Givers) := (f_X0_has s0 x1).bind fun u1 => if u1 = 0 then (some (0, s0)) else (kb (ib x1 12) (kb (ib x1 12) (kb (ib x1 12) ((if (s0.2.1 (Int32.toNatClampNeg x1)) = (-1) then (some 0) else (kb (ib x1 12) ((if x2 ≤ (s0.2.1 (Int32.toNatClampNeg x1)) then (some 0) else (some 1) : Option (Int32)).bind fun v17 => some v17)) : Option (Int32)).bind fun v6 => kb (ib x1 12) ((if (s0.1 (Int32.toNatClampNeg x1)) = 4 then (kb (ib x1 12) ((if (((upd s0.2.2.1 (Int32.toNatClampNeg x1) ((s0.2.2.1 (Int32.toNatClampNeg x1)) + 1)) (Int32.toNatClampNeg x1)) - ((upd s0.2.2.1 (Int32.toNatClampNeg x1) ((s0.2.2.1 (Int32.toNatClampNeg x1)) + 1)) (Int32.toNatClampNeg x1)) / 2 * 2) = 0 then (some 1) else (some 0) : Option (Int32)).bind fun v13 => some v13)) else (some 0) : Option (Int32)).bind fun v8 => if v6 = 0 then (if v8 = 0 then (some (1, (s0.1, s0.2.1, (upd s0.2.2.1 (Int32.toNatClampNeg x1) ((s0.2.2.1 (Int32.toNatClampNeg x1)) + 1)), s0.2.2.2.1, s0.2.2.2.2.1, s0.2.2.2.2.2.1, s0.2.2.2.2.2.2.1, (s0.2.2.2.2.2.2.2 + 1)))) else (some (0, (s0.1, s0.2.1, (upd s0.2.2.1 (Int32.toNatClampNeg x1) ((s0.2.2.1 (Int32.toNatClampNeg x1)) + 1)), s0.2.2.2.1, s0.2.2.2.2.1, s0.2.2.2.2.2.1, s0.2.2.2.2.2.2.1, (s0.2.2.2.2.2.2.2 + 1))))) else (some (0, (s0.1, s0.2.1, (upd s0.2.2.1 (Int32.toNatClampNeg x1) ((s0.2.2.1 (Int32.toNatClampNeg x1)) + 1)), s0.2.2.2.1, s0.2.2.2.2.1, s0.2.2.2.2.2.1, s0.2.2.2.2.2.2.1, (s0.2.2.2.2.2.2.2 + 1)))))))))
set_option maxHeartbeats 4000000 in
set_option maxRecDepth 100000 in
theorem k_X0_answers (l : Launch) (dC : Nat → ClassId) (dI : Nat → Nat → Nat) (cI cJ cZ : ClassId) (h0 h1 h2 h3 h4 h5 : Nat) (s0 : S_Givers) (x1 : Int32) (x2 : Int32) (u : Int32 × S_Givers) (hf : f_X0_answers s0 x1 x2 = some u) (sz : Nat) : Met l yX0_answers wsX0_answers ({ frames := 1, cells := 0, slots := 0, locals := 21 }) (cPre (dC, dI) vwCl (TY cI cJ cZ) [.ref h0, .int x1, .int x2] [(h0, .inr (0, [.ref h1, .ref h2, .ref h3, .ref h4, .ref h5, .int s0.2.2.2.2.2.1, .int s0.2.2.2.2.2.2.1, .int s0.2.2.2.2.2.2.2])), (h1, .inl (cI, 12, .inl s0.1)), (h2, .inl (cI, 12, .inl s0.2.1)), (h3, .inl (cI, 12, .inl s0.2.2.1)), (h4, .inl (cI, 12, .inl s0.2.2.2.1)), (h5, .inl (cI, 12, .inl s0.2.2.2.2.1))] sz) (va_Qi (fun (r : Int32) (_ : Unit) => r = u.1) (fun _ t => cB (dC, dI) vwCl (TY cI cJ cZ) (va_A [(h0, .inr (0, [.ref h1, .ref h2, .ref h3, .ref h4, .ref h5, .int s0.2.2.2.2.2.1, .int s0.2.2.2.2.2.2.1, .int s0.2.2.2.2.2.2.2])), (h1, .inl (cI, 12, .inl s0.1)), (h2, .inl (cI, 12, .inl s0.2.1)), (h3, .inl (cI, 12, .inl s0.2.2.1)), (h4, .inl (cI, 12, .inl s0.2.2.2.1)), (h5, .inl (cI, 12, .inl s0.2.2.2.2.1))] sz) [(h0, .inr (0, [.ref h1, .ref h2, .ref h3, .ref h4, .ref h5, .int u.2.2.2.2.2.2.1, .int u.2.2.2.2.2.2.2.1, .int u.2.2.2.2.2.2.2.2])), (h1, .inl (cI, 12, .inl u.2.1)), (h2, .inl (cI, 12, .inl u.2.2.1)), (h3, .inl (cI, 12, .inl u.2.2.2.1)), (h4, .inl (cI, 12, .inl u.2.2.2.2.1)), (h5, .inl (cI, 12, .inl u.2.2.2.2.2.1))] t) (va_A [(h0, .inr (0, [.ref h1, .ref h2, .ref h3, .ref h4, .ref h5, .int s0.2.2.2.2.2.1, .int s0.2.2.2.2.2.2.1, .int s0.2.2.2.2.2.2.2])), (h1, .inl (cI, 12, .inl s0.1)), (h2, .inl (cI, 12, .inl s0.2.1)), (h3, .inl (cI, 12, .inl s0.2.2.1)), (h4, .inl (cI, 12, .inl s0.2.2.2.1)), (h5, .inl (cI, 12, .inl s0.2.2.2.2.1))] sz)) 0 0 (va_A [(h0, .inr (0, [.ref h1, .ref h2, .ref h3, .ref h4, .ref h5, .int s0.2.2.2.2.2.1, .int s0.2.2.2.2.2.2.1, .int s0.2.2.2.2.2.2.2])), (h1, .inl (cI, 12, .inl s0.1)), (h2, .inl (cI, 12, .inl s0.2.1)), (h3, .inl (cI, 12, .inl s0.2.2.1)), (h4, .inl (cI, 12, .inl s0.2.2.2.1)), (h5, .inl (cI, 12, .inl s0.2.2.2.2.1))] sz) := by
  refine Met.ofW (cc := cX0_answers) (maxL := 5) (ret := (some .boolean)) (by decide) rfl ?_
  intro p e s m args below meth c s₁ B hml hv
  obtain ⟨rfl, hsz, hP, hK, hD0⟩ := hv
  have hx := B.exec
  have hb := B.bytes
  have hr := B.returns
  have hts := atoms_spec (ws := wsX0_answers) B.pre
  have hown : s.vm.findClass RX0 = some m.cls := findClass_of_methodNamed B.named
  have hlocks := B.notSynchronized
  subst hsz
  have hD := hD0.self (sz := s.heap.size)
  generalize hAe : va_A [(h0, .inr (0, [.ref h1, .ref h2, .ref h3, .ref h4, .ref h5, .int s0.2.2.2.2.2.1, .int s0.2.2.2.2.2.2.1, .int s0.2.2.2.2.2.2.2])), (h1, .inl (cI, 12, .inl s0.1)), (h2, .inl (cI, 12, .inl s0.2.1)), (h3, .inl (cI, 12, .inl s0.2.2.1)), (h4, .inl (cI, 12, .inl s0.2.2.2.1)), (h5, .inl (cI, 12, .inl s0.2.2.2.2.1))] s.heap.size = A at hD ⊢
  have hA : ∀ q : Nat, s.heap.size ≤ q → A q := fun q h => by rw [← hAe]; exact Or.inr h
  have hS : va_S A s.heap s.heap [] := va_S.rf
  have hl := lv_entry ([.ref h0, .int x1, .int x2]) (n := 5) (Nat.le_of_ble_eq_true rfl)
  rw [lg_entry_eq]
  generalize (lg_sl ([.ref h0, .int x1, .int x2]) ++ List.replicate (5 - (lg_sl ([.ref h0, .int x1, .int x2])).length) Slot.unset).toArray = ls at hl ⊢
  have hl : lv_has ls 5 [(0, .ref h0), (1, .int x1), (2, .int x2)] := hl
  have h := hf
  unfold f_X0_answers at h
  refine lv_aload_n hx hb dX0_answers_0 rfl (lv_at hl 0 rfl) ?_
  refine lv_iload_n hx hb dX0_answers_1 rfl (lv_at hl 1 rfl) ?_
  obtain ⟨u1, hc1, h⟩ := bd_e h
  refine cc_i (tys := TY cI cJ cZ) [(h0, .inr (0, [.ref h1, .ref h2, .ref h3, .ref h4, .ref h5, .int s0.2.2.2.2.2.1, .int s0.2.2.2.2.2.2.1, .int s0.2.2.2.2.2.2.2])), (h1, .inl (cI, 12, .inl s0.1)), (h2, .inl (cI, 12, .inl s0.2.1)), (h3, .inl (cI, 12, .inl s0.2.2.1)), (h4, .inl (cI, 12, .inl s0.2.2.2.1)), (h5, .inl (cI, 12, .inl s0.2.2.2.2.1))] ([] : va_W) [(h0, .inr (0, [.ref h1, .ref h2, .ref h3, .ref h4, .ref h5, .int s0.2.2.2.2.2.1, .int s0.2.2.2.2.2.2.1, .int s0.2.2.2.2.2.2.2])), (h1, .inl (cI, 12, .inl s0.1)), (h2, .inl (cI, 12, .inl s0.2.1)), (h3, .inl (cI, 12, .inl s0.2.2.1)), (h4, .inl (cI, 12, .inl s0.2.2.2.1)), (h5, .inl (cI, 12, .inl s0.2.2.2.2.1))] [(h0, .inr (0, [.ref h1, .ref h2, .ref h3, .ref h4, .ref h5, .int s0.2.2.2.2.2.1, .int s0.2.2.2.2.2.2.1, .int s0.2.2.2.2.2.2.2])), (h1, .inl (cI, 12, .inl s0.1)), (h2, .inl (cI, 12, .inl s0.2.1)), (h3, .inl (cI, 12, .inl s0.2.2.1)), (h4, .inl (cI, 12, .inl s0.2.2.2.1)), (h5, .inl (cI, 12, .inl s0.2.2.2.2.1))] hP hD hS hA [0, 1, 2, 3, 4, 5] [] [0, 1, 2, 3, 4, 5] rfl rfl (by decide) (by decide) rfl (by decide) rfl (va_runV (As := [.int x1]) (rest := []) ⟨hx, hb, hml, hown, hts⟩ (k_X0_has l dC dI cI cJ cZ h0 h1 h2 h3 h4 h5 s0 x1 u1 hc1 _) (cwV 1 hts gX0_answers_X0_has rfl rfl rfl (by decide +kernel) ⟨Nat.le_of_ble_eq_true rfl, Nat.le_of_ble_eq_true rfl⟩) ⟨cPre_blind, va_recv hK hP (ci := 0) (q0 := 0) rfl rfl, cPre_in hP hD hK [0, 1, 2, 3, 4, 5] rfl (by decide) rfl⟩ rfl rfl hl.1 rfl (lv_room (Nat.le_of_ble_eq_true rfl)) dX0_answers_2 ⟨Nat.le_of_ble_eq_true rfl, Nat.le_of_ble_eq_true rfl⟩) (fun H locs hP hD hS => ?_)
  refine lv_if_ne (tgt := 10) hx hb dX0_answers_5 (by decide) (fun c2 => ?_) (fun c2 => ?_)
  · have h := ie_f c2 h
    refine lv_aload_n hx hb dX0_answers_10 rfl (lv_at hl 0 rfl) ?_
    refine va_get (D := (dC, dI)) (ci := 0) (v := .ref h3) (C := RX0) (T := TX0) (N := 8) hx hb hts (by decide +kernel) hown hK hP 0 rfl rfl 2 (by decide) (hts (.fieldLink RX0 16 "SnapshotPieces$Givers" "asksOf" "[I") (by decide +kernel)) (fun _ h9 => h9) rfl dX0_answers_11 ?_
    refine lv_iload_n hx hb dX0_answers_14 rfl (lv_at hl 1 rfl) ?_
    refine lv_dup2_11 hx hb dX0_answers_15 rfl rfl ?_
    obtain ⟨g3, h⟩ := kb_e h
    refine va_iald hx hb hK hP 3 0 rfl rfl (ib_in g3) dX0_answers_16 ?_
    refine lv_iconst (v := 1) hx hb dX0_answers_17 (by decide) ?_
    refine lv_iadd hx hb dX0_answers_18 ?_
    obtain ⟨g4, h⟩ := kb_e h
    refine va_iast hx hb hK hP hD hS 3 0 rfl rfl (ib_in g4) dX0_answers_19 (fun H locs hP hD hS => ?_)
    have hP : va_P (dC, dI) vwCl [(h0, .inr (0, [.ref h1, .ref h2, .ref h3, .ref h4, .ref h5, .int s0.2.2.2.2.2.1, .int s0.2.2.2.2.2.2.1, .int s0.2.2.2.2.2.2.2])), (h1, .inl (cI, 12, .inl s0.1)), (h2, .inl (cI, 12, .inl s0.2.1)), (h3, .inl (cI, 12, .inl (upd s0.2.2.1 (Int32.toNatClampNeg x1) ((s0.2.2.1 (Int32.toNatClampNeg x1)) + 1)))), (h4, .inl (cI, 12, .inl s0.2.2.2.1)), (h5, .inl (cI, 12, .inl s0.2.2.2.2.1))] H := hP
    have hD : va_D A [(h0, .inr (0, [.ref h1, .ref h2, .ref h3, .ref h4, .ref h5, .int s0.2.2.2.2.2.1, .int s0.2.2.2.2.2.2.1, .int s0.2.2.2.2.2.2.2])), (h1, .inl (cI, 12, .inl s0.1)), (h2, .inl (cI, 12, .inl s0.2.1)), (h3, .inl (cI, 12, .inl (upd s0.2.2.1 (Int32.toNatClampNeg x1) ((s0.2.2.1 (Int32.toNatClampNeg x1)) + 1)))), (h4, .inl (cI, 12, .inl s0.2.2.2.1)), (h5, .inl (cI, 12, .inl s0.2.2.2.2.1))] := hD
    refine lv_aload_n hx hb dX0_answers_20 rfl (lv_at hl 0 rfl) ?_
    refine lv_dup hx hb dX0_answers_21 rfl ?_
    refine va_get (D := (dC, dI)) (ci := 0) (v := .int s0.2.2.2.2.2.2.2) (C := RX0) (T := TX0) (N := 8) hx hb hts (by decide +kernel) hown hK hP 0 rfl rfl 7 (by decide) (hts (.fieldLink RX0 32 "SnapshotPieces$Givers" "allAsks" "I") (by decide +kernel)) (fun _ h9 => h9) rfl dX0_answers_22 ?_
    refine lv_iconst (v := 1) hx hb dX0_answers_25 (by decide) ?_
    refine lv_iadd hx hb dX0_answers_26 ?_
    refine va_put (D := (dC, dI)) (ci := 0) (v := .int (s0.2.2.2.2.2.2.2 + 1)) (ty := .int) (C := RX0) (T := TX0) (N := 8) hx hb hts (by decide +kernel) tyX0 tyX0_ok nmX0 hown hK hP hD hS 0 rfl rfl 7 (by decide) (hts (.fieldLink RX0 32 "SnapshotPieces$Givers" "allAsks" "I") (by decide +kernel)) (fun _ h9 => h9) rfl (by decide +kernel) rfl rfl (Nat.le_of_ble_eq_true rfl) dX0_answers_27 (fun H locs hP hD hS => ?_)
    have hP : va_P (dC, dI) vwCl [(h0, .inr (0, [.ref h1, .ref h2, .ref h3, .ref h4, .ref h5, .int s0.2.2.2.2.2.1, .int s0.2.2.2.2.2.2.1, .int (s0.2.2.2.2.2.2.2 + 1)])), (h1, .inl (cI, 12, .inl s0.1)), (h2, .inl (cI, 12, .inl s0.2.1)), (h3, .inl (cI, 12, .inl (upd s0.2.2.1 (Int32.toNatClampNeg x1) ((s0.2.2.1 (Int32.toNatClampNeg x1)) + 1)))), (h4, .inl (cI, 12, .inl s0.2.2.2.1)), (h5, .inl (cI, 12, .inl s0.2.2.2.2.1))] H := hP
    have hD : va_D A [(h0, .inr (0, [.ref h1, .ref h2, .ref h3, .ref h4, .ref h5, .int s0.2.2.2.2.2.1, .int s0.2.2.2.2.2.2.1, .int (s0.2.2.2.2.2.2.2 + 1)])), (h1, .inl (cI, 12, .inl s0.1)), (h2, .inl (cI, 12, .inl s0.2.1)), (h3, .inl (cI, 12, .inl (upd s0.2.2.1 (Int32.toNatClampNeg x1) ((s0.2.2.1 (Int32.toNatClampNeg x1)) + 1)))), (h4, .inl (cI, 12, .inl s0.2.2.2.1)), (h5, .inl (cI, 12, .inl s0.2.2.2.2.1))] := hD
    refine lv_aload_n hx hb dX0_answers_30 rfl (lv_at hl 0 rfl) ?_
    refine va_get (D := (dC, dI)) (ci := 0) (v := .ref h2) (C := RX0) (T := TX0) (N := 8) hx hb hts (by decide +kernel) hown hK hP 0 rfl rfl 1 (by decide) (hts (.fieldLink RX0 13 "SnapshotPieces$Givers" "headOf" "[I") (by decide +kernel)) (fun _ h9 => h9) rfl dX0_answers_31 ?_
    refine lv_iload_n hx hb dX0_answers_34 rfl (lv_at hl 1 rfl) ?_
    obtain ⟨g5, h⟩ := kb_e h
    refine va_iald hx hb hK hP 2 0 rfl rfl (ib_in g5) dX0_answers_35 ?_
    refine lv_iconst (v := (-1)) hx hb dX0_answers_36 (by decide) ?_
    obtain ⟨v6, hv6, h⟩ := bd_e h
    have kxb6 : ∀ (H : Heap) (locs : List Loc) (ls : Array Slot), va_P (dC, dI) vwCl [(h0, .inr (0, [.ref h1, .ref h2, .ref h3, .ref h4, .ref h5, .int s0.2.2.2.2.2.1, .int s0.2.2.2.2.2.2.1, .int (s0.2.2.2.2.2.2.2 + 1)])), (h1, .inl (cI, 12, .inl s0.1)), (h2, .inl (cI, 12, .inl s0.2.1)), (h3, .inl (cI, 12, .inl (upd s0.2.2.1 (Int32.toNatClampNeg x1) ((s0.2.2.1 (Int32.toNatClampNeg x1)) + 1)))), (h4, .inl (cI, 12, .inl s0.2.2.2.1)), (h5, .inl (cI, 12, .inl s0.2.2.2.2.1))] H → va_D A [(h0, .inr (0, [.ref h1, .ref h2, .ref h3, .ref h4, .ref h5, .int s0.2.2.2.2.2.1, .int s0.2.2.2.2.2.2.1, .int (s0.2.2.2.2.2.2.2 + 1)])), (h1, .inl (cI, 12, .inl s0.1)), (h2, .inl (cI, 12, .inl s0.2.1)), (h3, .inl (cI, 12, .inl (upd s0.2.2.1 (Int32.toNatClampNeg x1) ((s0.2.2.1 (Int32.toNatClampNeg x1)) + 1)))), (h4, .inl (cI, 12, .inl s0.2.2.2.1)), (h5, .inl (cI, 12, .inl s0.2.2.2.2.1))] → va_S A s.heap H locs → lv_has ls 5 [(0, .ref h0), (1, .int x1)] → W p l e (headSpec wsX0_answers ({ frames := 1, cells := 0, slots := 0, locals := 21 } : Room)).room s m ([.ref h0, .int x1, .int x2] : List Value).toArray below meth c H locs 0 0 (MQ below (va_Qi (fun (r : Int32) (_ : Unit) => r = u.1) (fun _ t => cB (dC, dI) vwCl (TY cI cJ cZ) A [(h0, .inr (0, [.ref h1, .ref h2, .ref h3, .ref h4, .ref h5, .int u.2.2.2.2.2.2.1, .int u.2.2.2.2.2.2.2.1, .int u.2.2.2.2.2.2.2.2])), (h1, .inl (cI, 12, .inl u.2.1)), (h2, .inl (cI, 12, .inl u.2.2.1)), (h3, .inl (cI, 12, .inl u.2.2.2.1)), (h4, .inl (cI, 12, .inl u.2.2.2.2.1)), (h5, .inl (cI, 12, .inl u.2.2.2.2.2.1))] t) A) ([.ref h0, .int x1, .int x2] : List Value).toArray s 0 0 A) (F0 m 55 ls [.int v6]) := by
      intro H locs ls hP hD hS hl
      refine lv_istore_n (lv' := [(3, .int v6), (0, .ref h0), (1, .int x1)]) hx hb dX0_answers_55 rfl hl (by decide) rfl (fun ls hl => ?_)
      refine lv_aload_n hx hb dX0_answers_56 rfl (lv_at hl 1 rfl) ?_
      refine va_get (D := (dC, dI)) (ci := 0) (v := .ref h1) (C := RX0) (T := TX0) (N := 8) hx hb hts (by decide +kernel) hown hK hP 0 rfl rfl 0 (by decide) (hts (.fieldLink RX0 9 "SnapshotPieces$Givers" "kindOf" "[I") (by decide +kernel)) (fun _ h9 => h9) rfl dX0_answers_57 ?_
      refine lv_iload_n hx hb dX0_answers_60 rfl (lv_at hl 2 rfl) ?_
      obtain ⟨g7, h⟩ := kb_e h
      refine va_iald hx hb hK hP 1 0 rfl rfl (ib_in g7) dX0_answers_61 ?_
      refine lv_iconst (v := 4) hx hb dX0_answers_62 (by decide) ?_
      obtain ⟨v8, hv8, h⟩ := bd_e h
      have kxb8 : ∀ (H : Heap) (locs : List Loc) (ls : Array Slot), va_P (dC, dI) vwCl [(h0, .inr (0, [.ref h1, .ref h2, .ref h3, .ref h4, .ref h5, .int s0.2.2.2.2.2.1, .int s0.2.2.2.2.2.2.1, .int (s0.2.2.2.2.2.2.2 + 1)])), (h1, .inl (cI, 12, .inl s0.1)), (h2, .inl (cI, 12, .inl s0.2.1)), (h3, .inl (cI, 12, .inl (upd s0.2.2.1 (Int32.toNatClampNeg x1) ((s0.2.2.1 (Int32.toNatClampNeg x1)) + 1)))), (h4, .inl (cI, 12, .inl s0.2.2.2.1)), (h5, .inl (cI, 12, .inl s0.2.2.2.2.1))] H → va_D A [(h0, .inr (0, [.ref h1, .ref h2, .ref h3, .ref h4, .ref h5, .int s0.2.2.2.2.2.1, .int s0.2.2.2.2.2.2.1, .int (s0.2.2.2.2.2.2.2 + 1)])), (h1, .inl (cI, 12, .inl s0.1)), (h2, .inl (cI, 12, .inl s0.2.1)), (h3, .inl (cI, 12, .inl (upd s0.2.2.1 (Int32.toNatClampNeg x1) ((s0.2.2.1 (Int32.toNatClampNeg x1)) + 1)))), (h4, .inl (cI, 12, .inl s0.2.2.2.1)), (h5, .inl (cI, 12, .inl s0.2.2.2.2.1))] → va_S A s.heap H locs → lv_has ls 5 [(3, .int v6)] → W p l e (headSpec wsX0_answers ({ frames := 1, cells := 0, slots := 0, locals := 21 } : Room)).room s m ([.ref h0, .int x1, .int x2] : List Value).toArray below meth c H locs 0 0 (MQ below (va_Qi (fun (r : Int32) (_ : Unit) => r = u.1) (fun _ t => cB (dC, dI) vwCl (TY cI cJ cZ) A [(h0, .inr (0, [.ref h1, .ref h2, .ref h3, .ref h4, .ref h5, .int u.2.2.2.2.2.2.1, .int u.2.2.2.2.2.2.2.1, .int u.2.2.2.2.2.2.2.2])), (h1, .inl (cI, 12, .inl u.2.1)), (h2, .inl (cI, 12, .inl u.2.2.1)), (h3, .inl (cI, 12, .inl u.2.2.2.1)), (h4, .inl (cI, 12, .inl u.2.2.2.2.1)), (h5, .inl (cI, 12, .inl u.2.2.2.2.2.1))] t) A) ([.ref h0, .int x1, .int x2] : List Value).toArray s 0 0 A) (F0 m 82 ls [.int v8]) := by
        intro H locs ls hP hD hS hl
        refine lv_istore (lv' := [(4, .int v8), (3, .int v6)]) hx hb dX0_answers_82 hl (by decide) rfl (fun ls hl => ?_)
        refine lv_iload_n hx hb dX0_answers_84 rfl (lv_at hl 1 rfl) ?_
        refine lv_if_ne (tgt := 97) hx hb dX0_answers_85 (by decide) (fun c9 => ?_) (fun c9 => ?_)
        · have h := ie_f c9 h
          refine lv_iconst (v := 0) hx hb dX0_answers_97 (by decide) ?_
          obtain rfl := Option.some.inj h
          exact W.zret (v := 0) hx hb hr rfl (fun t ht hW => ⟨⟨_, (), rfl, rfl, by rw [ht]; exact hP, va_K.moved hW.alike hK, hD⟩, hS.F ht⟩) hS.2.2 dX0_answers_98
        · have h := ie_t c9 h
          refine lv_iload hx hb dX0_answers_88 (lv_at hl 0 rfl) ?_
          refine lv_if_ne (tgt := 97) hx hb dX0_answers_90 (by decide) (fun c10 => ?_) (fun c10 => ?_)
          · have h := ie_f c10 h
            refine lv_iconst (v := 0) hx hb dX0_answers_97 (by decide) ?_
            obtain rfl := Option.some.inj h
            exact W.zret (v := 0) hx hb hr rfl (fun t ht hW => ⟨⟨_, (), rfl, rfl, by rw [ht]; exact hP, va_K.moved hW.alike hK, hD⟩, hS.F ht⟩) hS.2.2 dX0_answers_98
          · have h := ie_t c10 h
            refine lv_iconst (v := 1) hx hb dX0_answers_93 (by decide) ?_
            refine lv_goto (tgt := 98) hx hb dX0_answers_94 (by decide) ?_
            obtain rfl := Option.some.inj h
            exact W.zret (v := 1) hx hb hr rfl (fun t ht hW => ⟨⟨_, (), rfl, rfl, by rw [ht]; exact hP, va_K.moved hW.alike hK, hD⟩, hS.F ht⟩) hS.2.2 dX0_answers_98
      have h := hv8
      refine lv_icmp_ne (tgt := 81) hx hb dX0_answers_63 (by decide) (fun c11 => ?_) (fun c11 => ?_)
      · have h := ie_f c11 h
        refine lv_iconst (v := 0) hx hb dX0_answers_81 (by decide) ?_
        obtain rfl := Option.some.inj h
        exact kxb8 _ _ _ hP hD hS (lv_sub hl [0] rfl)
      · have h := ie_t c11 h
        refine lv_aload_n hx hb dX0_answers_66 rfl (lv_at hl 1 rfl) ?_
        refine va_get (D := (dC, dI)) (ci := 0) (v := .ref h3) (C := RX0) (T := TX0) (N := 8) hx hb hts (by decide +kernel) hown hK hP 0 rfl rfl 2 (by decide) (hts (.fieldLink RX0 16 "SnapshotPieces$Givers" "asksOf" "[I") (by decide +kernel)) (fun _ h9 => h9) rfl dX0_answers_67 ?_
        refine lv_iload_n hx hb dX0_answers_70 rfl (lv_at hl 2 rfl) ?_
        obtain ⟨g12, h⟩ := kb_e h
        refine va_iald hx hb hK hP 3 0 rfl rfl (ib_in g12) dX0_answers_71 ?_
        refine lv_iconst (v := 2) hx hb dX0_answers_72 (by decide) ?_
        refine lv_irem hx hb dX0_answers_73 (by decide) ?_
        obtain ⟨v13, hv13, h⟩ := bd_e h
        have kxb13 : ∀ (H : Heap) (locs : List Loc) (ls : Array Slot), va_P (dC, dI) vwCl [(h0, .inr (0, [.ref h1, .ref h2, .ref h3, .ref h4, .ref h5, .int s0.2.2.2.2.2.1, .int s0.2.2.2.2.2.2.1, .int (s0.2.2.2.2.2.2.2 + 1)])), (h1, .inl (cI, 12, .inl s0.1)), (h2, .inl (cI, 12, .inl s0.2.1)), (h3, .inl (cI, 12, .inl (upd s0.2.2.1 (Int32.toNatClampNeg x1) ((s0.2.2.1 (Int32.toNatClampNeg x1)) + 1)))), (h4, .inl (cI, 12, .inl s0.2.2.2.1)), (h5, .inl (cI, 12, .inl s0.2.2.2.2.1))] H → va_D A [(h0, .inr (0, [.ref h1, .ref h2, .ref h3, .ref h4, .ref h5, .int s0.2.2.2.2.2.1, .int s0.2.2.2.2.2.2.1, .int (s0.2.2.2.2.2.2.2 + 1)])), (h1, .inl (cI, 12, .inl s0.1)), (h2, .inl (cI, 12, .inl s0.2.1)), (h3, .inl (cI, 12, .inl (upd s0.2.2.1 (Int32.toNatClampNeg x1) ((s0.2.2.1 (Int32.toNatClampNeg x1)) + 1)))), (h4, .inl (cI, 12, .inl s0.2.2.2.1)), (h5, .inl (cI, 12, .inl s0.2.2.2.2.1))] → va_S A s.heap H locs → lv_has ls 5 [(3, .int v6)] → W p l e (headSpec wsX0_answers ({ frames := 1, cells := 0, slots := 0, locals := 21 } : Room)).room s m ([.ref h0, .int x1, .int x2] : List Value).toArray below meth c H locs 0 0 (MQ below (va_Qi (fun (r : Int32) (_ : Unit) => r = u.1) (fun _ t => cB (dC, dI) vwCl (TY cI cJ cZ) A [(h0, .inr (0, [.ref h1, .ref h2, .ref h3, .ref h4, .ref h5, .int u.2.2.2.2.2.2.1, .int u.2.2.2.2.2.2.2.1, .int u.2.2.2.2.2.2.2.2])), (h1, .inl (cI, 12, .inl u.2.1)), (h2, .inl (cI, 12, .inl u.2.2.1)), (h3, .inl (cI, 12, .inl u.2.2.2.1)), (h4, .inl (cI, 12, .inl u.2.2.2.2.1)), (h5, .inl (cI, 12, .inl u.2.2.2.2.2.1))] t) A) ([.ref h0, .int x1, .int x2] : List Value).toArray s 0 0 A) (F0 m 82 ls [.int v13]) := by
          intro H locs ls hP hD hS hl
          obtain rfl := Option.some.inj h
          exact kxb8 _ _ _ hP hD hS (lv_sub hl [0] rfl)
        have h := hv13
        refine lv_if_ne (tgt := 81) hx hb dX0_answers_74 (by decide) (fun c14 => ?_) (fun c14 => ?_)
        · have h := ie_f c14 h
          refine lv_iconst (v := 0) hx hb dX0_answers_81 (by decide) ?_
          obtain rfl := Option.some.inj h
          exact kxb13 _ _ _ hP hD hS (lv_sub hl [0] rfl)
        · have h := ie_t c14 h
          refine lv_iconst (v := 1) hx hb dX0_answers_77 (by decide) ?_
          refine lv_goto (tgt := 82) hx hb dX0_answers_78 (by decide) ?_
          obtain rfl := Option.some.inj h
          exact kxb13 _ _ _ hP hD hS (lv_sub hl [0] rfl)
    have h := hv6
    refine lv_icmp_eq (tgt := 54) hx hb dX0_answers_37 (by decide) (fun c15 => ?_) (fun c15 => ?_)
    · have h := ie_t c15 h
      refine lv_iconst (v := 0) hx hb dX0_answers_54 (by decide) ?_
      obtain rfl := Option.some.inj h
      exact kxb6 _ _ _ hP hD hS (lv_sub hl [0, 1] rfl)
    · have h := ie_f c15 h
      refine lv_aload_n hx hb dX0_answers_40 rfl (lv_at hl 0 rfl) ?_
      refine va_get (D := (dC, dI)) (ci := 0) (v := .ref h2) (C := RX0) (T := TX0) (N := 8) hx hb hts (by decide +kernel) hown hK hP 0 rfl rfl 1 (by decide) (hts (.fieldLink RX0 13 "SnapshotPieces$Givers" "headOf" "[I") (by decide +kernel)) (fun _ h9 => h9) rfl dX0_answers_41 ?_
      refine lv_iload_n hx hb dX0_answers_44 rfl (lv_at hl 1 rfl) ?_
      obtain ⟨g16, h⟩ := kb_e h
      refine va_iald hx hb hK hP 2 0 rfl rfl (ib_in g16) dX0_answers_45 ?_
      refine lv_iload_n hx hb dX0_answers_46 rfl (lv_at hl 2 rfl) ?_
      obtain ⟨v17, hv17, h⟩ := bd_e h
      have kxb17 : ∀ (H : Heap) (locs : List Loc) (ls : Array Slot), va_P (dC, dI) vwCl [(h0, .inr (0, [.ref h1, .ref h2, .ref h3, .ref h4, .ref h5, .int s0.2.2.2.2.2.1, .int s0.2.2.2.2.2.2.1, .int (s0.2.2.2.2.2.2.2 + 1)])), (h1, .inl (cI, 12, .inl s0.1)), (h2, .inl (cI, 12, .inl s0.2.1)), (h3, .inl (cI, 12, .inl (upd s0.2.2.1 (Int32.toNatClampNeg x1) ((s0.2.2.1 (Int32.toNatClampNeg x1)) + 1)))), (h4, .inl (cI, 12, .inl s0.2.2.2.1)), (h5, .inl (cI, 12, .inl s0.2.2.2.2.1))] H → va_D A [(h0, .inr (0, [.ref h1, .ref h2, .ref h3, .ref h4, .ref h5, .int s0.2.2.2.2.2.1, .int s0.2.2.2.2.2.2.1, .int (s0.2.2.2.2.2.2.2 + 1)])), (h1, .inl (cI, 12, .inl s0.1)), (h2, .inl (cI, 12, .inl s0.2.1)), (h3, .inl (cI, 12, .inl (upd s0.2.2.1 (Int32.toNatClampNeg x1) ((s0.2.2.1 (Int32.toNatClampNeg x1)) + 1)))), (h4, .inl (cI, 12, .inl s0.2.2.2.1)), (h5, .inl (cI, 12, .inl s0.2.2.2.2.1))] → va_S A s.heap H locs → lv_has ls 5 [(0, .ref h0), (1, .int x1)] → W p l e (headSpec wsX0_answers ({ frames := 1, cells := 0, slots := 0, locals := 21 } : Room)).room s m ([.ref h0, .int x1, .int x2] : List Value).toArray below meth c H locs 0 0 (MQ below (va_Qi (fun (r : Int32) (_ : Unit) => r = u.1) (fun _ t => cB (dC, dI) vwCl (TY cI cJ cZ) A [(h0, .inr (0, [.ref h1, .ref h2, .ref h3, .ref h4, .ref h5, .int u.2.2.2.2.2.2.1, .int u.2.2.2.2.2.2.2.1, .int u.2.2.2.2.2.2.2.2])), (h1, .inl (cI, 12, .inl u.2.1)), (h2, .inl (cI, 12, .inl u.2.2.1)), (h3, .inl (cI, 12, .inl u.2.2.2.1)), (h4, .inl (cI, 12, .inl u.2.2.2.2.1)), (h5, .inl (cI, 12, .inl u.2.2.2.2.2.1))] t) A) ([.ref h0, .int x1, .int x2] : List Value).toArray s 0 0 A) (F0 m 55 ls [.int v17]) := by
        intro H locs ls hP hD hS hl
        obtain rfl := Option.some.inj h
        exact kxb6 _ _ _ hP hD hS (lv_sub hl [0, 1] rfl)
      have h := hv17
      refine lv_icmp_ge (tgt := 54) hx hb dX0_answers_47 (by decide) (fun c18 => ?_) (fun c18 => ?_)
      · have h := ie_t c18 h
        refine lv_iconst (v := 0) hx hb dX0_answers_54 (by decide) ?_
        obtain rfl := Option.some.inj h
        exact kxb17 _ _ _ hP hD hS (lv_sub hl [0, 1] rfl)
      · have h := ie_f c18 h
        refine lv_iconst (v := 1) hx hb dX0_answers_50 (by decide) ?_
        refine lv_goto (tgt := 55) hx hb dX0_answers_51 (by decide) ?_
        obtain rfl := Option.some.inj h
        exact kxb17 _ _ _ hP hD hS (lv_sub hl [0, 1] rfl)
  · have h := ie_t c2 h
    refine lv_iconst (v := 0) hx hb dX0_answers_8 (by decide) ?_
    obtain rfl := Option.some.inj h
    exact W.zret (v := 0) hx hb hr rfl (fun t ht hW => ⟨⟨_, (), rfl, rfl, by rw [ht]; exact hP, va_K.moved hW.alike hK, hD⟩, hS.F ht⟩) hS.2.2 dX0_answers_9
def f_X0_blame (s0 : S_Givers) (x1 : Int32) : Option (S_Givers) := (f_X0_has s0 x1).bind fun u1 => if u1 = 0 then (some s0) else (kb (ib x1 12) ((if (s0.2.2.2.1 (Int32.toNatClampNeg x1)) = 0 then ((if 12 ≤ s0.2.2.2.2.2.2.1 then (some (s0.2.2.2.2.1, s0.2.2.2.2.2.2.1)) else (kb (ib s0.2.2.2.2.2.2.1 12) (some ((upd s0.2.2.2.2.1 (Int32.toNatClampNeg s0.2.2.2.2.2.2.1) x1), (s0.2.2.2.2.2.2.1 + 1)))) : Option ((Nat → Int32) × Int32)).bind fun v8 => some v8) else (some (s0.2.2.2.2.1, s0.2.2.2.2.2.2.1)) : Option ((Nat → Int32) × Int32)).bind fun v4 => kb (ib x1 12) (kb (ib x1 12) (some (s0.1, s0.2.1, s0.2.2.1, (upd s0.2.2.2.1 (Int32.toNatClampNeg x1) ((s0.2.2.2.1 (Int32.toNatClampNeg x1)) + 1)), v4.1, s0.2.2.2.2.2.1, v4.2, s0.2.2.2.2.2.2.2)))))
set_option maxHeartbeats 4000000 in
set_option maxRecDepth 100000 in
theorem k_X0_blame (l : Launch) (dC : Nat → ClassId) (dI : Nat → Nat → Nat) (cI cJ cZ : ClassId) (h0 h1 h2 h3 h4 h5 : Nat) (s0 : S_Givers) (x1 : Int32) (u : S_Givers) (hf : f_X0_blame s0 x1 = some u) (sz : Nat) : Met l yX0_blame wsX0_blame ({ frames := 1, cells := 0, slots := 0, locals := 21 }) (cPre (dC, dI) vwCl (TY cI cJ cZ) [.ref h0, .int x1] [(h0, .inr (0, [.ref h1, .ref h2, .ref h3, .ref h4, .ref h5, .int s0.2.2.2.2.2.1, .int s0.2.2.2.2.2.2.1, .int s0.2.2.2.2.2.2.2])), (h1, .inl (cI, 12, .inl s0.1)), (h2, .inl (cI, 12, .inl s0.2.1)), (h3, .inl (cI, 12, .inl s0.2.2.1)), (h4, .inl (cI, 12, .inl s0.2.2.2.1)), (h5, .inl (cI, 12, .inl s0.2.2.2.2.1))] sz) (va_Qv (fun (_ : Unit) => True) (fun _ t => cB (dC, dI) vwCl (TY cI cJ cZ) (va_A [(h0, .inr (0, [.ref h1, .ref h2, .ref h3, .ref h4, .ref h5, .int s0.2.2.2.2.2.1, .int s0.2.2.2.2.2.2.1, .int s0.2.2.2.2.2.2.2])), (h1, .inl (cI, 12, .inl s0.1)), (h2, .inl (cI, 12, .inl s0.2.1)), (h3, .inl (cI, 12, .inl s0.2.2.1)), (h4, .inl (cI, 12, .inl s0.2.2.2.1)), (h5, .inl (cI, 12, .inl s0.2.2.2.2.1))] sz) [(h0, .inr (0, [.ref h1, .ref h2, .ref h3, .ref h4, .ref h5, .int u.2.2.2.2.2.1, .int u.2.2.2.2.2.2.1, .int u.2.2.2.2.2.2.2])), (h1, .inl (cI, 12, .inl u.1)), (h2, .inl (cI, 12, .inl u.2.1)), (h3, .inl (cI, 12, .inl u.2.2.1)), (h4, .inl (cI, 12, .inl u.2.2.2.1)), (h5, .inl (cI, 12, .inl u.2.2.2.2.1))] t) (va_A [(h0, .inr (0, [.ref h1, .ref h2, .ref h3, .ref h4, .ref h5, .int s0.2.2.2.2.2.1, .int s0.2.2.2.2.2.2.1, .int s0.2.2.2.2.2.2.2])), (h1, .inl (cI, 12, .inl s0.1)), (h2, .inl (cI, 12, .inl s0.2.1)), (h3, .inl (cI, 12, .inl s0.2.2.1)), (h4, .inl (cI, 12, .inl s0.2.2.2.1)), (h5, .inl (cI, 12, .inl s0.2.2.2.2.1))] sz)) 0 0 (va_A [(h0, .inr (0, [.ref h1, .ref h2, .ref h3, .ref h4, .ref h5, .int s0.2.2.2.2.2.1, .int s0.2.2.2.2.2.2.1, .int s0.2.2.2.2.2.2.2])), (h1, .inl (cI, 12, .inl s0.1)), (h2, .inl (cI, 12, .inl s0.2.1)), (h3, .inl (cI, 12, .inl s0.2.2.1)), (h4, .inl (cI, 12, .inl s0.2.2.2.1)), (h5, .inl (cI, 12, .inl s0.2.2.2.2.1))] sz) := by
  refine Met.ofW (cc := cX0_blame) (maxL := 2) (ret := none) (by decide) rfl ?_
  intro p e s m args below meth c s₁ B hml hv
  obtain ⟨rfl, hsz, hP, hK, hD0⟩ := hv
  have hx := B.exec
  have hb := B.bytes
  have hr := B.returns
  have hts := atoms_spec (ws := wsX0_blame) B.pre
  have hown : s.vm.findClass RX0 = some m.cls := findClass_of_methodNamed B.named
  have hlocks := B.notSynchronized
  subst hsz
  have hD := hD0.self (sz := s.heap.size)
  generalize hAe : va_A [(h0, .inr (0, [.ref h1, .ref h2, .ref h3, .ref h4, .ref h5, .int s0.2.2.2.2.2.1, .int s0.2.2.2.2.2.2.1, .int s0.2.2.2.2.2.2.2])), (h1, .inl (cI, 12, .inl s0.1)), (h2, .inl (cI, 12, .inl s0.2.1)), (h3, .inl (cI, 12, .inl s0.2.2.1)), (h4, .inl (cI, 12, .inl s0.2.2.2.1)), (h5, .inl (cI, 12, .inl s0.2.2.2.2.1))] s.heap.size = A at hD ⊢
  have hA : ∀ q : Nat, s.heap.size ≤ q → A q := fun q h => by rw [← hAe]; exact Or.inr h
  have hS : va_S A s.heap s.heap [] := va_S.rf
  have hl := lv_entry ([.ref h0, .int x1]) (n := 2) (Nat.le_of_ble_eq_true rfl)
  rw [lg_entry_eq]
  generalize (lg_sl ([.ref h0, .int x1]) ++ List.replicate (2 - (lg_sl ([.ref h0, .int x1])).length) Slot.unset).toArray = ls at hl ⊢
  have hl : lv_has ls 2 [(0, .ref h0), (1, .int x1)] := hl
  have h := hf
  unfold f_X0_blame at h
  refine lv_aload_n hx hb dX0_blame_0 rfl (lv_at hl 0 rfl) ?_
  refine lv_iload_n hx hb dX0_blame_1 rfl (lv_at hl 1 rfl) ?_
  obtain ⟨u1, hc1, h⟩ := bd_e h
  refine cc_i (tys := TY cI cJ cZ) [(h0, .inr (0, [.ref h1, .ref h2, .ref h3, .ref h4, .ref h5, .int s0.2.2.2.2.2.1, .int s0.2.2.2.2.2.2.1, .int s0.2.2.2.2.2.2.2])), (h1, .inl (cI, 12, .inl s0.1)), (h2, .inl (cI, 12, .inl s0.2.1)), (h3, .inl (cI, 12, .inl s0.2.2.1)), (h4, .inl (cI, 12, .inl s0.2.2.2.1)), (h5, .inl (cI, 12, .inl s0.2.2.2.2.1))] ([] : va_W) [(h0, .inr (0, [.ref h1, .ref h2, .ref h3, .ref h4, .ref h5, .int s0.2.2.2.2.2.1, .int s0.2.2.2.2.2.2.1, .int s0.2.2.2.2.2.2.2])), (h1, .inl (cI, 12, .inl s0.1)), (h2, .inl (cI, 12, .inl s0.2.1)), (h3, .inl (cI, 12, .inl s0.2.2.1)), (h4, .inl (cI, 12, .inl s0.2.2.2.1)), (h5, .inl (cI, 12, .inl s0.2.2.2.2.1))] [(h0, .inr (0, [.ref h1, .ref h2, .ref h3, .ref h4, .ref h5, .int s0.2.2.2.2.2.1, .int s0.2.2.2.2.2.2.1, .int s0.2.2.2.2.2.2.2])), (h1, .inl (cI, 12, .inl s0.1)), (h2, .inl (cI, 12, .inl s0.2.1)), (h3, .inl (cI, 12, .inl s0.2.2.1)), (h4, .inl (cI, 12, .inl s0.2.2.2.1)), (h5, .inl (cI, 12, .inl s0.2.2.2.2.1))] hP hD hS hA [0, 1, 2, 3, 4, 5] [] [0, 1, 2, 3, 4, 5] rfl rfl (by decide) (by decide) rfl (by decide) rfl (va_runV (As := [.int x1]) (rest := []) ⟨hx, hb, hml, hown, hts⟩ (k_X0_has l dC dI cI cJ cZ h0 h1 h2 h3 h4 h5 s0 x1 u1 hc1 _) (cwV 1 hts gX0_blame_X0_has rfl rfl rfl (by decide +kernel) ⟨Nat.le_of_ble_eq_true rfl, Nat.le_of_ble_eq_true rfl⟩) ⟨cPre_blind, va_recv hK hP (ci := 0) (q0 := 0) rfl rfl, cPre_in hP hD hK [0, 1, 2, 3, 4, 5] rfl (by decide) rfl⟩ rfl rfl hl.1 rfl (lv_room (Nat.le_of_ble_eq_true rfl)) dX0_blame_2 ⟨Nat.le_of_ble_eq_true rfl, Nat.le_of_ble_eq_true rfl⟩) (fun H locs hP hD hS => ?_)
  refine lv_if_ne (tgt := 9) hx hb dX0_blame_5 (by decide) (fun c2 => ?_) (fun c2 => ?_)
  · have h := ie_f c2 h
    refine lv_aload_n hx hb dX0_blame_9 rfl (lv_at hl 0 rfl) ?_
    refine va_get (D := (dC, dI)) (ci := 0) (v := .ref h4) (C := RX0) (T := TX0) (N := 8) hx hb hts (by decide +kernel) hown hK hP 0 rfl rfl 3 (by decide) (hts (.fieldLink RX0 19 "SnapshotPieces$Givers" "faultsOf" "[I") (by decide +kernel)) (fun _ h9 => h9) rfl dX0_blame_10 ?_
    refine lv_iload_n hx hb dX0_blame_13 rfl (lv_at hl 1 rfl) ?_
    obtain ⟨g3, h⟩ := kb_e h
    refine va_iald hx hb hK hP 4 0 rfl rfl (ib_in g3) dX0_blame_14 ?_
    obtain ⟨v4, hv4, h⟩ := bd_e h
    have kxb4 : ∀ (H : Heap) (locs : List Loc) (ls : Array Slot), va_P (dC, dI) vwCl [(h0, .inr (0, [.ref h1, .ref h2, .ref h3, .ref h4, .ref h5, .int s0.2.2.2.2.2.1, .int v4.2, .int s0.2.2.2.2.2.2.2])), (h1, .inl (cI, 12, .inl s0.1)), (h2, .inl (cI, 12, .inl s0.2.1)), (h3, .inl (cI, 12, .inl s0.2.2.1)), (h4, .inl (cI, 12, .inl s0.2.2.2.1)), (h5, .inl (cI, 12, .inl v4.1))] H → va_D A [(h0, .inr (0, [.ref h1, .ref h2, .ref h3, .ref h4, .ref h5, .int s0.2.2.2.2.2.1, .int v4.2, .int s0.2.2.2.2.2.2.2])), (h1, .inl (cI, 12, .inl s0.1)), (h2, .inl (cI, 12, .inl s0.2.1)), (h3, .inl (cI, 12, .inl s0.2.2.1)), (h4, .inl (cI, 12, .inl s0.2.2.2.1)), (h5, .inl (cI, 12, .inl v4.1))] → va_S A s.heap H locs → lv_has ls 2 [(0, .ref h0), (1, .int x1)] → W p l e (headSpec wsX0_blame ({ frames := 1, cells := 0, slots := 0, locals := 21 } : Room)).room s m ([.ref h0, .int x1] : List Value).toArray below meth c H locs 0 0 (MQ below (va_Qv (fun (_ : Unit) => True) (fun _ t => cB (dC, dI) vwCl (TY cI cJ cZ) A [(h0, .inr (0, [.ref h1, .ref h2, .ref h3, .ref h4, .ref h5, .int u.2.2.2.2.2.1, .int u.2.2.2.2.2.2.1, .int u.2.2.2.2.2.2.2])), (h1, .inl (cI, 12, .inl u.1)), (h2, .inl (cI, 12, .inl u.2.1)), (h3, .inl (cI, 12, .inl u.2.2.1)), (h4, .inl (cI, 12, .inl u.2.2.2.1)), (h5, .inl (cI, 12, .inl u.2.2.2.2.1))] t) A) ([.ref h0, .int x1] : List Value).toArray s 0 0 A) (F0 m 47 ls []) := by
      intro H locs ls hP hD hS hl
      refine lv_aload_n hx hb dX0_blame_47 rfl (lv_at hl 0 rfl) ?_
      refine va_get (D := (dC, dI)) (ci := 0) (v := .ref h4) (C := RX0) (T := TX0) (N := 8) hx hb hts (by decide +kernel) hown hK hP 0 rfl rfl 3 (by decide) (hts (.fieldLink RX0 19 "SnapshotPieces$Givers" "faultsOf" "[I") (by decide +kernel)) (fun _ h9 => h9) rfl dX0_blame_48 ?_
      refine lv_iload_n hx hb dX0_blame_51 rfl (lv_at hl 1 rfl) ?_
      refine lv_dup2_11 hx hb dX0_blame_52 rfl rfl ?_
      obtain ⟨g5, h⟩ := kb_e h
      refine va_iald hx hb hK hP 4 0 rfl rfl (ib_in g5) dX0_blame_53 ?_
      refine lv_iconst (v := 1) hx hb dX0_blame_54 (by decide) ?_
      refine lv_iadd hx hb dX0_blame_55 ?_
      obtain ⟨g6, h⟩ := kb_e h
      refine va_iast hx hb hK hP hD hS 4 0 rfl rfl (ib_in g6) dX0_blame_56 (fun H locs hP hD hS => ?_)
      have hP : va_P (dC, dI) vwCl [(h0, .inr (0, [.ref h1, .ref h2, .ref h3, .ref h4, .ref h5, .int s0.2.2.2.2.2.1, .int v4.2, .int s0.2.2.2.2.2.2.2])), (h1, .inl (cI, 12, .inl s0.1)), (h2, .inl (cI, 12, .inl s0.2.1)), (h3, .inl (cI, 12, .inl s0.2.2.1)), (h4, .inl (cI, 12, .inl (upd s0.2.2.2.1 (Int32.toNatClampNeg x1) ((s0.2.2.2.1 (Int32.toNatClampNeg x1)) + 1)))), (h5, .inl (cI, 12, .inl v4.1))] H := hP
      have hD : va_D A [(h0, .inr (0, [.ref h1, .ref h2, .ref h3, .ref h4, .ref h5, .int s0.2.2.2.2.2.1, .int v4.2, .int s0.2.2.2.2.2.2.2])), (h1, .inl (cI, 12, .inl s0.1)), (h2, .inl (cI, 12, .inl s0.2.1)), (h3, .inl (cI, 12, .inl s0.2.2.1)), (h4, .inl (cI, 12, .inl (upd s0.2.2.2.1 (Int32.toNatClampNeg x1) ((s0.2.2.2.1 (Int32.toNatClampNeg x1)) + 1)))), (h5, .inl (cI, 12, .inl v4.1))] := hD
      obtain rfl := Option.some.inj h
      exact W.vret hx hb hr (fun t ht hW => ⟨⟨(), rfl, trivial, by rw [ht]; exact hP, va_K.moved hW.alike hK, hD⟩, hS.F ht⟩) hS.2.2 dX0_blame_57
    have h := hv4
    refine lv_if_ne (tgt := 47) hx hb dX0_blame_15 (by decide) (fun c7 => ?_) (fun c7 => ?_)
    · have h := ie_f c7 h
      obtain rfl := Option.some.inj h
      exact kxb4 _ _ _ hP hD hS (lv_sub hl [0, 1] rfl)
    · have h := ie_t c7 h
      refine lv_aload_n hx hb dX0_blame_18 rfl (lv_at hl 0 rfl) ?_
      refine va_get (D := (dC, dI)) (ci := 0) (v := .int s0.2.2.2.2.2.2.1) (C := RX0) (T := TX0) (N := 8) hx hb hts (by decide +kernel) hown hK hP 0 rfl rfl 6 (by decide) (hts (.fieldLink RX0 29 "SnapshotPieces$Givers" "namedSize" "I") (by decide +kernel)) (fun _ h9 => h9) rfl dX0_blame_19 ?_
      refine lv_bipush (v := 12) hx hb dX0_blame_22 (by decide) ?_
      obtain ⟨v8, hv8, h⟩ := bd_e h
      have kxb8 : ∀ (H : Heap) (locs : List Loc) (ls : Array Slot), va_P (dC, dI) vwCl [(h0, .inr (0, [.ref h1, .ref h2, .ref h3, .ref h4, .ref h5, .int s0.2.2.2.2.2.1, .int v8.2, .int s0.2.2.2.2.2.2.2])), (h1, .inl (cI, 12, .inl s0.1)), (h2, .inl (cI, 12, .inl s0.2.1)), (h3, .inl (cI, 12, .inl s0.2.2.1)), (h4, .inl (cI, 12, .inl s0.2.2.2.1)), (h5, .inl (cI, 12, .inl v8.1))] H → va_D A [(h0, .inr (0, [.ref h1, .ref h2, .ref h3, .ref h4, .ref h5, .int s0.2.2.2.2.2.1, .int v8.2, .int s0.2.2.2.2.2.2.2])), (h1, .inl (cI, 12, .inl s0.1)), (h2, .inl (cI, 12, .inl s0.2.1)), (h3, .inl (cI, 12, .inl s0.2.2.1)), (h4, .inl (cI, 12, .inl s0.2.2.2.1)), (h5, .inl (cI, 12, .inl v8.1))] → va_S A s.heap H locs → lv_has ls 2 [(0, .ref h0), (1, .int x1)] → W p l e (headSpec wsX0_blame ({ frames := 1, cells := 0, slots := 0, locals := 21 } : Room)).room s m ([.ref h0, .int x1] : List Value).toArray below meth c H locs 0 0 (MQ below (va_Qv (fun (_ : Unit) => True) (fun _ t => cB (dC, dI) vwCl (TY cI cJ cZ) A [(h0, .inr (0, [.ref h1, .ref h2, .ref h3, .ref h4, .ref h5, .int u.2.2.2.2.2.1, .int u.2.2.2.2.2.2.1, .int u.2.2.2.2.2.2.2])), (h1, .inl (cI, 12, .inl u.1)), (h2, .inl (cI, 12, .inl u.2.1)), (h3, .inl (cI, 12, .inl u.2.2.1)), (h4, .inl (cI, 12, .inl u.2.2.2.1)), (h5, .inl (cI, 12, .inl u.2.2.2.2.1))] t) A) ([.ref h0, .int x1] : List Value).toArray s 0 0 A) (F0 m 47 ls []) := by
        intro H locs ls hP hD hS hl
        obtain rfl := Option.some.inj h
        exact kxb4 _ _ _ hP hD hS (lv_sub hl [0, 1] rfl)
      have h := hv8
      refine lv_icmp_ge (tgt := 47) hx hb dX0_blame_24 (by decide) (fun c9 => ?_) (fun c9 => ?_)
      · have h := ie_t c9 h
        obtain rfl := Option.some.inj h
        exact kxb8 _ _ _ hP hD hS (lv_sub hl [0, 1] rfl)
      · have h := ie_f c9 h
        refine lv_aload_n hx hb dX0_blame_27 rfl (lv_at hl 0 rfl) ?_
        refine va_get (D := (dC, dI)) (ci := 0) (v := .ref h5) (C := RX0) (T := TX0) (N := 8) hx hb hts (by decide +kernel) hown hK hP 0 rfl rfl 4 (by decide) (hts (.fieldLink RX0 22 "SnapshotPieces$Givers" "namedRow" "[I") (by decide +kernel)) (fun _ h9 => h9) rfl dX0_blame_28 ?_
        refine lv_aload_n hx hb dX0_blame_31 rfl (lv_at hl 0 rfl) ?_
        refine va_get (D := (dC, dI)) (ci := 0) (v := .int s0.2.2.2.2.2.2.1) (C := RX0) (T := TX0) (N := 8) hx hb hts (by decide +kernel) hown hK hP 0 rfl rfl 6 (by decide) (hts (.fieldLink RX0 29 "SnapshotPieces$Givers" "namedSize" "I") (by decide +kernel)) (fun _ h9 => h9) rfl dX0_blame_32 ?_
        refine lv_iload_n hx hb dX0_blame_35 rfl (lv_at hl 1 rfl) ?_
        obtain ⟨g10, h⟩ := kb_e h
        refine va_iast hx hb hK hP hD hS 5 0 rfl rfl (ib_in g10) dX0_blame_36 (fun H locs hP hD hS => ?_)
        have hP : va_P (dC, dI) vwCl [(h0, .inr (0, [.ref h1, .ref h2, .ref h3, .ref h4, .ref h5, .int s0.2.2.2.2.2.1, .int s0.2.2.2.2.2.2.1, .int s0.2.2.2.2.2.2.2])), (h1, .inl (cI, 12, .inl s0.1)), (h2, .inl (cI, 12, .inl s0.2.1)), (h3, .inl (cI, 12, .inl s0.2.2.1)), (h4, .inl (cI, 12, .inl s0.2.2.2.1)), (h5, .inl (cI, 12, .inl (upd s0.2.2.2.2.1 (Int32.toNatClampNeg s0.2.2.2.2.2.2.1) x1)))] H := hP
        have hD : va_D A [(h0, .inr (0, [.ref h1, .ref h2, .ref h3, .ref h4, .ref h5, .int s0.2.2.2.2.2.1, .int s0.2.2.2.2.2.2.1, .int s0.2.2.2.2.2.2.2])), (h1, .inl (cI, 12, .inl s0.1)), (h2, .inl (cI, 12, .inl s0.2.1)), (h3, .inl (cI, 12, .inl s0.2.2.1)), (h4, .inl (cI, 12, .inl s0.2.2.2.1)), (h5, .inl (cI, 12, .inl (upd s0.2.2.2.2.1 (Int32.toNatClampNeg s0.2.2.2.2.2.2.1) x1)))] := hD
        refine lv_aload_n hx hb dX0_blame_37 rfl (lv_at hl 0 rfl) ?_
        refine lv_dup hx hb dX0_blame_38 rfl ?_
        refine va_get (D := (dC, dI)) (ci := 0) (v := .int s0.2.2.2.2.2.2.1) (C := RX0) (T := TX0) (N := 8) hx hb hts (by decide +kernel) hown hK hP 0 rfl rfl 6 (by decide) (hts (.fieldLink RX0 29 "SnapshotPieces$Givers" "namedSize" "I") (by decide +kernel)) (fun _ h9 => h9) rfl dX0_blame_39 ?_
        refine lv_iconst (v := 1) hx hb dX0_blame_42 (by decide) ?_
        refine lv_iadd hx hb dX0_blame_43 ?_
        refine va_put (D := (dC, dI)) (ci := 0) (v := .int (s0.2.2.2.2.2.2.1 + 1)) (ty := .int) (C := RX0) (T := TX0) (N := 8) hx hb hts (by decide +kernel) tyX0 tyX0_ok nmX0 hown hK hP hD hS 0 rfl rfl 6 (by decide) (hts (.fieldLink RX0 29 "SnapshotPieces$Givers" "namedSize" "I") (by decide +kernel)) (fun _ h9 => h9) rfl (by decide +kernel) rfl rfl (Nat.le_of_ble_eq_true rfl) dX0_blame_44 (fun H locs hP hD hS => ?_)
        have hP : va_P (dC, dI) vwCl [(h0, .inr (0, [.ref h1, .ref h2, .ref h3, .ref h4, .ref h5, .int s0.2.2.2.2.2.1, .int (s0.2.2.2.2.2.2.1 + 1), .int s0.2.2.2.2.2.2.2])), (h1, .inl (cI, 12, .inl s0.1)), (h2, .inl (cI, 12, .inl s0.2.1)), (h3, .inl (cI, 12, .inl s0.2.2.1)), (h4, .inl (cI, 12, .inl s0.2.2.2.1)), (h5, .inl (cI, 12, .inl (upd s0.2.2.2.2.1 (Int32.toNatClampNeg s0.2.2.2.2.2.2.1) x1)))] H := hP
        have hD : va_D A [(h0, .inr (0, [.ref h1, .ref h2, .ref h3, .ref h4, .ref h5, .int s0.2.2.2.2.2.1, .int (s0.2.2.2.2.2.2.1 + 1), .int s0.2.2.2.2.2.2.2])), (h1, .inl (cI, 12, .inl s0.1)), (h2, .inl (cI, 12, .inl s0.2.1)), (h3, .inl (cI, 12, .inl s0.2.2.1)), (h4, .inl (cI, 12, .inl s0.2.2.2.1)), (h5, .inl (cI, 12, .inl (upd s0.2.2.2.2.1 (Int32.toNatClampNeg s0.2.2.2.2.2.2.1) x1)))] := hD
        obtain rfl := Option.some.inj h
        exact kxb8 _ _ _ hP hD hS (lv_sub hl [0, 1] rfl)
  · have h := ie_t c2 h
    obtain rfl := Option.some.inj h
    exact W.vret hx hb hr (fun t ht hW => ⟨⟨(), rfl, trivial, by rw [ht]; exact hP, va_K.moved hW.alike hK, hD⟩, hS.F ht⟩) hS.2.2 dX0_blame_8
def f_X3_hasHeight (s0 : S_Source) (x1 : Int32) : Option (Int32) := if x1 < 0 then (some 0) else (if s0.2.2 < x1 then (some 0) else (some 1))
set_option maxHeartbeats 4000000 in
set_option maxRecDepth 100000 in
theorem k_X3_hasHeight (l : Launch) (dC : Nat → ClassId) (dI : Nat → Nat → Nat) (cI cJ cZ : ClassId) (h0 h1 h2 : Nat) (s0 : S_Source) (x1 : Int32) (u : Int32) (hf : f_X3_hasHeight s0 x1 = some u) (sz : Nat) : Met l yX3_hasHeight wsX3_hasHeight ({ frames := 0, cells := 0, slots := 0, locals := 0 }) (cPre (dC, dI) vwCl (TY cI cJ cZ) [.ref h0, .int x1] [(h0, .inr (3, [.ref h1, .ref h2, .int s0.2.2])), (h1, .inl (cI, 201, .inl s0.1)), (h2, .inl (cJ, 201, .inr (.inl s0.2.1)))] sz) (va_Qi (fun (r : Int32) (_ : Unit) => r = u) (fun _ t => cB (dC, dI) vwCl (TY cI cJ cZ) (va_A [(h0, .inr (3, [.ref h1, .ref h2, .int s0.2.2])), (h1, .inl (cI, 201, .inl s0.1)), (h2, .inl (cJ, 201, .inr (.inl s0.2.1)))] sz) [(h0, .inr (3, [.ref h1, .ref h2, .int s0.2.2])), (h1, .inl (cI, 201, .inl s0.1)), (h2, .inl (cJ, 201, .inr (.inl s0.2.1)))] t) (va_A [(h0, .inr (3, [.ref h1, .ref h2, .int s0.2.2])), (h1, .inl (cI, 201, .inl s0.1)), (h2, .inl (cJ, 201, .inr (.inl s0.2.1)))] sz)) 0 0 (va_A [(h0, .inr (3, [.ref h1, .ref h2, .int s0.2.2])), (h1, .inl (cI, 201, .inl s0.1)), (h2, .inl (cJ, 201, .inr (.inl s0.2.1)))] sz) := by
  refine Met.ofW (cc := cX3_hasHeight) (maxL := 2) (ret := (some .boolean)) (by decide) rfl ?_
  intro p e s m args below meth c s₁ B hml hv
  obtain ⟨rfl, hsz, hP, hK, hD0⟩ := hv
  have hx := B.exec
  have hb := B.bytes
  have hr := B.returns
  have hts := atoms_spec (ws := wsX3_hasHeight) B.pre
  have hown : s.vm.findClass RX3 = some m.cls := findClass_of_methodNamed B.named
  have hlocks := B.notSynchronized
  subst hsz
  have hD := hD0.self (sz := s.heap.size)
  generalize hAe : va_A [(h0, .inr (3, [.ref h1, .ref h2, .int s0.2.2])), (h1, .inl (cI, 201, .inl s0.1)), (h2, .inl (cJ, 201, .inr (.inl s0.2.1)))] s.heap.size = A at hD ⊢
  have hA : ∀ q : Nat, s.heap.size ≤ q → A q := fun q h => by rw [← hAe]; exact Or.inr h
  have hS : va_S A s.heap s.heap [] := va_S.rf
  have hl := lv_entry ([.ref h0, .int x1]) (n := 2) (Nat.le_of_ble_eq_true rfl)
  rw [lg_entry_eq]
  generalize (lg_sl ([.ref h0, .int x1]) ++ List.replicate (2 - (lg_sl ([.ref h0, .int x1])).length) Slot.unset).toArray = ls at hl ⊢
  have hl : lv_has ls 2 [(0, .ref h0), (1, .int x1)] := hl
  have h := hf
  unfold f_X3_hasHeight at h
  refine lv_iload_n hx hb dX3_hasHeight_0 rfl (lv_at hl 1 rfl) ?_
  refine lv_if_lt (tgt := 16) hx hb dX3_hasHeight_1 (by decide) (fun c1 => ?_) (fun c1 => ?_)
  · have h := ie_t c1 h
    refine lv_iconst (v := 0) hx hb dX3_hasHeight_16 (by decide) ?_
    obtain rfl := Option.some.inj h
    exact W.zret (v := 0) hx hb hr rfl (fun t ht hW => ⟨⟨_, (), rfl, rfl, by rw [ht]; exact hP, va_K.moved hW.alike hK, hD⟩, hS.F ht⟩) hS.2.2 dX3_hasHeight_17
  · have h := ie_f c1 h
    refine lv_iload_n hx hb dX3_hasHeight_4 rfl (lv_at hl 1 rfl) ?_
    refine lv_aload_n hx hb dX3_hasHeight_5 rfl (lv_at hl 0 rfl) ?_
    refine va_get (D := (dC, dI)) (ci := 3) (v := .int s0.2.2) (C := RX3) (T := TX3) (N := 3) hx hb hts (by decide +kernel) hown hK hP 0 rfl rfl 2 (by decide) (hts (.fieldLink RX3 19 "SnapshotPieces$Source" "top" "I") (by decide +kernel)) (fun _ h9 => h9) rfl dX3_hasHeight_6 ?_
    refine lv_icmp_gt (tgt := 16) hx hb dX3_hasHeight_9 (by decide) (fun c2 => ?_) (fun c2 => ?_)
    · have h := ie_t c2 h
      refine lv_iconst (v := 0) hx hb dX3_hasHeight_16 (by decide) ?_
      obtain rfl := Option.some.inj h
      exact W.zret (v := 0) hx hb hr rfl (fun t ht hW => ⟨⟨_, (), rfl, rfl, by rw [ht]; exact hP, va_K.moved hW.alike hK, hD⟩, hS.F ht⟩) hS.2.2 dX3_hasHeight_17
    · have h := ie_f c2 h
      refine lv_iconst (v := 1) hx hb dX3_hasHeight_12 (by decide) ?_
      refine lv_goto (tgt := 17) hx hb dX3_hasHeight_13 (by decide) ?_
      obtain rfl := Option.some.inj h
      exact W.zret (v := 1) hx hb hr rfl (fun t ht hW => ⟨⟨_, (), rfl, rfl, by rw [ht]; exact hP, va_K.moved hW.alike hK, hD⟩, hS.F ht⟩) hS.2.2 dX3_hasHeight_17
def f_X3_append (s0 : S_Source) (x1 : Int32) (x2 : Int64) : Option (Int32 × S_Source) := if s0.2.2 < 200 then (kb (ib (s0.2.2 + 1) 201) (kb (ib (s0.2.2 + 1) 201) (some (1, ((upd s0.1 (Int32.toNatClampNeg (s0.2.2 + 1)) x1), (vp_updL s0.2.1 (Int32.toNatClampNeg (s0.2.2 + 1)) x2), (s0.2.2 + 1)))))) else (some (0, s0))
set_option maxHeartbeats 4000000 in
set_option maxRecDepth 100000 in
theorem k_X3_append (l : Launch) (dC : Nat → ClassId) (dI : Nat → Nat → Nat) (cI cJ cZ : ClassId) (h0 h1 h2 : Nat) (s0 : S_Source) (x1 : Int32) (x2 : Int64) (u : Int32 × S_Source) (hf : f_X3_append s0 x1 x2 = some u) (sz : Nat) : Met l yX3_append wsX3_append ({ frames := 0, cells := 0, slots := 0, locals := 0 }) (cPre (dC, dI) vwCl (TY cI cJ cZ) [.ref h0, .int x1, .long x2] [(h0, .inr (3, [.ref h1, .ref h2, .int s0.2.2])), (h1, .inl (cI, 201, .inl s0.1)), (h2, .inl (cJ, 201, .inr (.inl s0.2.1)))] sz) (va_Qi (fun (r : Int32) (_ : Unit) => r = u.1) (fun _ t => cB (dC, dI) vwCl (TY cI cJ cZ) (va_A [(h0, .inr (3, [.ref h1, .ref h2, .int s0.2.2])), (h1, .inl (cI, 201, .inl s0.1)), (h2, .inl (cJ, 201, .inr (.inl s0.2.1)))] sz) [(h0, .inr (3, [.ref h1, .ref h2, .int u.2.2.2])), (h1, .inl (cI, 201, .inl u.2.1)), (h2, .inl (cJ, 201, .inr (.inl u.2.2.1)))] t) (va_A [(h0, .inr (3, [.ref h1, .ref h2, .int s0.2.2])), (h1, .inl (cI, 201, .inl s0.1)), (h2, .inl (cJ, 201, .inr (.inl s0.2.1)))] sz)) 0 0 (va_A [(h0, .inr (3, [.ref h1, .ref h2, .int s0.2.2])), (h1, .inl (cI, 201, .inl s0.1)), (h2, .inl (cJ, 201, .inr (.inl s0.2.1)))] sz) := by
  refine Met.ofW (cc := cX3_append) (maxL := 4) (ret := (some .boolean)) (by decide) rfl ?_
  intro p e s m args below meth c s₁ B hml hv
  obtain ⟨rfl, hsz, hP, hK, hD0⟩ := hv
  have hx := B.exec
  have hb := B.bytes
  have hr := B.returns
  have hts := atoms_spec (ws := wsX3_append) B.pre
  have hown : s.vm.findClass RX3 = some m.cls := findClass_of_methodNamed B.named
  have hlocks := B.notSynchronized
  subst hsz
  have hD := hD0.self (sz := s.heap.size)
  generalize hAe : va_A [(h0, .inr (3, [.ref h1, .ref h2, .int s0.2.2])), (h1, .inl (cI, 201, .inl s0.1)), (h2, .inl (cJ, 201, .inr (.inl s0.2.1)))] s.heap.size = A at hD ⊢
  have hA : ∀ q : Nat, s.heap.size ≤ q → A q := fun q h => by rw [← hAe]; exact Or.inr h
  have hS : va_S A s.heap s.heap [] := va_S.rf
  have hl := lv_entry ([.ref h0, .int x1, .long x2]) (n := 4) (Nat.le_of_ble_eq_true rfl)
  rw [lg_entry_eq]
  generalize (lg_sl ([.ref h0, .int x1, .long x2]) ++ List.replicate (4 - (lg_sl ([.ref h0, .int x1, .long x2])).length) Slot.unset).toArray = ls at hl ⊢
  have hl : lv_has ls 4 [(0, .ref h0), (1, .int x1), (2, .long x2)] := hl
  have h := hf
  unfold f_X3_append at h
  refine lv_aload_n hx hb dX3_append_0 rfl (lv_at hl 0 rfl) ?_
  refine va_get (D := (dC, dI)) (ci := 3) (v := .int s0.2.2) (C := RX3) (T := TX3) (N := 3) hx hb hts (by decide +kernel) hown hK hP 0 rfl rfl 2 (by decide) (hts (.fieldLink RX3 19 "SnapshotPieces$Source" "top" "I") (by decide +kernel)) (fun _ h9 => h9) rfl dX3_append_1 ?_
  refine lv_sipush (v := 200) hx hb dX3_append_4 (by decide) ?_
  refine lv_icmp_lt (tgt := 12) hx hb dX3_append_7 (by decide) (fun c1 => ?_) (fun c1 => ?_)
  · have h := ie_t c1 h
    refine lv_aload_n hx hb dX3_append_12 rfl (lv_at hl 0 rfl) ?_
    refine lv_dup hx hb dX3_append_13 rfl ?_
    refine va_get (D := (dC, dI)) (ci := 3) (v := .int s0.2.2) (C := RX3) (T := TX3) (N := 3) hx hb hts (by decide +kernel) hown hK hP 0 rfl rfl 2 (by decide) (hts (.fieldLink RX3 19 "SnapshotPieces$Source" "top" "I") (by decide +kernel)) (fun _ h9 => h9) rfl dX3_append_14 ?_
    refine lv_iconst (v := 1) hx hb dX3_append_17 (by decide) ?_
    refine lv_iadd hx hb dX3_append_18 ?_
    refine va_put (D := (dC, dI)) (ci := 3) (v := .int (s0.2.2 + 1)) (ty := .int) (C := RX3) (T := TX3) (N := 3) hx hb hts (by decide +kernel) tyX3 tyX3_ok nmX3 hown hK hP hD hS 0 rfl rfl 2 (by decide) (hts (.fieldLink RX3 19 "SnapshotPieces$Source" "top" "I") (by decide +kernel)) (fun _ h9 => h9) rfl (by decide +kernel) rfl rfl (Nat.le_of_ble_eq_true rfl) dX3_append_19 (fun H locs hP hD hS => ?_)
    have hP : va_P (dC, dI) vwCl [(h0, .inr (3, [.ref h1, .ref h2, .int (s0.2.2 + 1)])), (h1, .inl (cI, 201, .inl s0.1)), (h2, .inl (cJ, 201, .inr (.inl s0.2.1)))] H := hP
    have hD : va_D A [(h0, .inr (3, [.ref h1, .ref h2, .int (s0.2.2 + 1)])), (h1, .inl (cI, 201, .inl s0.1)), (h2, .inl (cJ, 201, .inr (.inl s0.2.1)))] := hD
    refine lv_aload_n hx hb dX3_append_22 rfl (lv_at hl 0 rfl) ?_
    refine va_get (D := (dC, dI)) (ci := 3) (v := .ref h1) (C := RX3) (T := TX3) (N := 3) hx hb hts (by decide +kernel) hown hK hP 0 rfl rfl 0 (by decide) (hts (.fieldLink RX3 9 "SnapshotPieces$Source" "paths" "[I") (by decide +kernel)) (fun _ h9 => h9) rfl dX3_append_23 ?_
    refine lv_aload_n hx hb dX3_append_26 rfl (lv_at hl 0 rfl) ?_
    refine va_get (D := (dC, dI)) (ci := 3) (v := .int (s0.2.2 + 1)) (C := RX3) (T := TX3) (N := 3) hx hb hts (by decide +kernel) hown hK hP 0 rfl rfl 2 (by decide) (hts (.fieldLink RX3 19 "SnapshotPieces$Source" "top" "I") (by decide +kernel)) (fun _ h9 => h9) rfl dX3_append_27 ?_
    refine lv_iload_n hx hb dX3_append_30 rfl (lv_at hl 1 rfl) ?_
    obtain ⟨g2, h⟩ := kb_e h
    refine va_iast hx hb hK hP hD hS 1 0 rfl rfl (ib_in g2) dX3_append_31 (fun H locs hP hD hS => ?_)
    have hP : va_P (dC, dI) vwCl [(h0, .inr (3, [.ref h1, .ref h2, .int (s0.2.2 + 1)])), (h1, .inl (cI, 201, .inl (upd s0.1 (Int32.toNatClampNeg (s0.2.2 + 1)) x1))), (h2, .inl (cJ, 201, .inr (.inl s0.2.1)))] H := hP
    have hD : va_D A [(h0, .inr (3, [.ref h1, .ref h2, .int (s0.2.2 + 1)])), (h1, .inl (cI, 201, .inl (upd s0.1 (Int32.toNatClampNeg (s0.2.2 + 1)) x1))), (h2, .inl (cJ, 201, .inr (.inl s0.2.1)))] := hD
    refine lv_aload_n hx hb dX3_append_32 rfl (lv_at hl 0 rfl) ?_
    refine va_get (D := (dC, dI)) (ci := 3) (v := .ref h2) (C := RX3) (T := TX3) (N := 3) hx hb hts (by decide +kernel) hown hK hP 0 rfl rfl 1 (by decide) (hts (.fieldLink RX3 15 "SnapshotPieces$Source" "told" "[J") (by decide +kernel)) (fun _ h9 => h9) rfl dX3_append_33 ?_
    refine lv_aload_n hx hb dX3_append_36 rfl (lv_at hl 0 rfl) ?_
    refine va_get (D := (dC, dI)) (ci := 3) (v := .int (s0.2.2 + 1)) (C := RX3) (T := TX3) (N := 3) hx hb hts (by decide +kernel) hown hK hP 0 rfl rfl 2 (by decide) (hts (.fieldLink RX3 19 "SnapshotPieces$Source" "top" "I") (by decide +kernel)) (fun _ h9 => h9) rfl dX3_append_37 ?_
    refine lv_lload_n hx hb dX3_append_40 rfl (lv_at hl 2 rfl) ?_
    obtain ⟨g3, h⟩ := kb_e h
    refine va_last hx hb hK hP hD hS 2 1 rfl rfl (ib_in g3) dX3_append_41 (fun H locs hP hD hS => ?_)
    have hP : va_P (dC, dI) vwCl [(h0, .inr (3, [.ref h1, .ref h2, .int (s0.2.2 + 1)])), (h1, .inl (cI, 201, .inl (upd s0.1 (Int32.toNatClampNeg (s0.2.2 + 1)) x1))), (h2, .inl (cJ, 201, .inr (.inl (vp_updL s0.2.1 (Int32.toNatClampNeg (s0.2.2 + 1)) x2))))] H := hP
    have hD : va_D A [(h0, .inr (3, [.ref h1, .ref h2, .int (s0.2.2 + 1)])), (h1, .inl (cI, 201, .inl (upd s0.1 (Int32.toNatClampNeg (s0.2.2 + 1)) x1))), (h2, .inl (cJ, 201, .inr (.inl (vp_updL s0.2.1 (Int32.toNatClampNeg (s0.2.2 + 1)) x2))))] := hD
    refine lv_iconst (v := 1) hx hb dX3_append_42 (by decide) ?_
    obtain rfl := Option.some.inj h
    exact W.zret (v := 1) hx hb hr rfl (fun t ht hW => ⟨⟨_, (), rfl, rfl, by rw [ht]; exact hP, va_K.moved hW.alike hK, hD⟩, hS.F ht⟩) hS.2.2 dX3_append_43
  · have h := ie_f c1 h
    refine lv_iconst (v := 0) hx hb dX3_append_10 (by decide) ?_
    obtain rfl := Option.some.inj h
    exact W.zret (v := 0) hx hb hr rfl (fun t ht hW => ⟨⟨_, (), rfl, rfl, by rw [ht]; exact hP, va_K.moved hW.alike hK, hD⟩, hS.F ht⟩) hS.2.2 dX3_append_11
def f_X3_valueAt_9 (y2 : Int32) (t0 : S_Source) : Nat → Int32 → Option (Int64)
  | 0, _ => none
  | n + 1, y3 => if y3 < 1 then (some 0) else (kb (ib y3 201) (if (t0.1 (Int32.toNatClampNeg y3)) = y2 then (kb (ib y3 201) (some (t0.2.1 (Int32.toNatClampNeg y3)))) else (f_X3_valueAt_9 y2 t0 n (y3 + (-1)))))
def f_X3_valueAt (s0 : S_Source) (x1 : Int32) (x2 : Int32) : Option (Int64) := f_X3_valueAt_9 x2 s0 FU (if s0.2.2 < x1 then s0.2.2 else x1)
set_option maxHeartbeats 4000000 in
set_option maxRecDepth 100000 in
theorem k_X3_valueAt (l : Launch) (dC : Nat → ClassId) (dI : Nat → Nat → Nat) (cI cJ cZ : ClassId) (h0 h1 h2 : Nat) (s0 : S_Source) (x1 : Int32) (x2 : Int32) (u : Int64) (hf : f_X3_valueAt s0 x1 x2 = some u) (sz : Nat) : Met l yX3_valueAt wsX3_valueAt ({ frames := 1, cells := 0, slots := 0, locals := 21 }) (cPre (dC, dI) vwCl (TY cI cJ cZ) [.ref h0, .int x1, .int x2] [(h0, .inr (3, [.ref h1, .ref h2, .int s0.2.2])), (h1, .inl (cI, 201, .inl s0.1)), (h2, .inl (cJ, 201, .inr (.inl s0.2.1)))] sz) (va_Ql (fun (r : Int64) (_ : Unit) => r = u) (fun _ t => cB (dC, dI) vwCl (TY cI cJ cZ) (va_A [(h0, .inr (3, [.ref h1, .ref h2, .int s0.2.2])), (h1, .inl (cI, 201, .inl s0.1)), (h2, .inl (cJ, 201, .inr (.inl s0.2.1)))] sz) [(h0, .inr (3, [.ref h1, .ref h2, .int s0.2.2])), (h1, .inl (cI, 201, .inl s0.1)), (h2, .inl (cJ, 201, .inr (.inl s0.2.1)))] t) (va_A [(h0, .inr (3, [.ref h1, .ref h2, .int s0.2.2])), (h1, .inl (cI, 201, .inl s0.1)), (h2, .inl (cJ, 201, .inr (.inl s0.2.1)))] sz)) 0 0 (va_A [(h0, .inr (3, [.ref h1, .ref h2, .int s0.2.2])), (h1, .inl (cI, 201, .inl s0.1)), (h2, .inl (cJ, 201, .inr (.inl s0.2.1)))] sz) := by
  refine Met.ofW (cc := cX3_valueAt) (maxL := 4) (ret := (some .long)) (by decide) rfl ?_
  intro p e s m args below meth c s₁ B hml hv
  obtain ⟨rfl, hsz, hP, hK, hD0⟩ := hv
  have hx := B.exec
  have hb := B.bytes
  have hr := B.returns
  have hts := atoms_spec (ws := wsX3_valueAt) B.pre
  have hown : s.vm.findClass RX3 = some m.cls := findClass_of_methodNamed B.named
  have hlocks := B.notSynchronized
  subst hsz
  have hD := hD0.self (sz := s.heap.size)
  generalize hAe : va_A [(h0, .inr (3, [.ref h1, .ref h2, .int s0.2.2])), (h1, .inl (cI, 201, .inl s0.1)), (h2, .inl (cJ, 201, .inr (.inl s0.2.1)))] s.heap.size = A at hD ⊢
  have hA : ∀ q : Nat, s.heap.size ≤ q → A q := fun q h => by rw [← hAe]; exact Or.inr h
  have hS : va_S A s.heap s.heap [] := va_S.rf
  have hl := lv_entry ([.ref h0, .int x1, .int x2]) (n := 4) (Nat.le_of_ble_eq_true rfl)
  rw [lg_entry_eq]
  generalize (lg_sl ([.ref h0, .int x1, .int x2]) ++ List.replicate (4 - (lg_sl ([.ref h0, .int x1, .int x2])).length) Slot.unset).toArray = ls at hl ⊢
  have hl : lv_has ls 4 [(0, .ref h0), (1, .int x1), (2, .int x2)] := hl
  have h := hf
  unfold f_X3_valueAt at h
  refine lv_iload_n hx hb dX3_valueAt_0 rfl (lv_at hl 1 rfl) ?_
  refine lv_aload_n hx hb dX3_valueAt_1 rfl (lv_at hl 0 rfl) ?_
  refine va_get (D := (dC, dI)) (ci := 3) (v := .int s0.2.2) (C := RX3) (T := TX3) (N := 3) hx hb hts (by decide +kernel) hown hK hP 0 rfl rfl 2 (by decide) (hts (.fieldLink RX3 19 "SnapshotPieces$Source" "top" "I") (by decide +kernel)) (fun _ h9 => h9) rfl dX3_valueAt_2 ?_
  refine va_mmin hx hb (hml.trans hl.1.symm) hown (hts (.methodLink RX3 23 Lib.Math.min.name) (by decide +kernel)) (hts (.static Lib.Math.min.name) (by decide +kernel)) (hts (.initialized "java/lang/Math") (by decide +kernel)) (hts (.code Lib.Math.min.name Lib.Math.min.code 2 (some .int)) (by decide +kernel)) (Nat.le_of_ble_eq_true rfl) (Nat.le_of_ble_eq_true rfl) (Nat.zero_le _) (Nat.zero_le _) dX3_valueAt_5 ?_
  refine lv_istore_n (lv' := [(3, .int (if s0.2.2 < x1 then s0.2.2 else x1)), (0, .ref h0), (1, .int x1), (2, .int x2)]) hx hb dX3_valueAt_8 rfl hl (by decide) rfl (fun ls hl => ?_)
  have lp9 : ∀ (n9 : Nat) (p9_3 : Int32), f_X3_valueAt_9 x2 s0 n9 p9_3 = some u → ∀ (H : Heap) (locs : List Loc) (ls : Array Slot), va_P (dC, dI) vwCl [(h0, .inr (3, [.ref h1, .ref h2, .int s0.2.2])), (h1, .inl (cI, 201, .inl s0.1)), (h2, .inl (cJ, 201, .inr (.inl s0.2.1)))] H → va_D A [(h0, .inr (3, [.ref h1, .ref h2, .int s0.2.2])), (h1, .inl (cI, 201, .inl s0.1)), (h2, .inl (cJ, 201, .inr (.inl s0.2.1)))] → va_S A s.heap H locs → lv_has ls 4 [(3, .int p9_3), (0, .ref h0), (2, .int x2)] → W p l e (headSpec wsX3_valueAt ({ frames := 1, cells := 0, slots := 0, locals := 21 } : Room)).room s m ([.ref h0, .int x1, .int x2] : List Value).toArray below meth c H locs 0 0 (MQ below (va_Ql (fun (r : Int64) (_ : Unit) => r = u) (fun _ t => cB (dC, dI) vwCl (TY cI cJ cZ) A [(h0, .inr (3, [.ref h1, .ref h2, .int s0.2.2])), (h1, .inl (cI, 201, .inl s0.1)), (h2, .inl (cJ, 201, .inr (.inl s0.2.1)))] t) A) ([.ref h0, .int x1, .int x2] : List Value).toArray s 0 0 A) (F0 m 9 ls []) := by
    intro n9
    induction n9 with
    | zero =>
      intro p9_3 h
      rw [f_X3_valueAt_9] at h
      cases h
    | succ n9 ih9 =>
      intro p9_3 h H locs ls hP hD hS hl
      rw [f_X3_valueAt_9] at h
      refine lv_iload_n hx hb dX3_valueAt_9 rfl (lv_at hl 0 rfl) ?_
      refine lv_iconst (v := 1) hx hb dX3_valueAt_10 (by decide) ?_
      refine lv_icmp_lt (tgt := 37) hx hb dX3_valueAt_11 (by decide) (fun c1 => ?_) (fun c1 => ?_)
      · have h := ie_t c1 h
        refine lv_lconst (v := 0) hx hb dX3_valueAt_37 (by decide) ?_
        obtain rfl := Option.some.inj h
        exact W.lret (v := 0) hx hb hr (fun t ht hW => ⟨⟨_, (), rfl, rfl, by rw [ht]; exact hP, va_K.moved hW.alike hK, hD⟩, hS.F ht⟩) hS.2.2 dX3_valueAt_38
      · have h := ie_f c1 h
        refine lv_aload_n hx hb dX3_valueAt_14 rfl (lv_at hl 1 rfl) ?_
        refine va_get (D := (dC, dI)) (ci := 3) (v := .ref h1) (C := RX3) (T := TX3) (N := 3) hx hb hts (by decide +kernel) hown hK hP 0 rfl rfl 0 (by decide) (hts (.fieldLink RX3 9 "SnapshotPieces$Source" "paths" "[I") (by decide +kernel)) (fun _ h9 => h9) rfl dX3_valueAt_15 ?_
        refine lv_iload_n hx hb dX3_valueAt_18 rfl (lv_at hl 0 rfl) ?_
        obtain ⟨g2, h⟩ := kb_e h
        refine va_iald hx hb hK hP 1 0 rfl rfl (ib_in g2) dX3_valueAt_19 ?_
        refine lv_iload_n hx hb dX3_valueAt_20 rfl (lv_at hl 2 rfl) ?_
        refine lv_icmp_ne (tgt := 31) hx hb dX3_valueAt_21 (by decide) (fun c3 => ?_) (fun c3 => ?_)
        · have h := ie_f c3 h
          refine lv_iinc (v := (p9_3 + (-1))) (lv' := [(3, .int (p9_3 + (-1))), (0, .ref h0), (2, .int x2)]) hx hb dX3_valueAt_31 hl (k := 0) rfl rfl (by decide) rfl (fun ls hl => ?_)
          refine lv_goto (tgt := 9) hx hb dX3_valueAt_34 (by decide) ?_
          exact ih9 (p9_3 + (-1)) h _ _ _ hP hD hS (lv_sub hl [0, 1, 2] rfl)
        · have h := ie_t c3 h
          refine lv_aload_n hx hb dX3_valueAt_24 rfl (lv_at hl 1 rfl) ?_
          refine va_get (D := (dC, dI)) (ci := 3) (v := .ref h2) (C := RX3) (T := TX3) (N := 3) hx hb hts (by decide +kernel) hown hK hP 0 rfl rfl 1 (by decide) (hts (.fieldLink RX3 15 "SnapshotPieces$Source" "told" "[J") (by decide +kernel)) (fun _ h9 => h9) rfl dX3_valueAt_25 ?_
          refine lv_iload_n hx hb dX3_valueAt_28 rfl (lv_at hl 0 rfl) ?_
          obtain ⟨g4, h⟩ := kb_e h
          refine va_lald hx hb hK hP 2 1 rfl rfl (ib_in g4) dX3_valueAt_29 ?_
          obtain rfl := Option.some.inj h
          exact W.lret (v := (s0.2.1 (Int32.toNatClampNeg p9_3))) hx hb hr (fun t ht hW => ⟨⟨_, (), rfl, rfl, by rw [ht]; exact hP, va_K.moved hW.alike hK, hD⟩, hS.F ht⟩) hS.2.2 dX3_valueAt_30
  exact lp9 FU (if s0.2.2 < x1 then s0.2.2 else x1) h _ _ _ hP hD hS (lv_sub hl [0, 1, 3] rfl)
def f_X3_copyState_2 : Nat → Int32 → (Nat → Int64) → Option ((Nat → Int64))
  | 0, _, _ => none
  | n + 1, y3, t1 => if 64 ≤ y3 then (some t1) else (kb (ib y3 64) (f_X3_copyState_2 n (y3 + 1) (vp_updL t1 (Int32.toNatClampNeg y3) 0)))
def f_X3_copyState_33 (y3 : Int32) (t0 : S_Source) : Nat → Int32 → (Nat → Int64) → Option ((Nat → Int64))
  | 0, _, _ => none
  | n + 1, y4, t1 => if y3 < y4 then (some t1) else (kb (ib y4 201) ((f_X4_isPath (t0.1 (Int32.toNatClampNeg y4))).bind fun u6 => if u6 = 0 then (f_X3_copyState_33 y3 t0 n (y4 + 1) t1) else (kb (ib y4 201) (kb (ib (t0.1 (Int32.toNatClampNeg y4)) 64) (f_X3_copyState_33 y3 t0 n (y4 + 1) (vp_updL t1 (Int32.toNatClampNeg (t0.1 (Int32.toNatClampNeg y4))) (t0.2.1 (Int32.toNatClampNeg y4))))))))
def f_X3_copyState (s0 : S_Source) (s1 : S_Tree) (x1 : Int32) : Option (S_Tree) := (f_X3_copyState_2 FU 0 s1.1).bind fun u3 => (f_X3_copyState_33 (if s0.2.2 < x1 then s0.2.2 else x1) s0 FU 1 u3).bind fun u10 => (f_X4_renew (u10, s1.2) 1).bind fun u11 => some u11
set_option maxHeartbeats 4000000 in
set_option maxRecDepth 100000 in
theorem k_X3_copyState (l : Launch) (dC : Nat → ClassId) (dI : Nat → Nat → Nat) (cI cJ cZ : ClassId) (h0 h1 h2 h3 h4 h5 : Nat) (s0 : S_Source) (s1 : S_Tree) (x1 : Int32) (u : S_Tree) (hf : f_X3_copyState s0 s1 x1 = some u) (sz : Nat) : Met l yX3_copyState wsX3_copyState ({ frames := 2, cells := 0, slots := 0, locals := 52 }) (cPre (dC, dI) vwCl (TY cI cJ cZ) [.ref h0, .int x1, .ref h3] [(h0, .inr (3, [.ref h1, .ref h2, .int s0.2.2])), (h1, .inl (cI, 201, .inl s0.1)), (h2, .inl (cJ, 201, .inr (.inl s0.2.1))), (h3, .inr (4, [.ref h4, .ref h5])), (h4, .inl (cJ, 64, .inr (.inl s1.1))), (h5, .inl (cJ, 128, .inr (.inl s1.2)))] sz) (va_Qv (fun (_ : Unit) => True) (fun _ t => cB (dC, dI) vwCl (TY cI cJ cZ) (va_A [(h0, .inr (3, [.ref h1, .ref h2, .int s0.2.2])), (h1, .inl (cI, 201, .inl s0.1)), (h2, .inl (cJ, 201, .inr (.inl s0.2.1))), (h3, .inr (4, [.ref h4, .ref h5])), (h4, .inl (cJ, 64, .inr (.inl s1.1))), (h5, .inl (cJ, 128, .inr (.inl s1.2)))] sz) [(h0, .inr (3, [.ref h1, .ref h2, .int s0.2.2])), (h1, .inl (cI, 201, .inl s0.1)), (h2, .inl (cJ, 201, .inr (.inl s0.2.1))), (h3, .inr (4, [.ref h4, .ref h5])), (h4, .inl (cJ, 64, .inr (.inl u.1))), (h5, .inl (cJ, 128, .inr (.inl u.2)))] t) (va_A [(h0, .inr (3, [.ref h1, .ref h2, .int s0.2.2])), (h1, .inl (cI, 201, .inl s0.1)), (h2, .inl (cJ, 201, .inr (.inl s0.2.1))), (h3, .inr (4, [.ref h4, .ref h5])), (h4, .inl (cJ, 64, .inr (.inl s1.1))), (h5, .inl (cJ, 128, .inr (.inl s1.2)))] sz)) 0 0 (va_A [(h0, .inr (3, [.ref h1, .ref h2, .int s0.2.2])), (h1, .inl (cI, 201, .inl s0.1)), (h2, .inl (cJ, 201, .inr (.inl s0.2.1))), (h3, .inr (4, [.ref h4, .ref h5])), (h4, .inl (cJ, 64, .inr (.inl s1.1))), (h5, .inl (cJ, 128, .inr (.inl s1.2)))] sz) := by
  refine Met.ofW (cc := cX3_copyState) (maxL := 6) (ret := none) (by decide) rfl ?_
  intro p e s m args below meth c s₁ B hml hv
  obtain ⟨rfl, hsz, hP, hK, hD0⟩ := hv
  have hx := B.exec
  have hb := B.bytes
  have hr := B.returns
  have hts := atoms_spec (ws := wsX3_copyState) B.pre
  have hown : s.vm.findClass RX3 = some m.cls := findClass_of_methodNamed B.named
  have hlocks := B.notSynchronized
  subst hsz
  have hD := hD0.self (sz := s.heap.size)
  generalize hAe : va_A [(h0, .inr (3, [.ref h1, .ref h2, .int s0.2.2])), (h1, .inl (cI, 201, .inl s0.1)), (h2, .inl (cJ, 201, .inr (.inl s0.2.1))), (h3, .inr (4, [.ref h4, .ref h5])), (h4, .inl (cJ, 64, .inr (.inl s1.1))), (h5, .inl (cJ, 128, .inr (.inl s1.2)))] s.heap.size = A at hD ⊢
  have hA : ∀ q : Nat, s.heap.size ≤ q → A q := fun q h => by rw [← hAe]; exact Or.inr h
  have hS : va_S A s.heap s.heap [] := va_S.rf
  have hl := lv_entry ([.ref h0, .int x1, .ref h3]) (n := 6) (Nat.le_of_ble_eq_true rfl)
  rw [lg_entry_eq]
  generalize (lg_sl ([.ref h0, .int x1, .ref h3]) ++ List.replicate (6 - (lg_sl ([.ref h0, .int x1, .ref h3])).length) Slot.unset).toArray = ls at hl ⊢
  have hl : lv_has ls 6 [(0, .ref h0), (1, .int x1), (2, .ref h3)] := hl
  have h := hf
  unfold f_X3_copyState at h
  refine lv_iconst (v := 0) hx hb dX3_copyState_0 (by decide) ?_
  refine lv_istore_n (lv' := [(3, .int 0), (0, .ref h0), (1, .int x1), (2, .ref h3)]) hx hb dX3_copyState_1 rfl hl (by decide) rfl (fun ls hl => ?_)
  have lp2 : ∀ (Q : State → Prop) (n2 : Nat) (p2_3 : Int32) (q2_0 : (Nat → Int64)) (v2 : (Nat → Int64)), f_X3_copyState_2 n2 p2_3 q2_0 = some v2 → ∀ (H : Heap) (locs : List Loc) (ls : Array Slot), va_P (dC, dI) vwCl [(h0, .inr (3, [.ref h1, .ref h2, .int s0.2.2])), (h1, .inl (cI, 201, .inl s0.1)), (h2, .inl (cJ, 201, .inr (.inl s0.2.1))), (h3, .inr (4, [.ref h4, .ref h5])), (h4, .inl (cJ, 64, .inr (.inl q2_0))), (h5, .inl (cJ, 128, .inr (.inl s1.2)))] H → va_D A [(h0, .inr (3, [.ref h1, .ref h2, .int s0.2.2])), (h1, .inl (cI, 201, .inl s0.1)), (h2, .inl (cJ, 201, .inr (.inl s0.2.1))), (h3, .inr (4, [.ref h4, .ref h5])), (h4, .inl (cJ, 64, .inr (.inl q2_0))), (h5, .inl (cJ, 128, .inr (.inl s1.2)))] → va_S A s.heap H locs → lv_has ls 6 [(3, .int p2_3), (0, .ref h0), (1, .int x1), (2, .ref h3)] → (∀ (H : Heap) (locs : List Loc) (ls : Array Slot), va_P (dC, dI) vwCl [(h0, .inr (3, [.ref h1, .ref h2, .int s0.2.2])), (h1, .inl (cI, 201, .inl s0.1)), (h2, .inl (cJ, 201, .inr (.inl s0.2.1))), (h3, .inr (4, [.ref h4, .ref h5])), (h4, .inl (cJ, 64, .inr (.inl v2))), (h5, .inl (cJ, 128, .inr (.inl s1.2)))] H → va_D A [(h0, .inr (3, [.ref h1, .ref h2, .int s0.2.2])), (h1, .inl (cI, 201, .inl s0.1)), (h2, .inl (cJ, 201, .inr (.inl s0.2.1))), (h3, .inr (4, [.ref h4, .ref h5])), (h4, .inl (cJ, 64, .inr (.inl v2))), (h5, .inl (cJ, 128, .inr (.inl s1.2)))] → va_S A s.heap H locs → lv_has ls 6 [(0, .ref h0), (1, .int x1), (2, .ref h3)] → W p l e (headSpec wsX3_copyState ({ frames := 2, cells := 0, slots := 0, locals := 52 } : Room)).room s m ([.ref h0, .int x1, .ref h3] : List Value).toArray below meth c H locs 0 0 Q (F0 m 21 ls [])) → W p l e (headSpec wsX3_copyState ({ frames := 2, cells := 0, slots := 0, locals := 52 } : Room)).room s m ([.ref h0, .int x1, .ref h3] : List Value).toArray below meth c H locs 0 0 Q (F0 m 2 ls []) := by
    intro Q n2
    induction n2 with
    | zero =>
      intro p2_3 q2_0 v2 h
      rw [f_X3_copyState_2] at h
      cases h
    | succ n2 ih2 =>
      intro p2_3 q2_0 v2 h H locs ls hP hD hS hl kx2
      rw [f_X3_copyState_2] at h
      refine lv_iload_n hx hb dX3_copyState_2 rfl (lv_at hl 0 rfl) ?_
      refine lv_bipush (v := 64) hx hb dX3_copyState_3 (by decide) ?_
      refine lv_icmp_ge (tgt := 21) hx hb dX3_copyState_5 (by decide) (fun c1 => ?_) (fun c1 => ?_)
      · have h := ie_t c1 h
        obtain rfl := Option.some.inj h
        exact kx2 _ _ _ hP hD hS (lv_sub hl [1, 2, 3] rfl)
      · have h := ie_f c1 h
        refine lv_aload_n hx hb dX3_copyState_8 rfl (lv_at hl 3 rfl) ?_
        refine va_get (D := (dC, dI)) (ci := 4) (v := .ref h4) (C := RX4) (T := TX4) (N := 2) hx hb hts (by decide +kernel) hown hK hP 3 rfl rfl 0 (by decide) (hts (.fieldLink RX3 31 "SnapshotPieces$Tree" "values" "[J") (by decide +kernel)) (fun _ h9 => h9) rfl dX3_copyState_9 ?_
        refine lv_iload_n hx hb dX3_copyState_12 rfl (lv_at hl 0 rfl) ?_
        refine lv_lconst (v := 0) hx hb dX3_copyState_13 (by decide) ?_
        obtain ⟨g2, h⟩ := kb_e h
        refine va_last hx hb hK hP hD hS 4 1 rfl rfl (ib_in g2) dX3_copyState_14 (fun H locs hP hD hS => ?_)
        have hP : va_P (dC, dI) vwCl [(h0, .inr (3, [.ref h1, .ref h2, .int s0.2.2])), (h1, .inl (cI, 201, .inl s0.1)), (h2, .inl (cJ, 201, .inr (.inl s0.2.1))), (h3, .inr (4, [.ref h4, .ref h5])), (h4, .inl (cJ, 64, .inr (.inl (vp_updL q2_0 (Int32.toNatClampNeg p2_3) 0)))), (h5, .inl (cJ, 128, .inr (.inl s1.2)))] H := hP
        have hD : va_D A [(h0, .inr (3, [.ref h1, .ref h2, .int s0.2.2])), (h1, .inl (cI, 201, .inl s0.1)), (h2, .inl (cJ, 201, .inr (.inl s0.2.1))), (h3, .inr (4, [.ref h4, .ref h5])), (h4, .inl (cJ, 64, .inr (.inl (vp_updL q2_0 (Int32.toNatClampNeg p2_3) 0)))), (h5, .inl (cJ, 128, .inr (.inl s1.2)))] := hD
        refine lv_iinc (v := (p2_3 + 1)) (lv' := [(3, .int (p2_3 + 1)), (0, .ref h0), (1, .int x1), (2, .ref h3)]) hx hb dX3_copyState_15 hl (k := 0) rfl rfl (by decide) rfl (fun ls hl => ?_)
        refine lv_goto (tgt := 2) hx hb dX3_copyState_18 (by decide) ?_
        exact ih2 (p2_3 + 1) (vp_updL q2_0 (Int32.toNatClampNeg p2_3) 0) v2 h _ _ _ hP hD hS (lv_sub hl [0, 1, 2, 3] rfl) kx2
  obtain ⟨u3, hc3, h⟩ := bd_e h
  refine lp2 _ FU 0 s1.1 u3 hc3 _ _ _ hP hD hS (lv_sub hl [0, 1, 2, 3] rfl) (fun H locs ls hP hD hS hl => ?_)
  refine lv_iload_n hx hb dX3_copyState_21 rfl (lv_at hl 1 rfl) ?_
  refine lv_aload_n hx hb dX3_copyState_22 rfl (lv_at hl 0 rfl) ?_
  refine va_get (D := (dC, dI)) (ci := 3) (v := .int s0.2.2) (C := RX3) (T := TX3) (N := 3) hx hb hts (by decide +kernel) hown hK hP 0 rfl rfl 2 (by decide) (hts (.fieldLink RX3 19 "SnapshotPieces$Source" "top" "I") (by decide +kernel)) (fun _ h9 => h9) rfl dX3_copyState_23 ?_
  refine va_mmin hx hb (hml.trans hl.1.symm) hown (hts (.methodLink RX3 23 Lib.Math.min.name) (by decide +kernel)) (hts (.static Lib.Math.min.name) (by decide +kernel)) (hts (.initialized "java/lang/Math") (by decide +kernel)) (hts (.code Lib.Math.min.name Lib.Math.min.code 2 (some .int)) (by decide +kernel)) (Nat.le_of_ble_eq_true rfl) (Nat.le_of_ble_eq_true rfl) (Nat.zero_le _) (Nat.zero_le _) dX3_copyState_26 ?_
  refine lv_istore_n (lv' := [(3, .int (if s0.2.2 < x1 then s0.2.2 else x1)), (0, .ref h0), (1, .int x1), (2, .ref h3)]) hx hb dX3_copyState_29 rfl hl (by decide) rfl (fun ls hl => ?_)
  refine lv_iconst (v := 1) hx hb dX3_copyState_30 (by decide) ?_
  refine lv_istore (lv' := [(4, .int 1), (3, .int (if s0.2.2 < x1 then s0.2.2 else x1)), (0, .ref h0), (1, .int x1), (2, .ref h3)]) hx hb dX3_copyState_31 hl (by decide) rfl (fun ls hl => ?_)
  have lp33 : ∀ (Q : State → Prop) (n33 : Nat) (p33_4 : Int32) (q33_0 : (Nat → Int64)) (v33 : (Nat → Int64)), f_X3_copyState_33 (if s0.2.2 < x1 then s0.2.2 else x1) s0 n33 p33_4 q33_0 = some v33 → ∀ (H : Heap) (locs : List Loc) (ls : Array Slot), va_P (dC, dI) vwCl [(h0, .inr (3, [.ref h1, .ref h2, .int s0.2.2])), (h1, .inl (cI, 201, .inl s0.1)), (h2, .inl (cJ, 201, .inr (.inl s0.2.1))), (h3, .inr (4, [.ref h4, .ref h5])), (h4, .inl (cJ, 64, .inr (.inl q33_0))), (h5, .inl (cJ, 128, .inr (.inl s1.2)))] H → va_D A [(h0, .inr (3, [.ref h1, .ref h2, .int s0.2.2])), (h1, .inl (cI, 201, .inl s0.1)), (h2, .inl (cJ, 201, .inr (.inl s0.2.1))), (h3, .inr (4, [.ref h4, .ref h5])), (h4, .inl (cJ, 64, .inr (.inl q33_0))), (h5, .inl (cJ, 128, .inr (.inl s1.2)))] → va_S A s.heap H locs → lv_has ls 6 [(4, .int p33_4), (3, .int (if s0.2.2 < x1 then s0.2.2 else x1)), (0, .ref h0), (2, .ref h3)] → (∀ (H : Heap) (locs : List Loc) (ls : Array Slot), va_P (dC, dI) vwCl [(h0, .inr (3, [.ref h1, .ref h2, .int s0.2.2])), (h1, .inl (cI, 201, .inl s0.1)), (h2, .inl (cJ, 201, .inr (.inl s0.2.1))), (h3, .inr (4, [.ref h4, .ref h5])), (h4, .inl (cJ, 64, .inr (.inl v33))), (h5, .inl (cJ, 128, .inr (.inl s1.2)))] H → va_D A [(h0, .inr (3, [.ref h1, .ref h2, .int s0.2.2])), (h1, .inl (cI, 201, .inl s0.1)), (h2, .inl (cJ, 201, .inr (.inl s0.2.1))), (h3, .inr (4, [.ref h4, .ref h5])), (h4, .inl (cJ, 64, .inr (.inl v33))), (h5, .inl (cJ, 128, .inr (.inl s1.2)))] → va_S A s.heap H locs → lv_has ls 6 [(2, .ref h3)] → W p l e (headSpec wsX3_copyState ({ frames := 2, cells := 0, slots := 0, locals := 52 } : Room)).room s m ([.ref h0, .int x1, .ref h3] : List Value).toArray below meth c H locs 0 0 Q (F0 m 76 ls [])) → W p l e (headSpec wsX3_copyState ({ frames := 2, cells := 0, slots := 0, locals := 52 } : Room)).room s m ([.ref h0, .int x1, .ref h3] : List Value).toArray below meth c H locs 0 0 Q (F0 m 33 ls []) := by
    intro Q n33
    induction n33 with
    | zero =>
      intro p33_4 q33_0 v33 h
      rw [f_X3_copyState_33] at h
      cases h
    | succ n33 ih33 =>
      intro p33_4 q33_0 v33 h H locs ls hP hD hS hl kx33
      rw [f_X3_copyState_33] at h
      refine lv_iload hx hb dX3_copyState_33 (lv_at hl 0 rfl) ?_
      refine lv_iload_n hx hb dX3_copyState_35 rfl (lv_at hl 1 rfl) ?_
      refine lv_icmp_gt (tgt := 76) hx hb dX3_copyState_36 (by decide) (fun c4 => ?_) (fun c4 => ?_)
      · have h := ie_t c4 h
        obtain rfl := Option.some.inj h
        exact kx33 _ _ _ hP hD hS (lv_sub hl [3] rfl)
      · have h := ie_f c4 h
        refine lv_aload_n hx hb dX3_copyState_39 rfl (lv_at hl 2 rfl) ?_
        refine va_get (D := (dC, dI)) (ci := 3) (v := .ref h1) (C := RX3) (T := TX3) (N := 3) hx hb hts (by decide +kernel) hown hK hP 0 rfl rfl 0 (by decide) (hts (.fieldLink RX3 9 "SnapshotPieces$Source" "paths" "[I") (by decide +kernel)) (fun _ h9 => h9) rfl dX3_copyState_40 ?_
        refine lv_iload hx hb dX3_copyState_43 (lv_at hl 0 rfl) ?_
        obtain ⟨g5, h⟩ := kb_e h
        refine va_iald hx hb hK hP 1 0 rfl rfl (ib_in g5) dX3_copyState_45 ?_
        refine lv_istore (lv' := [(5, .int (s0.1 (Int32.toNatClampNeg p33_4))), (4, .int p33_4), (3, .int (if s0.2.2 < x1 then s0.2.2 else x1)), (0, .ref h0), (2, .ref h3)]) hx hb dX3_copyState_46 hl (by decide) rfl (fun ls hl => ?_)
        refine lv_iload hx hb dX3_copyState_48 (lv_at hl 0 rfl) ?_
        obtain ⟨u6, hc6, h⟩ := bd_e h
        refine cc_i (tys := TY cI cJ cZ) ([] : va_W) [(h0, .inr (3, [.ref h1, .ref h2, .int s0.2.2])), (h1, .inl (cI, 201, .inl s0.1)), (h2, .inl (cJ, 201, .inr (.inl s0.2.1))), (h3, .inr (4, [.ref h4, .ref h5])), (h4, .inl (cJ, 64, .inr (.inl q33_0))), (h5, .inl (cJ, 128, .inr (.inl s1.2)))] ([] : va_W) [(h0, .inr (3, [.ref h1, .ref h2, .int s0.2.2])), (h1, .inl (cI, 201, .inl s0.1)), (h2, .inl (cJ, 201, .inr (.inl s0.2.1))), (h3, .inr (4, [.ref h4, .ref h5])), (h4, .inl (cJ, 64, .inr (.inl q33_0))), (h5, .inl (cJ, 128, .inr (.inl s1.2)))] hP hD hS hA [] [0, 1, 2, 3, 4, 5] [0, 1, 2, 3, 4, 5] rfl rfl (by decide) (by decide) rfl (by decide) rfl (va_runS (As := [.int (s0.1 (Int32.toNatClampNeg p33_4))]) (rest := []) ⟨hx, hb, hml, hown, hts⟩ (k_X4_isPath l dC dI cI cJ cZ (s0.1 (Int32.toNatClampNeg p33_4)) u6 hc6 _) (va_cwS 1 hts gX3_copyState_X4_isPath rfl rfl rfl (by decide +kernel) ⟨Nat.le_of_ble_eq_true rfl, Nat.le_of_ble_eq_true rfl⟩) ⟨cPre_blind, cPre_in hP hD hK [] rfl (by decide) rfl⟩ rfl rfl hl.1 rfl (lv_room (Nat.le_of_ble_eq_true rfl)) dX3_copyState_50 ⟨Nat.le_of_ble_eq_true rfl, Nat.le_of_ble_eq_true rfl⟩) (fun H locs hP hD hS => ?_)
        refine lv_if_eq (tgt := 70) hx hb dX3_copyState_53 (by decide) (fun c7 => ?_) (fun c7 => ?_)
        · have h := ie_t c7 h
          refine lv_iinc (v := (p33_4 + 1)) (lv' := [(4, .int (p33_4 + 1)), (5, .int (s0.1 (Int32.toNatClampNeg p33_4))), (3, .int (if s0.2.2 < x1 then s0.2.2 else x1)), (0, .ref h0), (2, .ref h3)]) hx hb dX3_copyState_70 hl (k := 1) rfl rfl (by decide) rfl (fun ls hl => ?_)
          refine lv_goto (tgt := 33) hx hb dX3_copyState_73 (by decide) ?_
          exact ih33 (p33_4 + 1) q33_0 v33 h _ _ _ hP hD hS (lv_sub hl [0, 2, 3, 4] rfl) kx33
        · have h := ie_f c7 h
          refine lv_aload_n hx hb dX3_copyState_56 rfl (lv_at hl 4 rfl) ?_
          refine va_get (D := (dC, dI)) (ci := 4) (v := .ref h4) (C := RX4) (T := TX4) (N := 2) hx hb hts (by decide +kernel) hown hK hP 3 rfl rfl 0 (by decide) (hts (.fieldLink RX3 31 "SnapshotPieces$Tree" "values" "[J") (by decide +kernel)) (fun _ h9 => h9) rfl dX3_copyState_57 ?_
          refine lv_iload hx hb dX3_copyState_60 (lv_at hl 0 rfl) ?_
          refine lv_aload_n hx hb dX3_copyState_62 rfl (lv_at hl 3 rfl) ?_
          refine va_get (D := (dC, dI)) (ci := 3) (v := .ref h2) (C := RX3) (T := TX3) (N := 3) hx hb hts (by decide +kernel) hown hK hP 0 rfl rfl 1 (by decide) (hts (.fieldLink RX3 15 "SnapshotPieces$Source" "told" "[J") (by decide +kernel)) (fun _ h9 => h9) rfl dX3_copyState_63 ?_
          refine lv_iload hx hb dX3_copyState_66 (lv_at hl 1 rfl) ?_
          obtain ⟨g8, h⟩ := kb_e h
          refine va_lald hx hb hK hP 2 1 rfl rfl (ib_in g8) dX3_copyState_68 ?_
          obtain ⟨g9, h⟩ := kb_e h
          refine va_last hx hb hK hP hD hS 4 1 rfl rfl (ib_in g9) dX3_copyState_69 (fun H locs hP hD hS => ?_)
          have hP : va_P (dC, dI) vwCl [(h0, .inr (3, [.ref h1, .ref h2, .int s0.2.2])), (h1, .inl (cI, 201, .inl s0.1)), (h2, .inl (cJ, 201, .inr (.inl s0.2.1))), (h3, .inr (4, [.ref h4, .ref h5])), (h4, .inl (cJ, 64, .inr (.inl (vp_updL q33_0 (Int32.toNatClampNeg (s0.1 (Int32.toNatClampNeg p33_4))) (s0.2.1 (Int32.toNatClampNeg p33_4)))))), (h5, .inl (cJ, 128, .inr (.inl s1.2)))] H := hP
          have hD : va_D A [(h0, .inr (3, [.ref h1, .ref h2, .int s0.2.2])), (h1, .inl (cI, 201, .inl s0.1)), (h2, .inl (cJ, 201, .inr (.inl s0.2.1))), (h3, .inr (4, [.ref h4, .ref h5])), (h4, .inl (cJ, 64, .inr (.inl (vp_updL q33_0 (Int32.toNatClampNeg (s0.1 (Int32.toNatClampNeg p33_4))) (s0.2.1 (Int32.toNatClampNeg p33_4)))))), (h5, .inl (cJ, 128, .inr (.inl s1.2)))] := hD
          refine lv_iinc (v := (p33_4 + 1)) (lv' := [(4, .int (p33_4 + 1)), (5, .int (s0.1 (Int32.toNatClampNeg p33_4))), (3, .int (if s0.2.2 < x1 then s0.2.2 else x1)), (0, .ref h0), (2, .ref h3)]) hx hb dX3_copyState_70 hl (k := 1) rfl rfl (by decide) rfl (fun ls hl => ?_)
          refine lv_goto (tgt := 33) hx hb dX3_copyState_73 (by decide) ?_
          exact ih33 (p33_4 + 1) (vp_updL q33_0 (Int32.toNatClampNeg (s0.1 (Int32.toNatClampNeg p33_4))) (s0.2.1 (Int32.toNatClampNeg p33_4))) v33 h _ _ _ hP hD hS (lv_sub hl [0, 2, 3, 4] rfl) kx33
  obtain ⟨u10, hc10, h⟩ := bd_e h
  refine lp33 _ FU 1 u3 u10 hc10 _ _ _ hP hD hS (lv_sub hl [0, 1, 2, 4] rfl) (fun H locs ls hP hD hS hl => ?_)
  refine lv_aload_n hx hb dX3_copyState_76 rfl (lv_at hl 0 rfl) ?_
  refine lv_iconst (v := 1) hx hb dX3_copyState_77 (by decide) ?_
  obtain ⟨u11, hc11, h⟩ := bd_e h
  refine cc_v (tys := TY cI cJ cZ) [(h3, .inr (4, [.ref h4, .ref h5])), (h4, .inl (cJ, 64, .inr (.inl u10))), (h5, .inl (cJ, 128, .inr (.inl s1.2)))] [(h0, .inr (3, [.ref h1, .ref h2, .int s0.2.2])), (h1, .inl (cI, 201, .inl s0.1)), (h2, .inl (cJ, 201, .inr (.inl s0.2.1)))] [(h3, .inr (4, [.ref h4, .ref h5])), (h4, .inl (cJ, 64, .inr (.inl u11.1))), (h5, .inl (cJ, 128, .inr (.inl u11.2)))] [(h0, .inr (3, [.ref h1, .ref h2, .int s0.2.2])), (h1, .inl (cI, 201, .inl s0.1)), (h2, .inl (cJ, 201, .inr (.inl s0.2.1))), (h3, .inr (4, [.ref h4, .ref h5])), (h4, .inl (cJ, 64, .inr (.inl u11.1))), (h5, .inl (cJ, 128, .inr (.inl u11.2)))] hP hD hS hA [3, 4, 5] [0, 1, 2] [0, 1, 2, 3, 4, 5] rfl rfl (by decide) (by decide) rfl (by decide) rfl (va_runV (As := [.int 1]) (rest := []) ⟨hx, hb, hml, hown, hts⟩ (k_X4_renew l dC dI cI cJ cZ h3 h4 h5 (u10, s1.2) 1 u11 hc11 _) (cwV 1 hts gX3_copyState_X4_renew rfl rfl rfl (by decide +kernel) ⟨Nat.le_of_ble_eq_true rfl, Nat.le_of_ble_eq_true rfl⟩) ⟨cPre_blind, va_recv hK hP (ci := 4) (q0 := 3) rfl rfl, cPre_in hP hD hK [3, 4, 5] rfl (by decide) rfl⟩ rfl rfl hl.1 rfl (lv_room (Nat.le_of_ble_eq_true rfl)) dX3_copyState_78 ⟨Nat.le_of_ble_eq_true rfl, Nat.le_of_ble_eq_true rfl⟩) (fun H locs hP hD hS => ?_)
  obtain rfl := Option.some.inj h
  exact W.vret hx hb hr (fun t ht hW => ⟨⟨(), rfl, trivial, by rw [ht]; exact hP, va_K.moved hW.alike hK, hD⟩, hS.F ht⟩) hS.2.2 dX3_copyState_81
