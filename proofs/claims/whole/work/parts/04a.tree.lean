def f_X4_isPath (x0 : Int32) : Option (Int32) := if x0 < 0 then (some 0) else (if 64 ≤ x0 then (some 0) else (some 1))
set_option maxHeartbeats 4000000 in
set_option maxRecDepth 100000 in
theorem k_X4_isPath (l : Launch) (dC : Nat → ClassId) (dI : Nat → Nat → Nat) (cI cJ cZ : ClassId) (x0 : Int32) (u : Int32) (hf : f_X4_isPath x0 = some u) (sz : Nat) : Met l yX4_isPath wsX4_isPath ({ frames := 0, cells := 0, slots := 0, locals := 0 }) (cPre (dC, dI) vwCl (TY cI cJ cZ) [.int x0] ([] : va_W) sz) (va_Qi (fun (r : Int32) (_ : Unit) => r = u) (fun _ t => cB (dC, dI) vwCl (TY cI cJ cZ) (va_A ([] : va_W) sz) ([] : va_W) t) (va_A ([] : va_W) sz)) 0 0 (va_A ([] : va_W) sz) := by
  refine Met.ofW (cc := cX4_isPath) (maxL := 1) (ret := (some .boolean)) (by decide) rfl ?_
  intro p e s m args below meth c s₁ B hml hv
  obtain ⟨rfl, hsz, hP, hK, hD0⟩ := hv
  have hx := B.exec
  have hb := B.bytes
  have hr := B.returns
  have hts := atoms_spec (ws := wsX4_isPath) B.pre
  have hown : s.vm.findClass RX4 = some m.cls := findClass_of_methodNamed B.named
  have hlocks := B.notSynchronized
  subst hsz
  have hD := hD0.self (sz := s.heap.size)
  generalize hAe : va_A ([] : va_W) s.heap.size = A at hD ⊢
  have hA : ∀ q : Nat, s.heap.size ≤ q → A q := fun q h => by rw [← hAe]; exact Or.inr h
  have hS : va_S A s.heap s.heap [] := va_S.rf
  have hl := lv_entry ([.int x0]) (n := 1) (Nat.le_of_ble_eq_true rfl)
  rw [lg_entry_eq]
  generalize (lg_sl ([.int x0]) ++ List.replicate (1 - (lg_sl ([.int x0])).length) Slot.unset).toArray = ls at hl ⊢
  have hl : lv_has ls 1 [(0, .int x0)] := hl
  have h := hf
  unfold f_X4_isPath at h
  refine lv_iload_n hx hb dX4_isPath_0 rfl (lv_at hl 0 rfl) ?_
  refine lv_if_lt (tgt := 14) hx hb dX4_isPath_1 (by decide) (fun c1 => ?_) (fun c1 => ?_)
  · have h := ie_t c1 h
    refine lv_iconst (v := 0) hx hb dX4_isPath_14 (by decide) ?_
    obtain rfl := Option.some.inj h
    exact W.zret (v := 0) hx hb hr rfl (fun t ht hW => ⟨⟨_, (), rfl, rfl, by rw [ht]; exact hP, va_K.moved hW.alike hK, hD⟩, hS.F ht⟩) hS.2.2 dX4_isPath_15
  · have h := ie_f c1 h
    refine lv_iload_n hx hb dX4_isPath_4 rfl (lv_at hl 0 rfl) ?_
    refine lv_bipush (v := 64) hx hb dX4_isPath_5 (by decide) ?_
    refine lv_icmp_ge (tgt := 14) hx hb dX4_isPath_7 (by decide) (fun c2 => ?_) (fun c2 => ?_)
    · have h := ie_t c2 h
      refine lv_iconst (v := 0) hx hb dX4_isPath_14 (by decide) ?_
      obtain rfl := Option.some.inj h
      exact W.zret (v := 0) hx hb hr rfl (fun t ht hW => ⟨⟨_, (), rfl, rfl, by rw [ht]; exact hP, va_K.moved hW.alike hK, hD⟩, hS.F ht⟩) hS.2.2 dX4_isPath_15
    · have h := ie_f c2 h
      refine lv_iconst (v := 1) hx hb dX4_isPath_10 (by decide) ?_
      refine lv_goto (tgt := 15) hx hb dX4_isPath_11 (by decide) ?_
      obtain rfl := Option.some.inj h
      exact W.zret (v := 1) hx hb hr rfl (fun t ht hW => ⟨⟨_, (), rfl, rfl, by rw [ht]; exact hP, va_K.moved hW.alike hK, hD⟩, hS.F ht⟩) hS.2.2 dX4_isPath_15
def f_X4_isNode (x0 : Int32) : Option (Int32) := if x0 < 1 then (some 0) else (if 128 ≤ x0 then (some 0) else (some 1))
set_option maxHeartbeats 4000000 in
set_option maxRecDepth 100000 in
theorem k_X4_isNode (l : Launch) (dC : Nat → ClassId) (dI : Nat → Nat → Nat) (cI cJ cZ : ClassId) (x0 : Int32) (u : Int32) (hf : f_X4_isNode x0 = some u) (sz : Nat) : Met l yX4_isNode wsX4_isNode ({ frames := 0, cells := 0, slots := 0, locals := 0 }) (cPre (dC, dI) vwCl (TY cI cJ cZ) [.int x0] ([] : va_W) sz) (va_Qi (fun (r : Int32) (_ : Unit) => r = u) (fun _ t => cB (dC, dI) vwCl (TY cI cJ cZ) (va_A ([] : va_W) sz) ([] : va_W) t) (va_A ([] : va_W) sz)) 0 0 (va_A ([] : va_W) sz) := by
  refine Met.ofW (cc := cX4_isNode) (maxL := 1) (ret := (some .boolean)) (by decide) rfl ?_
  intro p e s m args below meth c s₁ B hml hv
  obtain ⟨rfl, hsz, hP, hK, hD0⟩ := hv
  have hx := B.exec
  have hb := B.bytes
  have hr := B.returns
  have hts := atoms_spec (ws := wsX4_isNode) B.pre
  have hown : s.vm.findClass RX4 = some m.cls := findClass_of_methodNamed B.named
  have hlocks := B.notSynchronized
  subst hsz
  have hD := hD0.self (sz := s.heap.size)
  generalize hAe : va_A ([] : va_W) s.heap.size = A at hD ⊢
  have hA : ∀ q : Nat, s.heap.size ≤ q → A q := fun q h => by rw [← hAe]; exact Or.inr h
  have hS : va_S A s.heap s.heap [] := va_S.rf
  have hl := lv_entry ([.int x0]) (n := 1) (Nat.le_of_ble_eq_true rfl)
  rw [lg_entry_eq]
  generalize (lg_sl ([.int x0]) ++ List.replicate (1 - (lg_sl ([.int x0])).length) Slot.unset).toArray = ls at hl ⊢
  have hl : lv_has ls 1 [(0, .int x0)] := hl
  have h := hf
  unfold f_X4_isNode at h
  refine lv_iload_n hx hb dX4_isNode_0 rfl (lv_at hl 0 rfl) ?_
  refine lv_iconst (v := 1) hx hb dX4_isNode_1 (by decide) ?_
  refine lv_icmp_lt (tgt := 16) hx hb dX4_isNode_2 (by decide) (fun c1 => ?_) (fun c1 => ?_)
  · have h := ie_t c1 h
    refine lv_iconst (v := 0) hx hb dX4_isNode_16 (by decide) ?_
    obtain rfl := Option.some.inj h
    exact W.zret (v := 0) hx hb hr rfl (fun t ht hW => ⟨⟨_, (), rfl, rfl, by rw [ht]; exact hP, va_K.moved hW.alike hK, hD⟩, hS.F ht⟩) hS.2.2 dX4_isNode_17
  · have h := ie_f c1 h
    refine lv_iload_n hx hb dX4_isNode_5 rfl (lv_at hl 0 rfl) ?_
    refine lv_sipush (v := 128) hx hb dX4_isNode_6 (by decide) ?_
    refine lv_icmp_ge (tgt := 16) hx hb dX4_isNode_9 (by decide) (fun c2 => ?_) (fun c2 => ?_)
    · have h := ie_t c2 h
      refine lv_iconst (v := 0) hx hb dX4_isNode_16 (by decide) ?_
      obtain rfl := Option.some.inj h
      exact W.zret (v := 0) hx hb hr rfl (fun t ht hW => ⟨⟨_, (), rfl, rfl, by rw [ht]; exact hP, va_K.moved hW.alike hK, hD⟩, hS.F ht⟩) hS.2.2 dX4_isNode_17
    · have h := ie_f c2 h
      refine lv_iconst (v := 1) hx hb dX4_isNode_12 (by decide) ?_
      refine lv_goto (tgt := 17) hx hb dX4_isNode_13 (by decide) ?_
      obtain rfl := Option.some.inj h
      exact W.zret (v := 1) hx hb hr rfl (fun t ht hW => ⟨⟨_, (), rfl, rfl, by rw [ht]; exact hP, va_K.moved hW.alike hK, hD⟩, hS.F ht⟩) hS.2.2 dX4_isNode_17
def f_X4_isLeaf (x0 : Int32) : Option (Int32) := if x0 < 64 then (some 0) else (if 128 ≤ x0 then (some 0) else (some 1))
set_option maxHeartbeats 4000000 in
set_option maxRecDepth 100000 in
theorem k_X4_isLeaf (l : Launch) (dC : Nat → ClassId) (dI : Nat → Nat → Nat) (cI cJ cZ : ClassId) (x0 : Int32) (u : Int32) (hf : f_X4_isLeaf x0 = some u) (sz : Nat) : Met l yX4_isLeaf wsX4_isLeaf ({ frames := 0, cells := 0, slots := 0, locals := 0 }) (cPre (dC, dI) vwCl (TY cI cJ cZ) [.int x0] ([] : va_W) sz) (va_Qi (fun (r : Int32) (_ : Unit) => r = u) (fun _ t => cB (dC, dI) vwCl (TY cI cJ cZ) (va_A ([] : va_W) sz) ([] : va_W) t) (va_A ([] : va_W) sz)) 0 0 (va_A ([] : va_W) sz) := by
  refine Met.ofW (cc := cX4_isLeaf) (maxL := 1) (ret := (some .boolean)) (by decide) rfl ?_
  intro p e s m args below meth c s₁ B hml hv
  obtain ⟨rfl, hsz, hP, hK, hD0⟩ := hv
  have hx := B.exec
  have hb := B.bytes
  have hr := B.returns
  have hts := atoms_spec (ws := wsX4_isLeaf) B.pre
  have hown : s.vm.findClass RX4 = some m.cls := findClass_of_methodNamed B.named
  have hlocks := B.notSynchronized
  subst hsz
  have hD := hD0.self (sz := s.heap.size)
  generalize hAe : va_A ([] : va_W) s.heap.size = A at hD ⊢
  have hA : ∀ q : Nat, s.heap.size ≤ q → A q := fun q h => by rw [← hAe]; exact Or.inr h
  have hS : va_S A s.heap s.heap [] := va_S.rf
  have hl := lv_entry ([.int x0]) (n := 1) (Nat.le_of_ble_eq_true rfl)
  rw [lg_entry_eq]
  generalize (lg_sl ([.int x0]) ++ List.replicate (1 - (lg_sl ([.int x0])).length) Slot.unset).toArray = ls at hl ⊢
  have hl : lv_has ls 1 [(0, .int x0)] := hl
  have h := hf
  unfold f_X4_isLeaf at h
  refine lv_iload_n hx hb dX4_isLeaf_0 rfl (lv_at hl 0 rfl) ?_
  refine lv_bipush (v := 64) hx hb dX4_isLeaf_1 (by decide) ?_
  refine lv_icmp_lt (tgt := 17) hx hb dX4_isLeaf_3 (by decide) (fun c1 => ?_) (fun c1 => ?_)
  · have h := ie_t c1 h
    refine lv_iconst (v := 0) hx hb dX4_isLeaf_17 (by decide) ?_
    obtain rfl := Option.some.inj h
    exact W.zret (v := 0) hx hb hr rfl (fun t ht hW => ⟨⟨_, (), rfl, rfl, by rw [ht]; exact hP, va_K.moved hW.alike hK, hD⟩, hS.F ht⟩) hS.2.2 dX4_isLeaf_18
  · have h := ie_f c1 h
    refine lv_iload_n hx hb dX4_isLeaf_6 rfl (lv_at hl 0 rfl) ?_
    refine lv_sipush (v := 128) hx hb dX4_isLeaf_7 (by decide) ?_
    refine lv_icmp_ge (tgt := 17) hx hb dX4_isLeaf_10 (by decide) (fun c2 => ?_) (fun c2 => ?_)
    · have h := ie_t c2 h
      refine lv_iconst (v := 0) hx hb dX4_isLeaf_17 (by decide) ?_
      obtain rfl := Option.some.inj h
      exact W.zret (v := 0) hx hb hr rfl (fun t ht hW => ⟨⟨_, (), rfl, rfl, by rw [ht]; exact hP, va_K.moved hW.alike hK, hD⟩, hS.F ht⟩) hS.2.2 dX4_isLeaf_18
    · have h := ie_f c2 h
      refine lv_iconst (v := 1) hx hb dX4_isLeaf_13 (by decide) ?_
      refine lv_goto (tgt := 18) hx hb dX4_isLeaf_14 (by decide) ?_
      obtain rfl := Option.some.inj h
      exact W.zret (v := 1) hx hb hr rfl (fun t ht hW => ⟨⟨_, (), rfl, rfl, by rw [ht]; exact hP, va_K.moved hW.alike hK, hD⟩, hS.F ht⟩) hS.2.2 dX4_isLeaf_18
def f_X4_mix (x0 : Int64) (x2 : Int64) : Option (Int64) := some (((((x0 * (-7046029254386353131)) + ((x2 <<< (Int32.toInt64 23 &&& 63)) ||| ((Int64.toUInt64 x2 >>> ((Int32.toInt64 41).toUInt64 &&& Int64.toUInt64 63)).toInt64))) ^^^ ((Int64.toUInt64 ((x0 * (-7046029254386353131)) + ((x2 <<< (Int32.toInt64 23 &&& 63)) ||| ((Int64.toUInt64 x2 >>> ((Int32.toInt64 41).toUInt64 &&& Int64.toUInt64 63)).toInt64))) >>> ((Int32.toInt64 29).toUInt64 &&& Int64.toUInt64 63)).toInt64)) * (-4658895280553007687)) ^^^ ((Int64.toUInt64 ((((x0 * (-7046029254386353131)) + ((x2 <<< (Int32.toInt64 23 &&& 63)) ||| ((Int64.toUInt64 x2 >>> ((Int32.toInt64 41).toUInt64 &&& Int64.toUInt64 63)).toInt64))) ^^^ ((Int64.toUInt64 ((x0 * (-7046029254386353131)) + ((x2 <<< (Int32.toInt64 23 &&& 63)) ||| ((Int64.toUInt64 x2 >>> ((Int32.toInt64 41).toUInt64 &&& Int64.toUInt64 63)).toInt64))) >>> ((Int32.toInt64 29).toUInt64 &&& Int64.toUInt64 63)).toInt64)) * (-4658895280553007687)) >>> ((Int32.toInt64 32).toUInt64 &&& Int64.toUInt64 63)).toInt64))
set_option maxHeartbeats 4000000 in
set_option maxRecDepth 100000 in
theorem k_X4_mix (l : Launch) (dC : Nat → ClassId) (dI : Nat → Nat → Nat) (cI cJ cZ : ClassId) (x0 : Int64) (x2 : Int64) (u : Int64) (hf : f_X4_mix x0 x2 = some u) (sz : Nat) : Met l yX4_mix wsX4_mix ({ frames := 0, cells := 0, slots := 0, locals := 0 }) (cPre (dC, dI) vwCl (TY cI cJ cZ) [.long x0, .long x2] ([] : va_W) sz) (va_Ql (fun (r : Int64) (_ : Unit) => r = u) (fun _ t => cB (dC, dI) vwCl (TY cI cJ cZ) (va_A ([] : va_W) sz) ([] : va_W) t) (va_A ([] : va_W) sz)) 0 0 (va_A ([] : va_W) sz) := by
  refine Met.ofW (cc := cX4_mix) (maxL := 6) (ret := (some .long)) (by decide) rfl ?_
  intro p e s m args below meth c s₁ B hml hv
  obtain ⟨rfl, hsz, hP, hK, hD0⟩ := hv
  have hx := B.exec
  have hb := B.bytes
  have hr := B.returns
  have hts := atoms_spec (ws := wsX4_mix) B.pre
  have hown : s.vm.findClass RX4 = some m.cls := findClass_of_methodNamed B.named
  have hlocks := B.notSynchronized
  subst hsz
  have hD := hD0.self (sz := s.heap.size)
  generalize hAe : va_A ([] : va_W) s.heap.size = A at hD ⊢
  have hA : ∀ q : Nat, s.heap.size ≤ q → A q := fun q h => by rw [← hAe]; exact Or.inr h
  have hS : va_S A s.heap s.heap [] := va_S.rf
  have hl := lv_entry ([.long x0, .long x2]) (n := 6) (Nat.le_of_ble_eq_true rfl)
  rw [lg_entry_eq]
  generalize (lg_sl ([.long x0, .long x2]) ++ List.replicate (6 - (lg_sl ([.long x0, .long x2])).length) Slot.unset).toArray = ls at hl ⊢
  have hl : lv_has ls 6 [(0, .long x0), (2, .long x2)] := hl
  have h := hf
  unfold f_X4_mix at h
  refine lv_lload_n hx hb dX4_mix_0 rfl (lv_at hl 0 rfl) ?_
  refine lv_ldc2 (own := RX4) (v := (-7046029254386353131)) hx hb hown (hts (.constantLong RX4 16 (-7046029254386353131)) (by decide +kernel)) dX4_mix_1 ?_
  refine lv_lmul hx hb dX4_mix_4 ?_
  refine lv_lload_n hx hb dX4_mix_5 rfl (lv_at hl 1 rfl) ?_
  refine lv_bipush (v := 23) hx hb dX4_mix_6 (by decide) ?_
  refine lv_lshl hx hb dX4_mix_8 rfl ?_
  refine lv_lload_n hx hb dX4_mix_9 rfl (lv_at hl 1 rfl) ?_
  refine lv_bipush (v := 41) hx hb dX4_mix_10 (by decide) ?_
  refine lv_lushr hx hb dX4_mix_12 rfl ?_
  refine lv_lor hx hb dX4_mix_13 ?_
  refine lv_ladd hx hb dX4_mix_14 ?_
  refine lv_lstore (lv' := [(4, .long ((x0 * (-7046029254386353131)) + ((x2 <<< (Int32.toInt64 23 &&& 63)) ||| ((Int64.toUInt64 x2 >>> ((Int32.toInt64 41).toUInt64 &&& Int64.toUInt64 63)).toInt64)))), (0, .long x0), (2, .long x2)]) hx hb dX4_mix_15 hl (by decide) rfl (fun ls hl => ?_)
  refine lv_lload hx hb dX4_mix_17 (lv_at hl 0 rfl) ?_
  refine lv_lload hx hb dX4_mix_19 (lv_at hl 0 rfl) ?_
  refine lv_bipush (v := 29) hx hb dX4_mix_21 (by decide) ?_
  refine lv_lushr hx hb dX4_mix_23 rfl ?_
  refine lv_lxor hx hb dX4_mix_24 ?_
  refine lv_lstore (lv' := [(4, .long (((x0 * (-7046029254386353131)) + ((x2 <<< (Int32.toInt64 23 &&& 63)) ||| ((Int64.toUInt64 x2 >>> ((Int32.toInt64 41).toUInt64 &&& Int64.toUInt64 63)).toInt64))) ^^^ ((Int64.toUInt64 ((x0 * (-7046029254386353131)) + ((x2 <<< (Int32.toInt64 23 &&& 63)) ||| ((Int64.toUInt64 x2 >>> ((Int32.toInt64 41).toUInt64 &&& Int64.toUInt64 63)).toInt64))) >>> ((Int32.toInt64 29).toUInt64 &&& Int64.toUInt64 63)).toInt64))), (0, .long x0), (2, .long x2)]) hx hb dX4_mix_25 hl (by decide) rfl (fun ls hl => ?_)
  refine lv_lload hx hb dX4_mix_27 (lv_at hl 0 rfl) ?_
  refine lv_ldc2 (own := RX4) (v := (-4658895280553007687)) hx hb hown (hts (.constantLong RX4 18 (-4658895280553007687)) (by decide +kernel)) dX4_mix_29 ?_
  refine lv_lmul hx hb dX4_mix_32 ?_
  refine lv_lstore (lv' := [(4, .long ((((x0 * (-7046029254386353131)) + ((x2 <<< (Int32.toInt64 23 &&& 63)) ||| ((Int64.toUInt64 x2 >>> ((Int32.toInt64 41).toUInt64 &&& Int64.toUInt64 63)).toInt64))) ^^^ ((Int64.toUInt64 ((x0 * (-7046029254386353131)) + ((x2 <<< (Int32.toInt64 23 &&& 63)) ||| ((Int64.toUInt64 x2 >>> ((Int32.toInt64 41).toUInt64 &&& Int64.toUInt64 63)).toInt64))) >>> ((Int32.toInt64 29).toUInt64 &&& Int64.toUInt64 63)).toInt64)) * (-4658895280553007687))), (0, .long x0), (2, .long x2)]) hx hb dX4_mix_33 hl (by decide) rfl (fun ls hl => ?_)
  refine lv_lload hx hb dX4_mix_35 (lv_at hl 0 rfl) ?_
  refine lv_lload hx hb dX4_mix_37 (lv_at hl 0 rfl) ?_
  refine lv_bipush (v := 32) hx hb dX4_mix_39 (by decide) ?_
  refine lv_lushr hx hb dX4_mix_41 rfl ?_
  refine lv_lxor hx hb dX4_mix_42 ?_
  refine lv_lstore (lv' := [(4, .long (((((x0 * (-7046029254386353131)) + ((x2 <<< (Int32.toInt64 23 &&& 63)) ||| ((Int64.toUInt64 x2 >>> ((Int32.toInt64 41).toUInt64 &&& Int64.toUInt64 63)).toInt64))) ^^^ ((Int64.toUInt64 ((x0 * (-7046029254386353131)) + ((x2 <<< (Int32.toInt64 23 &&& 63)) ||| ((Int64.toUInt64 x2 >>> ((Int32.toInt64 41).toUInt64 &&& Int64.toUInt64 63)).toInt64))) >>> ((Int32.toInt64 29).toUInt64 &&& Int64.toUInt64 63)).toInt64)) * (-4658895280553007687)) ^^^ ((Int64.toUInt64 ((((x0 * (-7046029254386353131)) + ((x2 <<< (Int32.toInt64 23 &&& 63)) ||| ((Int64.toUInt64 x2 >>> ((Int32.toInt64 41).toUInt64 &&& Int64.toUInt64 63)).toInt64))) ^^^ ((Int64.toUInt64 ((x0 * (-7046029254386353131)) + ((x2 <<< (Int32.toInt64 23 &&& 63)) ||| ((Int64.toUInt64 x2 >>> ((Int32.toInt64 41).toUInt64 &&& Int64.toUInt64 63)).toInt64))) >>> ((Int32.toInt64 29).toUInt64 &&& Int64.toUInt64 63)).toInt64)) * (-4658895280553007687)) >>> ((Int32.toInt64 32).toUInt64 &&& Int64.toUInt64 63)).toInt64))), (0, .long x0), (2, .long x2)]) hx hb dX4_mix_43 hl (by decide) rfl (fun ls hl => ?_)
  refine lv_lload hx hb dX4_mix_45 (lv_at hl 0 rfl) ?_
  obtain rfl := Option.some.inj h
  exact W.lret (v := (((((x0 * (-7046029254386353131)) + ((x2 <<< (Int32.toInt64 23 &&& 63)) ||| ((Int64.toUInt64 x2 >>> ((Int32.toInt64 41).toUInt64 &&& Int64.toUInt64 63)).toInt64))) ^^^ ((Int64.toUInt64 ((x0 * (-7046029254386353131)) + ((x2 <<< (Int32.toInt64 23 &&& 63)) ||| ((Int64.toUInt64 x2 >>> ((Int32.toInt64 41).toUInt64 &&& Int64.toUInt64 63)).toInt64))) >>> ((Int32.toInt64 29).toUInt64 &&& Int64.toUInt64 63)).toInt64)) * (-4658895280553007687)) ^^^ ((Int64.toUInt64 ((((x0 * (-7046029254386353131)) + ((x2 <<< (Int32.toInt64 23 &&& 63)) ||| ((Int64.toUInt64 x2 >>> ((Int32.toInt64 41).toUInt64 &&& Int64.toUInt64 63)).toInt64))) ^^^ ((Int64.toUInt64 ((x0 * (-7046029254386353131)) + ((x2 <<< (Int32.toInt64 23 &&& 63)) ||| ((Int64.toUInt64 x2 >>> ((Int32.toInt64 41).toUInt64 &&& Int64.toUInt64 63)).toInt64))) >>> ((Int32.toInt64 29).toUInt64 &&& Int64.toUInt64 63)).toInt64)) * (-4658895280553007687)) >>> ((Int32.toInt64 32).toUInt64 &&& Int64.toUInt64 63)).toInt64))) hx hb hr (fun t ht hW => ⟨⟨_, (), rfl, rfl, by rw [ht]; exact hP, va_K.moved hW.alike hK, hD⟩, hS.F ht⟩) hS.2.2 dX4_mix_47
def f_X4_firstPath_4 : Nat → Int32 → Int32 → Option (Int32)
  | 0, _, _ => none
  | n + 1, y2, y1 => if 6 ≤ y2 then (some y1) else (if 64 ≤ y1 then (some y1) else (f_X4_firstPath_4 n (y2 + 1) (2 * y1)))
def f_X4_firstPath (x0 : Int32) : Option (Int32) := (f_X4_firstPath_4 FU 0 x0).bind fun u3 => some (u3 - 64)
set_option maxHeartbeats 4000000 in
set_option maxRecDepth 100000 in
theorem k_X4_firstPath (l : Launch) (dC : Nat → ClassId) (dI : Nat → Nat → Nat) (cI cJ cZ : ClassId) (x0 : Int32) (u : Int32) (hf : f_X4_firstPath x0 = some u) (sz : Nat) : Met l yX4_firstPath wsX4_firstPath ({ frames := 0, cells := 0, slots := 0, locals := 0 }) (cPre (dC, dI) vwCl (TY cI cJ cZ) [.int x0] ([] : va_W) sz) (va_Qi (fun (r : Int32) (_ : Unit) => r = u) (fun _ t => cB (dC, dI) vwCl (TY cI cJ cZ) (va_A ([] : va_W) sz) ([] : va_W) t) (va_A ([] : va_W) sz)) 0 0 (va_A ([] : va_W) sz) := by
  refine Met.ofW (cc := cX4_firstPath) (maxL := 3) (ret := (some .int)) (by decide) rfl ?_
  intro p e s m args below meth c s₁ B hml hv
  obtain ⟨rfl, hsz, hP, hK, hD0⟩ := hv
  have hx := B.exec
  have hb := B.bytes
  have hr := B.returns
  have hts := atoms_spec (ws := wsX4_firstPath) B.pre
  have hown : s.vm.findClass RX4 = some m.cls := findClass_of_methodNamed B.named
  have hlocks := B.notSynchronized
  subst hsz
  have hD := hD0.self (sz := s.heap.size)
  generalize hAe : va_A ([] : va_W) s.heap.size = A at hD ⊢
  have hA : ∀ q : Nat, s.heap.size ≤ q → A q := fun q h => by rw [← hAe]; exact Or.inr h
  have hS : va_S A s.heap s.heap [] := va_S.rf
  have hl := lv_entry ([.int x0]) (n := 3) (Nat.le_of_ble_eq_true rfl)
  rw [lg_entry_eq]
  generalize (lg_sl ([.int x0]) ++ List.replicate (3 - (lg_sl ([.int x0])).length) Slot.unset).toArray = ls at hl ⊢
  have hl : lv_has ls 3 [(0, .int x0)] := hl
  have h := hf
  unfold f_X4_firstPath at h
  refine lv_iload_n hx hb dX4_firstPath_0 rfl (lv_at hl 0 rfl) ?_
  refine lv_istore_n (lv' := [(1, .int x0), (0, .int x0)]) hx hb dX4_firstPath_1 rfl hl (by decide) rfl (fun ls hl => ?_)
  refine lv_iconst (v := 0) hx hb dX4_firstPath_2 (by decide) ?_
  refine lv_istore_n (lv' := [(2, .int 0), (1, .int x0), (0, .int x0)]) hx hb dX4_firstPath_3 rfl hl (by decide) rfl (fun ls hl => ?_)
  have lp4 : ∀ (Q : State → Prop) (n4 : Nat) (p4_2 : Int32) (p4_1 : Int32) (v4 : Int32), f_X4_firstPath_4 n4 p4_2 p4_1 = some v4 → ∀ (H : Heap) (locs : List Loc) (ls : Array Slot), va_P (dC, dI) vwCl ([] : va_W) H → va_D A ([] : va_W) → va_S A s.heap H locs → lv_has ls 3 [(2, .int p4_2), (1, .int p4_1)] → (∀ (H : Heap) (locs : List Loc) (ls : Array Slot), va_P (dC, dI) vwCl ([] : va_W) H → va_D A ([] : va_W) → va_S A s.heap H locs → lv_has ls 3 [(1, .int v4)] → W p l e (headSpec wsX4_firstPath ({ frames := 0, cells := 0, slots := 0, locals := 0 } : Room)).room s m ([.int x0] : List Value).toArray below meth c H locs 0 0 Q (F0 m 26 ls [])) → W p l e (headSpec wsX4_firstPath ({ frames := 0, cells := 0, slots := 0, locals := 0 } : Room)).room s m ([.int x0] : List Value).toArray below meth c H locs 0 0 Q (F0 m 4 ls []) := by
    intro Q n4
    induction n4 with
    | zero =>
      intro p4_2 p4_1 v4 h
      rw [f_X4_firstPath_4] at h
      cases h
    | succ n4 ih4 =>
      intro p4_2 p4_1 v4 h H locs ls hP hD hS hl kx4
      rw [f_X4_firstPath_4] at h
      refine lv_iload_n hx hb dX4_firstPath_4 rfl (lv_at hl 0 rfl) ?_
      refine lv_bipush (v := 6) hx hb dX4_firstPath_5 (by decide) ?_
      refine lv_icmp_ge (tgt := 26) hx hb dX4_firstPath_7 (by decide) (fun c1 => ?_) (fun c1 => ?_)
      · have h := ie_t c1 h
        obtain rfl := Option.some.inj h
        exact kx4 _ _ _ hP hD hS (lv_sub hl [1] rfl)
      · have h := ie_f c1 h
        refine lv_iload_n hx hb dX4_firstPath_10 rfl (lv_at hl 1 rfl) ?_
        refine lv_bipush (v := 64) hx hb dX4_firstPath_11 (by decide) ?_
        refine lv_icmp_ge (tgt := 26) hx hb dX4_firstPath_13 (by decide) (fun c2 => ?_) (fun c2 => ?_)
        · have h := ie_t c2 h
          obtain rfl := Option.some.inj h
          exact kx4 _ _ _ hP hD hS (lv_sub hl [1] rfl)
        · have h := ie_f c2 h
          refine lv_iconst (v := 2) hx hb dX4_firstPath_16 (by decide) ?_
          refine lv_iload_n hx hb dX4_firstPath_17 rfl (lv_at hl 1 rfl) ?_
          refine lv_imul hx hb dX4_firstPath_18 ?_
          refine lv_istore_n (lv' := [(1, .int (2 * p4_1)), (2, .int p4_2)]) hx hb dX4_firstPath_19 rfl hl (by decide) rfl (fun ls hl => ?_)
          refine lv_iinc (v := (p4_2 + 1)) (lv' := [(2, .int (p4_2 + 1)), (1, .int (2 * p4_1))]) hx hb dX4_firstPath_20 hl (k := 1) rfl rfl (by decide) rfl (fun ls hl => ?_)
          refine lv_goto (tgt := 4) hx hb dX4_firstPath_23 (by decide) ?_
          exact ih4 (p4_2 + 1) (2 * p4_1) v4 h _ _ _ hP hD hS (lv_sub hl [0, 1] rfl) kx4
  obtain ⟨u3, hc3, h⟩ := bd_e h
  refine lp4 _ FU 0 x0 u3 hc3 _ _ _ hP hD hS (lv_sub hl [0, 1] rfl) (fun H locs ls hP hD hS hl => ?_)
  refine lv_iload_n hx hb dX4_firstPath_26 rfl (lv_at hl 0 rfl) ?_
  refine lv_bipush (v := 64) hx hb dX4_firstPath_27 (by decide) ?_
  refine lv_isub hx hb dX4_firstPath_29 ?_
  obtain rfl := Option.some.inj h
  exact W.iret (v := (u3 - 64)) hx hb hr (fun t ht hW => ⟨⟨_, (), rfl, rfl, by rw [ht]; exact hP, va_K.moved hW.alike hK, hD⟩, hS.F ht⟩) hS.2.2 dX4_firstPath_30
def f_X4_lastPath_4 : Nat → Int32 → Int32 → Option (Int32)
  | 0, _, _ => none
  | n + 1, y2, y1 => if 6 ≤ y2 then (some y1) else (if 64 ≤ y1 then (some y1) else (f_X4_lastPath_4 n (y2 + 1) ((2 * y1) + 1)))
def f_X4_lastPath (x0 : Int32) : Option (Int32) := (f_X4_lastPath_4 FU 0 x0).bind fun u3 => some (u3 - 64)
set_option maxHeartbeats 4000000 in
set_option maxRecDepth 100000 in
theorem k_X4_lastPath (l : Launch) (dC : Nat → ClassId) (dI : Nat → Nat → Nat) (cI cJ cZ : ClassId) (x0 : Int32) (u : Int32) (hf : f_X4_lastPath x0 = some u) (sz : Nat) : Met l yX4_lastPath wsX4_lastPath ({ frames := 0, cells := 0, slots := 0, locals := 0 }) (cPre (dC, dI) vwCl (TY cI cJ cZ) [.int x0] ([] : va_W) sz) (va_Qi (fun (r : Int32) (_ : Unit) => r = u) (fun _ t => cB (dC, dI) vwCl (TY cI cJ cZ) (va_A ([] : va_W) sz) ([] : va_W) t) (va_A ([] : va_W) sz)) 0 0 (va_A ([] : va_W) sz) := by
  refine Met.ofW (cc := cX4_lastPath) (maxL := 3) (ret := (some .int)) (by decide) rfl ?_
  intro p e s m args below meth c s₁ B hml hv
  obtain ⟨rfl, hsz, hP, hK, hD0⟩ := hv
  have hx := B.exec
  have hb := B.bytes
  have hr := B.returns
  have hts := atoms_spec (ws := wsX4_lastPath) B.pre
  have hown : s.vm.findClass RX4 = some m.cls := findClass_of_methodNamed B.named
  have hlocks := B.notSynchronized
  subst hsz
  have hD := hD0.self (sz := s.heap.size)
  generalize hAe : va_A ([] : va_W) s.heap.size = A at hD ⊢
  have hA : ∀ q : Nat, s.heap.size ≤ q → A q := fun q h => by rw [← hAe]; exact Or.inr h
  have hS : va_S A s.heap s.heap [] := va_S.rf
  have hl := lv_entry ([.int x0]) (n := 3) (Nat.le_of_ble_eq_true rfl)
  rw [lg_entry_eq]
  generalize (lg_sl ([.int x0]) ++ List.replicate (3 - (lg_sl ([.int x0])).length) Slot.unset).toArray = ls at hl ⊢
  have hl : lv_has ls 3 [(0, .int x0)] := hl
  have h := hf
  unfold f_X4_lastPath at h
  refine lv_iload_n hx hb dX4_lastPath_0 rfl (lv_at hl 0 rfl) ?_
  refine lv_istore_n (lv' := [(1, .int x0), (0, .int x0)]) hx hb dX4_lastPath_1 rfl hl (by decide) rfl (fun ls hl => ?_)
  refine lv_iconst (v := 0) hx hb dX4_lastPath_2 (by decide) ?_
  refine lv_istore_n (lv' := [(2, .int 0), (1, .int x0), (0, .int x0)]) hx hb dX4_lastPath_3 rfl hl (by decide) rfl (fun ls hl => ?_)
  have lp4 : ∀ (Q : State → Prop) (n4 : Nat) (p4_2 : Int32) (p4_1 : Int32) (v4 : Int32), f_X4_lastPath_4 n4 p4_2 p4_1 = some v4 → ∀ (H : Heap) (locs : List Loc) (ls : Array Slot), va_P (dC, dI) vwCl ([] : va_W) H → va_D A ([] : va_W) → va_S A s.heap H locs → lv_has ls 3 [(2, .int p4_2), (1, .int p4_1)] → (∀ (H : Heap) (locs : List Loc) (ls : Array Slot), va_P (dC, dI) vwCl ([] : va_W) H → va_D A ([] : va_W) → va_S A s.heap H locs → lv_has ls 3 [(1, .int v4)] → W p l e (headSpec wsX4_lastPath ({ frames := 0, cells := 0, slots := 0, locals := 0 } : Room)).room s m ([.int x0] : List Value).toArray below meth c H locs 0 0 Q (F0 m 28 ls [])) → W p l e (headSpec wsX4_lastPath ({ frames := 0, cells := 0, slots := 0, locals := 0 } : Room)).room s m ([.int x0] : List Value).toArray below meth c H locs 0 0 Q (F0 m 4 ls []) := by
    intro Q n4
    induction n4 with
    | zero =>
      intro p4_2 p4_1 v4 h
      rw [f_X4_lastPath_4] at h
      cases h
    | succ n4 ih4 =>
      intro p4_2 p4_1 v4 h H locs ls hP hD hS hl kx4
      rw [f_X4_lastPath_4] at h
      refine lv_iload_n hx hb dX4_lastPath_4 rfl (lv_at hl 0 rfl) ?_
      refine lv_bipush (v := 6) hx hb dX4_lastPath_5 (by decide) ?_
      refine lv_icmp_ge (tgt := 28) hx hb dX4_lastPath_7 (by decide) (fun c1 => ?_) (fun c1 => ?_)
      · have h := ie_t c1 h
        obtain rfl := Option.some.inj h
        exact kx4 _ _ _ hP hD hS (lv_sub hl [1] rfl)
      · have h := ie_f c1 h
        refine lv_iload_n hx hb dX4_lastPath_10 rfl (lv_at hl 1 rfl) ?_
        refine lv_bipush (v := 64) hx hb dX4_lastPath_11 (by decide) ?_
        refine lv_icmp_ge (tgt := 28) hx hb dX4_lastPath_13 (by decide) (fun c2 => ?_) (fun c2 => ?_)
        · have h := ie_t c2 h
          obtain rfl := Option.some.inj h
          exact kx4 _ _ _ hP hD hS (lv_sub hl [1] rfl)
        · have h := ie_f c2 h
          refine lv_iconst (v := 2) hx hb dX4_lastPath_16 (by decide) ?_
          refine lv_iload_n hx hb dX4_lastPath_17 rfl (lv_at hl 1 rfl) ?_
          refine lv_imul hx hb dX4_lastPath_18 ?_
          refine lv_iconst (v := 1) hx hb dX4_lastPath_19 (by decide) ?_
          refine lv_iadd hx hb dX4_lastPath_20 ?_
          refine lv_istore_n (lv' := [(1, .int ((2 * p4_1) + 1)), (2, .int p4_2)]) hx hb dX4_lastPath_21 rfl hl (by decide) rfl (fun ls hl => ?_)
          refine lv_iinc (v := (p4_2 + 1)) (lv' := [(2, .int (p4_2 + 1)), (1, .int ((2 * p4_1) + 1))]) hx hb dX4_lastPath_22 hl (k := 1) rfl rfl (by decide) rfl (fun ls hl => ?_)
          refine lv_goto (tgt := 4) hx hb dX4_lastPath_25 (by decide) ?_
          exact ih4 (p4_2 + 1) ((2 * p4_1) + 1) v4 h _ _ _ hP hD hS (lv_sub hl [0, 1] rfl) kx4
  obtain ⟨u3, hc3, h⟩ := bd_e h
  refine lp4 _ FU 0 x0 u3 hc3 _ _ _ hP hD hS (lv_sub hl [0, 1] rfl) (fun H locs ls hP hD hS hl => ?_)
  refine lv_iload_n hx hb dX4_lastPath_28 rfl (lv_at hl 0 rfl) ?_
  refine lv_bipush (v := 64) hx hb dX4_lastPath_29 (by decide) ?_
  refine lv_isub hx hb dX4_lastPath_31 ?_
  obtain rfl := Option.some.inj h
  exact W.iret (v := (u3 - 64)) hx hb hr (fun t ht hW => ⟨⟨_, (), rfl, rfl, by rw [ht]; exact hP, va_K.moved hW.alike hK, hD⟩, hS.F ht⟩) hS.2.2 dX4_lastPath_32
def f_X4_valueOf (s0 : S_Tree) (x1 : Int32) : Option (Int64) := (f_X4_isPath x1).bind fun u1 => if u1 = 0 then (some 0) else (kb (ib x1 64) (some (s0.1 (Int32.toNatClampNeg x1))))
set_option maxHeartbeats 4000000 in
set_option maxRecDepth 100000 in
theorem k_X4_valueOf (l : Launch) (dC : Nat → ClassId) (dI : Nat → Nat → Nat) (cI cJ cZ : ClassId) (h0 h1 h2 : Nat) (s0 : S_Tree) (x1 : Int32) (u : Int64) (hf : f_X4_valueOf s0 x1 = some u) (sz : Nat) : Met l yX4_valueOf wsX4_valueOf ({ frames := 1, cells := 0, slots := 0, locals := 20 }) (cPre (dC, dI) vwCl (TY cI cJ cZ) [.ref h0, .int x1] [(h0, .inr (4, [.ref h1, .ref h2])), (h1, .inl (cJ, 64, .inr (.inl s0.1))), (h2, .inl (cJ, 128, .inr (.inl s0.2)))] sz) (va_Ql (fun (r : Int64) (_ : Unit) => r = u) (fun _ t => cB (dC, dI) vwCl (TY cI cJ cZ) (va_A [(h0, .inr (4, [.ref h1, .ref h2])), (h1, .inl (cJ, 64, .inr (.inl s0.1))), (h2, .inl (cJ, 128, .inr (.inl s0.2)))] sz) [(h0, .inr (4, [.ref h1, .ref h2])), (h1, .inl (cJ, 64, .inr (.inl s0.1))), (h2, .inl (cJ, 128, .inr (.inl s0.2)))] t) (va_A [(h0, .inr (4, [.ref h1, .ref h2])), (h1, .inl (cJ, 64, .inr (.inl s0.1))), (h2, .inl (cJ, 128, .inr (.inl s0.2)))] sz)) 0 0 (va_A [(h0, .inr (4, [.ref h1, .ref h2])), (h1, .inl (cJ, 64, .inr (.inl s0.1))), (h2, .inl (cJ, 128, .inr (.inl s0.2)))] sz) := by
  refine Met.ofW (cc := cX4_valueOf) (maxL := 2) (ret := (some .long)) (by decide) rfl ?_
  intro p e s m args below meth c s₁ B hml hv
  obtain ⟨rfl, hsz, hP, hK, hD0⟩ := hv
  have hx := B.exec
  have hb := B.bytes
  have hr := B.returns
  have hts := atoms_spec (ws := wsX4_valueOf) B.pre
  have hown : s.vm.findClass RX4 = some m.cls := findClass_of_methodNamed B.named
  have hlocks := B.notSynchronized
  subst hsz
  have hD := hD0.self (sz := s.heap.size)
  generalize hAe : va_A [(h0, .inr (4, [.ref h1, .ref h2])), (h1, .inl (cJ, 64, .inr (.inl s0.1))), (h2, .inl (cJ, 128, .inr (.inl s0.2)))] s.heap.size = A at hD ⊢
  have hA : ∀ q : Nat, s.heap.size ≤ q → A q := fun q h => by rw [← hAe]; exact Or.inr h
  have hS : va_S A s.heap s.heap [] := va_S.rf
  have hl := lv_entry ([.ref h0, .int x1]) (n := 2) (Nat.le_of_ble_eq_true rfl)
  rw [lg_entry_eq]
  generalize (lg_sl ([.ref h0, .int x1]) ++ List.replicate (2 - (lg_sl ([.ref h0, .int x1])).length) Slot.unset).toArray = ls at hl ⊢
  have hl : lv_has ls 2 [(0, .ref h0), (1, .int x1)] := hl
  have h := hf
  unfold f_X4_valueOf at h
  refine lv_iload_n hx hb dX4_valueOf_0 rfl (lv_at hl 1 rfl) ?_
  obtain ⟨u1, hc1, h⟩ := bd_e h
  refine cc_i (tys := TY cI cJ cZ) ([] : va_W) [(h0, .inr (4, [.ref h1, .ref h2])), (h1, .inl (cJ, 64, .inr (.inl s0.1))), (h2, .inl (cJ, 128, .inr (.inl s0.2)))] ([] : va_W) [(h0, .inr (4, [.ref h1, .ref h2])), (h1, .inl (cJ, 64, .inr (.inl s0.1))), (h2, .inl (cJ, 128, .inr (.inl s0.2)))] hP hD hS hA [] [0, 1, 2] [0, 1, 2] rfl rfl (by decide) (by decide) rfl (by decide) rfl (va_runS (As := [.int x1]) (rest := []) ⟨hx, hb, hml, hown, hts⟩ (k_X4_isPath l dC dI cI cJ cZ x1 u1 hc1 _) (va_cwS 1 hts gX4_valueOf_X4_isPath rfl rfl rfl (by decide +kernel) ⟨Nat.le_of_ble_eq_true rfl, Nat.le_of_ble_eq_true rfl⟩) ⟨cPre_blind, cPre_in hP hD hK [] rfl (by decide) rfl⟩ rfl rfl hl.1 rfl (lv_room (Nat.le_of_ble_eq_true rfl)) dX4_valueOf_1 ⟨Nat.le_of_ble_eq_true rfl, Nat.le_of_ble_eq_true rfl⟩) (fun H locs hP hD hS => ?_)
  refine lv_if_eq (tgt := 16) hx hb dX4_valueOf_4 (by decide) (fun c2 => ?_) (fun c2 => ?_)
  · have h := ie_t c2 h
    refine lv_lconst (v := 0) hx hb dX4_valueOf_16 (by decide) ?_
    obtain rfl := Option.some.inj h
    exact W.lret (v := 0) hx hb hr (fun t ht hW => ⟨⟨_, (), rfl, rfl, by rw [ht]; exact hP, va_K.moved hW.alike hK, hD⟩, hS.F ht⟩) hS.2.2 dX4_valueOf_17
  · have h := ie_f c2 h
    refine lv_aload_n hx hb dX4_valueOf_7 rfl (lv_at hl 0 rfl) ?_
    refine va_get (D := (dC, dI)) (ci := 4) (v := .ref h1) (C := RX4) (T := TX4) (N := 2) hx hb hts (by decide +kernel) hown hK hP 0 rfl rfl 0 (by decide) (hts (.fieldLink RX4 9 "SnapshotPieces$Tree" "values" "[J") (by decide +kernel)) (fun _ h9 => h9) rfl dX4_valueOf_8 ?_
    refine lv_iload_n hx hb dX4_valueOf_11 rfl (lv_at hl 1 rfl) ?_
    obtain ⟨g3, h⟩ := kb_e h
    refine va_lald hx hb hK hP 1 1 rfl rfl (ib_in g3) dX4_valueOf_12 ?_
    refine lv_goto (tgt := 17) hx hb dX4_valueOf_13 (by decide) ?_
    obtain rfl := Option.some.inj h
    exact W.lret (v := (s0.1 (Int32.toNatClampNeg x1))) hx hb hr (fun t ht hW => ⟨⟨_, (), rfl, rfl, by rw [ht]; exact hP, va_K.moved hW.alike hK, hD⟩, hS.F ht⟩) hS.2.2 dX4_valueOf_17
def f_X4_digestOf (s0 : S_Tree) (x1 : Int32) : Option (Int64) := (f_X4_isNode x1).bind fun u1 => if u1 = 0 then (some 0) else (kb (ib x1 128) (some (s0.2 (Int32.toNatClampNeg x1))))
set_option maxHeartbeats 4000000 in
set_option maxRecDepth 100000 in
theorem k_X4_digestOf (l : Launch) (dC : Nat → ClassId) (dI : Nat → Nat → Nat) (cI cJ cZ : ClassId) (h0 h1 h2 : Nat) (s0 : S_Tree) (x1 : Int32) (u : Int64) (hf : f_X4_digestOf s0 x1 = some u) (sz : Nat) : Met l yX4_digestOf wsX4_digestOf ({ frames := 1, cells := 0, slots := 0, locals := 20 }) (cPre (dC, dI) vwCl (TY cI cJ cZ) [.ref h0, .int x1] [(h0, .inr (4, [.ref h1, .ref h2])), (h1, .inl (cJ, 64, .inr (.inl s0.1))), (h2, .inl (cJ, 128, .inr (.inl s0.2)))] sz) (va_Ql (fun (r : Int64) (_ : Unit) => r = u) (fun _ t => cB (dC, dI) vwCl (TY cI cJ cZ) (va_A [(h0, .inr (4, [.ref h1, .ref h2])), (h1, .inl (cJ, 64, .inr (.inl s0.1))), (h2, .inl (cJ, 128, .inr (.inl s0.2)))] sz) [(h0, .inr (4, [.ref h1, .ref h2])), (h1, .inl (cJ, 64, .inr (.inl s0.1))), (h2, .inl (cJ, 128, .inr (.inl s0.2)))] t) (va_A [(h0, .inr (4, [.ref h1, .ref h2])), (h1, .inl (cJ, 64, .inr (.inl s0.1))), (h2, .inl (cJ, 128, .inr (.inl s0.2)))] sz)) 0 0 (va_A [(h0, .inr (4, [.ref h1, .ref h2])), (h1, .inl (cJ, 64, .inr (.inl s0.1))), (h2, .inl (cJ, 128, .inr (.inl s0.2)))] sz) := by
  refine Met.ofW (cc := cX4_digestOf) (maxL := 2) (ret := (some .long)) (by decide) rfl ?_
  intro p e s m args below meth c s₁ B hml hv
  obtain ⟨rfl, hsz, hP, hK, hD0⟩ := hv
  have hx := B.exec
  have hb := B.bytes
  have hr := B.returns
  have hts := atoms_spec (ws := wsX4_digestOf) B.pre
  have hown : s.vm.findClass RX4 = some m.cls := findClass_of_methodNamed B.named
  have hlocks := B.notSynchronized
  subst hsz
  have hD := hD0.self (sz := s.heap.size)
  generalize hAe : va_A [(h0, .inr (4, [.ref h1, .ref h2])), (h1, .inl (cJ, 64, .inr (.inl s0.1))), (h2, .inl (cJ, 128, .inr (.inl s0.2)))] s.heap.size = A at hD ⊢
  have hA : ∀ q : Nat, s.heap.size ≤ q → A q := fun q h => by rw [← hAe]; exact Or.inr h
  have hS : va_S A s.heap s.heap [] := va_S.rf
  have hl := lv_entry ([.ref h0, .int x1]) (n := 2) (Nat.le_of_ble_eq_true rfl)
  rw [lg_entry_eq]
  generalize (lg_sl ([.ref h0, .int x1]) ++ List.replicate (2 - (lg_sl ([.ref h0, .int x1])).length) Slot.unset).toArray = ls at hl ⊢
  have hl : lv_has ls 2 [(0, .ref h0), (1, .int x1)] := hl
  have h := hf
  unfold f_X4_digestOf at h
  refine lv_iload_n hx hb dX4_digestOf_0 rfl (lv_at hl 1 rfl) ?_
  obtain ⟨u1, hc1, h⟩ := bd_e h
  refine cc_i (tys := TY cI cJ cZ) ([] : va_W) [(h0, .inr (4, [.ref h1, .ref h2])), (h1, .inl (cJ, 64, .inr (.inl s0.1))), (h2, .inl (cJ, 128, .inr (.inl s0.2)))] ([] : va_W) [(h0, .inr (4, [.ref h1, .ref h2])), (h1, .inl (cJ, 64, .inr (.inl s0.1))), (h2, .inl (cJ, 128, .inr (.inl s0.2)))] hP hD hS hA [] [0, 1, 2] [0, 1, 2] rfl rfl (by decide) (by decide) rfl (by decide) rfl (va_runS (As := [.int x1]) (rest := []) ⟨hx, hb, hml, hown, hts⟩ (k_X4_isNode l dC dI cI cJ cZ x1 u1 hc1 _) (va_cwS 1 hts gX4_digestOf_X4_isNode rfl rfl rfl (by decide +kernel) ⟨Nat.le_of_ble_eq_true rfl, Nat.le_of_ble_eq_true rfl⟩) ⟨cPre_blind, cPre_in hP hD hK [] rfl (by decide) rfl⟩ rfl rfl hl.1 rfl (lv_room (Nat.le_of_ble_eq_true rfl)) dX4_digestOf_1 ⟨Nat.le_of_ble_eq_true rfl, Nat.le_of_ble_eq_true rfl⟩) (fun H locs hP hD hS => ?_)
  refine lv_if_eq (tgt := 16) hx hb dX4_digestOf_4 (by decide) (fun c2 => ?_) (fun c2 => ?_)
  · have h := ie_t c2 h
    refine lv_lconst (v := 0) hx hb dX4_digestOf_16 (by decide) ?_
    obtain rfl := Option.some.inj h
    exact W.lret (v := 0) hx hb hr (fun t ht hW => ⟨⟨_, (), rfl, rfl, by rw [ht]; exact hP, va_K.moved hW.alike hK, hD⟩, hS.F ht⟩) hS.2.2 dX4_digestOf_17
  · have h := ie_f c2 h
    refine lv_aload_n hx hb dX4_digestOf_7 rfl (lv_at hl 0 rfl) ?_
    refine va_get (D := (dC, dI)) (ci := 4) (v := .ref h2) (C := RX4) (T := TX4) (N := 2) hx hb hts (by decide +kernel) hown hK hP 0 rfl rfl 1 (by decide) (hts (.fieldLink RX4 13 "SnapshotPieces$Tree" "digests" "[J") (by decide +kernel)) (fun _ h9 => h9) rfl dX4_digestOf_8 ?_
    refine lv_iload_n hx hb dX4_digestOf_11 rfl (lv_at hl 1 rfl) ?_
    obtain ⟨g3, h⟩ := kb_e h
    refine va_lald hx hb hK hP 2 1 rfl rfl (ib_in g3) dX4_digestOf_12 ?_
    refine lv_goto (tgt := 17) hx hb dX4_digestOf_13 (by decide) ?_
    obtain rfl := Option.some.inj h
    exact W.lret (v := (s0.2 (Int32.toNatClampNeg x1))) hx hb hr (fun t ht hW => ⟨⟨_, (), rfl, rfl, by rw [ht]; exact hP, va_K.moved hW.alike hK, hD⟩, hS.F ht⟩) hS.2.2 dX4_digestOf_17
def f_X4_renew_21 (y3 : Int32) (t0 : (Nat → Int64)) : Nat → Int32 → (Nat → Int64) → Option ((Nat → Int64))
  | 0, _, _ => none
  | n + 1, y4, t1 => if y3 < y4 then (some t1) else (kb (ib y4 64) (if (t0 (Int32.toNatClampNeg y4)) = 0 then (kb (ib (64 + y4) 128) (f_X4_renew_21 y3 t0 n (y4 + 1) (vp_updL t1 (Int32.toNatClampNeg (64 + y4)) 0))) else (kb (ib y4 64) ((f_X4_mix ((Int32.toInt64 y4) + 1) (t0 (Int32.toNatClampNeg y4))).bind fun u9 => kb (ib (64 + y4) 128) (f_X4_renew_21 y3 t0 n (y4 + 1) (vp_updL t1 (Int32.toNatClampNeg (64 + y4)) u9))))))
def f_X4_renew_112 (y5 : Int32) : Nat → Int32 → (Nat → Int64) → Option ((Nat → Int64))
  | 0, _, _ => none
  | n + 1, y7, t1 => if y5 < y7 then (some t1) else (kb (ib (2 * y7) 128) (kb (ib ((2 * y7) + 1) 128) ((f_X4_mix (t1 (Int32.toNatClampNeg (2 * y7))) (t1 (Int32.toNatClampNeg ((2 * y7) + 1)))).bind fun u17 => kb (ib y7 128) (f_X4_renew_112 y5 n (y7 + 1) (vp_updL t1 (Int32.toNatClampNeg y7) u17)))))
def f_X4_renew_89 : Nat → Int32 → Int32 → Int32 → (Nat → Int64) → Option ((Nat → Int64))
  | 0, _, _, _, _ => none
  | n + 1, y6, y5, y4, t1 => if 6 ≤ y6 then (some t1) else ((f_X4_renew_112 (y5 / 2) FU (y4 / 2) t1).bind fun u19 => f_X4_renew_89 n (y6 + 1) (y5 / 2) (y4 / 2) u19)
def f_X4_renew (s0 : S_Tree) (x1 : Int32) : Option (S_Tree) := (f_X4_isNode x1).bind fun u1 => if u1 = 0 then (some s0) else ((f_X4_firstPath x1).bind fun u3 => (f_X4_lastPath x1).bind fun u4 => (f_X4_renew_21 u4 s0.1 FU u3 s0.2).bind fun u12 => (f_X4_renew_89 FU 0 (64 + u4) (64 + u3) u12).bind fun u20 => some (s0.1, u20))
set_option maxHeartbeats 4000000 in
set_option maxRecDepth 100000 in
theorem k_X4_renew (l : Launch) (dC : Nat → ClassId) (dI : Nat → Nat → Nat) (cI cJ cZ : ClassId) (h0 h1 h2 : Nat) (s0 : S_Tree) (x1 : Int32) (u : S_Tree) (hf : f_X4_renew s0 x1 = some u) (sz : Nat) : Met l yX4_renew wsX4_renew ({ frames := 1, cells := 0, slots := 0, locals := 25 }) (cPre (dC, dI) vwCl (TY cI cJ cZ) [.ref h0, .int x1] [(h0, .inr (4, [.ref h1, .ref h2])), (h1, .inl (cJ, 64, .inr (.inl s0.1))), (h2, .inl (cJ, 128, .inr (.inl s0.2)))] sz) (va_Qv (fun (_ : Unit) => True) (fun _ t => cB (dC, dI) vwCl (TY cI cJ cZ) (va_A [(h0, .inr (4, [.ref h1, .ref h2])), (h1, .inl (cJ, 64, .inr (.inl s0.1))), (h2, .inl (cJ, 128, .inr (.inl s0.2)))] sz) [(h0, .inr (4, [.ref h1, .ref h2])), (h1, .inl (cJ, 64, .inr (.inl u.1))), (h2, .inl (cJ, 128, .inr (.inl u.2)))] t) (va_A [(h0, .inr (4, [.ref h1, .ref h2])), (h1, .inl (cJ, 64, .inr (.inl s0.1))), (h2, .inl (cJ, 128, .inr (.inl s0.2)))] sz)) 0 0 (va_A [(h0, .inr (4, [.ref h1, .ref h2])), (h1, .inl (cJ, 64, .inr (.inl s0.1))), (h2, .inl (cJ, 128, .inr (.inl s0.2)))] sz) := by
  refine Met.ofW (cc := cX4_renew) (maxL := 8) (ret := none) (by decide) rfl ?_
  intro p e s m args below meth c s₁ B hml hv
  obtain ⟨rfl, hsz, hP, hK, hD0⟩ := hv
  have hx := B.exec
  have hb := B.bytes
  have hr := B.returns
  have hts := atoms_spec (ws := wsX4_renew) B.pre
  have hown : s.vm.findClass RX4 = some m.cls := findClass_of_methodNamed B.named
  have hlocks := B.notSynchronized
  subst hsz
  have hD := hD0.self (sz := s.heap.size)
  generalize hAe : va_A [(h0, .inr (4, [.ref h1, .ref h2])), (h1, .inl (cJ, 64, .inr (.inl s0.1))), (h2, .inl (cJ, 128, .inr (.inl s0.2)))] s.heap.size = A at hD ⊢
  have hA : ∀ q : Nat, s.heap.size ≤ q → A q := fun q h => by rw [← hAe]; exact Or.inr h
  have hS : va_S A s.heap s.heap [] := va_S.rf
  have hl := lv_entry ([.ref h0, .int x1]) (n := 8) (Nat.le_of_ble_eq_true rfl)
  rw [lg_entry_eq]
  generalize (lg_sl ([.ref h0, .int x1]) ++ List.replicate (8 - (lg_sl ([.ref h0, .int x1])).length) Slot.unset).toArray = ls at hl ⊢
  have hl : lv_has ls 8 [(0, .ref h0), (1, .int x1)] := hl
  have h := hf
  unfold f_X4_renew at h
  refine lv_iload_n hx hb dX4_renew_0 rfl (lv_at hl 1 rfl) ?_
  obtain ⟨u1, hc1, h⟩ := bd_e h
  refine cc_i (tys := TY cI cJ cZ) ([] : va_W) [(h0, .inr (4, [.ref h1, .ref h2])), (h1, .inl (cJ, 64, .inr (.inl s0.1))), (h2, .inl (cJ, 128, .inr (.inl s0.2)))] ([] : va_W) [(h0, .inr (4, [.ref h1, .ref h2])), (h1, .inl (cJ, 64, .inr (.inl s0.1))), (h2, .inl (cJ, 128, .inr (.inl s0.2)))] hP hD hS hA [] [0, 1, 2] [0, 1, 2] rfl rfl (by decide) (by decide) rfl (by decide) rfl (va_runS (As := [.int x1]) (rest := []) ⟨hx, hb, hml, hown, hts⟩ (k_X4_isNode l dC dI cI cJ cZ x1 u1 hc1 _) (va_cwS 1 hts gX4_renew_X4_isNode rfl rfl rfl (by decide +kernel) ⟨Nat.le_of_ble_eq_true rfl, Nat.le_of_ble_eq_true rfl⟩) ⟨cPre_blind, cPre_in hP hD hK [] rfl (by decide) rfl⟩ rfl rfl hl.1 rfl (lv_room (Nat.le_of_ble_eq_true rfl)) dX4_renew_1 ⟨Nat.le_of_ble_eq_true rfl, Nat.le_of_ble_eq_true rfl⟩) (fun H locs hP hD hS => ?_)
  refine lv_if_ne (tgt := 8) hx hb dX4_renew_4 (by decide) (fun c2 => ?_) (fun c2 => ?_)
  · have h := ie_f c2 h
    refine lv_iload_n hx hb dX4_renew_8 rfl (lv_at hl 1 rfl) ?_
    obtain ⟨u3, hc3, h⟩ := bd_e h
    refine cc_i (tys := TY cI cJ cZ) ([] : va_W) [(h0, .inr (4, [.ref h1, .ref h2])), (h1, .inl (cJ, 64, .inr (.inl s0.1))), (h2, .inl (cJ, 128, .inr (.inl s0.2)))] ([] : va_W) [(h0, .inr (4, [.ref h1, .ref h2])), (h1, .inl (cJ, 64, .inr (.inl s0.1))), (h2, .inl (cJ, 128, .inr (.inl s0.2)))] hP hD hS hA [] [0, 1, 2] [0, 1, 2] rfl rfl (by decide) (by decide) rfl (by decide) rfl (va_runS (As := [.int x1]) (rest := []) ⟨hx, hb, hml, hown, hts⟩ (k_X4_firstPath l dC dI cI cJ cZ x1 u3 hc3 _) (va_cwS 1 hts gX4_renew_X4_firstPath rfl rfl rfl (by decide +kernel) ⟨Nat.le_of_ble_eq_true rfl, Nat.le_of_ble_eq_true rfl⟩) ⟨cPre_blind, cPre_in hP hD hK [] rfl (by decide) rfl⟩ rfl rfl hl.1 rfl (lv_room (Nat.le_of_ble_eq_true rfl)) dX4_renew_9 ⟨Nat.le_of_ble_eq_true rfl, Nat.le_of_ble_eq_true rfl⟩) (fun H locs hP hD hS => ?_)
    refine lv_istore_n (lv' := [(2, .int u3), (0, .ref h0), (1, .int x1)]) hx hb dX4_renew_12 rfl hl (by decide) rfl (fun ls hl => ?_)
    refine lv_iload_n hx hb dX4_renew_13 rfl (lv_at hl 2 rfl) ?_
    obtain ⟨u4, hc4, h⟩ := bd_e h
    refine cc_i (tys := TY cI cJ cZ) ([] : va_W) [(h0, .inr (4, [.ref h1, .ref h2])), (h1, .inl (cJ, 64, .inr (.inl s0.1))), (h2, .inl (cJ, 128, .inr (.inl s0.2)))] ([] : va_W) [(h0, .inr (4, [.ref h1, .ref h2])), (h1, .inl (cJ, 64, .inr (.inl s0.1))), (h2, .inl (cJ, 128, .inr (.inl s0.2)))] hP hD hS hA [] [0, 1, 2] [0, 1, 2] rfl rfl (by decide) (by decide) rfl (by decide) rfl (va_runS (As := [.int x1]) (rest := []) ⟨hx, hb, hml, hown, hts⟩ (k_X4_lastPath l dC dI cI cJ cZ x1 u4 hc4 _) (va_cwS 1 hts gX4_renew_X4_lastPath rfl rfl rfl (by decide +kernel) ⟨Nat.le_of_ble_eq_true rfl, Nat.le_of_ble_eq_true rfl⟩) ⟨cPre_blind, cPre_in hP hD hK [] rfl (by decide) rfl⟩ rfl rfl hl.1 rfl (lv_room (Nat.le_of_ble_eq_true rfl)) dX4_renew_14 ⟨Nat.le_of_ble_eq_true rfl, Nat.le_of_ble_eq_true rfl⟩) (fun H locs hP hD hS => ?_)
    refine lv_istore_n (lv' := [(3, .int u4), (2, .int u3), (0, .ref h0), (1, .int x1)]) hx hb dX4_renew_17 rfl hl (by decide) rfl (fun ls hl => ?_)
    refine lv_iload_n hx hb dX4_renew_18 rfl (lv_at hl 1 rfl) ?_
    refine lv_istore (lv' := [(4, .int u3), (3, .int u4), (2, .int u3), (0, .ref h0), (1, .int x1)]) hx hb dX4_renew_19 hl (by decide) rfl (fun ls hl => ?_)
    have lp21 : ∀ (Q : State → Prop) (n21 : Nat) (p21_4 : Int32) (q21_0 : (Nat → Int64)) (v21 : (Nat → Int64)), f_X4_renew_21 u4 s0.1 n21 p21_4 q21_0 = some v21 → ∀ (H : Heap) (locs : List Loc) (ls : Array Slot), va_P (dC, dI) vwCl [(h0, .inr (4, [.ref h1, .ref h2])), (h1, .inl (cJ, 64, .inr (.inl s0.1))), (h2, .inl (cJ, 128, .inr (.inl q21_0)))] H → va_D A [(h0, .inr (4, [.ref h1, .ref h2])), (h1, .inl (cJ, 64, .inr (.inl s0.1))), (h2, .inl (cJ, 128, .inr (.inl q21_0)))] → va_S A s.heap H locs → lv_has ls 8 [(4, .int p21_4), (3, .int u4), (2, .int u3), (0, .ref h0)] → (∀ (H : Heap) (locs : List Loc) (ls : Array Slot), va_P (dC, dI) vwCl [(h0, .inr (4, [.ref h1, .ref h2])), (h1, .inl (cJ, 64, .inr (.inl s0.1))), (h2, .inl (cJ, 128, .inr (.inl v21)))] H → va_D A [(h0, .inr (4, [.ref h1, .ref h2])), (h1, .inl (cJ, 64, .inr (.inl s0.1))), (h2, .inl (cJ, 128, .inr (.inl v21)))] → va_S A s.heap H locs → lv_has ls 8 [(3, .int u4), (2, .int u3), (0, .ref h0)] → W p l e (headSpec wsX4_renew ({ frames := 1, cells := 0, slots := 0, locals := 25 } : Room)).room s m ([.ref h0, .int x1] : List Value).toArray below meth c H locs 0 0 Q (F0 m 74 ls [])) → W p l e (headSpec wsX4_renew ({ frames := 1, cells := 0, slots := 0, locals := 25 } : Room)).room s m ([.ref h0, .int x1] : List Value).toArray below meth c H locs 0 0 Q (F0 m 21 ls []) := by
      intro Q n21
      induction n21 with
      | zero =>
        intro p21_4 q21_0 v21 h
        rw [f_X4_renew_21] at h
        cases h
      | succ n21 ih21 =>
        intro p21_4 q21_0 v21 h H locs ls hP hD hS hl kx21
        rw [f_X4_renew_21] at h
        refine lv_iload hx hb dX4_renew_21 (lv_at hl 0 rfl) ?_
        refine lv_iload_n hx hb dX4_renew_23 rfl (lv_at hl 1 rfl) ?_
        refine lv_icmp_gt (tgt := 74) hx hb dX4_renew_24 (by decide) (fun c5 => ?_) (fun c5 => ?_)
        · have h := ie_t c5 h
          obtain rfl := Option.some.inj h
          exact kx21 _ _ _ hP hD hS (lv_sub hl [1, 2, 3] rfl)
        · have h := ie_f c5 h
          refine lv_aload_n hx hb dX4_renew_27 rfl (lv_at hl 3 rfl) ?_
          refine va_get (D := (dC, dI)) (ci := 4) (v := .ref h2) (C := RX4) (T := TX4) (N := 2) hx hb hts (by decide +kernel) hown hK hP 0 rfl rfl 1 (by decide) (hts (.fieldLink RX4 13 "SnapshotPieces$Tree" "digests" "[J") (by decide +kernel)) (fun _ h9 => h9) rfl dX4_renew_28 ?_
          refine lv_bipush (v := 64) hx hb dX4_renew_31 (by decide) ?_
          refine lv_iload hx hb dX4_renew_33 (lv_at hl 0 rfl) ?_
          refine lv_iadd hx hb dX4_renew_35 ?_
          refine lv_aload_n hx hb dX4_renew_36 rfl (lv_at hl 3 rfl) ?_
          refine va_get (D := (dC, dI)) (ci := 4) (v := .ref h1) (C := RX4) (T := TX4) (N := 2) hx hb hts (by decide +kernel) hown hK hP 0 rfl rfl 0 (by decide) (hts (.fieldLink RX4 9 "SnapshotPieces$Tree" "values" "[J") (by decide +kernel)) (fun _ h9 => h9) rfl dX4_renew_37 ?_
          refine lv_iload hx hb dX4_renew_40 (lv_at hl 0 rfl) ?_
          obtain ⟨g6, h⟩ := kb_e h
          refine va_lald hx hb hK hP 1 1 rfl rfl (ib_in g6) dX4_renew_42 ?_
          refine lv_lconst (v := 0) hx hb dX4_renew_43 (by decide) ?_
          refine W.lcmp hx hb dX4_renew_44 ?_
          refine lv_if_ne (tgt := 52) hx hb dX4_renew_45 (by decide) (fun c7 => ?_) (fun c7 => ?_)
          · have c7 := lgz_f c7
            have h := ie_f c7 h
            refine lv_iload hx hb dX4_renew_52 (lv_at hl 0 rfl) ?_
            refine lv_i2l hx hb dX4_renew_54 rfl ?_
            refine lv_lconst (v := 1) hx hb dX4_renew_55 (by decide) ?_
            refine lv_ladd hx hb dX4_renew_56 ?_
            refine lv_aload_n hx hb dX4_renew_57 rfl (lv_at hl 3 rfl) ?_
            refine va_get (D := (dC, dI)) (ci := 4) (v := .ref h1) (C := RX4) (T := TX4) (N := 2) hx hb hts (by decide +kernel) hown hK hP 0 rfl rfl 0 (by decide) (hts (.fieldLink RX4 9 "SnapshotPieces$Tree" "values" "[J") (by decide +kernel)) (fun _ h9 => h9) rfl dX4_renew_58 ?_
            refine lv_iload hx hb dX4_renew_61 (lv_at hl 0 rfl) ?_
            obtain ⟨g8, h⟩ := kb_e h
            refine va_lald hx hb hK hP 1 1 rfl rfl (ib_in g8) dX4_renew_63 ?_
            obtain ⟨u9, hc9, h⟩ := bd_e h
            refine cc_l (tys := TY cI cJ cZ) ([] : va_W) [(h0, .inr (4, [.ref h1, .ref h2])), (h1, .inl (cJ, 64, .inr (.inl s0.1))), (h2, .inl (cJ, 128, .inr (.inl q21_0)))] ([] : va_W) [(h0, .inr (4, [.ref h1, .ref h2])), (h1, .inl (cJ, 64, .inr (.inl s0.1))), (h2, .inl (cJ, 128, .inr (.inl q21_0)))] hP hD hS hA [] [0, 1, 2] [0, 1, 2] rfl rfl (by decide) (by decide) rfl (by decide) rfl (va_runS (As := [.long ((Int32.toInt64 p21_4) + 1), .long (s0.1 (Int32.toNatClampNeg p21_4))]) (rest := [.int (64 + p21_4), .ref h2]) ⟨hx, hb, hml, hown, hts⟩ (k_X4_mix l dC dI cI cJ cZ ((Int32.toInt64 p21_4) + 1) (s0.1 (Int32.toNatClampNeg p21_4)) u9 hc9 _) (va_cwS 2 hts gX4_renew_X4_mix rfl rfl rfl (by decide +kernel) ⟨Nat.le_of_ble_eq_true rfl, Nat.le_of_ble_eq_true rfl⟩) ⟨cPre_blind, cPre_in hP hD hK [] rfl (by decide) rfl⟩ rfl rfl hl.1 rfl (lv_room (Nat.le_of_ble_eq_true rfl)) dX4_renew_64 ⟨Nat.le_of_ble_eq_true rfl, Nat.le_of_ble_eq_true rfl⟩) (fun H locs hP hD hS => ?_)
            obtain ⟨g10, h⟩ := kb_e h
            refine va_last hx hb hK hP hD hS 2 1 rfl rfl (ib_in g10) dX4_renew_67 (fun H locs hP hD hS => ?_)
            have hP : va_P (dC, dI) vwCl [(h0, .inr (4, [.ref h1, .ref h2])), (h1, .inl (cJ, 64, .inr (.inl s0.1))), (h2, .inl (cJ, 128, .inr (.inl (vp_updL q21_0 (Int32.toNatClampNeg (64 + p21_4)) u9))))] H := hP
            have hD : va_D A [(h0, .inr (4, [.ref h1, .ref h2])), (h1, .inl (cJ, 64, .inr (.inl s0.1))), (h2, .inl (cJ, 128, .inr (.inl (vp_updL q21_0 (Int32.toNatClampNeg (64 + p21_4)) u9))))] := hD
            refine lv_iinc (v := (p21_4 + 1)) (lv' := [(4, .int (p21_4 + 1)), (3, .int u4), (2, .int u3), (0, .ref h0)]) hx hb dX4_renew_68 hl (k := 0) rfl rfl (by decide) rfl (fun ls hl => ?_)
            refine lv_goto (tgt := 21) hx hb dX4_renew_71 (by decide) ?_
            exact ih21 (p21_4 + 1) (vp_updL q21_0 (Int32.toNatClampNeg (64 + p21_4)) u9) v21 h _ _ _ hP hD hS (lv_sub hl [0, 1, 2, 3] rfl) kx21
          · have c7 := lgz_t c7
            have h := ie_t c7 h
            refine lv_lconst (v := 0) hx hb dX4_renew_48 (by decide) ?_
            refine lv_goto (tgt := 67) hx hb dX4_renew_49 (by decide) ?_
            obtain ⟨g11, h⟩ := kb_e h
            refine va_last hx hb hK hP hD hS 2 1 rfl rfl (ib_in g11) dX4_renew_67 (fun H locs hP hD hS => ?_)
            have hP : va_P (dC, dI) vwCl [(h0, .inr (4, [.ref h1, .ref h2])), (h1, .inl (cJ, 64, .inr (.inl s0.1))), (h2, .inl (cJ, 128, .inr (.inl (vp_updL q21_0 (Int32.toNatClampNeg (64 + p21_4)) 0))))] H := hP
            have hD : va_D A [(h0, .inr (4, [.ref h1, .ref h2])), (h1, .inl (cJ, 64, .inr (.inl s0.1))), (h2, .inl (cJ, 128, .inr (.inl (vp_updL q21_0 (Int32.toNatClampNeg (64 + p21_4)) 0))))] := hD
            refine lv_iinc (v := (p21_4 + 1)) (lv' := [(4, .int (p21_4 + 1)), (3, .int u4), (2, .int u3), (0, .ref h0)]) hx hb dX4_renew_68 hl (k := 0) rfl rfl (by decide) rfl (fun ls hl => ?_)
            refine lv_goto (tgt := 21) hx hb dX4_renew_71 (by decide) ?_
            exact ih21 (p21_4 + 1) (vp_updL q21_0 (Int32.toNatClampNeg (64 + p21_4)) 0) v21 h _ _ _ hP hD hS (lv_sub hl [0, 1, 2, 3] rfl) kx21
    obtain ⟨u12, hc12, h⟩ := bd_e h
    refine lp21 _ FU u3 s0.2 u12 hc12 _ _ _ hP hD hS (lv_sub hl [0, 1, 2, 3] rfl) (fun H locs ls hP hD hS hl => ?_)
    refine lv_bipush (v := 64) hx hb dX4_renew_74 (by decide) ?_
    refine lv_iload_n hx hb dX4_renew_76 rfl (lv_at hl 1 rfl) ?_
    refine lv_iadd hx hb dX4_renew_77 ?_
    refine lv_istore (lv' := [(4, .int (64 + u3)), (3, .int u4), (2, .int u3), (0, .ref h0)]) hx hb dX4_renew_78 hl (by decide) rfl (fun ls hl => ?_)
    refine lv_bipush (v := 64) hx hb dX4_renew_80 (by decide) ?_
    refine lv_iload_n hx hb dX4_renew_82 rfl (lv_at hl 1 rfl) ?_
    refine lv_iadd hx hb dX4_renew_83 ?_
    refine lv_istore (lv' := [(5, .int (64 + u4)), (4, .int (64 + u3)), (3, .int u4), (2, .int u3), (0, .ref h0)]) hx hb dX4_renew_84 hl (by decide) rfl (fun ls hl => ?_)
    refine lv_iconst (v := 0) hx hb dX4_renew_86 (by decide) ?_
    refine lv_istore (lv' := [(6, .int 0), (5, .int (64 + u4)), (4, .int (64 + u3)), (3, .int u4), (2, .int u3), (0, .ref h0)]) hx hb dX4_renew_87 hl (by decide) rfl (fun ls hl => ?_)
    have lp89 : ∀ (Q : State → Prop) (n89 : Nat) (p89_6 : Int32) (p89_5 : Int32) (p89_4 : Int32) (q89_0 : (Nat → Int64)) (v89 : (Nat → Int64)), f_X4_renew_89 n89 p89_6 p89_5 p89_4 q89_0 = some v89 → ∀ (H : Heap) (locs : List Loc) (ls : Array Slot), va_P (dC, dI) vwCl [(h0, .inr (4, [.ref h1, .ref h2])), (h1, .inl (cJ, 64, .inr (.inl s0.1))), (h2, .inl (cJ, 128, .inr (.inl q89_0)))] H → va_D A [(h0, .inr (4, [.ref h1, .ref h2])), (h1, .inl (cJ, 64, .inr (.inl s0.1))), (h2, .inl (cJ, 128, .inr (.inl q89_0)))] → va_S A s.heap H locs → lv_has ls 8 [(6, .int p89_6), (5, .int p89_5), (4, .int p89_4), (0, .ref h0)] → (∀ (H : Heap) (locs : List Loc) (ls : Array Slot), va_P (dC, dI) vwCl [(h0, .inr (4, [.ref h1, .ref h2])), (h1, .inl (cJ, 64, .inr (.inl s0.1))), (h2, .inl (cJ, 128, .inr (.inl v89)))] H → va_D A [(h0, .inr (4, [.ref h1, .ref h2])), (h1, .inl (cJ, 64, .inr (.inl s0.1))), (h2, .inl (cJ, 128, .inr (.inl v89)))] → va_S A s.heap H locs → lv_has ls 8 [] → W p l e (headSpec wsX4_renew ({ frames := 1, cells := 0, slots := 0, locals := 25 } : Room)).room s m ([.ref h0, .int x1] : List Value).toArray below meth c H locs 0 0 Q (F0 m 161 ls [])) → W p l e (headSpec wsX4_renew ({ frames := 1, cells := 0, slots := 0, locals := 25 } : Room)).room s m ([.ref h0, .int x1] : List Value).toArray below meth c H locs 0 0 Q (F0 m 89 ls []) := by
      intro Q n89
      induction n89 with
      | zero =>
        intro p89_6 p89_5 p89_4 q89_0 v89 h
        rw [f_X4_renew_89] at h
        cases h
      | succ n89 ih89 =>
        intro p89_6 p89_5 p89_4 q89_0 v89 h H locs ls hP hD hS hl kx89
        rw [f_X4_renew_89] at h
        refine lv_iload hx hb dX4_renew_89 (lv_at hl 0 rfl) ?_
        refine lv_bipush (v := 6) hx hb dX4_renew_91 (by decide) ?_
        refine lv_icmp_ge (tgt := 161) hx hb dX4_renew_93 (by decide) (fun c13 => ?_) (fun c13 => ?_)
        · have h := ie_t c13 h
          obtain rfl := Option.some.inj h
          exact kx89 _ _ _ hP hD hS (lv_sub hl [] rfl)
        · have h := ie_f c13 h
          refine lv_iload hx hb dX4_renew_96 (lv_at hl 2 rfl) ?_
          refine lv_iconst (v := 2) hx hb dX4_renew_98 (by decide) ?_
          refine lv_idiv hx hb dX4_renew_99 (by decide) ?_
          refine lv_istore (lv' := [(4, .int (p89_4 / 2)), (6, .int p89_6), (5, .int p89_5), (0, .ref h0)]) hx hb dX4_renew_100 hl (by decide) rfl (fun ls hl => ?_)
          refine lv_iload hx hb dX4_renew_102 (lv_at hl 2 rfl) ?_
          refine lv_iconst (v := 2) hx hb dX4_renew_104 (by decide) ?_
          refine lv_idiv hx hb dX4_renew_105 (by decide) ?_
          refine lv_istore (lv' := [(5, .int (p89_5 / 2)), (4, .int (p89_4 / 2)), (6, .int p89_6), (0, .ref h0)]) hx hb dX4_renew_106 hl (by decide) rfl (fun ls hl => ?_)
          refine lv_iload hx hb dX4_renew_108 (lv_at hl 1 rfl) ?_
          refine lv_istore (lv' := [(7, .int (p89_4 / 2)), (5, .int (p89_5 / 2)), (4, .int (p89_4 / 2)), (6, .int p89_6), (0, .ref h0)]) hx hb dX4_renew_110 hl (by decide) rfl (fun ls hl => ?_)
          have lp112 : ∀ (Q : State → Prop) (n112 : Nat) (p112_7 : Int32) (q112_0 : (Nat → Int64)) (v112 : (Nat → Int64)), f_X4_renew_112 (p89_5 / 2) n112 p112_7 q112_0 = some v112 → ∀ (H : Heap) (locs : List Loc) (ls : Array Slot), va_P (dC, dI) vwCl [(h0, .inr (4, [.ref h1, .ref h2])), (h1, .inl (cJ, 64, .inr (.inl s0.1))), (h2, .inl (cJ, 128, .inr (.inl q112_0)))] H → va_D A [(h0, .inr (4, [.ref h1, .ref h2])), (h1, .inl (cJ, 64, .inr (.inl s0.1))), (h2, .inl (cJ, 128, .inr (.inl q112_0)))] → va_S A s.heap H locs → lv_has ls 8 [(7, .int p112_7), (5, .int (p89_5 / 2)), (4, .int (p89_4 / 2)), (6, .int p89_6), (0, .ref h0)] → (∀ (H : Heap) (locs : List Loc) (ls : Array Slot), va_P (dC, dI) vwCl [(h0, .inr (4, [.ref h1, .ref h2])), (h1, .inl (cJ, 64, .inr (.inl s0.1))), (h2, .inl (cJ, 128, .inr (.inl v112)))] H → va_D A [(h0, .inr (4, [.ref h1, .ref h2])), (h1, .inl (cJ, 64, .inr (.inl s0.1))), (h2, .inl (cJ, 128, .inr (.inl v112)))] → va_S A s.heap H locs → lv_has ls 8 [(5, .int (p89_5 / 2)), (4, .int (p89_4 / 2)), (6, .int p89_6), (0, .ref h0)] → W p l e (headSpec wsX4_renew ({ frames := 1, cells := 0, slots := 0, locals := 25 } : Room)).room s m ([.ref h0, .int x1] : List Value).toArray below meth c H locs 0 0 Q (F0 m 155 ls [])) → W p l e (headSpec wsX4_renew ({ frames := 1, cells := 0, slots := 0, locals := 25 } : Room)).room s m ([.ref h0, .int x1] : List Value).toArray below meth c H locs 0 0 Q (F0 m 112 ls []) := by
            intro Q n112
            induction n112 with
            | zero =>
              intro p112_7 q112_0 v112 h
              rw [f_X4_renew_112] at h
              cases h
            | succ n112 ih112 =>
              intro p112_7 q112_0 v112 h H locs ls hP hD hS hl kx112
              rw [f_X4_renew_112] at h
              refine lv_iload hx hb dX4_renew_112 (lv_at hl 0 rfl) ?_
              refine lv_iload hx hb dX4_renew_114 (lv_at hl 1 rfl) ?_
              refine lv_icmp_gt (tgt := 155) hx hb dX4_renew_116 (by decide) (fun c14 => ?_) (fun c14 => ?_)
              · have h := ie_t c14 h
                obtain rfl := Option.some.inj h
                exact kx112 _ _ _ hP hD hS (lv_sub hl [1, 2, 3, 4] rfl)
              · have h := ie_f c14 h
                refine lv_aload_n hx hb dX4_renew_119 rfl (lv_at hl 4 rfl) ?_
                refine va_get (D := (dC, dI)) (ci := 4) (v := .ref h2) (C := RX4) (T := TX4) (N := 2) hx hb hts (by decide +kernel) hown hK hP 0 rfl rfl 1 (by decide) (hts (.fieldLink RX4 13 "SnapshotPieces$Tree" "digests" "[J") (by decide +kernel)) (fun _ h9 => h9) rfl dX4_renew_120 ?_
                refine lv_iload hx hb dX4_renew_123 (lv_at hl 0 rfl) ?_
                refine lv_aload_n hx hb dX4_renew_125 rfl (lv_at hl 4 rfl) ?_
                refine va_get (D := (dC, dI)) (ci := 4) (v := .ref h2) (C := RX4) (T := TX4) (N := 2) hx hb hts (by decide +kernel) hown hK hP 0 rfl rfl 1 (by decide) (hts (.fieldLink RX4 13 "SnapshotPieces$Tree" "digests" "[J") (by decide +kernel)) (fun _ h9 => h9) rfl dX4_renew_126 ?_
                refine lv_iconst (v := 2) hx hb dX4_renew_129 (by decide) ?_
                refine lv_iload hx hb dX4_renew_130 (lv_at hl 0 rfl) ?_
                refine lv_imul hx hb dX4_renew_132 ?_
                obtain ⟨g15, h⟩ := kb_e h
                refine va_lald hx hb hK hP 2 1 rfl rfl (ib_in g15) dX4_renew_133 ?_
                refine lv_aload_n hx hb dX4_renew_134 rfl (lv_at hl 4 rfl) ?_
                refine va_get (D := (dC, dI)) (ci := 4) (v := .ref h2) (C := RX4) (T := TX4) (N := 2) hx hb hts (by decide +kernel) hown hK hP 0 rfl rfl 1 (by decide) (hts (.fieldLink RX4 13 "SnapshotPieces$Tree" "digests" "[J") (by decide +kernel)) (fun _ h9 => h9) rfl dX4_renew_135 ?_
                refine lv_iconst (v := 2) hx hb dX4_renew_138 (by decide) ?_
                refine lv_iload hx hb dX4_renew_139 (lv_at hl 0 rfl) ?_
                refine lv_imul hx hb dX4_renew_141 ?_
                refine lv_iconst (v := 1) hx hb dX4_renew_142 (by decide) ?_
                refine lv_iadd hx hb dX4_renew_143 ?_
                obtain ⟨g16, h⟩ := kb_e h
                refine va_lald hx hb hK hP 2 1 rfl rfl (ib_in g16) dX4_renew_144 ?_
                obtain ⟨u17, hc17, h⟩ := bd_e h
                refine cc_l (tys := TY cI cJ cZ) ([] : va_W) [(h0, .inr (4, [.ref h1, .ref h2])), (h1, .inl (cJ, 64, .inr (.inl s0.1))), (h2, .inl (cJ, 128, .inr (.inl q112_0)))] ([] : va_W) [(h0, .inr (4, [.ref h1, .ref h2])), (h1, .inl (cJ, 64, .inr (.inl s0.1))), (h2, .inl (cJ, 128, .inr (.inl q112_0)))] hP hD hS hA [] [0, 1, 2] [0, 1, 2] rfl rfl (by decide) (by decide) rfl (by decide) rfl (va_runS (As := [.long (q112_0 (Int32.toNatClampNeg (2 * p112_7))), .long (q112_0 (Int32.toNatClampNeg ((2 * p112_7) + 1)))]) (rest := [.int p112_7, .ref h2]) ⟨hx, hb, hml, hown, hts⟩ (k_X4_mix l dC dI cI cJ cZ (q112_0 (Int32.toNatClampNeg (2 * p112_7))) (q112_0 (Int32.toNatClampNeg ((2 * p112_7) + 1))) u17 hc17 _) (va_cwS 2 hts gX4_renew_X4_mix rfl rfl rfl (by decide +kernel) ⟨Nat.le_of_ble_eq_true rfl, Nat.le_of_ble_eq_true rfl⟩) ⟨cPre_blind, cPre_in hP hD hK [] rfl (by decide) rfl⟩ rfl rfl hl.1 rfl (lv_room (Nat.le_of_ble_eq_true rfl)) dX4_renew_145 ⟨Nat.le_of_ble_eq_true rfl, Nat.le_of_ble_eq_true rfl⟩) (fun H locs hP hD hS => ?_)
                obtain ⟨g18, h⟩ := kb_e h
                refine va_last hx hb hK hP hD hS 2 1 rfl rfl (ib_in g18) dX4_renew_148 (fun H locs hP hD hS => ?_)
                have hP : va_P (dC, dI) vwCl [(h0, .inr (4, [.ref h1, .ref h2])), (h1, .inl (cJ, 64, .inr (.inl s0.1))), (h2, .inl (cJ, 128, .inr (.inl (vp_updL q112_0 (Int32.toNatClampNeg p112_7) u17))))] H := hP
                have hD : va_D A [(h0, .inr (4, [.ref h1, .ref h2])), (h1, .inl (cJ, 64, .inr (.inl s0.1))), (h2, .inl (cJ, 128, .inr (.inl (vp_updL q112_0 (Int32.toNatClampNeg p112_7) u17))))] := hD
                refine lv_iinc (v := (p112_7 + 1)) (lv' := [(7, .int (p112_7 + 1)), (5, .int (p89_5 / 2)), (4, .int (p89_4 / 2)), (6, .int p89_6), (0, .ref h0)]) hx hb dX4_renew_149 hl (k := 0) rfl rfl (by decide) rfl (fun ls hl => ?_)
                refine lv_goto (tgt := 112) hx hb dX4_renew_152 (by decide) ?_
                exact ih112 (p112_7 + 1) (vp_updL q112_0 (Int32.toNatClampNeg p112_7) u17) v112 h _ _ _ hP hD hS (lv_sub hl [0, 1, 2, 3, 4] rfl) kx112
          obtain ⟨u19, hc19, h⟩ := bd_e h
          refine lp112 _ FU (p89_4 / 2) q89_0 u19 hc19 _ _ _ hP hD hS (lv_sub hl [0, 1, 2, 3, 4] rfl) (fun H locs ls hP hD hS hl => ?_)
          refine lv_iinc (v := (p89_6 + 1)) (lv' := [(6, .int (p89_6 + 1)), (5, .int (p89_5 / 2)), (4, .int (p89_4 / 2)), (0, .ref h0)]) hx hb dX4_renew_155 hl (k := 2) rfl rfl (by decide) rfl (fun ls hl => ?_)
          refine lv_goto (tgt := 89) hx hb dX4_renew_158 (by decide) ?_
          exact ih89 (p89_6 + 1) (p89_5 / 2) (p89_4 / 2) u19 v89 h _ _ _ hP hD hS (lv_sub hl [0, 1, 2, 3] rfl) kx89
    obtain ⟨u20, hc20, h⟩ := bd_e h
    refine lp89 _ FU 0 (64 + u4) (64 + u3) u12 u20 hc20 _ _ _ hP hD hS (lv_sub hl [0, 1, 2, 5] rfl) (fun H locs ls hP hD hS hl => ?_)
    obtain rfl := Option.some.inj h
    exact W.vret hx hb hr (fun t ht hW => ⟨⟨(), rfl, trivial, by rw [ht]; exact hP, va_K.moved hW.alike hK, hD⟩, hS.F ht⟩) hS.2.2 dX4_renew_161
  · have h := ie_t c2 h
    obtain rfl := Option.some.inj h
    exact W.vret hx hb hr (fun t ht hW => ⟨⟨(), rfl, trivial, by rw [ht]; exact hP, va_K.moved hW.alike hK, hD⟩, hS.F ht⟩) hS.2.2 dX4_renew_7
def f_X4_put (s0 : S_Tree) (x1 : Int32) (x2 : Int64) : Option (S_Tree) := (f_X4_isPath x1).bind fun u1 => if u1 = 0 then (some s0) else (kb (ib x1 64) ((f_X4_renew ((vp_updL s0.1 (Int32.toNatClampNeg x1) x2), s0.2) (64 + x1)).bind fun u4 => some u4))
set_option maxHeartbeats 4000000 in
set_option maxRecDepth 100000 in
theorem k_X4_put (l : Launch) (dC : Nat → ClassId) (dI : Nat → Nat → Nat) (cI cJ cZ : ClassId) (h0 h1 h2 : Nat) (s0 : S_Tree) (x1 : Int32) (x2 : Int64) (u : S_Tree) (hf : f_X4_put s0 x1 x2 = some u) (sz : Nat) : Met l yX4_put wsX4_put ({ frames := 2, cells := 0, slots := 0, locals := 52 }) (cPre (dC, dI) vwCl (TY cI cJ cZ) [.ref h0, .int x1, .long x2] [(h0, .inr (4, [.ref h1, .ref h2])), (h1, .inl (cJ, 64, .inr (.inl s0.1))), (h2, .inl (cJ, 128, .inr (.inl s0.2)))] sz) (va_Qv (fun (_ : Unit) => True) (fun _ t => cB (dC, dI) vwCl (TY cI cJ cZ) (va_A [(h0, .inr (4, [.ref h1, .ref h2])), (h1, .inl (cJ, 64, .inr (.inl s0.1))), (h2, .inl (cJ, 128, .inr (.inl s0.2)))] sz) [(h0, .inr (4, [.ref h1, .ref h2])), (h1, .inl (cJ, 64, .inr (.inl u.1))), (h2, .inl (cJ, 128, .inr (.inl u.2)))] t) (va_A [(h0, .inr (4, [.ref h1, .ref h2])), (h1, .inl (cJ, 64, .inr (.inl s0.1))), (h2, .inl (cJ, 128, .inr (.inl s0.2)))] sz)) 0 0 (va_A [(h0, .inr (4, [.ref h1, .ref h2])), (h1, .inl (cJ, 64, .inr (.inl s0.1))), (h2, .inl (cJ, 128, .inr (.inl s0.2)))] sz) := by
  refine Met.ofW (cc := cX4_put) (maxL := 4) (ret := none) (by decide) rfl ?_
  intro p e s m args below meth c s₁ B hml hv
  obtain ⟨rfl, hsz, hP, hK, hD0⟩ := hv
  have hx := B.exec
  have hb := B.bytes
  have hr := B.returns
  have hts := atoms_spec (ws := wsX4_put) B.pre
  have hown : s.vm.findClass RX4 = some m.cls := findClass_of_methodNamed B.named
  have hlocks := B.notSynchronized
  subst hsz
  have hD := hD0.self (sz := s.heap.size)
  generalize hAe : va_A [(h0, .inr (4, [.ref h1, .ref h2])), (h1, .inl (cJ, 64, .inr (.inl s0.1))), (h2, .inl (cJ, 128, .inr (.inl s0.2)))] s.heap.size = A at hD ⊢
  have hA : ∀ q : Nat, s.heap.size ≤ q → A q := fun q h => by rw [← hAe]; exact Or.inr h
  have hS : va_S A s.heap s.heap [] := va_S.rf
  have hl := lv_entry ([.ref h0, .int x1, .long x2]) (n := 4) (Nat.le_of_ble_eq_true rfl)
  rw [lg_entry_eq]
  generalize (lg_sl ([.ref h0, .int x1, .long x2]) ++ List.replicate (4 - (lg_sl ([.ref h0, .int x1, .long x2])).length) Slot.unset).toArray = ls at hl ⊢
  have hl : lv_has ls 4 [(0, .ref h0), (1, .int x1), (2, .long x2)] := hl
  have h := hf
  unfold f_X4_put at h
  refine lv_iload_n hx hb dX4_put_0 rfl (lv_at hl 1 rfl) ?_
  obtain ⟨u1, hc1, h⟩ := bd_e h
  refine cc_i (tys := TY cI cJ cZ) ([] : va_W) [(h0, .inr (4, [.ref h1, .ref h2])), (h1, .inl (cJ, 64, .inr (.inl s0.1))), (h2, .inl (cJ, 128, .inr (.inl s0.2)))] ([] : va_W) [(h0, .inr (4, [.ref h1, .ref h2])), (h1, .inl (cJ, 64, .inr (.inl s0.1))), (h2, .inl (cJ, 128, .inr (.inl s0.2)))] hP hD hS hA [] [0, 1, 2] [0, 1, 2] rfl rfl (by decide) (by decide) rfl (by decide) rfl (va_runS (As := [.int x1]) (rest := []) ⟨hx, hb, hml, hown, hts⟩ (k_X4_isPath l dC dI cI cJ cZ x1 u1 hc1 _) (va_cwS 1 hts gX4_put_X4_isPath rfl rfl rfl (by decide +kernel) ⟨Nat.le_of_ble_eq_true rfl, Nat.le_of_ble_eq_true rfl⟩) ⟨cPre_blind, cPre_in hP hD hK [] rfl (by decide) rfl⟩ rfl rfl hl.1 rfl (lv_room (Nat.le_of_ble_eq_true rfl)) dX4_put_1 ⟨Nat.le_of_ble_eq_true rfl, Nat.le_of_ble_eq_true rfl⟩) (fun H locs hP hD hS => ?_)
  refine lv_if_eq (tgt := 22) hx hb dX4_put_4 (by decide) (fun c2 => ?_) (fun c2 => ?_)
  · have h := ie_t c2 h
    obtain rfl := Option.some.inj h
    exact W.vret hx hb hr (fun t ht hW => ⟨⟨(), rfl, trivial, by rw [ht]; exact hP, va_K.moved hW.alike hK, hD⟩, hS.F ht⟩) hS.2.2 dX4_put_22
  · have h := ie_f c2 h
    refine lv_aload_n hx hb dX4_put_7 rfl (lv_at hl 0 rfl) ?_
    refine va_get (D := (dC, dI)) (ci := 4) (v := .ref h1) (C := RX4) (T := TX4) (N := 2) hx hb hts (by decide +kernel) hown hK hP 0 rfl rfl 0 (by decide) (hts (.fieldLink RX4 9 "SnapshotPieces$Tree" "values" "[J") (by decide +kernel)) (fun _ h9 => h9) rfl dX4_put_8 ?_
    refine lv_iload_n hx hb dX4_put_11 rfl (lv_at hl 1 rfl) ?_
    refine lv_lload_n hx hb dX4_put_12 rfl (lv_at hl 2 rfl) ?_
    obtain ⟨g3, h⟩ := kb_e h
    refine va_last hx hb hK hP hD hS 1 1 rfl rfl (ib_in g3) dX4_put_13 (fun H locs hP hD hS => ?_)
    have hP : va_P (dC, dI) vwCl [(h0, .inr (4, [.ref h1, .ref h2])), (h1, .inl (cJ, 64, .inr (.inl (vp_updL s0.1 (Int32.toNatClampNeg x1) x2)))), (h2, .inl (cJ, 128, .inr (.inl s0.2)))] H := hP
    have hD : va_D A [(h0, .inr (4, [.ref h1, .ref h2])), (h1, .inl (cJ, 64, .inr (.inl (vp_updL s0.1 (Int32.toNatClampNeg x1) x2)))), (h2, .inl (cJ, 128, .inr (.inl s0.2)))] := hD
    refine lv_aload_n hx hb dX4_put_14 rfl (lv_at hl 0 rfl) ?_
    refine lv_bipush (v := 64) hx hb dX4_put_15 (by decide) ?_
    refine lv_iload_n hx hb dX4_put_17 rfl (lv_at hl 1 rfl) ?_
    refine lv_iadd hx hb dX4_put_18 ?_
    obtain ⟨u4, hc4, h⟩ := bd_e h
    refine cc_v (tys := TY cI cJ cZ) [(h0, .inr (4, [.ref h1, .ref h2])), (h1, .inl (cJ, 64, .inr (.inl (vp_updL s0.1 (Int32.toNatClampNeg x1) x2)))), (h2, .inl (cJ, 128, .inr (.inl s0.2)))] ([] : va_W) [(h0, .inr (4, [.ref h1, .ref h2])), (h1, .inl (cJ, 64, .inr (.inl u4.1))), (h2, .inl (cJ, 128, .inr (.inl u4.2)))] [(h0, .inr (4, [.ref h1, .ref h2])), (h1, .inl (cJ, 64, .inr (.inl u4.1))), (h2, .inl (cJ, 128, .inr (.inl u4.2)))] hP hD hS hA [0, 1, 2] [] [0, 1, 2] rfl rfl (by decide) (by decide) rfl (by decide) rfl (va_runV (As := [.int (64 + x1)]) (rest := []) ⟨hx, hb, hml, hown, hts⟩ (k_X4_renew l dC dI cI cJ cZ h0 h1 h2 ((vp_updL s0.1 (Int32.toNatClampNeg x1) x2), s0.2) (64 + x1) u4 hc4 _) (cwV 1 hts gX4_put_X4_renew rfl rfl rfl (by decide +kernel) ⟨Nat.le_of_ble_eq_true rfl, Nat.le_of_ble_eq_true rfl⟩) ⟨cPre_blind, va_recv hK hP (ci := 4) (q0 := 0) rfl rfl, cPre_in hP hD hK [0, 1, 2] rfl (by decide) rfl⟩ rfl rfl hl.1 rfl (lv_room (Nat.le_of_ble_eq_true rfl)) dX4_put_19 ⟨Nat.le_of_ble_eq_true rfl, Nat.le_of_ble_eq_true rfl⟩) (fun H locs hP hD hS => ?_)
    obtain rfl := Option.some.inj h
    exact W.vret hx hb hr (fun t ht hW => ⟨⟨(), rfl, trivial, by rw [ht]; exact hP, va_K.moved hW.alike hK, hD⟩, hS.F ht⟩) hS.2.2 dX4_put_22
def f_X4_emptyBelow_18 (y2 : Int32) : Nat → Int32 → (Nat → Int64) → Option ((Nat → Int64))
  | 0, _, _ => none
  | n + 1, y3, t0 => if y2 < y3 then (some t0) else (kb (ib y3 64) (f_X4_emptyBelow_18 y2 n (y3 + 1) (vp_updL t0 (Int32.toNatClampNeg y3) 0)))
def f_X4_emptyBelow (s0 : S_Tree) (x1 : Int32) : Option (S_Tree) := (f_X4_isNode x1).bind fun u1 => if u1 = 0 then (some s0) else ((f_X4_lastPath x1).bind fun u3 => (f_X4_firstPath x1).bind fun u4 => (f_X4_emptyBelow_18 u3 FU u4 s0.1).bind fun u7 => (f_X4_renew (u7, s0.2) x1).bind fun u8 => some u8)
set_option maxHeartbeats 4000000 in
set_option maxRecDepth 100000 in
theorem k_X4_emptyBelow (l : Launch) (dC : Nat → ClassId) (dI : Nat → Nat → Nat) (cI cJ cZ : ClassId) (h0 h1 h2 : Nat) (s0 : S_Tree) (x1 : Int32) (u : S_Tree) (hf : f_X4_emptyBelow s0 x1 = some u) (sz : Nat) : Met l yX4_emptyBelow wsX4_emptyBelow ({ frames := 2, cells := 0, slots := 0, locals := 52 }) (cPre (dC, dI) vwCl (TY cI cJ cZ) [.ref h0, .int x1] [(h0, .inr (4, [.ref h1, .ref h2])), (h1, .inl (cJ, 64, .inr (.inl s0.1))), (h2, .inl (cJ, 128, .inr (.inl s0.2)))] sz) (va_Qv (fun (_ : Unit) => True) (fun _ t => cB (dC, dI) vwCl (TY cI cJ cZ) (va_A [(h0, .inr (4, [.ref h1, .ref h2])), (h1, .inl (cJ, 64, .inr (.inl s0.1))), (h2, .inl (cJ, 128, .inr (.inl s0.2)))] sz) [(h0, .inr (4, [.ref h1, .ref h2])), (h1, .inl (cJ, 64, .inr (.inl u.1))), (h2, .inl (cJ, 128, .inr (.inl u.2)))] t) (va_A [(h0, .inr (4, [.ref h1, .ref h2])), (h1, .inl (cJ, 64, .inr (.inl s0.1))), (h2, .inl (cJ, 128, .inr (.inl s0.2)))] sz)) 0 0 (va_A [(h0, .inr (4, [.ref h1, .ref h2])), (h1, .inl (cJ, 64, .inr (.inl s0.1))), (h2, .inl (cJ, 128, .inr (.inl s0.2)))] sz) := by
  refine Met.ofW (cc := cX4_emptyBelow) (maxL := 4) (ret := none) (by decide) rfl ?_
  intro p e s m args below meth c s₁ B hml hv
  obtain ⟨rfl, hsz, hP, hK, hD0⟩ := hv
  have hx := B.exec
  have hb := B.bytes
  have hr := B.returns
  have hts := atoms_spec (ws := wsX4_emptyBelow) B.pre
  have hown : s.vm.findClass RX4 = some m.cls := findClass_of_methodNamed B.named
  have hlocks := B.notSynchronized
  subst hsz
  have hD := hD0.self (sz := s.heap.size)
  generalize hAe : va_A [(h0, .inr (4, [.ref h1, .ref h2])), (h1, .inl (cJ, 64, .inr (.inl s0.1))), (h2, .inl (cJ, 128, .inr (.inl s0.2)))] s.heap.size = A at hD ⊢
  have hA : ∀ q : Nat, s.heap.size ≤ q → A q := fun q h => by rw [← hAe]; exact Or.inr h
  have hS : va_S A s.heap s.heap [] := va_S.rf
  have hl := lv_entry ([.ref h0, .int x1]) (n := 4) (Nat.le_of_ble_eq_true rfl)
  rw [lg_entry_eq]
  generalize (lg_sl ([.ref h0, .int x1]) ++ List.replicate (4 - (lg_sl ([.ref h0, .int x1])).length) Slot.unset).toArray = ls at hl ⊢
  have hl : lv_has ls 4 [(0, .ref h0), (1, .int x1)] := hl
  have h := hf
  unfold f_X4_emptyBelow at h
  refine lv_iload_n hx hb dX4_emptyBelow_0 rfl (lv_at hl 1 rfl) ?_
  obtain ⟨u1, hc1, h⟩ := bd_e h
  refine cc_i (tys := TY cI cJ cZ) ([] : va_W) [(h0, .inr (4, [.ref h1, .ref h2])), (h1, .inl (cJ, 64, .inr (.inl s0.1))), (h2, .inl (cJ, 128, .inr (.inl s0.2)))] ([] : va_W) [(h0, .inr (4, [.ref h1, .ref h2])), (h1, .inl (cJ, 64, .inr (.inl s0.1))), (h2, .inl (cJ, 128, .inr (.inl s0.2)))] hP hD hS hA [] [0, 1, 2] [0, 1, 2] rfl rfl (by decide) (by decide) rfl (by decide) rfl (va_runS (As := [.int x1]) (rest := []) ⟨hx, hb, hml, hown, hts⟩ (k_X4_isNode l dC dI cI cJ cZ x1 u1 hc1 _) (va_cwS 1 hts gX4_emptyBelow_X4_isNode rfl rfl rfl (by decide +kernel) ⟨Nat.le_of_ble_eq_true rfl, Nat.le_of_ble_eq_true rfl⟩) ⟨cPre_blind, cPre_in hP hD hK [] rfl (by decide) rfl⟩ rfl rfl hl.1 rfl (lv_room (Nat.le_of_ble_eq_true rfl)) dX4_emptyBelow_1 ⟨Nat.le_of_ble_eq_true rfl, Nat.le_of_ble_eq_true rfl⟩) (fun H locs hP hD hS => ?_)
  refine lv_if_ne (tgt := 8) hx hb dX4_emptyBelow_4 (by decide) (fun c2 => ?_) (fun c2 => ?_)
  · have h := ie_f c2 h
    refine lv_iload_n hx hb dX4_emptyBelow_8 rfl (lv_at hl 1 rfl) ?_
    obtain ⟨u3, hc3, h⟩ := bd_e h
    refine cc_i (tys := TY cI cJ cZ) ([] : va_W) [(h0, .inr (4, [.ref h1, .ref h2])), (h1, .inl (cJ, 64, .inr (.inl s0.1))), (h2, .inl (cJ, 128, .inr (.inl s0.2)))] ([] : va_W) [(h0, .inr (4, [.ref h1, .ref h2])), (h1, .inl (cJ, 64, .inr (.inl s0.1))), (h2, .inl (cJ, 128, .inr (.inl s0.2)))] hP hD hS hA [] [0, 1, 2] [0, 1, 2] rfl rfl (by decide) (by decide) rfl (by decide) rfl (va_runS (As := [.int x1]) (rest := []) ⟨hx, hb, hml, hown, hts⟩ (k_X4_lastPath l dC dI cI cJ cZ x1 u3 hc3 _) (va_cwS 1 hts gX4_emptyBelow_X4_lastPath rfl rfl rfl (by decide +kernel) ⟨Nat.le_of_ble_eq_true rfl, Nat.le_of_ble_eq_true rfl⟩) ⟨cPre_blind, cPre_in hP hD hK [] rfl (by decide) rfl⟩ rfl rfl hl.1 rfl (lv_room (Nat.le_of_ble_eq_true rfl)) dX4_emptyBelow_9 ⟨Nat.le_of_ble_eq_true rfl, Nat.le_of_ble_eq_true rfl⟩) (fun H locs hP hD hS => ?_)
    refine lv_istore_n (lv' := [(2, .int u3), (0, .ref h0), (1, .int x1)]) hx hb dX4_emptyBelow_12 rfl hl (by decide) rfl (fun ls hl => ?_)
    refine lv_iload_n hx hb dX4_emptyBelow_13 rfl (lv_at hl 2 rfl) ?_
    obtain ⟨u4, hc4, h⟩ := bd_e h
    refine cc_i (tys := TY cI cJ cZ) ([] : va_W) [(h0, .inr (4, [.ref h1, .ref h2])), (h1, .inl (cJ, 64, .inr (.inl s0.1))), (h2, .inl (cJ, 128, .inr (.inl s0.2)))] ([] : va_W) [(h0, .inr (4, [.ref h1, .ref h2])), (h1, .inl (cJ, 64, .inr (.inl s0.1))), (h2, .inl (cJ, 128, .inr (.inl s0.2)))] hP hD hS hA [] [0, 1, 2] [0, 1, 2] rfl rfl (by decide) (by decide) rfl (by decide) rfl (va_runS (As := [.int x1]) (rest := []) ⟨hx, hb, hml, hown, hts⟩ (k_X4_firstPath l dC dI cI cJ cZ x1 u4 hc4 _) (va_cwS 1 hts gX4_emptyBelow_X4_firstPath rfl rfl rfl (by decide +kernel) ⟨Nat.le_of_ble_eq_true rfl, Nat.le_of_ble_eq_true rfl⟩) ⟨cPre_blind, cPre_in hP hD hK [] rfl (by decide) rfl⟩ rfl rfl hl.1 rfl (lv_room (Nat.le_of_ble_eq_true rfl)) dX4_emptyBelow_14 ⟨Nat.le_of_ble_eq_true rfl, Nat.le_of_ble_eq_true rfl⟩) (fun H locs hP hD hS => ?_)
    refine lv_istore_n (lv' := [(3, .int u4), (2, .int u3), (0, .ref h0), (1, .int x1)]) hx hb dX4_emptyBelow_17 rfl hl (by decide) rfl (fun ls hl => ?_)
    have lp18 : ∀ (Q : State → Prop) (n18 : Nat) (p18_3 : Int32) (q18_0 : (Nat → Int64)) (v18 : (Nat → Int64)), f_X4_emptyBelow_18 u3 n18 p18_3 q18_0 = some v18 → ∀ (H : Heap) (locs : List Loc) (ls : Array Slot), va_P (dC, dI) vwCl [(h0, .inr (4, [.ref h1, .ref h2])), (h1, .inl (cJ, 64, .inr (.inl q18_0))), (h2, .inl (cJ, 128, .inr (.inl s0.2)))] H → va_D A [(h0, .inr (4, [.ref h1, .ref h2])), (h1, .inl (cJ, 64, .inr (.inl q18_0))), (h2, .inl (cJ, 128, .inr (.inl s0.2)))] → va_S A s.heap H locs → lv_has ls 4 [(3, .int p18_3), (2, .int u3), (0, .ref h0), (1, .int x1)] → (∀ (H : Heap) (locs : List Loc) (ls : Array Slot), va_P (dC, dI) vwCl [(h0, .inr (4, [.ref h1, .ref h2])), (h1, .inl (cJ, 64, .inr (.inl v18))), (h2, .inl (cJ, 128, .inr (.inl s0.2)))] H → va_D A [(h0, .inr (4, [.ref h1, .ref h2])), (h1, .inl (cJ, 64, .inr (.inl v18))), (h2, .inl (cJ, 128, .inr (.inl s0.2)))] → va_S A s.heap H locs → lv_has ls 4 [(0, .ref h0), (1, .int x1)] → W p l e (headSpec wsX4_emptyBelow ({ frames := 2, cells := 0, slots := 0, locals := 52 } : Room)).room s m ([.ref h0, .int x1] : List Value).toArray below meth c H locs 0 0 Q (F0 m 36 ls [])) → W p l e (headSpec wsX4_emptyBelow ({ frames := 2, cells := 0, slots := 0, locals := 52 } : Room)).room s m ([.ref h0, .int x1] : List Value).toArray below meth c H locs 0 0 Q (F0 m 18 ls []) := by
      intro Q n18
      induction n18 with
      | zero =>
        intro p18_3 q18_0 v18 h
        rw [f_X4_emptyBelow_18] at h
        cases h
      | succ n18 ih18 =>
        intro p18_3 q18_0 v18 h H locs ls hP hD hS hl kx18
        rw [f_X4_emptyBelow_18] at h
        refine lv_iload_n hx hb dX4_emptyBelow_18 rfl (lv_at hl 0 rfl) ?_
        refine lv_iload_n hx hb dX4_emptyBelow_19 rfl (lv_at hl 1 rfl) ?_
        refine lv_icmp_gt (tgt := 36) hx hb dX4_emptyBelow_20 (by decide) (fun c5 => ?_) (fun c5 => ?_)
        · have h := ie_t c5 h
          obtain rfl := Option.some.inj h
          exact kx18 _ _ _ hP hD hS (lv_sub hl [2, 3] rfl)
        · have h := ie_f c5 h
          refine lv_aload_n hx hb dX4_emptyBelow_23 rfl (lv_at hl 2 rfl) ?_
          refine va_get (D := (dC, dI)) (ci := 4) (v := .ref h1) (C := RX4) (T := TX4) (N := 2) hx hb hts (by decide +kernel) hown hK hP 0 rfl rfl 0 (by decide) (hts (.fieldLink RX4 9 "SnapshotPieces$Tree" "values" "[J") (by decide +kernel)) (fun _ h9 => h9) rfl dX4_emptyBelow_24 ?_
          refine lv_iload_n hx hb dX4_emptyBelow_27 rfl (lv_at hl 0 rfl) ?_
          refine lv_lconst (v := 0) hx hb dX4_emptyBelow_28 (by decide) ?_
          obtain ⟨g6, h⟩ := kb_e h
          refine va_last hx hb hK hP hD hS 1 1 rfl rfl (ib_in g6) dX4_emptyBelow_29 (fun H locs hP hD hS => ?_)
          have hP : va_P (dC, dI) vwCl [(h0, .inr (4, [.ref h1, .ref h2])), (h1, .inl (cJ, 64, .inr (.inl (vp_updL q18_0 (Int32.toNatClampNeg p18_3) 0)))), (h2, .inl (cJ, 128, .inr (.inl s0.2)))] H := hP
          have hD : va_D A [(h0, .inr (4, [.ref h1, .ref h2])), (h1, .inl (cJ, 64, .inr (.inl (vp_updL q18_0 (Int32.toNatClampNeg p18_3) 0)))), (h2, .inl (cJ, 128, .inr (.inl s0.2)))] := hD
          refine lv_iinc (v := (p18_3 + 1)) (lv' := [(3, .int (p18_3 + 1)), (2, .int u3), (0, .ref h0), (1, .int x1)]) hx hb dX4_emptyBelow_30 hl (k := 0) rfl rfl (by decide) rfl (fun ls hl => ?_)
          refine lv_goto (tgt := 18) hx hb dX4_emptyBelow_33 (by decide) ?_
          exact ih18 (p18_3 + 1) (vp_updL q18_0 (Int32.toNatClampNeg p18_3) 0) v18 h _ _ _ hP hD hS (lv_sub hl [0, 1, 2, 3] rfl) kx18
    obtain ⟨u7, hc7, h⟩ := bd_e h
    refine lp18 _ FU u4 s0.1 u7 hc7 _ _ _ hP hD hS (lv_sub hl [0, 1, 2, 3] rfl) (fun H locs ls hP hD hS hl => ?_)
    refine lv_aload_n hx hb dX4_emptyBelow_36 rfl (lv_at hl 0 rfl) ?_
    refine lv_iload_n hx hb dX4_emptyBelow_37 rfl (lv_at hl 1 rfl) ?_
    obtain ⟨u8, hc8, h⟩ := bd_e h
    refine cc_v (tys := TY cI cJ cZ) [(h0, .inr (4, [.ref h1, .ref h2])), (h1, .inl (cJ, 64, .inr (.inl u7))), (h2, .inl (cJ, 128, .inr (.inl s0.2)))] ([] : va_W) [(h0, .inr (4, [.ref h1, .ref h2])), (h1, .inl (cJ, 64, .inr (.inl u8.1))), (h2, .inl (cJ, 128, .inr (.inl u8.2)))] [(h0, .inr (4, [.ref h1, .ref h2])), (h1, .inl (cJ, 64, .inr (.inl u8.1))), (h2, .inl (cJ, 128, .inr (.inl u8.2)))] hP hD hS hA [0, 1, 2] [] [0, 1, 2] rfl rfl (by decide) (by decide) rfl (by decide) rfl (va_runV (As := [.int x1]) (rest := []) ⟨hx, hb, hml, hown, hts⟩ (k_X4_renew l dC dI cI cJ cZ h0 h1 h2 (u7, s0.2) x1 u8 hc8 _) (cwV 1 hts gX4_emptyBelow_X4_renew rfl rfl rfl (by decide +kernel) ⟨Nat.le_of_ble_eq_true rfl, Nat.le_of_ble_eq_true rfl⟩) ⟨cPre_blind, va_recv hK hP (ci := 4) (q0 := 0) rfl rfl, cPre_in hP hD hK [0, 1, 2] rfl (by decide) rfl⟩ rfl rfl hl.1 rfl (lv_room (Nat.le_of_ble_eq_true rfl)) dX4_emptyBelow_38 ⟨Nat.le_of_ble_eq_true rfl, Nat.le_of_ble_eq_true rfl⟩) (fun H locs hP hD hS => ?_)
    obtain rfl := Option.some.inj h
    exact W.vret hx hb hr (fun t ht hW => ⟨⟨(), rfl, trivial, by rw [ht]; exact hP, va_K.moved hW.alike hK, hD⟩, hS.F ht⟩) hS.2.2 dX4_emptyBelow_41
  · have h := ie_t c2 h
    obtain rfl := Option.some.inj h
    exact W.vret hx hb hr (fun t ht hW => ⟨⟨(), rfl, trivial, by rw [ht]; exact hP, va_K.moved hW.alike hK, hD⟩, hS.F ht⟩) hS.2.2 dX4_emptyBelow_7
def f_X4_copyBelow_19 (y3 : Int32) (t2 : S_Tree) : Nat → Int32 → (Nat → Int64) → Option ((Nat → Int64))
  | 0, _, _ => none
  | n + 1, y4, t0 => if y3 < y4 then (some t0) else (kb (ib y4 64) (kb (ib y4 64) (f_X4_copyBelow_19 y3 t2 n (y4 + 1) (vp_updL t0 (Int32.toNatClampNeg y4) (t2.1 (Int32.toNatClampNeg y4))))))
def f_X4_copyBelow (s0 : S_Tree) (s1 : S_Tree) (x1 : Int32) : Option (S_Tree) := (f_X4_isNode x1).bind fun u1 => if u1 = 0 then (some s0) else ((f_X4_lastPath x1).bind fun u3 => (f_X4_firstPath x1).bind fun u4 => (f_X4_copyBelow_19 u3 s1 FU u4 s0.1).bind fun u8 => (f_X4_renew (u8, s0.2) x1).bind fun u9 => some u9)
set_option maxHeartbeats 4000000 in
set_option maxRecDepth 100000 in
theorem k_X4_copyBelow (l : Launch) (dC : Nat → ClassId) (dI : Nat → Nat → Nat) (cI cJ cZ : ClassId) (h0 h1 h2 h3 h4 h5 : Nat) (s0 : S_Tree) (s1 : S_Tree) (x1 : Int32) (u : S_Tree) (hf : f_X4_copyBelow s0 s1 x1 = some u) (sz : Nat) : Met l yX4_copyBelow wsX4_copyBelow ({ frames := 2, cells := 0, slots := 0, locals := 52 }) (cPre (dC, dI) vwCl (TY cI cJ cZ) [.ref h0, .int x1, .ref h3] [(h0, .inr (4, [.ref h1, .ref h2])), (h1, .inl (cJ, 64, .inr (.inl s0.1))), (h2, .inl (cJ, 128, .inr (.inl s0.2))), (h3, .inr (4, [.ref h4, .ref h5])), (h4, .inl (cJ, 64, .inr (.inl s1.1))), (h5, .inl (cJ, 128, .inr (.inl s1.2)))] sz) (va_Qv (fun (_ : Unit) => True) (fun _ t => cB (dC, dI) vwCl (TY cI cJ cZ) (va_A [(h0, .inr (4, [.ref h1, .ref h2])), (h1, .inl (cJ, 64, .inr (.inl s0.1))), (h2, .inl (cJ, 128, .inr (.inl s0.2))), (h3, .inr (4, [.ref h4, .ref h5])), (h4, .inl (cJ, 64, .inr (.inl s1.1))), (h5, .inl (cJ, 128, .inr (.inl s1.2)))] sz) [(h0, .inr (4, [.ref h1, .ref h2])), (h1, .inl (cJ, 64, .inr (.inl u.1))), (h2, .inl (cJ, 128, .inr (.inl u.2))), (h3, .inr (4, [.ref h4, .ref h5])), (h4, .inl (cJ, 64, .inr (.inl s1.1))), (h5, .inl (cJ, 128, .inr (.inl s1.2)))] t) (va_A [(h0, .inr (4, [.ref h1, .ref h2])), (h1, .inl (cJ, 64, .inr (.inl s0.1))), (h2, .inl (cJ, 128, .inr (.inl s0.2))), (h3, .inr (4, [.ref h4, .ref h5])), (h4, .inl (cJ, 64, .inr (.inl s1.1))), (h5, .inl (cJ, 128, .inr (.inl s1.2)))] sz)) 0 0 (va_A [(h0, .inr (4, [.ref h1, .ref h2])), (h1, .inl (cJ, 64, .inr (.inl s0.1))), (h2, .inl (cJ, 128, .inr (.inl s0.2))), (h3, .inr (4, [.ref h4, .ref h5])), (h4, .inl (cJ, 64, .inr (.inl s1.1))), (h5, .inl (cJ, 128, .inr (.inl s1.2)))] sz) := by
  refine Met.ofW (cc := cX4_copyBelow) (maxL := 5) (ret := none) (by decide) rfl ?_
  intro p e s m args below meth c s₁ B hml hv
  obtain ⟨rfl, hsz, hP, hK, hD0⟩ := hv
  have hx := B.exec
  have hb := B.bytes
  have hr := B.returns
  have hts := atoms_spec (ws := wsX4_copyBelow) B.pre
  have hown : s.vm.findClass RX4 = some m.cls := findClass_of_methodNamed B.named
  have hlocks := B.notSynchronized
  subst hsz
  have hD := hD0.self (sz := s.heap.size)
  generalize hAe : va_A [(h0, .inr (4, [.ref h1, .ref h2])), (h1, .inl (cJ, 64, .inr (.inl s0.1))), (h2, .inl (cJ, 128, .inr (.inl s0.2))), (h3, .inr (4, [.ref h4, .ref h5])), (h4, .inl (cJ, 64, .inr (.inl s1.1))), (h5, .inl (cJ, 128, .inr (.inl s1.2)))] s.heap.size = A at hD ⊢
  have hA : ∀ q : Nat, s.heap.size ≤ q → A q := fun q h => by rw [← hAe]; exact Or.inr h
  have hS : va_S A s.heap s.heap [] := va_S.rf
  have hl := lv_entry ([.ref h0, .int x1, .ref h3]) (n := 5) (Nat.le_of_ble_eq_true rfl)
  rw [lg_entry_eq]
  generalize (lg_sl ([.ref h0, .int x1, .ref h3]) ++ List.replicate (5 - (lg_sl ([.ref h0, .int x1, .ref h3])).length) Slot.unset).toArray = ls at hl ⊢
  have hl : lv_has ls 5 [(0, .ref h0), (1, .int x1), (2, .ref h3)] := hl
  have h := hf
  unfold f_X4_copyBelow at h
  refine lv_iload_n hx hb dX4_copyBelow_0 rfl (lv_at hl 1 rfl) ?_
  obtain ⟨u1, hc1, h⟩ := bd_e h
  refine cc_i (tys := TY cI cJ cZ) ([] : va_W) [(h0, .inr (4, [.ref h1, .ref h2])), (h1, .inl (cJ, 64, .inr (.inl s0.1))), (h2, .inl (cJ, 128, .inr (.inl s0.2))), (h3, .inr (4, [.ref h4, .ref h5])), (h4, .inl (cJ, 64, .inr (.inl s1.1))), (h5, .inl (cJ, 128, .inr (.inl s1.2)))] ([] : va_W) [(h0, .inr (4, [.ref h1, .ref h2])), (h1, .inl (cJ, 64, .inr (.inl s0.1))), (h2, .inl (cJ, 128, .inr (.inl s0.2))), (h3, .inr (4, [.ref h4, .ref h5])), (h4, .inl (cJ, 64, .inr (.inl s1.1))), (h5, .inl (cJ, 128, .inr (.inl s1.2)))] hP hD hS hA [] [0, 1, 2, 3, 4, 5] [0, 1, 2, 3, 4, 5] rfl rfl (by decide) (by decide) rfl (by decide) rfl (va_runS (As := [.int x1]) (rest := []) ⟨hx, hb, hml, hown, hts⟩ (k_X4_isNode l dC dI cI cJ cZ x1 u1 hc1 _) (va_cwS 1 hts gX4_copyBelow_X4_isNode rfl rfl rfl (by decide +kernel) ⟨Nat.le_of_ble_eq_true rfl, Nat.le_of_ble_eq_true rfl⟩) ⟨cPre_blind, cPre_in hP hD hK [] rfl (by decide) rfl⟩ rfl rfl hl.1 rfl (lv_room (Nat.le_of_ble_eq_true rfl)) dX4_copyBelow_1 ⟨Nat.le_of_ble_eq_true rfl, Nat.le_of_ble_eq_true rfl⟩) (fun H locs hP hD hS => ?_)
  refine lv_if_ne (tgt := 8) hx hb dX4_copyBelow_4 (by decide) (fun c2 => ?_) (fun c2 => ?_)
  · have h := ie_f c2 h
    refine lv_iload_n hx hb dX4_copyBelow_8 rfl (lv_at hl 1 rfl) ?_
    obtain ⟨u3, hc3, h⟩ := bd_e h
    refine cc_i (tys := TY cI cJ cZ) ([] : va_W) [(h0, .inr (4, [.ref h1, .ref h2])), (h1, .inl (cJ, 64, .inr (.inl s0.1))), (h2, .inl (cJ, 128, .inr (.inl s0.2))), (h3, .inr (4, [.ref h4, .ref h5])), (h4, .inl (cJ, 64, .inr (.inl s1.1))), (h5, .inl (cJ, 128, .inr (.inl s1.2)))] ([] : va_W) [(h0, .inr (4, [.ref h1, .ref h2])), (h1, .inl (cJ, 64, .inr (.inl s0.1))), (h2, .inl (cJ, 128, .inr (.inl s0.2))), (h3, .inr (4, [.ref h4, .ref h5])), (h4, .inl (cJ, 64, .inr (.inl s1.1))), (h5, .inl (cJ, 128, .inr (.inl s1.2)))] hP hD hS hA [] [0, 1, 2, 3, 4, 5] [0, 1, 2, 3, 4, 5] rfl rfl (by decide) (by decide) rfl (by decide) rfl (va_runS (As := [.int x1]) (rest := []) ⟨hx, hb, hml, hown, hts⟩ (k_X4_lastPath l dC dI cI cJ cZ x1 u3 hc3 _) (va_cwS 1 hts gX4_copyBelow_X4_lastPath rfl rfl rfl (by decide +kernel) ⟨Nat.le_of_ble_eq_true rfl, Nat.le_of_ble_eq_true rfl⟩) ⟨cPre_blind, cPre_in hP hD hK [] rfl (by decide) rfl⟩ rfl rfl hl.1 rfl (lv_room (Nat.le_of_ble_eq_true rfl)) dX4_copyBelow_9 ⟨Nat.le_of_ble_eq_true rfl, Nat.le_of_ble_eq_true rfl⟩) (fun H locs hP hD hS => ?_)
    refine lv_istore_n (lv' := [(3, .int u3), (0, .ref h0), (1, .int x1), (2, .ref h3)]) hx hb dX4_copyBelow_12 rfl hl (by decide) rfl (fun ls hl => ?_)
    refine lv_iload_n hx hb dX4_copyBelow_13 rfl (lv_at hl 2 rfl) ?_
    obtain ⟨u4, hc4, h⟩ := bd_e h
    refine cc_i (tys := TY cI cJ cZ) ([] : va_W) [(h0, .inr (4, [.ref h1, .ref h2])), (h1, .inl (cJ, 64, .inr (.inl s0.1))), (h2, .inl (cJ, 128, .inr (.inl s0.2))), (h3, .inr (4, [.ref h4, .ref h5])), (h4, .inl (cJ, 64, .inr (.inl s1.1))), (h5, .inl (cJ, 128, .inr (.inl s1.2)))] ([] : va_W) [(h0, .inr (4, [.ref h1, .ref h2])), (h1, .inl (cJ, 64, .inr (.inl s0.1))), (h2, .inl (cJ, 128, .inr (.inl s0.2))), (h3, .inr (4, [.ref h4, .ref h5])), (h4, .inl (cJ, 64, .inr (.inl s1.1))), (h5, .inl (cJ, 128, .inr (.inl s1.2)))] hP hD hS hA [] [0, 1, 2, 3, 4, 5] [0, 1, 2, 3, 4, 5] rfl rfl (by decide) (by decide) rfl (by decide) rfl (va_runS (As := [.int x1]) (rest := []) ⟨hx, hb, hml, hown, hts⟩ (k_X4_firstPath l dC dI cI cJ cZ x1 u4 hc4 _) (va_cwS 1 hts gX4_copyBelow_X4_firstPath rfl rfl rfl (by decide +kernel) ⟨Nat.le_of_ble_eq_true rfl, Nat.le_of_ble_eq_true rfl⟩) ⟨cPre_blind, cPre_in hP hD hK [] rfl (by decide) rfl⟩ rfl rfl hl.1 rfl (lv_room (Nat.le_of_ble_eq_true rfl)) dX4_copyBelow_14 ⟨Nat.le_of_ble_eq_true rfl, Nat.le_of_ble_eq_true rfl⟩) (fun H locs hP hD hS => ?_)
    refine lv_istore (lv' := [(4, .int u4), (3, .int u3), (0, .ref h0), (1, .int x1), (2, .ref h3)]) hx hb dX4_copyBelow_17 hl (by decide) rfl (fun ls hl => ?_)
    have lp19 : ∀ (Q : State → Prop) (n19 : Nat) (p19_4 : Int32) (q19_0 : (Nat → Int64)) (v19 : (Nat → Int64)), f_X4_copyBelow_19 u3 s1 n19 p19_4 q19_0 = some v19 → ∀ (H : Heap) (locs : List Loc) (ls : Array Slot), va_P (dC, dI) vwCl [(h0, .inr (4, [.ref h1, .ref h2])), (h1, .inl (cJ, 64, .inr (.inl q19_0))), (h2, .inl (cJ, 128, .inr (.inl s0.2))), (h3, .inr (4, [.ref h4, .ref h5])), (h4, .inl (cJ, 64, .inr (.inl s1.1))), (h5, .inl (cJ, 128, .inr (.inl s1.2)))] H → va_D A [(h0, .inr (4, [.ref h1, .ref h2])), (h1, .inl (cJ, 64, .inr (.inl q19_0))), (h2, .inl (cJ, 128, .inr (.inl s0.2))), (h3, .inr (4, [.ref h4, .ref h5])), (h4, .inl (cJ, 64, .inr (.inl s1.1))), (h5, .inl (cJ, 128, .inr (.inl s1.2)))] → va_S A s.heap H locs → lv_has ls 5 [(4, .int p19_4), (3, .int u3), (0, .ref h0), (1, .int x1), (2, .ref h3)] → (∀ (H : Heap) (locs : List Loc) (ls : Array Slot), va_P (dC, dI) vwCl [(h0, .inr (4, [.ref h1, .ref h2])), (h1, .inl (cJ, 64, .inr (.inl v19))), (h2, .inl (cJ, 128, .inr (.inl s0.2))), (h3, .inr (4, [.ref h4, .ref h5])), (h4, .inl (cJ, 64, .inr (.inl s1.1))), (h5, .inl (cJ, 128, .inr (.inl s1.2)))] H → va_D A [(h0, .inr (4, [.ref h1, .ref h2])), (h1, .inl (cJ, 64, .inr (.inl v19))), (h2, .inl (cJ, 128, .inr (.inl s0.2))), (h3, .inr (4, [.ref h4, .ref h5])), (h4, .inl (cJ, 64, .inr (.inl s1.1))), (h5, .inl (cJ, 128, .inr (.inl s1.2)))] → va_S A s.heap H locs → lv_has ls 5 [(0, .ref h0), (1, .int x1)] → W p l e (headSpec wsX4_copyBelow ({ frames := 2, cells := 0, slots := 0, locals := 52 } : Room)).room s m ([.ref h0, .int x1, .ref h3] : List Value).toArray below meth c H locs 0 0 Q (F0 m 45 ls [])) → W p l e (headSpec wsX4_copyBelow ({ frames := 2, cells := 0, slots := 0, locals := 52 } : Room)).room s m ([.ref h0, .int x1, .ref h3] : List Value).toArray below meth c H locs 0 0 Q (F0 m 19 ls []) := by
      intro Q n19
      induction n19 with
      | zero =>
        intro p19_4 q19_0 v19 h
        rw [f_X4_copyBelow_19] at h
        cases h
      | succ n19 ih19 =>
        intro p19_4 q19_0 v19 h H locs ls hP hD hS hl kx19
        rw [f_X4_copyBelow_19] at h
        refine lv_iload hx hb dX4_copyBelow_19 (lv_at hl 0 rfl) ?_
        refine lv_iload_n hx hb dX4_copyBelow_21 rfl (lv_at hl 1 rfl) ?_
        refine lv_icmp_gt (tgt := 45) hx hb dX4_copyBelow_22 (by decide) (fun c5 => ?_) (fun c5 => ?_)
        · have h := ie_t c5 h
          obtain rfl := Option.some.inj h
          exact kx19 _ _ _ hP hD hS (lv_sub hl [2, 3] rfl)
        · have h := ie_f c5 h
          refine lv_aload_n hx hb dX4_copyBelow_25 rfl (lv_at hl 2 rfl) ?_
          refine va_get (D := (dC, dI)) (ci := 4) (v := .ref h1) (C := RX4) (T := TX4) (N := 2) hx hb hts (by decide +kernel) hown hK hP 0 rfl rfl 0 (by decide) (hts (.fieldLink RX4 9 "SnapshotPieces$Tree" "values" "[J") (by decide +kernel)) (fun _ h9 => h9) rfl dX4_copyBelow_26 ?_
          refine lv_iload hx hb dX4_copyBelow_29 (lv_at hl 0 rfl) ?_
          refine lv_aload_n hx hb dX4_copyBelow_31 rfl (lv_at hl 4 rfl) ?_
          refine va_get (D := (dC, dI)) (ci := 4) (v := .ref h4) (C := RX4) (T := TX4) (N := 2) hx hb hts (by decide +kernel) hown hK hP 3 rfl rfl 0 (by decide) (hts (.fieldLink RX4 9 "SnapshotPieces$Tree" "values" "[J") (by decide +kernel)) (fun _ h9 => h9) rfl dX4_copyBelow_32 ?_
          refine lv_iload hx hb dX4_copyBelow_35 (lv_at hl 0 rfl) ?_
          obtain ⟨g6, h⟩ := kb_e h
          refine va_lald hx hb hK hP 4 1 rfl rfl (ib_in g6) dX4_copyBelow_37 ?_
          obtain ⟨g7, h⟩ := kb_e h
          refine va_last hx hb hK hP hD hS 1 1 rfl rfl (ib_in g7) dX4_copyBelow_38 (fun H locs hP hD hS => ?_)
          have hP : va_P (dC, dI) vwCl [(h0, .inr (4, [.ref h1, .ref h2])), (h1, .inl (cJ, 64, .inr (.inl (vp_updL q19_0 (Int32.toNatClampNeg p19_4) (s1.1 (Int32.toNatClampNeg p19_4)))))), (h2, .inl (cJ, 128, .inr (.inl s0.2))), (h3, .inr (4, [.ref h4, .ref h5])), (h4, .inl (cJ, 64, .inr (.inl s1.1))), (h5, .inl (cJ, 128, .inr (.inl s1.2)))] H := hP
          have hD : va_D A [(h0, .inr (4, [.ref h1, .ref h2])), (h1, .inl (cJ, 64, .inr (.inl (vp_updL q19_0 (Int32.toNatClampNeg p19_4) (s1.1 (Int32.toNatClampNeg p19_4)))))), (h2, .inl (cJ, 128, .inr (.inl s0.2))), (h3, .inr (4, [.ref h4, .ref h5])), (h4, .inl (cJ, 64, .inr (.inl s1.1))), (h5, .inl (cJ, 128, .inr (.inl s1.2)))] := hD
          refine lv_iinc (v := (p19_4 + 1)) (lv' := [(4, .int (p19_4 + 1)), (3, .int u3), (0, .ref h0), (1, .int x1), (2, .ref h3)]) hx hb dX4_copyBelow_39 hl (k := 0) rfl rfl (by decide) rfl (fun ls hl => ?_)
          refine lv_goto (tgt := 19) hx hb dX4_copyBelow_42 (by decide) ?_
          exact ih19 (p19_4 + 1) (vp_updL q19_0 (Int32.toNatClampNeg p19_4) (s1.1 (Int32.toNatClampNeg p19_4))) v19 h _ _ _ hP hD hS (lv_sub hl [0, 1, 2, 3, 4] rfl) kx19
    obtain ⟨u8, hc8, h⟩ := bd_e h
    refine lp19 _ FU u4 s0.1 u8 hc8 _ _ _ hP hD hS (lv_sub hl [0, 1, 2, 3, 4] rfl) (fun H locs ls hP hD hS hl => ?_)
    refine lv_aload_n hx hb dX4_copyBelow_45 rfl (lv_at hl 0 rfl) ?_
    refine lv_iload_n hx hb dX4_copyBelow_46 rfl (lv_at hl 1 rfl) ?_
    obtain ⟨u9, hc9, h⟩ := bd_e h
    refine cc_v (tys := TY cI cJ cZ) [(h0, .inr (4, [.ref h1, .ref h2])), (h1, .inl (cJ, 64, .inr (.inl u8))), (h2, .inl (cJ, 128, .inr (.inl s0.2)))] [(h3, .inr (4, [.ref h4, .ref h5])), (h4, .inl (cJ, 64, .inr (.inl s1.1))), (h5, .inl (cJ, 128, .inr (.inl s1.2)))] [(h0, .inr (4, [.ref h1, .ref h2])), (h1, .inl (cJ, 64, .inr (.inl u9.1))), (h2, .inl (cJ, 128, .inr (.inl u9.2)))] [(h0, .inr (4, [.ref h1, .ref h2])), (h1, .inl (cJ, 64, .inr (.inl u9.1))), (h2, .inl (cJ, 128, .inr (.inl u9.2))), (h3, .inr (4, [.ref h4, .ref h5])), (h4, .inl (cJ, 64, .inr (.inl s1.1))), (h5, .inl (cJ, 128, .inr (.inl s1.2)))] hP hD hS hA [0, 1, 2] [3, 4, 5] [3, 4, 5, 0, 1, 2] rfl rfl (by decide) (by decide) rfl (by decide) rfl (va_runV (As := [.int x1]) (rest := []) ⟨hx, hb, hml, hown, hts⟩ (k_X4_renew l dC dI cI cJ cZ h0 h1 h2 (u8, s0.2) x1 u9 hc9 _) (cwV 1 hts gX4_copyBelow_X4_renew rfl rfl rfl (by decide +kernel) ⟨Nat.le_of_ble_eq_true rfl, Nat.le_of_ble_eq_true rfl⟩) ⟨cPre_blind, va_recv hK hP (ci := 4) (q0 := 0) rfl rfl, cPre_in hP hD hK [0, 1, 2] rfl (by decide) rfl⟩ rfl rfl hl.1 rfl (lv_room (Nat.le_of_ble_eq_true rfl)) dX4_copyBelow_47 ⟨Nat.le_of_ble_eq_true rfl, Nat.le_of_ble_eq_true rfl⟩) (fun H locs hP hD hS => ?_)
    obtain rfl := Option.some.inj h
    exact W.vret hx hb hr (fun t ht hW => ⟨⟨(), rfl, trivial, by rw [ht]; exact hP, va_K.moved hW.alike hK, hD⟩, hS.F ht⟩) hS.2.2 dX4_copyBelow_50
  · have h := ie_t c2 h
    obtain rfl := Option.some.inj h
    exact W.vret hx hb hr (fun t ht hW => ⟨⟨(), rfl, trivial, by rw [ht]; exact hP, va_K.moved hW.alike hK, hD⟩, hS.F ht⟩) hS.2.2 dX4_copyBelow_7
def f_X4_filledBelow_22 (y3 : Int32) (t0 : S_Tree) : Nat → Int32 → Int32 → Option (Int32)
  | 0, _, _ => none
  | n + 1, y4, y2 => if y3 < y4 then (some y2) else (kb (ib y4 64) (if (t0.1 (Int32.toNatClampNeg y4)) = 0 then (f_X4_filledBelow_22 y3 t0 n (y4 + 1) y2) else (f_X4_filledBelow_22 y3 t0 n (y4 + 1) (y2 + 1))))
def f_X4_filledBelow (s0 : S_Tree) (x1 : Int32) : Option (Int32) := (f_X4_isNode x1).bind fun u1 => if u1 = 0 then (some 0) else ((f_X4_lastPath x1).bind fun u3 => (f_X4_firstPath x1).bind fun u4 => (f_X4_filledBelow_22 u3 s0 FU u4 0).bind fun u8 => some u8)
set_option maxHeartbeats 4000000 in
set_option maxRecDepth 100000 in
theorem k_X4_filledBelow (l : Launch) (dC : Nat → ClassId) (dI : Nat → Nat → Nat) (cI cJ cZ : ClassId) (h0 h1 h2 : Nat) (s0 : S_Tree) (x1 : Int32) (u : Int32) (hf : f_X4_filledBelow s0 x1 = some u) (sz : Nat) : Met l yX4_filledBelow wsX4_filledBelow ({ frames := 1, cells := 0, slots := 0, locals := 22 }) (cPre (dC, dI) vwCl (TY cI cJ cZ) [.ref h0, .int x1] [(h0, .inr (4, [.ref h1, .ref h2])), (h1, .inl (cJ, 64, .inr (.inl s0.1))), (h2, .inl (cJ, 128, .inr (.inl s0.2)))] sz) (va_Qi (fun (r : Int32) (_ : Unit) => r = u) (fun _ t => cB (dC, dI) vwCl (TY cI cJ cZ) (va_A [(h0, .inr (4, [.ref h1, .ref h2])), (h1, .inl (cJ, 64, .inr (.inl s0.1))), (h2, .inl (cJ, 128, .inr (.inl s0.2)))] sz) [(h0, .inr (4, [.ref h1, .ref h2])), (h1, .inl (cJ, 64, .inr (.inl s0.1))), (h2, .inl (cJ, 128, .inr (.inl s0.2)))] t) (va_A [(h0, .inr (4, [.ref h1, .ref h2])), (h1, .inl (cJ, 64, .inr (.inl s0.1))), (h2, .inl (cJ, 128, .inr (.inl s0.2)))] sz)) 0 0 (va_A [(h0, .inr (4, [.ref h1, .ref h2])), (h1, .inl (cJ, 64, .inr (.inl s0.1))), (h2, .inl (cJ, 128, .inr (.inl s0.2)))] sz) := by
  refine Met.ofW (cc := cX4_filledBelow) (maxL := 5) (ret := (some .int)) (by decide) rfl ?_
  intro p e s m args below meth c s₁ B hml hv
  obtain ⟨rfl, hsz, hP, hK, hD0⟩ := hv
  have hx := B.exec
  have hb := B.bytes
  have hr := B.returns
  have hts := atoms_spec (ws := wsX4_filledBelow) B.pre
  have hown : s.vm.findClass RX4 = some m.cls := findClass_of_methodNamed B.named
  have hlocks := B.notSynchronized
  subst hsz
  have hD := hD0.self (sz := s.heap.size)
  generalize hAe : va_A [(h0, .inr (4, [.ref h1, .ref h2])), (h1, .inl (cJ, 64, .inr (.inl s0.1))), (h2, .inl (cJ, 128, .inr (.inl s0.2)))] s.heap.size = A at hD ⊢
  have hA : ∀ q : Nat, s.heap.size ≤ q → A q := fun q h => by rw [← hAe]; exact Or.inr h
  have hS : va_S A s.heap s.heap [] := va_S.rf
  have hl := lv_entry ([.ref h0, .int x1]) (n := 5) (Nat.le_of_ble_eq_true rfl)
  rw [lg_entry_eq]
  generalize (lg_sl ([.ref h0, .int x1]) ++ List.replicate (5 - (lg_sl ([.ref h0, .int x1])).length) Slot.unset).toArray = ls at hl ⊢
  have hl : lv_has ls 5 [(0, .ref h0), (1, .int x1)] := hl
  have h := hf
  unfold f_X4_filledBelow at h
  refine lv_iload_n hx hb dX4_filledBelow_0 rfl (lv_at hl 1 rfl) ?_
  obtain ⟨u1, hc1, h⟩ := bd_e h
  refine cc_i (tys := TY cI cJ cZ) ([] : va_W) [(h0, .inr (4, [.ref h1, .ref h2])), (h1, .inl (cJ, 64, .inr (.inl s0.1))), (h2, .inl (cJ, 128, .inr (.inl s0.2)))] ([] : va_W) [(h0, .inr (4, [.ref h1, .ref h2])), (h1, .inl (cJ, 64, .inr (.inl s0.1))), (h2, .inl (cJ, 128, .inr (.inl s0.2)))] hP hD hS hA [] [0, 1, 2] [0, 1, 2] rfl rfl (by decide) (by decide) rfl (by decide) rfl (va_runS (As := [.int x1]) (rest := []) ⟨hx, hb, hml, hown, hts⟩ (k_X4_isNode l dC dI cI cJ cZ x1 u1 hc1 _) (va_cwS 1 hts gX4_filledBelow_X4_isNode rfl rfl rfl (by decide +kernel) ⟨Nat.le_of_ble_eq_true rfl, Nat.le_of_ble_eq_true rfl⟩) ⟨cPre_blind, cPre_in hP hD hK [] rfl (by decide) rfl⟩ rfl rfl hl.1 rfl (lv_room (Nat.le_of_ble_eq_true rfl)) dX4_filledBelow_1 ⟨Nat.le_of_ble_eq_true rfl, Nat.le_of_ble_eq_true rfl⟩) (fun H locs hP hD hS => ?_)
  refine lv_if_ne (tgt := 9) hx hb dX4_filledBelow_4 (by decide) (fun c2 => ?_) (fun c2 => ?_)
  · have h := ie_f c2 h
    refine lv_iconst (v := 0) hx hb dX4_filledBelow_9 (by decide) ?_
    refine lv_istore_n (lv' := [(2, .int 0), (0, .ref h0), (1, .int x1)]) hx hb dX4_filledBelow_10 rfl hl (by decide) rfl (fun ls hl => ?_)
    refine lv_iload_n hx hb dX4_filledBelow_11 rfl (lv_at hl 2 rfl) ?_
    obtain ⟨u3, hc3, h⟩ := bd_e h
    refine cc_i (tys := TY cI cJ cZ) ([] : va_W) [(h0, .inr (4, [.ref h1, .ref h2])), (h1, .inl (cJ, 64, .inr (.inl s0.1))), (h2, .inl (cJ, 128, .inr (.inl s0.2)))] ([] : va_W) [(h0, .inr (4, [.ref h1, .ref h2])), (h1, .inl (cJ, 64, .inr (.inl s0.1))), (h2, .inl (cJ, 128, .inr (.inl s0.2)))] hP hD hS hA [] [0, 1, 2] [0, 1, 2] rfl rfl (by decide) (by decide) rfl (by decide) rfl (va_runS (As := [.int x1]) (rest := []) ⟨hx, hb, hml, hown, hts⟩ (k_X4_lastPath l dC dI cI cJ cZ x1 u3 hc3 _) (va_cwS 1 hts gX4_filledBelow_X4_lastPath rfl rfl rfl (by decide +kernel) ⟨Nat.le_of_ble_eq_true rfl, Nat.le_of_ble_eq_true rfl⟩) ⟨cPre_blind, cPre_in hP hD hK [] rfl (by decide) rfl⟩ rfl rfl hl.1 rfl (lv_room (Nat.le_of_ble_eq_true rfl)) dX4_filledBelow_12 ⟨Nat.le_of_ble_eq_true rfl, Nat.le_of_ble_eq_true rfl⟩) (fun H locs hP hD hS => ?_)
    refine lv_istore_n (lv' := [(3, .int u3), (2, .int 0), (0, .ref h0), (1, .int x1)]) hx hb dX4_filledBelow_15 rfl hl (by decide) rfl (fun ls hl => ?_)
    refine lv_iload_n hx hb dX4_filledBelow_16 rfl (lv_at hl 3 rfl) ?_
    obtain ⟨u4, hc4, h⟩ := bd_e h
    refine cc_i (tys := TY cI cJ cZ) ([] : va_W) [(h0, .inr (4, [.ref h1, .ref h2])), (h1, .inl (cJ, 64, .inr (.inl s0.1))), (h2, .inl (cJ, 128, .inr (.inl s0.2)))] ([] : va_W) [(h0, .inr (4, [.ref h1, .ref h2])), (h1, .inl (cJ, 64, .inr (.inl s0.1))), (h2, .inl (cJ, 128, .inr (.inl s0.2)))] hP hD hS hA [] [0, 1, 2] [0, 1, 2] rfl rfl (by decide) (by decide) rfl (by decide) rfl (va_runS (As := [.int x1]) (rest := []) ⟨hx, hb, hml, hown, hts⟩ (k_X4_firstPath l dC dI cI cJ cZ x1 u4 hc4 _) (va_cwS 1 hts gX4_filledBelow_X4_firstPath rfl rfl rfl (by decide +kernel) ⟨Nat.le_of_ble_eq_true rfl, Nat.le_of_ble_eq_true rfl⟩) ⟨cPre_blind, cPre_in hP hD hK [] rfl (by decide) rfl⟩ rfl rfl hl.1 rfl (lv_room (Nat.le_of_ble_eq_true rfl)) dX4_filledBelow_17 ⟨Nat.le_of_ble_eq_true rfl, Nat.le_of_ble_eq_true rfl⟩) (fun H locs hP hD hS => ?_)
    refine lv_istore (lv' := [(4, .int u4), (3, .int u3), (2, .int 0), (0, .ref h0), (1, .int x1)]) hx hb dX4_filledBelow_20 hl (by decide) rfl (fun ls hl => ?_)
    have lp22 : ∀ (Q : State → Prop) (n22 : Nat) (p22_4 : Int32) (p22_2 : Int32) (v22 : Int32), f_X4_filledBelow_22 u3 s0 n22 p22_4 p22_2 = some v22 → ∀ (H : Heap) (locs : List Loc) (ls : Array Slot), va_P (dC, dI) vwCl [(h0, .inr (4, [.ref h1, .ref h2])), (h1, .inl (cJ, 64, .inr (.inl s0.1))), (h2, .inl (cJ, 128, .inr (.inl s0.2)))] H → va_D A [(h0, .inr (4, [.ref h1, .ref h2])), (h1, .inl (cJ, 64, .inr (.inl s0.1))), (h2, .inl (cJ, 128, .inr (.inl s0.2)))] → va_S A s.heap H locs → lv_has ls 5 [(4, .int p22_4), (3, .int u3), (2, .int p22_2), (0, .ref h0)] → (∀ (H : Heap) (locs : List Loc) (ls : Array Slot), va_P (dC, dI) vwCl [(h0, .inr (4, [.ref h1, .ref h2])), (h1, .inl (cJ, 64, .inr (.inl s0.1))), (h2, .inl (cJ, 128, .inr (.inl s0.2)))] H → va_D A [(h0, .inr (4, [.ref h1, .ref h2])), (h1, .inl (cJ, 64, .inr (.inl s0.1))), (h2, .inl (cJ, 128, .inr (.inl s0.2)))] → va_S A s.heap H locs → lv_has ls 5 [(2, .int v22)] → W p l e (headSpec wsX4_filledBelow ({ frames := 1, cells := 0, slots := 0, locals := 22 } : Room)).room s m ([.ref h0, .int x1] : List Value).toArray below meth c H locs 0 0 Q (F0 m 49 ls [])) → W p l e (headSpec wsX4_filledBelow ({ frames := 1, cells := 0, slots := 0, locals := 22 } : Room)).room s m ([.ref h0, .int x1] : List Value).toArray below meth c H locs 0 0 Q (F0 m 22 ls []) := by
      intro Q n22
      induction n22 with
      | zero =>
        intro p22_4 p22_2 v22 h
        rw [f_X4_filledBelow_22] at h
        cases h
      | succ n22 ih22 =>
        intro p22_4 p22_2 v22 h H locs ls hP hD hS hl kx22
        rw [f_X4_filledBelow_22] at h
        refine lv_iload hx hb dX4_filledBelow_22 (lv_at hl 0 rfl) ?_
        refine lv_iload_n hx hb dX4_filledBelow_24 rfl (lv_at hl 1 rfl) ?_
        refine lv_icmp_gt (tgt := 49) hx hb dX4_filledBelow_25 (by decide) (fun c5 => ?_) (fun c5 => ?_)
        · have h := ie_t c5 h
          obtain rfl := Option.some.inj h
          exact kx22 _ _ _ hP hD hS (lv_sub hl [2] rfl)
        · have h := ie_f c5 h
          refine lv_aload_n hx hb dX4_filledBelow_28 rfl (lv_at hl 3 rfl) ?_
          refine va_get (D := (dC, dI)) (ci := 4) (v := .ref h1) (C := RX4) (T := TX4) (N := 2) hx hb hts (by decide +kernel) hown hK hP 0 rfl rfl 0 (by decide) (hts (.fieldLink RX4 9 "SnapshotPieces$Tree" "values" "[J") (by decide +kernel)) (fun _ h9 => h9) rfl dX4_filledBelow_29 ?_
          refine lv_iload hx hb dX4_filledBelow_32 (lv_at hl 0 rfl) ?_
          obtain ⟨g6, h⟩ := kb_e h
          refine va_lald hx hb hK hP 1 1 rfl rfl (ib_in g6) dX4_filledBelow_34 ?_
          refine lv_lconst (v := 0) hx hb dX4_filledBelow_35 (by decide) ?_
          refine W.lcmp hx hb dX4_filledBelow_36 ?_
          refine lv_if_eq (tgt := 43) hx hb dX4_filledBelow_37 (by decide) (fun c7 => ?_) (fun c7 => ?_)
          · have c7 := lgz_t c7
            have h := ie_t c7 h
            refine lv_iinc (v := (p22_4 + 1)) (lv' := [(4, .int (p22_4 + 1)), (3, .int u3), (2, .int p22_2), (0, .ref h0)]) hx hb dX4_filledBelow_43 hl (k := 0) rfl rfl (by decide) rfl (fun ls hl => ?_)
            refine lv_goto (tgt := 22) hx hb dX4_filledBelow_46 (by decide) ?_
            exact ih22 (p22_4 + 1) p22_2 v22 h _ _ _ hP hD hS (lv_sub hl [0, 1, 2, 3] rfl) kx22
          · have c7 := lgz_f c7
            have h := ie_f c7 h
            refine lv_iinc (v := (p22_2 + 1)) (lv' := [(2, .int (p22_2 + 1)), (4, .int p22_4), (3, .int u3), (0, .ref h0)]) hx hb dX4_filledBelow_40 hl (k := 2) rfl rfl (by decide) rfl (fun ls hl => ?_)
            refine lv_iinc (v := (p22_4 + 1)) (lv' := [(4, .int (p22_4 + 1)), (2, .int (p22_2 + 1)), (3, .int u3), (0, .ref h0)]) hx hb dX4_filledBelow_43 hl (k := 1) rfl rfl (by decide) rfl (fun ls hl => ?_)
            refine lv_goto (tgt := 22) hx hb dX4_filledBelow_46 (by decide) ?_
            exact ih22 (p22_4 + 1) (p22_2 + 1) v22 h _ _ _ hP hD hS (lv_sub hl [0, 2, 1, 3] rfl) kx22
    obtain ⟨u8, hc8, h⟩ := bd_e h
    refine lp22 _ FU u4 0 u8 hc8 _ _ _ hP hD hS (lv_sub hl [0, 1, 2, 3] rfl) (fun H locs ls hP hD hS hl => ?_)
    refine lv_iload_n hx hb dX4_filledBelow_49 rfl (lv_at hl 0 rfl) ?_
    obtain rfl := Option.some.inj h
    exact W.iret (v := u8) hx hb hr (fun t ht hW => ⟨⟨_, (), rfl, rfl, by rw [ht]; exact hP, va_K.moved hW.alike hK, hD⟩, hS.F ht⟩) hS.2.2 dX4_filledBelow_50
  · have h := ie_t c2 h
    refine lv_iconst (v := 0) hx hb dX4_filledBelow_7 (by decide) ?_
    obtain rfl := Option.some.inj h
    exact W.iret (v := 0) hx hb hr (fun t ht hW => ⟨⟨_, (), rfl, rfl, by rw [ht]; exact hP, va_K.moved hW.alike hK, hD⟩, hS.F ht⟩) hS.2.2 dX4_filledBelow_8
def f_X4_firstFilled_19 (y2 : Int32) (t0 : S_Tree) : Nat → Int32 → Option (Int32)
  | 0, _ => none
  | n + 1, y3 => if y2 < y3 then (some (-1)) else (kb (ib y3 64) (if (t0.1 (Int32.toNatClampNeg y3)) = 0 then (f_X4_firstFilled_19 y2 t0 n (y3 + 1)) else (some y3)))
def f_X4_firstFilled (s0 : S_Tree) (x1 : Int32) : Option (Int32) := (f_X4_isNode x1).bind fun u1 => if u1 = 0 then (some (-1)) else ((f_X4_lastPath x1).bind fun u3 => (f_X4_firstPath x1).bind fun u4 => f_X4_firstFilled_19 u3 s0 FU u4)
set_option maxHeartbeats 4000000 in
set_option maxRecDepth 100000 in
theorem k_X4_firstFilled (l : Launch) (dC : Nat → ClassId) (dI : Nat → Nat → Nat) (cI cJ cZ : ClassId) (h0 h1 h2 : Nat) (s0 : S_Tree) (x1 : Int32) (u : Int32) (hf : f_X4_firstFilled s0 x1 = some u) (sz : Nat) : Met l yX4_firstFilled wsX4_firstFilled ({ frames := 1, cells := 0, slots := 0, locals := 22 }) (cPre (dC, dI) vwCl (TY cI cJ cZ) [.ref h0, .int x1] [(h0, .inr (4, [.ref h1, .ref h2])), (h1, .inl (cJ, 64, .inr (.inl s0.1))), (h2, .inl (cJ, 128, .inr (.inl s0.2)))] sz) (va_Qi (fun (r : Int32) (_ : Unit) => r = u) (fun _ t => cB (dC, dI) vwCl (TY cI cJ cZ) (va_A [(h0, .inr (4, [.ref h1, .ref h2])), (h1, .inl (cJ, 64, .inr (.inl s0.1))), (h2, .inl (cJ, 128, .inr (.inl s0.2)))] sz) [(h0, .inr (4, [.ref h1, .ref h2])), (h1, .inl (cJ, 64, .inr (.inl s0.1))), (h2, .inl (cJ, 128, .inr (.inl s0.2)))] t) (va_A [(h0, .inr (4, [.ref h1, .ref h2])), (h1, .inl (cJ, 64, .inr (.inl s0.1))), (h2, .inl (cJ, 128, .inr (.inl s0.2)))] sz)) 0 0 (va_A [(h0, .inr (4, [.ref h1, .ref h2])), (h1, .inl (cJ, 64, .inr (.inl s0.1))), (h2, .inl (cJ, 128, .inr (.inl s0.2)))] sz) := by
  refine Met.ofW (cc := cX4_firstFilled) (maxL := 4) (ret := (some .int)) (by decide) rfl ?_
  intro p e s m args below meth c s₁ B hml hv
  obtain ⟨rfl, hsz, hP, hK, hD0⟩ := hv
  have hx := B.exec
  have hb := B.bytes
  have hr := B.returns
  have hts := atoms_spec (ws := wsX4_firstFilled) B.pre
  have hown : s.vm.findClass RX4 = some m.cls := findClass_of_methodNamed B.named
  have hlocks := B.notSynchronized
  subst hsz
  have hD := hD0.self (sz := s.heap.size)
  generalize hAe : va_A [(h0, .inr (4, [.ref h1, .ref h2])), (h1, .inl (cJ, 64, .inr (.inl s0.1))), (h2, .inl (cJ, 128, .inr (.inl s0.2)))] s.heap.size = A at hD ⊢
  have hA : ∀ q : Nat, s.heap.size ≤ q → A q := fun q h => by rw [← hAe]; exact Or.inr h
  have hS : va_S A s.heap s.heap [] := va_S.rf
  have hl := lv_entry ([.ref h0, .int x1]) (n := 4) (Nat.le_of_ble_eq_true rfl)
  rw [lg_entry_eq]
  generalize (lg_sl ([.ref h0, .int x1]) ++ List.replicate (4 - (lg_sl ([.ref h0, .int x1])).length) Slot.unset).toArray = ls at hl ⊢
  have hl : lv_has ls 4 [(0, .ref h0), (1, .int x1)] := hl
  have h := hf
  unfold f_X4_firstFilled at h
  refine lv_iload_n hx hb dX4_firstFilled_0 rfl (lv_at hl 1 rfl) ?_
  obtain ⟨u1, hc1, h⟩ := bd_e h
  refine cc_i (tys := TY cI cJ cZ) ([] : va_W) [(h0, .inr (4, [.ref h1, .ref h2])), (h1, .inl (cJ, 64, .inr (.inl s0.1))), (h2, .inl (cJ, 128, .inr (.inl s0.2)))] ([] : va_W) [(h0, .inr (4, [.ref h1, .ref h2])), (h1, .inl (cJ, 64, .inr (.inl s0.1))), (h2, .inl (cJ, 128, .inr (.inl s0.2)))] hP hD hS hA [] [0, 1, 2] [0, 1, 2] rfl rfl (by decide) (by decide) rfl (by decide) rfl (va_runS (As := [.int x1]) (rest := []) ⟨hx, hb, hml, hown, hts⟩ (k_X4_isNode l dC dI cI cJ cZ x1 u1 hc1 _) (va_cwS 1 hts gX4_firstFilled_X4_isNode rfl rfl rfl (by decide +kernel) ⟨Nat.le_of_ble_eq_true rfl, Nat.le_of_ble_eq_true rfl⟩) ⟨cPre_blind, cPre_in hP hD hK [] rfl (by decide) rfl⟩ rfl rfl hl.1 rfl (lv_room (Nat.le_of_ble_eq_true rfl)) dX4_firstFilled_1 ⟨Nat.le_of_ble_eq_true rfl, Nat.le_of_ble_eq_true rfl⟩) (fun H locs hP hD hS => ?_)
  refine lv_if_ne (tgt := 9) hx hb dX4_firstFilled_4 (by decide) (fun c2 => ?_) (fun c2 => ?_)
  · have h := ie_f c2 h
    refine lv_iload_n hx hb dX4_firstFilled_9 rfl (lv_at hl 1 rfl) ?_
    obtain ⟨u3, hc3, h⟩ := bd_e h
    refine cc_i (tys := TY cI cJ cZ) ([] : va_W) [(h0, .inr (4, [.ref h1, .ref h2])), (h1, .inl (cJ, 64, .inr (.inl s0.1))), (h2, .inl (cJ, 128, .inr (.inl s0.2)))] ([] : va_W) [(h0, .inr (4, [.ref h1, .ref h2])), (h1, .inl (cJ, 64, .inr (.inl s0.1))), (h2, .inl (cJ, 128, .inr (.inl s0.2)))] hP hD hS hA [] [0, 1, 2] [0, 1, 2] rfl rfl (by decide) (by decide) rfl (by decide) rfl (va_runS (As := [.int x1]) (rest := []) ⟨hx, hb, hml, hown, hts⟩ (k_X4_lastPath l dC dI cI cJ cZ x1 u3 hc3 _) (va_cwS 1 hts gX4_firstFilled_X4_lastPath rfl rfl rfl (by decide +kernel) ⟨Nat.le_of_ble_eq_true rfl, Nat.le_of_ble_eq_true rfl⟩) ⟨cPre_blind, cPre_in hP hD hK [] rfl (by decide) rfl⟩ rfl rfl hl.1 rfl (lv_room (Nat.le_of_ble_eq_true rfl)) dX4_firstFilled_10 ⟨Nat.le_of_ble_eq_true rfl, Nat.le_of_ble_eq_true rfl⟩) (fun H locs hP hD hS => ?_)
    refine lv_istore_n (lv' := [(2, .int u3), (0, .ref h0), (1, .int x1)]) hx hb dX4_firstFilled_13 rfl hl (by decide) rfl (fun ls hl => ?_)
    refine lv_iload_n hx hb dX4_firstFilled_14 rfl (lv_at hl 2 rfl) ?_
    obtain ⟨u4, hc4, h⟩ := bd_e h
    refine cc_i (tys := TY cI cJ cZ) ([] : va_W) [(h0, .inr (4, [.ref h1, .ref h2])), (h1, .inl (cJ, 64, .inr (.inl s0.1))), (h2, .inl (cJ, 128, .inr (.inl s0.2)))] ([] : va_W) [(h0, .inr (4, [.ref h1, .ref h2])), (h1, .inl (cJ, 64, .inr (.inl s0.1))), (h2, .inl (cJ, 128, .inr (.inl s0.2)))] hP hD hS hA [] [0, 1, 2] [0, 1, 2] rfl rfl (by decide) (by decide) rfl (by decide) rfl (va_runS (As := [.int x1]) (rest := []) ⟨hx, hb, hml, hown, hts⟩ (k_X4_firstPath l dC dI cI cJ cZ x1 u4 hc4 _) (va_cwS 1 hts gX4_firstFilled_X4_firstPath rfl rfl rfl (by decide +kernel) ⟨Nat.le_of_ble_eq_true rfl, Nat.le_of_ble_eq_true rfl⟩) ⟨cPre_blind, cPre_in hP hD hK [] rfl (by decide) rfl⟩ rfl rfl hl.1 rfl (lv_room (Nat.le_of_ble_eq_true rfl)) dX4_firstFilled_15 ⟨Nat.le_of_ble_eq_true rfl, Nat.le_of_ble_eq_true rfl⟩) (fun H locs hP hD hS => ?_)
    refine lv_istore_n (lv' := [(3, .int u4), (2, .int u3), (0, .ref h0), (1, .int x1)]) hx hb dX4_firstFilled_18 rfl hl (by decide) rfl (fun ls hl => ?_)
    have lp19 : ∀ (n19 : Nat) (p19_3 : Int32), f_X4_firstFilled_19 u3 s0 n19 p19_3 = some u → ∀ (H : Heap) (locs : List Loc) (ls : Array Slot), va_P (dC, dI) vwCl [(h0, .inr (4, [.ref h1, .ref h2])), (h1, .inl (cJ, 64, .inr (.inl s0.1))), (h2, .inl (cJ, 128, .inr (.inl s0.2)))] H → va_D A [(h0, .inr (4, [.ref h1, .ref h2])), (h1, .inl (cJ, 64, .inr (.inl s0.1))), (h2, .inl (cJ, 128, .inr (.inl s0.2)))] → va_S A s.heap H locs → lv_has ls 4 [(3, .int p19_3), (2, .int u3), (0, .ref h0)] → W p l e (headSpec wsX4_firstFilled ({ frames := 1, cells := 0, slots := 0, locals := 22 } : Room)).room s m ([.ref h0, .int x1] : List Value).toArray below meth c H locs 0 0 (MQ below (va_Qi (fun (r : Int32) (_ : Unit) => r = u) (fun _ t => cB (dC, dI) vwCl (TY cI cJ cZ) A [(h0, .inr (4, [.ref h1, .ref h2])), (h1, .inl (cJ, 64, .inr (.inl s0.1))), (h2, .inl (cJ, 128, .inr (.inl s0.2)))] t) A) ([.ref h0, .int x1] : List Value).toArray s 0 0 A) (F0 m 19 ls []) := by
      intro n19
      induction n19 with
      | zero =>
        intro p19_3 h
        rw [f_X4_firstFilled_19] at h
        cases h
      | succ n19 ih19 =>
        intro p19_3 h H locs ls hP hD hS hl
        rw [f_X4_firstFilled_19] at h
        refine lv_iload_n hx hb dX4_firstFilled_19 rfl (lv_at hl 0 rfl) ?_
        refine lv_iload_n hx hb dX4_firstFilled_20 rfl (lv_at hl 1 rfl) ?_
        refine lv_icmp_gt (tgt := 43) hx hb dX4_firstFilled_21 (by decide) (fun c5 => ?_) (fun c5 => ?_)
        · have h := ie_t c5 h
          refine lv_iconst (v := (-1)) hx hb dX4_firstFilled_43 (by decide) ?_
          obtain rfl := Option.some.inj h
          exact W.iret (v := (-1)) hx hb hr (fun t ht hW => ⟨⟨_, (), rfl, rfl, by rw [ht]; exact hP, va_K.moved hW.alike hK, hD⟩, hS.F ht⟩) hS.2.2 dX4_firstFilled_44
        · have h := ie_f c5 h
          refine lv_aload_n hx hb dX4_firstFilled_24 rfl (lv_at hl 2 rfl) ?_
          refine va_get (D := (dC, dI)) (ci := 4) (v := .ref h1) (C := RX4) (T := TX4) (N := 2) hx hb hts (by decide +kernel) hown hK hP 0 rfl rfl 0 (by decide) (hts (.fieldLink RX4 9 "SnapshotPieces$Tree" "values" "[J") (by decide +kernel)) (fun _ h9 => h9) rfl dX4_firstFilled_25 ?_
          refine lv_iload_n hx hb dX4_firstFilled_28 rfl (lv_at hl 0 rfl) ?_
          obtain ⟨g6, h⟩ := kb_e h
          refine va_lald hx hb hK hP 1 1 rfl rfl (ib_in g6) dX4_firstFilled_29 ?_
          refine lv_lconst (v := 0) hx hb dX4_firstFilled_30 (by decide) ?_
          refine W.lcmp hx hb dX4_firstFilled_31 ?_
          refine lv_if_eq (tgt := 37) hx hb dX4_firstFilled_32 (by decide) (fun c7 => ?_) (fun c7 => ?_)
          · have c7 := lgz_t c7
            have h := ie_t c7 h
            refine lv_iinc (v := (p19_3 + 1)) (lv' := [(3, .int (p19_3 + 1)), (2, .int u3), (0, .ref h0)]) hx hb dX4_firstFilled_37 hl (k := 0) rfl rfl (by decide) rfl (fun ls hl => ?_)
            refine lv_goto (tgt := 19) hx hb dX4_firstFilled_40 (by decide) ?_
            exact ih19 (p19_3 + 1) h _ _ _ hP hD hS (lv_sub hl [0, 1, 2] rfl)
          · have c7 := lgz_f c7
            have h := ie_f c7 h
            refine lv_iload_n hx hb dX4_firstFilled_35 rfl (lv_at hl 0 rfl) ?_
            obtain rfl := Option.some.inj h
            exact W.iret (v := p19_3) hx hb hr (fun t ht hW => ⟨⟨_, (), rfl, rfl, by rw [ht]; exact hP, va_K.moved hW.alike hK, hD⟩, hS.F ht⟩) hS.2.2 dX4_firstFilled_36
    exact lp19 FU u4 h _ _ _ hP hD hS (lv_sub hl [0, 1, 2] rfl)
  · have h := ie_t c2 h
    refine lv_iconst (v := (-1)) hx hb dX4_firstFilled_7 (by decide) ?_
    obtain rfl := Option.some.inj h
    exact W.iret (v := (-1)) hx hb hr (fun t ht hW => ⟨⟨_, (), rfl, rfl, by rw [ht]; exact hP, va_K.moved hW.alike hK, hD⟩, hS.F ht⟩) hS.2.2 dX4_firstFilled_8
def f_X4_lastFilled_19 (y2 : Int32) (t0 : S_Tree) : Nat → Int32 → Option (Int32)
  | 0, _ => none
  | n + 1, y3 => if y3 < y2 then (some (-1)) else (kb (ib y3 64) (if (t0.1 (Int32.toNatClampNeg y3)) = 0 then (f_X4_lastFilled_19 y2 t0 n (y3 + (-1))) else (some y3)))
def f_X4_lastFilled (s0 : S_Tree) (x1 : Int32) : Option (Int32) := (f_X4_isNode x1).bind fun u1 => if u1 = 0 then (some (-1)) else ((f_X4_firstPath x1).bind fun u3 => (f_X4_lastPath x1).bind fun u4 => f_X4_lastFilled_19 u3 s0 FU u4)
set_option maxHeartbeats 4000000 in
set_option maxRecDepth 100000 in
theorem k_X4_lastFilled (l : Launch) (dC : Nat → ClassId) (dI : Nat → Nat → Nat) (cI cJ cZ : ClassId) (h0 h1 h2 : Nat) (s0 : S_Tree) (x1 : Int32) (u : Int32) (hf : f_X4_lastFilled s0 x1 = some u) (sz : Nat) : Met l yX4_lastFilled wsX4_lastFilled ({ frames := 1, cells := 0, slots := 0, locals := 22 }) (cPre (dC, dI) vwCl (TY cI cJ cZ) [.ref h0, .int x1] [(h0, .inr (4, [.ref h1, .ref h2])), (h1, .inl (cJ, 64, .inr (.inl s0.1))), (h2, .inl (cJ, 128, .inr (.inl s0.2)))] sz) (va_Qi (fun (r : Int32) (_ : Unit) => r = u) (fun _ t => cB (dC, dI) vwCl (TY cI cJ cZ) (va_A [(h0, .inr (4, [.ref h1, .ref h2])), (h1, .inl (cJ, 64, .inr (.inl s0.1))), (h2, .inl (cJ, 128, .inr (.inl s0.2)))] sz) [(h0, .inr (4, [.ref h1, .ref h2])), (h1, .inl (cJ, 64, .inr (.inl s0.1))), (h2, .inl (cJ, 128, .inr (.inl s0.2)))] t) (va_A [(h0, .inr (4, [.ref h1, .ref h2])), (h1, .inl (cJ, 64, .inr (.inl s0.1))), (h2, .inl (cJ, 128, .inr (.inl s0.2)))] sz)) 0 0 (va_A [(h0, .inr (4, [.ref h1, .ref h2])), (h1, .inl (cJ, 64, .inr (.inl s0.1))), (h2, .inl (cJ, 128, .inr (.inl s0.2)))] sz) := by
  refine Met.ofW (cc := cX4_lastFilled) (maxL := 4) (ret := (some .int)) (by decide) rfl ?_
  intro p e s m args below meth c s₁ B hml hv
  obtain ⟨rfl, hsz, hP, hK, hD0⟩ := hv
  have hx := B.exec
  have hb := B.bytes
  have hr := B.returns
  have hts := atoms_spec (ws := wsX4_lastFilled) B.pre
  have hown : s.vm.findClass RX4 = some m.cls := findClass_of_methodNamed B.named
  have hlocks := B.notSynchronized
  subst hsz
  have hD := hD0.self (sz := s.heap.size)
  generalize hAe : va_A [(h0, .inr (4, [.ref h1, .ref h2])), (h1, .inl (cJ, 64, .inr (.inl s0.1))), (h2, .inl (cJ, 128, .inr (.inl s0.2)))] s.heap.size = A at hD ⊢
  have hA : ∀ q : Nat, s.heap.size ≤ q → A q := fun q h => by rw [← hAe]; exact Or.inr h
  have hS : va_S A s.heap s.heap [] := va_S.rf
  have hl := lv_entry ([.ref h0, .int x1]) (n := 4) (Nat.le_of_ble_eq_true rfl)
  rw [lg_entry_eq]
  generalize (lg_sl ([.ref h0, .int x1]) ++ List.replicate (4 - (lg_sl ([.ref h0, .int x1])).length) Slot.unset).toArray = ls at hl ⊢
  have hl : lv_has ls 4 [(0, .ref h0), (1, .int x1)] := hl
  have h := hf
  unfold f_X4_lastFilled at h
  refine lv_iload_n hx hb dX4_lastFilled_0 rfl (lv_at hl 1 rfl) ?_
  obtain ⟨u1, hc1, h⟩ := bd_e h
  refine cc_i (tys := TY cI cJ cZ) ([] : va_W) [(h0, .inr (4, [.ref h1, .ref h2])), (h1, .inl (cJ, 64, .inr (.inl s0.1))), (h2, .inl (cJ, 128, .inr (.inl s0.2)))] ([] : va_W) [(h0, .inr (4, [.ref h1, .ref h2])), (h1, .inl (cJ, 64, .inr (.inl s0.1))), (h2, .inl (cJ, 128, .inr (.inl s0.2)))] hP hD hS hA [] [0, 1, 2] [0, 1, 2] rfl rfl (by decide) (by decide) rfl (by decide) rfl (va_runS (As := [.int x1]) (rest := []) ⟨hx, hb, hml, hown, hts⟩ (k_X4_isNode l dC dI cI cJ cZ x1 u1 hc1 _) (va_cwS 1 hts gX4_lastFilled_X4_isNode rfl rfl rfl (by decide +kernel) ⟨Nat.le_of_ble_eq_true rfl, Nat.le_of_ble_eq_true rfl⟩) ⟨cPre_blind, cPre_in hP hD hK [] rfl (by decide) rfl⟩ rfl rfl hl.1 rfl (lv_room (Nat.le_of_ble_eq_true rfl)) dX4_lastFilled_1 ⟨Nat.le_of_ble_eq_true rfl, Nat.le_of_ble_eq_true rfl⟩) (fun H locs hP hD hS => ?_)
  refine lv_if_ne (tgt := 9) hx hb dX4_lastFilled_4 (by decide) (fun c2 => ?_) (fun c2 => ?_)
  · have h := ie_f c2 h
    refine lv_iload_n hx hb dX4_lastFilled_9 rfl (lv_at hl 1 rfl) ?_
    obtain ⟨u3, hc3, h⟩ := bd_e h
    refine cc_i (tys := TY cI cJ cZ) ([] : va_W) [(h0, .inr (4, [.ref h1, .ref h2])), (h1, .inl (cJ, 64, .inr (.inl s0.1))), (h2, .inl (cJ, 128, .inr (.inl s0.2)))] ([] : va_W) [(h0, .inr (4, [.ref h1, .ref h2])), (h1, .inl (cJ, 64, .inr (.inl s0.1))), (h2, .inl (cJ, 128, .inr (.inl s0.2)))] hP hD hS hA [] [0, 1, 2] [0, 1, 2] rfl rfl (by decide) (by decide) rfl (by decide) rfl (va_runS (As := [.int x1]) (rest := []) ⟨hx, hb, hml, hown, hts⟩ (k_X4_firstPath l dC dI cI cJ cZ x1 u3 hc3 _) (va_cwS 1 hts gX4_lastFilled_X4_firstPath rfl rfl rfl (by decide +kernel) ⟨Nat.le_of_ble_eq_true rfl, Nat.le_of_ble_eq_true rfl⟩) ⟨cPre_blind, cPre_in hP hD hK [] rfl (by decide) rfl⟩ rfl rfl hl.1 rfl (lv_room (Nat.le_of_ble_eq_true rfl)) dX4_lastFilled_10 ⟨Nat.le_of_ble_eq_true rfl, Nat.le_of_ble_eq_true rfl⟩) (fun H locs hP hD hS => ?_)
    refine lv_istore_n (lv' := [(2, .int u3), (0, .ref h0), (1, .int x1)]) hx hb dX4_lastFilled_13 rfl hl (by decide) rfl (fun ls hl => ?_)
    refine lv_iload_n hx hb dX4_lastFilled_14 rfl (lv_at hl 2 rfl) ?_
    obtain ⟨u4, hc4, h⟩ := bd_e h
    refine cc_i (tys := TY cI cJ cZ) ([] : va_W) [(h0, .inr (4, [.ref h1, .ref h2])), (h1, .inl (cJ, 64, .inr (.inl s0.1))), (h2, .inl (cJ, 128, .inr (.inl s0.2)))] ([] : va_W) [(h0, .inr (4, [.ref h1, .ref h2])), (h1, .inl (cJ, 64, .inr (.inl s0.1))), (h2, .inl (cJ, 128, .inr (.inl s0.2)))] hP hD hS hA [] [0, 1, 2] [0, 1, 2] rfl rfl (by decide) (by decide) rfl (by decide) rfl (va_runS (As := [.int x1]) (rest := []) ⟨hx, hb, hml, hown, hts⟩ (k_X4_lastPath l dC dI cI cJ cZ x1 u4 hc4 _) (va_cwS 1 hts gX4_lastFilled_X4_lastPath rfl rfl rfl (by decide +kernel) ⟨Nat.le_of_ble_eq_true rfl, Nat.le_of_ble_eq_true rfl⟩) ⟨cPre_blind, cPre_in hP hD hK [] rfl (by decide) rfl⟩ rfl rfl hl.1 rfl (lv_room (Nat.le_of_ble_eq_true rfl)) dX4_lastFilled_15 ⟨Nat.le_of_ble_eq_true rfl, Nat.le_of_ble_eq_true rfl⟩) (fun H locs hP hD hS => ?_)
    refine lv_istore_n (lv' := [(3, .int u4), (2, .int u3), (0, .ref h0), (1, .int x1)]) hx hb dX4_lastFilled_18 rfl hl (by decide) rfl (fun ls hl => ?_)
    have lp19 : ∀ (n19 : Nat) (p19_3 : Int32), f_X4_lastFilled_19 u3 s0 n19 p19_3 = some u → ∀ (H : Heap) (locs : List Loc) (ls : Array Slot), va_P (dC, dI) vwCl [(h0, .inr (4, [.ref h1, .ref h2])), (h1, .inl (cJ, 64, .inr (.inl s0.1))), (h2, .inl (cJ, 128, .inr (.inl s0.2)))] H → va_D A [(h0, .inr (4, [.ref h1, .ref h2])), (h1, .inl (cJ, 64, .inr (.inl s0.1))), (h2, .inl (cJ, 128, .inr (.inl s0.2)))] → va_S A s.heap H locs → lv_has ls 4 [(3, .int p19_3), (2, .int u3), (0, .ref h0)] → W p l e (headSpec wsX4_lastFilled ({ frames := 1, cells := 0, slots := 0, locals := 22 } : Room)).room s m ([.ref h0, .int x1] : List Value).toArray below meth c H locs 0 0 (MQ below (va_Qi (fun (r : Int32) (_ : Unit) => r = u) (fun _ t => cB (dC, dI) vwCl (TY cI cJ cZ) A [(h0, .inr (4, [.ref h1, .ref h2])), (h1, .inl (cJ, 64, .inr (.inl s0.1))), (h2, .inl (cJ, 128, .inr (.inl s0.2)))] t) A) ([.ref h0, .int x1] : List Value).toArray s 0 0 A) (F0 m 19 ls []) := by
      intro n19
      induction n19 with
      | zero =>
        intro p19_3 h
        rw [f_X4_lastFilled_19] at h
        cases h
      | succ n19 ih19 =>
        intro p19_3 h H locs ls hP hD hS hl
        rw [f_X4_lastFilled_19] at h
        refine lv_iload_n hx hb dX4_lastFilled_19 rfl (lv_at hl 0 rfl) ?_
        refine lv_iload_n hx hb dX4_lastFilled_20 rfl (lv_at hl 1 rfl) ?_
        refine lv_icmp_lt (tgt := 43) hx hb dX4_lastFilled_21 (by decide) (fun c5 => ?_) (fun c5 => ?_)
        · have h := ie_t c5 h
          refine lv_iconst (v := (-1)) hx hb dX4_lastFilled_43 (by decide) ?_
          obtain rfl := Option.some.inj h
          exact W.iret (v := (-1)) hx hb hr (fun t ht hW => ⟨⟨_, (), rfl, rfl, by rw [ht]; exact hP, va_K.moved hW.alike hK, hD⟩, hS.F ht⟩) hS.2.2 dX4_lastFilled_44
        · have h := ie_f c5 h
          refine lv_aload_n hx hb dX4_lastFilled_24 rfl (lv_at hl 2 rfl) ?_
          refine va_get (D := (dC, dI)) (ci := 4) (v := .ref h1) (C := RX4) (T := TX4) (N := 2) hx hb hts (by decide +kernel) hown hK hP 0 rfl rfl 0 (by decide) (hts (.fieldLink RX4 9 "SnapshotPieces$Tree" "values" "[J") (by decide +kernel)) (fun _ h9 => h9) rfl dX4_lastFilled_25 ?_
          refine lv_iload_n hx hb dX4_lastFilled_28 rfl (lv_at hl 0 rfl) ?_
          obtain ⟨g6, h⟩ := kb_e h
          refine va_lald hx hb hK hP 1 1 rfl rfl (ib_in g6) dX4_lastFilled_29 ?_
          refine lv_lconst (v := 0) hx hb dX4_lastFilled_30 (by decide) ?_
          refine W.lcmp hx hb dX4_lastFilled_31 ?_
          refine lv_if_eq (tgt := 37) hx hb dX4_lastFilled_32 (by decide) (fun c7 => ?_) (fun c7 => ?_)
          · have c7 := lgz_t c7
            have h := ie_t c7 h
            refine lv_iinc (v := (p19_3 + (-1))) (lv' := [(3, .int (p19_3 + (-1))), (2, .int u3), (0, .ref h0)]) hx hb dX4_lastFilled_37 hl (k := 0) rfl rfl (by decide) rfl (fun ls hl => ?_)
            refine lv_goto (tgt := 19) hx hb dX4_lastFilled_40 (by decide) ?_
            exact ih19 (p19_3 + (-1)) h _ _ _ hP hD hS (lv_sub hl [0, 1, 2] rfl)
          · have c7 := lgz_f c7
            have h := ie_f c7 h
            refine lv_iload_n hx hb dX4_lastFilled_35 rfl (lv_at hl 0 rfl) ?_
            obtain rfl := Option.some.inj h
            exact W.iret (v := p19_3) hx hb hr (fun t ht hW => ⟨⟨_, (), rfl, rfl, by rw [ht]; exact hP, va_K.moved hW.alike hK, hD⟩, hS.F ht⟩) hS.2.2 dX4_lastFilled_36
    exact lp19 FU u4 h _ _ _ hP hD hS (lv_sub hl [0, 1, 2] rfl)
  · have h := ie_t c2 h
    refine lv_iconst (v := (-1)) hx hb dX4_lastFilled_7 (by decide) ?_
    obtain rfl := Option.some.inj h
    exact W.iret (v := (-1)) hx hb hr (fun t ht hW => ⟨⟨_, (), rfl, rfl, by rw [ht]; exact hP, va_K.moved hW.alike hK, hD⟩, hS.F ht⟩) hS.2.2 dX4_lastFilled_8
