/-! constructors: nest words beside the world, new arrays of a known class, a call that makes cells -/
abbrev zN : Type := String × Nat × MethodName × String
abbrev zW (z : zN) : Cond := .methodLinkNest z.1 z.2.1 z.2.2.1 z.2.2.2
abbrev cPreZ (D : va_G) (cl : List vw_C) (tys : List (ClassId × FieldType)) (zs : List zN) (av : List Value) (w : va_W) (sz : Nat) : Array Value → State → Prop :=
  va_Pc av (fun U => U.heap.size = sz ∧ va_P D cl w U.heap ∧ va_K D cl tys U ∧ va_D (fun _ => True) w ∧ ∀ z ∈ zs, va_Nw (zW z) U)
theorem cPreZ_blind {D : va_G} {cl : List vw_C} {tys : List (ClassId × FieldType)} {zs : List zN} {av : List Value} {w : va_W} {sz : Nat} : FrameBlind (cPreZ D cl tys zs av w sz) := by
  intro a U g mk q
  obtain ⟨q0, q1, qP, qK, qD, qZ⟩ := q
  exact ⟨q0, q1, qP, va_K.moved (u := U) (U := U.calling g mk a) (Vm.Alike.refl U.vm) qK, qD, fun z hz => va_Nw.same (u := U) (U := U.calling g mk a) rfl rfl (qZ z hz)⟩
theorem cPreZ_in {D : va_G} {cl : List vw_C} {tys : List (ClassId × FieldType)} {zs : List zN} {av : List Value} {ws wc : va_W} {s : State} {H : Heap} {A : Nat → Prop} (hP : va_P D cl ws H) (hD : va_D A ws) (hK : va_K D cl tys s) (hZ : ∀ z ∈ zs, va_Nw (zW z) s) (isC : List Nat) (hf : isC.filterMap (fun i => ws[i]?) = wc) (hn : va_nd isC = true) (hC : isC.map (fun i => ws[i]?) = wc.map some) :
    ∀ U : State, U.heap = H → s.WarmedH U.vm → cPreZ D cl tys zs av wc H.size av.toArray U := by
  intro U hU hW
  refine ⟨rfl, by rw [hU], by rw [hU]; exact hP.sub isC hf, va_K.moved hW.alike hK, (hD.sub isC hn hC).weaken (fun _ _ _ _ => trivial), fun z hz => va_Nw.warmM hW (hZ z hz)⟩
section CN
variable {p : Program} {l : Launch} {e : Env} {R : Room} {s : State} {m : MethodId} {args : Array Value} {below : List Frame} {meth : Method} {c : Code} {H : Heap} {locs : List Loc} {cells slots : Nat} {Q : State → Prop} {pc : Nat} {ls : Array Slot} {rest st0 : List Value} {a : Array Value} {A0 : Nat → Prop} {H0 : Heap} {mc ms : Nat} {D : va_G} {cl : List vw_C} {tys : List (ClassId × FieldType)} {ws : va_W}
theorem cc_n {S : Type} (wc wr : va_W) (w1 : S → va_W) (hP : va_P D cl ws H) (hD : va_D A0 ws) (hS : va_S A0 H0 H locs) (hA : ∀ q, H0.size ≤ q → A0 q) (isC isR : List Nat) (hC : isC.map (fun i => ws[i]?) = wc.map some) (hR : isR.map (fun i => ws[i]?) = wr.map some) (hn : va_nd isR = true) (hdis : ∀ i ∈ isR, i ∉ isC)
    (hr : va_Run p l e R s m args below meth c H locs cells slots mc ms (F0 m pc ls st0) rest (va_Qv (fun (_ : S) => True) (fun u t => cB D cl tys (va_A wc H.size) (w1 u) t) (va_A wc H.size) a) (va_A wc H.size))
    (kk : ∀ (u : S) (H1 : Heap) (locs1 : List Loc), va_P D cl (wr ++ w1 u) H1 → va_D A0 (wr ++ w1 u) → va_S A0 H0 H1 locs1 → W p l e R s m args below meth c H1 locs1 (cells + mc) (slots + ms) Q (F0 m (pc + 3) ls rest)) : W p l e R s m args below meth c H locs cells slots Q (F0 m pc ls st0) := by
  have hFc := va_free (wc := wc) hD hS hA isC hC
  refine va_callv hr hS (fun q _ h => hFc q h) hFc (fun u t H1 locs1 ht hvm hw hB hz1 hk1 hS1 => ?_)
  obtain ⟨hP1, hK1, hD1⟩ := hB
  rw [ht] at hP1
  obtain ⟨hP2, hD2⟩ := va_join hP hD isC isR hC hR hn hdis hk1 hFc hP1 hD1
  exact kk u H1 locs1 hP2 hD2 hS1
theorem va_RA_one {U : State} {a b : ClassId} {ty : FieldType} (hty : ty = .int ∨ ty = .long ∨ ty = .boolean) (h1 : va_RA U a ty) (h2 : va_RA U b ty) : a = b := by
  rcases hty with rfl | rfl | rfl
  · exact Option.some.inj ((show U.vm.findClass _ = some a from h1).symm.trans h2)
  · exact Option.some.inj ((show U.vm.findClass _ = some a from h1).symm.trans h2)
  · exact Option.some.inj ((show U.vm.findClass _ = some a from h1).symm.trans h2)
theorem nw_a {cc : ByteArray} (hexec : p.tables.exec = Jvm.exec) (hb : c.code = cc) {atype : ArrayType} (harr : (Cond.arrayClass (newarray.typeOf atype)).before args s = true) {ty : FieldType} (hty : newarray.typeOf atype = ty) (hK : va_K D cl tys s) (hP : va_P D cl ws H) (hD : va_D A0 ws) (hS : va_S A0 H0 H locs) (hA : ∀ q, H0.size ≤ q → A0 q)
    (t0 : Nat) {cX : ClassId} (ht : tys[t0]? = some (cX, ty)) (hp : ty = .int ∨ ty = .long ∨ ty = .boolean)
    {n : Int32} {N' : Nat} {a0 : vp_A} (ha : ∀ cA : ClassId, vp_cell cA a0 = arrV cA N' (fun _ => defaultValue ty)) (hn : ¬ n < 0) (hN : n.toNatClampNeg = N') (hbytes : N' * componentBytes ty ≤ 536870912) (hcells : cells + 1 ≤ R.cells) (hslots : slots + N' ≤ R.slots) (hdg : decode cc pc = .ok (.newarray atype, 2))
    (kk : ∀ (q : Nat) (H1 : Heap), va_P D cl (ws ++ [(q, .inl (cX, a0))]) H1 → va_D A0 (ws ++ [(q, .inl (cX, a0))]) → va_S A0 H0 H1 locs →
      W p l e R s m args below meth c H1 locs (cells + 1) (slots + N') Q (F0 m (pc + 2) ls (.ref q :: rest))) : W p l e R s m args below meth c H locs cells slots Q (F0 m pc ls (.int n :: rest)) := by
  refine va_newa hexec hb harr hty hK hP hD hS hA ha hn hN hbytes hcells hslots hdg (fun q cA H1 hK' hP' hD' hS' => ?_)
  have e : cA = cX := by
    have h1 := (hK.2 t0 _ ht).2
    have h2 := (hK'.2 tys.length (cA, ty) (by simp)).2
    exact va_RA_one hp h2 h1
  subst e
  exact kk q H1 hP' hD' hS'
end CN
/-! a switch's default -/
theorem tb_out {x : Int32} {n : Nat} (h : ∀ k : Nat, k ≤ n → ¬ x = nI k) : x.toInt < 0 ∨ (n : Int) < x.toInt := by
  by_cases h0 : x.toInt < 0
  · exact Or.inl h0
  · refine Or.inr ?_
    by_cases h1 : (n : Int) < x.toInt
    · exact h1
    · obtain ⟨j, hj, e⟩ := nI_of (x := x) (fun z => h0 (by rw [Int32.lt_iff_toInt_lt, Int32.toInt_zero] at z; exact z))
      have h2 := nI_toInt hj
      rw [← e] at h2
      exact absurd e (h j (by omega))
theorem tb_out0_8 {x : Int32} (ct0 : ¬ x = 0) (ct1 : ¬ x = 1) (ct2 : ¬ x = 2) (ct3 : ¬ x = 3) (ct4 : ¬ x = 4) (ct5 : ¬ x = 5) (ct6 : ¬ x = 6) (ct7 : ¬ x = 7) (ct8 : ¬ x = 8) : x.toInt < 0 ∨ 8 < x.toInt := by
  refine tb_out (n := 8) (fun k hk => ?_)
  rcases (show k = 0 ∨ k = 1 ∨ k = 2 ∨ k = 3 ∨ k = 4 ∨ k = 5 ∨ k = 6 ∨ k = 7 ∨ k = 8 by omega) with rfl | rfl | rfl | rfl | rfl | rfl | rfl | rfl | rfl
  · exact ct0
  · exact ct1
  · exact ct2
  · exact ct3
  · exact ct4
  · exact ct5
  · exact ct6
  · exact ct7
  · exact ct8
theorem tb_out0_15 {x : Int32} (ct0 : ¬ x = 0) (ct1 : ¬ x = 1) (ct2 : ¬ x = 2) (ct3 : ¬ x = 3) (ct4 : ¬ x = 4) (ct5 : ¬ x = 5) (ct6 : ¬ x = 6) (ct7 : ¬ x = 7) (ct8 : ¬ x = 8) (ct9 : ¬ x = 9) (ct10 : ¬ x = 10) (ct11 : ¬ x = 11) (ct12 : ¬ x = 12) (ct13 : ¬ x = 13) (ct14 : ¬ x = 14) (ct15 : ¬ x = 15) : x.toInt < 0 ∨ 15 < x.toInt := by
  refine tb_out (n := 15) (fun k hk => ?_)
  rcases (show k = 0 ∨ k = 1 ∨ k = 2 ∨ k = 3 ∨ k = 4 ∨ k = 5 ∨ k = 6 ∨ k = 7 ∨ k = 8 ∨ k = 9 ∨ k = 10 ∨ k = 11 ∨ k = 12 ∨ k = 13 ∨ k = 14 ∨ k = 15 by omega) with rfl | rfl | rfl | rfl | rfl | rfl | rfl | rfl | rfl | rfl | rfl | rfl | rfl | rfl | rfl | rfl
  · exact ct0
  · exact ct1
  · exact ct2
  · exact ct3
  · exact ct4
  · exact ct5
  · exact ct6
  · exact ct7
  · exact ct8
  · exact ct9
  · exact ct10
  · exact ct11
  · exact ct12
  · exact ct13
  · exact ct14
  · exact ct15
