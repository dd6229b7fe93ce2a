set_option maxHeartbeats 4000000 in
set_option maxRecDepth 100000 in
/-- shift: what stands at fr and behind it goes to to -/
theorem c_Table_shift (l : Launch) (dC : Nat → ClassId) (dI : Nat → Nat → Nat) (cI cT : ClassId) (u0 u1 u2 u3 : Nat) (T : TB) (fr to : Nat) (sz : Nat) (hn : T.1 ≤ 400) (hf : fr ≤ T.1) (ht : to + (T.1 - fr) ≤ 400) (ht2 : to ≤ 400) : Met l yX0_shift wsX0_shift ({ frames := 1, cells := 0, slots := 0, locals := 18 }) (va_Pc [.ref u0, .int (nI fr), .int (nI to)] (zPW (dC, dI) vwCl cI cT (wT u0 u1 u2 u3 cI T) sz)) (va_Qv (fun u : TB => u = (T.1, va_cpy T.2.1 T.2.1 fr to (T.1 - fr), va_cpy T.2.2.1 T.2.2.1 fr to (T.1 - fr), va_cpy T.2.2.2 T.2.2.2 fr to (T.1 - fr))) (fun u t => va_P (dC, dI) vwCl (wT u0 u1 u2 u3 cI u) t.heap) (va_A (wT u0 u1 u2 u3 cI T) sz)) 0 0 (va_A (wT u0 u1 u2 u3 cI T) sz) := by
  refine Met.ofW (cc := cX0_shift) (maxL := 4) (ret := none) (by decide) rfl ?_
  intro p e s m args below meth c s₁ B hml hv
  obtain ⟨rfl, hsz, hP, hK, hD0⟩ := hv
  have hx := B.exec
  have hb := B.bytes
  have hr := B.returns
  have hts := atoms_spec (ws := wsX0_shift) B.pre
  have hown : s.vm.findClass RX0 = some m.cls := findClass_of_methodNamed B.named
  have hlocks := B.notSynchronized
  subst hsz
  have hD := hD0.self (sz := s.heap.size)
  generalize hAe : va_A (wT u0 u1 u2 u3 cI T) s.heap.size = A at hD ⊢
  have hA : ∀ q : Nat, s.heap.size ≤ q → A q := fun q h => by rw [← hAe]; exact Or.inr h
  have hS : va_S A s.heap s.heap [] := va_S.rf
  have hl := lv_entry ([.ref u0, .int (nI fr), .int (nI to)]) (n := 4) (Nat.le_of_ble_eq_true rfl)
  rw [lg_entry_eq]
  generalize (lg_sl ([.ref u0, .int (nI fr), .int (nI to)]) ++ List.replicate (4 - (lg_sl ([.ref u0, .int (nI fr), .int (nI to)])).length) Slot.unset).toArray = ls at hl ⊢
  have hl : lv_has ls 4 [(0, .ref u0), (1, .int (nI fr)), (2, .int (nI to))] := hl
  refine lv_aload_n hx hb dX0_shift_0 rfl (lv_at hl 0 rfl) ?_
  refine va_get (D := (dC, dI)) (ci := 0) (v := .int (nI T.1)) (C := RX0) (T := TX0) (N := 4) hx hb hts (by decide +kernel) hown hK hP 0 rfl rfl 3 (by decide) (hts (.fieldLink RX0 21 "RevisionTree$Table" "held" "I") (by decide +kernel)) (fun _ h9 => h9) rfl dX0_shift_1 ?_
  refine lv_iload_n hx hb dX0_shift_4 rfl (lv_at hl 1 rfl) ?_
  refine lv_isub hx hb dX0_shift_5 ?_
  refine zt (y := nI (T.1 - fr)) (pk_sub (by omega)) ?_
  refine lv_istore_n (lv' := [(3, .int (nI (T.1 - fr))), (0, .ref u0), (1, .int (nI fr)), (2, .int (nI to))]) hx hb dX0_shift_6 rfl hl (by decide) rfl (fun ls hl => ?_)
  refine lv_aload_n hx hb dX0_shift_7 rfl (lv_at hl 1 rfl) ?_
  refine va_get (D := (dC, dI)) (ci := 0) (v := .ref u1) (C := RX0) (T := TX0) (N := 4) hx hb hts (by decide +kernel) hown hK hP 0 rfl rfl 0 (by decide) (hts (.fieldLink RX0 9 "RevisionTree$Table" "keys" "[I") (by decide +kernel)) (fun _ h9 => h9) rfl dX0_shift_8 ?_
  refine lv_iload_n hx hb dX0_shift_11 rfl (lv_at hl 2 rfl) ?_
  refine lv_aload_n hx hb dX0_shift_12 rfl (lv_at hl 1 rfl) ?_
  refine va_get (D := (dC, dI)) (ci := 0) (v := .ref u1) (C := RX0) (T := TX0) (N := 4) hx hb hts (by decide +kernel) hown hK hP 0 rfl rfl 0 (by decide) (hts (.fieldLink RX0 9 "RevisionTree$Table" "keys" "[I") (by decide +kernel)) (fun _ h9 => h9) rfl dX0_shift_13 ?_
  refine lv_iload_n hx hb dX0_shift_16 rfl (lv_at hl 3 rfl) ?_
  refine lv_iload_n hx hb dX0_shift_17 rfl (lv_at hl 0 rfl) ?_
  refine zcpy hx hb (hml.trans hl.1.symm) hown (hts (.methodLink RX0 37 arraycopyName) (by decide +kernel)) (hts (.native arraycopyName) (by decide +kernel)) (hts (.static arraycopyName) (by decide +kernel)) (hts (.initialized "java/lang/System") (by decide +kernel)) hK hP hD hS 1 1 0 rfl rfl rfl (sp := fr) (dp := to) (n := T.1 - fr) (by omega) (by omega) (by decide) (by decide) (Nat.le_of_ble_eq_true rfl) (Nat.le_of_ble_eq_true rfl) dX0_shift_18 (fun H locs hP hD hS => ?_)
  have hP : va_P (dC, dI) vwCl [(u0, .inr (0, [.ref u1, .ref u2, .ref u3, .int (nI T.1)])), (u1, .inl (cI, 400, .inl (va_cpy T.2.1 T.2.1 fr to (T.1 - fr)))), (u2, .inl (cI, 400, .inl T.2.2.1)), (u3, .inl (cI, 400, .inl T.2.2.2))] H := hP
  have hD : va_D A [(u0, .inr (0, [.ref u1, .ref u2, .ref u3, .int (nI T.1)])), (u1, .inl (cI, 400, .inl (va_cpy T.2.1 T.2.1 fr to (T.1 - fr)))), (u2, .inl (cI, 400, .inl T.2.2.1)), (u3, .inl (cI, 400, .inl T.2.2.2))] := hD
  refine lv_aload_n hx hb dX0_shift_21 rfl (lv_at hl 1 rfl) ?_
  refine va_get (D := (dC, dI)) (ci := 0) (v := .ref u2) (C := RX0) (T := TX0) (N := 4) hx hb hts (by decide +kernel) hown hK hP 0 rfl rfl 1 (by decide) (hts (.fieldLink RX0 15 "RevisionTree$Table" "values" "[I") (by decide +kernel)) (fun _ h9 => h9) rfl dX0_shift_22 ?_
  refine lv_iload_n hx hb dX0_shift_25 rfl (lv_at hl 2 rfl) ?_
  refine lv_aload_n hx hb dX0_shift_26 rfl (lv_at hl 1 rfl) ?_
  refine va_get (D := (dC, dI)) (ci := 0) (v := .ref u2) (C := RX0) (T := TX0) (N := 4) hx hb hts (by decide +kernel) hown hK hP 0 rfl rfl 1 (by decide) (hts (.fieldLink RX0 15 "RevisionTree$Table" "values" "[I") (by decide +kernel)) (fun _ h9 => h9) rfl dX0_shift_27 ?_
  refine lv_iload_n hx hb dX0_shift_30 rfl (lv_at hl 3 rfl) ?_
  refine lv_iload_n hx hb dX0_shift_31 rfl (lv_at hl 0 rfl) ?_
  refine zcpy hx hb (hml.trans hl.1.symm) hown (hts (.methodLink RX0 37 arraycopyName) (by decide +kernel)) (hts (.native arraycopyName) (by decide +kernel)) (hts (.static arraycopyName) (by decide +kernel)) (hts (.initialized "java/lang/System") (by decide +kernel)) hK hP hD hS 2 2 0 rfl rfl rfl (sp := fr) (dp := to) (n := T.1 - fr) (by omega) (by omega) (by decide) (by decide) (Nat.le_of_ble_eq_true rfl) (Nat.le_of_ble_eq_true rfl) dX0_shift_32 (fun H locs hP hD hS => ?_)
  have hP : va_P (dC, dI) vwCl [(u0, .inr (0, [.ref u1, .ref u2, .ref u3, .int (nI T.1)])), (u1, .inl (cI, 400, .inl (va_cpy T.2.1 T.2.1 fr to (T.1 - fr)))), (u2, .inl (cI, 400, .inl (va_cpy T.2.2.1 T.2.2.1 fr to (T.1 - fr)))), (u3, .inl (cI, 400, .inl T.2.2.2))] H := hP
  have hD : va_D A [(u0, .inr (0, [.ref u1, .ref u2, .ref u3, .int (nI T.1)])), (u1, .inl (cI, 400, .inl (va_cpy T.2.1 T.2.1 fr to (T.1 - fr)))), (u2, .inl (cI, 400, .inl (va_cpy T.2.2.1 T.2.2.1 fr to (T.1 - fr)))), (u3, .inl (cI, 400, .inl T.2.2.2))] := hD
  refine lv_aload_n hx hb dX0_shift_35 rfl (lv_at hl 1 rfl) ?_
  refine va_get (D := (dC, dI)) (ci := 0) (v := .ref u3) (C := RX0) (T := TX0) (N := 4) hx hb hts (by decide +kernel) hown hK hP 0 rfl rfl 2 (by decide) (hts (.fieldLink RX0 18 "RevisionTree$Table" "sizes" "[I") (by decide +kernel)) (fun _ h9 => h9) rfl dX0_shift_36 ?_
  refine lv_iload_n hx hb dX0_shift_39 rfl (lv_at hl 2 rfl) ?_
  refine lv_aload_n hx hb dX0_shift_40 rfl (lv_at hl 1 rfl) ?_
  refine va_get (D := (dC, dI)) (ci := 0) (v := .ref u3) (C := RX0) (T := TX0) (N := 4) hx hb hts (by decide +kernel) hown hK hP 0 rfl rfl 2 (by decide) (hts (.fieldLink RX0 18 "RevisionTree$Table" "sizes" "[I") (by decide +kernel)) (fun _ h9 => h9) rfl dX0_shift_41 ?_
  refine lv_iload_n hx hb dX0_shift_44 rfl (lv_at hl 3 rfl) ?_
  refine lv_iload_n hx hb dX0_shift_45 rfl (lv_at hl 0 rfl) ?_
  refine zcpy hx hb (hml.trans hl.1.symm) hown (hts (.methodLink RX0 37 arraycopyName) (by decide +kernel)) (hts (.native arraycopyName) (by decide +kernel)) (hts (.static arraycopyName) (by decide +kernel)) (hts (.initialized "java/lang/System") (by decide +kernel)) hK hP hD hS 3 3 0 rfl rfl rfl (sp := fr) (dp := to) (n := T.1 - fr) (by omega) (by omega) (by decide) (by decide) (Nat.le_of_ble_eq_true rfl) (Nat.le_of_ble_eq_true rfl) dX0_shift_46 (fun H locs hP hD hS => ?_)
  have hP : va_P (dC, dI) vwCl [(u0, .inr (0, [.ref u1, .ref u2, .ref u3, .int (nI T.1)])), (u1, .inl (cI, 400, .inl (va_cpy T.2.1 T.2.1 fr to (T.1 - fr)))), (u2, .inl (cI, 400, .inl (va_cpy T.2.2.1 T.2.2.1 fr to (T.1 - fr)))), (u3, .inl (cI, 400, .inl (va_cpy T.2.2.2 T.2.2.2 fr to (T.1 - fr))))] H := hP
  have hD : va_D A [(u0, .inr (0, [.ref u1, .ref u2, .ref u3, .int (nI T.1)])), (u1, .inl (cI, 400, .inl (va_cpy T.2.1 T.2.1 fr to (T.1 - fr)))), (u2, .inl (cI, 400, .inl (va_cpy T.2.2.1 T.2.2.1 fr to (T.1 - fr)))), (u3, .inl (cI, 400, .inl (va_cpy T.2.2.2 T.2.2.2 fr to (T.1 - fr))))] := hD
  exact W.vret hx hb hr (fun t9 ht9 hW9 => ⟨⟨(T.1, va_cpy T.2.1 T.2.1 fr to (T.1 - fr), va_cpy T.2.2.1 T.2.2.1 fr to (T.1 - fr), va_cpy T.2.2.2 T.2.2.2 fr to (T.1 - fr)), rfl, rfl, by show va_P _ _ _ t9.heap; rw [ht9]; exact hP⟩, hS.F ht9⟩) hS.2.2 dX0_shift_49
set_option maxHeartbeats 4000000 in
set_option maxRecDepth 100000 in
/-- copyFrom: the rows and the number of the other -/
theorem c_Table_copyFrom (l : Launch) (dC : Nat → ClassId) (dI : Nat → Nat → Nat) (cI cT : ClassId) (u0 u1 u2 u3 o0 o1 o2 o3 : Nat) (T X : TB) (sz : Nat) (hn : X.1 ≤ 400) : Met l yX0_copyFrom wsX0_copyFrom ({ frames := 1, cells := 0, slots := 0, locals := 18 }) (va_Pc [.ref u0, .ref o0] (zPW (dC, dI) vwCl cI cT (wT u0 u1 u2 u3 cI T ++ wT o0 o1 o2 o3 cI X) sz)) (va_Qv (fun u : TB => u = (X.1, va_cpy X.2.1 T.2.1 0 0 X.1, va_cpy X.2.2.1 T.2.2.1 0 0 X.1, va_cpy X.2.2.2 T.2.2.2 0 0 X.1)) (fun u t => va_P (dC, dI) vwCl (wT u0 u1 u2 u3 cI u ++ wT o0 o1 o2 o3 cI X) t.heap) (va_A (wT u0 u1 u2 u3 cI T ++ wT o0 o1 o2 o3 cI X) sz)) 0 0 (va_A (wT u0 u1 u2 u3 cI T ++ wT o0 o1 o2 o3 cI X) sz) := by
  refine Met.ofW (cc := cX0_copyFrom) (maxL := 2) (ret := none) (by decide) rfl ?_
  intro p e s m args below meth c s₁ B hml hv
  obtain ⟨rfl, hsz, hP, hK, hD0⟩ := hv
  have hx := B.exec
  have hb := B.bytes
  have hr := B.returns
  have hts := atoms_spec (ws := wsX0_copyFrom) B.pre
  have hown : s.vm.findClass RX0 = some m.cls := findClass_of_methodNamed B.named
  have hlocks := B.notSynchronized
  subst hsz
  have hD := hD0.self (sz := s.heap.size)
  generalize hAe : va_A (wT u0 u1 u2 u3 cI T ++ wT o0 o1 o2 o3 cI X) s.heap.size = A at hD ⊢
  have hA : ∀ q : Nat, s.heap.size ≤ q → A q := fun q h => by rw [← hAe]; exact Or.inr h
  have hS : va_S A s.heap s.heap [] := va_S.rf
  have hl := lv_entry ([.ref u0, .ref o0]) (n := 2) (Nat.le_of_ble_eq_true rfl)
  rw [lg_entry_eq]
  generalize (lg_sl ([.ref u0, .ref o0]) ++ List.replicate (2 - (lg_sl ([.ref u0, .ref o0])).length) Slot.unset).toArray = ls at hl ⊢
  have hl : lv_has ls 2 [(0, .ref u0), (1, .ref o0)] := hl
  refine lv_aload_n hx hb dX0_copyFrom_0 rfl (lv_at hl 1 rfl) ?_
  refine va_get (D := (dC, dI)) (ci := 0) (v := .ref o1) (C := RX0) (T := TX0) (N := 4) hx hb hts (by decide +kernel) hown hK hP 4 rfl rfl 0 (by decide) (hts (.fieldLink RX0 9 "RevisionTree$Table" "keys" "[I") (by decide +kernel)) (fun _ h9 => h9) rfl dX0_copyFrom_1 ?_
  refine lv_iconst (v := nI 0) hx hb dX0_copyFrom_4 (by decide) ?_
  refine lv_aload_n hx hb dX0_copyFrom_5 rfl (lv_at hl 0 rfl) ?_
  refine va_get (D := (dC, dI)) (ci := 0) (v := .ref u1) (C := RX0) (T := TX0) (N := 4) hx hb hts (by decide +kernel) hown hK hP 0 rfl rfl 0 (by decide) (hts (.fieldLink RX0 9 "RevisionTree$Table" "keys" "[I") (by decide +kernel)) (fun _ h9 => h9) rfl dX0_copyFrom_6 ?_
  refine lv_iconst (v := nI 0) hx hb dX0_copyFrom_9 (by decide) ?_
  refine lv_aload_n hx hb dX0_copyFrom_10 rfl (lv_at hl 1 rfl) ?_
  refine va_get (D := (dC, dI)) (ci := 0) (v := .int (nI X.1)) (C := RX0) (T := TX0) (N := 4) hx hb hts (by decide +kernel) hown hK hP 4 rfl rfl 3 (by decide) (hts (.fieldLink RX0 21 "RevisionTree$Table" "held" "I") (by decide +kernel)) (fun _ h9 => h9) rfl dX0_copyFrom_11 ?_
  refine zcpy hx hb (hml.trans hl.1.symm) hown (hts (.methodLink RX0 37 arraycopyName) (by decide +kernel)) (hts (.native arraycopyName) (by decide +kernel)) (hts (.static arraycopyName) (by decide +kernel)) (hts (.initialized "java/lang/System") (by decide +kernel)) hK hP hD hS 5 1 0 rfl rfl rfl (sp := 0) (dp := 0) (n := X.1) (by omega) (by omega) (by decide) (by decide) (Nat.le_of_ble_eq_true rfl) (Nat.le_of_ble_eq_true rfl) dX0_copyFrom_14 (fun H locs hP hD hS => ?_)
  have hP : va_P (dC, dI) vwCl [(u0, .inr (0, [.ref u1, .ref u2, .ref u3, .int (nI T.1)])), (u1, .inl (cI, 400, .inl (va_cpy X.2.1 T.2.1 0 0 X.1))), (u2, .inl (cI, 400, .inl T.2.2.1)), (u3, .inl (cI, 400, .inl T.2.2.2)), (o0, .inr (0, [.ref o1, .ref o2, .ref o3, .int (nI X.1)])), (o1, .inl (cI, 400, .inl X.2.1)), (o2, .inl (cI, 400, .inl X.2.2.1)), (o3, .inl (cI, 400, .inl X.2.2.2))] H := hP
  have hD : va_D A [(u0, .inr (0, [.ref u1, .ref u2, .ref u3, .int (nI T.1)])), (u1, .inl (cI, 400, .inl (va_cpy X.2.1 T.2.1 0 0 X.1))), (u2, .inl (cI, 400, .inl T.2.2.1)), (u3, .inl (cI, 400, .inl T.2.2.2)), (o0, .inr (0, [.ref o1, .ref o2, .ref o3, .int (nI X.1)])), (o1, .inl (cI, 400, .inl X.2.1)), (o2, .inl (cI, 400, .inl X.2.2.1)), (o3, .inl (cI, 400, .inl X.2.2.2))] := hD
  refine lv_aload_n hx hb dX0_copyFrom_17 rfl (lv_at hl 1 rfl) ?_
  refine va_get (D := (dC, dI)) (ci := 0) (v := .ref o2) (C := RX0) (T := TX0) (N := 4) hx hb hts (by decide +kernel) hown hK hP 4 rfl rfl 1 (by decide) (hts (.fieldLink RX0 15 "RevisionTree$Table" "values" "[I") (by decide +kernel)) (fun _ h9 => h9) rfl dX0_copyFrom_18 ?_
  refine lv_iconst (v := nI 0) hx hb dX0_copyFrom_21 (by decide) ?_
  refine lv_aload_n hx hb dX0_copyFrom_22 rfl (lv_at hl 0 rfl) ?_
  refine va_get (D := (dC, dI)) (ci := 0) (v := .ref u2) (C := RX0) (T := TX0) (N := 4) hx hb hts (by decide +kernel) hown hK hP 0 rfl rfl 1 (by decide) (hts (.fieldLink RX0 15 "RevisionTree$Table" "values" "[I") (by decide +kernel)) (fun _ h9 => h9) rfl dX0_copyFrom_23 ?_
  refine lv_iconst (v := nI 0) hx hb dX0_copyFrom_26 (by decide) ?_
  refine lv_aload_n hx hb dX0_copyFrom_27 rfl (lv_at hl 1 rfl) ?_
  refine va_get (D := (dC, dI)) (ci := 0) (v := .int (nI X.1)) (C := RX0) (T := TX0) (N := 4) hx hb hts (by decide +kernel) hown hK hP 4 rfl rfl 3 (by decide) (hts (.fieldLink RX0 21 "RevisionTree$Table" "held" "I") (by decide +kernel)) (fun _ h9 => h9) rfl dX0_copyFrom_28 ?_
  refine zcpy hx hb (hml.trans hl.1.symm) hown (hts (.methodLink RX0 37 arraycopyName) (by decide +kernel)) (hts (.native arraycopyName) (by decide +kernel)) (hts (.static arraycopyName) (by decide +kernel)) (hts (.initialized "java/lang/System") (by decide +kernel)) hK hP hD hS 6 2 0 rfl rfl rfl (sp := 0) (dp := 0) (n := X.1) (by omega) (by omega) (by decide) (by decide) (Nat.le_of_ble_eq_true rfl) (Nat.le_of_ble_eq_true rfl) dX0_copyFrom_31 (fun H locs hP hD hS => ?_)
  have hP : va_P (dC, dI) vwCl [(u0, .inr (0, [.ref u1, .ref u2, .ref u3, .int (nI T.1)])), (u1, .inl (cI, 400, .inl (va_cpy X.2.1 T.2.1 0 0 X.1))), (u2, .inl (cI, 400, .inl (va_cpy X.2.2.1 T.2.2.1 0 0 X.1))), (u3, .inl (cI, 400, .inl T.2.2.2)), (o0, .inr (0, [.ref o1, .ref o2, .ref o3, .int (nI X.1)])), (o1, .inl (cI, 400, .inl X.2.1)), (o2, .inl (cI, 400, .inl X.2.2.1)), (o3, .inl (cI, 400, .inl X.2.2.2))] H := hP
  have hD : va_D A [(u0, .inr (0, [.ref u1, .ref u2, .ref u3, .int (nI T.1)])), (u1, .inl (cI, 400, .inl (va_cpy X.2.1 T.2.1 0 0 X.1))), (u2, .inl (cI, 400, .inl (va_cpy X.2.2.1 T.2.2.1 0 0 X.1))), (u3, .inl (cI, 400, .inl T.2.2.2)), (o0, .inr (0, [.ref o1, .ref o2, .ref o3, .int (nI X.1)])), (o1, .inl (cI, 400, .inl X.2.1)), (o2, .inl (cI, 400, .inl X.2.2.1)), (o3, .inl (cI, 400, .inl X.2.2.2))] := hD
  refine lv_aload_n hx hb dX0_copyFrom_34 rfl (lv_at hl 1 rfl) ?_
  refine va_get (D := (dC, dI)) (ci := 0) (v := .ref o3) (C := RX0) (T := TX0) (N := 4) hx hb hts (by decide +kernel) hown hK hP 4 rfl rfl 2 (by decide) (hts (.fieldLink RX0 18 "RevisionTree$Table" "sizes" "[I") (by decide +kernel)) (fun _ h9 => h9) rfl dX0_copyFrom_35 ?_
  refine lv_iconst (v := nI 0) hx hb dX0_copyFrom_38 (by decide) ?_
  refine lv_aload_n hx hb dX0_copyFrom_39 rfl (lv_at hl 0 rfl) ?_
  refine va_get (D := (dC, dI)) (ci := 0) (v := .ref u3) (C := RX0) (T := TX0) (N := 4) hx hb hts (by decide +kernel) hown hK hP 0 rfl rfl 2 (by decide) (hts (.fieldLink RX0 18 "RevisionTree$Table" "sizes" "[I") (by decide +kernel)) (fun _ h9 => h9) rfl dX0_copyFrom_40 ?_
  refine lv_iconst (v := nI 0) hx hb dX0_copyFrom_43 (by decide) ?_
  refine lv_aload_n hx hb dX0_copyFrom_44 rfl (lv_at hl 1 rfl) ?_
  refine va_get (D := (dC, dI)) (ci := 0) (v := .int (nI X.1)) (C := RX0) (T := TX0) (N := 4) hx hb hts (by decide +kernel) hown hK hP 4 rfl rfl 3 (by decide) (hts (.fieldLink RX0 21 "RevisionTree$Table" "held" "I") (by decide +kernel)) (fun _ h9 => h9) rfl dX0_copyFrom_45 ?_
  refine zcpy hx hb (hml.trans hl.1.symm) hown (hts (.methodLink RX0 37 arraycopyName) (by decide +kernel)) (hts (.native arraycopyName) (by decide +kernel)) (hts (.static arraycopyName) (by decide +kernel)) (hts (.initialized "java/lang/System") (by decide +kernel)) hK hP hD hS 7 3 0 rfl rfl rfl (sp := 0) (dp := 0) (n := X.1) (by omega) (by omega) (by decide) (by decide) (Nat.le_of_ble_eq_true rfl) (Nat.le_of_ble_eq_true rfl) dX0_copyFrom_48 (fun H locs hP hD hS => ?_)
  have hP : va_P (dC, dI) vwCl [(u0, .inr (0, [.ref u1, .ref u2, .ref u3, .int (nI T.1)])), (u1, .inl (cI, 400, .inl (va_cpy X.2.1 T.2.1 0 0 X.1))), (u2, .inl (cI, 400, .inl (va_cpy X.2.2.1 T.2.2.1 0 0 X.1))), (u3, .inl (cI, 400, .inl (va_cpy X.2.2.2 T.2.2.2 0 0 X.1))), (o0, .inr (0, [.ref o1, .ref o2, .ref o3, .int (nI X.1)])), (o1, .inl (cI, 400, .inl X.2.1)), (o2, .inl (cI, 400, .inl X.2.2.1)), (o3, .inl (cI, 400, .inl X.2.2.2))] H := hP
  have hD : va_D A [(u0, .inr (0, [.ref u1, .ref u2, .ref u3, .int (nI T.1)])), (u1, .inl (cI, 400, .inl (va_cpy X.2.1 T.2.1 0 0 X.1))), (u2, .inl (cI, 400, .inl (va_cpy X.2.2.1 T.2.2.1 0 0 X.1))), (u3, .inl (cI, 400, .inl (va_cpy X.2.2.2 T.2.2.2 0 0 X.1))), (o0, .inr (0, [.ref o1, .ref o2, .ref o3, .int (nI X.1)])), (o1, .inl (cI, 400, .inl X.2.1)), (o2, .inl (cI, 400, .inl X.2.2.1)), (o3, .inl (cI, 400, .inl X.2.2.2))] := hD
  refine lv_aload_n hx hb dX0_copyFrom_51 rfl (lv_at hl 0 rfl) ?_
  refine lv_aload_n hx hb dX0_copyFrom_52 rfl (lv_at hl 1 rfl) ?_
  refine va_get (D := (dC, dI)) (ci := 0) (v := .int (nI X.1)) (C := RX0) (T := TX0) (N := 4) hx hb hts (by decide +kernel) hown hK hP 4 rfl rfl 3 (by decide) (hts (.fieldLink RX0 21 "RevisionTree$Table" "held" "I") (by decide +kernel)) (fun _ h9 => h9) rfl dX0_copyFrom_53 ?_
  refine va_put (D := (dC, dI)) (ci := 0) (v := .int (nI X.1)) (ty := .int) (C := RX0) (T := TX0) (N := 4) hx hb hts (by decide +kernel) tyX0 tyX0_ok nmX0 hown hK hP hD hS 0 rfl rfl 3 (by decide) (hts (.fieldLink RX0 21 "RevisionTree$Table" "held" "I") (by decide +kernel)) (fun _ h9 => h9) rfl (by decide +kernel) rfl rfl (Nat.le_of_ble_eq_true rfl) dX0_copyFrom_56 (fun H locs hP hD hS => ?_)
  have hP : va_P (dC, dI) vwCl [(u0, .inr (0, [.ref u1, .ref u2, .ref u3, .int (nI X.1)])), (u1, .inl (cI, 400, .inl (va_cpy X.2.1 T.2.1 0 0 X.1))), (u2, .inl (cI, 400, .inl (va_cpy X.2.2.1 T.2.2.1 0 0 X.1))), (u3, .inl (cI, 400, .inl (va_cpy X.2.2.2 T.2.2.2 0 0 X.1))), (o0, .inr (0, [.ref o1, .ref o2, .ref o3, .int (nI X.1)])), (o1, .inl (cI, 400, .inl X.2.1)), (o2, .inl (cI, 400, .inl X.2.2.1)), (o3, .inl (cI, 400, .inl X.2.2.2))] H := hP
  have hD : va_D A [(u0, .inr (0, [.ref u1, .ref u2, .ref u3, .int (nI X.1)])), (u1, .inl (cI, 400, .inl (va_cpy X.2.1 T.2.1 0 0 X.1))), (u2, .inl (cI, 400, .inl (va_cpy X.2.2.1 T.2.2.1 0 0 X.1))), (u3, .inl (cI, 400, .inl (va_cpy X.2.2.2 T.2.2.2 0 0 X.1))), (o0, .inr (0, [.ref o1, .ref o2, .ref o3, .int (nI X.1)])), (o1, .inl (cI, 400, .inl X.2.1)), (o2, .inl (cI, 400, .inl X.2.2.1)), (o3, .inl (cI, 400, .inl X.2.2.2))] := hD
  exact W.vret hx hb hr (fun t9 ht9 hW9 => ⟨⟨(X.1, va_cpy X.2.1 T.2.1 0 0 X.1, va_cpy X.2.2.1 T.2.2.1 0 0 X.1, va_cpy X.2.2.2 T.2.2.2 0 0 X.1), rfl, rfl, by show va_P _ _ _ t9.heap; rw [ht9]; exact hP⟩, hS.F ht9⟩) hS.2.2 dX0_copyFrom_59
