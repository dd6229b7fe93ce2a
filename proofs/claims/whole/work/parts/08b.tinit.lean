set_option maxHeartbeats 4000000 in
set_option maxRecDepth 100000 in
/-- Table(): three rows of 400, nothing held -/
theorem c_Table_init (l : Launch) (dC : Nat → ClassId) (dI : Nat → Nat → Nat) (cI cT : ClassId) (u0 : Nat) (sz : Nat)  : Met l yX0_init wsX0_init ({ frames := 1, cells := 3, slots := 1200, locals := 12 }) (va_Pc [.ref u0] (zPW (dC, dI) vwCl cI cT [(u0, .inr (0, [.null, .null, .null, .int (nI 0)]))] sz)) (va_Qv (fun (_ : Nat × Nat × Nat) => True) (fun u t => va_P (dC, dI) vwCl (wT u0 u.1 u.2.1 u.2.2 cI (0, (fun _ => nI 0), (fun _ => nI 0), (fun _ => nI 0))) t.heap ∧ va_D (va_A [(u0, .inr (0, [.null, .null, .null, .int (nI 0)]))] sz) (wT u0 u.1 u.2.1 u.2.2 cI (0, (fun _ => nI 0), (fun _ => nI 0), (fun _ => nI 0)))) (va_A [(u0, .inr (0, [.null, .null, .null, .int (nI 0)]))] sz)) 3 1200 (va_A [(u0, .inr (0, [.null, .null, .null, .int (nI 0)]))] sz) := by
  refine Met.ofW (cc := cX0_init) (maxL := 1) (ret := none) (by decide) rfl ?_
  intro p e s m args below meth c s₁ B hml hv
  obtain ⟨rfl, hsz, hP, hK, hD0⟩ := hv
  have hx := B.exec
  have hb := B.bytes
  have hr := B.returns
  have hts := atoms_spec (ws := wsX0_init) B.pre
  have hown : s.vm.findClass RX0 = some m.cls := findClass_of_methodNamed B.named
  have hlocks := B.notSynchronized
  have hin : meth.name = "<init>" := (name_of_methodNamed B.named B.method).1
  subst hsz
  have hD := hD0.self (sz := s.heap.size)
  generalize hAe : va_A [(u0, .inr (0, [.null, .null, .null, .int (nI 0)]))] s.heap.size = A at hD ⊢
  have hA : ∀ q : Nat, s.heap.size ≤ q → A q := fun q h => by rw [← hAe]; exact Or.inr h
  have hS : va_S A s.heap s.heap [] := va_S.rf
  have hl := lv_entry ([.ref u0]) (n := 1) (Nat.le_of_ble_eq_true rfl)
  rw [lg_entry_eq]
  generalize (lg_sl ([.ref u0]) ++ List.replicate (1 - (lg_sl ([.ref u0])).length) Slot.unset).toArray = ls at hl ⊢
  have hl : lv_has ls 1 [(0, .ref u0)] := hl
  refine lv_aload_n hx hb dX0_init_0 rfl (lv_at hl 0 rfl) ?_
  refine W.objInit hx hb hown (hts (.methodLink RX0 3 objectInit) (by decide +kernel)) (hts (.instanceMethod objectInit) (by decide +kernel)) (hts _ (List.mem_cons_of_mem _ (List.mem_append_left _ (List.mem_of_getElem? (i := 2) rfl)))) rfl (by rw [hml]; exact hl.1) rfl dX0_init_1 (Nat.le_of_ble_eq_true rfl) (Nat.le_of_ble_eq_true rfl) ?_
  refine W.eq (g2 := F0 m 4 ls []) rfl ?_
  refine lv_aload_n hx hb dX0_init_4 rfl (lv_at hl 0 rfl) ?_
  refine lv_sipush (v := nI 400) hx hb dX0_init_5 (by decide) ?_
  refine va_newa (atype := .int) hx hb (hts (.arrayClass .int) (by decide +kernel)) (ty := .int) rfl hK hP hD hS hA (N' := 400) (a0 := (400, .inl (fun _ => nI 0))) (z0c _) (nI_pos (by decide +kernel)) (nI_clamp (by decide +kernel)) (by decide +kernel) (by decide +kernel) (by decide +kernel) dX0_init_8 (fun q1 cA1 H hK1 hP hD hS => ?_)
  have eA1 : cA1 = cI := Option.some.inj ((show s.vm.findClass _ = some cA1 from (hK1.2 2 _ rfl).2).symm.trans (show s.vm.findClass _ = some cI from (hK1.2 0 _ rfl).2))
  rw [eA1] at hP hD
  have hP : va_P (dC, dI) vwCl [(u0, .inr (0, [.null, .null, .null, .int (nI 0)])), (q1, .inl (cI, 400, .inl (fun _ => nI 0)))] H := hP
  have hD : va_D A [(u0, .inr (0, [.null, .null, .null, .int (nI 0)])), (q1, .inl (cI, 400, .inl (fun _ => nI 0)))] := hD
  refine va_putF (D := (dC, dI)) (ci := 0) (v := .ref q1) (ty := .array .int) (C := RX0) (T := TX0) (N := 4) hx hb hts (by decide +kernel) tyX0 tyX0_ok nmX0 hown hK hP hD hS 0 rfl rfl 0 (by decide) (hts (.fieldLink RX0 9 "RevisionTree$Table" "keys" "[I") (by decide +kernel)) (fun _ h9 => h9) rfl hin rfl (by decide +kernel) rfl rfl (Nat.le_of_ble_eq_true rfl) dX0_init_10 (fun H locs hP hD hS => ?_)
  have hP : va_P (dC, dI) vwCl [(u0, .inr (0, [.ref q1, .null, .null, .int (nI 0)])), (q1, .inl (cI, 400, .inl (fun _ => nI 0)))] H := hP
  have hD : va_D A [(u0, .inr (0, [.ref q1, .null, .null, .int (nI 0)])), (q1, .inl (cI, 400, .inl (fun _ => nI 0)))] := hD
  refine lv_aload_n hx hb dX0_init_13 rfl (lv_at hl 0 rfl) ?_
  refine lv_sipush (v := nI 400) hx hb dX0_init_14 (by decide) ?_
  refine va_newa (atype := .int) hx hb (hts (.arrayClass .int) (by decide +kernel)) (ty := .int) rfl hK hP hD hS hA (N' := 400) (a0 := (400, .inl (fun _ => nI 0))) (z0c _) (nI_pos (by decide +kernel)) (nI_clamp (by decide +kernel)) (by decide +kernel) (by decide +kernel) (by decide +kernel) dX0_init_17 (fun q2 cA2 H hK2 hP hD hS => ?_)
  have eA2 : cA2 = cI := Option.some.inj ((show s.vm.findClass _ = some cA2 from (hK2.2 2 _ rfl).2).symm.trans (show s.vm.findClass _ = some cI from (hK2.2 0 _ rfl).2))
  rw [eA2] at hP hD
  have hP : va_P (dC, dI) vwCl [(u0, .inr (0, [.ref q1, .null, .null, .int (nI 0)])), (q1, .inl (cI, 400, .inl (fun _ => nI 0))), (q2, .inl (cI, 400, .inl (fun _ => nI 0)))] H := hP
  have hD : va_D A [(u0, .inr (0, [.ref q1, .null, .null, .int (nI 0)])), (q1, .inl (cI, 400, .inl (fun _ => nI 0))), (q2, .inl (cI, 400, .inl (fun _ => nI 0)))] := hD
  refine va_putF (D := (dC, dI)) (ci := 0) (v := .ref q2) (ty := .array .int) (C := RX0) (T := TX0) (N := 4) hx hb hts (by decide +kernel) tyX0 tyX0_ok nmX0 hown hK hP hD hS 0 rfl rfl 1 (by decide) (hts (.fieldLink RX0 15 "RevisionTree$Table" "values" "[I") (by decide +kernel)) (fun _ h9 => h9) rfl hin rfl (by decide +kernel) rfl rfl (Nat.le_of_ble_eq_true rfl) dX0_init_19 (fun H locs hP hD hS => ?_)
  have hP : va_P (dC, dI) vwCl [(u0, .inr (0, [.ref q1, .ref q2, .null, .int (nI 0)])), (q1, .inl (cI, 400, .inl (fun _ => nI 0))), (q2, .inl (cI, 400, .inl (fun _ => nI 0)))] H := hP
  have hD : va_D A [(u0, .inr (0, [.ref q1, .ref q2, .null, .int (nI 0)])), (q1, .inl (cI, 400, .inl (fun _ => nI 0))), (q2, .inl (cI, 400, .inl (fun _ => nI 0)))] := hD
  refine lv_aload_n hx hb dX0_init_22 rfl (lv_at hl 0 rfl) ?_
  refine lv_sipush (v := nI 400) hx hb dX0_init_23 (by decide) ?_
  refine va_newa (atype := .int) hx hb (hts (.arrayClass .int) (by decide +kernel)) (ty := .int) rfl hK hP hD hS hA (N' := 400) (a0 := (400, .inl (fun _ => nI 0))) (z0c _) (nI_pos (by decide +kernel)) (nI_clamp (by decide +kernel)) (by decide +kernel) (by decide +kernel) (by decide +kernel) dX0_init_26 (fun q3 cA3 H hK3 hP hD hS => ?_)
  have eA3 : cA3 = cI := Option.some.inj ((show s.vm.findClass _ = some cA3 from (hK3.2 2 _ rfl).2).symm.trans (show s.vm.findClass _ = some cI from (hK3.2 0 _ rfl).2))
  rw [eA3] at hP hD
  have hP : va_P (dC, dI) vwCl [(u0, .inr (0, [.ref q1, .ref q2, .null, .int (nI 0)])), (q1, .inl (cI, 400, .inl (fun _ => nI 0))), (q2, .inl (cI, 400, .inl (fun _ => nI 0))), (q3, .inl (cI, 400, .inl (fun _ => nI 0)))] H := hP
  have hD : va_D A [(u0, .inr (0, [.ref q1, .ref q2, .null, .int (nI 0)])), (q1, .inl (cI, 400, .inl (fun _ => nI 0))), (q2, .inl (cI, 400, .inl (fun _ => nI 0))), (q3, .inl (cI, 400, .inl (fun _ => nI 0)))] := hD
  refine va_putF (D := (dC, dI)) (ci := 0) (v := .ref q3) (ty := .array .int) (C := RX0) (T := TX0) (N := 4) hx hb hts (by decide +kernel) tyX0 tyX0_ok nmX0 hown hK hP hD hS 0 rfl rfl 2 (by decide) (hts (.fieldLink RX0 18 "RevisionTree$Table" "sizes" "[I") (by decide +kernel)) (fun _ h9 => h9) rfl hin rfl (by decide +kernel) rfl rfl (Nat.le_of_ble_eq_true rfl) dX0_init_28 (fun H locs hP hD hS => ?_)
  have hP : va_P (dC, dI) vwCl [(u0, .inr (0, [.ref q1, .ref q2, .ref q3, .int (nI 0)])), (q1, .inl (cI, 400, .inl (fun _ => nI 0))), (q2, .inl (cI, 400, .inl (fun _ => nI 0))), (q3, .inl (cI, 400, .inl (fun _ => nI 0)))] H := hP
  have hD : va_D A [(u0, .inr (0, [.ref q1, .ref q2, .ref q3, .int (nI 0)])), (q1, .inl (cI, 400, .inl (fun _ => nI 0))), (q2, .inl (cI, 400, .inl (fun _ => nI 0))), (q3, .inl (cI, 400, .inl (fun _ => nI 0)))] := hD
  refine lv_aload_n hx hb dX0_init_31 rfl (lv_at hl 0 rfl) ?_
  refine lv_iconst (v := nI 0) hx hb dX0_init_32 (by decide) ?_
  refine va_put (D := (dC, dI)) (ci := 0) (v := .int (nI 0)) (ty := .int) (C := RX0) (T := TX0) (N := 4) hx hb hts (by decide +kernel) tyX0 tyX0_ok nmX0 hown hK hP hD hS 0 rfl rfl 3 (by decide) (hts (.fieldLink RX0 21 "RevisionTree$Table" "held" "I") (by decide +kernel)) (fun _ h9 => h9) rfl (by decide +kernel) rfl rfl (Nat.le_of_ble_eq_true rfl) dX0_init_33 (fun H locs hP hD hS => ?_)
  have hP : va_P (dC, dI) vwCl [(u0, .inr (0, [.ref q1, .ref q2, .ref q3, .int (nI 0)])), (q1, .inl (cI, 400, .inl (fun _ => nI 0))), (q2, .inl (cI, 400, .inl (fun _ => nI 0))), (q3, .inl (cI, 400, .inl (fun _ => nI 0)))] H := hP
  have hD : va_D A [(u0, .inr (0, [.ref q1, .ref q2, .ref q3, .int (nI 0)])), (q1, .inl (cI, 400, .inl (fun _ => nI 0))), (q2, .inl (cI, 400, .inl (fun _ => nI 0))), (q3, .inl (cI, 400, .inl (fun _ => nI 0)))] := hD
  refine W.widen (k := 3) (n := 1200) (by decide +kernel) (by decide +kernel) ?_
  exact W.vret hx hb hr (fun t9 ht9 hW9 => ⟨⟨(q1, q2, q3), rfl, trivial, by show va_P _ _ _ t9.heap; rw [ht9]; exact hP, hD⟩, hS.F ht9⟩) hS.2.2 dX0_init_36
