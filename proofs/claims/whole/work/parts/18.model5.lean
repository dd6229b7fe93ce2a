set_option maxHeartbeats 4000000 in
set_option maxRecDepth 100000 in
/-- copy -/
theorem c_Model_copy (l : Launch) (dC : Nat → ClassId) (dI : Nat → Nat → Nat) (cI cT : ClassId) (g : Nat → Nat) (w : MS) (fr to : Nat) (sz : Nat) (hfr : fr < 4) (hto : to < 4) (hne : fr ≠ to) (hle : ∀ t, t < 4 → mC w t ≤ 400) : Met l yX2_copy wsX2_copy ({ frames := 0, cells := 0, slots := 0, locals := 0 }) (va_Pc [.ref (g 0), .int (nI fr), .int (nI to)] (zPW (dC, dI) vwCl cI cT (wM g cI w) sz)) (va_Qv (fun (u : MS) => eqR (view u) (tset (view w) to (tsel (view w) fr))) (fun u t => va_P (dC, dI) vwCl (wM g cI u) t.heap) (va_A (wM g cI w) sz)) 0 0 (va_A (wM g cI w) sz) := by
  refine Met.ofW (cc := cX2_copy) (maxL := 4) (ret := none) (by decide) rfl ?_
  intro p e s m args below meth c s₁ B hml hv
  obtain ⟨rfl, hsz, hP, hK, hD0⟩ := hv
  have hx := B.exec
  have hb := B.bytes
  have hr := B.returns
  have hts := atoms_spec (ws := wsX2_copy) B.pre
  have hown : s.vm.findClass RX2 = some m.cls := findClass_of_methodNamed B.named
  have hlocks := B.notSynchronized
  subst hsz
  have hD := hD0.self (sz := s.heap.size)
  generalize hAe : va_A (wM g cI w) s.heap.size = A at hD ⊢
  have hA : ∀ q : Nat, s.heap.size ≤ q → A q := fun q h => by rw [← hAe]; exact Or.inr h
  have hS : va_S A s.heap s.heap [] := va_S.rf
  have hl := lv_entry ([.ref (g 0), .int (nI fr), .int (nI to)]) (n := 4) (Nat.le_of_ble_eq_true rfl)
  rw [lg_entry_eq]
  generalize (lg_sl ([.ref (g 0), .int (nI fr), .int (nI to)]) ++ List.replicate (4 - (lg_sl ([.ref (g 0), .int (nI fr), .int (nI to)])).length) Slot.unset).toArray = ls at hl ⊢
  have hl : lv_has ls 4 [(0, .ref (g 0)), (1, .int (nI fr)), (2, .int (nI to))] := hl
  have hcf : mC w fr ≤ 400 := hle fr hfr
  refine lv_iconst (v := nI 0) hx hb dX2_copy_0 (by decide) ?_
  refine lv_istore_n (lv' := [(3, .int (nI 0)), (0, .ref (g 0)), (1, .int (nI fr)), (2, .int (nI to))]) hx hb dX2_copy_1 rfl hl (by decide) rfl (fun ls hl => ?_)
  refine zloop (σ := Nat × (Nat → Int32) × (Nat → Int32) × (Nat → Int32)) (fun x H locs ls => match x with | (c, K', V', S') => (c ≤ mC w fr ∧ cpR (mK w) K' fr to c ∧ cpR (mV w) V' fr to c ∧ cpR (mS w) S' fr to c) ∧ va_P (dC, dI) vwCl (wM g cI (K', V', S', mC w, mR w, mL w)) H ∧ va_D A (wM g cI (K', V', S', mC w, mR w, mL w)) ∧ va_S A s.heap H locs ∧ lv_has ls 4 [(0, .ref (g 0)), (1, .int (nI fr)), (2, .int (nI to)), (3, .int (nI c))]) (fun x => mC w fr - x.1) ?_ (0, mK w, mV w, mS w) ⟨⟨Nat.zero_le _, cpR_0, cpR_0, cpR_0⟩, hP, hD, hS, lv_sub hl [1, 2, 3, 0] rfl⟩
  rintro ⟨c, K', V', S'⟩ H locs ls ⟨⟨h1, hk, hv, hs⟩, hP, hD, hS, hl⟩ ih
  refine lv_iload_n hx hb dX2_copy_2 rfl (lv_at hl 3 rfl) ?_
  refine lv_aload_n hx hb dX2_copy_3 rfl (lv_at hl 0 rfl) ?_
  refine va_get (D := (dC, dI)) (ci := 2) (v := .ref (g 4)) (C := RX2) (T := TX2) (N := 6) hx hb hts (by decide +kernel) hown hK hP 0 rfl rfl 3 (by decide) (hts (.fieldLink RX2 19 "RevisionTreeModel" "count" "[I") (by decide +kernel)) (fun _ h9 => h9) rfl dX2_copy_4 ?_
  refine lv_iload_n hx hb dX2_copy_7 rfl (lv_at hl 1 rfl) ?_
  refine zrdN hx hb hK hP 4 0 rfl rfl (j := fr) (by omega) (by decide) dX2_copy_8 ?_
  refine zt (y := nI (mC w fr)) rfl ?_
  refine zge (tgt := 90) hx hb dX2_copy_9 (by decide) (by omega) (by omega) (fun h_9 => ?_) (fun h_9 => ?_)
  · obtain rfl : c = mC w fr := by omega
    refine lv_aload_n hx hb dX2_copy_90 rfl (lv_at hl 0 rfl) ?_
    refine va_get (D := (dC, dI)) (ci := 2) (v := .ref (g 4)) (C := RX2) (T := TX2) (N := 6) hx hb hts (by decide +kernel) hown hK hP 0 rfl rfl 3 (by decide) (hts (.fieldLink RX2 19 "RevisionTreeModel" "count" "[I") (by decide +kernel)) (fun _ h9 => h9) rfl dX2_copy_91 ?_
    refine lv_iload_n hx hb dX2_copy_94 rfl (lv_at hl 2 rfl) ?_
    refine lv_aload_n hx hb dX2_copy_95 rfl (lv_at hl 0 rfl) ?_
    refine va_get (D := (dC, dI)) (ci := 2) (v := .ref (g 4)) (C := RX2) (T := TX2) (N := 6) hx hb hts (by decide +kernel) hown hK hP 0 rfl rfl 3 (by decide) (hts (.fieldLink RX2 19 "RevisionTreeModel" "count" "[I") (by decide +kernel)) (fun _ h9 => h9) rfl dX2_copy_96 ?_
    refine lv_iload_n hx hb dX2_copy_99 rfl (lv_at hl 1 rfl) ?_
    refine zrdN hx hb hK hP 4 0 rfl rfl (j := fr) (by omega) (by decide) dX2_copy_100 ?_
    refine zt (y := nI (mC w fr)) rfl ?_
    refine zwrN hx hb hK hP hD hS 4 0 rfl rfl (j := to) (by omega) (by decide) dX2_copy_101 (fun H locs hP hD hS => ?_)
    rw [rd_up (f := mC w) (j := to) (x := mC w fr)] at hP hD
    have hP : va_P (dC, dI) vwCl (wM g cI (K', V', S', (va_up (mC w) to (mC w fr)), mR w, mL w)) H := hP
    have hD : va_D A (wM g cI (K', V', S', (va_up (mC w) to (mC w fr)), mR w, mL w)) := hD
    exact W.vret hx hb hr (fun t9 ht9 hW9 => ⟨⟨(K', V', S', (va_up (mC w) to (mC w fr)), mR w, mL w), rfl, cp_view hto hfr hle hk hv hs, by show va_P _ _ _ t9.heap; rw [ht9]; exact hP⟩, hS.F ht9⟩) hS.2.2 dX2_copy_102
  · refine lv_aload_n hx hb dX2_copy_12 rfl (lv_at hl 0 rfl) ?_
    refine va_get (D := (dC, dI)) (ci := 2) (v := .ref (g 1)) (C := RX2) (T := TX2) (N := 6) hx hb hts (by decide +kernel) hown hK hP 0 rfl rfl 0 (by decide) (hts (.fieldLink RX2 9 "RevisionTreeModel" "key" "[I") (by decide +kernel)) (fun _ h9 => h9) rfl dX2_copy_13 ?_
    refine lv_sipush (v := nI 400) hx hb dX2_copy_16 (by decide) ?_
    refine lv_iload_n hx hb dX2_copy_19 rfl (lv_at hl 2 rfl) ?_
    refine lv_imul hx hb dX2_copy_20 ?_
    refine zt (y := nI (400 * to)) (pk_mul _ _) ?_
    refine lv_iload_n hx hb dX2_copy_21 rfl (lv_at hl 3 rfl) ?_
    refine lv_iadd hx hb dX2_copy_22 ?_
    refine zt (y := nI ((400 * to) + c)) (nI_add _ _) ?_
    refine lv_aload_n hx hb dX2_copy_23 rfl (lv_at hl 0 rfl) ?_
    refine va_get (D := (dC, dI)) (ci := 2) (v := .ref (g 1)) (C := RX2) (T := TX2) (N := 6) hx hb hts (by decide +kernel) hown hK hP 0 rfl rfl 0 (by decide) (hts (.fieldLink RX2 9 "RevisionTreeModel" "key" "[I") (by decide +kernel)) (fun _ h9 => h9) rfl dX2_copy_24 ?_
    refine lv_sipush (v := nI 400) hx hb dX2_copy_27 (by decide) ?_
    refine lv_iload_n hx hb dX2_copy_30 rfl (lv_at hl 1 rfl) ?_
    refine lv_imul hx hb dX2_copy_31 ?_
    refine zt (y := nI (400 * fr)) (pk_mul _ _) ?_
    refine lv_iload_n hx hb dX2_copy_32 rfl (lv_at hl 3 rfl) ?_
    refine lv_iadd hx hb dX2_copy_33 ?_
    refine zt (y := nI ((400 * fr) + c)) (nI_add _ _) ?_
    refine zrdN hx hb hK hP 1 0 rfl rfl (j := (400 * fr) + c) (by omega) (by decide) dX2_copy_34 ?_
    refine zwrN hx hb hK hP hD hS 1 0 rfl rfl (j := (400 * to) + c) (by omega) (by decide) dX2_copy_35 (fun H locs hP hD hS => ?_)
    have hP : va_P (dC, dI) vwCl (wM g cI (upd K' ((400 * to) + c) (K' ((400 * fr) + c)), V', S', mC w, mR w, mL w)) H := hP
    have hD : va_D A (wM g cI (upd K' ((400 * to) + c) (K' ((400 * fr) + c)), V', S', mC w, mR w, mL w)) := hD
    refine lv_aload_n hx hb dX2_copy_36 rfl (lv_at hl 0 rfl) ?_
    refine va_get (D := (dC, dI)) (ci := 2) (v := .ref (g 2)) (C := RX2) (T := TX2) (N := 6) hx hb hts (by decide +kernel) hown hK hP 0 rfl rfl 1 (by decide) (hts (.fieldLink RX2 13 "RevisionTreeModel" "value" "[I") (by decide +kernel)) (fun _ h9 => h9) rfl dX2_copy_37 ?_
    refine lv_sipush (v := nI 400) hx hb dX2_copy_40 (by decide) ?_
    refine lv_iload_n hx hb dX2_copy_43 rfl (lv_at hl 2 rfl) ?_
    refine lv_imul hx hb dX2_copy_44 ?_
    refine zt (y := nI (400 * to)) (pk_mul _ _) ?_
    refine lv_iload_n hx hb dX2_copy_45 rfl (lv_at hl 3 rfl) ?_
    refine lv_iadd hx hb dX2_copy_46 ?_
    refine zt (y := nI ((400 * to) + c)) (nI_add _ _) ?_
    refine lv_aload_n hx hb dX2_copy_47 rfl (lv_at hl 0 rfl) ?_
    refine va_get (D := (dC, dI)) (ci := 2) (v := .ref (g 2)) (C := RX2) (T := TX2) (N := 6) hx hb hts (by decide +kernel) hown hK hP 0 rfl rfl 1 (by decide) (hts (.fieldLink RX2 13 "RevisionTreeModel" "value" "[I") (by decide +kernel)) (fun _ h9 => h9) rfl dX2_copy_48 ?_
    refine lv_sipush (v := nI 400) hx hb dX2_copy_51 (by decide) ?_
    refine lv_iload_n hx hb dX2_copy_54 rfl (lv_at hl 1 rfl) ?_
    refine lv_imul hx hb dX2_copy_55 ?_
    refine zt (y := nI (400 * fr)) (pk_mul _ _) ?_
    refine lv_iload_n hx hb dX2_copy_56 rfl (lv_at hl 3 rfl) ?_
    refine lv_iadd hx hb dX2_copy_57 ?_
    refine zt (y := nI ((400 * fr) + c)) (nI_add _ _) ?_
    refine zrdN hx hb hK hP 2 0 rfl rfl (j := (400 * fr) + c) (by omega) (by decide) dX2_copy_58 ?_
    refine zwrN hx hb hK hP hD hS 2 0 rfl rfl (j := (400 * to) + c) (by omega) (by decide) dX2_copy_59 (fun H locs hP hD hS => ?_)
    have hP : va_P (dC, dI) vwCl (wM g cI (upd K' ((400 * to) + c) (K' ((400 * fr) + c)), upd V' ((400 * to) + c) (V' ((400 * fr) + c)), S', mC w, mR w, mL w)) H := hP
    have hD : va_D A (wM g cI (upd K' ((400 * to) + c) (K' ((400 * fr) + c)), upd V' ((400 * to) + c) (V' ((400 * fr) + c)), S', mC w, mR w, mL w)) := hD
    refine lv_aload_n hx hb dX2_copy_60 rfl (lv_at hl 0 rfl) ?_
    refine va_get (D := (dC, dI)) (ci := 2) (v := .ref (g 3)) (C := RX2) (T := TX2) (N := 6) hx hb hts (by decide +kernel) hown hK hP 0 rfl rfl 2 (by decide) (hts (.fieldLink RX2 16 "RevisionTreeModel" "size" "[I") (by decide +kernel)) (fun _ h9 => h9) rfl dX2_copy_61 ?_
    refine lv_sipush (v := nI 400) hx hb dX2_copy_64 (by decide) ?_
    refine lv_iload_n hx hb dX2_copy_67 rfl (lv_at hl 2 rfl) ?_
    refine lv_imul hx hb dX2_copy_68 ?_
    refine zt (y := nI (400 * to)) (pk_mul _ _) ?_
    refine lv_iload_n hx hb dX2_copy_69 rfl (lv_at hl 3 rfl) ?_
    refine lv_iadd hx hb dX2_copy_70 ?_
    refine zt (y := nI ((400 * to) + c)) (nI_add _ _) ?_
    refine lv_aload_n hx hb dX2_copy_71 rfl (lv_at hl 0 rfl) ?_
    refine va_get (D := (dC, dI)) (ci := 2) (v := .ref (g 3)) (C := RX2) (T := TX2) (N := 6) hx hb hts (by decide +kernel) hown hK hP 0 rfl rfl 2 (by decide) (hts (.fieldLink RX2 16 "RevisionTreeModel" "size" "[I") (by decide +kernel)) (fun _ h9 => h9) rfl dX2_copy_72 ?_
    refine lv_sipush (v := nI 400) hx hb dX2_copy_75 (by decide) ?_
    refine lv_iload_n hx hb dX2_copy_78 rfl (lv_at hl 1 rfl) ?_
    refine lv_imul hx hb dX2_copy_79 ?_
    refine zt (y := nI (400 * fr)) (pk_mul _ _) ?_
    refine lv_iload_n hx hb dX2_copy_80 rfl (lv_at hl 3 rfl) ?_
    refine lv_iadd hx hb dX2_copy_81 ?_
    refine zt (y := nI ((400 * fr) + c)) (nI_add _ _) ?_
    refine zrdN hx hb hK hP 3 0 rfl rfl (j := (400 * fr) + c) (by omega) (by decide) dX2_copy_82 ?_
    refine zwrN hx hb hK hP hD hS 3 0 rfl rfl (j := (400 * to) + c) (by omega) (by decide) dX2_copy_83 (fun H locs hP hD hS => ?_)
    have hP : va_P (dC, dI) vwCl (wM g cI (upd K' ((400 * to) + c) (K' ((400 * fr) + c)), upd V' ((400 * to) + c) (V' ((400 * fr) + c)), upd S' ((400 * to) + c) (S' ((400 * fr) + c)), mC w, mR w, mL w)) H := hP
    have hD : va_D A (wM g cI (upd K' ((400 * to) + c) (K' ((400 * fr) + c)), upd V' ((400 * to) + c) (V' ((400 * fr) + c)), upd S' ((400 * to) + c) (S' ((400 * fr) + c)), mC w, mR w, mL w)) := hD
    refine lv_iinc (v := nI (c + 1)) (lv' := [(3, .int (nI (c + 1))), (0, .ref (g 0)), (1, .int (nI fr)), (2, .int (nI to))]) hx hb dX2_copy_84 hl (k := 3) rfl (zinc _) (by decide) rfl (fun ls hl => ?_)
    refine lv_goto (tgt := 2) hx hb dX2_copy_87 (by decide) ?_
    exact ih (c + 1, upd K' ((400 * to) + c) (K' ((400 * fr) + c)), upd V' ((400 * to) + c) (V' ((400 * fr) + c)), upd S' ((400 * to) + c) (S' ((400 * fr) + c))) _ _ _ ⟨⟨by omega, cpR_s hk hne (by omega), cpR_s hv hne (by omega), cpR_s hs hne (by omega)⟩, hP, hD, hS, lv_sub hl [1, 2, 3, 0] rfl⟩ (by show mC w fr - (c + 1) < mC w fr - c; omega)
set_option maxHeartbeats 4000000 in
set_option maxRecDepth 100000 in
/-- commit -/
theorem c_Model_commit (l : Launch) (dC : Nat → ClassId) (dI : Nat → Nat → Nat) (cI cT : ClassId) (g : Nat → Nat) (w : MS) (cut : Int32) (sz : Nat) (L : Nat) (hok : okR L (view w)) (hL : L < 500000) : Met l yX2_commit wsX2_commit ({ frames := 1, cells := 0, slots := 0, locals := 23 }) (va_Pc [.ref (g 0), .int cut] (zPW (dC, dI) vwCl cI cT (wM g cI w) sz)) (va_Qi (fun (r9 : Int32) (u9 : MS) => r9 = (aCommit (view w) cut).1 ∧ eqR (view u9) (aCommit (view w) cut).2) (fun u t => va_P (dC, dI) vwCl (wM g cI u) t.heap) (va_A (wM g cI w) sz)) 0 0 (va_A (wM g cI w) sz) := by
  refine Met.ofW (cc := cX2_commit) (maxL := 2) (ret := (some .int)) (by decide) rfl ?_
  intro p e s m args below meth c s₁ B hml hv
  obtain ⟨rfl, hsz, hP, hK, hD0⟩ := hv
  have hx := B.exec
  have hb := B.bytes
  have hr := B.returns
  have hts := atoms_spec (ws := wsX2_commit) B.pre
  have hown : s.vm.findClass RX2 = some m.cls := findClass_of_methodNamed B.named
  have hlocks := B.notSynchronized
  subst hsz
  have hD := hD0.self (sz := s.heap.size)
  generalize hAe : va_A (wM g cI w) s.heap.size = A at hD ⊢
  have hA : ∀ q : Nat, s.heap.size ≤ q → A q := fun q h => by rw [← hAe]; exact Or.inr h
  have hS : va_S A s.heap s.heap [] := va_S.rf
  have hl := lv_entry ([.ref (g 0), .int cut]) (n := 2) (Nat.le_of_ble_eq_true rfl)
  rw [lg_entry_eq]
  generalize (lg_sl ([.ref (g 0), .int cut]) ++ List.replicate (2 - (lg_sl ([.ref (g 0), .int cut])).length) Slot.unset).toArray = ls at hl ⊢
  have hl : lv_has ls 2 [(0, .ref (g 0)), (1, .int cut)] := hl
  have hle : ∀ t, t < 4 → mC w t ≤ 400 := fun t ht => by have h9 := (hok.1 t ht).1; rw [view_t w ht] at h9; exact h9
  have hc3 : mC w 3 ≤ 400 := hle 3 (by decide)
  have hlat : mL w ≤ L := hok.2.2
  refine lv_iload_n hx hb dX2_commit_0 rfl (lv_at hl 1 rfl) ?_
  refine lv_if_lt (tgt := 18) hx hb dX2_commit_1 (by decide) (fun h_1 => ?_) (fun h_1 => ?_)
  · refine lv_aload_n hx hb dX2_commit_18 rfl (lv_at hl 0 rfl) ?_
    refine lv_dup hx hb dX2_commit_19 rfl ?_
    refine va_get (D := (dC, dI)) (ci := 2) (v := .int (nI (mL w))) (C := RX2) (T := TX2) (N := 6) hx hb hts (by decide +kernel) hown hK hP 0 rfl rfl 5 (by decide) (hts (.fieldLink RX2 37 "RevisionTreeModel" "latest" "I") (by decide +kernel)) (fun _ h9 => h9) rfl dX2_commit_20 ?_
    refine lv_iconst (v := nI 1) hx hb dX2_commit_23 (by decide) ?_
    refine lv_iadd hx hb dX2_commit_24 ?_
    refine zt (y := nI ((mL w) + 1)) (nI_add _ _) ?_
    refine va_put (D := (dC, dI)) (ci := 2) (v := .int (nI ((mL w) + 1))) (ty := .int) (C := RX2) (T := TX2) (N := 6) hx hb hts (by decide +kernel) tyX2 tyX2_ok nmX2 hown hK hP hD hS 0 rfl rfl 5 (by decide) (hts (.fieldLink RX2 37 "RevisionTreeModel" "latest" "I") (by decide +kernel)) (fun _ h9 => h9) rfl (by decide +kernel) rfl rfl (Nat.le_of_ble_eq_true rfl) dX2_commit_25 (fun H locs hP hD hS => ?_)
    have hP : va_P (dC, dI) vwCl (wM g cI (mK w, mV w, mS w, mC w, mR w, mL w + 1)) H := hP
    have hD : va_D A (wM g cI (mK w, mV w, mS w, mC w, mR w, mL w + 1)) := hD
    refine lv_aload_n hx hb dX2_commit_28 rfl (lv_at hl 0 rfl) ?_
    refine lv_iconst (v := nI 3) hx hb dX2_commit_29 (by decide) ?_
    refine lv_aload_n hx hb dX2_commit_30 rfl (lv_at hl 0 rfl) ?_
    refine va_get (D := (dC, dI)) (ci := 2) (v := .int (nI (mL w + 1))) (C := RX2) (T := TX2) (N := 6) hx hb hts (by decide +kernel) hown hK hP 0 rfl rfl 5 (by decide) (hts (.fieldLink RX2 37 "RevisionTreeModel" "latest" "I") (by decide +kernel)) (fun _ h9 => h9) rfl dX2_commit_31 ?_
    refine lv_iconst (v := nI 3) hx hb dX2_commit_34 (by decide) ?_
    refine lv_irem hx hb dX2_commit_35 (by decide) ?_
    refine zt (y := nI ((mL w + 1) % 3)) (pk_rem (by omega) (by omega) (by omega)) ?_
    refine zwrv (w1 := fun u : MS => wM g cI u) (va_runV (As := [.int (nI 3), .int (nI ((mL w + 1) % 3))]) (rest := []) ⟨hx, hb, hml, hown, hts⟩ (c_Model_copy l dC dI cI cT g (mK w, mV w, mS w, mC w, mR w, mL w + 1) 3 ((mL w + 1) % 3) H.size (by omega) (by omega) (by omega) hle) (cwV 2 hts gX2_commit_X2_copy rfl rfl rfl (by decide +kernel) ⟨Nat.le_of_ble_eq_true rfl, Nat.le_of_ble_eq_true rfl⟩) (zpreV hK (hP.sub [0, 1, 2, 3, 4, 5] rfl) (hD.sub [0, 1, 2, 3, 4, 5] (by decide) rfl) rfl 0 rfl) rfl rfl hl.1 rfl (lv_room (Nat.le_of_ble_eq_true rfl)) dX2_commit_36 ⟨Nat.le_of_ble_eq_true rfl, Nat.le_of_ble_eq_true rfl⟩) hP hD hS hA [0, 1, 2, 3, 4, 5] rfl (fun _ => rfl) (fun _ => rfl) (fun u H locs hw hP hD hS => ?_)
    have hP : va_P (dC, dI) vwCl (wM g cI u) H := hP
    have hD : va_D A (wM g cI u) := hD
    have hu : mL u = mL w + 1 := hw.2.2.trans (tset_L _ _ _)
    refine lv_aload_n hx hb dX2_commit_39 rfl (lv_at hl 0 rfl) ?_
    refine va_get (D := (dC, dI)) (ci := 2) (v := .int (nI (mL u))) (C := RX2) (T := TX2) (N := 6) hx hb hts (by decide +kernel) hown hK hP 0 rfl rfl 5 (by decide) (hts (.fieldLink RX2 37 "RevisionTreeModel" "latest" "I") (by decide +kernel)) (fun _ h9 => h9) rfl dX2_commit_40 ?_
    exact W.iret (v := nI (mL u)) hx hb hr (fun t9 ht9 hW9 => ⟨⟨_, u, rfl, by unfold aCommit; rw [if_pos h_1]; exact ⟨by show nI (mL u) = nI (mL w + 1); exact congrArg nI hu, hw⟩, by show va_P _ _ _ t9.heap; rw [ht9]; exact hP⟩, hS.F ht9⟩) hS.2.2 dX2_commit_43
  · refine lv_aload_n hx hb dX2_commit_4 rfl (lv_at hl 0 rfl) ?_
    refine lv_aload_n hx hb dX2_commit_5 rfl (lv_at hl 0 rfl) ?_
    refine va_get (D := (dC, dI)) (ci := 2) (v := .int (nI (mL w))) (C := RX2) (T := TX2) (N := 6) hx hb hts (by decide +kernel) hown hK hP 0 rfl rfl 5 (by decide) (hts (.fieldLink RX2 37 "RevisionTreeModel" "latest" "I") (by decide +kernel)) (fun _ h9 => h9) rfl dX2_commit_6 ?_
    refine lv_iconst (v := nI 3) hx hb dX2_commit_9 (by decide) ?_
    refine lv_irem hx hb dX2_commit_10 (by decide) ?_
    refine zt (y := nI ((mL w) % 3)) (pk_rem (by omega) (by omega) (by omega)) ?_
    refine lv_iconst (v := nI 3) hx hb dX2_commit_11 (by decide) ?_
    refine zwrv (w1 := fun u : MS => wM g cI u) (va_runV (As := [.int (nI ((mL w) % 3)), .int (nI 3)]) (rest := []) ⟨hx, hb, hml, hown, hts⟩ (c_Model_copy l dC dI cI cT g w (mL w % 3) 3 s.heap.size (by omega) (by omega) (by omega) hle) (cwV 2 hts gX2_commit_X2_copy rfl rfl rfl (by decide +kernel) ⟨Nat.le_of_ble_eq_true rfl, Nat.le_of_ble_eq_true rfl⟩) (zpreV hK (hP.sub [0, 1, 2, 3, 4, 5] rfl) (hD.sub [0, 1, 2, 3, 4, 5] (by decide) rfl) rfl 0 rfl) rfl rfl hl.1 rfl (lv_room (Nat.le_of_ble_eq_true rfl)) dX2_commit_12 ⟨Nat.le_of_ble_eq_true rfl, Nat.le_of_ble_eq_true rfl⟩) hP hD hS hA [0, 1, 2, 3, 4, 5] rfl (fun _ => rfl) (fun _ => rfl) (fun u H locs hw hP hD hS => ?_)
    have hP : va_P (dC, dI) vwCl (wM g cI u) H := hP
    have hD : va_D A (wM g cI u) := hD
    refine lv_bipush (v := (-5)) hx hb dX2_commit_15 (by decide) ?_
    exact W.iret (v := (-5)) hx hb hr (fun t9 ht9 hW9 => ⟨⟨_, u, rfl, by unfold aCommit; rw [if_neg h_1]; exact ⟨rfl, hw⟩, by show va_P _ _ _ t9.heap; rw [ht9]; exact hP⟩, hS.F ht9⟩) hS.2.2 dX2_commit_17
set_option maxHeartbeats 4000000 in
set_option maxRecDepth 100000 in
/-- forget -/
theorem c_Model_forget (l : Launch) (dC : Nat → ClassId) (dI : Nat → Nat → Nat) (cI cT : ClassId) (g : Nat → Nat) (w : MS) (sz : Nat) (L : Nat) (hok : okR L (view w)) (hL : L < 500000) : Met l yX2_forget wsX2_forget ({ frames := 1, cells := 0, slots := 0, locals := 23 }) (va_Pc [.ref (g 0)] (zPW (dC, dI) vwCl cI cT (wM g cI w) sz)) (va_Qi (fun (r9 : Int32) (u9 : MS) => r9 = (aForget (view w)).1 ∧ eqR (view u9) (aForget (view w)).2) (fun u t => va_P (dC, dI) vwCl (wM g cI u) t.heap) (va_A (wM g cI w) sz)) 0 0 (va_A (wM g cI w) sz) := by
  refine Met.ofW (cc := cX2_forget) (maxL := 1) (ret := (some .int)) (by decide) rfl ?_
  intro p e s m args below meth c s₁ B hml hv
  obtain ⟨rfl, hsz, hP, hK, hD0⟩ := hv
  have hx := B.exec
  have hb := B.bytes
  have hr := B.returns
  have hts := atoms_spec (ws := wsX2_forget) B.pre
  have hown : s.vm.findClass RX2 = some m.cls := findClass_of_methodNamed B.named
  have hlocks := B.notSynchronized
  subst hsz
  have hD := hD0.self (sz := s.heap.size)
  generalize hAe : va_A (wM g cI w) s.heap.size = A at hD ⊢
  have hA : ∀ q : Nat, s.heap.size ≤ q → A q := fun q h => by rw [← hAe]; exact Or.inr h
  have hS : va_S A s.heap s.heap [] := va_S.rf
  have hl := lv_entry ([.ref (g 0)]) (n := 1) (Nat.le_of_ble_eq_true rfl)
  rw [lg_entry_eq]
  generalize (lg_sl ([.ref (g 0)]) ++ List.replicate (1 - (lg_sl ([.ref (g 0)])).length) Slot.unset).toArray = ls at hl ⊢
  have hl : lv_has ls 1 [(0, .ref (g 0))] := hl
  have hle : ∀ t, t < 4 → mC w t ≤ 400 := fun t ht => by have h9 := (hok.1 t ht).1; rw [view_t w ht] at h9; exact h9
  have hc3 : mC w 3 ≤ 400 := hle 3 (by decide)
  have hlat : mL w ≤ L := hok.2.2
  refine lv_aload_n hx hb dX2_forget_0 rfl (lv_at hl 0 rfl) ?_
  refine lv_aload_n hx hb dX2_forget_1 rfl (lv_at hl 0 rfl) ?_
  refine va_get (D := (dC, dI)) (ci := 2) (v := .int (nI (mL w))) (C := RX2) (T := TX2) (N := 6) hx hb hts (by decide +kernel) hown hK hP 0 rfl rfl 5 (by decide) (hts (.fieldLink RX2 37 "RevisionTreeModel" "latest" "I") (by decide +kernel)) (fun _ h9 => h9) rfl dX2_forget_2 ?_
  refine lv_iconst (v := nI 3) hx hb dX2_forget_5 (by decide) ?_
  refine lv_irem hx hb dX2_forget_6 (by decide) ?_
  refine zt (y := nI ((mL w) % 3)) (pk_rem (by omega) (by omega) (by omega)) ?_
  refine lv_iconst (v := nI 3) hx hb dX2_forget_7 (by decide) ?_
  refine zwrv (w1 := fun u : MS => wM g cI u) (va_runV (As := [.int (nI ((mL w) % 3)), .int (nI 3)]) (rest := []) ⟨hx, hb, hml, hown, hts⟩ (c_Model_copy l dC dI cI cT g w (mL w % 3) 3 s.heap.size (by omega) (by omega) (by omega) hle) (cwV 2 hts gX2_forget_X2_copy rfl rfl rfl (by decide +kernel) ⟨Nat.le_of_ble_eq_true rfl, Nat.le_of_ble_eq_true rfl⟩) (zpreV hK (hP.sub [0, 1, 2, 3, 4, 5] rfl) (hD.sub [0, 1, 2, 3, 4, 5] (by decide) rfl) rfl 0 rfl) rfl rfl hl.1 rfl (lv_room (Nat.le_of_ble_eq_true rfl)) dX2_forget_8 ⟨Nat.le_of_ble_eq_true rfl, Nat.le_of_ble_eq_true rfl⟩) hP hD hS hA [0, 1, 2, 3, 4, 5] rfl (fun _ => rfl) (fun _ => rfl) (fun u H locs hw hP hD hS => ?_)
  have hP : va_P (dC, dI) vwCl (wM g cI u) H := hP
  have hD : va_D A (wM g cI u) := hD
  have hu : mC u 3 = (tsel (view w) (mL w % 3)).1 := by have h9 := (hw.1 3 (by decide)).1; rw [tset_same _ _ (by decide)] at h9; exact h9
  refine lv_aload_n hx hb dX2_forget_11 rfl (lv_at hl 0 rfl) ?_
  refine va_get (D := (dC, dI)) (ci := 2) (v := .ref (g 4)) (C := RX2) (T := TX2) (N := 6) hx hb hts (by decide +kernel) hown hK hP 0 rfl rfl 3 (by decide) (hts (.fieldLink RX2 19 "RevisionTreeModel" "count" "[I") (by decide +kernel)) (fun _ h9 => h9) rfl dX2_forget_12 ?_
  refine lv_iconst (v := nI 3) hx hb dX2_forget_15 (by decide) ?_
  refine zrdN hx hb hK hP 4 0 rfl rfl (j := 3) (by omega) (by decide) dX2_forget_16 ?_
  exact W.iret (v := nI (mC u 3)) hx hb hr (fun t9 ht9 hW9 => ⟨⟨_, u, rfl, ⟨congrArg nI hu, hw⟩, by show va_P _ _ _ t9.heap; rw [ht9]; exact hP⟩, hS.F ht9⟩) hS.2.2 dX2_forget_17
set_option maxHeartbeats 4000000 in
set_option maxRecDepth 100000 in
/-- open -/
theorem c_Model_open (l : Launch) (dC : Nat → ClassId) (dI : Nat → Nat → Nat) (cI cT : ClassId) (g : Nat → Nat) (w : MS) (r : Int32) (sz : Nat) (L : Nat) (hok : okR L (view w)) (hL : L < 500000) : Met l yX2_open wsX2_open ({ frames := 0, cells := 0, slots := 0, locals := 0 }) (va_Pc [.ref (g 0), .int r] (zPW (dC, dI) vwCl cI cT (wM g cI w) sz)) (va_Qi (fun (r9 : Int32) (u9 : MS) => r9 = (aOpen (view w) r).1 ∧ eqR (view u9) (aOpen (view w) r).2) (fun u t => va_P (dC, dI) vwCl (wM g cI u) t.heap) (va_A (wM g cI w) sz)) 0 0 (va_A (wM g cI w) sz) := by
  refine Met.ofW (cc := cX2_open) (maxL := 2) (ret := (some .int)) (by decide) rfl ?_
  intro p e s m args below meth c s₁ B hml hv
  obtain ⟨rfl, hsz, hP, hK, hD0⟩ := hv
  have hx := B.exec
  have hb := B.bytes
  have hr := B.returns
  have hts := atoms_spec (ws := wsX2_open) B.pre
  have hown : s.vm.findClass RX2 = some m.cls := findClass_of_methodNamed B.named
  have hlocks := B.notSynchronized
  subst hsz
  have hD := hD0.self (sz := s.heap.size)
  generalize hAe : va_A (wM g cI w) s.heap.size = A at hD ⊢
  have hA : ∀ q : Nat, s.heap.size ≤ q → A q := fun q h => by rw [← hAe]; exact Or.inr h
  have hS : va_S A s.heap s.heap [] := va_S.rf
  have hl := lv_entry ([.ref (g 0), .int r]) (n := 2) (Nat.le_of_ble_eq_true rfl)
  rw [lg_entry_eq]
  generalize (lg_sl ([.ref (g 0), .int r]) ++ List.replicate (2 - (lg_sl ([.ref (g 0), .int r])).length) Slot.unset).toArray = ls at hl ⊢
  have hl : lv_has ls 2 [(0, .ref (g 0)), (1, .int r)] := hl
  have hle : ∀ t, t < 4 → mC w t ≤ 400 := fun t ht => by have h9 := (hok.1 t ht).1; rw [view_t w ht] at h9; exact h9
  have hc3 : mC w 3 ≤ 400 := hle 3 (by decide)
  have hlat : mL w ≤ L := hok.2.2
  refine lv_iload_n hx hb dX2_open_0 rfl (lv_at hl 1 rfl) ?_
  refine lv_if_lt (tgt := 9) hx hb dX2_open_1 (by decide) (fun h_1 => ?_) (fun h_1 => ?_)
  · refine lv_iconst (v := (-1)) hx hb dX2_open_9 (by decide) ?_
    exact W.iret (v := (-1)) hx hb hr (fun t9 ht9 hW9 => ⟨⟨_, w, rfl, by unfold aOpen; rw [if_pos (show r < 0 ∨ 3 < r from Or.inl h_1)]; exact ⟨rfl, eqR_rf⟩, by show va_P _ _ _ t9.heap; rw [ht9]; exact hP⟩, hS.F ht9⟩) hS.2.2 dX2_open_10
  · refine lv_iload_n hx hb dX2_open_4 rfl (lv_at hl 1 rfl) ?_
    refine lv_iconst (v := nI 3) hx hb dX2_open_5 (by decide) ?_
    refine lv_icmp_le (tgt := 11) hx hb dX2_open_6 (by decide) (fun h_6 => ?_) (fun h_6 => ?_)
    · obtain ⟨j, hj, rfl, ec⟩ := r_in h_1 (r33.mp h_6)
      refine lv_aload_n hx hb dX2_open_11 rfl (lv_at hl 0 rfl) ?_
      refine va_get (D := (dC, dI)) (ci := 2) (v := .ref (g 5)) (C := RX2) (T := TX2) (N := 6) hx hb hts (by decide +kernel) hown hK hP 0 rfl rfl 4 (by decide) (hts (.fieldLink RX2 22 "RevisionTreeModel" "reader" "[I") (by decide +kernel)) (fun _ h9 => h9) rfl dX2_open_12 ?_
      refine lv_iload_n hx hb dX2_open_15 rfl (lv_at hl 1 rfl) ?_
      refine lv_aload_n hx hb dX2_open_16 rfl (lv_at hl 0 rfl) ?_
      refine va_get (D := (dC, dI)) (ci := 2) (v := .int (nI (mL w))) (C := RX2) (T := TX2) (N := 6) hx hb hts (by decide +kernel) hown hK hP 0 rfl rfl 5 (by decide) (hts (.fieldLink RX2 37 "RevisionTreeModel" "latest" "I") (by decide +kernel)) (fun _ h9 => h9) rfl dX2_open_17 ?_
      refine zwrN hx hb hK hP hD hS 5 0 rfl rfl (j := j) (by omega) (by decide) dX2_open_20 (fun H locs hP hD hS => ?_)
      rw [rd_up (f := mR w) (j := j) (x := mL w)] at hP hD
      have hP : va_P (dC, dI) vwCl (wM g cI (mK w, mV w, mS w, mC w, (va_up (mR w) j (mL w)), mL w)) H := hP
      have hD : va_D A (wM g cI (mK w, mV w, mS w, mC w, (va_up (mR w) j (mL w)), mL w)) := hD
      refine lv_aload_n hx hb dX2_open_21 rfl (lv_at hl 0 rfl) ?_
      refine va_get (D := (dC, dI)) (ci := 2) (v := .int (nI (mL w))) (C := RX2) (T := TX2) (N := 6) hx hb hts (by decide +kernel) hown hK hP 0 rfl rfl 5 (by decide) (hts (.fieldLink RX2 37 "RevisionTreeModel" "latest" "I") (by decide +kernel)) (fun _ h9 => h9) rfl dX2_open_22 ?_
      exact W.iret (v := nI (mL w)) hx hb hr (fun t9 ht9 hW9 => ⟨⟨_, (mK w, mV w, mS w, mC w, (va_up (mR w) j (mL w)), mL w), rfl, by unfold aOpen; rw [if_neg (fun q => q.elim h_1 (r33.mp h_6)), ec]; exact ⟨rfl, eqR_rf⟩, by show va_P _ _ _ t9.heap; rw [ht9]; exact hP⟩, hS.F ht9⟩) hS.2.2 dX2_open_25
    · refine lv_iconst (v := (-1)) hx hb dX2_open_9 (by decide) ?_
      exact W.iret (v := (-1)) hx hb hr (fun t9 ht9 hW9 => ⟨⟨_, w, rfl, by unfold aOpen; rw [if_pos (show r < 0 ∨ 3 < r from Or.inr (i_lt (fun q => h_6 (r33.mpr (i_nl q)))))]; exact ⟨rfl, eqR_rf⟩, by show va_P _ _ _ t9.heap; rw [ht9]; exact hP⟩, hS.F ht9⟩) hS.2.2 dX2_open_10
