set_option maxHeartbeats 4000000 in
set_option maxRecDepth 100000 in
/-- place -/
theorem c_Model_place (l : Launch) (dC : Nat → ClassId) (dI : Nat → Nat → Nat) (cI cT : ClassId) (g : Nat → Nat) (w : MS) (t : Nat) (k : Int32) (sz : Nat) (ht : t < 4) (hle : ∀ t, t < 4 → mC w t ≤ 400) : Met l yX2_place wsX2_place ({ frames := 0, cells := 0, slots := 0, locals := 0 }) (va_Pc [.ref (g 0), .int (nI t), .int k] (zPW (dC, dI) vwCl cI cT (wM g cI w) sz)) (zQi sz (nI (400 * t + tPl (vT w t) k))) 0 0 (zfr sz) := by
  refine Met.ofW (cc := cX2_place) (maxL := 4) (ret := (some .int)) (by decide) rfl ?_
  intro p e s m args below meth c s₁ B hml hv
  obtain ⟨rfl, hsz, hP, hK, hD0⟩ := hv
  have hx := B.exec
  have hb := B.bytes
  have hr := B.returns
  have hts := atoms_spec (ws := wsX2_place) B.pre
  have hown : s.vm.findClass RX2 = some m.cls := findClass_of_methodNamed B.named
  have hlocks := B.notSynchronized
  subst hsz
  have hA : ∀ q : Nat, s.heap.size ≤ q → (fun q : Nat => s.heap.size ≤ q) q := fun _ h => h
  have hS : va_S (fun q : Nat => s.heap.size ≤ q) s.heap s.heap [] := va_S.rf
  have hD := hD0
  have hl := lv_entry ([.ref (g 0), .int (nI t), .int k]) (n := 4) (Nat.le_of_ble_eq_true rfl)
  rw [lg_entry_eq]
  generalize (lg_sl ([.ref (g 0), .int (nI t), .int k]) ++ List.replicate (4 - (lg_sl ([.ref (g 0), .int (nI t), .int k])).length) Slot.unset).toArray = ls at hl ⊢
  have hl : lv_has ls 4 [(0, .ref (g 0)), (1, .int (nI t)), (2, .int k)] := hl
  have hct : mC w t ≤ 400 := hle t ht
  refine lv_sipush (v := nI 400) hx hb dX2_place_0 (by decide) ?_
  refine lv_iload_n hx hb dX2_place_3 rfl (lv_at hl 1 rfl) ?_
  refine lv_imul hx hb dX2_place_4 ?_
  refine zt (y := nI (400 * t)) (pk_mul _ _) ?_
  refine lv_istore_n (lv' := [(3, .int (nI (400 * t))), (0, .ref (g 0)), (1, .int (nI t)), (2, .int k)]) hx hb dX2_place_5 rfl hl (by decide) rfl (fun ls hl => ?_)
  refine zloop (σ := Nat) (fun q H locs ls => (q ≤ mC w t ∧ ∀ j, j < q → mK w (400 * t + j) < k) ∧ va_P (dC, dI) vwCl (wM g cI w) H ∧ va_S (fun q : Nat => s.heap.size ≤ q) s.heap H locs ∧ lv_has ls 4 [(0, .ref (g 0)), (1, .int (nI t)), (2, .int k), (3, .int (nI (400 * t + q)))]) (fun q => mC w t - q) ?_ 0 ⟨⟨Nat.zero_le _, fun j h => absurd h (Nat.not_lt_zero _)⟩, hP, hS, lv_sub hl [1, 2, 3, 0] rfl⟩
  rintro q H locs ls ⟨⟨h1, h2⟩, hP, hS, hl⟩ ih
  refine lv_iload_n hx hb dX2_place_6 rfl (lv_at hl 3 rfl) ?_
  refine lv_sipush (v := nI 400) hx hb dX2_place_7 (by decide) ?_
  refine lv_iload_n hx hb dX2_place_10 rfl (lv_at hl 1 rfl) ?_
  refine lv_imul hx hb dX2_place_11 ?_
  refine zt (y := nI (400 * t)) (pk_mul _ _) ?_
  refine lv_aload_n hx hb dX2_place_12 rfl (lv_at hl 0 rfl) ?_
  refine va_get (D := (dC, dI)) (ci := 2) (v := .ref (g 4)) (C := RX2) (T := TX2) (N := 6) hx hb hts (by decide +kernel) hown hK hP 0 rfl rfl 3 (by decide) (hts (.fieldLink RX2 19 "RevisionTreeModel" "count" "[I") (by decide +kernel)) (fun _ h9 => h9) rfl dX2_place_13 ?_
  refine lv_iload_n hx hb dX2_place_16 rfl (lv_at hl 1 rfl) ?_
  refine zrdN hx hb hK hP 4 0 rfl rfl (j := t) (by omega) (by decide) dX2_place_17 ?_
  refine lv_iadd hx hb dX2_place_18 ?_
  refine zt (y := nI ((400 * t) + (mC w t))) (nI_add _ _) ?_
  refine zge (tgt := 38) hx hb dX2_place_19 (by decide) (by omega) (by omega) (fun h_19 => ?_) (fun h_19 => ?_)
  · refine lv_iload_n hx hb dX2_place_38 rfl (lv_at hl 3 rfl) ?_
    exact W.iret (v := nI (400 * t + q)) hx hb hr (fun t9 ht9 hW9 => ⟨⟨_, (), rfl, congrArg (fun x => nI (400 * t + x)) (isPl_pl (show isPl (mC w t) (fun j => mK w (400 * t + j)) k q from ⟨h1, h2, fun z => absurd z (by omega)⟩)), trivial⟩, hS.F ht9⟩) hS.2.2 dX2_place_39
  · refine lv_aload_n hx hb dX2_place_22 rfl (lv_at hl 0 rfl) ?_
    refine va_get (D := (dC, dI)) (ci := 2) (v := .ref (g 1)) (C := RX2) (T := TX2) (N := 6) hx hb hts (by decide +kernel) hown hK hP 0 rfl rfl 0 (by decide) (hts (.fieldLink RX2 9 "RevisionTreeModel" "key" "[I") (by decide +kernel)) (fun _ h9 => h9) rfl dX2_place_23 ?_
    refine lv_iload_n hx hb dX2_place_26 rfl (lv_at hl 3 rfl) ?_
    refine zrdN hx hb hK hP 1 0 rfl rfl (j := 400 * t + q) (by omega) (by decide) dX2_place_27 ?_
    refine lv_iload_n hx hb dX2_place_28 rfl (lv_at hl 2 rfl) ?_
    refine lv_icmp_ge (tgt := 38) hx hb dX2_place_29 (by decide) (fun h_29 => ?_) (fun h_29 => ?_)
    · refine lv_iload_n hx hb dX2_place_38 rfl (lv_at hl 3 rfl) ?_
      exact W.iret (v := nI (400 * t + q)) hx hb hr (fun t9 ht9 hW9 => ⟨⟨_, (), rfl, congrArg (fun x => nI (400 * t + x)) (isPl_pl (show isPl (mC w t) (fun j => mK w (400 * t + j)) k q from ⟨h1, h2, fun _ => i_nl h_29⟩)), trivial⟩, hS.F ht9⟩) hS.2.2 dX2_place_39
    · refine lv_iinc (v := nI ((400 * t + q) + 1)) (lv' := [(3, .int (nI ((400 * t + q) + 1))), (0, .ref (g 0)), (1, .int (nI t)), (2, .int k)]) hx hb dX2_place_32 hl (k := 3) rfl (zinc _) (by decide) rfl (fun ls hl => ?_)
      refine lv_goto (tgt := 6) hx hb dX2_place_35 (by decide) ?_
      exact ih (q + 1) _ _ _ ⟨⟨by omega, lt_s h2 (i_lt h_29)⟩, hP, hS, lv_sub hl [1, 2, 3, 0] rfl⟩ (by show mC w t - (q + 1) < mC w t - q; omega)
set_option maxHeartbeats 4000000 in
set_option maxRecDepth 100000 in
/-- is -/
theorem c_Model_is (l : Launch) (dC : Nat → ClassId) (dI : Nat → Nat → Nat) (cI cT : ClassId) (g : Nat → Nat) (w : MS) (t q : Nat) (k : Int32) (sz : Nat) (ht : t < 4) (hle : ∀ t, t < 4 → mC w t ≤ 400) (hq : q ≤ 400) : Met l yX2_is wsX2_is ({ frames := 0, cells := 0, slots := 0, locals := 0 }) (va_Pc [.ref (g 0), .int (nI t), .int (nI (400 * t + q)), .int k] (zPW (dC, dI) vwCl cI cT (wM g cI w) sz)) (zQi sz (bz (q < mC w t ∧ mK w (400 * t + q) = k))) 0 0 (zfr sz) := by
  refine Met.ofW (cc := cX2_is) (maxL := 4) (ret := (some .boolean)) (by decide) rfl ?_
  intro p e s m args below meth c s₁ B hml hv
  obtain ⟨rfl, hsz, hP, hK, hD0⟩ := hv
  have hx := B.exec
  have hb := B.bytes
  have hr := B.returns
  have hts := atoms_spec (ws := wsX2_is) B.pre
  have hown : s.vm.findClass RX2 = some m.cls := findClass_of_methodNamed B.named
  have hlocks := B.notSynchronized
  subst hsz
  have hA : ∀ q : Nat, s.heap.size ≤ q → (fun q : Nat => s.heap.size ≤ q) q := fun _ h => h
  have hS : va_S (fun q : Nat => s.heap.size ≤ q) s.heap s.heap [] := va_S.rf
  have hD := hD0
  have hl := lv_entry ([.ref (g 0), .int (nI t), .int (nI (400 * t + q)), .int k]) (n := 4) (Nat.le_of_ble_eq_true rfl)
  rw [lg_entry_eq]
  generalize (lg_sl ([.ref (g 0), .int (nI t), .int (nI (400 * t + q)), .int k]) ++ List.replicate (4 - (lg_sl ([.ref (g 0), .int (nI t), .int (nI (400 * t + q)), .int k])).length) Slot.unset).toArray = ls at hl ⊢
  have hl : lv_has ls 4 [(0, .ref (g 0)), (1, .int (nI t)), (2, .int (nI (400 * t + q))), (3, .int k)] := hl
  have hct : mC w t ≤ 400 := hle t ht
  refine lv_iload_n hx hb dX2_is_0 rfl (lv_at hl 2 rfl) ?_
  refine lv_sipush (v := nI 400) hx hb dX2_is_1 (by decide) ?_
  refine lv_iload_n hx hb dX2_is_4 rfl (lv_at hl 1 rfl) ?_
  refine lv_imul hx hb dX2_is_5 ?_
  refine zt (y := nI (400 * t)) (pk_mul _ _) ?_
  refine lv_aload_n hx hb dX2_is_6 rfl (lv_at hl 0 rfl) ?_
  refine va_get (D := (dC, dI)) (ci := 2) (v := .ref (g 4)) (C := RX2) (T := TX2) (N := 6) hx hb hts (by decide +kernel) hown hK hP 0 rfl rfl 3 (by decide) (hts (.fieldLink RX2 19 "RevisionTreeModel" "count" "[I") (by decide +kernel)) (fun _ h9 => h9) rfl dX2_is_7 ?_
  refine lv_iload_n hx hb dX2_is_10 rfl (lv_at hl 1 rfl) ?_
  refine zrdN hx hb hK hP 4 0 rfl rfl (j := t) (by omega) (by decide) dX2_is_11 ?_
  refine lv_iadd hx hb dX2_is_12 ?_
  refine zt (y := nI ((400 * t) + (mC w t))) (nI_add _ _) ?_
  refine zge (tgt := 30) hx hb dX2_is_13 (by decide) (by omega) (by omega) (fun h_13 => ?_) (fun h_13 => ?_)
  · refine lv_iconst (v := nI 0) hx hb dX2_is_30 (by decide) ?_
    exact W.zret (v := nI 0) hx hb hr rfl (fun t9 ht9 hW9 => ⟨⟨_, (), rfl, (bz_f (fun z => absurd z.1 (by omega))).symm, trivial⟩, hS.F ht9⟩) hS.2.2 dX2_is_31
  · refine lv_aload_n hx hb dX2_is_16 rfl (lv_at hl 0 rfl) ?_
    refine va_get (D := (dC, dI)) (ci := 2) (v := .ref (g 1)) (C := RX2) (T := TX2) (N := 6) hx hb hts (by decide +kernel) hown hK hP 0 rfl rfl 0 (by decide) (hts (.fieldLink RX2 9 "RevisionTreeModel" "key" "[I") (by decide +kernel)) (fun _ h9 => h9) rfl dX2_is_17 ?_
    refine lv_iload_n hx hb dX2_is_20 rfl (lv_at hl 2 rfl) ?_
    refine zrdN hx hb hK hP 1 0 rfl rfl (j := 400 * t + q) (by omega) (by decide) dX2_is_21 ?_
    refine lv_iload_n hx hb dX2_is_22 rfl (lv_at hl 3 rfl) ?_
    refine lv_icmp_ne (tgt := 30) hx hb dX2_is_23 (by decide) (fun h_23 => ?_) (fun h_23 => ?_)
    · refine lv_iconst (v := nI 0) hx hb dX2_is_30 (by decide) ?_
      exact W.zret (v := nI 0) hx hb hr rfl (fun t9 ht9 hW9 => ⟨⟨_, (), rfl, (bz_f (fun z => h_23 z.2)).symm, trivial⟩, hS.F ht9⟩) hS.2.2 dX2_is_31
    · refine lv_iconst (v := nI 1) hx hb dX2_is_26 (by decide) ?_
      refine lv_goto (tgt := 31) hx hb dX2_is_27 (by decide) ?_
      exact W.zret (v := nI 1) hx hb hr rfl (fun t9 ht9 hW9 => ⟨⟨_, (), rfl, (bz_t ⟨by omega, h_23⟩).symm, trivial⟩, hS.F ht9⟩) hS.2.2 dX2_is_31
