set_option maxHeartbeats 4000000 in
set_option maxRecDepth 100000 in
/-- placeOf: the first place whose key is not below k -/
theorem c_Table_placeOf (l : Launch) (dC : Nat → ClassId) (dI : Nat → Nat → Nat) (cI cT : ClassId) (u0 u1 u2 u3 : Nat) (T : TB) (k : Int32) (sz : Nat) (hok : okT T) : Met l yX0_placeOf wsX0_placeOf ({ frames := 0, cells := 0, slots := 0, locals := 0 }) (va_Pc [.ref u0, .int k] (zPW (dC, dI) vwCl cI cT (wT u0 u1 u2 u3 cI T) sz)) (zQi sz (nI (tPl T k))) 0 0 (zfr sz) := by
  refine Met.ofW (cc := cX0_placeOf) (maxL := 5) (ret := (some .int)) (by decide) rfl ?_
  intro p e s m args below meth c s₁ B hml hv
  obtain ⟨rfl, hsz, hP, hK, hD0⟩ := hv
  have hx := B.exec
  have hb := B.bytes
  have hr := B.returns
  have hts := atoms_spec (ws := wsX0_placeOf) B.pre
  have hown : s.vm.findClass RX0 = some m.cls := findClass_of_methodNamed B.named
  have hlocks := B.notSynchronized
  subst hsz
  have hA : ∀ q : Nat, s.heap.size ≤ q → (fun q : Nat => s.heap.size ≤ q) q := fun _ h => h
  have hS : va_S (fun q : Nat => s.heap.size ≤ q) s.heap s.heap [] := va_S.rf
  have hD := hD0
  have hl := lv_entry ([.ref u0, .int k]) (n := 5) (Nat.le_of_ble_eq_true rfl)
  rw [lg_entry_eq]
  generalize (lg_sl ([.ref u0, .int k]) ++ List.replicate (5 - (lg_sl ([.ref u0, .int k])).length) Slot.unset).toArray = ls at hl ⊢
  have hl : lv_has ls 5 [(0, .ref u0), (1, .int k)] := hl
  obtain ⟨hn, hs⟩ := id hok
  refine lv_iconst (v := nI 0) hx hb dX0_placeOf_0 (by decide) ?_
  refine lv_istore_n (lv' := [(2, .int (nI 0)), (0, .ref u0), (1, .int k)]) hx hb dX0_placeOf_1 rfl hl (by decide) rfl (fun ls hl => ?_)
  refine lv_aload_n hx hb dX0_placeOf_2 rfl (lv_at hl 1 rfl) ?_
  refine va_get (D := (dC, dI)) (ci := 0) (v := .int (nI T.1)) (C := RX0) (T := TX0) (N := 4) hx hb hts (by decide +kernel) hown hK hP 0 rfl rfl 3 (by decide) (hts (.fieldLink RX0 21 "RevisionTree$Table" "held" "I") (by decide +kernel)) (fun _ h9 => h9) rfl dX0_placeOf_3 ?_
  refine lv_istore_n (lv' := [(3, .int (nI T.1)), (2, .int (nI 0)), (0, .ref u0), (1, .int k)]) hx hb dX0_placeOf_6 rfl hl (by decide) rfl (fun ls hl => ?_)
  refine zloop (σ := Nat × Nat) (fun x H locs ls => match x with | (lo, hi) => (lo ≤ hi ∧ hi ≤ T.1 ∧ (∀ j, j < lo → T.2.1 j < k) ∧ (∀ j, hi ≤ j → j < T.1 → ¬ T.2.1 j < k)) ∧ va_P (dC, dI) vwCl (wT u0 u1 u2 u3 cI T) H ∧ va_S (fun q : Nat => s.heap.size ≤ q) s.heap H locs ∧ lv_has ls 5 [(0, .ref u0), (1, .int k), (2, .int (nI lo)), (3, .int (nI hi))]) (fun x => x.2 - x.1) ?_ (0, T.1) ⟨⟨Nat.zero_le _, Nat.le_refl _, fun j h => absurd h (Nat.not_lt_zero _), fun j h1 h2 => absurd h2 (by omega)⟩, hP, hS, lv_sub hl [2, 3, 1, 0] rfl⟩
  rintro ⟨lo, hi⟩ H locs ls ⟨⟨h1, h2, h3, h4⟩, hP, hS, hl⟩ ih
  refine lv_iload_n hx hb dX0_placeOf_7 rfl (lv_at hl 2 rfl) ?_
  refine lv_iload_n hx hb dX0_placeOf_8 rfl (lv_at hl 3 rfl) ?_
  refine zge (tgt := 44) hx hb dX0_placeOf_9 (by decide) (by omega) (by omega) (fun h_9 => ?_) (fun h_9 => ?_)
  · refine lv_iload_n hx hb dX0_placeOf_44 rfl (lv_at hl 2 rfl) ?_
    exact W.iret (v := nI lo) hx hb hr (fun t9 ht9 hW9 => ⟨⟨_, (), rfl, congrArg nI (isPl_pl ⟨by omega, h3, fun q => h4 lo (by omega) q⟩), trivial⟩, hS.F ht9⟩) hS.2.2 dX0_placeOf_45
  · refine lv_iload_n hx hb dX0_placeOf_12 rfl (lv_at hl 2 rfl) ?_
    refine lv_iload_n hx hb dX0_placeOf_13 rfl (lv_at hl 3 rfl) ?_
    refine lv_iadd hx hb dX0_placeOf_14 ?_
    refine zt (y := nI (lo + hi)) (nI_add _ _) ?_
    refine lv_iconst (v := nI 2) hx hb dX0_placeOf_15 (by decide) ?_
    refine lv_idiv hx hb dX0_placeOf_16 (by decide) ?_
    refine zt (y := nI ((lo + hi) / 2)) (pk_div (by omega) (by omega) (by omega)) ?_
    refine lv_istore (lv' := [(4, .int (nI ((lo + hi) / 2))), (0, .ref u0), (1, .int k), (2, .int (nI lo)), (3, .int (nI hi))]) hx hb dX0_placeOf_17 hl (by decide) rfl (fun ls hl => ?_)
    refine lv_aload_n hx hb dX0_placeOf_19 rfl (lv_at hl 1 rfl) ?_
    refine va_get (D := (dC, dI)) (ci := 0) (v := .ref u1) (C := RX0) (T := TX0) (N := 4) hx hb hts (by decide +kernel) hown hK hP 0 rfl rfl 0 (by decide) (hts (.fieldLink RX0 9 "RevisionTree$Table" "keys" "[I") (by decide +kernel)) (fun _ h9 => h9) rfl dX0_placeOf_20 ?_
    refine lv_iload hx hb dX0_placeOf_23 (lv_at hl 0 rfl) ?_
    refine zrdN hx hb hK hP 1 0 rfl rfl (j := (lo + hi) / 2) (by omega) (by decide) dX0_placeOf_25 ?_
    refine lv_iload_n hx hb dX0_placeOf_26 rfl (lv_at hl 2 rfl) ?_
    refine lv_icmp_ge (tgt := 38) hx hb dX0_placeOf_27 (by decide) (fun h_27 => ?_) (fun h_27 => ?_)
    · refine lv_iload hx hb dX0_placeOf_38 (lv_at hl 0 rfl) ?_
      refine lv_istore_n (lv' := [(3, .int (nI ((lo + hi) / 2))), (4, .int (nI ((lo + hi) / 2))), (0, .ref u0), (1, .int k), (2, .int (nI lo))]) hx hb dX0_placeOf_40 rfl hl (by decide) rfl (fun ls hl => ?_)
      refine lv_goto (tgt := 7) hx hb dX0_placeOf_41 (by decide) ?_
      exact ih (lo, (lo + hi) / 2) _ _ _ ⟨⟨by omega, by omega, h3, bs_hi hs h_27⟩, hP, hS, lv_sub hl [2, 3, 4, 0] rfl⟩ (by show ((lo + hi) / 2) - lo < hi - lo; omega)
    · refine lv_iload hx hb dX0_placeOf_30 (lv_at hl 0 rfl) ?_
      refine lv_iconst (v := nI 1) hx hb dX0_placeOf_32 (by decide) ?_
      refine lv_iadd hx hb dX0_placeOf_33 ?_
      refine zt (y := nI (((lo + hi) / 2) + 1)) (nI_add _ _) ?_
      refine lv_istore_n (lv' := [(2, .int (nI (((lo + hi) / 2) + 1))), (4, .int (nI ((lo + hi) / 2))), (0, .ref u0), (1, .int k), (3, .int (nI hi))]) hx hb dX0_placeOf_34 rfl hl (by decide) rfl (fun ls hl => ?_)
      refine lv_goto (tgt := 41) hx hb dX0_placeOf_35 (by decide) ?_
      refine lv_goto (tgt := 7) hx hb dX0_placeOf_41 (by decide) ?_
      exact ih (((lo + hi) / 2) + 1, hi) _ _ _ ⟨⟨by omega, h2, bs_lo hs (by omega) h_27, h4⟩, hP, hS, lv_sub hl [2, 3, 0, 4] rfl⟩ (by show hi - (((lo + hi) / 2) + 1) < hi - lo; omega)
set_option maxHeartbeats 4000000 in
set_option maxRecDepth 100000 in
/-- hasAt: the key stands at that place -/
theorem c_Table_hasAt (l : Launch) (dC : Nat → ClassId) (dI : Nat → Nat → Nat) (cI cT : ClassId) (u0 u1 u2 u3 : Nat) (T : TB) (i : Nat) (k : Int32) (sz : Nat) (hn : T.1 ≤ 400) (hi : i ≤ 400) : Met l yX0_hasAt wsX0_hasAt ({ frames := 0, cells := 0, slots := 0, locals := 0 }) (va_Pc [.ref u0, .int (nI i), .int k] (zPW (dC, dI) vwCl cI cT (wT u0 u1 u2 u3 cI T) sz)) (zQi sz (bz (i < T.1 ∧ T.2.1 i = k))) 0 0 (zfr sz) := by
  refine Met.ofW (cc := cX0_hasAt) (maxL := 3) (ret := (some .boolean)) (by decide) rfl ?_
  intro p e s m args below meth c s₁ B hml hv
  obtain ⟨rfl, hsz, hP, hK, hD0⟩ := hv
  have hx := B.exec
  have hb := B.bytes
  have hr := B.returns
  have hts := atoms_spec (ws := wsX0_hasAt) B.pre
  have hown : s.vm.findClass RX0 = some m.cls := findClass_of_methodNamed B.named
  have hlocks := B.notSynchronized
  subst hsz
  have hA : ∀ q : Nat, s.heap.size ≤ q → (fun q : Nat => s.heap.size ≤ q) q := fun _ h => h
  have hS : va_S (fun q : Nat => s.heap.size ≤ q) s.heap s.heap [] := va_S.rf
  have hD := hD0
  have hl := lv_entry ([.ref u0, .int (nI i), .int k]) (n := 3) (Nat.le_of_ble_eq_true rfl)
  rw [lg_entry_eq]
  generalize (lg_sl ([.ref u0, .int (nI i), .int k]) ++ List.replicate (3 - (lg_sl ([.ref u0, .int (nI i), .int k])).length) Slot.unset).toArray = ls at hl ⊢
  have hl : lv_has ls 3 [(0, .ref u0), (1, .int (nI i)), (2, .int k)] := hl
  refine lv_iload_n hx hb dX0_hasAt_0 rfl (lv_at hl 1 rfl) ?_
  refine lv_aload_n hx hb dX0_hasAt_1 rfl (lv_at hl 0 rfl) ?_
  refine va_get (D := (dC, dI)) (ci := 0) (v := .int (nI T.1)) (C := RX0) (T := TX0) (N := 4) hx hb hts (by decide +kernel) hown hK hP 0 rfl rfl 3 (by decide) (hts (.fieldLink RX0 21 "RevisionTree$Table" "held" "I") (by decide +kernel)) (fun _ h9 => h9) rfl dX0_hasAt_2 ?_
  refine zge (tgt := 22) hx hb dX0_hasAt_5 (by decide) (by omega) (by omega) (fun h_5 => ?_) (fun h_5 => ?_)
  · refine lv_iconst (v := nI 0) hx hb dX0_hasAt_22 (by decide) ?_
    exact W.zret (v := nI 0) hx hb hr rfl (fun t9 ht9 hW9 => ⟨⟨_, (), rfl, (bz_f (fun q => absurd q.1 (by omega))).symm, trivial⟩, hS.F ht9⟩) hS.2.2 dX0_hasAt_23
  · refine lv_aload_n hx hb dX0_hasAt_8 rfl (lv_at hl 0 rfl) ?_
    refine va_get (D := (dC, dI)) (ci := 0) (v := .ref u1) (C := RX0) (T := TX0) (N := 4) hx hb hts (by decide +kernel) hown hK hP 0 rfl rfl 0 (by decide) (hts (.fieldLink RX0 9 "RevisionTree$Table" "keys" "[I") (by decide +kernel)) (fun _ h9 => h9) rfl dX0_hasAt_9 ?_
    refine lv_iload_n hx hb dX0_hasAt_12 rfl (lv_at hl 1 rfl) ?_
    refine zrdN hx hb hK hP 1 0 rfl rfl (j := i) (by omega) (by decide) dX0_hasAt_13 ?_
    refine lv_iload_n hx hb dX0_hasAt_14 rfl (lv_at hl 2 rfl) ?_
    refine lv_icmp_ne (tgt := 22) hx hb dX0_hasAt_15 (by decide) (fun h_15 => ?_) (fun h_15 => ?_)
    · refine lv_iconst (v := nI 0) hx hb dX0_hasAt_22 (by decide) ?_
      exact W.zret (v := nI 0) hx hb hr rfl (fun t9 ht9 hW9 => ⟨⟨_, (), rfl, (bz_f (fun q => h_15 q.2)).symm, trivial⟩, hS.F ht9⟩) hS.2.2 dX0_hasAt_23
    · refine lv_iconst (v := nI 1) hx hb dX0_hasAt_18 (by decide) ?_
      refine lv_goto (tgt := 23) hx hb dX0_hasAt_19 (by decide) ?_
      exact W.zret (v := nI 1) hx hb hr rfl (fun t9 ht9 hW9 => ⟨⟨_, (), rfl, (bz_t ⟨h_5, h_15⟩).symm, trivial⟩, hS.F ht9⟩) hS.2.2 dX0_hasAt_23
set_option maxHeartbeats 4000000 in
set_option maxRecDepth 100000 in
/-- placeAbove: the first place whose key is above k -/
theorem c_Table_placeAbove (l : Launch) (dC : Nat → ClassId) (dI : Nat → Nat → Nat) (cI cT : ClassId) (u0 u1 u2 u3 : Nat) (T : TB) (k : Int32) (sz : Nat) (hok : okT T) : Met l yX0_placeAbove wsX0_placeAbove ({ frames := 1, cells := 0, slots := 0, locals := 24 }) (va_Pc [.ref u0, .int k] (zPW (dC, dI) vwCl cI cT (wT u0 u1 u2 u3 cI T) sz)) (zQi sz (nI (tAb T k))) 0 0 (zfr sz) := by
  refine Met.ofW (cc := cX0_placeAbove) (maxL := 3) (ret := (some .int)) (by decide) rfl ?_
  intro p e s m args below meth c s₁ B hml hv
  obtain ⟨rfl, hsz, hP, hK, hD0⟩ := hv
  have hx := B.exec
  have hb := B.bytes
  have hr := B.returns
  have hts := atoms_spec (ws := wsX0_placeAbove) B.pre
  have hown : s.vm.findClass RX0 = some m.cls := findClass_of_methodNamed B.named
  have hlocks := B.notSynchronized
  subst hsz
  have hA : ∀ q : Nat, s.heap.size ≤ q → (fun q : Nat => s.heap.size ≤ q) q := fun _ h => h
  have hS : va_S (fun q : Nat => s.heap.size ≤ q) s.heap s.heap [] := va_S.rf
  have hD := hD0
  have hl := lv_entry ([.ref u0, .int k]) (n := 3) (Nat.le_of_ble_eq_true rfl)
  rw [lg_entry_eq]
  generalize (lg_sl ([.ref u0, .int k]) ++ List.replicate (3 - (lg_sl ([.ref u0, .int k])).length) Slot.unset).toArray = ls at hl ⊢
  have hl : lv_has ls 3 [(0, .ref u0), (1, .int k)] := hl
  obtain ⟨hn, hs⟩ := id hok
  have hpl : tPl T k ≤ T.1 := pl_le _ _ _
  refine lv_aload_n hx hb dX0_placeAbove_0 rfl (lv_at hl 0 rfl) ?_
  refine lv_iload_n hx hb dX0_placeAbove_1 rfl (lv_at hl 1 rfl) ?_
  refine zroi (va_runV (As := [.int k]) (rest := []) ⟨hx, hb, hml, hown, hts⟩ (c_Table_placeOf l dC dI cI cT u0 u1 u2 u3 T k s.heap.size hok) (cwV 1 hts gX0_placeAbove_X0_placeOf rfl rfl rfl (by decide +kernel) ⟨Nat.le_of_ble_eq_true rfl, Nat.le_of_ble_eq_true rfl⟩) (zpreV hK hP hD rfl 0 rfl) rfl rfl hl.1 rfl (lv_room (Nat.le_of_ble_eq_true rfl)) dX0_placeAbove_2 ⟨Nat.le_of_ble_eq_true rfl, Nat.le_of_ble_eq_true rfl⟩) hP hS hA (fun H locs hP hS => ?_)
  refine lv_istore_n (lv' := [(2, .int (nI (tPl T k))), (0, .ref u0), (1, .int k)]) hx hb dX0_placeAbove_5 rfl hl (by decide) rfl (fun ls hl => ?_)
  refine lv_aload_n hx hb dX0_placeAbove_6 rfl (lv_at hl 1 rfl) ?_
  refine lv_iload_n hx hb dX0_placeAbove_7 rfl (lv_at hl 0 rfl) ?_
  refine lv_iload_n hx hb dX0_placeAbove_8 rfl (lv_at hl 2 rfl) ?_
  refine zroi (va_runV (As := [.int (nI (tPl T k)), .int k]) (rest := []) ⟨hx, hb, hml, hown, hts⟩ (c_Table_hasAt l dC dI cI cT u0 u1 u2 u3 T (tPl T k) k H.size hn (by omega)) (cwV 2 hts gX0_placeAbove_X0_hasAt rfl rfl rfl (by decide +kernel) ⟨Nat.le_of_ble_eq_true rfl, Nat.le_of_ble_eq_true rfl⟩) (zpreV hK hP hD rfl 0 rfl) rfl rfl hl.1 rfl (lv_room (Nat.le_of_ble_eq_true rfl)) dX0_placeAbove_9 ⟨Nat.le_of_ble_eq_true rfl, Nat.le_of_ble_eq_true rfl⟩) hP hS hA (fun H locs hP hS => ?_)
  refine zifeq (tgt := 21) hx hb dX0_placeAbove_12 (by decide) (fun h_12 => ?_) (fun h_12 => ?_)
  · refine lv_iload_n hx hb dX0_placeAbove_21 rfl (lv_at hl 0 rfl) ?_
    exact W.iret (v := nI (tPl T k)) hx hb hr (fun t9 ht9 hW9 => ⟨⟨_, (), rfl, congrArg nI (show tPl T k = tAb T k from (if_neg h_12).symm), trivial⟩, hS.F ht9⟩) hS.2.2 dX0_placeAbove_22
  · refine lv_iload_n hx hb dX0_placeAbove_15 rfl (lv_at hl 0 rfl) ?_
    refine lv_iconst (v := nI 1) hx hb dX0_placeAbove_16 (by decide) ?_
    refine lv_iadd hx hb dX0_placeAbove_17 ?_
    refine zt (y := nI ((tPl T k) + 1)) (nI_add _ _) ?_
    refine lv_goto (tgt := 22) hx hb dX0_placeAbove_18 (by decide) ?_
    exact W.iret (v := nI ((tPl T k) + 1)) hx hb hr (fun t9 ht9 hW9 => ⟨⟨_, (), rfl, congrArg nI (show tPl T k + 1 = tAb T k from (if_pos h_12).symm), trivial⟩, hS.F ht9⟩) hS.2.2 dX0_placeAbove_22
set_option maxHeartbeats 4000000 in
set_option maxRecDepth 100000 in
/-- fold: the digest of the table -/
theorem c_Table_fold (l : Launch) (dC : Nat → ClassId) (dI : Nat → Nat → Nat) (cI cT : ClassId) (u0 u1 u2 u3 : Nat) (T : TB) (sz : Nat) (hn : T.1 ≤ 400) : Met l yX0_fold wsX0_fold ({ frames := 0, cells := 0, slots := 0, locals := 0 }) (va_Pc [.ref u0] (zPW (dC, dI) vwCl cI cT (wT u0 u1 u2 u3 cI T) sz)) (zQi sz (tDg T)) 0 0 (zfr sz) := by
  refine Met.ofW (cc := cX0_fold) (maxL := 3) (ret := (some .int)) (by decide) rfl ?_
  intro p e s m args below meth c s₁ B hml hv
  obtain ⟨rfl, hsz, hP, hK, hD0⟩ := hv
  have hx := B.exec
  have hb := B.bytes
  have hr := B.returns
  have hts := atoms_spec (ws := wsX0_fold) B.pre
  have hown : s.vm.findClass RX0 = some m.cls := findClass_of_methodNamed B.named
  have hlocks := B.notSynchronized
  subst hsz
  have hA : ∀ q : Nat, s.heap.size ≤ q → (fun q : Nat => s.heap.size ≤ q) q := fun _ h => h
  have hS : va_S (fun q : Nat => s.heap.size ≤ q) s.heap s.heap [] := va_S.rf
  have hD := hD0
  have hl := lv_entry ([.ref u0]) (n := 3) (Nat.le_of_ble_eq_true rfl)
  rw [lg_entry_eq]
  generalize (lg_sl ([.ref u0]) ++ List.replicate (3 - (lg_sl ([.ref u0])).length) Slot.unset).toArray = ls at hl ⊢
  have hl : lv_has ls 3 [(0, .ref u0)] := hl
  refine lv_iconst (v := nI 0) hx hb dX0_fold_0 (by decide) ?_
  refine lv_istore_n (lv' := [(1, .int (nI 0)), (0, .ref u0)]) hx hb dX0_fold_1 rfl hl (by decide) rfl (fun ls hl => ?_)
  refine lv_iconst (v := nI 0) hx hb dX0_fold_2 (by decide) ?_
  refine lv_istore_n (lv' := [(2, .int (nI 0)), (1, .int (nI 0)), (0, .ref u0)]) hx hb dX0_fold_3 rfl hl (by decide) rfl (fun ls hl => ?_)
  refine zloop (σ := Nat) (fun i H locs ls => i ≤ T.1 ∧ va_P (dC, dI) vwCl (wT u0 u1 u2 u3 cI T) H ∧ va_S (fun q : Nat => s.heap.size ≤ q) s.heap H locs ∧ lv_has ls 3 [(0, .ref u0), (1, .int (dgF T.2.1 T.2.2.1 T.2.2.2 i)), (2, .int (nI i))]) (fun i => T.1 - i) ?_ 0 ⟨Nat.zero_le _, hP, hS, lv_sub hl [2, 1, 0] rfl⟩
  rintro i H locs ls ⟨h1, hP, hS, hl⟩ ih
  refine lv_iload_n hx hb dX0_fold_4 rfl (lv_at hl 2 rfl) ?_
  refine lv_aload_n hx hb dX0_fold_5 rfl (lv_at hl 0 rfl) ?_
  refine va_get (D := (dC, dI)) (ci := 0) (v := .int (nI T.1)) (C := RX0) (T := TX0) (N := 4) hx hb hts (by decide +kernel) hown hK hP 0 rfl rfl 3 (by decide) (hts (.fieldLink RX0 21 "RevisionTree$Table" "held" "I") (by decide +kernel)) (fun _ h9 => h9) rfl dX0_fold_6 ?_
  refine zge (tgt := 49) hx hb dX0_fold_9 (by decide) (by omega) (by omega) (fun h_9 => ?_) (fun h_9 => ?_)
  · refine lv_iload_n hx hb dX0_fold_49 rfl (lv_at hl 1 rfl) ?_
    have ei : i = T.1 := by omega
    exact W.iret (v := dgF T.2.1 T.2.2.1 T.2.2.2 i) hx hb hr (fun t9 ht9 hW9 => ⟨⟨_, (), rfl, by rw [ei]; rfl, trivial⟩, hS.F ht9⟩) hS.2.2 dX0_fold_50
  · refine lv_iload_n hx hb dX0_fold_12 rfl (lv_at hl 1 rfl) ?_
    refine lv_bipush (v := nI 31) hx hb dX0_fold_13 (by decide) ?_
    refine lv_imul hx hb dX0_fold_15 ?_
    refine lv_aload_n hx hb dX0_fold_16 rfl (lv_at hl 0 rfl) ?_
    refine va_get (D := (dC, dI)) (ci := 0) (v := .ref u1) (C := RX0) (T := TX0) (N := 4) hx hb hts (by decide +kernel) hown hK hP 0 rfl rfl 0 (by decide) (hts (.fieldLink RX0 9 "RevisionTree$Table" "keys" "[I") (by decide +kernel)) (fun _ h9 => h9) rfl dX0_fold_17 ?_
    refine lv_iload_n hx hb dX0_fold_20 rfl (lv_at hl 2 rfl) ?_
    refine zrdN hx hb hK hP 1 0 rfl rfl (j := i) (by omega) (by decide) dX0_fold_21 ?_
    refine lv_iadd hx hb dX0_fold_22 ?_
    refine lv_istore_n (lv' := [(1, .int (((dgF T.2.1 T.2.2.1 T.2.2.2 i) * (nI 31)) + (T.2.1 i))), (0, .ref u0), (2, .int (nI i))]) hx hb dX0_fold_23 rfl hl (by decide) rfl (fun ls hl => ?_)
    refine lv_iload_n hx hb dX0_fold_24 rfl (lv_at hl 0 rfl) ?_
    refine lv_bipush (v := nI 31) hx hb dX0_fold_25 (by decide) ?_
    refine lv_imul hx hb dX0_fold_27 ?_
    refine lv_aload_n hx hb dX0_fold_28 rfl (lv_at hl 1 rfl) ?_
    refine va_get (D := (dC, dI)) (ci := 0) (v := .ref u2) (C := RX0) (T := TX0) (N := 4) hx hb hts (by decide +kernel) hown hK hP 0 rfl rfl 1 (by decide) (hts (.fieldLink RX0 15 "RevisionTree$Table" "values" "[I") (by decide +kernel)) (fun _ h9 => h9) rfl dX0_fold_29 ?_
    refine lv_iload_n hx hb dX0_fold_32 rfl (lv_at hl 2 rfl) ?_
    refine zrdN hx hb hK hP 2 0 rfl rfl (j := i) (by omega) (by decide) dX0_fold_33 ?_
    refine lv_iadd hx hb dX0_fold_34 ?_
    refine lv_aload_n hx hb dX0_fold_35 rfl (lv_at hl 1 rfl) ?_
    refine va_get (D := (dC, dI)) (ci := 0) (v := .ref u3) (C := RX0) (T := TX0) (N := 4) hx hb hts (by decide +kernel) hown hK hP 0 rfl rfl 2 (by decide) (hts (.fieldLink RX0 18 "RevisionTree$Table" "sizes" "[I") (by decide +kernel)) (fun _ h9 => h9) rfl dX0_fold_36 ?_
    refine lv_iload_n hx hb dX0_fold_39 rfl (lv_at hl 2 rfl) ?_
    refine zrdN hx hb hK hP 3 0 rfl rfl (j := i) (by omega) (by decide) dX0_fold_40 ?_
    refine lv_iadd hx hb dX0_fold_41 ?_
    refine lv_istore_n (lv' := [(1, .int ((((((dgF T.2.1 T.2.2.1 T.2.2.2 i) * (nI 31)) + (T.2.1 i)) * (nI 31)) + (T.2.2.1 i)) + (T.2.2.2 i))), (0, .ref u0), (2, .int (nI i))]) hx hb dX0_fold_42 rfl hl (by decide) rfl (fun ls hl => ?_)
    refine lv_iinc (v := nI (i + 1)) (lv' := [(2, .int (nI (i + 1))), (1, .int ((((((dgF T.2.1 T.2.2.1 T.2.2.2 i) * (nI 31)) + (T.2.1 i)) * (nI 31)) + (T.2.2.1 i)) + (T.2.2.2 i))), (0, .ref u0)]) hx hb dX0_fold_43 hl (k := 2) rfl (zinc _) (by decide) rfl (fun ls hl => ?_)
    refine lv_goto (tgt := 4) hx hb dX0_fold_46 (by decide) ?_
    exact ih (i + 1) _ _ _ ⟨by omega, hP, hS, lv_sub hl [2, 1, 0] rfl⟩ (by show T.1 - (i + 1) < T.1 - i; omega)
