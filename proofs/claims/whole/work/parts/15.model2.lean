set_option maxHeartbeats 4000000 in
set_option maxRecDepth 100000 in
/-- get -/
theorem c_Model_get (l : Launch) (dC : Nat → ClassId) (dI : Nat → Nat → Nat) (cI cT : ClassId) (g : Nat → Nat) (w : MS) (r k : Int32) (sz : Nat) (L : Nat) (hok : okR L (view w)) (hL : L < 500000) : Met l yX2_get wsX2_get ({ frames := 1, cells := 0, slots := 0, locals := 23 }) (va_Pc [.ref (g 0), .int r, .int k] (zPW (dC, dI) vwCl cI cT (wM g cI w) sz)) (zQl sz (aGet (view w) r k)) 0 0 (zfr sz) := by
  refine Met.ofW (cc := cX2_get) (maxL := 5) (ret := (some .long)) (by decide) rfl ?_
  intro p e s m args below meth c s₁ B hml hv
  obtain ⟨rfl, hsz, hP, hK, hD0⟩ := hv
  have hx := B.exec
  have hb := B.bytes
  have hr := B.returns
  have hts := atoms_spec (ws := wsX2_get) B.pre
  have hown : s.vm.findClass RX2 = some m.cls := findClass_of_methodNamed B.named
  have hlocks := B.notSynchronized
  subst hsz
  have hA : ∀ q : Nat, s.heap.size ≤ q → (fun q : Nat => s.heap.size ≤ q) q := fun _ h => h
  have hS : va_S (fun q : Nat => s.heap.size ≤ q) s.heap s.heap [] := va_S.rf
  have hD := hD0
  have hl := lv_entry ([.ref (g 0), .int r, .int k]) (n := 5) (Nat.le_of_ble_eq_true rfl)
  rw [lg_entry_eq]
  generalize (lg_sl ([.ref (g 0), .int r, .int k]) ++ List.replicate (5 - (lg_sl ([.ref (g 0), .int r, .int k])).length) Slot.unset).toArray = ls at hl ⊢
  have hl : lv_has ls 5 [(0, .ref (g 0)), (1, .int r), (2, .int k)] := hl
  have hle : ∀ t, t < 4 → mC w t ≤ 400 := fun t ht => by have h9 := (hok.1 t ht).1; rw [view_t w ht] at h9; exact h9
  have hc3 : mC w 3 ≤ 400 := hle 3 (by decide)
  have hlat : mL w ≤ L := hok.2.2
  refine lv_aload_n hx hb dX2_get_0 rfl (lv_at hl 0 rfl) ?_
  refine lv_iload_n hx hb dX2_get_1 rfl (lv_at hl 1 rfl) ?_
  refine zroi (va_runV (As := [.int r]) (rest := []) ⟨hx, hb, hml, hown, hts⟩ (c_Model_table l dC dI cI cT g w r s.heap.size L hok hL) (cwV 1 hts gX2_get_X2_table rfl rfl rfl (by decide +kernel) ⟨Nat.le_of_ble_eq_true rfl, Nat.le_of_ble_eq_true rfl⟩) (zpreV hK hP hD rfl 0 rfl) rfl rfl hl.1 rfl (lv_room (Nat.le_of_ble_eq_true rfl)) dX2_get_2 ⟨Nat.le_of_ble_eq_true rfl, Nat.le_of_ble_eq_true rfl⟩) hP hS hA (fun H locs hP hS => ?_)
  by_cases h0 : aSt (view w) r = 0
  · rw [show mTb (view w) r = nI (aTb (view w) r) from if_pos h0]
    obtain ⟨t, et⟩ : ∃ t, t = aTb (view w) r := ⟨_, rfl⟩
    rw [← et]
    have ht : t < 4 := by rw [et]; exact aTb_lt _ _
    have hct : mC w t ≤ 400 := hle t ht
    have hpl : tPl (vT w t) k ≤ mC w t := pl_le _ _ _
    refine lv_istore_n (lv' := [(3, .int (nI t)), (0, .ref (g 0)), (1, .int r), (2, .int k)]) hx hb dX2_get_5 rfl hl (by decide) rfl (fun ls hl => ?_)
    refine lv_iload_n hx hb dX2_get_6 rfl (lv_at hl 0 rfl) ?_
    refine lv_if_ge (tgt := 17) hx hb dX2_get_7 (by decide) (fun h_7 => ?_) (fun h_7 => absurd (nI_pos' (by omega)) h_7)
    refine lv_aload_n hx hb dX2_get_17 rfl (lv_at hl 1 rfl) ?_
    refine lv_iload_n hx hb dX2_get_18 rfl (lv_at hl 0 rfl) ?_
    refine lv_iload_n hx hb dX2_get_19 rfl (lv_at hl 3 rfl) ?_
    refine zroi (va_runV (As := [.int (nI t), .int k]) (rest := []) ⟨hx, hb, hml, hown, hts⟩ (c_Model_place l dC dI cI cT g w t k H.size ht hle) (cwV 2 hts gX2_get_X2_place rfl rfl rfl (by decide +kernel) ⟨Nat.le_of_ble_eq_true rfl, Nat.le_of_ble_eq_true rfl⟩) (zpreV hK hP hD rfl 0 rfl) rfl rfl hl.1 rfl (lv_room (Nat.le_of_ble_eq_true rfl)) dX2_get_20 ⟨Nat.le_of_ble_eq_true rfl, Nat.le_of_ble_eq_true rfl⟩) hP hS hA (fun H locs hP hS => ?_)
    refine lv_istore (lv' := [(4, .int (nI (400 * t + tPl (vT w t) k))), (3, .int (nI t)), (0, .ref (g 0)), (1, .int r), (2, .int k)]) hx hb dX2_get_23 hl (by decide) rfl (fun ls hl => ?_)
    refine lv_aload_n hx hb dX2_get_25 rfl (lv_at hl 2 rfl) ?_
    refine lv_iload_n hx hb dX2_get_26 rfl (lv_at hl 1 rfl) ?_
    refine lv_iload hx hb dX2_get_27 (lv_at hl 0 rfl) ?_
    refine lv_iload_n hx hb dX2_get_29 rfl (lv_at hl 4 rfl) ?_
    refine zroi (va_runV (As := [.int (nI t), .int (nI (400 * t + tPl (vT w t) k)), .int k]) (rest := []) ⟨hx, hb, hml, hown, hts⟩ (c_Model_is l dC dI cI cT g w t (tPl (vT w t) k) k H.size ht hle (by omega)) (cwV 3 hts gX2_get_X2_is rfl rfl rfl (by decide +kernel) ⟨Nat.le_of_ble_eq_true rfl, Nat.le_of_ble_eq_true rfl⟩) (zpreV hK hP hD rfl 0 rfl) rfl rfl hl.1 rfl (lv_room (Nat.le_of_ble_eq_true rfl)) dX2_get_30 ⟨Nat.le_of_ble_eq_true rfl, Nat.le_of_ble_eq_true rfl⟩) hP hS hA (fun H locs hP hS => ?_)
    refine zifeq (tgt := 47) hx hb dX2_get_33 (by decide) (fun h_33 => ?_) (fun h_33 => ?_)
    · refine lv_ldc2 (v := 1099511627774) hx hb hown (hts (.constantLong RX2 51 1099511627774) (by decide +kernel)) dX2_get_47 ?_
      exact W.lret (v := 1099511627774) hx hb hr (fun t9 ht9 hW9 => ⟨⟨_, (), rfl, by unfold aGet; rw [if_pos h0, ← et, view_t w ht, if_neg (show ¬ tHas (vT w t) k from h_33)], trivial⟩, hS.F ht9⟩) hS.2.2 dX2_get_50
    · have hlt : tPl (vT w t) k < mC w t := h_33.1
      refine lv_aload_n hx hb dX2_get_36 rfl (lv_at hl 2 rfl) ?_
      refine va_get (D := (dC, dI)) (ci := 2) (v := .ref (g 2)) (C := RX2) (T := TX2) (N := 6) hx hb hts (by decide +kernel) hown hK hP 0 rfl rfl 1 (by decide) (hts (.fieldLink RX2 13 "RevisionTreeModel" "value" "[I") (by decide +kernel)) (fun _ h9 => h9) rfl dX2_get_37 ?_
      refine lv_iload hx hb dX2_get_40 (lv_at hl 0 rfl) ?_
      refine zrdN hx hb hK hP 2 0 rfl rfl (j := 400 * t + tPl (vT w t) k) (by omega) (by decide) dX2_get_42 ?_
      refine lv_i2l hx hb dX2_get_43 rfl ?_
      refine lv_goto (tgt := 50) hx hb dX2_get_44 (by decide) ?_
      exact W.lret (v := ((mV w) (400 * t + tPl (vT w t) k)).toInt64) hx hb hr (fun t9 ht9 hW9 => ⟨⟨_, (), rfl, by unfold aGet; rw [if_pos h0, ← et, view_t w ht, if_pos (show tHas (vT w t) k from h_33)]; rfl, trivial⟩, hS.F ht9⟩) hS.2.2 dX2_get_50
  · rw [show mTb (view w) r = aSt (view w) r from if_neg h0]
    refine lv_istore_n (lv' := [(3, .int (aSt (view w) r)), (0, .ref (g 0)), (1, .int r), (2, .int k)]) hx hb dX2_get_5 rfl hl (by decide) rfl (fun ls hl => ?_)
    refine lv_iload_n hx hb dX2_get_6 rfl (lv_at hl 0 rfl) ?_
    refine lv_if_ge (tgt := 17) hx hb dX2_get_7 (by decide) (fun h_7 => absurd h_7 (by rcases aSt_c h0 with q | q <;> rw [q] <;> decide)) (fun h_7 => ?_)
    refine lv_ldc2 (v := 1099511627776) hx hb hown (hts (.constantLong RX2 49 1099511627776) (by decide +kernel)) dX2_get_10 ?_
    refine lv_iload_n hx hb dX2_get_13 rfl (lv_at hl 0 rfl) ?_
    refine lv_i2l hx hb dX2_get_14 rfl ?_
    refine lv_ladd hx hb dX2_get_15 ?_
    exact W.lret (v := 1099511627776 + ((aSt (view w) r).toInt64)) hx hb hr (fun t9 ht9 hW9 => ⟨⟨_, (), rfl, (if_neg h0).symm, trivial⟩, hS.F ht9⟩) hS.2.2 dX2_get_16
set_option maxHeartbeats 4000000 in
set_option maxRecDepth 100000 in
/-- size -/
theorem c_Model_size (l : Launch) (dC : Nat → ClassId) (dI : Nat → Nat → Nat) (cI cT : ClassId) (g : Nat → Nat) (w : MS) (r k : Int32) (sz : Nat) (L : Nat) (hok : okR L (view w)) (hL : L < 500000) : Met l yX2_size wsX2_size ({ frames := 1, cells := 0, slots := 0, locals := 23 }) (va_Pc [.ref (g 0), .int r, .int k] (zPW (dC, dI) vwCl cI cT (wM g cI w) sz)) (zQi sz (aSize (view w) r k)) 0 0 (zfr sz) := by
  refine Met.ofW (cc := cX2_size) (maxL := 5) (ret := (some .int)) (by decide) rfl ?_
  intro p e s m args below meth c s₁ B hml hv
  obtain ⟨rfl, hsz, hP, hK, hD0⟩ := hv
  have hx := B.exec
  have hb := B.bytes
  have hr := B.returns
  have hts := atoms_spec (ws := wsX2_size) B.pre
  have hown : s.vm.findClass RX2 = some m.cls := findClass_of_methodNamed B.named
  have hlocks := B.notSynchronized
  subst hsz
  have hA : ∀ q : Nat, s.heap.size ≤ q → (fun q : Nat => s.heap.size ≤ q) q := fun _ h => h
  have hS : va_S (fun q : Nat => s.heap.size ≤ q) s.heap s.heap [] := va_S.rf
  have hD := hD0
  have hl := lv_entry ([.ref (g 0), .int r, .int k]) (n := 5) (Nat.le_of_ble_eq_true rfl)
  rw [lg_entry_eq]
  generalize (lg_sl ([.ref (g 0), .int r, .int k]) ++ List.replicate (5 - (lg_sl ([.ref (g 0), .int r, .int k])).length) Slot.unset).toArray = ls at hl ⊢
  have hl : lv_has ls 5 [(0, .ref (g 0)), (1, .int r), (2, .int k)] := hl
  have hle : ∀ t, t < 4 → mC w t ≤ 400 := fun t ht => by have h9 := (hok.1 t ht).1; rw [view_t w ht] at h9; exact h9
  have hc3 : mC w 3 ≤ 400 := hle 3 (by decide)
  have hlat : mL w ≤ L := hok.2.2
  refine lv_aload_n hx hb dX2_size_0 rfl (lv_at hl 0 rfl) ?_
  refine lv_iload_n hx hb dX2_size_1 rfl (lv_at hl 1 rfl) ?_
  refine zroi (va_runV (As := [.int r]) (rest := []) ⟨hx, hb, hml, hown, hts⟩ (c_Model_table l dC dI cI cT g w r s.heap.size L hok hL) (cwV 1 hts gX2_size_X2_table rfl rfl rfl (by decide +kernel) ⟨Nat.le_of_ble_eq_true rfl, Nat.le_of_ble_eq_true rfl⟩) (zpreV hK hP hD rfl 0 rfl) rfl rfl hl.1 rfl (lv_room (Nat.le_of_ble_eq_true rfl)) dX2_size_2 ⟨Nat.le_of_ble_eq_true rfl, Nat.le_of_ble_eq_true rfl⟩) hP hS hA (fun H locs hP hS => ?_)
  by_cases h0 : aSt (view w) r = 0
  · rw [show mTb (view w) r = nI (aTb (view w) r) from if_pos h0]
    obtain ⟨t, et⟩ : ∃ t, t = aTb (view w) r := ⟨_, rfl⟩
    rw [← et]
    have ht : t < 4 := by rw [et]; exact aTb_lt _ _
    have hct : mC w t ≤ 400 := hle t ht
    have hpl : tPl (vT w t) k ≤ mC w t := pl_le _ _ _
    refine lv_istore_n (lv' := [(3, .int (nI t)), (0, .ref (g 0)), (1, .int r), (2, .int k)]) hx hb dX2_size_5 rfl hl (by decide) rfl (fun ls hl => ?_)
    refine lv_iload_n hx hb dX2_size_6 rfl (lv_at hl 0 rfl) ?_
    refine lv_if_ge (tgt := 12) hx hb dX2_size_7 (by decide) (fun h_7 => ?_) (fun h_7 => absurd (nI_pos' (by omega)) h_7)
    refine lv_aload_n hx hb dX2_size_12 rfl (lv_at hl 1 rfl) ?_
    refine lv_iload_n hx hb dX2_size_13 rfl (lv_at hl 0 rfl) ?_
    refine lv_iload_n hx hb dX2_size_14 rfl (lv_at hl 3 rfl) ?_
    refine zroi (va_runV (As := [.int (nI t), .int k]) (rest := []) ⟨hx, hb, hml, hown, hts⟩ (c_Model_place l dC dI cI cT g w t k H.size ht hle) (cwV 2 hts gX2_size_X2_place rfl rfl rfl (by decide +kernel) ⟨Nat.le_of_ble_eq_true rfl, Nat.le_of_ble_eq_true rfl⟩) (zpreV hK hP hD rfl 0 rfl) rfl rfl hl.1 rfl (lv_room (Nat.le_of_ble_eq_true rfl)) dX2_size_15 ⟨Nat.le_of_ble_eq_true rfl, Nat.le_of_ble_eq_true rfl⟩) hP hS hA (fun H locs hP hS => ?_)
    refine lv_istore (lv' := [(4, .int (nI (400 * t + tPl (vT w t) k))), (3, .int (nI t)), (0, .ref (g 0)), (1, .int r), (2, .int k)]) hx hb dX2_size_18 hl (by decide) rfl (fun ls hl => ?_)
    refine lv_aload_n hx hb dX2_size_20 rfl (lv_at hl 2 rfl) ?_
    refine lv_iload_n hx hb dX2_size_21 rfl (lv_at hl 1 rfl) ?_
    refine lv_iload hx hb dX2_size_22 (lv_at hl 0 rfl) ?_
    refine lv_iload_n hx hb dX2_size_24 rfl (lv_at hl 4 rfl) ?_
    refine zroi (va_runV (As := [.int (nI t), .int (nI (400 * t + tPl (vT w t) k)), .int k]) (rest := []) ⟨hx, hb, hml, hown, hts⟩ (c_Model_is l dC dI cI cT g w t (tPl (vT w t) k) k H.size ht hle (by omega)) (cwV 3 hts gX2_size_X2_is rfl rfl rfl (by decide +kernel) ⟨Nat.le_of_ble_eq_true rfl, Nat.le_of_ble_eq_true rfl⟩) (zpreV hK hP hD rfl 0 rfl) rfl rfl hl.1 rfl (lv_room (Nat.le_of_ble_eq_true rfl)) dX2_size_25 ⟨Nat.le_of_ble_eq_true rfl, Nat.le_of_ble_eq_true rfl⟩) hP hS hA (fun H locs hP hS => ?_)
    refine zifeq (tgt := 41) hx hb dX2_size_28 (by decide) (fun h_28 => ?_) (fun h_28 => ?_)
    · refine lv_bipush (v := (-2)) hx hb dX2_size_41 (by decide) ?_
      exact W.iret (v := (-2)) hx hb hr (fun t9 ht9 hW9 => ⟨⟨_, (), rfl, by unfold aSize; rw [if_pos h0, ← et, view_t w ht, if_neg (show ¬ tHas (vT w t) k from h_28)], trivial⟩, hS.F ht9⟩) hS.2.2 dX2_size_43
    · have hlt : tPl (vT w t) k < mC w t := h_28.1
      refine lv_aload_n hx hb dX2_size_31 rfl (lv_at hl 2 rfl) ?_
      refine va_get (D := (dC, dI)) (ci := 2) (v := .ref (g 3)) (C := RX2) (T := TX2) (N := 6) hx hb hts (by decide +kernel) hown hK hP 0 rfl rfl 2 (by decide) (hts (.fieldLink RX2 16 "RevisionTreeModel" "size" "[I") (by decide +kernel)) (fun _ h9 => h9) rfl dX2_size_32 ?_
      refine lv_iload hx hb dX2_size_35 (lv_at hl 0 rfl) ?_
      refine zrdN hx hb hK hP 3 0 rfl rfl (j := 400 * t + tPl (vT w t) k) (by omega) (by decide) dX2_size_37 ?_
      refine lv_goto (tgt := 43) hx hb dX2_size_38 (by decide) ?_
      exact W.iret (v := (mS w) (400 * t + tPl (vT w t) k)) hx hb hr (fun t9 ht9 hW9 => ⟨⟨_, (), rfl, by unfold aSize; rw [if_pos h0, ← et, view_t w ht, if_pos (show tHas (vT w t) k from h_28)]; rfl, trivial⟩, hS.F ht9⟩) hS.2.2 dX2_size_43
  · rw [show mTb (view w) r = aSt (view w) r from if_neg h0]
    refine lv_istore_n (lv' := [(3, .int (aSt (view w) r)), (0, .ref (g 0)), (1, .int r), (2, .int k)]) hx hb dX2_size_5 rfl hl (by decide) rfl (fun ls hl => ?_)
    refine lv_iload_n hx hb dX2_size_6 rfl (lv_at hl 0 rfl) ?_
    refine lv_if_ge (tgt := 12) hx hb dX2_size_7 (by decide) (fun h_7 => absurd h_7 (by rcases aSt_c h0 with q | q <;> rw [q] <;> decide)) (fun h_7 => ?_)
    refine lv_iload_n hx hb dX2_size_10 rfl (lv_at hl 0 rfl) ?_
    exact W.iret (v := aSt (view w) r) hx hb hr (fun t9 ht9 hW9 => ⟨⟨_, (), rfl, (if_neg h0).symm, trivial⟩, hS.F ht9⟩) hS.2.2 dX2_size_11
set_option maxHeartbeats 4000000 in
set_option maxRecDepth 100000 in
/-- next -/
theorem c_Model_next (l : Launch) (dC : Nat → ClassId) (dI : Nat → Nat → Nat) (cI cT : ClassId) (g : Nat → Nat) (w : MS) (r k : Int32) (sz : Nat) (L : Nat) (hok : okR L (view w)) (hL : L < 500000) : Met l yX2_next wsX2_next ({ frames := 1, cells := 0, slots := 0, locals := 23 }) (va_Pc [.ref (g 0), .int r, .int k] (zPW (dC, dI) vwCl cI cT (wM g cI w) sz)) (zQl sz (aNext (view w) r k)) 0 0 (zfr sz) := by
  refine Met.ofW (cc := cX2_next) (maxL := 5) (ret := (some .long)) (by decide) rfl ?_
  intro p e s m args below meth c s₁ B hml hv
  obtain ⟨rfl, hsz, hP, hK, hD0⟩ := hv
  have hx := B.exec
  have hb := B.bytes
  have hr := B.returns
  have hts := atoms_spec (ws := wsX2_next) B.pre
  have hown : s.vm.findClass RX2 = some m.cls := findClass_of_methodNamed B.named
  have hlocks := B.notSynchronized
  subst hsz
  have hA : ∀ q : Nat, s.heap.size ≤ q → (fun q : Nat => s.heap.size ≤ q) q := fun _ h => h
  have hS : va_S (fun q : Nat => s.heap.size ≤ q) s.heap s.heap [] := va_S.rf
  have hD := hD0
  have hl := lv_entry ([.ref (g 0), .int r, .int k]) (n := 5) (Nat.le_of_ble_eq_true rfl)
  rw [lg_entry_eq]
  generalize (lg_sl ([.ref (g 0), .int r, .int k]) ++ List.replicate (5 - (lg_sl ([.ref (g 0), .int r, .int k])).length) Slot.unset).toArray = ls at hl ⊢
  have hl : lv_has ls 5 [(0, .ref (g 0)), (1, .int r), (2, .int k)] := hl
  have hle : ∀ t, t < 4 → mC w t ≤ 400 := fun t ht => by have h9 := (hok.1 t ht).1; rw [view_t w ht] at h9; exact h9
  have hc3 : mC w 3 ≤ 400 := hle 3 (by decide)
  have hlat : mL w ≤ L := hok.2.2
  refine lv_aload_n hx hb dX2_next_0 rfl (lv_at hl 0 rfl) ?_
  refine lv_iload_n hx hb dX2_next_1 rfl (lv_at hl 1 rfl) ?_
  refine zroi (va_runV (As := [.int r]) (rest := []) ⟨hx, hb, hml, hown, hts⟩ (c_Model_table l dC dI cI cT g w r s.heap.size L hok hL) (cwV 1 hts gX2_next_X2_table rfl rfl rfl (by decide +kernel) ⟨Nat.le_of_ble_eq_true rfl, Nat.le_of_ble_eq_true rfl⟩) (zpreV hK hP hD rfl 0 rfl) rfl rfl hl.1 rfl (lv_room (Nat.le_of_ble_eq_true rfl)) dX2_next_2 ⟨Nat.le_of_ble_eq_true rfl, Nat.le_of_ble_eq_true rfl⟩) hP hS hA (fun H locs hP hS => ?_)
  by_cases h0 : aSt (view w) r = 0
  · rw [show mTb (view w) r = nI (aTb (view w) r) from if_pos h0]
    obtain ⟨t, et⟩ : ∃ t, t = aTb (view w) r := ⟨_, rfl⟩
    rw [← et]
    have ht : t < 4 := by rw [et]; exact aTb_lt _ _
    have hct : mC w t ≤ 400 := hle t ht
    have hpl : tPl (vT w t) k ≤ mC w t := pl_le _ _ _
    refine lv_istore_n (lv' := [(3, .int (nI t)), (0, .ref (g 0)), (1, .int r), (2, .int k)]) hx hb dX2_next_5 rfl hl (by decide) rfl (fun ls hl => ?_)
    refine lv_iload_n hx hb dX2_next_6 rfl (lv_at hl 0 rfl) ?_
    refine lv_if_ge (tgt := 17) hx hb dX2_next_7 (by decide) (fun h_7 => ?_) (fun h_7 => absurd (nI_pos' (by omega)) h_7)
    refine lv_aload_n hx hb dX2_next_17 rfl (lv_at hl 1 rfl) ?_
    refine lv_iload_n hx hb dX2_next_18 rfl (lv_at hl 0 rfl) ?_
    refine lv_iload_n hx hb dX2_next_19 rfl (lv_at hl 3 rfl) ?_
    refine zroi (va_runV (As := [.int (nI t), .int k]) (rest := []) ⟨hx, hb, hml, hown, hts⟩ (c_Model_place l dC dI cI cT g w t k H.size ht hle) (cwV 2 hts gX2_next_X2_place rfl rfl rfl (by decide +kernel) ⟨Nat.le_of_ble_eq_true rfl, Nat.le_of_ble_eq_true rfl⟩) (zpreV hK hP hD rfl 0 rfl) rfl rfl hl.1 rfl (lv_room (Nat.le_of_ble_eq_true rfl)) dX2_next_20 ⟨Nat.le_of_ble_eq_true rfl, Nat.le_of_ble_eq_true rfl⟩) hP hS hA (fun H locs hP hS => ?_)
    refine lv_istore (lv' := [(4, .int (nI (400 * t + tPl (vT w t) k))), (3, .int (nI t)), (0, .ref (g 0)), (1, .int r), (2, .int k)]) hx hb dX2_next_23 hl (by decide) rfl (fun ls hl => ?_)
    refine lv_aload_n hx hb dX2_next_25 rfl (lv_at hl 2 rfl) ?_
    refine lv_iload_n hx hb dX2_next_26 rfl (lv_at hl 1 rfl) ?_
    refine lv_iload hx hb dX2_next_27 (lv_at hl 0 rfl) ?_
    refine lv_iload_n hx hb dX2_next_29 rfl (lv_at hl 4 rfl) ?_
    refine zroi (va_runV (As := [.int (nI t), .int (nI (400 * t + tPl (vT w t) k)), .int k]) (rest := []) ⟨hx, hb, hml, hown, hts⟩ (c_Model_is l dC dI cI cT g w t (tPl (vT w t) k) k H.size ht hle (by omega)) (cwV 3 hts gX2_next_X2_is rfl rfl rfl (by decide +kernel) ⟨Nat.le_of_ble_eq_true rfl, Nat.le_of_ble_eq_true rfl⟩) (zpreV hK hP hD rfl 0 rfl) rfl rfl hl.1 rfl (lv_room (Nat.le_of_ble_eq_true rfl)) dX2_next_30 ⟨Nat.le_of_ble_eq_true rfl, Nat.le_of_ble_eq_true rfl⟩) hP hS hA (fun H locs hP hS => ?_)
    refine zifeq (tgt := 39) hx hb dX2_next_33 (by decide) (fun h_33 => ?_) (fun h_33 => ?_)
    · refine lv_iload hx hb dX2_next_39 (lv_at hl 0 rfl) ?_
      refine lv_sipush (v := nI 400) hx hb dX2_next_41 (by decide) ?_
      refine lv_iload_n hx hb dX2_next_44 rfl (lv_at hl 1 rfl) ?_
      refine lv_imul hx hb dX2_next_45 ?_
      refine zt (y := nI (400 * t)) (pk_mul _ _) ?_
      refine lv_aload_n hx hb dX2_next_46 rfl (lv_at hl 2 rfl) ?_
      refine va_get (D := (dC, dI)) (ci := 2) (v := .ref (g 4)) (C := RX2) (T := TX2) (N := 6) hx hb hts (by decide +kernel) hown hK hP 0 rfl rfl 3 (by decide) (hts (.fieldLink RX2 19 "RevisionTreeModel" "count" "[I") (by decide +kernel)) (fun _ h9 => h9) rfl dX2_next_47 ?_
      refine lv_iload_n hx hb dX2_next_50 rfl (lv_at hl 1 rfl) ?_
      refine zrdN hx hb hK hP 4 0 rfl rfl (j := t) (by omega) (by decide) dX2_next_51 ?_
      refine lv_iadd hx hb dX2_next_52 ?_
      refine zt (y := nI ((400 * t) + (mC w t))) (nI_add _ _) ?_
      refine zge (tgt := 67) hx hb dX2_next_53 (by decide) (by omega) (by omega) (fun h_53 => ?_) (fun h_53 => ?_)
      · refine lv_ldc2 (v := 1099511627774) hx hb hown (hts (.constantLong RX2 51 1099511627774) (by decide +kernel)) dX2_next_67 ?_
        have eab : tAb (vT w t) k = tPl (vT w t) k := if_neg h_33
        exact W.lret (v := 1099511627774) hx hb hr (fun t9 ht9 hW9 => ⟨⟨_, (), rfl, by unfold aNext; rw [if_pos h0, ← et, view_t w ht, eab, if_neg (show ¬ tPl (vT w t) k < (vT w t).1 from (show ¬ tPl (vT w t) k < mC w t by omega))], trivial⟩, hS.F ht9⟩) hS.2.2 dX2_next_70
      · refine lv_aload_n hx hb dX2_next_56 rfl (lv_at hl 2 rfl) ?_
        refine va_get (D := (dC, dI)) (ci := 2) (v := .ref (g 1)) (C := RX2) (T := TX2) (N := 6) hx hb hts (by decide +kernel) hown hK hP 0 rfl rfl 0 (by decide) (hts (.fieldLink RX2 9 "RevisionTreeModel" "key" "[I") (by decide +kernel)) (fun _ h9 => h9) rfl dX2_next_57 ?_
        refine lv_iload hx hb dX2_next_60 (lv_at hl 0 rfl) ?_
        refine zrdN hx hb hK hP 1 0 rfl rfl (j := 400 * t + tPl (vT w t) k) (by omega) (by decide) dX2_next_62 ?_
        refine lv_i2l hx hb dX2_next_63 rfl ?_
        refine lv_goto (tgt := 70) hx hb dX2_next_64 (by decide) ?_
        have eab : tAb (vT w t) k = tPl (vT w t) k := if_neg h_33
        exact W.lret (v := ((mK w) (400 * t + tPl (vT w t) k)).toInt64) hx hb hr (fun t9 ht9 hW9 => ⟨⟨_, (), rfl, by unfold aNext; rw [if_pos h0, ← et, view_t w ht, eab, if_pos (show tPl (vT w t) k < (vT w t).1 from (show tPl (vT w t) k < mC w t by omega))]; rfl, trivial⟩, hS.F ht9⟩) hS.2.2 dX2_next_70
    · refine lv_iinc (v := nI ((400 * t + tPl (vT w t) k) + 1)) (lv' := [(4, .int (nI ((400 * t + tPl (vT w t) k) + 1))), (3, .int (nI t)), (0, .ref (g 0)), (1, .int r), (2, .int k)]) hx hb dX2_next_36 hl (k := 0) rfl (zinc _) (by decide) rfl (fun ls hl => ?_)
      refine lv_iload hx hb dX2_next_39 (lv_at hl 0 rfl) ?_
      refine lv_sipush (v := nI 400) hx hb dX2_next_41 (by decide) ?_
      refine lv_iload_n hx hb dX2_next_44 rfl (lv_at hl 1 rfl) ?_
      refine lv_imul hx hb dX2_next_45 ?_
      refine zt (y := nI (400 * t)) (pk_mul _ _) ?_
      refine lv_aload_n hx hb dX2_next_46 rfl (lv_at hl 2 rfl) ?_
      refine va_get (D := (dC, dI)) (ci := 2) (v := .ref (g 4)) (C := RX2) (T := TX2) (N := 6) hx hb hts (by decide +kernel) hown hK hP 0 rfl rfl 3 (by decide) (hts (.fieldLink RX2 19 "RevisionTreeModel" "count" "[I") (by decide +kernel)) (fun _ h9 => h9) rfl dX2_next_47 ?_
      refine lv_iload_n hx hb dX2_next_50 rfl (lv_at hl 1 rfl) ?_
      refine zrdN hx hb hK hP 4 0 rfl rfl (j := t) (by omega) (by decide) dX2_next_51 ?_
      refine lv_iadd hx hb dX2_next_52 ?_
      refine zt (y := nI ((400 * t) + (mC w t))) (nI_add _ _) ?_
      refine zge (tgt := 67) hx hb dX2_next_53 (by decide) (by omega) (by omega) (fun h_53 => ?_) (fun h_53 => ?_)
      · refine lv_ldc2 (v := 1099511627774) hx hb hown (hts (.constantLong RX2 51 1099511627774) (by decide +kernel)) dX2_next_67 ?_
        have eab : tAb (vT w t) k = tPl (vT w t) k + 1 := if_pos h_33
        exact W.lret (v := 1099511627774) hx hb hr (fun t9 ht9 hW9 => ⟨⟨_, (), rfl, by unfold aNext; rw [if_pos h0, ← et, view_t w ht, eab, if_neg (show ¬ tPl (vT w t) k + 1 < (vT w t).1 from (show ¬ tPl (vT w t) k + 1 < mC w t by omega))], trivial⟩, hS.F ht9⟩) hS.2.2 dX2_next_70
      · refine lv_aload_n hx hb dX2_next_56 rfl (lv_at hl 2 rfl) ?_
        refine va_get (D := (dC, dI)) (ci := 2) (v := .ref (g 1)) (C := RX2) (T := TX2) (N := 6) hx hb hts (by decide +kernel) hown hK hP 0 rfl rfl 0 (by decide) (hts (.fieldLink RX2 9 "RevisionTreeModel" "key" "[I") (by decide +kernel)) (fun _ h9 => h9) rfl dX2_next_57 ?_
        refine lv_iload hx hb dX2_next_60 (lv_at hl 0 rfl) ?_
        refine zrdN hx hb hK hP 1 0 rfl rfl (j := (400 * t + tPl (vT w t) k) + 1) (by omega) (by decide) dX2_next_62 ?_
        refine lv_i2l hx hb dX2_next_63 rfl ?_
        refine lv_goto (tgt := 70) hx hb dX2_next_64 (by decide) ?_
        have eab : tAb (vT w t) k = tPl (vT w t) k + 1 := if_pos h_33
        exact W.lret (v := ((mK w) ((400 * t + tPl (vT w t) k) + 1)).toInt64) hx hb hr (fun t9 ht9 hW9 => ⟨⟨_, (), rfl, by unfold aNext; rw [if_pos h0, ← et, view_t w ht, eab, if_pos (show tPl (vT w t) k + 1 < (vT w t).1 from (show tPl (vT w t) k + 1 < mC w t by omega))]; rfl, trivial⟩, hS.F ht9⟩) hS.2.2 dX2_next_70
  · rw [show mTb (view w) r = aSt (view w) r from if_neg h0]
    refine lv_istore_n (lv' := [(3, .int (aSt (view w) r)), (0, .ref (g 0)), (1, .int r), (2, .int k)]) hx hb dX2_next_5 rfl hl (by decide) rfl (fun ls hl => ?_)
    refine lv_iload_n hx hb dX2_next_6 rfl (lv_at hl 0 rfl) ?_
    refine lv_if_ge (tgt := 17) hx hb dX2_next_7 (by decide) (fun h_7 => absurd h_7 (by rcases aSt_c h0 with q | q <;> rw [q] <;> decide)) (fun h_7 => ?_)
    refine lv_ldc2 (v := 1099511627776) hx hb hown (hts (.constantLong RX2 49 1099511627776) (by decide +kernel)) dX2_next_10 ?_
    refine lv_iload_n hx hb dX2_next_13 rfl (lv_at hl 0 rfl) ?_
    refine lv_i2l hx hb dX2_next_14 rfl ?_
    refine lv_ladd hx hb dX2_next_15 ?_
    exact W.lret (v := 1099511627776 + ((aSt (view w) r).toInt64)) hx hb hr (fun t9 ht9 hW9 => ⟨⟨_, (), rfl, (if_neg h0).symm, trivial⟩, hS.F ht9⟩) hS.2.2 dX2_next_16
set_option maxHeartbeats 4000000 in
set_option maxRecDepth 100000 in
/-- count -/
theorem c_Model_count (l : Launch) (dC : Nat → ClassId) (dI : Nat → Nat → Nat) (cI cT : ClassId) (g : Nat → Nat) (w : MS) (r : Int32) (sz : Nat) (L : Nat) (hok : okR L (view w)) (hL : L < 500000) : Met l yX2_count wsX2_count ({ frames := 1, cells := 0, slots := 0, locals := 21 }) (va_Pc [.ref (g 0), .int r] (zPW (dC, dI) vwCl cI cT (wM g cI w) sz)) (zQi sz (aCount (view w) r)) 0 0 (zfr sz) := by
  refine Met.ofW (cc := cX2_count) (maxL := 3) (ret := (some .int)) (by decide) rfl ?_
  intro p e s m args below meth c s₁ B hml hv
  obtain ⟨rfl, hsz, hP, hK, hD0⟩ := hv
  have hx := B.exec
  have hb := B.bytes
  have hr := B.returns
  have hts := atoms_spec (ws := wsX2_count) B.pre
  have hown : s.vm.findClass RX2 = some m.cls := findClass_of_methodNamed B.named
  have hlocks := B.notSynchronized
  subst hsz
  have hA : ∀ q : Nat, s.heap.size ≤ q → (fun q : Nat => s.heap.size ≤ q) q := fun _ h => h
  have hS : va_S (fun q : Nat => s.heap.size ≤ q) s.heap s.heap [] := va_S.rf
  have hD := hD0
  have hl := lv_entry ([.ref (g 0), .int r]) (n := 3) (Nat.le_of_ble_eq_true rfl)
  rw [lg_entry_eq]
  generalize (lg_sl ([.ref (g 0), .int r]) ++ List.replicate (3 - (lg_sl ([.ref (g 0), .int r])).length) Slot.unset).toArray = ls at hl ⊢
  have hl : lv_has ls 3 [(0, .ref (g 0)), (1, .int r)] := hl
  have hle : ∀ t, t < 4 → mC w t ≤ 400 := fun t ht => by have h9 := (hok.1 t ht).1; rw [view_t w ht] at h9; exact h9
  have hc3 : mC w 3 ≤ 400 := hle 3 (by decide)
  have hlat : mL w ≤ L := hok.2.2
  refine lv_aload_n hx hb dX2_count_0 rfl (lv_at hl 0 rfl) ?_
  refine lv_iload_n hx hb dX2_count_1 rfl (lv_at hl 1 rfl) ?_
  refine zroi (va_runV (As := [.int r]) (rest := []) ⟨hx, hb, hml, hown, hts⟩ (c_Model_table l dC dI cI cT g w r s.heap.size L hok hL) (cwV 1 hts gX2_count_X2_table rfl rfl rfl (by decide +kernel) ⟨Nat.le_of_ble_eq_true rfl, Nat.le_of_ble_eq_true rfl⟩) (zpreV hK hP hD rfl 0 rfl) rfl rfl hl.1 rfl (lv_room (Nat.le_of_ble_eq_true rfl)) dX2_count_2 ⟨Nat.le_of_ble_eq_true rfl, Nat.le_of_ble_eq_true rfl⟩) hP hS hA (fun H locs hP hS => ?_)
  by_cases h0 : aSt (view w) r = 0
  · rw [show mTb (view w) r = nI (aTb (view w) r) from if_pos h0]
    obtain ⟨t, et⟩ : ∃ t, t = aTb (view w) r := ⟨_, rfl⟩
    rw [← et]
    have ht : t < 4 := by rw [et]; exact aTb_lt _ _
    have hct : mC w t ≤ 400 := hle t ht
    refine lv_istore_n (lv' := [(2, .int (nI t)), (0, .ref (g 0)), (1, .int r)]) hx hb dX2_count_5 rfl hl (by decide) rfl (fun ls hl => ?_)
    refine lv_iload_n hx hb dX2_count_6 rfl (lv_at hl 0 rfl) ?_
    refine lv_if_ge (tgt := 14) hx hb dX2_count_7 (by decide) (fun h_7 => ?_) (fun h_7 => absurd (nI_pos' (by omega)) h_7)
    refine lv_aload_n hx hb dX2_count_14 rfl (lv_at hl 1 rfl) ?_
    refine va_get (D := (dC, dI)) (ci := 2) (v := .ref (g 4)) (C := RX2) (T := TX2) (N := 6) hx hb hts (by decide +kernel) hown hK hP 0 rfl rfl 3 (by decide) (hts (.fieldLink RX2 19 "RevisionTreeModel" "count" "[I") (by decide +kernel)) (fun _ h9 => h9) rfl dX2_count_15 ?_
    refine lv_iload_n hx hb dX2_count_18 rfl (lv_at hl 0 rfl) ?_
    refine zrdN hx hb hK hP 4 0 rfl rfl (j := t) (by omega) (by decide) dX2_count_19 ?_
    exact W.iret (v := nI (mC w t)) hx hb hr (fun t9 ht9 hW9 => ⟨⟨_, (), rfl, by unfold aCount; rw [if_pos h0, ← et, view_t w ht]; rfl, trivial⟩, hS.F ht9⟩) hS.2.2 dX2_count_20
  · rw [show mTb (view w) r = aSt (view w) r from if_neg h0]
    refine lv_istore_n (lv' := [(2, .int (aSt (view w) r)), (0, .ref (g 0)), (1, .int r)]) hx hb dX2_count_5 rfl hl (by decide) rfl (fun ls hl => ?_)
    refine lv_iload_n hx hb dX2_count_6 rfl (lv_at hl 0 rfl) ?_
    refine lv_if_ge (tgt := 14) hx hb dX2_count_7 (by decide) (fun h_7 => absurd h_7 (by rcases aSt_c h0 with q | q <;> rw [q] <;> decide)) (fun h_7 => ?_)
    refine lv_iload_n hx hb dX2_count_10 rfl (lv_at hl 0 rfl) ?_
    refine lv_goto (tgt := 20) hx hb dX2_count_11 (by decide) ?_
    exact W.iret (v := aSt (view w) r) hx hb hr (fun t9 ht9 hW9 => ⟨⟨_, (), rfl, (if_neg h0).symm, trivial⟩, hS.F ht9⟩) hS.2.2 dX2_count_20
set_option maxHeartbeats 4000000 in
set_option maxRecDepth 100000 in
/-- digest -/
theorem c_Model_digest (l : Launch) (dC : Nat → ClassId) (dI : Nat → Nat → Nat) (cI cT : ClassId) (g : Nat → Nat) (w : MS) (r : Int32) (sz : Nat) (L : Nat) (hok : okR L (view w)) (hL : L < 500000) : Met l yX2_digest wsX2_digest ({ frames := 1, cells := 0, slots := 0, locals := 21 }) (va_Pc [.ref (g 0), .int r] (zPW (dC, dI) vwCl cI cT (wM g cI w) sz)) (zQi sz (aDigest (view w) r)) 0 0 (zfr sz) := by
  refine Met.ofW (cc := cX2_digest) (maxL := 5) (ret := (some .int)) (by decide) rfl ?_
  intro p e s m args below meth c s₁ B hml hv
  obtain ⟨rfl, hsz, hP, hK, hD0⟩ := hv
  have hx := B.exec
  have hb := B.bytes
  have hr := B.returns
  have hts := atoms_spec (ws := wsX2_digest) B.pre
  have hown : s.vm.findClass RX2 = some m.cls := findClass_of_methodNamed B.named
  have hlocks := B.notSynchronized
  subst hsz
  have hA : ∀ q : Nat, s.heap.size ≤ q → (fun q : Nat => s.heap.size ≤ q) q := fun _ h => h
  have hS : va_S (fun q : Nat => s.heap.size ≤ q) s.heap s.heap [] := va_S.rf
  have hD := hD0
  have hl := lv_entry ([.ref (g 0), .int r]) (n := 5) (Nat.le_of_ble_eq_true rfl)
  rw [lg_entry_eq]
  generalize (lg_sl ([.ref (g 0), .int r]) ++ List.replicate (5 - (lg_sl ([.ref (g 0), .int r])).length) Slot.unset).toArray = ls at hl ⊢
  have hl : lv_has ls 5 [(0, .ref (g 0)), (1, .int r)] := hl
  have hle : ∀ t, t < 4 → mC w t ≤ 400 := fun t ht => by have h9 := (hok.1 t ht).1; rw [view_t w ht] at h9; exact h9
  have hc3 : mC w 3 ≤ 400 := hle 3 (by decide)
  have hlat : mL w ≤ L := hok.2.2
  refine lv_aload_n hx hb dX2_digest_0 rfl (lv_at hl 0 rfl) ?_
  refine lv_iload_n hx hb dX2_digest_1 rfl (lv_at hl 1 rfl) ?_
  refine zroi (va_runV (As := [.int r]) (rest := []) ⟨hx, hb, hml, hown, hts⟩ (c_Model_table l dC dI cI cT g w r s.heap.size L hok hL) (cwV 1 hts gX2_digest_X2_table rfl rfl rfl (by decide +kernel) ⟨Nat.le_of_ble_eq_true rfl, Nat.le_of_ble_eq_true rfl⟩) (zpreV hK hP hD rfl 0 rfl) rfl rfl hl.1 rfl (lv_room (Nat.le_of_ble_eq_true rfl)) dX2_digest_2 ⟨Nat.le_of_ble_eq_true rfl, Nat.le_of_ble_eq_true rfl⟩) hP hS hA (fun H locs hP hS => ?_)
  by_cases h0 : aSt (view w) r = 0
  · rw [show mTb (view w) r = nI (aTb (view w) r) from if_pos h0]
    obtain ⟨t, et⟩ : ∃ t, t = aTb (view w) r := ⟨_, rfl⟩
    rw [← et]
    have ht : t < 4 := by rw [et]; exact aTb_lt _ _
    have hct : mC w t ≤ 400 := hle t ht
    refine lv_istore_n (lv' := [(2, .int (nI t)), (0, .ref (g 0)), (1, .int r)]) hx hb dX2_digest_5 rfl hl (by decide) rfl (fun ls hl => ?_)
    refine lv_iload_n hx hb dX2_digest_6 rfl (lv_at hl 0 rfl) ?_
    refine lv_if_ge (tgt := 12) hx hb dX2_digest_7 (by decide) (fun h_7 => ?_) (fun h_7 => absurd (nI_pos' (by omega)) h_7)
    refine lv_iconst (v := nI 0) hx hb dX2_digest_12 (by decide) ?_
    refine lv_istore_n (lv' := [(3, .int (nI 0)), (2, .int (nI t)), (0, .ref (g 0)), (1, .int r)]) hx hb dX2_digest_13 rfl hl (by decide) rfl (fun ls hl => ?_)
    refine lv_sipush (v := nI 400) hx hb dX2_digest_14 (by decide) ?_
    refine lv_iload_n hx hb dX2_digest_17 rfl (lv_at hl 1 rfl) ?_
    refine lv_imul hx hb dX2_digest_18 ?_
    refine zt (y := nI (400 * t)) (pk_mul _ _) ?_
    refine lv_istore (lv' := [(4, .int (nI (400 * t))), (3, .int (nI 0)), (2, .int (nI t)), (0, .ref (g 0)), (1, .int r)]) hx hb dX2_digest_19 hl (by decide) rfl (fun ls hl => ?_)
    refine zloop (σ := Nat) (fun q H locs ls => q ≤ mC w t ∧ va_P (dC, dI) vwCl (wM g cI w) H ∧ va_S (fun q : Nat => s.heap.size ≤ q) s.heap H locs ∧ lv_has ls 5 [(0, .ref (g 0)), (2, .int (nI t)), (3, .int (dgF (fun j => mK w (400 * t + j)) (fun j => mV w (400 * t + j)) (fun j => mS w (400 * t + j)) q)), (4, .int (nI (400 * t + q)))]) (fun q => mC w t - q) ?_ 0 ⟨Nat.zero_le _, hP, hS, lv_sub hl [3, 2, 1, 0] rfl⟩
    rintro q H locs ls ⟨h1, hP, hS, hl⟩ ih
    refine lv_iload hx hb dX2_digest_21 (lv_at hl 3 rfl) ?_
    refine lv_sipush (v := nI 400) hx hb dX2_digest_23 (by decide) ?_
    refine lv_iload_n hx hb dX2_digest_26 rfl (lv_at hl 1 rfl) ?_
    refine lv_imul hx hb dX2_digest_27 ?_
    refine zt (y := nI (400 * t)) (pk_mul _ _) ?_
    refine lv_aload_n hx hb dX2_digest_28 rfl (lv_at hl 0 rfl) ?_
    refine va_get (D := (dC, dI)) (ci := 2) (v := .ref (g 4)) (C := RX2) (T := TX2) (N := 6) hx hb hts (by decide +kernel) hown hK hP 0 rfl rfl 3 (by decide) (hts (.fieldLink RX2 19 "RevisionTreeModel" "count" "[I") (by decide +kernel)) (fun _ h9 => h9) rfl dX2_digest_29 ?_
    refine lv_iload_n hx hb dX2_digest_32 rfl (lv_at hl 1 rfl) ?_
    refine zrdN hx hb hK hP 4 0 rfl rfl (j := t) (by omega) (by decide) dX2_digest_33 ?_
    refine lv_iadd hx hb dX2_digest_34 ?_
    refine zt (y := nI ((400 * t) + (mC w t))) (nI_add _ _) ?_
    refine zge (tgt := 78) hx hb dX2_digest_35 (by decide) (by omega) (by omega) (fun h_35 => ?_) (fun h_35 => ?_)
    · refine lv_iload_n hx hb dX2_digest_78 rfl (lv_at hl 2 rfl) ?_
      have ei : q = mC w t := by omega
      exact W.iret (v := dgF (fun j => mK w (400 * t + j)) (fun j => mV w (400 * t + j)) (fun j => mS w (400 * t + j)) q) hx hb hr (fun t9 ht9 hW9 => ⟨⟨_, (), rfl, by unfold aDigest; rw [if_pos h0, ← et, view_t w ht, ei]; rfl, trivial⟩, hS.F ht9⟩) hS.2.2 dX2_digest_79
    · refine lv_iload_n hx hb dX2_digest_38 rfl (lv_at hl 2 rfl) ?_
      refine lv_bipush (v := nI 31) hx hb dX2_digest_39 (by decide) ?_
      refine lv_imul hx hb dX2_digest_41 ?_
      refine lv_aload_n hx hb dX2_digest_42 rfl (lv_at hl 0 rfl) ?_
      refine va_get (D := (dC, dI)) (ci := 2) (v := .ref (g 1)) (C := RX2) (T := TX2) (N := 6) hx hb hts (by decide +kernel) hown hK hP 0 rfl rfl 0 (by decide) (hts (.fieldLink RX2 9 "RevisionTreeModel" "key" "[I") (by decide +kernel)) (fun _ h9 => h9) rfl dX2_digest_43 ?_
      refine lv_iload hx hb dX2_digest_46 (lv_at hl 3 rfl) ?_
      refine zrdN hx hb hK hP 1 0 rfl rfl (j := 400 * t + q) (by omega) (by decide) dX2_digest_48 ?_
      refine lv_iadd hx hb dX2_digest_49 ?_
      refine lv_istore_n (lv' := [(3, .int (((dgF (fun j => mK w (400 * t + j)) (fun j => mV w (400 * t + j)) (fun j => mS w (400 * t + j)) q) * (nI 31)) + ((mK w) (400 * t + q)))), (0, .ref (g 0)), (2, .int (nI t)), (4, .int (nI (400 * t + q)))]) hx hb dX2_digest_50 rfl hl (by decide) rfl (fun ls hl => ?_)
      refine lv_iload_n hx hb dX2_digest_51 rfl (lv_at hl 0 rfl) ?_
      refine lv_bipush (v := nI 31) hx hb dX2_digest_52 (by decide) ?_
      refine lv_imul hx hb dX2_digest_54 ?_
      refine lv_aload_n hx hb dX2_digest_55 rfl (lv_at hl 1 rfl) ?_
      refine va_get (D := (dC, dI)) (ci := 2) (v := .ref (g 2)) (C := RX2) (T := TX2) (N := 6) hx hb hts (by decide +kernel) hown hK hP 0 rfl rfl 1 (by decide) (hts (.fieldLink RX2 13 "RevisionTreeModel" "value" "[I") (by decide +kernel)) (fun _ h9 => h9) rfl dX2_digest_56 ?_
      refine lv_iload hx hb dX2_digest_59 (lv_at hl 3 rfl) ?_
      refine zrdN hx hb hK hP 2 0 rfl rfl (j := 400 * t + q) (by omega) (by decide) dX2_digest_61 ?_
      refine lv_iadd hx hb dX2_digest_62 ?_
      refine lv_aload_n hx hb dX2_digest_63 rfl (lv_at hl 1 rfl) ?_
      refine va_get (D := (dC, dI)) (ci := 2) (v := .ref (g 3)) (C := RX2) (T := TX2) (N := 6) hx hb hts (by decide +kernel) hown hK hP 0 rfl rfl 2 (by decide) (hts (.fieldLink RX2 16 "RevisionTreeModel" "size" "[I") (by decide +kernel)) (fun _ h9 => h9) rfl dX2_digest_64 ?_
      refine lv_iload hx hb dX2_digest_67 (lv_at hl 3 rfl) ?_
      refine zrdN hx hb hK hP 3 0 rfl rfl (j := 400 * t + q) (by omega) (by decide) dX2_digest_69 ?_
      refine lv_iadd hx hb dX2_digest_70 ?_
      refine lv_istore_n (lv' := [(3, .int ((((((dgF (fun j => mK w (400 * t + j)) (fun j => mV w (400 * t + j)) (fun j => mS w (400 * t + j)) q) * (nI 31)) + ((mK w) (400 * t + q))) * (nI 31)) + ((mV w) (400 * t + q))) + ((mS w) (400 * t + q)))), (0, .ref (g 0)), (2, .int (nI t)), (4, .int (nI (400 * t + q)))]) hx hb dX2_digest_71 rfl hl (by decide) rfl (fun ls hl => ?_)
      refine lv_iinc (v := nI ((400 * t + q) + 1)) (lv' := [(4, .int (nI ((400 * t + q) + 1))), (3, .int ((((((dgF (fun j => mK w (400 * t + j)) (fun j => mV w (400 * t + j)) (fun j => mS w (400 * t + j)) q) * (nI 31)) + ((mK w) (400 * t + q))) * (nI 31)) + ((mV w) (400 * t + q))) + ((mS w) (400 * t + q)))), (0, .ref (g 0)), (2, .int (nI t))]) hx hb dX2_digest_72 hl (k := 3) rfl (zinc _) (by decide) rfl (fun ls hl => ?_)
      refine lv_goto (tgt := 21) hx hb dX2_digest_75 (by decide) ?_
      exact ih (q + 1) _ _ _ ⟨by omega, hP, hS, lv_sub hl [2, 3, 1, 0] rfl⟩ (by show mC w t - (q + 1) < mC w t - q; omega)
  · rw [show mTb (view w) r = aSt (view w) r from if_neg h0]
    refine lv_istore_n (lv' := [(2, .int (aSt (view w) r)), (0, .ref (g 0)), (1, .int r)]) hx hb dX2_digest_5 rfl hl (by decide) rfl (fun ls hl => ?_)
    refine lv_iload_n hx hb dX2_digest_6 rfl (lv_at hl 0 rfl) ?_
    refine lv_if_ge (tgt := 12) hx hb dX2_digest_7 (by decide) (fun h_7 => absurd h_7 (by rcases aSt_c h0 with q | q <;> rw [q] <;> decide)) (fun h_7 => ?_)
    refine lv_iload_n hx hb dX2_digest_10 rfl (lv_at hl 0 rfl) ?_
    exact W.iret (v := aSt (view w) r) hx hb hr (fun t9 ht9 hW9 => ⟨⟨_, (), rfl, (if_neg h0).symm, trivial⟩, hS.F ht9⟩) hS.2.2 dX2_digest_11
