set_option maxHeartbeats 4000000 in
set_option maxRecDepth 100000 in
/-- get -/
theorem c_Tree_get (l : Launch) (dC : Nat → ClassId) (dI : Nat → Nat → Nat) (cI cT : ClassId) (g : Nat → Nat) (a : RS) (r k : Int32) (sz : Nat) (L : Nat) (hok : okR L a) (hL : L < 500000) : Met l yX1_get wsX1_get ({ frames := 3, cells := 0, slots := 0, locals := 64 }) (va_Pc [.ref (g 0), .int r, .int k] (zPW (dC, dI) vwCl cI cT (wR g cI cT a) sz)) (zQl sz (aGet a r k)) 0 0 (zfr sz) := by
  refine Met.ofW (cc := cX1_get) (maxL := 6) (ret := (some .long)) (by decide) rfl ?_
  intro p e s m args below meth c s₁ B hml hv
  obtain ⟨rfl, hsz, hP, hK, hD0⟩ := hv
  have hx := B.exec
  have hb := B.bytes
  have hr := B.returns
  have hts := atoms_spec (ws := wsX1_get) B.pre
  have hown : s.vm.findClass RX1 = some m.cls := findClass_of_methodNamed B.named
  have hlocks := B.notSynchronized
  subst hsz
  have hA : ∀ q : Nat, s.heap.size ≤ q → (fun q : Nat => s.heap.size ≤ q) q := fun _ h => h
  have hS : va_S (fun q : Nat => s.heap.size ≤ q) s.heap s.heap [] := va_S.rf
  have hD := hD0
  have hl := lv_entry ([.ref (g 0), .int r, .int k]) (n := 6) (Nat.le_of_ble_eq_true rfl)
  rw [lg_entry_eq]
  generalize (lg_sl ([.ref (g 0), .int r, .int k]) ++ List.replicate (6 - (lg_sl ([.ref (g 0), .int r, .int k])).length) Slot.unset).toArray = ls at hl ⊢
  have hl : lv_has ls 6 [(0, .ref (g 0)), (1, .int r), (2, .int k)] := hl
  have hok3 : okT (tsel a 3) := hok.1 3 (by decide)
  have hlat : rL a ≤ L := hok.2.2
  refine lv_aload_n hx hb dX1_get_0 rfl (lv_at hl 0 rfl) ?_
  refine lv_iload_n hx hb dX1_get_1 rfl (lv_at hl 1 rfl) ?_
  refine zroi (va_runV (As := [.int r]) (rest := []) ⟨hx, hb, hml, hown, hts⟩ (c_Tree_stateOfReader l dC dI cI cT g a r s.heap.size L hok hL) (cwV 1 hts gX1_get_X1_stateOfReader rfl rfl rfl (by decide +kernel) ⟨Nat.le_of_ble_eq_true rfl, Nat.le_of_ble_eq_true rfl⟩) (zpreV hK hP hD rfl 0 rfl) rfl rfl hl.1 rfl (lv_room (Nat.le_of_ble_eq_true rfl)) dX1_get_2 ⟨Nat.le_of_ble_eq_true rfl, Nat.le_of_ble_eq_true rfl⟩) hP hS hA (fun H locs hP hS => ?_)
  refine lv_istore_n (lv' := [(3, .int (aSt a r)), (0, .ref (g 0)), (1, .int r), (2, .int k)]) hx hb dX1_get_5 rfl hl (by decide) rfl (fun ls hl => ?_)
  refine lv_iload_n hx hb dX1_get_6 rfl (lv_at hl 0 rfl) ?_
  refine lv_if_eq (tgt := 17) hx hb dX1_get_7 (by decide) (fun h_7 => ?_) (fun h_7 => ?_)
  · refine lv_aload_n hx hb dX1_get_17 rfl (lv_at hl 1 rfl) ?_
    refine lv_iload_n hx hb dX1_get_18 rfl (lv_at hl 2 rfl) ?_
    refine zror (va_runV (As := [.int r]) (rest := []) ⟨hx, hb, hml, hown, hts⟩ (c_Tree_tableOfReader l dC dI cI cT g a r H.size L hok hL h_7) (cwV 1 hts gX1_get_X1_tableOfReader rfl rfl rfl (by decide +kernel) ⟨Nat.le_of_ble_eq_true rfl, Nat.le_of_ble_eq_true rfl⟩) (zpreV hK hP hD rfl 0 rfl) rfl rfl hl.1 rfl (lv_room (Nat.le_of_ble_eq_true rfl)) dX1_get_19 ⟨Nat.le_of_ble_eq_true rfl, Nat.le_of_ble_eq_true rfl⟩) hP hS hA (fun H locs hP hS => ?_)
    have hPt := wR_t hP (aTb_lt a r)
    have hDt := wR_d hD (aTb_lt a r)
    have hokt : okT (tsel a (aTb a r)) := hok.1 _ (aTb_lt a r)
    have hn : (tsel a (aTb a r)).1 ≤ 400 := hokt.1
    have hpl : tPl (tsel a (aTb a r)) k ≤ (tsel a (aTb a r)).1 := pl_le _ _ _
    refine lv_astore (lv' := [(4, .ref (g (3 + 4 * aTb a r))), (3, .int (aSt a r)), (0, .ref (g 0)), (1, .int r), (2, .int k)]) hx hb dX1_get_22 hl (by decide) rfl (fun ls hl => ?_)
    refine lv_aload hx hb dX1_get_24 (lv_at hl 0 rfl) ?_
    refine lv_iload_n hx hb dX1_get_26 rfl (lv_at hl 4 rfl) ?_
    refine zroi (va_runV (As := [.int k]) (rest := []) ⟨hx, hb, hml, hown, hts⟩ (c_Table_placeOf l dC dI cI cT (g (3 + 4 * aTb a r)) (g (4 + 4 * aTb a r)) (g (5 + 4 * aTb a r)) (g (6 + 4 * aTb a r)) (tsel a (aTb a r)) k H.size hokt) (cwV 1 hts gX1_get_X0_placeOf rfl rfl rfl (by decide +kernel) ⟨Nat.le_of_ble_eq_true rfl, Nat.le_of_ble_eq_true rfl⟩) (zpreV hK hPt hDt rfl 0 rfl) rfl rfl hl.1 rfl (lv_room (Nat.le_of_ble_eq_true rfl)) dX1_get_27 ⟨Nat.le_of_ble_eq_true rfl, Nat.le_of_ble_eq_true rfl⟩) hP hS hA (fun H locs hP hS => ?_)
    have hPt := wR_t hP (aTb_lt a r)
    have hDt := wR_d hD (aTb_lt a r)
    refine lv_istore (lv' := [(5, .int (nI (tPl (tsel a (aTb a r)) k))), (4, .ref (g (3 + 4 * aTb a r))), (3, .int (aSt a r)), (0, .ref (g 0)), (1, .int r), (2, .int k)]) hx hb dX1_get_30 hl (by decide) rfl (fun ls hl => ?_)
    refine lv_aload hx hb dX1_get_32 (lv_at hl 1 rfl) ?_
    refine lv_iload hx hb dX1_get_34 (lv_at hl 0 rfl) ?_
    refine lv_iload_n hx hb dX1_get_36 rfl (lv_at hl 5 rfl) ?_
    refine zroi (va_runV (As := [.int (nI (tPl (tsel a (aTb a r)) k)), .int k]) (rest := []) ⟨hx, hb, hml, hown, hts⟩ (c_Table_hasAt l dC dI cI cT (g (3 + 4 * aTb a r)) (g (4 + 4 * aTb a r)) (g (5 + 4 * aTb a r)) (g (6 + 4 * aTb a r)) (tsel a (aTb a r)) (tPl (tsel a (aTb a r)) k) k H.size hn (by omega)) (cwV 2 hts gX1_get_X0_hasAt rfl rfl rfl (by decide +kernel) ⟨Nat.le_of_ble_eq_true rfl, Nat.le_of_ble_eq_true rfl⟩) (zpreV hK hPt hDt rfl 0 rfl) rfl rfl hl.1 rfl (lv_room (Nat.le_of_ble_eq_true rfl)) dX1_get_37 ⟨Nat.le_of_ble_eq_true rfl, Nat.le_of_ble_eq_true rfl⟩) hP hS hA (fun H locs hP hS => ?_)
    have hPt := wR_t hP (aTb_lt a r)
    have hDt := wR_d hD (aTb_lt a r)
    refine zifeq (tgt := 55) hx hb dX1_get_40 (by decide) (fun h_40 => ?_) (fun h_40 => ?_)
    · refine lv_ldc2 (v := 1099511627774) hx hb hown (hts (.constantLong RX1 70 1099511627774) (by decide +kernel)) dX1_get_55 ?_
      exact W.lret (v := 1099511627774) hx hb hr (fun t9 ht9 hW9 => ⟨⟨_, (), rfl, by unfold aGet; rw [if_pos h_7, if_neg h_40], trivial⟩, hS.F ht9⟩) hS.2.2 dX1_get_58
    · have hlt : tPl (tsel a (aTb a r)) k < (tsel a (aTb a r)).1 := h_40.1
      refine lv_aload hx hb dX1_get_43 (lv_at hl 1 rfl) ?_
      refine va_get (D := (dC, dI)) (ci := 0) (v := .ref (g (5 + 4 * aTb a r))) (C := RX0) (T := TX0) (N := 4) hx hb hts (by decide +kernel) hown hK hPt 0 rfl rfl 1 (by decide) (hts (.fieldLink RX1 67 "RevisionTree$Table" "values" "[I") (by decide +kernel)) (fun _ h9 => h9) rfl dX1_get_45 ?_
      refine lv_iload hx hb dX1_get_48 (lv_at hl 0 rfl) ?_
      refine zrdN hx hb hK hPt 2 0 rfl rfl (j := tPl (tsel a (aTb a r)) k) (by omega) (by decide) dX1_get_50 ?_
      refine lv_i2l hx hb dX1_get_51 rfl ?_
      refine lv_goto (tgt := 58) hx hb dX1_get_52 (by decide) ?_
      exact W.lret (v := (((tsel a (aTb a r)).2.2.1) (tPl (tsel a (aTb a r)) k)).toInt64) hx hb hr (fun t9 ht9 hW9 => ⟨⟨_, (), rfl, by unfold aGet; rw [if_pos h_7, if_pos h_40], trivial⟩, hS.F ht9⟩) hS.2.2 dX1_get_58
  · refine lv_ldc2 (v := 1099511627776) hx hb hown (hts (.constantLong RX1 55 1099511627776) (by decide +kernel)) dX1_get_10 ?_
    refine lv_iload_n hx hb dX1_get_13 rfl (lv_at hl 0 rfl) ?_
    refine lv_i2l hx hb dX1_get_14 rfl ?_
    refine lv_ladd hx hb dX1_get_15 ?_
    exact W.lret (v := 1099511627776 + ((aSt a r).toInt64)) hx hb hr (fun t9 ht9 hW9 => ⟨⟨_, (), rfl, (if_neg h_7).symm, trivial⟩, hS.F ht9⟩) hS.2.2 dX1_get_16
set_option maxHeartbeats 4000000 in
set_option maxRecDepth 100000 in
/-- size -/
theorem c_Tree_size (l : Launch) (dC : Nat → ClassId) (dI : Nat → Nat → Nat) (cI cT : ClassId) (g : Nat → Nat) (a : RS) (r k : Int32) (sz : Nat) (L : Nat) (hok : okR L a) (hL : L < 500000) : Met l yX1_size wsX1_size ({ frames := 3, cells := 0, slots := 0, locals := 64 }) (va_Pc [.ref (g 0), .int r, .int k] (zPW (dC, dI) vwCl cI cT (wR g cI cT a) sz)) (zQi sz (aSize a r k)) 0 0 (zfr sz) := by
  refine Met.ofW (cc := cX1_size) (maxL := 6) (ret := (some .int)) (by decide) rfl ?_
  intro p e s m args below meth c s₁ B hml hv
  obtain ⟨rfl, hsz, hP, hK, hD0⟩ := hv
  have hx := B.exec
  have hb := B.bytes
  have hr := B.returns
  have hts := atoms_spec (ws := wsX1_size) B.pre
  have hown : s.vm.findClass RX1 = some m.cls := findClass_of_methodNamed B.named
  have hlocks := B.notSynchronized
  subst hsz
  have hA : ∀ q : Nat, s.heap.size ≤ q → (fun q : Nat => s.heap.size ≤ q) q := fun _ h => h
  have hS : va_S (fun q : Nat => s.heap.size ≤ q) s.heap s.heap [] := va_S.rf
  have hD := hD0
  have hl := lv_entry ([.ref (g 0), .int r, .int k]) (n := 6) (Nat.le_of_ble_eq_true rfl)
  rw [lg_entry_eq]
  generalize (lg_sl ([.ref (g 0), .int r, .int k]) ++ List.replicate (6 - (lg_sl ([.ref (g 0), .int r, .int k])).length) Slot.unset).toArray = ls at hl ⊢
  have hl : lv_has ls 6 [(0, .ref (g 0)), (1, .int r), (2, .int k)] := hl
  have hok3 : okT (tsel a 3) := hok.1 3 (by decide)
  have hlat : rL a ≤ L := hok.2.2
  refine lv_aload_n hx hb dX1_size_0 rfl (lv_at hl 0 rfl) ?_
  refine lv_iload_n hx hb dX1_size_1 rfl (lv_at hl 1 rfl) ?_
  refine zroi (va_runV (As := [.int r]) (rest := []) ⟨hx, hb, hml, hown, hts⟩ (c_Tree_stateOfReader l dC dI cI cT g a r s.heap.size L hok hL) (cwV 1 hts gX1_size_X1_stateOfReader rfl rfl rfl (by decide +kernel) ⟨Nat.le_of_ble_eq_true rfl, Nat.le_of_ble_eq_true rfl⟩) (zpreV hK hP hD rfl 0 rfl) rfl rfl hl.1 rfl (lv_room (Nat.le_of_ble_eq_true rfl)) dX1_size_2 ⟨Nat.le_of_ble_eq_true rfl, Nat.le_of_ble_eq_true rfl⟩) hP hS hA (fun H locs hP hS => ?_)
  refine lv_istore_n (lv' := [(3, .int (aSt a r)), (0, .ref (g 0)), (1, .int r), (2, .int k)]) hx hb dX1_size_5 rfl hl (by decide) rfl (fun ls hl => ?_)
  refine lv_iload_n hx hb dX1_size_6 rfl (lv_at hl 0 rfl) ?_
  refine lv_if_eq (tgt := 12) hx hb dX1_size_7 (by decide) (fun h_7 => ?_) (fun h_7 => ?_)
  · refine lv_aload_n hx hb dX1_size_12 rfl (lv_at hl 1 rfl) ?_
    refine lv_iload_n hx hb dX1_size_13 rfl (lv_at hl 2 rfl) ?_
    refine zror (va_runV (As := [.int r]) (rest := []) ⟨hx, hb, hml, hown, hts⟩ (c_Tree_tableOfReader l dC dI cI cT g a r H.size L hok hL h_7) (cwV 1 hts gX1_size_X1_tableOfReader rfl rfl rfl (by decide +kernel) ⟨Nat.le_of_ble_eq_true rfl, Nat.le_of_ble_eq_true rfl⟩) (zpreV hK hP hD rfl 0 rfl) rfl rfl hl.1 rfl (lv_room (Nat.le_of_ble_eq_true rfl)) dX1_size_14 ⟨Nat.le_of_ble_eq_true rfl, Nat.le_of_ble_eq_true rfl⟩) hP hS hA (fun H locs hP hS => ?_)
    have hPt := wR_t hP (aTb_lt a r)
    have hDt := wR_d hD (aTb_lt a r)
    have hokt : okT (tsel a (aTb a r)) := hok.1 _ (aTb_lt a r)
    have hn : (tsel a (aTb a r)).1 ≤ 400 := hokt.1
    have hpl : tPl (tsel a (aTb a r)) k ≤ (tsel a (aTb a r)).1 := pl_le _ _ _
    refine lv_astore (lv' := [(4, .ref (g (3 + 4 * aTb a r))), (3, .int (aSt a r)), (0, .ref (g 0)), (1, .int r), (2, .int k)]) hx hb dX1_size_17 hl (by decide) rfl (fun ls hl => ?_)
    refine lv_aload hx hb dX1_size_19 (lv_at hl 0 rfl) ?_
    refine lv_iload_n hx hb dX1_size_21 rfl (lv_at hl 4 rfl) ?_
    refine zroi (va_runV (As := [.int k]) (rest := []) ⟨hx, hb, hml, hown, hts⟩ (c_Table_placeOf l dC dI cI cT (g (3 + 4 * aTb a r)) (g (4 + 4 * aTb a r)) (g (5 + 4 * aTb a r)) (g (6 + 4 * aTb a r)) (tsel a (aTb a r)) k H.size hokt) (cwV 1 hts gX1_size_X0_placeOf rfl rfl rfl (by decide +kernel) ⟨Nat.le_of_ble_eq_true rfl, Nat.le_of_ble_eq_true rfl⟩) (zpreV hK hPt hDt rfl 0 rfl) rfl rfl hl.1 rfl (lv_room (Nat.le_of_ble_eq_true rfl)) dX1_size_22 ⟨Nat.le_of_ble_eq_true rfl, Nat.le_of_ble_eq_true rfl⟩) hP hS hA (fun H locs hP hS => ?_)
    have hPt := wR_t hP (aTb_lt a r)
    have hDt := wR_d hD (aTb_lt a r)
    refine lv_istore (lv' := [(5, .int (nI (tPl (tsel a (aTb a r)) k))), (4, .ref (g (3 + 4 * aTb a r))), (3, .int (aSt a r)), (0, .ref (g 0)), (1, .int r), (2, .int k)]) hx hb dX1_size_25 hl (by decide) rfl (fun ls hl => ?_)
    refine lv_aload hx hb dX1_size_27 (lv_at hl 1 rfl) ?_
    refine lv_iload hx hb dX1_size_29 (lv_at hl 0 rfl) ?_
    refine lv_iload_n hx hb dX1_size_31 rfl (lv_at hl 5 rfl) ?_
    refine zroi (va_runV (As := [.int (nI (tPl (tsel a (aTb a r)) k)), .int k]) (rest := []) ⟨hx, hb, hml, hown, hts⟩ (c_Table_hasAt l dC dI cI cT (g (3 + 4 * aTb a r)) (g (4 + 4 * aTb a r)) (g (5 + 4 * aTb a r)) (g (6 + 4 * aTb a r)) (tsel a (aTb a r)) (tPl (tsel a (aTb a r)) k) k H.size hn (by omega)) (cwV 2 hts gX1_size_X0_hasAt rfl rfl rfl (by decide +kernel) ⟨Nat.le_of_ble_eq_true rfl, Nat.le_of_ble_eq_true rfl⟩) (zpreV hK hPt hDt rfl 0 rfl) rfl rfl hl.1 rfl (lv_room (Nat.le_of_ble_eq_true rfl)) dX1_size_32 ⟨Nat.le_of_ble_eq_true rfl, Nat.le_of_ble_eq_true rfl⟩) hP hS hA (fun H locs hP hS => ?_)
    have hPt := wR_t hP (aTb_lt a r)
    have hDt := wR_d hD (aTb_lt a r)
    refine zifeq (tgt := 49) hx hb dX1_size_35 (by decide) (fun h_35 => ?_) (fun h_35 => ?_)
    · refine lv_bipush (v := (-2)) hx hb dX1_size_49 (by decide) ?_
      exact W.iret (v := (-2)) hx hb hr (fun t9 ht9 hW9 => ⟨⟨_, (), rfl, by unfold aSize; rw [if_pos h_7, if_neg h_35], trivial⟩, hS.F ht9⟩) hS.2.2 dX1_size_51
    · have hlt : tPl (tsel a (aTb a r)) k < (tsel a (aTb a r)).1 := h_35.1
      refine lv_aload hx hb dX1_size_38 (lv_at hl 1 rfl) ?_
      refine va_get (D := (dC, dI)) (ci := 0) (v := .ref (g (6 + 4 * aTb a r))) (C := RX0) (T := TX0) (N := 4) hx hb hts (by decide +kernel) hown hK hPt 0 rfl rfl 2 (by decide) (hts (.fieldLink RX1 78 "RevisionTree$Table" "sizes" "[I") (by decide +kernel)) (fun _ h9 => h9) rfl dX1_size_40 ?_
      refine lv_iload hx hb dX1_size_43 (lv_at hl 0 rfl) ?_
      refine zrdN hx hb hK hPt 3 0 rfl rfl (j := tPl (tsel a (aTb a r)) k) (by omega) (by decide) dX1_size_45 ?_
      refine lv_goto (tgt := 51) hx hb dX1_size_46 (by decide) ?_
      exact W.iret (v := ((tsel a (aTb a r)).2.2.2) (tPl (tsel a (aTb a r)) k)) hx hb hr (fun t9 ht9 hW9 => ⟨⟨_, (), rfl, by unfold aSize; rw [if_pos h_7, if_pos h_35], trivial⟩, hS.F ht9⟩) hS.2.2 dX1_size_51
  · refine lv_iload_n hx hb dX1_size_10 rfl (lv_at hl 0 rfl) ?_
    exact W.iret (v := aSt a r) hx hb hr (fun t9 ht9 hW9 => ⟨⟨_, (), rfl, (if_neg h_7).symm, trivial⟩, hS.F ht9⟩) hS.2.2 dX1_size_11
set_option maxHeartbeats 4000000 in
set_option maxRecDepth 100000 in
/-- next -/
theorem c_Tree_next (l : Launch) (dC : Nat → ClassId) (dI : Nat → Nat → Nat) (cI cT : ClassId) (g : Nat → Nat) (a : RS) (r k : Int32) (sz : Nat) (L : Nat) (hok : okR L a) (hL : L < 500000) : Met l yX1_next wsX1_next ({ frames := 3, cells := 0, slots := 0, locals := 64 }) (va_Pc [.ref (g 0), .int r, .int k] (zPW (dC, dI) vwCl cI cT (wR g cI cT a) sz)) (zQl sz (aNext a r k)) 0 0 (zfr sz) := by
  refine Met.ofW (cc := cX1_next) (maxL := 6) (ret := (some .long)) (by decide) rfl ?_
  intro p e s m args below meth c s₁ B hml hv
  obtain ⟨rfl, hsz, hP, hK, hD0⟩ := hv
  have hx := B.exec
  have hb := B.bytes
  have hr := B.returns
  have hts := atoms_spec (ws := wsX1_next) B.pre
  have hown : s.vm.findClass RX1 = some m.cls := findClass_of_methodNamed B.named
  have hlocks := B.notSynchronized
  subst hsz
  have hA : ∀ q : Nat, s.heap.size ≤ q → (fun q : Nat => s.heap.size ≤ q) q := fun _ h => h
  have hS : va_S (fun q : Nat => s.heap.size ≤ q) s.heap s.heap [] := va_S.rf
  have hD := hD0
  have hl := lv_entry ([.ref (g 0), .int r, .int k]) (n := 6) (Nat.le_of_ble_eq_true rfl)
  rw [lg_entry_eq]
  generalize (lg_sl ([.ref (g 0), .int r, .int k]) ++ List.replicate (6 - (lg_sl ([.ref (g 0), .int r, .int k])).length) Slot.unset).toArray = ls at hl ⊢
  have hl : lv_has ls 6 [(0, .ref (g 0)), (1, .int r), (2, .int k)] := hl
  have hok3 : okT (tsel a 3) := hok.1 3 (by decide)
  have hlat : rL a ≤ L := hok.2.2
  refine lv_aload_n hx hb dX1_next_0 rfl (lv_at hl 0 rfl) ?_
  refine lv_iload_n hx hb dX1_next_1 rfl (lv_at hl 1 rfl) ?_
  refine zroi (va_runV (As := [.int r]) (rest := []) ⟨hx, hb, hml, hown, hts⟩ (c_Tree_stateOfReader l dC dI cI cT g a r s.heap.size L hok hL) (cwV 1 hts gX1_next_X1_stateOfReader rfl rfl rfl (by decide +kernel) ⟨Nat.le_of_ble_eq_true rfl, Nat.le_of_ble_eq_true rfl⟩) (zpreV hK hP hD rfl 0 rfl) rfl rfl hl.1 rfl (lv_room (Nat.le_of_ble_eq_true rfl)) dX1_next_2 ⟨Nat.le_of_ble_eq_true rfl, Nat.le_of_ble_eq_true rfl⟩) hP hS hA (fun H locs hP hS => ?_)
  refine lv_istore_n (lv' := [(3, .int (aSt a r)), (0, .ref (g 0)), (1, .int r), (2, .int k)]) hx hb dX1_next_5 rfl hl (by decide) rfl (fun ls hl => ?_)
  refine lv_iload_n hx hb dX1_next_6 rfl (lv_at hl 0 rfl) ?_
  refine lv_if_eq (tgt := 17) hx hb dX1_next_7 (by decide) (fun h_7 => ?_) (fun h_7 => ?_)
  · refine lv_aload_n hx hb dX1_next_17 rfl (lv_at hl 1 rfl) ?_
    refine lv_iload_n hx hb dX1_next_18 rfl (lv_at hl 2 rfl) ?_
    refine zror (va_runV (As := [.int r]) (rest := []) ⟨hx, hb, hml, hown, hts⟩ (c_Tree_tableOfReader l dC dI cI cT g a r H.size L hok hL h_7) (cwV 1 hts gX1_next_X1_tableOfReader rfl rfl rfl (by decide +kernel) ⟨Nat.le_of_ble_eq_true rfl, Nat.le_of_ble_eq_true rfl⟩) (zpreV hK hP hD rfl 0 rfl) rfl rfl hl.1 rfl (lv_room (Nat.le_of_ble_eq_true rfl)) dX1_next_19 ⟨Nat.le_of_ble_eq_true rfl, Nat.le_of_ble_eq_true rfl⟩) hP hS hA (fun H locs hP hS => ?_)
    have hPt := wR_t hP (aTb_lt a r)
    have hDt := wR_d hD (aTb_lt a r)
    have hokt : okT (tsel a (aTb a r)) := hok.1 _ (aTb_lt a r)
    have hn : (tsel a (aTb a r)).1 ≤ 400 := hokt.1
    have hpl : tPl (tsel a (aTb a r)) k ≤ (tsel a (aTb a r)).1 := pl_le _ _ _
    refine lv_astore (lv' := [(4, .ref (g (3 + 4 * aTb a r))), (3, .int (aSt a r)), (0, .ref (g 0)), (1, .int r), (2, .int k)]) hx hb dX1_next_22 hl (by decide) rfl (fun ls hl => ?_)
    refine lv_aload hx hb dX1_next_24 (lv_at hl 0 rfl) ?_
    refine lv_iload_n hx hb dX1_next_26 rfl (lv_at hl 4 rfl) ?_
    refine zroi (va_runV (As := [.int k]) (rest := []) ⟨hx, hb, hml, hown, hts⟩ (c_Table_placeAbove l dC dI cI cT (g (3 + 4 * aTb a r)) (g (4 + 4 * aTb a r)) (g (5 + 4 * aTb a r)) (g (6 + 4 * aTb a r)) (tsel a (aTb a r)) k H.size hokt) (cwV 1 hts gX1_next_X0_placeAbove rfl rfl rfl (by decide +kernel) ⟨Nat.le_of_ble_eq_true rfl, Nat.le_of_ble_eq_true rfl⟩) (zpreV hK hPt hDt rfl 0 rfl) rfl rfl hl.1 rfl (lv_room (Nat.le_of_ble_eq_true rfl)) dX1_next_27 ⟨Nat.le_of_ble_eq_true rfl, Nat.le_of_ble_eq_true rfl⟩) hP hS hA (fun H locs hP hS => ?_)
    have hPt := wR_t hP (aTb_lt a r)
    have hDt := wR_d hD (aTb_lt a r)
    refine lv_istore (lv' := [(5, .int (nI (tAb (tsel a (aTb a r)) k))), (4, .ref (g (3 + 4 * aTb a r))), (3, .int (aSt a r)), (0, .ref (g 0)), (1, .int r), (2, .int k)]) hx hb dX1_next_30 hl (by decide) rfl (fun ls hl => ?_)
    have hab : tAb (tsel a (aTb a r)) k ≤ (tsel a (aTb a r)).1 + 1 := tAb_le _ _
    refine lv_iload hx hb dX1_next_32 (lv_at hl 0 rfl) ?_
    refine lv_aload hx hb dX1_next_34 (lv_at hl 1 rfl) ?_
    refine va_get (D := (dC, dI)) (ci := 0) (v := .int (nI ((tsel a (aTb a r)).1))) (C := RX0) (T := TX0) (N := 4) hx hb hts (by decide +kernel) hown hK hPt 0 rfl rfl 3 (by decide) (hts (.fieldLink RX1 40 "RevisionTree$Table" "held" "I") (by decide +kernel)) (fun _ h9 => h9) rfl dX1_next_36 ?_
    refine zge (tgt := 54) hx hb dX1_next_39 (by decide) (by omega) (by omega) (fun h_39 => ?_) (fun h_39 => ?_)
    · refine lv_ldc2 (v := 1099511627774) hx hb hown (hts (.constantLong RX1 70 1099511627774) (by decide +kernel)) dX1_next_54 ?_
      exact W.lret (v := 1099511627774) hx hb hr (fun t9 ht9 hW9 => ⟨⟨_, (), rfl, by unfold aNext; rw [if_pos h_7, if_neg (show ¬ tAb (tsel a (aTb a r)) k < (tsel a (aTb a r)).1 by omega)], trivial⟩, hS.F ht9⟩) hS.2.2 dX1_next_57
    · refine lv_aload hx hb dX1_next_42 (lv_at hl 1 rfl) ?_
      refine va_get (D := (dC, dI)) (ci := 0) (v := .ref (g (4 + 4 * aTb a r))) (C := RX0) (T := TX0) (N := 4) hx hb hts (by decide +kernel) hown hK hPt 0 rfl rfl 0 (by decide) (hts (.fieldLink RX1 75 "RevisionTree$Table" "keys" "[I") (by decide +kernel)) (fun _ h9 => h9) rfl dX1_next_44 ?_
      refine lv_iload hx hb dX1_next_47 (lv_at hl 0 rfl) ?_
      refine zrdN hx hb hK hPt 1 0 rfl rfl (j := tAb (tsel a (aTb a r)) k) (by omega) (by decide) dX1_next_49 ?_
      refine lv_i2l hx hb dX1_next_50 rfl ?_
      refine lv_goto (tgt := 57) hx hb dX1_next_51 (by decide) ?_
      exact W.lret (v := (((tsel a (aTb a r)).2.1) (tAb (tsel a (aTb a r)) k)).toInt64) hx hb hr (fun t9 ht9 hW9 => ⟨⟨_, (), rfl, by unfold aNext; rw [if_pos h_7, if_pos h_39], trivial⟩, hS.F ht9⟩) hS.2.2 dX1_next_57
  · refine lv_ldc2 (v := 1099511627776) hx hb hown (hts (.constantLong RX1 55 1099511627776) (by decide +kernel)) dX1_next_10 ?_
    refine lv_iload_n hx hb dX1_next_13 rfl (lv_at hl 0 rfl) ?_
    refine lv_i2l hx hb dX1_next_14 rfl ?_
    refine lv_ladd hx hb dX1_next_15 ?_
    exact W.lret (v := 1099511627776 + ((aSt a r).toInt64)) hx hb hr (fun t9 ht9 hW9 => ⟨⟨_, (), rfl, (if_neg h_7).symm, trivial⟩, hS.F ht9⟩) hS.2.2 dX1_next_16
set_option maxHeartbeats 4000000 in
set_option maxRecDepth 100000 in
/-- count -/
theorem c_Tree_count (l : Launch) (dC : Nat → ClassId) (dI : Nat → Nat → Nat) (cI cT : ClassId) (g : Nat → Nat) (a : RS) (r : Int32) (sz : Nat) (L : Nat) (hok : okR L a) (hL : L < 500000) : Met l yX1_count wsX1_count ({ frames := 3, cells := 0, slots := 0, locals := 64 }) (va_Pc [.ref (g 0), .int r] (zPW (dC, dI) vwCl cI cT (wR g cI cT a) sz)) (zQi sz (aCount a r)) 0 0 (zfr sz) := by
  refine Met.ofW (cc := cX1_count) (maxL := 3) (ret := (some .int)) (by decide) rfl ?_
  intro p e s m args below meth c s₁ B hml hv
  obtain ⟨rfl, hsz, hP, hK, hD0⟩ := hv
  have hx := B.exec
  have hb := B.bytes
  have hr := B.returns
  have hts := atoms_spec (ws := wsX1_count) B.pre
  have hown : s.vm.findClass RX1 = some m.cls := findClass_of_methodNamed B.named
  have hlocks := B.notSynchronized
  subst hsz
  have hA : ∀ q : Nat, s.heap.size ≤ q → (fun q : Nat => s.heap.size ≤ q) q := fun _ h => h
  have hS : va_S (fun q : Nat => s.heap.size ≤ q) s.heap s.heap [] := va_S.rf
  have hD := hD0
  have hl := lv_entry ([.ref (g 0), .int r]) (n := 3) (Nat.le_of_ble_eq_true rfl)
  rw [lg_entry_eq]
  generalize (lg_sl ([.ref (g 0), .int r]) ++ List.replicate (3 - (lg_sl ([.ref (g 0), .int r])).length) Slot.unset).toArray = ls at hl ⊢
  have hl : lv_has ls 3 [(0, .ref (g 0)), (1, .int r)] := hl
  have hok3 : okT (tsel a 3) := hok.1 3 (by decide)
  have hlat : rL a ≤ L := hok.2.2
  refine lv_aload_n hx hb dX1_count_0 rfl (lv_at hl 0 rfl) ?_
  refine lv_iload_n hx hb dX1_count_1 rfl (lv_at hl 1 rfl) ?_
  refine zroi (va_runV (As := [.int r]) (rest := []) ⟨hx, hb, hml, hown, hts⟩ (c_Tree_stateOfReader l dC dI cI cT g a r s.heap.size L hok hL) (cwV 1 hts gX1_count_X1_stateOfReader rfl rfl rfl (by decide +kernel) ⟨Nat.le_of_ble_eq_true rfl, Nat.le_of_ble_eq_true rfl⟩) (zpreV hK hP hD rfl 0 rfl) rfl rfl hl.1 rfl (lv_room (Nat.le_of_ble_eq_true rfl)) dX1_count_2 ⟨Nat.le_of_ble_eq_true rfl, Nat.le_of_ble_eq_true rfl⟩) hP hS hA (fun H locs hP hS => ?_)
  refine lv_istore_n (lv' := [(2, .int (aSt a r)), (0, .ref (g 0)), (1, .int r)]) hx hb dX1_count_5 rfl hl (by decide) rfl (fun ls hl => ?_)
  refine lv_iload_n hx hb dX1_count_6 rfl (lv_at hl 0 rfl) ?_
  refine lv_if_ne (tgt := 21) hx hb dX1_count_7 (by decide) (fun h_7 => ?_) (fun h_7 => ?_)
  · refine lv_iload_n hx hb dX1_count_21 rfl (lv_at hl 0 rfl) ?_
    exact W.iret (v := aSt a r) hx hb hr (fun t9 ht9 hW9 => ⟨⟨_, (), rfl, (if_neg h_7).symm, trivial⟩, hS.F ht9⟩) hS.2.2 dX1_count_22
  · refine lv_aload_n hx hb dX1_count_10 rfl (lv_at hl 1 rfl) ?_
    refine lv_iload_n hx hb dX1_count_11 rfl (lv_at hl 2 rfl) ?_
    refine zror (va_runV (As := [.int r]) (rest := []) ⟨hx, hb, hml, hown, hts⟩ (c_Tree_tableOfReader l dC dI cI cT g a r H.size L hok hL h_7) (cwV 1 hts gX1_count_X1_tableOfReader rfl rfl rfl (by decide +kernel) ⟨Nat.le_of_ble_eq_true rfl, Nat.le_of_ble_eq_true rfl⟩) (zpreV hK hP hD rfl 0 rfl) rfl rfl hl.1 rfl (lv_room (Nat.le_of_ble_eq_true rfl)) dX1_count_12 ⟨Nat.le_of_ble_eq_true rfl, Nat.le_of_ble_eq_true rfl⟩) hP hS hA (fun H locs hP hS => ?_)
    have hPt := wR_t hP (aTb_lt a r)
    have hDt := wR_d hD (aTb_lt a r)
    have hokt : okT (tsel a (aTb a r)) := hok.1 _ (aTb_lt a r)
    have hn : (tsel a (aTb a r)).1 ≤ 400 := hokt.1
    refine va_get (D := (dC, dI)) (ci := 0) (v := .int (nI ((tsel a (aTb a r)).1))) (C := RX0) (T := TX0) (N := 4) hx hb hts (by decide +kernel) hown hK hPt 0 rfl rfl 3 (by decide) (hts (.fieldLink RX1 40 "RevisionTree$Table" "held" "I") (by decide +kernel)) (fun _ h9 => h9) rfl dX1_count_15 ?_
    refine lv_goto (tgt := 22) hx hb dX1_count_18 (by decide) ?_
    exact W.iret (v := nI ((tsel a (aTb a r)).1)) hx hb hr (fun t9 ht9 hW9 => ⟨⟨_, (), rfl, (if_pos h_7).symm, trivial⟩, hS.F ht9⟩) hS.2.2 dX1_count_22
set_option maxHeartbeats 4000000 in
set_option maxRecDepth 100000 in
/-- digest -/
theorem c_Tree_digest (l : Launch) (dC : Nat → ClassId) (dI : Nat → Nat → Nat) (cI cT : ClassId) (g : Nat → Nat) (a : RS) (r : Int32) (sz : Nat) (L : Nat) (hok : okR L a) (hL : L < 500000) : Met l yX1_digest wsX1_digest ({ frames := 3, cells := 0, slots := 0, locals := 64 }) (va_Pc [.ref (g 0), .int r] (zPW (dC, dI) vwCl cI cT (wR g cI cT a) sz)) (zQi sz (aDigest a r)) 0 0 (zfr sz) := by
  refine Met.ofW (cc := cX1_digest) (maxL := 3) (ret := (some .int)) (by decide) rfl ?_
  intro p e s m args below meth c s₁ B hml hv
  obtain ⟨rfl, hsz, hP, hK, hD0⟩ := hv
  have hx := B.exec
  have hb := B.bytes
  have hr := B.returns
  have hts := atoms_spec (ws := wsX1_digest) B.pre
  have hown : s.vm.findClass RX1 = some m.cls := findClass_of_methodNamed B.named
  have hlocks := B.notSynchronized
  subst hsz
  have hA : ∀ q : Nat, s.heap.size ≤ q → (fun q : Nat => s.heap.size ≤ q) q := fun _ h => h
  have hS : va_S (fun q : Nat => s.heap.size ≤ q) s.heap s.heap [] := va_S.rf
  have hD := hD0
  have hl := lv_entry ([.ref (g 0), .int r]) (n := 3) (Nat.le_of_ble_eq_true rfl)
  rw [lg_entry_eq]
  generalize (lg_sl ([.ref (g 0), .int r]) ++ List.replicate (3 - (lg_sl ([.ref (g 0), .int r])).length) Slot.unset).toArray = ls at hl ⊢
  have hl : lv_has ls 3 [(0, .ref (g 0)), (1, .int r)] := hl
  have hok3 : okT (tsel a 3) := hok.1 3 (by decide)
  have hlat : rL a ≤ L := hok.2.2
  refine lv_aload_n hx hb dX1_digest_0 rfl (lv_at hl 0 rfl) ?_
  refine lv_iload_n hx hb dX1_digest_1 rfl (lv_at hl 1 rfl) ?_
  refine zroi (va_runV (As := [.int r]) (rest := []) ⟨hx, hb, hml, hown, hts⟩ (c_Tree_stateOfReader l dC dI cI cT g a r s.heap.size L hok hL) (cwV 1 hts gX1_digest_X1_stateOfReader rfl rfl rfl (by decide +kernel) ⟨Nat.le_of_ble_eq_true rfl, Nat.le_of_ble_eq_true rfl⟩) (zpreV hK hP hD rfl 0 rfl) rfl rfl hl.1 rfl (lv_room (Nat.le_of_ble_eq_true rfl)) dX1_digest_2 ⟨Nat.le_of_ble_eq_true rfl, Nat.le_of_ble_eq_true rfl⟩) hP hS hA (fun H locs hP hS => ?_)
  refine lv_istore_n (lv' := [(2, .int (aSt a r)), (0, .ref (g 0)), (1, .int r)]) hx hb dX1_digest_5 rfl hl (by decide) rfl (fun ls hl => ?_)
  refine lv_iload_n hx hb dX1_digest_6 rfl (lv_at hl 0 rfl) ?_
  refine lv_if_ne (tgt := 21) hx hb dX1_digest_7 (by decide) (fun h_7 => ?_) (fun h_7 => ?_)
  · refine lv_iload_n hx hb dX1_digest_21 rfl (lv_at hl 0 rfl) ?_
    exact W.iret (v := aSt a r) hx hb hr (fun t9 ht9 hW9 => ⟨⟨_, (), rfl, (if_neg h_7).symm, trivial⟩, hS.F ht9⟩) hS.2.2 dX1_digest_22
  · refine lv_aload_n hx hb dX1_digest_10 rfl (lv_at hl 1 rfl) ?_
    refine lv_iload_n hx hb dX1_digest_11 rfl (lv_at hl 2 rfl) ?_
    refine zror (va_runV (As := [.int r]) (rest := []) ⟨hx, hb, hml, hown, hts⟩ (c_Tree_tableOfReader l dC dI cI cT g a r H.size L hok hL h_7) (cwV 1 hts gX1_digest_X1_tableOfReader rfl rfl rfl (by decide +kernel) ⟨Nat.le_of_ble_eq_true rfl, Nat.le_of_ble_eq_true rfl⟩) (zpreV hK hP hD rfl 0 rfl) rfl rfl hl.1 rfl (lv_room (Nat.le_of_ble_eq_true rfl)) dX1_digest_12 ⟨Nat.le_of_ble_eq_true rfl, Nat.le_of_ble_eq_true rfl⟩) hP hS hA (fun H locs hP hS => ?_)
    have hPt := wR_t hP (aTb_lt a r)
    have hDt := wR_d hD (aTb_lt a r)
    have hokt : okT (tsel a (aTb a r)) := hok.1 _ (aTb_lt a r)
    have hn : (tsel a (aTb a r)).1 ≤ 400 := hokt.1
    refine zroi (va_runV (As := []) (rest := []) ⟨hx, hb, hml, hown, hts⟩ (c_Table_fold l dC dI cI cT (g (3 + 4 * aTb a r)) (g (4 + 4 * aTb a r)) (g (5 + 4 * aTb a r)) (g (6 + 4 * aTb a r)) (tsel a (aTb a r)) H.size hn) (cwV 0 hts gX1_digest_X0_fold rfl rfl rfl (by decide +kernel) ⟨Nat.le_of_ble_eq_true rfl, Nat.le_of_ble_eq_true rfl⟩) (zpreV hK hPt hDt rfl 0 rfl) rfl rfl hl.1 rfl (lv_room (Nat.le_of_ble_eq_true rfl)) dX1_digest_15 ⟨Nat.le_of_ble_eq_true rfl, Nat.le_of_ble_eq_true rfl⟩) hP hS hA (fun H locs hP hS => ?_)
    have hPt := wR_t hP (aTb_lt a r)
    have hDt := wR_d hD (aTb_lt a r)
    refine lv_goto (tgt := 22) hx hb dX1_digest_18 (by decide) ?_
    exact W.iret (v := tDg (tsel a (aTb a r))) hx hb hr (fun t9 ht9 hW9 => ⟨⟨_, (), rfl, (if_pos h_7).symm, trivial⟩, hS.F ht9⟩) hS.2.2 dX1_digest_22
