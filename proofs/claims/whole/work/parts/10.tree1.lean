set_option maxHeartbeats 4000000 in
set_option maxRecDepth 100000 in
/-- sizeInRow -/
theorem c_Tree_sizeInRow (l : Launch) (dC : Nat → ClassId) (dI : Nat → Nat → Nat) (cI cT : ClassId) (v : Int32) (i : Nat) (sz : Nat) (hi : i ≤ 1000) : Met l yX1_sizeInRow wsX1_sizeInRow ({ frames := 0, cells := 0, slots := 0, locals := 0 }) (va_Pc [.int v, .int (nI i)] (zPW (dC, dI) vwCl cI cT [] sz)) (zQi sz (zsz v i)) 0 0 (zfr sz) := by
  refine Met.ofW (cc := cX1_sizeInRow) (maxL := 2) (ret := (some .int)) (by decide) rfl ?_
  intro p e s m args below meth c s₁ B hml hv
  obtain ⟨rfl, hsz, hP, hK, hD0⟩ := hv
  have hx := B.exec
  have hb := B.bytes
  have hr := B.returns
  have hts := atoms_spec (ws := wsX1_sizeInRow) B.pre
  have hown : s.vm.findClass RX1 = some m.cls := findClass_of_methodNamed B.named
  have hlocks := B.notSynchronized
  subst hsz
  have hA : ∀ q : Nat, s.heap.size ≤ q → (fun q : Nat => s.heap.size ≤ q) q := fun _ h => h
  have hS : va_S (fun q : Nat => s.heap.size ≤ q) s.heap s.heap [] := va_S.rf
  have hD := hD0
  have hl := lv_entry ([.int v, .int (nI i)]) (n := 2) (Nat.le_of_ble_eq_true rfl)
  rw [lg_entry_eq]
  generalize (lg_sl ([.int v, .int (nI i)]) ++ List.replicate (2 - (lg_sl ([.int v, .int (nI i)])).length) Slot.unset).toArray = ls at hl ⊢
  have hl : lv_has ls 2 [(0, .int v), (1, .int (nI i))] := hl
  refine lv_iload_n hx hb dX1_sizeInRow_0 rfl (lv_at hl 1 rfl) ?_
  refine lv_iconst (v := nI 2) hx hb dX1_sizeInRow_1 (by decide) ?_
  refine lv_irem hx hb dX1_sizeInRow_2 (by decide) ?_
  refine zt (y := nI (i % 2)) (pk_rem (by omega) (by omega) (by omega)) ?_
  refine lv_if_ne (tgt := 10) hx hb dX1_sizeInRow_3 (by decide) (fun h_3 => ?_) (fun h_3 => ?_)
  · refine lv_iload_n hx hb dX1_sizeInRow_10 rfl (lv_at hl 0 rfl) ?_
    refine lv_bipush (v := nI 7) hx hb dX1_sizeInRow_11 (by decide) ?_
    refine lv_iload_n hx hb dX1_sizeInRow_13 rfl (lv_at hl 1 rfl) ?_
    refine lv_imul hx hb dX1_sizeInRow_14 ?_
    refine zt (y := nI (7 * i)) (pk_mul _ _) ?_
    refine lv_iadd hx hb dX1_sizeInRow_15 ?_
    refine lv_bipush (v := nI 127) hx hb dX1_sizeInRow_16 (by decide) ?_
    refine lv_iand hx hb dX1_sizeInRow_18 ?_
    exact W.iret (v := (v + (nI (7 * i))) &&& (nI 127)) hx hb hr (fun t9 ht9 hW9 => ⟨⟨_, (), rfl, (if_neg (fun q => h_3 (show nI (i % 2) = nI 0 by rw [q]))).symm, trivial⟩, hS.F ht9⟩) hS.2.2 dX1_sizeInRow_19
  · refine lv_iconst (v := nI 0) hx hb dX1_sizeInRow_6 (by decide) ?_
    refine lv_goto (tgt := 19) hx hb dX1_sizeInRow_7 (by decide) ?_
    exact W.iret (v := nI 0) hx hb hr (fun t9 ht9 hW9 => ⟨⟨_, (), rfl, (show nI 0 = zsz v i from (if_pos ((nI_eq (by omega) (by omega)).mp (show nI (i % 2) = nI 0 from h_3))).symm), trivial⟩, hS.F ht9⟩) hS.2.2 dX1_sizeInRow_19
set_option maxHeartbeats 4000000 in
set_option maxRecDepth 100000 in
/-- Math.floorMod(n, 3) of a number not below 0 -/
theorem c_floorMod (l : Launch) (dC : Nat → ClassId) (dI : Nat → Nat → Nat) (cI cT : ClassId) (n : Nat) (sz : Nat) (hn : n < 1000000) : Met l yJ9_floorMod_7cf53 wsJ9_floorMod_7cf53 ({ frames := 0, cells := 0, slots := 0, locals := 0 }) (va_Pc [.int (nI n), .int (nI 3)] (zPW (dC, dI) vwCl cI cT [] sz)) (zQi sz (nI (n % 3))) 0 0 (zfr sz) := by
  refine va_MetF (cc := cJ9_floorMod_7cf53) (maxL := 3) (ret := (some .int)) (by decide +kernel) rfl ?_
  intro p e s m args below meth c s₁ B hml hv
  obtain ⟨rfl, hsz, hP, hK, hD0⟩ := hv
  have hx := B.exec
  have hb := B.bytes
  have hr := B.returns
  have hts := atoms_spec (ws := wsJ9_floorMod_7cf53) B.pre
  have hown : s.vm.findClass RJ9 = some m.cls := findClass_of_methodNamed B.named
  have hlocks := B.notSynchronized
  subst hsz
  have hA : ∀ q : Nat, s.heap.size ≤ q → (fun q : Nat => s.heap.size ≤ q) q := fun _ h => h
  have hS : va_S (fun q : Nat => s.heap.size ≤ q) s.heap s.heap [] := va_S.rf
  have hD := hD0
  have hl := lv_entry ([.int (nI n), .int (nI 3)]) (n := 3) (Nat.le_of_ble_eq_true rfl)
  rw [lg_entry_eq]
  generalize (lg_sl ([.int (nI n), .int (nI 3)]) ++ List.replicate (3 - (lg_sl ([.int (nI n), .int (nI 3)])).length) Slot.unset).toArray = ls at hl ⊢
  have hl : lv_has ls 3 [(0, .int (nI n)), (1, .int (nI 3))] := hl
  refine lv_iload_n hx hb dJ9_floorMod_7cf53_0 rfl (lv_at hl 0 rfl) ?_
  refine lv_iload_n hx hb dJ9_floorMod_7cf53_1 rfl (lv_at hl 1 rfl) ?_
  refine lv_irem hx hb dJ9_floorMod_7cf53_2 (by decide) ?_
  refine zt (y := nI (n % 3)) (pk_rem (by omega) (by omega) (by omega)) ?_
  refine lv_istore_n (lv' := [(2, .int (nI (n % 3))), (0, .int (nI n)), (1, .int (nI 3))]) hx hb dJ9_floorMod_7cf53_3 rfl hl (by decide) rfl (fun ls hl => ?_)
  refine lv_iload_n hx hb dJ9_floorMod_7cf53_4 rfl (lv_at hl 1 rfl) ?_
  refine lv_iload_n hx hb dJ9_floorMod_7cf53_5 rfl (lv_at hl 2 rfl) ?_
  refine lv_ixor hx hb dJ9_floorMod_7cf53_6 ?_
  refine lv_if_ge (tgt := 18) hx hb dJ9_floorMod_7cf53_7 (by decide) (fun h_7 => ?_) (fun h_7 => absurd (fm_pos (by omega)) h_7)
  refine lv_iload_n hx hb dJ9_floorMod_7cf53_18 rfl (lv_at hl 0 rfl) ?_
  exact W.iret (v := nI (n % 3)) hx hb hr (fun t9 ht9 hW9 => ⟨⟨_, (), rfl, rfl, trivial⟩, hS.F ht9⟩) hS.2.2 dJ9_floorMod_7cf53_19
set_option maxHeartbeats 4000000 in
set_option maxRecDepth 100000 in
/-- tableOfRevision -/
theorem c_Tree_tableOfRevision (l : Launch) (dC : Nat → ClassId) (dI : Nat → Nat → Nat) (cI cT : ClassId) (g : Nat → Nat) (a : RS) (n : Nat) (sz : Nat) (hn : n < 1000000) : Met l yX1_tableOfRevision wsX1_tableOfRevision ({ frames := 1, cells := 0, slots := 0, locals := 22 }) (va_Pc [.ref (g 0), .int (nI n)] (zPW (dC, dI) vwCl cI cT (wR g cI cT a) sz)) (zQr sz (g (3 + 4 * (n % 3)))) 0 0 (zfr sz) := by
  refine Met.ofW (cc := cX1_tableOfRevision) (maxL := 2) (ret := (some (.object "RevisionTree$Table"))) (by decide) rfl ?_
  intro p e s m args below meth c s₁ B hml hv
  obtain ⟨rfl, hsz, hP, hK, hD0⟩ := hv
  have hx := B.exec
  have hb := B.bytes
  have hr := B.returns
  have hts := atoms_spec (ws := wsX1_tableOfRevision) B.pre
  have hown : s.vm.findClass RX1 = some m.cls := findClass_of_methodNamed B.named
  have hlocks := B.notSynchronized
  subst hsz
  have hA : ∀ q : Nat, s.heap.size ≤ q → (fun q : Nat => s.heap.size ≤ q) q := fun _ h => h
  have hS : va_S (fun q : Nat => s.heap.size ≤ q) s.heap s.heap [] := va_S.rf
  have hD := hD0
  have hl := lv_entry ([.ref (g 0), .int (nI n)]) (n := 2) (Nat.le_of_ble_eq_true rfl)
  rw [lg_entry_eq]
  generalize (lg_sl ([.ref (g 0), .int (nI n)]) ++ List.replicate (2 - (lg_sl ([.ref (g 0), .int (nI n)])).length) Slot.unset).toArray = ls at hl ⊢
  have hl : lv_has ls 2 [(0, .ref (g 0)), (1, .int (nI n))] := hl
  refine lv_aload_n hx hb dX1_tableOfRevision_0 rfl (lv_at hl 0 rfl) ?_
  refine va_get (D := (dC, dI)) (ci := 1) (v := .ref (g 1)) (C := RX1) (T := TX1) (N := 4) hx hb hts (by decide +kernel) hown hK hP 0 rfl rfl 1 (by decide) (hts (.fieldLink RX1 16 "RevisionTree" "kept" "[LRevisionTree$Table;") (by decide +kernel)) (fun _ h9 => h9) rfl dX1_tableOfRevision_1 ?_
  refine lv_iload_n hx hb dX1_tableOfRevision_4 rfl (lv_at hl 1 rfl) ?_
  refine lv_iconst (v := nI 3) hx hb dX1_tableOfRevision_5 (by decide) ?_
  refine zroi (va_runS (As := [.int (nI n), .int (nI 3)]) (rest := [.ref (g 1)]) ⟨hx, hb, hml, hown, hts⟩ (c_floorMod l dC dI cI cT n s.heap.size hn) (va_cwS 2 hts gX1_tableOfRevision_J9_floorMod_7cf53 rfl rfl rfl (by decide +kernel) ⟨Nat.le_of_ble_eq_true rfl, Nat.le_of_ble_eq_true rfl⟩) (zpreS hK (wc := []) (hP.sub [] rfl) (hD.sub [] (by decide) rfl)) rfl rfl hl.1 rfl (lv_room (Nat.le_of_ble_eq_true rfl)) dX1_tableOfRevision_6 ⟨Nat.le_of_ble_eq_true rfl, Nat.le_of_ble_eq_true rfl⟩) hP hS hA (fun H locs hP hS => ?_)
  refine va_aldq hx hb hK hP 1 1 rfl rfl (vp_in_nI (show n % 3 < 3 by omega) (by decide)) dX1_tableOfRevision_9 ?_
  refine ztr (y := .ref (g (3 + 4 * (n % 3)))) (by rw [nI_clamp (by omega)]; rfl) ?_
  exact W.aret hx hb hr (Or.inl ⟨_, rfl⟩) (Or.inr ⟨_, rfl⟩) (fun t9 ht9 hW9 => ⟨⟨(), _, rfl, trivial, rfl⟩, hS.F ht9⟩) hS.2.2 dX1_tableOfRevision_10
set_option maxHeartbeats 4000000 in
set_option maxRecDepth 100000 in
/-- stateOfReader -/
theorem c_Tree_stateOfReader (l : Launch) (dC : Nat → ClassId) (dI : Nat → Nat → Nat) (cI cT : ClassId) (g : Nat → Nat) (a : RS) (r : Int32) (sz : Nat) (L : Nat) (hok : okR L a) (hL : L < 500000) : Met l yX1_stateOfReader wsX1_stateOfReader ({ frames := 0, cells := 0, slots := 0, locals := 0 }) (va_Pc [.ref (g 0), .int r] (zPW (dC, dI) vwCl cI cT (wR g cI cT a) sz)) (zQi sz (aSt a r)) 0 0 (zfr sz) := by
  refine Met.ofW (cc := cX1_stateOfReader) (maxL := 2) (ret := (some .int)) (by decide) rfl ?_
  intro p e s m args below meth c s₁ B hml hv
  obtain ⟨rfl, hsz, hP, hK, hD0⟩ := hv
  have hx := B.exec
  have hb := B.bytes
  have hr := B.returns
  have hts := atoms_spec (ws := wsX1_stateOfReader) B.pre
  have hown : s.vm.findClass RX1 = some m.cls := findClass_of_methodNamed B.named
  have hlocks := B.notSynchronized
  subst hsz
  have hA : ∀ q : Nat, s.heap.size ≤ q → (fun q : Nat => s.heap.size ≤ q) q := fun _ h => h
  have hS : va_S (fun q : Nat => s.heap.size ≤ q) s.heap s.heap [] := va_S.rf
  have hD := hD0
  have hl := lv_entry ([.ref (g 0), .int r]) (n := 2) (Nat.le_of_ble_eq_true rfl)
  rw [lg_entry_eq]
  generalize (lg_sl ([.ref (g 0), .int r]) ++ List.replicate (2 - (lg_sl ([.ref (g 0), .int r])).length) Slot.unset).toArray = ls at hl ⊢
  have hl : lv_has ls 2 [(0, .ref (g 0)), (1, .int r)] := hl
  have hok3 : okT (tsel a 3) := hok.1 3 (by decide)
  have hlat : rL a ≤ L := hok.2.2
  refine lv_iload_n hx hb dX1_stateOfReader_0 rfl (lv_at hl 1 rfl) ?_
  refine lv_iconst (v := (-1)) hx hb dX1_stateOfReader_1 (by decide) ?_
  refine lv_icmp_lt (tgt := 10) hx hb dX1_stateOfReader_2 (by decide) (fun h_2 => ?_) (fun h_2 => ?_)
  · refine lv_iconst (v := (-1)) hx hb dX1_stateOfReader_10 (by decide) ?_
    exact W.iret (v := (-1)) hx hb hr (fun t9 ht9 hW9 => ⟨⟨_, (), rfl, (aSt_out (Or.inl h_2)).symm, trivial⟩, hS.F ht9⟩) hS.2.2 dX1_stateOfReader_11
  · refine lv_iload_n hx hb dX1_stateOfReader_5 rfl (lv_at hl 1 rfl) ?_
    refine lv_iconst (v := nI 4) hx hb dX1_stateOfReader_6 (by decide) ?_
    refine lv_icmp_lt (tgt := 12) hx hb dX1_stateOfReader_7 (by decide) (fun h_7 => ?_) (fun h_7 => ?_)
    · refine lv_iload_n hx hb dX1_stateOfReader_12 rfl (lv_at hl 1 rfl) ?_
      refine lv_if_lt (tgt := 34) hx hb dX1_stateOfReader_13 (by decide) (fun h_13 => ?_) (fun h_13 => ?_)
      · refine lv_iconst (v := nI 0) hx hb dX1_stateOfReader_34 (by decide) ?_
        exact W.iret (v := nI 0) hx hb hr (fun t9 ht9 hW9 => ⟨⟨_, (), rfl, (aSt_neg h_2 h_13).symm, trivial⟩, hS.F ht9⟩) hS.2.2 dX1_stateOfReader_35
      · obtain ⟨j, hj, rfl, ec⟩ := r_in h_13 (r43.mp h_7)
        have hrd : rRd a j ≤ rL a := hok.2.1 j hj
        refine lv_aload_n hx hb dX1_stateOfReader_16 rfl (lv_at hl 0 rfl) ?_
        refine va_get (D := (dC, dI)) (ci := 1) (v := .int (nI (rL a))) (C := RX1) (T := TX1) (N := 4) hx hb hts (by decide +kernel) hown hK hP 0 rfl rfl 3 (by decide) (hts (.fieldLink RX1 24 "RevisionTree" "latest" "I") (by decide +kernel)) (fun _ h9 => h9) rfl dX1_stateOfReader_17 ?_
        refine lv_aload_n hx hb dX1_stateOfReader_20 rfl (lv_at hl 0 rfl) ?_
        refine va_get (D := (dC, dI)) (ci := 1) (v := .ref (g 2)) (C := RX1) (T := TX1) (N := 4) hx hb hts (by decide +kernel) hown hK hP 0 rfl rfl 2 (by decide) (hts (.fieldLink RX1 20 "RevisionTree" "revisionOfReader" "[I") (by decide +kernel)) (fun _ h9 => h9) rfl dX1_stateOfReader_21 ?_
        refine lv_iload_n hx hb dX1_stateOfReader_24 rfl (lv_at hl 1 rfl) ?_
        refine zrdN hx hb hK hP 2 0 rfl rfl (j := j) (by omega) (by decide) dX1_stateOfReader_25 ?_
        refine lv_isub hx hb dX1_stateOfReader_26 ?_
        refine zt (y := nI ((rL a) - (rRd a j))) (pk_sub (by omega)) ?_
        refine lv_iconst (v := nI 3) hx hb dX1_stateOfReader_27 (by decide) ?_
        refine zlt (tgt := 34) hx hb dX1_stateOfReader_28 (by decide) (by omega) (by omega) (fun h_28 => ?_) (fun h_28 => ?_)
        · refine lv_iconst (v := nI 0) hx hb dX1_stateOfReader_34 (by decide) ?_
          exact W.iret (v := nI 0) hx hb hr (fun t9 ht9 hW9 => ⟨⟨_, (), rfl, (aSt_ok hj (by omega)).symm, trivial⟩, hS.F ht9⟩) hS.2.2 dX1_stateOfReader_35
        · refine lv_bipush (v := (-4)) hx hb dX1_stateOfReader_31 (by decide) ?_
          exact W.iret (v := (-4)) hx hb hr (fun t9 ht9 hW9 => ⟨⟨_, (), rfl, (aSt_gone hj (by omega)).symm, trivial⟩, hS.F ht9⟩) hS.2.2 dX1_stateOfReader_33
    · refine lv_iconst (v := (-1)) hx hb dX1_stateOfReader_10 (by decide) ?_
      exact W.iret (v := (-1)) hx hb hr (fun t9 ht9 hW9 => ⟨⟨_, (), rfl, (aSt_out (Or.inr (i_lt (fun q => h_7 (r43.mpr (i_nl q)))))).symm, trivial⟩, hS.F ht9⟩) hS.2.2 dX1_stateOfReader_11
set_option maxHeartbeats 4000000 in
set_option maxRecDepth 100000 in
/-- tableOfReader, of a reader that may read -/
theorem c_Tree_tableOfReader (l : Launch) (dC : Nat → ClassId) (dI : Nat → Nat → Nat) (cI cT : ClassId) (g : Nat → Nat) (a : RS) (r : Int32) (sz : Nat) (L : Nat) (hok : okR L a) (hL : L < 500000) (h0 : aSt a r = 0) : Met l yX1_tableOfReader wsX1_tableOfReader ({ frames := 2, cells := 0, slots := 0, locals := 43 }) (va_Pc [.ref (g 0), .int r] (zPW (dC, dI) vwCl cI cT (wR g cI cT a) sz)) (zQr sz (g (3 + 4 * aTb a r))) 0 0 (zfr sz) := by
  refine Met.ofW (cc := cX1_tableOfReader) (maxL := 2) (ret := (some (.object "RevisionTree$Table"))) (by decide) rfl ?_
  intro p e s m args below meth c s₁ B hml hv
  obtain ⟨rfl, hsz, hP, hK, hD0⟩ := hv
  have hx := B.exec
  have hb := B.bytes
  have hr := B.returns
  have hts := atoms_spec (ws := wsX1_tableOfReader) B.pre
  have hown : s.vm.findClass RX1 = some m.cls := findClass_of_methodNamed B.named
  have hlocks := B.notSynchronized
  subst hsz
  have hA : ∀ q : Nat, s.heap.size ≤ q → (fun q : Nat => s.heap.size ≤ q) q := fun _ h => h
  have hS : va_S (fun q : Nat => s.heap.size ≤ q) s.heap s.heap [] := va_S.rf
  have hD := hD0
  have hl := lv_entry ([.ref (g 0), .int r]) (n := 2) (Nat.le_of_ble_eq_true rfl)
  rw [lg_entry_eq]
  generalize (lg_sl ([.ref (g 0), .int r]) ++ List.replicate (2 - (lg_sl ([.ref (g 0), .int r])).length) Slot.unset).toArray = ls at hl ⊢
  have hl : lv_has ls 2 [(0, .ref (g 0)), (1, .int r)] := hl
  have hok3 : okT (tsel a 3) := hok.1 3 (by decide)
  have hlat : rL a ≤ L := hok.2.2
  refine lv_iload_n hx hb dX1_tableOfReader_0 rfl (lv_at hl 1 rfl) ?_
  refine lv_if_ge (tgt := 11) hx hb dX1_tableOfReader_1 (by decide) (fun h_1 => ?_) (fun h_1 => ?_)
  · obtain ⟨j, hj, rfl, ec⟩ := r_in (i_nl h_1) (aSt_0 h0).2
    have hrd : rRd a j ≤ rL a := hok.2.1 j hj
    refine lv_aload_n hx hb dX1_tableOfReader_11 rfl (lv_at hl 0 rfl) ?_
    refine lv_aload_n hx hb dX1_tableOfReader_12 rfl (lv_at hl 0 rfl) ?_
    refine va_get (D := (dC, dI)) (ci := 1) (v := .ref (g 2)) (C := RX1) (T := TX1) (N := 4) hx hb hts (by decide +kernel) hown hK hP 0 rfl rfl 2 (by decide) (hts (.fieldLink RX1 20 "RevisionTree" "revisionOfReader" "[I") (by decide +kernel)) (fun _ h9 => h9) rfl dX1_tableOfReader_13 ?_
    refine lv_iload_n hx hb dX1_tableOfReader_16 rfl (lv_at hl 1 rfl) ?_
    refine zrdN hx hb hK hP 2 0 rfl rfl (j := j) (by omega) (by decide) dX1_tableOfReader_17 ?_
    refine zror (va_runV (As := [.int (nI (rRd a j))]) (rest := []) ⟨hx, hb, hml, hown, hts⟩ (c_Tree_tableOfRevision l dC dI cI cT g a (rRd a j) s.heap.size (by omega)) (cwV 1 hts gX1_tableOfReader_X1_tableOfRevision rfl rfl rfl (by decide +kernel) ⟨Nat.le_of_ble_eq_true rfl, Nat.le_of_ble_eq_true rfl⟩) (zpreV hK hP hD rfl 0 rfl) rfl rfl hl.1 rfl (lv_room (Nat.le_of_ble_eq_true rfl)) dX1_tableOfReader_18 ⟨Nat.le_of_ble_eq_true rfl, Nat.le_of_ble_eq_true rfl⟩) hP hS hA (fun H locs hP hS => ?_)
    exact W.aret hx hb hr (Or.inl ⟨_, rfl⟩) (Or.inr ⟨_, rfl⟩) (fun t9 ht9 hW9 => ⟨⟨(), _, rfl, trivial, by show g (3 + 4 * (rRd a j % 3)) = g (3 + 4 * aTb a (nI j)); rw [aTb_j hj]⟩, hS.F ht9⟩) hS.2.2 dX1_tableOfReader_21
  · refine lv_aload_n hx hb dX1_tableOfReader_4 rfl (lv_at hl 0 rfl) ?_
    refine va_get (D := (dC, dI)) (ci := 1) (v := .ref (g 15)) (C := RX1) (T := TX1) (N := 4) hx hb hts (by decide +kernel) hown hK hP 0 rfl rfl 0 (by decide) (hts (.fieldLink RX1 10 "RevisionTree" "worked" "LRevisionTree$Table;") (by decide +kernel)) (fun _ h9 => h9) rfl dX1_tableOfReader_5 ?_
    refine lv_goto (tgt := 21) hx hb dX1_tableOfReader_8 (by decide) ?_
    exact W.aret hx hb hr (Or.inl ⟨_, rfl⟩) (Or.inr ⟨_, rfl⟩) (fun t9 ht9 hW9 => ⟨⟨(), _, rfl, trivial, by show g 15 = g (3 + 4 * aTb a r); rw [aTb_n (i_lt h_1)]⟩, hS.F ht9⟩) hS.2.2 dX1_tableOfReader_21
