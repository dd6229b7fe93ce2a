set_option maxHeartbeats 4000000 in
set_option maxRecDepth 100000 in
/-- table -/
theorem c_Model_table (l : Launch) (dC : Nat → ClassId) (dI : Nat → Nat → Nat) (cI cT : ClassId) (g : Nat → Nat) (w : MS) (r : Int32) (sz : Nat) (L : Nat) (hok : okR L (view w)) (hL : L < 500000) : Met l yX2_table wsX2_table ({ frames := 0, cells := 0, slots := 0, locals := 0 }) (va_Pc [.ref (g 0), .int r] (zPW (dC, dI) vwCl cI cT (wM g cI w) sz)) (zQi sz (mTb (view w) r)) 0 0 (zfr sz) := by
  refine Met.ofW (cc := cX2_table) (maxL := 2) (ret := (some .int)) (by decide) rfl ?_
  intro p e s m args below meth c s₁ B hml hv
  obtain ⟨rfl, hsz, hP, hK, hD0⟩ := hv
  have hx := B.exec
  have hb := B.bytes
  have hr := B.returns
  have hts := atoms_spec (ws := wsX2_table) B.pre
  have hown : s.vm.findClass RX2 = some m.cls := findClass_of_methodNamed B.named
  have hlocks := B.notSynchronized
  subst hsz
  have hA : ∀ q : Nat, s.heap.size ≤ q → (fun q : Nat => s.heap.size ≤ q) q := fun _ h => h
  have hS : va_S (fun q : Nat => s.heap.size ≤ q) s.heap s.heap [] := va_S.rf
  have hD := hD0
  have hl := lv_entry ([.ref (g 0), .int r]) (n := 2) (Nat.le_of_ble_eq_true rfl)
  rw [lg_entry_eq]
  generalize (lg_sl ([.ref (g 0), .int r]) ++ List.replicate (2 - (lg_sl ([.ref (g 0), .int r])).length) Slot.unset).toArray = ls at hl ⊢
  have hl : lv_has ls 2 [(0, .ref (g 0)), (1, .int r)] := hl
  have hle : ∀ t, t < 4 → mC w t ≤ 400 := fun t ht => by have h9 := (hok.1 t ht).1; rw [view_t w ht] at h9; exact h9
  have hc3 : mC w 3 ≤ 400 := hle 3 (by decide)
  have hlat : mL w ≤ L := hok.2.2
  refine lv_iload_n hx hb dX2_table_0 rfl (lv_at hl 1 rfl) ?_
  refine lv_iconst (v := (-1)) hx hb dX2_table_1 (by decide) ?_
  refine lv_icmp_lt (tgt := 10) hx hb dX2_table_2 (by decide) (fun h_2 => ?_) (fun h_2 => ?_)
  · refine lv_iconst (v := (-1)) hx hb dX2_table_10 (by decide) ?_
    exact W.iret (v := (-1)) hx hb hr (fun t9 ht9 hW9 => ⟨⟨_, (), rfl, (mTb_n (a := view w) (r := r) (v := -1) (by decide) (aSt_out (a := view w) (Or.inl h_2))).symm, trivial⟩, hS.F ht9⟩) hS.2.2 dX2_table_11
  · refine lv_iload_n hx hb dX2_table_5 rfl (lv_at hl 1 rfl) ?_
    refine lv_iconst (v := nI 3) hx hb dX2_table_6 (by decide) ?_
    refine lv_icmp_le (tgt := 12) hx hb dX2_table_7 (by decide) (fun h_7 => ?_) (fun h_7 => ?_)
    · refine lv_iload_n hx hb dX2_table_12 rfl (lv_at hl 1 rfl) ?_
      refine lv_if_ge (tgt := 18) hx hb dX2_table_13 (by decide) (fun h_13 => ?_) (fun h_13 => ?_)
      · obtain ⟨j, hj, rfl, ec⟩ := r_in (i_nl h_13) (r33.mp h_7)
        have hrd : mR w j ≤ mL w := hok.2.1 j hj
        refine lv_aload_n hx hb dX2_table_18 rfl (lv_at hl 0 rfl) ?_
        refine va_get (D := (dC, dI)) (ci := 2) (v := .ref (g 5)) (C := RX2) (T := TX2) (N := 6) hx hb hts (by decide +kernel) hown hK hP 0 rfl rfl 4 (by decide) (hts (.fieldLink RX2 22 "RevisionTreeModel" "reader" "[I") (by decide +kernel)) (fun _ h9 => h9) rfl dX2_table_19 ?_
        refine lv_iload_n hx hb dX2_table_22 rfl (lv_at hl 1 rfl) ?_
        refine zrdN hx hb hK hP 5 0 rfl rfl (j := j) (by omega) (by decide) dX2_table_23 ?_
        refine lv_aload_n hx hb dX2_table_24 rfl (lv_at hl 0 rfl) ?_
        refine va_get (D := (dC, dI)) (ci := 2) (v := .int (nI (mL w))) (C := RX2) (T := TX2) (N := 6) hx hb hts (by decide +kernel) hown hK hP 0 rfl rfl 5 (by decide) (hts (.fieldLink RX2 37 "RevisionTreeModel" "latest" "I") (by decide +kernel)) (fun _ h9 => h9) rfl dX2_table_25 ?_
        refine lv_iconst (v := nI 2) hx hb dX2_table_28 (by decide) ?_
        refine lv_isub hx hb dX2_table_29 ?_
        refine lv_icmp_ge (tgt := 38) hx hb dX2_table_30 (by decide) (fun h_30 => ?_) (fun h_30 => ?_)
        · refine lv_aload_n hx hb dX2_table_38 rfl (lv_at hl 0 rfl) ?_
          refine va_get (D := (dC, dI)) (ci := 2) (v := .ref (g 5)) (C := RX2) (T := TX2) (N := 6) hx hb hts (by decide +kernel) hown hK hP 0 rfl rfl 4 (by decide) (hts (.fieldLink RX2 22 "RevisionTreeModel" "reader" "[I") (by decide +kernel)) (fun _ h9 => h9) rfl dX2_table_39 ?_
          refine lv_iload_n hx hb dX2_table_42 rfl (lv_at hl 1 rfl) ?_
          refine zrdN hx hb hK hP 5 0 rfl rfl (j := j) (by omega) (by decide) dX2_table_43 ?_
          refine lv_iconst (v := nI 3) hx hb dX2_table_44 (by decide) ?_
          refine lv_irem hx hb dX2_table_45 (by decide) ?_
          refine zt (y := nI ((mR w j) % 3)) (pk_rem (by omega) (by omega) (by omega)) ?_
          exact W.iret (v := nI ((mR w j) % 3)) hx hb hr (fun t9 ht9 hW9 => ⟨⟨_, (), rfl, (mTb_z (a := view w) (r := nI j) (t := mR w j % 3) (aSt_ok (a := view w) hj (show ¬ mR w j + 3 ≤ mL w from mr_ge h_30 (by omega) (by omega))) (aTb_j (a := view w) hj)).symm, trivial⟩, hS.F ht9⟩) hS.2.2 dX2_table_46
        · refine lv_bipush (v := (-4)) hx hb dX2_table_33 (by decide) ?_
          refine lv_goto (tgt := 46) hx hb dX2_table_35 (by decide) ?_
          exact W.iret (v := (-4)) hx hb hr (fun t9 ht9 hW9 => ⟨⟨_, (), rfl, (mTb_n (a := view w) (r := nI j) (v := -4) (by decide) (aSt_gone (a := view w) hj (show mR w j + 3 ≤ mL w from mr_lt h_30 (by omega) (by omega)))).symm, trivial⟩, hS.F ht9⟩) hS.2.2 dX2_table_46
      · refine lv_iconst (v := nI 3) hx hb dX2_table_16 (by decide) ?_
        exact W.iret (v := nI 3) hx hb hr (fun t9 ht9 hW9 => ⟨⟨_, (), rfl, (mTb_z (a := view w) (r := r) (t := 3) (aSt_neg (a := view w) h_2 (i_lt h_13)) (aTb_n (a := view w) (i_lt h_13))).symm, trivial⟩, hS.F ht9⟩) hS.2.2 dX2_table_17
    · refine lv_iconst (v := (-1)) hx hb dX2_table_10 (by decide) ?_
      exact W.iret (v := (-1)) hx hb hr (fun t9 ht9 hW9 => ⟨⟨_, (), rfl, (mTb_n (a := view w) (r := r) (v := -1) (by decide) (aSt_out (a := view w) (Or.inr (i_lt (fun q => h_7 (r33.mpr (i_nl q))))))).symm, trivial⟩, hS.F ht9⟩) hS.2.2 dX2_table_11
