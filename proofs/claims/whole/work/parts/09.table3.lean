set_option maxHeartbeats 4000000 in
set_option maxRecDepth 100000 in
/-- enter: a key comes in, or its value and size are written over -/
theorem c_Table_enter (l : Launch) (dC : Nat → ClassId) (dI : Nat → Nat → Nat) (cI cT : ClassId) (u0 u1 u2 u3 : Nat) (T : TB) (k v z : Int32) (sz : Nat) (hok : okT T) : Met l yX0_enter wsX0_enter ({ frames := 2, cells := 0, slots := 0, locals := 41 }) (va_Pc [.ref u0, .int k, .int v, .int z] (zPW (dC, dI) vwCl cI cT (wT u0 u1 u2 u3 cI T) sz)) (va_Qi (fun (r : Int32) (u : TB) => r = (tEnter T k v z).1 ∧ eqT u (tEnter T k v z).2) (fun u t => va_P (dC, dI) vwCl (wT u0 u1 u2 u3 cI u) t.heap) (va_A (wT u0 u1 u2 u3 cI T) sz)) 0 0 (va_A (wT u0 u1 u2 u3 cI T) sz) := by
  refine Met.ofW (cc := cX0_enter) (maxL := 6) (ret := (some .int)) (by decide) rfl ?_
  intro p e s m args below meth c s₁ B hml hv
  obtain ⟨rfl, hsz, hP, hK, hD0⟩ := hv
  have hx := B.exec
  have hb := B.bytes
  have hr := B.returns
  have hts := atoms_spec (ws := wsX0_enter) B.pre
  have hown : s.vm.findClass RX0 = some m.cls := findClass_of_methodNamed B.named
  have hlocks := B.notSynchronized
  subst hsz
  have hD := hD0.self (sz := s.heap.size)
  generalize hAe : va_A (wT u0 u1 u2 u3 cI T) s.heap.size = A at hD ⊢
  have hA : ∀ q : Nat, s.heap.size ≤ q → A q := fun q h => by rw [← hAe]; exact Or.inr h
  have hS : va_S A s.heap s.heap [] := va_S.rf
  have hl := lv_entry ([.ref u0, .int k, .int v, .int z]) (n := 6) (Nat.le_of_ble_eq_true rfl)
  rw [lg_entry_eq]
  generalize (lg_sl ([.ref u0, .int k, .int v, .int z]) ++ List.replicate (6 - (lg_sl ([.ref u0, .int k, .int v, .int z])).length) Slot.unset).toArray = ls at hl ⊢
  have hl : lv_has ls 6 [(0, .ref u0), (1, .int k), (2, .int v), (3, .int z)] := hl
  obtain ⟨hn, hs⟩ := id hok
  have hpl : tPl T k ≤ T.1 := pl_le _ _ _
  refine lv_aload_n hx hb dX0_enter_0 rfl (lv_at hl 0 rfl) ?_
  refine lv_iload_n hx hb dX0_enter_1 rfl (lv_at hl 1 rfl) ?_
  refine zroi (va_runV (As := [.int k]) (rest := []) ⟨hx, hb, hml, hown, hts⟩ (c_Table_placeOf l dC dI cI cT u0 u1 u2 u3 T k s.heap.size hok) (cwV 1 hts gX0_enter_X0_placeOf rfl rfl rfl (by decide +kernel) ⟨Nat.le_of_ble_eq_true rfl, Nat.le_of_ble_eq_true rfl⟩) (zpreV hK hP hD rfl 0 rfl) rfl rfl hl.1 rfl (lv_room (Nat.le_of_ble_eq_true rfl)) dX0_enter_2 ⟨Nat.le_of_ble_eq_true rfl, Nat.le_of_ble_eq_true rfl⟩) hP hS hA (fun H locs hP hS => ?_)
  refine lv_istore (lv' := [(4, .int (nI (tPl T k))), (0, .ref u0), (1, .int k), (2, .int v), (3, .int z)]) hx hb dX0_enter_5 hl (by decide) rfl (fun ls hl => ?_)
  refine lv_aload_n hx hb dX0_enter_7 rfl (lv_at hl 1 rfl) ?_
  refine lv_iload hx hb dX0_enter_8 (lv_at hl 0 rfl) ?_
  refine lv_iload_n hx hb dX0_enter_10 rfl (lv_at hl 2 rfl) ?_
  refine zroi (va_runV (As := [.int (nI (tPl T k)), .int k]) (rest := []) ⟨hx, hb, hml, hown, hts⟩ (c_Table_hasAt l dC dI cI cT u0 u1 u2 u3 T (tPl T k) k H.size hn (by omega)) (cwV 2 hts gX0_enter_X0_hasAt rfl rfl rfl (by decide +kernel) ⟨Nat.le_of_ble_eq_true rfl, Nat.le_of_ble_eq_true rfl⟩) (zpreV hK hP hD rfl 0 rfl) rfl rfl hl.1 rfl (lv_room (Nat.le_of_ble_eq_true rfl)) dX0_enter_11 ⟨Nat.le_of_ble_eq_true rfl, Nat.le_of_ble_eq_true rfl⟩) hP hS hA (fun H locs hP hS => ?_)
  refine zifne (tgt := 21) hx hb dX0_enter_14 (by decide) (fun h_14 => ?_) (fun h_14 => ?_)
  · have hpl4 : tPl T k < 400 := by have := h_14.1; omega
    refine lv_iconst (v := nI 0) hx hb dX0_enter_21 (by decide) ?_
    refine lv_istore (lv' := [(5, .int (nI 0)), (4, .int (nI (tPl T k))), (0, .ref u0), (1, .int k), (2, .int v), (3, .int z)]) hx hb dX0_enter_22 hl (by decide) rfl (fun ls hl => ?_)
    refine lv_iload hx hb dX0_enter_24 (lv_at hl 0 rfl) ?_
    refine lv_if_eq (tgt := 70) hx hb dX0_enter_26 (by decide) (fun h_26 => ?_) (fun h_26 => absurd (by decide) h_26)
    refine lv_aload_n hx hb dX0_enter_70 rfl (lv_at hl 2 rfl) ?_
    refine va_get (D := (dC, dI)) (ci := 0) (v := .ref u2) (C := RX0) (T := TX0) (N := 4) hx hb hts (by decide +kernel) hown hK hP 0 rfl rfl 1 (by decide) (hts (.fieldLink RX0 15 "RevisionTree$Table" "values" "[I") (by decide +kernel)) (fun _ h9 => h9) rfl dX0_enter_71 ?_
    refine lv_iload hx hb dX0_enter_74 (lv_at hl 1 rfl) ?_
    refine lv_iload_n hx hb dX0_enter_76 rfl (lv_at hl 4 rfl) ?_
    refine zwrN hx hb hK hP hD hS 2 0 rfl rfl (j := tPl T k) (by omega) (by decide) dX0_enter_77 (fun H locs hP hD hS => ?_)
    have hP : va_P (dC, dI) vwCl [(u0, .inr (0, [.ref u1, .ref u2, .ref u3, .int (nI T.1)])), (u1, .inl (cI, 400, .inl T.2.1)), (u2, .inl (cI, 400, .inl (upd T.2.2.1 (tPl T k) v))), (u3, .inl (cI, 400, .inl T.2.2.2))] H := hP
    have hD : va_D A [(u0, .inr (0, [.ref u1, .ref u2, .ref u3, .int (nI T.1)])), (u1, .inl (cI, 400, .inl T.2.1)), (u2, .inl (cI, 400, .inl (upd T.2.2.1 (tPl T k) v))), (u3, .inl (cI, 400, .inl T.2.2.2))] := hD
    refine lv_aload_n hx hb dX0_enter_78 rfl (lv_at hl 2 rfl) ?_
    refine va_get (D := (dC, dI)) (ci := 0) (v := .ref u3) (C := RX0) (T := TX0) (N := 4) hx hb hts (by decide +kernel) hown hK hP 0 rfl rfl 2 (by decide) (hts (.fieldLink RX0 18 "RevisionTree$Table" "sizes" "[I") (by decide +kernel)) (fun _ h9 => h9) rfl dX0_enter_79 ?_
    refine lv_iload hx hb dX0_enter_82 (lv_at hl 1 rfl) ?_
    refine lv_iload_n hx hb dX0_enter_84 rfl (lv_at hl 5 rfl) ?_
    refine zwrN hx hb hK hP hD hS 3 0 rfl rfl (j := tPl T k) (by omega) (by decide) dX0_enter_85 (fun H locs hP hD hS => ?_)
    have hP : va_P (dC, dI) vwCl [(u0, .inr (0, [.ref u1, .ref u2, .ref u3, .int (nI T.1)])), (u1, .inl (cI, 400, .inl T.2.1)), (u2, .inl (cI, 400, .inl (upd T.2.2.1 (tPl T k) v))), (u3, .inl (cI, 400, .inl (upd T.2.2.2 (tPl T k) z)))] H := hP
    have hD : va_D A [(u0, .inr (0, [.ref u1, .ref u2, .ref u3, .int (nI T.1)])), (u1, .inl (cI, 400, .inl T.2.1)), (u2, .inl (cI, 400, .inl (upd T.2.2.1 (tPl T k) v))), (u3, .inl (cI, 400, .inl (upd T.2.2.2 (tPl T k) z)))] := hD
    refine lv_iload hx hb dX0_enter_86 (lv_at hl 0 rfl) ?_
    refine lv_if_eq (tgt := 95) hx hb dX0_enter_88 (by decide) (fun h_88 => ?_) (fun h_88 => absurd (by decide) h_88)
    refine lv_iconst (v := nI 0) hx hb dX0_enter_95 (by decide) ?_
    exact W.iret (v := nI 0) hx hb hr (fun t9 ht9 hW9 => ⟨⟨_, (T.1, T.2.1, upd T.2.2.1 (tPl T k) v, upd T.2.2.2 (tPl T k) z), rfl, by rw [tEnter_h v z h_14]; exact ⟨rfl, eqT_rf⟩, by show va_P _ _ _ t9.heap; rw [ht9]; exact hP⟩, hS.F ht9⟩) hS.2.2 dX0_enter_96
  · refine lv_iconst (v := nI 1) hx hb dX0_enter_17 (by decide) ?_
    refine lv_goto (tgt := 22) hx hb dX0_enter_18 (by decide) ?_
    refine lv_istore (lv' := [(5, .int (nI 1)), (4, .int (nI (tPl T k))), (0, .ref u0), (1, .int k), (2, .int v), (3, .int z)]) hx hb dX0_enter_22 hl (by decide) rfl (fun ls hl => ?_)
    refine lv_iload hx hb dX0_enter_24 (lv_at hl 0 rfl) ?_
    refine lv_if_eq (tgt := 70) hx hb dX0_enter_26 (by decide) (fun h_26 => absurd h_26 (by decide)) (fun h_26 => ?_)
    refine lv_aload_n hx hb dX0_enter_29 rfl (lv_at hl 2 rfl) ?_
    refine va_get (D := (dC, dI)) (ci := 0) (v := .int (nI T.1)) (C := RX0) (T := TX0) (N := 4) hx hb hts (by decide +kernel) hown hK hP 0 rfl rfl 3 (by decide) (hts (.fieldLink RX0 21 "RevisionTree$Table" "held" "I") (by decide +kernel)) (fun _ h9 => h9) rfl dX0_enter_30 ?_
    refine lv_sipush (v := nI 400) hx hb dX0_enter_33 (by decide) ?_
    refine zlt (tgt := 42) hx hb dX0_enter_36 (by decide) (by omega) (by omega) (fun h_36 => ?_) (fun h_36 => ?_)
    · have hpl4 : tPl T k < 400 := by omega
      refine lv_aload_n hx hb dX0_enter_42 rfl (lv_at hl 2 rfl) ?_
      refine lv_iload hx hb dX0_enter_43 (lv_at hl 1 rfl) ?_
      refine lv_iload hx hb dX0_enter_45 (lv_at hl 1 rfl) ?_
      refine lv_iconst (v := nI 1) hx hb dX0_enter_47 (by decide) ?_
      refine lv_iadd hx hb dX0_enter_48 ?_
      refine zt (y := nI ((tPl T k) + 1)) (nI_add _ _) ?_
      refine zwrv (w1 := fun u : TB => wT u0 u1 u2 u3 cI u) (va_runV (As := [.int (nI (tPl T k)), .int (nI ((tPl T k) + 1))]) (rest := []) ⟨hx, hb, hml, hown, hts⟩ (c_Table_shift l dC dI cI cT u0 u1 u2 u3 T (tPl T k) (tPl T k + 1) H.size hn (by omega) (by omega) (by omega)) (cwV 2 hts gX0_enter_X0_shift rfl rfl rfl (by decide +kernel) ⟨Nat.le_of_ble_eq_true rfl, Nat.le_of_ble_eq_true rfl⟩) (zpreV hK (hP.sub [0, 1, 2, 3] rfl) (hD.sub [0, 1, 2, 3] (by decide) rfl) rfl 0 rfl) rfl rfl hl.1 rfl (lv_room (Nat.le_of_ble_eq_true rfl)) dX0_enter_49 ⟨Nat.le_of_ble_eq_true rfl, Nat.le_of_ble_eq_true rfl⟩) hP hD hS hA [0, 1, 2, 3] rfl (fun _ => rfl) (fun _ => rfl) (fun u H locs hw hP hD hS => ?_)
      subst hw
      have hP : va_P (dC, dI) vwCl [(u0, .inr (0, [.ref u1, .ref u2, .ref u3, .int (nI T.1)])), (u1, .inl (cI, 400, .inl (va_cpy T.2.1 T.2.1 (tPl T k) (tPl T k + 1) (T.1 - (tPl T k))))), (u2, .inl (cI, 400, .inl (va_cpy T.2.2.1 T.2.2.1 (tPl T k) (tPl T k + 1) (T.1 - (tPl T k))))), (u3, .inl (cI, 400, .inl (va_cpy T.2.2.2 T.2.2.2 (tPl T k) (tPl T k + 1) (T.1 - (tPl T k)))))] H := hP
      have hD : va_D A [(u0, .inr (0, [.ref u1, .ref u2, .ref u3, .int (nI T.1)])), (u1, .inl (cI, 400, .inl (va_cpy T.2.1 T.2.1 (tPl T k) (tPl T k + 1) (T.1 - (tPl T k))))), (u2, .inl (cI, 400, .inl (va_cpy T.2.2.1 T.2.2.1 (tPl T k) (tPl T k + 1) (T.1 - (tPl T k))))), (u3, .inl (cI, 400, .inl (va_cpy T.2.2.2 T.2.2.2 (tPl T k) (tPl T k + 1) (T.1 - (tPl T k)))))] := hD
      refine lv_aload_n hx hb dX0_enter_52 rfl (lv_at hl 2 rfl) ?_
      refine lv_dup hx hb dX0_enter_53 rfl ?_
      refine va_get (D := (dC, dI)) (ci := 0) (v := .int (nI T.1)) (C := RX0) (T := TX0) (N := 4) hx hb hts (by decide +kernel) hown hK hP 0 rfl rfl 3 (by decide) (hts (.fieldLink RX0 21 "RevisionTree$Table" "held" "I") (by decide +kernel)) (fun _ h9 => h9) rfl dX0_enter_54 ?_
      refine lv_iconst (v := nI 1) hx hb dX0_enter_57 (by decide) ?_
      refine lv_iadd hx hb dX0_enter_58 ?_
      refine zt (y := nI (T.1 + 1)) (nI_add _ _) ?_
      refine va_put (D := (dC, dI)) (ci := 0) (v := .int (nI (T.1 + 1))) (ty := .int) (C := RX0) (T := TX0) (N := 4) hx hb hts (by decide +kernel) tyX0 tyX0_ok nmX0 hown hK hP hD hS 0 rfl rfl 3 (by decide) (hts (.fieldLink RX0 21 "RevisionTree$Table" "held" "I") (by decide +kernel)) (fun _ h9 => h9) rfl (by decide +kernel) rfl rfl (Nat.le_of_ble_eq_true rfl) dX0_enter_59 (fun H locs hP hD hS => ?_)
      have hP : va_P (dC, dI) vwCl [(u0, .inr (0, [.ref u1, .ref u2, .ref u3, .int (nI (T.1 + 1))])), (u1, .inl (cI, 400, .inl (va_cpy T.2.1 T.2.1 (tPl T k) (tPl T k + 1) (T.1 - (tPl T k))))), (u2, .inl (cI, 400, .inl (va_cpy T.2.2.1 T.2.2.1 (tPl T k) (tPl T k + 1) (T.1 - (tPl T k))))), (u3, .inl (cI, 400, .inl (va_cpy T.2.2.2 T.2.2.2 (tPl T k) (tPl T k + 1) (T.1 - (tPl T k)))))] H := hP
      have hD : va_D A [(u0, .inr (0, [.ref u1, .ref u2, .ref u3, .int (nI (T.1 + 1))])), (u1, .inl (cI, 400, .inl (va_cpy T.2.1 T.2.1 (tPl T k) (tPl T k + 1) (T.1 - (tPl T k))))), (u2, .inl (cI, 400, .inl (va_cpy T.2.2.1 T.2.2.1 (tPl T k) (tPl T k + 1) (T.1 - (tPl T k))))), (u3, .inl (cI, 400, .inl (va_cpy T.2.2.2 T.2.2.2 (tPl T k) (tPl T k + 1) (T.1 - (tPl T k)))))] := hD
      refine lv_aload_n hx hb dX0_enter_62 rfl (lv_at hl 2 rfl) ?_
      refine va_get (D := (dC, dI)) (ci := 0) (v := .ref u1) (C := RX0) (T := TX0) (N := 4) hx hb hts (by decide +kernel) hown hK hP 0 rfl rfl 0 (by decide) (hts (.fieldLink RX0 9 "RevisionTree$Table" "keys" "[I") (by decide +kernel)) (fun _ h9 => h9) rfl dX0_enter_63 ?_
      refine lv_iload hx hb dX0_enter_66 (lv_at hl 1 rfl) ?_
      refine lv_iload_n hx hb dX0_enter_68 rfl (lv_at hl 3 rfl) ?_
      refine zwrN hx hb hK hP hD hS 1 0 rfl rfl (j := tPl T k) (by omega) (by decide) dX0_enter_69 (fun H locs hP hD hS => ?_)
      have hP : va_P (dC, dI) vwCl [(u0, .inr (0, [.ref u1, .ref u2, .ref u3, .int (nI (T.1 + 1))])), (u1, .inl (cI, 400, .inl (upd (va_cpy T.2.1 T.2.1 (tPl T k) (tPl T k + 1) (T.1 - (tPl T k))) (tPl T k) k))), (u2, .inl (cI, 400, .inl (va_cpy T.2.2.1 T.2.2.1 (tPl T k) (tPl T k + 1) (T.1 - (tPl T k))))), (u3, .inl (cI, 400, .inl (va_cpy T.2.2.2 T.2.2.2 (tPl T k) (tPl T k + 1) (T.1 - (tPl T k)))))] H := hP
      have hD : va_D A [(u0, .inr (0, [.ref u1, .ref u2, .ref u3, .int (nI (T.1 + 1))])), (u1, .inl (cI, 400, .inl (upd (va_cpy T.2.1 T.2.1 (tPl T k) (tPl T k + 1) (T.1 - (tPl T k))) (tPl T k) k))), (u2, .inl (cI, 400, .inl (va_cpy T.2.2.1 T.2.2.1 (tPl T k) (tPl T k + 1) (T.1 - (tPl T k))))), (u3, .inl (cI, 400, .inl (va_cpy T.2.2.2 T.2.2.2 (tPl T k) (tPl T k + 1) (T.1 - (tPl T k)))))] := hD
      refine lv_aload_n hx hb dX0_enter_70 rfl (lv_at hl 2 rfl) ?_
      refine va_get (D := (dC, dI)) (ci := 0) (v := .ref u2) (C := RX0) (T := TX0) (N := 4) hx hb hts (by decide +kernel) hown hK hP 0 rfl rfl 1 (by decide) (hts (.fieldLink RX0 15 "RevisionTree$Table" "values" "[I") (by decide +kernel)) (fun _ h9 => h9) rfl dX0_enter_71 ?_
      refine lv_iload hx hb dX0_enter_74 (lv_at hl 1 rfl) ?_
      refine lv_iload_n hx hb dX0_enter_76 rfl (lv_at hl 4 rfl) ?_
      refine zwrN hx hb hK hP hD hS 2 0 rfl rfl (j := tPl T k) (by omega) (by decide) dX0_enter_77 (fun H locs hP hD hS => ?_)
      have hP : va_P (dC, dI) vwCl [(u0, .inr (0, [.ref u1, .ref u2, .ref u3, .int (nI (T.1 + 1))])), (u1, .inl (cI, 400, .inl (upd (va_cpy T.2.1 T.2.1 (tPl T k) (tPl T k + 1) (T.1 - (tPl T k))) (tPl T k) k))), (u2, .inl (cI, 400, .inl (upd (va_cpy T.2.2.1 T.2.2.1 (tPl T k) (tPl T k + 1) (T.1 - (tPl T k))) (tPl T k) v))), (u3, .inl (cI, 400, .inl (va_cpy T.2.2.2 T.2.2.2 (tPl T k) (tPl T k + 1) (T.1 - (tPl T k)))))] H := hP
      have hD : va_D A [(u0, .inr (0, [.ref u1, .ref u2, .ref u3, .int (nI (T.1 + 1))])), (u1, .inl (cI, 400, .inl (upd (va_cpy T.2.1 T.2.1 (tPl T k) (tPl T k + 1) (T.1 - (tPl T k))) (tPl T k) k))), (u2, .inl (cI, 400, .inl (upd (va_cpy T.2.2.1 T.2.2.1 (tPl T k) (tPl T k + 1) (T.1 - (tPl T k))) (tPl T k) v))), (u3, .inl (cI, 400, .inl (va_cpy T.2.2.2 T.2.2.2 (tPl T k) (tPl T k + 1) (T.1 - (tPl T k)))))] := hD
      refine lv_aload_n hx hb dX0_enter_78 rfl (lv_at hl 2 rfl) ?_
      refine va_get (D := (dC, dI)) (ci := 0) (v := .ref u3) (C := RX0) (T := TX0) (N := 4) hx hb hts (by decide +kernel) hown hK hP 0 rfl rfl 2 (by decide) (hts (.fieldLink RX0 18 "RevisionTree$Table" "sizes" "[I") (by decide +kernel)) (fun _ h9 => h9) rfl dX0_enter_79 ?_
      refine lv_iload hx hb dX0_enter_82 (lv_at hl 1 rfl) ?_
      refine lv_iload_n hx hb dX0_enter_84 rfl (lv_at hl 5 rfl) ?_
      refine zwrN hx hb hK hP hD hS 3 0 rfl rfl (j := tPl T k) (by omega) (by decide) dX0_enter_85 (fun H locs hP hD hS => ?_)
      have hP : va_P (dC, dI) vwCl [(u0, .inr (0, [.ref u1, .ref u2, .ref u3, .int (nI (T.1 + 1))])), (u1, .inl (cI, 400, .inl (upd (va_cpy T.2.1 T.2.1 (tPl T k) (tPl T k + 1) (T.1 - (tPl T k))) (tPl T k) k))), (u2, .inl (cI, 400, .inl (upd (va_cpy T.2.2.1 T.2.2.1 (tPl T k) (tPl T k + 1) (T.1 - (tPl T k))) (tPl T k) v))), (u3, .inl (cI, 400, .inl (upd (va_cpy T.2.2.2 T.2.2.2 (tPl T k) (tPl T k + 1) (T.1 - (tPl T k))) (tPl T k) z)))] H := hP
      have hD : va_D A [(u0, .inr (0, [.ref u1, .ref u2, .ref u3, .int (nI (T.1 + 1))])), (u1, .inl (cI, 400, .inl (upd (va_cpy T.2.1 T.2.1 (tPl T k) (tPl T k + 1) (T.1 - (tPl T k))) (tPl T k) k))), (u2, .inl (cI, 400, .inl (upd (va_cpy T.2.2.1 T.2.2.1 (tPl T k) (tPl T k + 1) (T.1 - (tPl T k))) (tPl T k) v))), (u3, .inl (cI, 400, .inl (upd (va_cpy T.2.2.2 T.2.2.2 (tPl T k) (tPl T k + 1) (T.1 - (tPl T k))) (tPl T k) z)))] := hD
      refine lv_iload hx hb dX0_enter_86 (lv_at hl 0 rfl) ?_
      refine lv_if_eq (tgt := 95) hx hb dX0_enter_88 (by decide) (fun h_88 => absurd h_88 (by decide)) (fun h_88 => ?_)
      refine lv_iconst (v := nI 1) hx hb dX0_enter_91 (by decide) ?_
      refine lv_goto (tgt := 96) hx hb dX0_enter_92 (by decide) ?_
      exact W.iret (v := nI 1) hx hb hr (fun t9 ht9 hW9 => ⟨⟨_, (T.1 + 1, upd (va_cpy T.2.1 T.2.1 (tPl T k) (tPl T k + 1) (T.1 - (tPl T k))) (tPl T k) k, upd (va_cpy T.2.2.1 T.2.2.1 (tPl T k) (tPl T k + 1) (T.1 - (tPl T k))) (tPl T k) v, upd (va_cpy T.2.2.2 T.2.2.2 (tPl T k) (tPl T k + 1) (T.1 - (tPl T k))) (tPl T k) z), rfl, by rw [tEnter_n v z h_14 (by omega)]; exact ⟨rfl, rfl, cpy_up hpl, cpy_up hpl, cpy_up hpl⟩, by show va_P _ _ _ t9.heap; rw [ht9]; exact hP⟩, hS.F ht9⟩) hS.2.2 dX0_enter_96
    · refine lv_bipush (v := (-3)) hx hb dX0_enter_39 (by decide) ?_
      exact W.iret (v := (-3)) hx hb hr (fun t9 ht9 hW9 => ⟨⟨_, T, rfl, by rw [tEnter_f v z h_14 h_36]; exact ⟨rfl, eqT_rf⟩, by show va_P _ _ _ t9.heap; rw [ht9]; exact hP⟩, hS.F ht9⟩) hS.2.2 dX0_enter_41
set_option maxHeartbeats 4000000 in
set_option maxRecDepth 100000 in
/-- drop: a key goes -/
theorem c_Table_drop (l : Launch) (dC : Nat → ClassId) (dI : Nat → Nat → Nat) (cI cT : ClassId) (u0 u1 u2 u3 : Nat) (T : TB) (k : Int32) (sz : Nat) (hok : okT T) : Met l yX0_drop wsX0_drop ({ frames := 2, cells := 0, slots := 0, locals := 41 }) (va_Pc [.ref u0, .int k] (zPW (dC, dI) vwCl cI cT (wT u0 u1 u2 u3 cI T) sz)) (va_Qi (fun (r : Int32) (u : TB) => r = bz (tHas T k) ∧ eqT u (tDrop T k)) (fun u t => va_P (dC, dI) vwCl (wT u0 u1 u2 u3 cI u) t.heap) (va_A (wT u0 u1 u2 u3 cI T) sz)) 0 0 (va_A (wT u0 u1 u2 u3 cI T) sz) := by
  refine Met.ofW (cc := cX0_drop) (maxL := 3) (ret := (some .boolean)) (by decide) rfl ?_
  intro p e s m args below meth c s₁ B hml hv
  obtain ⟨rfl, hsz, hP, hK, hD0⟩ := hv
  have hx := B.exec
  have hb := B.bytes
  have hr := B.returns
  have hts := atoms_spec (ws := wsX0_drop) B.pre
  have hown : s.vm.findClass RX0 = some m.cls := findClass_of_methodNamed B.named
  have hlocks := B.notSynchronized
  subst hsz
  have hD := hD0.self (sz := s.heap.size)
  generalize hAe : va_A (wT u0 u1 u2 u3 cI T) s.heap.size = A at hD ⊢
  have hA : ∀ q : Nat, s.heap.size ≤ q → A q := fun q h => by rw [← hAe]; exact Or.inr h
  have hS : va_S A s.heap s.heap [] := va_S.rf
  have hl := lv_entry ([.ref u0, .int k]) (n := 3) (Nat.le_of_ble_eq_true rfl)
  rw [lg_entry_eq]
  generalize (lg_sl ([.ref u0, .int k]) ++ List.replicate (3 - (lg_sl ([.ref u0, .int k])).length) Slot.unset).toArray = ls at hl ⊢
  have hl : lv_has ls 3 [(0, .ref u0), (1, .int k)] := hl
  obtain ⟨hn, hs⟩ := id hok
  have hpl : tPl T k ≤ T.1 := pl_le _ _ _
  refine lv_aload_n hx hb dX0_drop_0 rfl (lv_at hl 0 rfl) ?_
  refine lv_iload_n hx hb dX0_drop_1 rfl (lv_at hl 1 rfl) ?_
  refine zroi (va_runV (As := [.int k]) (rest := []) ⟨hx, hb, hml, hown, hts⟩ (c_Table_placeOf l dC dI cI cT u0 u1 u2 u3 T k s.heap.size hok) (cwV 1 hts gX0_drop_X0_placeOf rfl rfl rfl (by decide +kernel) ⟨Nat.le_of_ble_eq_true rfl, Nat.le_of_ble_eq_true rfl⟩) (zpreV hK hP hD rfl 0 rfl) rfl rfl hl.1 rfl (lv_room (Nat.le_of_ble_eq_true rfl)) dX0_drop_2 ⟨Nat.le_of_ble_eq_true rfl, Nat.le_of_ble_eq_true rfl⟩) hP hS hA (fun H locs hP hS => ?_)
  refine lv_istore_n (lv' := [(2, .int (nI (tPl T k))), (0, .ref u0), (1, .int k)]) hx hb dX0_drop_5 rfl hl (by decide) rfl (fun ls hl => ?_)
  refine lv_aload_n hx hb dX0_drop_6 rfl (lv_at hl 1 rfl) ?_
  refine lv_iload_n hx hb dX0_drop_7 rfl (lv_at hl 0 rfl) ?_
  refine lv_iload_n hx hb dX0_drop_8 rfl (lv_at hl 2 rfl) ?_
  refine zroi (va_runV (As := [.int (nI (tPl T k)), .int k]) (rest := []) ⟨hx, hb, hml, hown, hts⟩ (c_Table_hasAt l dC dI cI cT u0 u1 u2 u3 T (tPl T k) k H.size hn (by omega)) (cwV 2 hts gX0_drop_X0_hasAt rfl rfl rfl (by decide +kernel) ⟨Nat.le_of_ble_eq_true rfl, Nat.le_of_ble_eq_true rfl⟩) (zpreV hK hP hD rfl 0 rfl) rfl rfl hl.1 rfl (lv_room (Nat.le_of_ble_eq_true rfl)) dX0_drop_9 ⟨Nat.le_of_ble_eq_true rfl, Nat.le_of_ble_eq_true rfl⟩) hP hS hA (fun H locs hP hS => ?_)
  refine zifne (tgt := 17) hx hb dX0_drop_12 (by decide) (fun h_12 => ?_) (fun h_12 => ?_)
  · have hlt : tPl T k < T.1 := h_12.1
    refine lv_aload_n hx hb dX0_drop_17 rfl (lv_at hl 1 rfl) ?_
    refine lv_iload_n hx hb dX0_drop_18 rfl (lv_at hl 0 rfl) ?_
    refine lv_iconst (v := nI 1) hx hb dX0_drop_19 (by decide) ?_
    refine lv_iadd hx hb dX0_drop_20 ?_
    refine zt (y := nI ((tPl T k) + 1)) (nI_add _ _) ?_
    refine lv_iload_n hx hb dX0_drop_21 rfl (lv_at hl 0 rfl) ?_
    refine zwrv (w1 := fun u : TB => wT u0 u1 u2 u3 cI u) (va_runV (As := [.int (nI ((tPl T k) + 1)), .int (nI (tPl T k))]) (rest := []) ⟨hx, hb, hml, hown, hts⟩ (c_Table_shift l dC dI cI cT u0 u1 u2 u3 T (tPl T k + 1) (tPl T k) H.size hn (by omega) (by omega) (by omega)) (cwV 2 hts gX0_drop_X0_shift rfl rfl rfl (by decide +kernel) ⟨Nat.le_of_ble_eq_true rfl, Nat.le_of_ble_eq_true rfl⟩) (zpreV hK (hP.sub [0, 1, 2, 3] rfl) (hD.sub [0, 1, 2, 3] (by decide) rfl) rfl 0 rfl) rfl rfl hl.1 rfl (lv_room (Nat.le_of_ble_eq_true rfl)) dX0_drop_22 ⟨Nat.le_of_ble_eq_true rfl, Nat.le_of_ble_eq_true rfl⟩) hP hD hS hA [0, 1, 2, 3] rfl (fun _ => rfl) (fun _ => rfl) (fun u H locs hw hP hD hS => ?_)
    subst hw
    have hP : va_P (dC, dI) vwCl [(u0, .inr (0, [.ref u1, .ref u2, .ref u3, .int (nI T.1)])), (u1, .inl (cI, 400, .inl (va_cpy T.2.1 T.2.1 (tPl T k + 1) (tPl T k) (T.1 - (tPl T k + 1))))), (u2, .inl (cI, 400, .inl (va_cpy T.2.2.1 T.2.2.1 (tPl T k + 1) (tPl T k) (T.1 - (tPl T k + 1))))), (u3, .inl (cI, 400, .inl (va_cpy T.2.2.2 T.2.2.2 (tPl T k + 1) (tPl T k) (T.1 - (tPl T k + 1)))))] H := hP
    have hD : va_D A [(u0, .inr (0, [.ref u1, .ref u2, .ref u3, .int (nI T.1)])), (u1, .inl (cI, 400, .inl (va_cpy T.2.1 T.2.1 (tPl T k + 1) (tPl T k) (T.1 - (tPl T k + 1))))), (u2, .inl (cI, 400, .inl (va_cpy T.2.2.1 T.2.2.1 (tPl T k + 1) (tPl T k) (T.1 - (tPl T k + 1))))), (u3, .inl (cI, 400, .inl (va_cpy T.2.2.2 T.2.2.2 (tPl T k + 1) (tPl T k) (T.1 - (tPl T k + 1)))))] := hD
    refine lv_aload_n hx hb dX0_drop_25 rfl (lv_at hl 1 rfl) ?_
    refine lv_dup hx hb dX0_drop_26 rfl ?_
    refine va_get (D := (dC, dI)) (ci := 0) (v := .int (nI T.1)) (C := RX0) (T := TX0) (N := 4) hx hb hts (by decide +kernel) hown hK hP 0 rfl rfl 3 (by decide) (hts (.fieldLink RX0 21 "RevisionTree$Table" "held" "I") (by decide +kernel)) (fun _ h9 => h9) rfl dX0_drop_27 ?_
    refine lv_iconst (v := nI 1) hx hb dX0_drop_30 (by decide) ?_
    refine lv_isub hx hb dX0_drop_31 ?_
    refine zt (y := nI (T.1 - 1)) (pk_sub (by omega)) ?_
    refine va_put (D := (dC, dI)) (ci := 0) (v := .int (nI (T.1 - 1))) (ty := .int) (C := RX0) (T := TX0) (N := 4) hx hb hts (by decide +kernel) tyX0 tyX0_ok nmX0 hown hK hP hD hS 0 rfl rfl 3 (by decide) (hts (.fieldLink RX0 21 "RevisionTree$Table" "held" "I") (by decide +kernel)) (fun _ h9 => h9) rfl (by decide +kernel) rfl rfl (Nat.le_of_ble_eq_true rfl) dX0_drop_32 (fun H locs hP hD hS => ?_)
    have hP : va_P (dC, dI) vwCl [(u0, .inr (0, [.ref u1, .ref u2, .ref u3, .int (nI (T.1 - 1))])), (u1, .inl (cI, 400, .inl (va_cpy T.2.1 T.2.1 (tPl T k + 1) (tPl T k) (T.1 - (tPl T k + 1))))), (u2, .inl (cI, 400, .inl (va_cpy T.2.2.1 T.2.2.1 (tPl T k + 1) (tPl T k) (T.1 - (tPl T k + 1))))), (u3, .inl (cI, 400, .inl (va_cpy T.2.2.2 T.2.2.2 (tPl T k + 1) (tPl T k) (T.1 - (tPl T k + 1)))))] H := hP
    have hD : va_D A [(u0, .inr (0, [.ref u1, .ref u2, .ref u3, .int (nI (T.1 - 1))])), (u1, .inl (cI, 400, .inl (va_cpy T.2.1 T.2.1 (tPl T k + 1) (tPl T k) (T.1 - (tPl T k + 1))))), (u2, .inl (cI, 400, .inl (va_cpy T.2.2.1 T.2.2.1 (tPl T k + 1) (tPl T k) (T.1 - (tPl T k + 1))))), (u3, .inl (cI, 400, .inl (va_cpy T.2.2.2 T.2.2.2 (tPl T k + 1) (tPl T k) (T.1 - (tPl T k + 1)))))] := hD
    refine lv_iconst (v := nI 1) hx hb dX0_drop_35 (by decide) ?_
    exact W.zret (v := nI 1) hx hb hr rfl (fun t9 ht9 hW9 => ⟨⟨_, (T.1 - 1, va_cpy T.2.1 T.2.1 (tPl T k + 1) (tPl T k) (T.1 - (tPl T k + 1)), va_cpy T.2.2.1 T.2.2.1 (tPl T k + 1) (tPl T k) (T.1 - (tPl T k + 1)), va_cpy T.2.2.2 T.2.2.2 (tPl T k + 1) (tPl T k) (T.1 - (tPl T k + 1))), rfl, ⟨(bz_t h_12).symm, by rw [tDrop_h h_12]; exact ⟨rfl, cpy_dn h_12.1, cpy_dn h_12.1, cpy_dn h_12.1⟩⟩, by show va_P _ _ _ t9.heap; rw [ht9]; exact hP⟩, hS.F ht9⟩) hS.2.2 dX0_drop_36
  · refine lv_iconst (v := nI 0) hx hb dX0_drop_15 (by decide) ?_
    exact W.zret (v := nI 0) hx hb hr rfl (fun t9 ht9 hW9 => ⟨⟨_, T, rfl, ⟨(bz_f h_12).symm, by rw [tDrop_n h_12]; exact eqT_rf⟩, by show va_P _ _ _ t9.heap; rw [ht9]; exact hP⟩, hS.F ht9⟩) hS.2.2 dX0_drop_16
