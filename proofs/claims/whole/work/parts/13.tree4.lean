set_option maxHeartbeats 4000000 in
set_option maxRecDepth 100000 in
/-- commit -/
theorem c_Tree_commit (l : Launch) (dC : Nat → ClassId) (dI : Nat → Nat → Nat) (cI cT : ClassId) (g : Nat → Nat) (a : RS) (cut : Int32) (sz : Nat) (L : Nat) (hok : okR L a) (hL : L < 500000) : Met l yX1_commit wsX1_commit ({ frames := 2, cells := 0, slots := 0, locals := 43 }) (va_Pc [.ref (g 0), .int cut] (zPW (dC, dI) vwCl cI cT (wR g cI cT a) sz)) (va_Qi (fun (r9 : Int32) (u9 : RS) => r9 = (aCommit a cut).1 ∧ eqR u9 (aCommit a cut).2) (fun u t => va_P (dC, dI) vwCl (wR g cI cT u) t.heap) (va_A (wR g cI cT a) sz)) 0 0 (va_A (wR g cI cT a) sz) := by
  refine Met.ofW (cc := cX1_commit) (maxL := 2) (ret := (some .int)) (by decide) rfl ?_
  intro p e s m args below meth c s₁ B hml hv
  obtain ⟨rfl, hsz, hP, hK, hD0⟩ := hv
  have hx := B.exec
  have hb := B.bytes
  have hr := B.returns
  have hts := atoms_spec (ws := wsX1_commit) B.pre
  have hown : s.vm.findClass RX1 = some m.cls := findClass_of_methodNamed B.named
  have hlocks := B.notSynchronized
  subst hsz
  have hD := hD0.self (sz := s.heap.size)
  generalize hAe : va_A (wR g cI cT a) s.heap.size = A at hD ⊢
  have hA : ∀ q : Nat, s.heap.size ≤ q → A q := fun q h => by rw [← hAe]; exact Or.inr h
  have hS : va_S A s.heap s.heap [] := va_S.rf
  have hl := lv_entry ([.ref (g 0), .int cut]) (n := 2) (Nat.le_of_ble_eq_true rfl)
  rw [lg_entry_eq]
  generalize (lg_sl ([.ref (g 0), .int cut]) ++ List.replicate (2 - (lg_sl ([.ref (g 0), .int cut])).length) Slot.unset).toArray = ls at hl ⊢
  have hl : lv_has ls 2 [(0, .ref (g 0)), (1, .int cut)] := hl
  have hok3 : okT (tsel a 3) := hok.1 3 (by decide)
  have hlat : rL a ≤ L := hok.2.2
  refine lv_iload_n hx hb dX1_commit_0 rfl (lv_at hl 1 rfl) ?_
  refine lv_if_lt (tgt := 22) hx hb dX1_commit_1 (by decide) (fun h_1 => ?_) (fun h_1 => ?_)
  · refine lv_aload_n hx hb dX1_commit_22 rfl (lv_at hl 0 rfl) ?_
    refine lv_dup hx hb dX1_commit_23 rfl ?_
    refine va_get (D := (dC, dI)) (ci := 1) (v := .int (nI (rL a))) (C := RX1) (T := TX1) (N := 4) hx hb hts (by decide +kernel) hown hK hP 0 rfl rfl 3 (by decide) (hts (.fieldLink RX1 24 "RevisionTree" "latest" "I") (by decide +kernel)) (fun _ h9 => h9) rfl dX1_commit_24 ?_
    refine lv_iconst (v := nI 1) hx hb dX1_commit_27 (by decide) ?_
    refine lv_iadd hx hb dX1_commit_28 ?_
    refine zt (y := nI ((rL a) + 1)) (nI_add _ _) ?_
    refine va_put (D := (dC, dI)) (ci := 1) (v := .int (nI ((rL a) + 1))) (ty := .int) (C := RX1) (T := TX1) (N := 4) hx hb hts (by decide +kernel) tyX1 tyX1_ok nmX1 hown hK hP hD hS 0 rfl rfl 3 (by decide) (hts (.fieldLink RX1 24 "RevisionTree" "latest" "I") (by decide +kernel)) (fun _ h9 => h9) rfl (by decide +kernel) rfl rfl (Nat.le_of_ble_eq_true rfl) dX1_commit_29 (fun H locs hP hD hS => ?_)
    have hP : va_P (dC, dI) vwCl (wR g cI cT (rUp a)) H := hP
    have hD : va_D A (wR g cI cT (rUp a)) := hD
    refine lv_aload_n hx hb dX1_commit_32 rfl (lv_at hl 0 rfl) ?_
    refine lv_aload_n hx hb dX1_commit_33 rfl (lv_at hl 0 rfl) ?_
    refine va_get (D := (dC, dI)) (ci := 1) (v := .int (nI (rL a + 1))) (C := RX1) (T := TX1) (N := 4) hx hb hts (by decide +kernel) hown hK hP 0 rfl rfl 3 (by decide) (hts (.fieldLink RX1 24 "RevisionTree" "latest" "I") (by decide +kernel)) (fun _ h9 => h9) rfl dX1_commit_34 ?_
    refine zror (va_runV (As := [.int (nI (rL a + 1))]) (rest := []) ⟨hx, hb, hml, hown, hts⟩ (c_Tree_tableOfRevision l dC dI cI cT g (rUp a) (rL a + 1) H.size (by omega)) (cwV 1 hts gX1_commit_X1_tableOfRevision rfl rfl rfl (by decide +kernel) ⟨Nat.le_of_ble_eq_true rfl, Nat.le_of_ble_eq_true rfl⟩) (zpreV hK hP hD rfl 0 rfl) rfl rfl hl.1 rfl (lv_room (Nat.le_of_ble_eq_true rfl)) dX1_commit_37 ⟨Nat.le_of_ble_eq_true rfl, Nat.le_of_ble_eq_true rfl⟩) hP hS hA (fun H locs hP hS => ?_)
    refine lv_aload_n hx hb dX1_commit_40 rfl (lv_at hl 0 rfl) ?_
    refine va_get (D := (dC, dI)) (ci := 1) (v := .ref (g 15)) (C := RX1) (T := TX1) (N := 4) hx hb hts (by decide +kernel) hown hK hP 0 rfl rfl 0 (by decide) (hts (.fieldLink RX1 10 "RevisionTree" "worked" "LRevisionTree$Table;") (by decide +kernel)) (fun _ h9 => h9) rfl dX1_commit_41 ?_
    rcases (show (rL a + 1) % 3 = 0 ∨ (rL a + 1) % 3 = 1 ∨ (rL a + 1) % 3 = 2 by omega) with h3 | h3 | h3
    · rw [h3]
      refine zwrv (w1 := fun u : TB => wT (g 3) (g 4) (g 5) (g 6) cI u ++ wT (g 15) (g 16) (g 17) (g 18) cI (tsel (rUp a) 3)) (va_runV (As := [.ref (g 15)]) (rest := []) ⟨hx, hb, hml, hown, hts⟩ (c_Table_copyFrom l dC dI cI cT (g 3) (g 4) (g 5) (g 6) (g 15) (g 16) (g 17) (g 18) (tsel (rUp a) 0) (tsel (rUp a) 3) H.size (hok.1 3 (by decide)).1) (cwV 1 hts gX1_commit_X0_copyFrom rfl rfl rfl (by decide +kernel) ⟨Nat.le_of_ble_eq_true rfl, Nat.le_of_ble_eq_true rfl⟩) (zpreV hK (hP.sub [3, 4, 5, 6, 15, 16, 17, 18] rfl) (hD.sub [3, 4, 5, 6, 15, 16, 17, 18] (by decide) rfl) rfl 0 rfl) rfl rfl hl.1 rfl (lv_room (Nat.le_of_ble_eq_true rfl)) dX1_commit_44 ⟨Nat.le_of_ble_eq_true rfl, Nat.le_of_ble_eq_true rfl⟩) hP hD hS hA [3, 4, 5, 6, 15, 16, 17, 18] rfl (fun _ => rfl) (fun _ => rfl) (fun u H locs hw hP hD hS => ?_)
      have hq : eqT u (tsel a 3) := by rw [hw]; exact ⟨rfl, cpy_all, cpy_all, cpy_all⟩
      have hP : va_P (dC, dI) vwCl (wR g cI cT (tset (rUp a) 0 u)) H := hP
      have hD : va_D A (wR g cI cT (tset (rUp a) 0 u)) := hD
      refine lv_aload_n hx hb dX1_commit_47 rfl (lv_at hl 0 rfl) ?_
      refine va_get (D := (dC, dI)) (ci := 1) (v := .int (nI (rL a + 1))) (C := RX1) (T := TX1) (N := 4) hx hb hts (by decide +kernel) hown hK hP 0 rfl rfl 3 (by decide) (hts (.fieldLink RX1 24 "RevisionTree" "latest" "I") (by decide +kernel)) (fun _ h9 => h9) rfl dX1_commit_48 ?_
      exact W.iret (v := nI (rL a + 1)) hx hb hr (fun t9 ht9 hW9 => ⟨⟨_, (tset (rUp a) 0 u), rfl, by unfold aCommit; rw [if_pos h_1, h3]; exact ⟨rfl, tset_eq (by decide) eqR_rf hq⟩, by show va_P _ _ _ t9.heap; rw [ht9]; exact hP⟩, hS.F ht9⟩) hS.2.2 dX1_commit_51
    · rw [h3]
      refine zwrv (w1 := fun u : TB => wT (g 7) (g 8) (g 9) (g 10) cI u ++ wT (g 15) (g 16) (g 17) (g 18) cI (tsel (rUp a) 3)) (va_runV (As := [.ref (g 15)]) (rest := []) ⟨hx, hb, hml, hown, hts⟩ (c_Table_copyFrom l dC dI cI cT (g 7) (g 8) (g 9) (g 10) (g 15) (g 16) (g 17) (g 18) (tsel (rUp a) 1) (tsel (rUp a) 3) H.size (hok.1 3 (by decide)).1) (cwV 1 hts gX1_commit_X0_copyFrom rfl rfl rfl (by decide +kernel) ⟨Nat.le_of_ble_eq_true rfl, Nat.le_of_ble_eq_true rfl⟩) (zpreV hK (hP.sub [7, 8, 9, 10, 15, 16, 17, 18] rfl) (hD.sub [7, 8, 9, 10, 15, 16, 17, 18] (by decide) rfl) rfl 0 rfl) rfl rfl hl.1 rfl (lv_room (Nat.le_of_ble_eq_true rfl)) dX1_commit_44 ⟨Nat.le_of_ble_eq_true rfl, Nat.le_of_ble_eq_true rfl⟩) hP hD hS hA [7, 8, 9, 10, 15, 16, 17, 18] rfl (fun _ => rfl) (fun _ => rfl) (fun u H locs hw hP hD hS => ?_)
      have hq : eqT u (tsel a 3) := by rw [hw]; exact ⟨rfl, cpy_all, cpy_all, cpy_all⟩
      have hP : va_P (dC, dI) vwCl (wR g cI cT (tset (rUp a) 1 u)) H := hP
      have hD : va_D A (wR g cI cT (tset (rUp a) 1 u)) := hD
      refine lv_aload_n hx hb dX1_commit_47 rfl (lv_at hl 0 rfl) ?_
      refine va_get (D := (dC, dI)) (ci := 1) (v := .int (nI (rL a + 1))) (C := RX1) (T := TX1) (N := 4) hx hb hts (by decide +kernel) hown hK hP 0 rfl rfl 3 (by decide) (hts (.fieldLink RX1 24 "RevisionTree" "latest" "I") (by decide +kernel)) (fun _ h9 => h9) rfl dX1_commit_48 ?_
      exact W.iret (v := nI (rL a + 1)) hx hb hr (fun t9 ht9 hW9 => ⟨⟨_, (tset (rUp a) 1 u), rfl, by unfold aCommit; rw [if_pos h_1, h3]; exact ⟨rfl, tset_eq (by decide) eqR_rf hq⟩, by show va_P _ _ _ t9.heap; rw [ht9]; exact hP⟩, hS.F ht9⟩) hS.2.2 dX1_commit_51
    · rw [h3]
      refine zwrv (w1 := fun u : TB => wT (g 11) (g 12) (g 13) (g 14) cI u ++ wT (g 15) (g 16) (g 17) (g 18) cI (tsel (rUp a) 3)) (va_runV (As := [.ref (g 15)]) (rest := []) ⟨hx, hb, hml, hown, hts⟩ (c_Table_copyFrom l dC dI cI cT (g 11) (g 12) (g 13) (g 14) (g 15) (g 16) (g 17) (g 18) (tsel (rUp a) 2) (tsel (rUp a) 3) H.size (hok.1 3 (by decide)).1) (cwV 1 hts gX1_commit_X0_copyFrom rfl rfl rfl (by decide +kernel) ⟨Nat.le_of_ble_eq_true rfl, Nat.le_of_ble_eq_true rfl⟩) (zpreV hK (hP.sub [11, 12, 13, 14, 15, 16, 17, 18] rfl) (hD.sub [11, 12, 13, 14, 15, 16, 17, 18] (by decide) rfl) rfl 0 rfl) rfl rfl hl.1 rfl (lv_room (Nat.le_of_ble_eq_true rfl)) dX1_commit_44 ⟨Nat.le_of_ble_eq_true rfl, Nat.le_of_ble_eq_true rfl⟩) hP hD hS hA [11, 12, 13, 14, 15, 16, 17, 18] rfl (fun _ => rfl) (fun _ => rfl) (fun u H locs hw hP hD hS => ?_)
      have hq : eqT u (tsel a 3) := by rw [hw]; exact ⟨rfl, cpy_all, cpy_all, cpy_all⟩
      have hP : va_P (dC, dI) vwCl (wR g cI cT (tset (rUp a) 2 u)) H := hP
      have hD : va_D A (wR g cI cT (tset (rUp a) 2 u)) := hD
      refine lv_aload_n hx hb dX1_commit_47 rfl (lv_at hl 0 rfl) ?_
      refine va_get (D := (dC, dI)) (ci := 1) (v := .int (nI (rL a + 1))) (C := RX1) (T := TX1) (N := 4) hx hb hts (by decide +kernel) hown hK hP 0 rfl rfl 3 (by decide) (hts (.fieldLink RX1 24 "RevisionTree" "latest" "I") (by decide +kernel)) (fun _ h9 => h9) rfl dX1_commit_48 ?_
      exact W.iret (v := nI (rL a + 1)) hx hb hr (fun t9 ht9 hW9 => ⟨⟨_, (tset (rUp a) 2 u), rfl, by unfold aCommit; rw [if_pos h_1, h3]; exact ⟨rfl, tset_eq (by decide) eqR_rf hq⟩, by show va_P _ _ _ t9.heap; rw [ht9]; exact hP⟩, hS.F ht9⟩) hS.2.2 dX1_commit_51
  · refine lv_aload_n hx hb dX1_commit_4 rfl (lv_at hl 0 rfl) ?_
    refine va_get (D := (dC, dI)) (ci := 1) (v := .ref (g 15)) (C := RX1) (T := TX1) (N := 4) hx hb hts (by decide +kernel) hown hK hP 0 rfl rfl 0 (by decide) (hts (.fieldLink RX1 10 "RevisionTree" "worked" "LRevisionTree$Table;") (by decide +kernel)) (fun _ h9 => h9) rfl dX1_commit_5 ?_
    refine lv_aload_n hx hb dX1_commit_8 rfl (lv_at hl 0 rfl) ?_
    refine lv_aload_n hx hb dX1_commit_9 rfl (lv_at hl 0 rfl) ?_
    refine va_get (D := (dC, dI)) (ci := 1) (v := .int (nI (rL a))) (C := RX1) (T := TX1) (N := 4) hx hb hts (by decide +kernel) hown hK hP 0 rfl rfl 3 (by decide) (hts (.fieldLink RX1 24 "RevisionTree" "latest" "I") (by decide +kernel)) (fun _ h9 => h9) rfl dX1_commit_10 ?_
    refine zror (va_runV (As := [.int (nI (rL a))]) (rest := [.ref (g 15)]) ⟨hx, hb, hml, hown, hts⟩ (c_Tree_tableOfRevision l dC dI cI cT g a (rL a) s.heap.size (by omega)) (cwV 1 hts gX1_commit_X1_tableOfRevision rfl rfl rfl (by decide +kernel) ⟨Nat.le_of_ble_eq_true rfl, Nat.le_of_ble_eq_true rfl⟩) (zpreV hK hP hD rfl 0 rfl) rfl rfl hl.1 rfl (lv_room (Nat.le_of_ble_eq_true rfl)) dX1_commit_13 ⟨Nat.le_of_ble_eq_true rfl, Nat.le_of_ble_eq_true rfl⟩) hP hS hA (fun H locs hP hS => ?_)
    rcases (show rL a % 3 = 0 ∨ rL a % 3 = 1 ∨ rL a % 3 = 2 by omega) with h3 | h3 | h3
    · rw [h3]
      refine zwrv (w1 := fun u : TB => wT (g 15) (g 16) (g 17) (g 18) cI u ++ wT (g 3) (g 4) (g 5) (g 6) cI (tsel a 0)) (va_runV (As := [.ref (g 3)]) (rest := []) ⟨hx, hb, hml, hown, hts⟩ (c_Table_copyFrom l dC dI cI cT (g 15) (g 16) (g 17) (g 18) (g 3) (g 4) (g 5) (g 6) (tsel a 3) (tsel a 0) H.size (hok.1 0 (by decide)).1) (cwV 1 hts gX1_commit_X0_copyFrom rfl rfl rfl (by decide +kernel) ⟨Nat.le_of_ble_eq_true rfl, Nat.le_of_ble_eq_true rfl⟩) (zpreV hK (hP.sub [15, 16, 17, 18, 3, 4, 5, 6] rfl) (hD.sub [15, 16, 17, 18, 3, 4, 5, 6] (by decide) rfl) rfl 0 rfl) rfl rfl hl.1 rfl (lv_room (Nat.le_of_ble_eq_true rfl)) dX1_commit_16 ⟨Nat.le_of_ble_eq_true rfl, Nat.le_of_ble_eq_true rfl⟩) hP hD hS hA [15, 16, 17, 18, 3, 4, 5, 6] rfl (fun _ => rfl) (fun _ => rfl) (fun u H locs hw hP hD hS => ?_)
      have hq : eqT u (tsel a 0) := by rw [hw]; exact ⟨rfl, cpy_all, cpy_all, cpy_all⟩
      have hP : va_P (dC, dI) vwCl (wR g cI cT (tset a 3 u)) H := hP
      have hD : va_D A (wR g cI cT (tset a 3 u)) := hD
      refine lv_bipush (v := (-5)) hx hb dX1_commit_19 (by decide) ?_
      exact W.iret (v := (-5)) hx hb hr (fun t9 ht9 hW9 => ⟨⟨_, (tset a 3 u), rfl, by unfold aCommit; rw [if_neg h_1, h3]; exact ⟨rfl, tset_eq (by decide) eqR_rf hq⟩, by show va_P _ _ _ t9.heap; rw [ht9]; exact hP⟩, hS.F ht9⟩) hS.2.2 dX1_commit_21
    · rw [h3]
      refine zwrv (w1 := fun u : TB => wT (g 15) (g 16) (g 17) (g 18) cI u ++ wT (g 7) (g 8) (g 9) (g 10) cI (tsel a 1)) (va_runV (As := [.ref (g 7)]) (rest := []) ⟨hx, hb, hml, hown, hts⟩ (c_Table_copyFrom l dC dI cI cT (g 15) (g 16) (g 17) (g 18) (g 7) (g 8) (g 9) (g 10) (tsel a 3) (tsel a 1) H.size (hok.1 1 (by decide)).1) (cwV 1 hts gX1_commit_X0_copyFrom rfl rfl rfl (by decide +kernel) ⟨Nat.le_of_ble_eq_true rfl, Nat.le_of_ble_eq_true rfl⟩) (zpreV hK (hP.sub [15, 16, 17, 18, 7, 8, 9, 10] rfl) (hD.sub [15, 16, 17, 18, 7, 8, 9, 10] (by decide) rfl) rfl 0 rfl) rfl rfl hl.1 rfl (lv_room (Nat.le_of_ble_eq_true rfl)) dX1_commit_16 ⟨Nat.le_of_ble_eq_true rfl, Nat.le_of_ble_eq_true rfl⟩) hP hD hS hA [15, 16, 17, 18, 7, 8, 9, 10] rfl (fun _ => rfl) (fun _ => rfl) (fun u H locs hw hP hD hS => ?_)
      have hq : eqT u (tsel a 1) := by rw [hw]; exact ⟨rfl, cpy_all, cpy_all, cpy_all⟩
      have hP : va_P (dC, dI) vwCl (wR g cI cT (tset a 3 u)) H := hP
      have hD : va_D A (wR g cI cT (tset a 3 u)) := hD
      refine lv_bipush (v := (-5)) hx hb dX1_commit_19 (by decide) ?_
      exact W.iret (v := (-5)) hx hb hr (fun t9 ht9 hW9 => ⟨⟨_, (tset a 3 u), rfl, by unfold aCommit; rw [if_neg h_1, h3]; exact ⟨rfl, tset_eq (by decide) eqR_rf hq⟩, by show va_P _ _ _ t9.heap; rw [ht9]; exact hP⟩, hS.F ht9⟩) hS.2.2 dX1_commit_21
    · rw [h3]
      refine zwrv (w1 := fun u : TB => wT (g 15) (g 16) (g 17) (g 18) cI u ++ wT (g 11) (g 12) (g 13) (g 14) cI (tsel a 2)) (va_runV (As := [.ref (g 11)]) (rest := []) ⟨hx, hb, hml, hown, hts⟩ (c_Table_copyFrom l dC dI cI cT (g 15) (g 16) (g 17) (g 18) (g 11) (g 12) (g 13) (g 14) (tsel a 3) (tsel a 2) H.size (hok.1 2 (by decide)).1) (cwV 1 hts gX1_commit_X0_copyFrom rfl rfl rfl (by decide +kernel) ⟨Nat.le_of_ble_eq_true rfl, Nat.le_of_ble_eq_true rfl⟩) (zpreV hK (hP.sub [15, 16, 17, 18, 11, 12, 13, 14] rfl) (hD.sub [15, 16, 17, 18, 11, 12, 13, 14] (by decide) rfl) rfl 0 rfl) rfl rfl hl.1 rfl (lv_room (Nat.le_of_ble_eq_true rfl)) dX1_commit_16 ⟨Nat.le_of_ble_eq_true rfl, Nat.le_of_ble_eq_true rfl⟩) hP hD hS hA [15, 16, 17, 18, 11, 12, 13, 14] rfl (fun _ => rfl) (fun _ => rfl) (fun u H locs hw hP hD hS => ?_)
      have hq : eqT u (tsel a 2) := by rw [hw]; exact ⟨rfl, cpy_all, cpy_all, cpy_all⟩
      have hP : va_P (dC, dI) vwCl (wR g cI cT (tset a 3 u)) H := hP
      have hD : va_D A (wR g cI cT (tset a 3 u)) := hD
      refine lv_bipush (v := (-5)) hx hb dX1_commit_19 (by decide) ?_
      exact W.iret (v := (-5)) hx hb hr (fun t9 ht9 hW9 => ⟨⟨_, (tset a 3 u), rfl, by unfold aCommit; rw [if_neg h_1, h3]; exact ⟨rfl, tset_eq (by decide) eqR_rf hq⟩, by show va_P _ _ _ t9.heap; rw [ht9]; exact hP⟩, hS.F ht9⟩) hS.2.2 dX1_commit_21
set_option maxHeartbeats 4000000 in
set_option maxRecDepth 100000 in
/-- forget -/
theorem c_Tree_forget (l : Launch) (dC : Nat → ClassId) (dI : Nat → Nat → Nat) (cI cT : ClassId) (g : Nat → Nat) (a : RS) (sz : Nat) (L : Nat) (hok : okR L a) (hL : L < 500000) : Met l yX1_forget wsX1_forget ({ frames := 2, cells := 0, slots := 0, locals := 43 }) (va_Pc [.ref (g 0)] (zPW (dC, dI) vwCl cI cT (wR g cI cT a) sz)) (va_Qi (fun (r9 : Int32) (u9 : RS) => r9 = (aForget a).1 ∧ eqR u9 (aForget a).2) (fun u t => va_P (dC, dI) vwCl (wR g cI cT u) t.heap) (va_A (wR g cI cT a) sz)) 0 0 (va_A (wR g cI cT a) sz) := by
  refine Met.ofW (cc := cX1_forget) (maxL := 1) (ret := (some .int)) (by decide) rfl ?_
  intro p e s m args below meth c s₁ B hml hv
  obtain ⟨rfl, hsz, hP, hK, hD0⟩ := hv
  have hx := B.exec
  have hb := B.bytes
  have hr := B.returns
  have hts := atoms_spec (ws := wsX1_forget) B.pre
  have hown : s.vm.findClass RX1 = some m.cls := findClass_of_methodNamed B.named
  have hlocks := B.notSynchronized
  subst hsz
  have hD := hD0.self (sz := s.heap.size)
  generalize hAe : va_A (wR g cI cT a) s.heap.size = A at hD ⊢
  have hA : ∀ q : Nat, s.heap.size ≤ q → A q := fun q h => by rw [← hAe]; exact Or.inr h
  have hS : va_S A s.heap s.heap [] := va_S.rf
  have hl := lv_entry ([.ref (g 0)]) (n := 1) (Nat.le_of_ble_eq_true rfl)
  rw [lg_entry_eq]
  generalize (lg_sl ([.ref (g 0)]) ++ List.replicate (1 - (lg_sl ([.ref (g 0)])).length) Slot.unset).toArray = ls at hl ⊢
  have hl : lv_has ls 1 [(0, .ref (g 0))] := hl
  have hok3 : okT (tsel a 3) := hok.1 3 (by decide)
  have hlat : rL a ≤ L := hok.2.2
  refine lv_aload_n hx hb dX1_forget_0 rfl (lv_at hl 0 rfl) ?_
  refine va_get (D := (dC, dI)) (ci := 1) (v := .ref (g 15)) (C := RX1) (T := TX1) (N := 4) hx hb hts (by decide +kernel) hown hK hP 0 rfl rfl 0 (by decide) (hts (.fieldLink RX1 10 "RevisionTree" "worked" "LRevisionTree$Table;") (by decide +kernel)) (fun _ h9 => h9) rfl dX1_forget_1 ?_
  refine lv_aload_n hx hb dX1_forget_4 rfl (lv_at hl 0 rfl) ?_
  refine lv_aload_n hx hb dX1_forget_5 rfl (lv_at hl 0 rfl) ?_
  refine va_get (D := (dC, dI)) (ci := 1) (v := .int (nI (rL a))) (C := RX1) (T := TX1) (N := 4) hx hb hts (by decide +kernel) hown hK hP 0 rfl rfl 3 (by decide) (hts (.fieldLink RX1 24 "RevisionTree" "latest" "I") (by decide +kernel)) (fun _ h9 => h9) rfl dX1_forget_6 ?_
  refine zror (va_runV (As := [.int (nI (rL a))]) (rest := [.ref (g 15)]) ⟨hx, hb, hml, hown, hts⟩ (c_Tree_tableOfRevision l dC dI cI cT g a (rL a) s.heap.size (by omega)) (cwV 1 hts gX1_forget_X1_tableOfRevision rfl rfl rfl (by decide +kernel) ⟨Nat.le_of_ble_eq_true rfl, Nat.le_of_ble_eq_true rfl⟩) (zpreV hK hP hD rfl 0 rfl) rfl rfl hl.1 rfl (lv_room (Nat.le_of_ble_eq_true rfl)) dX1_forget_9 ⟨Nat.le_of_ble_eq_true rfl, Nat.le_of_ble_eq_true rfl⟩) hP hS hA (fun H locs hP hS => ?_)
  rcases (show rL a % 3 = 0 ∨ rL a % 3 = 1 ∨ rL a % 3 = 2 by omega) with h3 | h3 | h3
  · rw [h3]
    refine zwrv (w1 := fun u : TB => wT (g 15) (g 16) (g 17) (g 18) cI u ++ wT (g 3) (g 4) (g 5) (g 6) cI (tsel a 0)) (va_runV (As := [.ref (g 3)]) (rest := []) ⟨hx, hb, hml, hown, hts⟩ (c_Table_copyFrom l dC dI cI cT (g 15) (g 16) (g 17) (g 18) (g 3) (g 4) (g 5) (g 6) (tsel a 3) (tsel a 0) H.size (hok.1 0 (by decide)).1) (cwV 1 hts gX1_forget_X0_copyFrom rfl rfl rfl (by decide +kernel) ⟨Nat.le_of_ble_eq_true rfl, Nat.le_of_ble_eq_true rfl⟩) (zpreV hK (hP.sub [15, 16, 17, 18, 3, 4, 5, 6] rfl) (hD.sub [15, 16, 17, 18, 3, 4, 5, 6] (by decide) rfl) rfl 0 rfl) rfl rfl hl.1 rfl (lv_room (Nat.le_of_ble_eq_true rfl)) dX1_forget_12 ⟨Nat.le_of_ble_eq_true rfl, Nat.le_of_ble_eq_true rfl⟩) hP hD hS hA [15, 16, 17, 18, 3, 4, 5, 6] rfl (fun _ => rfl) (fun _ => rfl) (fun u H locs hw hP hD hS => ?_)
    have hq : eqT u (tsel a 0) := by rw [hw]; exact ⟨rfl, cpy_all, cpy_all, cpy_all⟩
    have hP : va_P (dC, dI) vwCl (wR g cI cT (tset a 3 u)) H := hP
    have hD : va_D A (wR g cI cT (tset a 3 u)) := hD
    refine lv_aload_n hx hb dX1_forget_15 rfl (lv_at hl 0 rfl) ?_
    refine va_get (D := (dC, dI)) (ci := 1) (v := .ref (g 15)) (C := RX1) (T := TX1) (N := 4) hx hb hts (by decide +kernel) hown hK hP 0 rfl rfl 0 (by decide) (hts (.fieldLink RX1 10 "RevisionTree" "worked" "LRevisionTree$Table;") (by decide +kernel)) (fun _ h9 => h9) rfl dX1_forget_16 ?_
    refine va_get (D := (dC, dI)) (ci := 0) (v := .int (nI u.1)) (C := RX0) (T := TX0) (N := 4) hx hb hts (by decide +kernel) hown hK hP 15 rfl rfl 3 (by decide) (hts (.fieldLink RX1 40 "RevisionTree$Table" "held" "I") (by decide +kernel)) (fun _ h9 => h9) rfl dX1_forget_19 ?_
    exact W.iret (v := nI u.1) hx hb hr (fun t9 ht9 hW9 => ⟨⟨_, (tset a 3 u), rfl, by unfold aForget; rw [h3]; exact ⟨congrArg nI hq.1, tset_eq (by decide) eqR_rf hq⟩, by show va_P _ _ _ t9.heap; rw [ht9]; exact hP⟩, hS.F ht9⟩) hS.2.2 dX1_forget_22
  · rw [h3]
    refine zwrv (w1 := fun u : TB => wT (g 15) (g 16) (g 17) (g 18) cI u ++ wT (g 7) (g 8) (g 9) (g 10) cI (tsel a 1)) (va_runV (As := [.ref (g 7)]) (rest := []) ⟨hx, hb, hml, hown, hts⟩ (c_Table_copyFrom l dC dI cI cT (g 15) (g 16) (g 17) (g 18) (g 7) (g 8) (g 9) (g 10) (tsel a 3) (tsel a 1) H.size (hok.1 1 (by decide)).1) (cwV 1 hts gX1_forget_X0_copyFrom rfl rfl rfl (by decide +kernel) ⟨Nat.le_of_ble_eq_true rfl, Nat.le_of_ble_eq_true rfl⟩) (zpreV hK (hP.sub [15, 16, 17, 18, 7, 8, 9, 10] rfl) (hD.sub [15, 16, 17, 18, 7, 8, 9, 10] (by decide) rfl) rfl 0 rfl) rfl rfl hl.1 rfl (lv_room (Nat.le_of_ble_eq_true rfl)) dX1_forget_12 ⟨Nat.le_of_ble_eq_true rfl, Nat.le_of_ble_eq_true rfl⟩) hP hD hS hA [15, 16, 17, 18, 7, 8, 9, 10] rfl (fun _ => rfl) (fun _ => rfl) (fun u H locs hw hP hD hS => ?_)
    have hq : eqT u (tsel a 1) := by rw [hw]; exact ⟨rfl, cpy_all, cpy_all, cpy_all⟩
    have hP : va_P (dC, dI) vwCl (wR g cI cT (tset a 3 u)) H := hP
    have hD : va_D A (wR g cI cT (tset a 3 u)) := hD
    refine lv_aload_n hx hb dX1_forget_15 rfl (lv_at hl 0 rfl) ?_
    refine va_get (D := (dC, dI)) (ci := 1) (v := .ref (g 15)) (C := RX1) (T := TX1) (N := 4) hx hb hts (by decide +kernel) hown hK hP 0 rfl rfl 0 (by decide) (hts (.fieldLink RX1 10 "RevisionTree" "worked" "LRevisionTree$Table;") (by decide +kernel)) (fun _ h9 => h9) rfl dX1_forget_16 ?_
    refine va_get (D := (dC, dI)) (ci := 0) (v := .int (nI u.1)) (C := RX0) (T := TX0) (N := 4) hx hb hts (by decide +kernel) hown hK hP 15 rfl rfl 3 (by decide) (hts (.fieldLink RX1 40 "RevisionTree$Table" "held" "I") (by decide +kernel)) (fun _ h9 => h9) rfl dX1_forget_19 ?_
    exact W.iret (v := nI u.1) hx hb hr (fun t9 ht9 hW9 => ⟨⟨_, (tset a 3 u), rfl, by unfold aForget; rw [h3]; exact ⟨congrArg nI hq.1, tset_eq (by decide) eqR_rf hq⟩, by show va_P _ _ _ t9.heap; rw [ht9]; exact hP⟩, hS.F ht9⟩) hS.2.2 dX1_forget_22
  · rw [h3]
    refine zwrv (w1 := fun u : TB => wT (g 15) (g 16) (g 17) (g 18) cI u ++ wT (g 11) (g 12) (g 13) (g 14) cI (tsel a 2)) (va_runV (As := [.ref (g 11)]) (rest := []) ⟨hx, hb, hml, hown, hts⟩ (c_Table_copyFrom l dC dI cI cT (g 15) (g 16) (g 17) (g 18) (g 11) (g 12) (g 13) (g 14) (tsel a 3) (tsel a 2) H.size (hok.1 2 (by decide)).1) (cwV 1 hts gX1_forget_X0_copyFrom rfl rfl rfl (by decide +kernel) ⟨Nat.le_of_ble_eq_true rfl, Nat.le_of_ble_eq_true rfl⟩) (zpreV hK (hP.sub [15, 16, 17, 18, 11, 12, 13, 14] rfl) (hD.sub [15, 16, 17, 18, 11, 12, 13, 14] (by decide) rfl) rfl 0 rfl) rfl rfl hl.1 rfl (lv_room (Nat.le_of_ble_eq_true rfl)) dX1_forget_12 ⟨Nat.le_of_ble_eq_true rfl, Nat.le_of_ble_eq_true rfl⟩) hP hD hS hA [15, 16, 17, 18, 11, 12, 13, 14] rfl (fun _ => rfl) (fun _ => rfl) (fun u H locs hw hP hD hS => ?_)
    have hq : eqT u (tsel a 2) := by rw [hw]; exact ⟨rfl, cpy_all, cpy_all, cpy_all⟩
    have hP : va_P (dC, dI) vwCl (wR g cI cT (tset a 3 u)) H := hP
    have hD : va_D A (wR g cI cT (tset a 3 u)) := hD
    refine lv_aload_n hx hb dX1_forget_15 rfl (lv_at hl 0 rfl) ?_
    refine va_get (D := (dC, dI)) (ci := 1) (v := .ref (g 15)) (C := RX1) (T := TX1) (N := 4) hx hb hts (by decide +kernel) hown hK hP 0 rfl rfl 0 (by decide) (hts (.fieldLink RX1 10 "RevisionTree" "worked" "LRevisionTree$Table;") (by decide +kernel)) (fun _ h9 => h9) rfl dX1_forget_16 ?_
    refine va_get (D := (dC, dI)) (ci := 0) (v := .int (nI u.1)) (C := RX0) (T := TX0) (N := 4) hx hb hts (by decide +kernel) hown hK hP 15 rfl rfl 3 (by decide) (hts (.fieldLink RX1 40 "RevisionTree$Table" "held" "I") (by decide +kernel)) (fun _ h9 => h9) rfl dX1_forget_19 ?_
    exact W.iret (v := nI u.1) hx hb hr (fun t9 ht9 hW9 => ⟨⟨_, (tset a 3 u), rfl, by unfold aForget; rw [h3]; exact ⟨congrArg nI hq.1, tset_eq (by decide) eqR_rf hq⟩, by show va_P _ _ _ t9.heap; rw [ht9]; exact hP⟩, hS.F ht9⟩) hS.2.2 dX1_forget_22
set_option maxHeartbeats 4000000 in
set_option maxRecDepth 100000 in
/-- open -/
theorem c_Tree_open (l : Launch) (dC : Nat → ClassId) (dI : Nat → Nat → Nat) (cI cT : ClassId) (g : Nat → Nat) (a : RS) (r : Int32) (sz : Nat) (L : Nat) (hok : okR L a) (hL : L < 500000) : Met l yX1_open wsX1_open ({ frames := 0, cells := 0, slots := 0, locals := 0 }) (va_Pc [.ref (g 0), .int r] (zPW (dC, dI) vwCl cI cT (wR g cI cT a) sz)) (va_Qi (fun (r9 : Int32) (u9 : RS) => r9 = (aOpen a r).1 ∧ eqR u9 (aOpen a r).2) (fun u t => va_P (dC, dI) vwCl (wR g cI cT u) t.heap) (va_A (wR g cI cT a) sz)) 0 0 (va_A (wR g cI cT a) sz) := by
  refine Met.ofW (cc := cX1_open) (maxL := 2) (ret := (some .int)) (by decide) rfl ?_
  intro p e s m args below meth c s₁ B hml hv
  obtain ⟨rfl, hsz, hP, hK, hD0⟩ := hv
  have hx := B.exec
  have hb := B.bytes
  have hr := B.returns
  have hts := atoms_spec (ws := wsX1_open) B.pre
  have hown : s.vm.findClass RX1 = some m.cls := findClass_of_methodNamed B.named
  have hlocks := B.notSynchronized
  subst hsz
  have hD := hD0.self (sz := s.heap.size)
  generalize hAe : va_A (wR g cI cT a) s.heap.size = A at hD ⊢
  have hA : ∀ q : Nat, s.heap.size ≤ q → A q := fun q h => by rw [← hAe]; exact Or.inr h
  have hS : va_S A s.heap s.heap [] := va_S.rf
  have hl := lv_entry ([.ref (g 0), .int r]) (n := 2) (Nat.le_of_ble_eq_true rfl)
  rw [lg_entry_eq]
  generalize (lg_sl ([.ref (g 0), .int r]) ++ List.replicate (2 - (lg_sl ([.ref (g 0), .int r])).length) Slot.unset).toArray = ls at hl ⊢
  have hl : lv_has ls 2 [(0, .ref (g 0)), (1, .int r)] := hl
  have hok3 : okT (tsel a 3) := hok.1 3 (by decide)
  have hlat : rL a ≤ L := hok.2.2
  refine lv_iload_n hx hb dX1_open_0 rfl (lv_at hl 1 rfl) ?_
  refine lv_if_lt (tgt := 9) hx hb dX1_open_1 (by decide) (fun h_1 => ?_) (fun h_1 => ?_)
  · refine lv_iconst (v := (-1)) hx hb dX1_open_9 (by decide) ?_
    exact W.iret (v := (-1)) hx hb hr (fun t9 ht9 hW9 => ⟨⟨_, a, rfl, by unfold aOpen; rw [if_pos (show r < 0 ∨ 3 < r from Or.inl h_1)]; exact ⟨rfl, eqR_rf⟩, by show va_P _ _ _ t9.heap; rw [ht9]; exact hP⟩, hS.F ht9⟩) hS.2.2 dX1_open_10
  · refine lv_iload_n hx hb dX1_open_4 rfl (lv_at hl 1 rfl) ?_
    refine lv_iconst (v := nI 4) hx hb dX1_open_5 (by decide) ?_
    refine lv_icmp_lt (tgt := 11) hx hb dX1_open_6 (by decide) (fun h_6 => ?_) (fun h_6 => ?_)
    · obtain ⟨j, hj, rfl, ec⟩ := r_in h_1 (r43.mp h_6)
      refine lv_aload_n hx hb dX1_open_11 rfl (lv_at hl 0 rfl) ?_
      refine va_get (D := (dC, dI)) (ci := 1) (v := .ref (g 2)) (C := RX1) (T := TX1) (N := 4) hx hb hts (by decide +kernel) hown hK hP 0 rfl rfl 2 (by decide) (hts (.fieldLink RX1 20 "RevisionTree" "revisionOfReader" "[I") (by decide +kernel)) (fun _ h9 => h9) rfl dX1_open_12 ?_
      refine lv_iload_n hx hb dX1_open_15 rfl (lv_at hl 1 rfl) ?_
      refine lv_aload_n hx hb dX1_open_16 rfl (lv_at hl 0 rfl) ?_
      refine va_get (D := (dC, dI)) (ci := 1) (v := .int (nI (rL a))) (C := RX1) (T := TX1) (N := 4) hx hb hts (by decide +kernel) hown hK hP 0 rfl rfl 3 (by decide) (hts (.fieldLink RX1 24 "RevisionTree" "latest" "I") (by decide +kernel)) (fun _ h9 => h9) rfl dX1_open_17 ?_
      refine zwrN hx hb hK hP hD hS 2 0 rfl rfl (j := j) (by omega) (by decide) dX1_open_20 (fun H locs hP hD hS => ?_)
      rw [rd_up (f := rRd a) (j := j) (x := rL a)] at hP hD
      have hP : va_P (dC, dI) vwCl (wR g cI cT (rRs a (va_up (rRd a) j (rL a)))) H := hP
      have hD : va_D A (wR g cI cT (rRs a (va_up (rRd a) j (rL a)))) := hD
      refine lv_aload_n hx hb dX1_open_21 rfl (lv_at hl 0 rfl) ?_
      refine va_get (D := (dC, dI)) (ci := 1) (v := .int (nI (rL a))) (C := RX1) (T := TX1) (N := 4) hx hb hts (by decide +kernel) hown hK hP 0 rfl rfl 3 (by decide) (hts (.fieldLink RX1 24 "RevisionTree" "latest" "I") (by decide +kernel)) (fun _ h9 => h9) rfl dX1_open_22 ?_
      exact W.iret (v := nI (rL a)) hx hb hr (fun t9 ht9 hW9 => ⟨⟨_, (rRs a (va_up (rRd a) j (rL a))), rfl, by unfold aOpen; rw [if_neg (fun q => q.elim h_1 (r43.mp h_6)), ec]; exact ⟨rfl, eqR_rf⟩, by show va_P _ _ _ t9.heap; rw [ht9]; exact hP⟩, hS.F ht9⟩) hS.2.2 dX1_open_25
    · refine lv_iconst (v := (-1)) hx hb dX1_open_9 (by decide) ?_
      exact W.iret (v := (-1)) hx hb hr (fun t9 ht9 hW9 => ⟨⟨_, a, rfl, by unfold aOpen; rw [if_pos (show r < 0 ∨ 3 < r from Or.inr (i_lt (fun q => h_6 (r43.mpr (i_nl q)))))]; exact ⟨rfl, eqR_rf⟩, by show va_P _ _ _ t9.heap; rw [ht9]; exact hP⟩, hS.F ht9⟩) hS.2.2 dX1_open_10
