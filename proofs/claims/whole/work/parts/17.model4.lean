set_option maxHeartbeats 4000000 in
set_option maxRecDepth 100000 in
/-- some -/
theorem c_Model_some (l : Launch) (dC : Nat → ClassId) (dI : Nat → Nat → Nat) (cI cT : ClassId) (g : Nat → Nat) (w : MS) (fr stp many v : Int32) (sz : Nat) (L : Nat) (hok : okR L (view w)) (hL : L < 500000) : Met l yX2_some wsX2_some ({ frames := 2, cells := 0, slots := 0, locals := 49 }) (va_Pc [.ref (g 0), .int fr, .int stp, .int many, .int v] (zPW (dC, dI) vwCl cI cT (wM g cI w) sz)) (va_Qi (fun (r9 : Int32) (u9 : MS) => r9 = (aSome (view w) fr stp many v).1 ∧ eqR (view u9) (aSome (view w) fr stp many v).2) (fun u t => va_P (dC, dI) vwCl (wM g cI u) t.heap) (va_A (wM g cI w) sz)) 0 0 (va_A (wM g cI w) sz) := by
  refine Met.ofW (cc := cX2_some) (maxL := 7) (ret := (some .int)) (by decide) rfl ?_
  intro p e s m args below meth c s₁ B hml hv
  obtain ⟨rfl, hsz, hP, hK, hD0⟩ := hv
  have hx := B.exec
  have hb := B.bytes
  have hr := B.returns
  have hts := atoms_spec (ws := wsX2_some) B.pre
  have hown : s.vm.findClass RX2 = some m.cls := findClass_of_methodNamed B.named
  have hlocks := B.notSynchronized
  subst hsz
  have hD := hD0.self (sz := s.heap.size)
  generalize hAe : va_A (wM g cI w) s.heap.size = A at hD ⊢
  have hA : ∀ q : Nat, s.heap.size ≤ q → A q := fun q h => by rw [← hAe]; exact Or.inr h
  have hS : va_S A s.heap s.heap [] := va_S.rf
  have hl := lv_entry ([.ref (g 0), .int fr, .int stp, .int many, .int v]) (n := 7) (Nat.le_of_ble_eq_true rfl)
  rw [lg_entry_eq]
  generalize (lg_sl ([.ref (g 0), .int fr, .int stp, .int many, .int v]) ++ List.replicate (7 - (lg_sl ([.ref (g 0), .int fr, .int stp, .int many, .int v])).length) Slot.unset).toArray = ls at hl ⊢
  have hl : lv_has ls 7 [(0, .ref (g 0)), (1, .int fr), (2, .int stp), (3, .int many), (4, .int v)] := hl
  have hle : ∀ t, t < 4 → mC w t ≤ 400 := fun t ht => by have h9 := (hok.1 t ht).1; rw [view_t w ht] at h9; exact h9
  have hc3 : mC w 3 ≤ 400 := hle 3 (by decide)
  have hlat : mL w ≤ L := hok.2.2
  refine lv_iload_n hx hb dX2_some_0 rfl (lv_at hl 3 rfl) ?_
  refine lv_iconst (v := nI 1) hx hb dX2_some_1 (by decide) ?_
  refine lv_icmp_lt (tgt := 11) hx hb dX2_some_2 (by decide) (fun h_2 => ?_) (fun h_2 => ?_)
  · refine lv_iconst (v := (-1)) hx hb dX2_some_11 (by decide) ?_
    exact W.iret (v := (-1)) hx hb hr (fun t9 ht9 hW9 => ⟨⟨_, w, rfl, by unfold aSome; rw [if_pos (show many < 1 ∨ 60 < many from Or.inl h_2)]; exact ⟨rfl, eqR_rf⟩, by show va_P _ _ _ t9.heap; rw [ht9]; exact hP⟩, hS.F ht9⟩) hS.2.2 dX2_some_12
  · refine lv_iload_n hx hb dX2_some_5 rfl (lv_at hl 3 rfl) ?_
    refine lv_bipush (v := nI 60) hx hb dX2_some_6 (by decide) ?_
    refine lv_icmp_le (tgt := 13) hx hb dX2_some_8 (by decide) (fun h_8 => ?_) (fun h_8 => ?_)
    · obtain ⟨mm, hm1, hm2, rfl, em⟩ := many_in h_2 (i_nl h_8)
      refine lv_iconst (v := nI 0) hx hb dX2_some_13 (by decide) ?_
      refine lv_istore (lv' := [(5, .int (nI 0)), (0, .ref (g 0)), (1, .int fr), (2, .int stp), (3, .int (nI mm)), (4, .int v)]) hx hb dX2_some_14 hl (by decide) rfl (fun ls hl => ?_)
      refine lv_iconst (v := nI 0) hx hb dX2_some_16 (by decide) ?_
      refine lv_istore (lv' := [(6, .int (nI 0)), (5, .int (nI 0)), (0, .ref (g 0)), (1, .int fr), (2, .int stp), (3, .int (nI mm)), (4, .int v)]) hx hb dX2_some_17 hl (by decide) rfl (fun ls hl => ?_)
      refine zloop (σ := Nat × MS) (fun x H locs ls => match x with | (i, X) => (i ≤ mm ∧ eqR (view X) (tset (view w) 3 (someF (tsel (view w) 3) fr stp v i).2)) ∧ va_P (dC, dI) vwCl (wM g cI X) H ∧ va_D A (wM g cI X) ∧ va_S A s.heap H locs ∧ lv_has ls 7 [(0, .ref (g 0)), (1, .int fr), (2, .int stp), (3, .int (nI mm)), (4, .int v), (5, .int (nI (someF (tsel (view w) 3) fr stp v i).1)), (6, .int (nI i))]) (fun x => mm - x.1) ?_ (0, w) ⟨⟨Nat.zero_le _, (eqR_rf : eqR (view w) (tset (view w) 3 (tsel (view w) 3)))⟩, hP, hD, hS, lv_sub hl [2, 3, 4, 5, 6, 1, 0] rfl⟩
      rintro ⟨i, X⟩ H locs ls ⟨⟨hi, hq⟩, hP, hD, hS, hl⟩ ih
      refine lv_iload hx hb dX2_some_19 (lv_at hl 6 rfl) ?_
      refine lv_iload_n hx hb dX2_some_21 rfl (lv_at hl 3 rfl) ?_
      refine zge (tgt := 75) hx hb dX2_some_22 (by decide) (by omega) (by omega) (fun h_22 => ?_) (fun h_22 => ?_)
      · refine lv_iload hx hb dX2_some_75 (lv_at hl 5 rfl) ?_
        have ei : i = mm := by omega
        subst ei
        exact W.iret (v := nI ((someF (tsel (view w) 3) fr stp v i).1)) hx hb hr (fun t9 ht9 hW9 => ⟨⟨_, X, rfl, by unfold aSome; rw [if_neg (fun q => q.elim h_2 (i_nl h_8)), em]; exact ⟨rfl, hq⟩, by show va_P _ _ _ t9.heap; rw [ht9]; exact hP⟩, hS.F ht9⟩) hS.2.2 dX2_some_77
      · refine lv_aload_n hx hb dX2_some_25 rfl (lv_at hl 0 rfl) ?_
        refine lv_iload_n hx hb dX2_some_26 rfl (lv_at hl 1 rfl) ?_
        refine lv_iload hx hb dX2_some_27 (lv_at hl 6 rfl) ?_
        refine lv_iload_n hx hb dX2_some_29 rfl (lv_at hl 2 rfl) ?_
        refine lv_imul hx hb dX2_some_30 ?_
        refine lv_iadd hx hb dX2_some_31 ?_
        refine lv_iload hx hb dX2_some_32 (lv_at hl 4 rfl) ?_
        refine lv_iload hx hb dX2_some_34 (lv_at hl 6 rfl) ?_
        refine lv_iadd hx hb dX2_some_36 ?_
        refine lv_iload hx hb dX2_some_37 (lv_at hl 6 rfl) ?_
        refine lv_iconst (v := nI 2) hx hb dX2_some_39 (by decide) ?_
        refine lv_irem hx hb dX2_some_40 (by decide) ?_
        refine zt (y := nI (i % 2)) (pk_rem (by omega) (by omega) (by omega)) ?_
        refine lv_if_ne (tgt := 48) hx hb dX2_some_41 (by decide) (fun h_41 => ?_) (fun h_41 => ?_)
        · refine lv_iload hx hb dX2_some_48 (lv_at hl 4 rfl) ?_
          refine lv_bipush (v := nI 7) hx hb dX2_some_50 (by decide) ?_
          refine lv_iload hx hb dX2_some_52 (lv_at hl 6 rfl) ?_
          refine lv_imul hx hb dX2_some_54 ?_
          refine zt (y := nI (7 * i)) (pk_mul _ _) ?_
          refine lv_iadd hx hb dX2_some_55 ?_
          refine lv_bipush (v := nI 127) hx hb dX2_some_56 (by decide) ?_
          refine lv_iand hx hb dX2_some_58 ?_
          refine zt (y := zsz v i) (if_neg (fun q => h_41 (show nI (i % 2) = nI 0 by rw [q]))).symm ?_
          refine zwri (w1 := fun u : MS => wM g cI u) (va_runV (As := [.int (fr + ((nI i) * stp)), .int (v + (nI i)), .int (zsz v i)]) (rest := []) ⟨hx, hb, hml, hown, hts⟩ (c_Model_put l dC dI cI cT g X (fr + nI i * stp) (v + nI i) (zsz v i) H.size L (okR_eq (eqR_sy hq) (tset_ok (by decide) hok (someF_ok (hok.1 3 (by decide)) _ _ _ _))) hL) (cwV 3 hts gX2_some_X2_put rfl rfl rfl (by decide +kernel) ⟨Nat.le_of_ble_eq_true rfl, Nat.le_of_ble_eq_true rfl⟩) (zpreV hK (hP.sub [0, 1, 2, 3, 4, 5] rfl) (hD.sub [0, 1, 2, 3, 4, 5] (by decide) rfl) rfl 0 rfl) rfl rfl hl.1 rfl (lv_room (Nat.le_of_ble_eq_true rfl)) dX2_some_59 ⟨Nat.le_of_ble_eq_true rfl, Nat.le_of_ble_eq_true rfl⟩) hP hD hS hA [0, 1, 2, 3, 4, 5] rfl (fun _ => rfl) (fun _ => rfl) (fun r u H locs hw hP hD hS => ?_)
          have hP : va_P (dC, dI) vwCl (wM g cI u) H := hP
          have hD : va_D A (wM g cI u) := hD
          refine lv_iconst (v := nI 1) hx hb dX2_some_62 (by decide) ?_
          refine lv_icmp_ne (tgt := 69) hx hb dX2_some_63 (by decide) (fun h_63 => ?_) (fun h_63 => ?_)
          · refine lv_iinc (v := nI (i + 1)) (lv' := [(6, .int (nI (i + 1))), (0, .ref (g 0)), (1, .int fr), (2, .int stp), (3, .int (nI mm)), (4, .int v), (5, .int (nI ((someF (tsel (view w) 3) fr stp v i).1)))]) hx hb dX2_some_69 hl (k := 6) rfl (zinc _) (by decide) rfl (fun ls hl => ?_)
            refine lv_goto (tgt := 19) hx hb dX2_some_72 (by decide) ?_
            have ec := (some_st hq hw.1 hw.2).2.2 h_63
            exact ih (i + 1, u) _ _ _ ⟨⟨by omega, (some_st hq hw.1 hw.2).1⟩, hP, hD, hS, by rw [ec]; exact lv_sub hl [1, 2, 3, 4, 5, 6, 0] rfl⟩ (by show mm - (i + 1) < mm - i; omega)
          · refine lv_iinc (v := nI (((someF (tsel (view w) 3) fr stp v i).1) + 1)) (lv' := [(5, .int (nI (((someF (tsel (view w) 3) fr stp v i).1) + 1))), (0, .ref (g 0)), (1, .int fr), (2, .int stp), (3, .int (nI mm)), (4, .int v), (6, .int (nI i))]) hx hb dX2_some_66 hl (k := 5) rfl (zinc _) (by decide) rfl (fun ls hl => ?_)
            refine lv_iinc (v := nI (i + 1)) (lv' := [(6, .int (nI (i + 1))), (5, .int (nI (((someF (tsel (view w) 3) fr stp v i).1) + 1))), (0, .ref (g 0)), (1, .int fr), (2, .int stp), (3, .int (nI mm)), (4, .int v)]) hx hb dX2_some_69 hl (k := 6) rfl (zinc _) (by decide) rfl (fun ls hl => ?_)
            refine lv_goto (tgt := 19) hx hb dX2_some_72 (by decide) ?_
            have ec := (some_st hq hw.1 hw.2).2.1 h_63
            exact ih (i + 1, u) _ _ _ ⟨⟨by omega, (some_st hq hw.1 hw.2).1⟩, hP, hD, hS, by rw [ec]; exact lv_sub hl [2, 3, 4, 5, 6, 1, 0] rfl⟩ (by show mm - (i + 1) < mm - i; omega)
        · refine lv_iconst (v := nI 0) hx hb dX2_some_44 (by decide) ?_
          refine lv_goto (tgt := 59) hx hb dX2_some_45 (by decide) ?_
          refine zt (y := zsz v i) (show nI 0 = zsz v i from (if_pos ((nI_eq (by omega) (by omega)).mp (show nI (i % 2) = nI 0 from h_41))).symm) ?_
          refine zwri (w1 := fun u : MS => wM g cI u) (va_runV (As := [.int (fr + ((nI i) * stp)), .int (v + (nI i)), .int (zsz v i)]) (rest := []) ⟨hx, hb, hml, hown, hts⟩ (c_Model_put l dC dI cI cT g X (fr + nI i * stp) (v + nI i) (zsz v i) H.size L (okR_eq (eqR_sy hq) (tset_ok (by decide) hok (someF_ok (hok.1 3 (by decide)) _ _ _ _))) hL) (cwV 3 hts gX2_some_X2_put rfl rfl rfl (by decide +kernel) ⟨Nat.le_of_ble_eq_true rfl, Nat.le_of_ble_eq_true rfl⟩) (zpreV hK (hP.sub [0, 1, 2, 3, 4, 5] rfl) (hD.sub [0, 1, 2, 3, 4, 5] (by decide) rfl) rfl 0 rfl) rfl rfl hl.1 rfl (lv_room (Nat.le_of_ble_eq_true rfl)) dX2_some_59 ⟨Nat.le_of_ble_eq_true rfl, Nat.le_of_ble_eq_true rfl⟩) hP hD hS hA [0, 1, 2, 3, 4, 5] rfl (fun _ => rfl) (fun _ => rfl) (fun r u H locs hw hP hD hS => ?_)
          have hP : va_P (dC, dI) vwCl (wM g cI u) H := hP
          have hD : va_D A (wM g cI u) := hD
          refine lv_iconst (v := nI 1) hx hb dX2_some_62 (by decide) ?_
          refine lv_icmp_ne (tgt := 69) hx hb dX2_some_63 (by decide) (fun h_63 => ?_) (fun h_63 => ?_)
          · refine lv_iinc (v := nI (i + 1)) (lv' := [(6, .int (nI (i + 1))), (0, .ref (g 0)), (1, .int fr), (2, .int stp), (3, .int (nI mm)), (4, .int v), (5, .int (nI ((someF (tsel (view w) 3) fr stp v i).1)))]) hx hb dX2_some_69 hl (k := 6) rfl (zinc _) (by decide) rfl (fun ls hl => ?_)
            refine lv_goto (tgt := 19) hx hb dX2_some_72 (by decide) ?_
            have ec := (some_st hq hw.1 hw.2).2.2 h_63
            exact ih (i + 1, u) _ _ _ ⟨⟨by omega, (some_st hq hw.1 hw.2).1⟩, hP, hD, hS, by rw [ec]; exact lv_sub hl [1, 2, 3, 4, 5, 6, 0] rfl⟩ (by show mm - (i + 1) < mm - i; omega)
          · refine lv_iinc (v := nI (((someF (tsel (view w) 3) fr stp v i).1) + 1)) (lv' := [(5, .int (nI (((someF (tsel (view w) 3) fr stp v i).1) + 1))), (0, .ref (g 0)), (1, .int fr), (2, .int stp), (3, .int (nI mm)), (4, .int v), (6, .int (nI i))]) hx hb dX2_some_66 hl (k := 5) rfl (zinc _) (by decide) rfl (fun ls hl => ?_)
            refine lv_iinc (v := nI (i + 1)) (lv' := [(6, .int (nI (i + 1))), (5, .int (nI (((someF (tsel (view w) 3) fr stp v i).1) + 1))), (0, .ref (g 0)), (1, .int fr), (2, .int stp), (3, .int (nI mm)), (4, .int v)]) hx hb dX2_some_69 hl (k := 6) rfl (zinc _) (by decide) rfl (fun ls hl => ?_)
            refine lv_goto (tgt := 19) hx hb dX2_some_72 (by decide) ?_
            have ec := (some_st hq hw.1 hw.2).2.1 h_63
            exact ih (i + 1, u) _ _ _ ⟨⟨by omega, (some_st hq hw.1 hw.2).1⟩, hP, hD, hS, by rw [ec]; exact lv_sub hl [2, 3, 4, 5, 6, 1, 0] rfl⟩ (by show mm - (i + 1) < mm - i; omega)
    · refine lv_iconst (v := (-1)) hx hb dX2_some_11 (by decide) ?_
      exact W.iret (v := (-1)) hx hb hr (fun t9 ht9 hW9 => ⟨⟨_, w, rfl, by unfold aSome; rw [if_pos (show many < 1 ∨ 60 < many from Or.inr (i_lt h_8))]; exact ⟨rfl, eqR_rf⟩, by show va_P _ _ _ t9.heap; rw [ht9]; exact hP⟩, hS.F ht9⟩) hS.2.2 dX2_some_12
set_option maxHeartbeats 4000000 in
set_option maxRecDepth 100000 in
/-- remove -/
theorem c_Model_remove (l : Launch) (dC : Nat → ClassId) (dI : Nat → Nat → Nat) (cI cT : ClassId) (g : Nat → Nat) (w : MS) (k : Int32) (sz : Nat) (L : Nat) (hok : okR L (view w)) (hL : L < 500000) : Met l yX2_remove wsX2_remove ({ frames := 1, cells := 0, slots := 0, locals := 23 }) (va_Pc [.ref (g 0), .int k] (zPW (dC, dI) vwCl cI cT (wM g cI w) sz)) (va_Qi (fun (r9 : Int32) (u9 : MS) => r9 = (aRemove (view w) k).1 ∧ eqR (view u9) (aRemove (view w) k).2) (fun u t => va_P (dC, dI) vwCl (wM g cI u) t.heap) (va_A (wM g cI w) sz)) 0 0 (va_A (wM g cI w) sz) := by
  refine Met.ofW (cc := cX2_remove) (maxL := 4) (ret := (some .int)) (by decide) rfl ?_
  intro p e s m args below meth c s₁ B hml hv
  obtain ⟨rfl, hsz, hP, hK, hD0⟩ := hv
  have hx := B.exec
  have hb := B.bytes
  have hr := B.returns
  have hts := atoms_spec (ws := wsX2_remove) B.pre
  have hown : s.vm.findClass RX2 = some m.cls := findClass_of_methodNamed B.named
  have hlocks := B.notSynchronized
  subst hsz
  have hD := hD0.self (sz := s.heap.size)
  generalize hAe : va_A (wM g cI w) s.heap.size = A at hD ⊢
  have hA : ∀ q : Nat, s.heap.size ≤ q → A q := fun q h => by rw [← hAe]; exact Or.inr h
  have hS : va_S A s.heap s.heap [] := va_S.rf
  have hl := lv_entry ([.ref (g 0), .int k]) (n := 4) (Nat.le_of_ble_eq_true rfl)
  rw [lg_entry_eq]
  generalize (lg_sl ([.ref (g 0), .int k]) ++ List.replicate (4 - (lg_sl ([.ref (g 0), .int k])).length) Slot.unset).toArray = ls at hl ⊢
  have hl : lv_has ls 4 [(0, .ref (g 0)), (1, .int k)] := hl
  have hle : ∀ t, t < 4 → mC w t ≤ 400 := fun t ht => by have h9 := (hok.1 t ht).1; rw [view_t w ht] at h9; exact h9
  have hc3 : mC w 3 ≤ 400 := hle 3 (by decide)
  have hlat : mL w ≤ L := hok.2.2
  refine lv_aload_n hx hb dX2_remove_0 rfl (lv_at hl 0 rfl) ?_
  refine lv_iconst (v := nI 3) hx hb dX2_remove_1 (by decide) ?_
  refine lv_iload_n hx hb dX2_remove_2 rfl (lv_at hl 1 rfl) ?_
  refine zroi (va_runV (As := [.int (nI 3), .int k]) (rest := []) ⟨hx, hb, hml, hown, hts⟩ (c_Model_place l dC dI cI cT g w 3 k s.heap.size (by decide) hle) (cwV 2 hts gX2_remove_X2_place rfl rfl rfl (by decide +kernel) ⟨Nat.le_of_ble_eq_true rfl, Nat.le_of_ble_eq_true rfl⟩) (zpreV hK hP hD rfl 0 rfl) rfl rfl hl.1 rfl (lv_room (Nat.le_of_ble_eq_true rfl)) dX2_remove_3 ⟨Nat.le_of_ble_eq_true rfl, Nat.le_of_ble_eq_true rfl⟩) hP hS hA (fun H locs hP hS => ?_)
  obtain ⟨q, eq⟩ : ∃ q, q = tPl (vT w 3) k := ⟨_, rfl⟩
  rw [← eq]
  have hq : q ≤ mC w 3 := by rw [eq]; exact pl_le _ _ _
  refine lv_istore_n (lv' := [(2, .int (nI (400 * 3 + q))), (0, .ref (g 0)), (1, .int k)]) hx hb dX2_remove_6 rfl hl (by decide) rfl (fun ls hl => ?_)
  refine lv_aload_n hx hb dX2_remove_7 rfl (lv_at hl 1 rfl) ?_
  refine lv_iconst (v := nI 3) hx hb dX2_remove_8 (by decide) ?_
  refine lv_iload_n hx hb dX2_remove_9 rfl (lv_at hl 0 rfl) ?_
  refine lv_iload_n hx hb dX2_remove_10 rfl (lv_at hl 2 rfl) ?_
  refine zroi (va_runV (As := [.int (nI 3), .int (nI (400 * 3 + q)), .int k]) (rest := []) ⟨hx, hb, hml, hown, hts⟩ (c_Model_is l dC dI cI cT g w 3 q k H.size (by decide) hle (by omega)) (cwV 3 hts gX2_remove_X2_is rfl rfl rfl (by decide +kernel) ⟨Nat.le_of_ble_eq_true rfl, Nat.le_of_ble_eq_true rfl⟩) (zpreV hK hP hD rfl 0 rfl) rfl rfl hl.1 rfl (lv_room (Nat.le_of_ble_eq_true rfl)) dX2_remove_11 ⟨Nat.le_of_ble_eq_true rfl, Nat.le_of_ble_eq_true rfl⟩) hP hS hA (fun H locs hP hS => ?_)
  refine zifne (tgt := 20) hx hb dX2_remove_14 (by decide) (fun h_14 => ?_) (fun h_14 => ?_)
  · have hlt : q < mC w 3 := h_14.1
    refine lv_aload_n hx hb dX2_remove_20 rfl (lv_at hl 1 rfl) ?_
    refine va_get (D := (dC, dI)) (ci := 2) (v := .ref (g 4)) (C := RX2) (T := TX2) (N := 6) hx hb hts (by decide +kernel) hown hK hP 0 rfl rfl 3 (by decide) (hts (.fieldLink RX2 19 "RevisionTreeModel" "count" "[I") (by decide +kernel)) (fun _ h9 => h9) rfl dX2_remove_21 ?_
    refine lv_iconst (v := nI 3) hx hb dX2_remove_24 (by decide) ?_
    refine lv_dup2_11 hx hb dX2_remove_25 rfl rfl ?_
    refine zrdN hx hb hK hP 4 0 rfl rfl (j := 3) (by omega) (by decide) dX2_remove_26 ?_
    refine lv_iconst (v := nI 1) hx hb dX2_remove_27 (by decide) ?_
    refine lv_isub hx hb dX2_remove_28 ?_
    refine zt (y := nI ((mC w 3) - 1)) (pk_sub (by omega)) ?_
    refine zwrN hx hb hK hP hD hS 4 0 rfl rfl (j := 3) (by omega) (by decide) dX2_remove_29 (fun H locs hP hD hS => ?_)
    rw [rd_up (f := mC w) (j := 3) (x := (mC w 3) - 1)] at hP hD
    have hP : va_P (dC, dI) vwCl (wM g cI (mK w, mV w, mS w, (va_up (mC w) 3 ((mC w 3) - 1)), mR w, mL w)) H := hP
    have hD : va_D A (wM g cI (mK w, mV w, mS w, (va_up (mC w) 3 ((mC w 3) - 1)), mR w, mL w)) := hD
    refine lv_iload_n hx hb dX2_remove_30 rfl (lv_at hl 0 rfl) ?_
    refine lv_istore_n (lv' := [(3, .int (nI (400 * 3 + q))), (2, .int (nI (400 * 3 + q))), (0, .ref (g 0)), (1, .int k)]) hx hb dX2_remove_31 rfl hl (by decide) rfl (fun ls hl => ?_)
    refine zloop (σ := Nat × (Nat → Int32) × (Nat → Int32) × (Nat → Int32)) (fun x H locs ls => match x with | (c, K', V', S') => (q ≤ c ∧ c ≤ mC w 3 - 1 ∧ slR (mK w) K' q c ∧ slR (mV w) V' q c ∧ slR (mS w) S' q c) ∧ va_P (dC, dI) vwCl (wM g cI (K', V', S', (va_up (mC w) 3 (mC w 3 - 1)), mR w, mL w)) H ∧ va_D A (wM g cI (K', V', S', (va_up (mC w) 3 (mC w 3 - 1)), mR w, mL w)) ∧ va_S A s.heap H locs ∧ lv_has ls 4 [(0, .ref (g 0)), (1, .int k), (2, .int (nI (400 * 3 + q))), (3, .int (nI (1200 + c)))]) (fun x => mC w 3 - x.1) ?_ (q, mK w, mV w, mS w) ⟨⟨Nat.le_refl _, by omega, slR_0, slR_0, slR_0⟩, hP, hD, hS, lv_sub hl [2, 3, 1, 0] rfl⟩
    rintro ⟨c, K', V', S'⟩ H locs ls ⟨⟨h1, h2, hk, hv, hs⟩, hP, hD, hS, hl⟩ ih
    refine lv_iload_n hx hb dX2_remove_32 rfl (lv_at hl 3 rfl) ?_
    refine lv_sipush (v := nI 1200) hx hb dX2_remove_33 (by decide) ?_
    refine lv_aload_n hx hb dX2_remove_36 rfl (lv_at hl 0 rfl) ?_
    refine va_get (D := (dC, dI)) (ci := 2) (v := .ref (g 4)) (C := RX2) (T := TX2) (N := 6) hx hb hts (by decide +kernel) hown hK hP 0 rfl rfl 3 (by decide) (hts (.fieldLink RX2 19 "RevisionTreeModel" "count" "[I") (by decide +kernel)) (fun _ h9 => h9) rfl dX2_remove_37 ?_
    refine lv_iconst (v := nI 3) hx hb dX2_remove_40 (by decide) ?_
    refine zrdN hx hb hK hP 4 0 rfl rfl (j := 3) (by omega) (by decide) dX2_remove_41 ?_
    refine zt (y := nI (mC w 3 - 1)) (congrArg nI (va_up_self (mC w) 3 (mC w 3 - 1))) ?_
    refine lv_iadd hx hb dX2_remove_42 ?_
    refine zt (y := nI (1200 + (mC w 3 - 1))) (nI_add _ _) ?_
    refine zge (tgt := 94) hx hb dX2_remove_43 (by decide) (by omega) (by omega) (fun h_43 => ?_) (fun h_43 => ?_)
    · refine lv_aload_n hx hb dX2_remove_94 rfl (lv_at hl 0 rfl) ?_
      refine va_get (D := (dC, dI)) (ci := 2) (v := .ref (g 4)) (C := RX2) (T := TX2) (N := 6) hx hb hts (by decide +kernel) hown hK hP 0 rfl rfl 3 (by decide) (hts (.fieldLink RX2 19 "RevisionTreeModel" "count" "[I") (by decide +kernel)) (fun _ h9 => h9) rfl dX2_remove_95 ?_
      refine lv_iconst (v := nI 3) hx hb dX2_remove_98 (by decide) ?_
      refine zrdN hx hb hK hP 4 0 rfl rfl (j := 3) (by omega) (by decide) dX2_remove_99 ?_
      refine zt (y := nI (mC w 3 - 1)) (congrArg nI (va_up_self (mC w) 3 (mC w 3 - 1))) ?_
      obtain rfl : c = mC w 3 - 1 := by omega
      exact W.iret (v := nI (mC w 3 - 1)) hx hb hr (fun t9 ht9 hW9 => ⟨⟨_, (K', V', S', (va_up (mC w) 3 (mC w 3 - 1)), mR w, mL w), rfl, by subst eq; unfold aRemove; rw [if_pos (show tHas (tsel (view w) 3) k from h_14)]; exact ⟨rfl, rem_view hle h_14 hk hv hs⟩, by show va_P _ _ _ t9.heap; rw [ht9]; exact hP⟩, hS.F ht9⟩) hS.2.2 dX2_remove_100
    · refine lv_aload_n hx hb dX2_remove_46 rfl (lv_at hl 0 rfl) ?_
      refine va_get (D := (dC, dI)) (ci := 2) (v := .ref (g 1)) (C := RX2) (T := TX2) (N := 6) hx hb hts (by decide +kernel) hown hK hP 0 rfl rfl 0 (by decide) (hts (.fieldLink RX2 9 "RevisionTreeModel" "key" "[I") (by decide +kernel)) (fun _ h9 => h9) rfl dX2_remove_47 ?_
      refine lv_iload_n hx hb dX2_remove_50 rfl (lv_at hl 3 rfl) ?_
      refine lv_aload_n hx hb dX2_remove_51 rfl (lv_at hl 0 rfl) ?_
      refine va_get (D := (dC, dI)) (ci := 2) (v := .ref (g 1)) (C := RX2) (T := TX2) (N := 6) hx hb hts (by decide +kernel) hown hK hP 0 rfl rfl 0 (by decide) (hts (.fieldLink RX2 9 "RevisionTreeModel" "key" "[I") (by decide +kernel)) (fun _ h9 => h9) rfl dX2_remove_52 ?_
      refine lv_iload_n hx hb dX2_remove_55 rfl (lv_at hl 3 rfl) ?_
      refine lv_iconst (v := nI 1) hx hb dX2_remove_56 (by decide) ?_
      refine lv_iadd hx hb dX2_remove_57 ?_
      refine zt (y := nI ((1200 + c) + 1)) (nI_add _ _) ?_
      refine zrdN hx hb hK hP 1 0 rfl rfl (j := (1200 + c) + 1) (by omega) (by decide) dX2_remove_58 ?_
      refine zwrN hx hb hK hP hD hS 1 0 rfl rfl (j := 1200 + c) (by omega) (by decide) dX2_remove_59 (fun H locs hP hD hS => ?_)
      have hP : va_P (dC, dI) vwCl (wM g cI (upd K' (1200 + c) (K' ((1200 + c) + 1)), V', S', (va_up (mC w) 3 (mC w 3 - 1)), mR w, mL w)) H := hP
      have hD : va_D A (wM g cI (upd K' (1200 + c) (K' ((1200 + c) + 1)), V', S', (va_up (mC w) 3 (mC w 3 - 1)), mR w, mL w)) := hD
      refine lv_aload_n hx hb dX2_remove_60 rfl (lv_at hl 0 rfl) ?_
      refine va_get (D := (dC, dI)) (ci := 2) (v := .ref (g 2)) (C := RX2) (T := TX2) (N := 6) hx hb hts (by decide +kernel) hown hK hP 0 rfl rfl 1 (by decide) (hts (.fieldLink RX2 13 "RevisionTreeModel" "value" "[I") (by decide +kernel)) (fun _ h9 => h9) rfl dX2_remove_61 ?_
      refine lv_iload_n hx hb dX2_remove_64 rfl (lv_at hl 3 rfl) ?_
      refine lv_aload_n hx hb dX2_remove_65 rfl (lv_at hl 0 rfl) ?_
      refine va_get (D := (dC, dI)) (ci := 2) (v := .ref (g 2)) (C := RX2) (T := TX2) (N := 6) hx hb hts (by decide +kernel) hown hK hP 0 rfl rfl 1 (by decide) (hts (.fieldLink RX2 13 "RevisionTreeModel" "value" "[I") (by decide +kernel)) (fun _ h9 => h9) rfl dX2_remove_66 ?_
      refine lv_iload_n hx hb dX2_remove_69 rfl (lv_at hl 3 rfl) ?_
      refine lv_iconst (v := nI 1) hx hb dX2_remove_70 (by decide) ?_
      refine lv_iadd hx hb dX2_remove_71 ?_
      refine zt (y := nI ((1200 + c) + 1)) (nI_add _ _) ?_
      refine zrdN hx hb hK hP 2 0 rfl rfl (j := (1200 + c) + 1) (by omega) (by decide) dX2_remove_72 ?_
      refine zwrN hx hb hK hP hD hS 2 0 rfl rfl (j := 1200 + c) (by omega) (by decide) dX2_remove_73 (fun H locs hP hD hS => ?_)
      have hP : va_P (dC, dI) vwCl (wM g cI (upd K' (1200 + c) (K' ((1200 + c) + 1)), upd V' (1200 + c) (V' ((1200 + c) + 1)), S', (va_up (mC w) 3 (mC w 3 - 1)), mR w, mL w)) H := hP
      have hD : va_D A (wM g cI (upd K' (1200 + c) (K' ((1200 + c) + 1)), upd V' (1200 + c) (V' ((1200 + c) + 1)), S', (va_up (mC w) 3 (mC w 3 - 1)), mR w, mL w)) := hD
      refine lv_aload_n hx hb dX2_remove_74 rfl (lv_at hl 0 rfl) ?_
      refine va_get (D := (dC, dI)) (ci := 2) (v := .ref (g 3)) (C := RX2) (T := TX2) (N := 6) hx hb hts (by decide +kernel) hown hK hP 0 rfl rfl 2 (by decide) (hts (.fieldLink RX2 16 "RevisionTreeModel" "size" "[I") (by decide +kernel)) (fun _ h9 => h9) rfl dX2_remove_75 ?_
      refine lv_iload_n hx hb dX2_remove_78 rfl (lv_at hl 3 rfl) ?_
      refine lv_aload_n hx hb dX2_remove_79 rfl (lv_at hl 0 rfl) ?_
      refine va_get (D := (dC, dI)) (ci := 2) (v := .ref (g 3)) (C := RX2) (T := TX2) (N := 6) hx hb hts (by decide +kernel) hown hK hP 0 rfl rfl 2 (by decide) (hts (.fieldLink RX2 16 "RevisionTreeModel" "size" "[I") (by decide +kernel)) (fun _ h9 => h9) rfl dX2_remove_80 ?_
      refine lv_iload_n hx hb dX2_remove_83 rfl (lv_at hl 3 rfl) ?_
      refine lv_iconst (v := nI 1) hx hb dX2_remove_84 (by decide) ?_
      refine lv_iadd hx hb dX2_remove_85 ?_
      refine zt (y := nI ((1200 + c) + 1)) (nI_add _ _) ?_
      refine zrdN hx hb hK hP 3 0 rfl rfl (j := (1200 + c) + 1) (by omega) (by decide) dX2_remove_86 ?_
      refine zwrN hx hb hK hP hD hS 3 0 rfl rfl (j := 1200 + c) (by omega) (by decide) dX2_remove_87 (fun H locs hP hD hS => ?_)
      have hP : va_P (dC, dI) vwCl (wM g cI (upd K' (1200 + c) (K' ((1200 + c) + 1)), upd V' (1200 + c) (V' ((1200 + c) + 1)), upd S' (1200 + c) (S' ((1200 + c) + 1)), (va_up (mC w) 3 (mC w 3 - 1)), mR w, mL w)) H := hP
      have hD : va_D A (wM g cI (upd K' (1200 + c) (K' ((1200 + c) + 1)), upd V' (1200 + c) (V' ((1200 + c) + 1)), upd S' (1200 + c) (S' ((1200 + c) + 1)), (va_up (mC w) 3 (mC w 3 - 1)), mR w, mL w)) := hD
      refine lv_iinc (v := nI ((1200 + c) + 1)) (lv' := [(3, .int (nI ((1200 + c) + 1))), (0, .ref (g 0)), (1, .int k), (2, .int (nI (400 * 3 + q)))]) hx hb dX2_remove_88 hl (k := 3) rfl (zinc _) (by decide) rfl (fun ls hl => ?_)
      refine lv_goto (tgt := 32) hx hb dX2_remove_91 (by decide) ?_
      exact ih (c + 1, upd K' (1200 + c) (K' ((1200 + c) + 1)), upd V' (1200 + c) (V' ((1200 + c) + 1)), upd S' (1200 + c) (S' ((1200 + c) + 1))) _ _ _ ⟨⟨by omega, by omega, slR_s hk h1, slR_s hv h1, slR_s hs h1⟩, hP, hD, hS, lv_sub hl [1, 2, 3, 0] rfl⟩ (by show mC w 3 - (c + 1) < mC w 3 - c; omega)
  · refine lv_bipush (v := (-2)) hx hb dX2_remove_17 (by decide) ?_
    exact W.iret (v := (-2)) hx hb hr (fun t9 ht9 hW9 => ⟨⟨_, w, rfl, by subst eq; unfold aRemove; rw [if_neg (show ¬ tHas (tsel (view w) 3) k from h_14)]; exact ⟨rfl, eqR_rf⟩, by show va_P _ _ _ t9.heap; rw [ht9]; exact hP⟩, hS.F ht9⟩) hS.2.2 dX2_remove_19
