set_option maxHeartbeats 4000000 in
set_option maxRecDepth 100000 in
/-- put -/
theorem c_Tree_put (l : Launch) (dC : Nat → ClassId) (dI : Nat → Nat → Nat) (cI cT : ClassId) (g : Nat → Nat) (a : RS) (k v z : Int32) (sz : Nat) (L : Nat) (hok : okR L a) (hL : L < 500000) : Met l yX1_put wsX1_put ({ frames := 3, cells := 0, slots := 0, locals := 66 }) (va_Pc [.ref (g 0), .int k, .int v, .int z] (zPW (dC, dI) vwCl cI cT (wR g cI cT a) sz)) (va_Qi (fun (r9 : Int32) (u9 : RS) => r9 = (aPut a k v z).1 ∧ eqR u9 (aPut a k v z).2) (fun u t => va_P (dC, dI) vwCl (wR g cI cT u) t.heap) (va_A (wR g cI cT a) sz)) 0 0 (va_A (wR g cI cT a) sz) := by
  refine Met.ofW (cc := cX1_put) (maxL := 4) (ret := (some .int)) (by decide) rfl ?_
  intro p e s m args below meth c s₁ B hml hv
  obtain ⟨rfl, hsz, hP, hK, hD0⟩ := hv
  have hx := B.exec
  have hb := B.bytes
  have hr := B.returns
  have hts := atoms_spec (ws := wsX1_put) B.pre
  have hown : s.vm.findClass RX1 = some m.cls := findClass_of_methodNamed B.named
  have hlocks := B.notSynchronized
  subst hsz
  have hD := hD0.self (sz := s.heap.size)
  generalize hAe : va_A (wR g cI cT a) s.heap.size = A at hD ⊢
  have hA : ∀ q : Nat, s.heap.size ≤ q → A q := fun q h => by rw [← hAe]; exact Or.inr h
  have hS : va_S A s.heap s.heap [] := va_S.rf
  have hl := lv_entry ([.ref (g 0), .int k, .int v, .int z]) (n := 4) (Nat.le_of_ble_eq_true rfl)
  rw [lg_entry_eq]
  generalize (lg_sl ([.ref (g 0), .int k, .int v, .int z]) ++ List.replicate (4 - (lg_sl ([.ref (g 0), .int k, .int v, .int z])).length) Slot.unset).toArray = ls at hl ⊢
  have hl : lv_has ls 4 [(0, .ref (g 0)), (1, .int k), (2, .int v), (3, .int z)] := hl
  have hok3 : okT (tsel a 3) := hok.1 3 (by decide)
  have hlat : rL a ≤ L := hok.2.2
  refine lv_iload_n hx hb dX1_put_0 rfl (lv_at hl 3 rfl) ?_
  refine lv_if_lt (tgt := 11) hx hb dX1_put_1 (by decide) (fun h_1 => ?_) (fun h_1 => ?_)
  · refine lv_iconst (v := (-1)) hx hb dX1_put_11 (by decide) ?_
    exact W.iret (v := (-1)) hx hb hr (fun t9 ht9 hW9 => ⟨⟨_, a, rfl, by unfold aPut; rw [if_pos (show z < 0 ∨ 300 < z from Or.inl h_1)]; exact ⟨rfl, eqR_rf⟩, by show va_P _ _ _ t9.heap; rw [ht9]; exact hP⟩, hS.F ht9⟩) hS.2.2 dX1_put_12
  · refine lv_iload_n hx hb dX1_put_4 rfl (lv_at hl 3 rfl) ?_
    refine lv_sipush (v := nI 300) hx hb dX1_put_5 (by decide) ?_
    refine lv_icmp_le (tgt := 13) hx hb dX1_put_8 (by decide) (fun h_8 => ?_) (fun h_8 => ?_)
    · refine lv_aload_n hx hb dX1_put_13 rfl (lv_at hl 0 rfl) ?_
      refine va_get (D := (dC, dI)) (ci := 1) (v := .ref (g 15)) (C := RX1) (T := TX1) (N := 4) hx hb hts (by decide +kernel) hown hK hP 0 rfl rfl 0 (by decide) (hts (.fieldLink RX1 10 "RevisionTree" "worked" "LRevisionTree$Table;") (by decide +kernel)) (fun _ h9 => h9) rfl dX1_put_14 ?_
      refine lv_iload_n hx hb dX1_put_17 rfl (lv_at hl 1 rfl) ?_
      refine lv_iload_n hx hb dX1_put_18 rfl (lv_at hl 2 rfl) ?_
      refine lv_iload_n hx hb dX1_put_19 rfl (lv_at hl 3 rfl) ?_
      refine zwri (w1 := fun u : TB => wT (g 15) (g 16) (g 17) (g 18) cI u) (va_runV (As := [.int k, .int v, .int z]) (rest := []) ⟨hx, hb, hml, hown, hts⟩ (c_Table_enter l dC dI cI cT (g 15) (g 16) (g 17) (g 18) (tsel a 3) k v z s.heap.size hok3) (cwV 3 hts gX1_put_X0_enter rfl rfl rfl (by decide +kernel) ⟨Nat.le_of_ble_eq_true rfl, Nat.le_of_ble_eq_true rfl⟩) (zpreV hK (hP.sub [15, 16, 17, 18] rfl) (hD.sub [15, 16, 17, 18] (by decide) rfl) rfl 0 rfl) rfl rfl hl.1 rfl (lv_room (Nat.le_of_ble_eq_true rfl)) dX1_put_20 ⟨Nat.le_of_ble_eq_true rfl, Nat.le_of_ble_eq_true rfl⟩) hP hD hS hA [15, 16, 17, 18] rfl (fun _ => rfl) (fun _ => rfl) (fun r u H locs hw hP hD hS => ?_)
      have hP : va_P (dC, dI) vwCl (wR g cI cT (tset a 3 u)) H := hP
      have hD : va_D A (wR g cI cT (tset a 3 u)) := hD
      exact W.iret (v := r) hx hb hr (fun t9 ht9 hW9 => ⟨⟨_, (tset a 3 u), rfl, by unfold aPut; rw [if_neg (fun q => q.elim h_1 (i_nl h_8))]; exact ⟨hw.1, tset_eq (by decide) eqR_rf hw.2⟩, by show va_P _ _ _ t9.heap; rw [ht9]; exact hP⟩, hS.F ht9⟩) hS.2.2 dX1_put_23
    · refine lv_iconst (v := (-1)) hx hb dX1_put_11 (by decide) ?_
      exact W.iret (v := (-1)) hx hb hr (fun t9 ht9 hW9 => ⟨⟨_, a, rfl, by unfold aPut; rw [if_pos (show z < 0 ∨ 300 < z from Or.inr (i_lt h_8))]; exact ⟨rfl, eqR_rf⟩, by show va_P _ _ _ t9.heap; rw [ht9]; exact hP⟩, hS.F ht9⟩) hS.2.2 dX1_put_12
set_option maxHeartbeats 4000000 in
set_option maxRecDepth 100000 in
/-- some -/
theorem c_Tree_some (l : Launch) (dC : Nat → ClassId) (dI : Nat → Nat → Nat) (cI cT : ClassId) (g : Nat → Nat) (a : RS) (fr stp many v : Int32) (sz : Nat) (L : Nat) (hok : okR L a) (hL : L < 500000) : Met l yX1_some wsX1_some ({ frames := 3, cells := 0, slots := 0, locals := 66 }) (va_Pc [.ref (g 0), .int fr, .int stp, .int many, .int v] (zPW (dC, dI) vwCl cI cT (wR g cI cT a) sz)) (va_Qi (fun (r9 : Int32) (u9 : RS) => r9 = (aSome a fr stp many v).1 ∧ eqR u9 (aSome a fr stp many v).2) (fun u t => va_P (dC, dI) vwCl (wR g cI cT u) t.heap) (va_A (wR g cI cT a) sz)) 0 0 (va_A (wR g cI cT a) sz) := by
  refine Met.ofW (cc := cX1_some) (maxL := 7) (ret := (some .int)) (by decide) rfl ?_
  intro p e s m args below meth c s₁ B hml hv
  obtain ⟨rfl, hsz, hP, hK, hD0⟩ := hv
  have hx := B.exec
  have hb := B.bytes
  have hr := B.returns
  have hts := atoms_spec (ws := wsX1_some) B.pre
  have hown : s.vm.findClass RX1 = some m.cls := findClass_of_methodNamed B.named
  have hlocks := B.notSynchronized
  subst hsz
  have hD := hD0.self (sz := s.heap.size)
  generalize hAe : va_A (wR g cI cT a) s.heap.size = A at hD ⊢
  have hA : ∀ q : Nat, s.heap.size ≤ q → A q := fun q h => by rw [← hAe]; exact Or.inr h
  have hS : va_S A s.heap s.heap [] := va_S.rf
  have hl := lv_entry ([.ref (g 0), .int fr, .int stp, .int many, .int v]) (n := 7) (Nat.le_of_ble_eq_true rfl)
  rw [lg_entry_eq]
  generalize (lg_sl ([.ref (g 0), .int fr, .int stp, .int many, .int v]) ++ List.replicate (7 - (lg_sl ([.ref (g 0), .int fr, .int stp, .int many, .int v])).length) Slot.unset).toArray = ls at hl ⊢
  have hl : lv_has ls 7 [(0, .ref (g 0)), (1, .int fr), (2, .int stp), (3, .int many), (4, .int v)] := hl
  have hok3 : okT (tsel a 3) := hok.1 3 (by decide)
  have hlat : rL a ≤ L := hok.2.2
  refine lv_iload_n hx hb dX1_some_0 rfl (lv_at hl 3 rfl) ?_
  refine lv_iconst (v := nI 1) hx hb dX1_some_1 (by decide) ?_
  refine lv_icmp_lt (tgt := 11) hx hb dX1_some_2 (by decide) (fun h_2 => ?_) (fun h_2 => ?_)
  · refine lv_iconst (v := (-1)) hx hb dX1_some_11 (by decide) ?_
    exact W.iret (v := (-1)) hx hb hr (fun t9 ht9 hW9 => ⟨⟨_, a, rfl, by unfold aSome; rw [if_pos (show many < 1 ∨ 60 < many from Or.inl h_2)]; exact ⟨rfl, eqR_rf⟩, by show va_P _ _ _ t9.heap; rw [ht9]; exact hP⟩, hS.F ht9⟩) hS.2.2 dX1_some_12
  · refine lv_iload_n hx hb dX1_some_5 rfl (lv_at hl 3 rfl) ?_
    refine lv_bipush (v := nI 60) hx hb dX1_some_6 (by decide) ?_
    refine lv_icmp_le (tgt := 13) hx hb dX1_some_8 (by decide) (fun h_8 => ?_) (fun h_8 => ?_)
    · obtain ⟨mm, hm1, hm2, rfl, em⟩ := many_in h_2 (i_nl h_8)
      refine lv_iconst (v := nI 0) hx hb dX1_some_13 (by decide) ?_
      refine lv_istore (lv' := [(5, .int (nI 0)), (0, .ref (g 0)), (1, .int fr), (2, .int stp), (3, .int (nI mm)), (4, .int v)]) hx hb dX1_some_14 hl (by decide) rfl (fun ls hl => ?_)
      refine lv_iconst (v := nI 0) hx hb dX1_some_16 (by decide) ?_
      refine lv_istore (lv' := [(6, .int (nI 0)), (5, .int (nI 0)), (0, .ref (g 0)), (1, .int fr), (2, .int stp), (3, .int (nI mm)), (4, .int v)]) hx hb dX1_some_17 hl (by decide) rfl (fun ls hl => ?_)
      refine zloop (σ := Nat × TB) (fun x H locs ls => match x with | (i, X) => (i ≤ mm ∧ eqT X (someF (tsel a 3) fr stp v i).2) ∧ va_P (dC, dI) vwCl (wR g cI cT (tset a 3 X)) H ∧ va_D A (wR g cI cT (tset a 3 X)) ∧ va_S A s.heap H locs ∧ lv_has ls 7 [(0, .ref (g 0)), (1, .int fr), (2, .int stp), (3, .int (nI mm)), (4, .int v), (5, .int (nI (someF (tsel a 3) fr stp v i).1)), (6, .int (nI i))]) (fun x => mm - x.1) ?_ (0, tsel a 3) ⟨⟨Nat.zero_le _, eqT_rf⟩, hP, hD, hS, lv_sub hl [2, 3, 4, 5, 6, 1, 0] rfl⟩
      rintro ⟨i, X⟩ H locs ls ⟨⟨hi, hq⟩, hP, hD, hS, hl⟩ ih
      refine lv_iload hx hb dX1_some_19 (lv_at hl 6 rfl) ?_
      refine lv_iload_n hx hb dX1_some_21 rfl (lv_at hl 3 rfl) ?_
      refine zge (tgt := 63) hx hb dX1_some_22 (by decide) (by omega) (by omega) (fun h_22 => ?_) (fun h_22 => ?_)
      · refine lv_iload hx hb dX1_some_63 (lv_at hl 5 rfl) ?_
        have ei : i = mm := by omega
        subst ei
        exact W.iret (v := nI ((someF (tsel a 3) fr stp v i).1)) hx hb hr (fun t9 ht9 hW9 => ⟨⟨_, (tset a 3 X), rfl, by unfold aSome; rw [if_neg (fun q => q.elim h_2 (i_nl h_8)), em]; exact ⟨rfl, tset_eq (by decide) eqR_rf hq⟩, by show va_P _ _ _ t9.heap; rw [ht9]; exact hP⟩, hS.F ht9⟩) hS.2.2 dX1_some_65
      · refine lv_aload_n hx hb dX1_some_25 rfl (lv_at hl 0 rfl) ?_
        refine va_get (D := (dC, dI)) (ci := 1) (v := .ref (g 15)) (C := RX1) (T := TX1) (N := 4) hx hb hts (by decide +kernel) hown hK hP 0 rfl rfl 0 (by decide) (hts (.fieldLink RX1 10 "RevisionTree" "worked" "LRevisionTree$Table;") (by decide +kernel)) (fun _ h9 => h9) rfl dX1_some_26 ?_
        refine lv_iload_n hx hb dX1_some_29 rfl (lv_at hl 1 rfl) ?_
        refine lv_iload hx hb dX1_some_30 (lv_at hl 6 rfl) ?_
        refine lv_iload_n hx hb dX1_some_32 rfl (lv_at hl 2 rfl) ?_
        refine lv_imul hx hb dX1_some_33 ?_
        refine lv_iadd hx hb dX1_some_34 ?_
        refine lv_iload hx hb dX1_some_35 (lv_at hl 4 rfl) ?_
        refine lv_iload hx hb dX1_some_37 (lv_at hl 6 rfl) ?_
        refine lv_iadd hx hb dX1_some_39 ?_
        refine lv_iload hx hb dX1_some_40 (lv_at hl 4 rfl) ?_
        refine lv_iload hx hb dX1_some_42 (lv_at hl 6 rfl) ?_
        refine zroi (va_runS (As := [.int v, .int (nI i)]) (rest := [.int (v + (nI i)), .int (fr + ((nI i) * stp)), .ref (g 15)]) ⟨hx, hb, hml, hown, hts⟩ (c_Tree_sizeInRow l dC dI cI cT v i H.size (by omega)) (va_cwS 2 hts gX1_some_X1_sizeInRow rfl rfl rfl (by decide +kernel) ⟨Nat.le_of_ble_eq_true rfl, Nat.le_of_ble_eq_true rfl⟩) (zpreS hK (wc := []) (hP.sub [] rfl) (hD.sub [] (by decide) rfl)) rfl rfl hl.1 rfl (lv_room (Nat.le_of_ble_eq_true rfl)) dX1_some_44 ⟨Nat.le_of_ble_eq_true rfl, Nat.le_of_ble_eq_true rfl⟩) hP hS hA (fun H locs hP hS => ?_)
        refine zwri (w1 := fun u : TB => wT (g 15) (g 16) (g 17) (g 18) cI u) (va_runV (As := [.int (fr + ((nI i) * stp)), .int (v + (nI i)), .int (zsz v i)]) (rest := []) ⟨hx, hb, hml, hown, hts⟩ (c_Table_enter l dC dI cI cT (g 15) (g 16) (g 17) (g 18) X (fr + nI i * stp) (v + nI i) (zsz v i) H.size (okT_eq (eqT_sy hq) (someF_ok hok3 _ _ _ _))) (cwV 3 hts gX1_some_X0_enter rfl rfl rfl (by decide +kernel) ⟨Nat.le_of_ble_eq_true rfl, Nat.le_of_ble_eq_true rfl⟩) (zpreV hK (hP.sub [15, 16, 17, 18] rfl) (hD.sub [15, 16, 17, 18] (by decide) rfl) rfl 0 rfl) rfl rfl hl.1 rfl (lv_room (Nat.le_of_ble_eq_true rfl)) dX1_some_47 ⟨Nat.le_of_ble_eq_true rfl, Nat.le_of_ble_eq_true rfl⟩) hP hD hS hA [15, 16, 17, 18] rfl (fun _ => rfl) (fun _ => rfl) (fun r u H locs hw hP hD hS => ?_)
        have hP : va_P (dC, dI) vwCl (wR g cI cT (tset a 3 u)) H := hP
        have hD : va_D A (wR g cI cT (tset a 3 u)) := hD
        refine lv_iconst (v := nI 1) hx hb dX1_some_50 (by decide) ?_
        refine lv_icmp_ne (tgt := 57) hx hb dX1_some_51 (by decide) (fun h_51 => ?_) (fun h_51 => ?_)
        · refine lv_iinc (v := nI (i + 1)) (lv' := [(6, .int (nI (i + 1))), (0, .ref (g 0)), (1, .int fr), (2, .int stp), (3, .int (nI mm)), (4, .int v), (5, .int (nI ((someF (tsel a 3) fr stp v i).1)))]) hx hb dX1_some_57 hl (k := 6) rfl (zinc _) (by decide) rfl (fun ls hl => ?_)
          refine lv_goto (tgt := 19) hx hb dX1_some_60 (by decide) ?_
          have ec : (someF (tsel a 3) fr stp v (i + 1)).1 = (someF (tsel a 3) fr stp v i).1 := if_neg (fun q => h_51 (by rw [hw.1, (tEnter_eq hq (fr + nI i * stp) (v + nI i) (zsz v i)).1]; exact q))
          exact ih (i + 1, u) _ _ _ ⟨⟨by omega, eqT_tr hw.2 (tEnter_eq hq (fr + nI i * stp) (v + nI i) (zsz v i)).2⟩, hP, hD, hS, by rw [ec]; exact lv_sub hl [1, 2, 3, 4, 5, 6, 0] rfl⟩ (by show mm - (i + 1) < mm - i; omega)
        · refine lv_iinc (v := nI (((someF (tsel a 3) fr stp v i).1) + 1)) (lv' := [(5, .int (nI (((someF (tsel a 3) fr stp v i).1) + 1))), (0, .ref (g 0)), (1, .int fr), (2, .int stp), (3, .int (nI mm)), (4, .int v), (6, .int (nI i))]) hx hb dX1_some_54 hl (k := 5) rfl (zinc _) (by decide) rfl (fun ls hl => ?_)
          refine lv_iinc (v := nI (i + 1)) (lv' := [(6, .int (nI (i + 1))), (5, .int (nI (((someF (tsel a 3) fr stp v i).1) + 1))), (0, .ref (g 0)), (1, .int fr), (2, .int stp), (3, .int (nI mm)), (4, .int v)]) hx hb dX1_some_57 hl (k := 6) rfl (zinc _) (by decide) rfl (fun ls hl => ?_)
          refine lv_goto (tgt := 19) hx hb dX1_some_60 (by decide) ?_
          have ec : (someF (tsel a 3) fr stp v (i + 1)).1 = (someF (tsel a 3) fr stp v i).1 + 1 := if_pos (by rw [← (tEnter_eq hq (fr + nI i * stp) (v + nI i) (zsz v i)).1, ← hw.1]; exact h_51)
          exact ih (i + 1, u) _ _ _ ⟨⟨by omega, eqT_tr hw.2 (tEnter_eq hq (fr + nI i * stp) (v + nI i) (zsz v i)).2⟩, hP, hD, hS, by rw [ec]; exact lv_sub hl [2, 3, 4, 5, 6, 1, 0] rfl⟩ (by show mm - (i + 1) < mm - i; omega)
    · refine lv_iconst (v := (-1)) hx hb dX1_some_11 (by decide) ?_
      exact W.iret (v := (-1)) hx hb hr (fun t9 ht9 hW9 => ⟨⟨_, a, rfl, by unfold aSome; rw [if_pos (show many < 1 ∨ 60 < many from Or.inr (i_lt h_8))]; exact ⟨rfl, eqR_rf⟩, by show va_P _ _ _ t9.heap; rw [ht9]; exact hP⟩, hS.F ht9⟩) hS.2.2 dX1_some_12
set_option maxHeartbeats 4000000 in
set_option maxRecDepth 100000 in
/-- remove -/
theorem c_Tree_remove (l : Launch) (dC : Nat → ClassId) (dI : Nat → Nat → Nat) (cI cT : ClassId) (g : Nat → Nat) (a : RS) (k : Int32) (sz : Nat) (L : Nat) (hok : okR L a) (hL : L < 500000) : Met l yX1_remove wsX1_remove ({ frames := 3, cells := 0, slots := 0, locals := 63 }) (va_Pc [.ref (g 0), .int k] (zPW (dC, dI) vwCl cI cT (wR g cI cT a) sz)) (va_Qi (fun (r9 : Int32) (u9 : RS) => r9 = (aRemove a k).1 ∧ eqR u9 (aRemove a k).2) (fun u t => va_P (dC, dI) vwCl (wR g cI cT u) t.heap) (va_A (wR g cI cT a) sz)) 0 0 (va_A (wR g cI cT a) sz) := by
  refine Met.ofW (cc := cX1_remove) (maxL := 2) (ret := (some .int)) (by decide) rfl ?_
  intro p e s m args below meth c s₁ B hml hv
  obtain ⟨rfl, hsz, hP, hK, hD0⟩ := hv
  have hx := B.exec
  have hb := B.bytes
  have hr := B.returns
  have hts := atoms_spec (ws := wsX1_remove) B.pre
  have hown : s.vm.findClass RX1 = some m.cls := findClass_of_methodNamed B.named
  have hlocks := B.notSynchronized
  subst hsz
  have hD := hD0.self (sz := s.heap.size)
  generalize hAe : va_A (wR g cI cT a) s.heap.size = A at hD ⊢
  have hA : ∀ q : Nat, s.heap.size ≤ q → A q := fun q h => by rw [← hAe]; exact Or.inr h
  have hS : va_S A s.heap s.heap [] := va_S.rf
  have hl := lv_entry ([.ref (g 0), .int k]) (n := 2) (Nat.le_of_ble_eq_true rfl)
  rw [lg_entry_eq]
  generalize (lg_sl ([.ref (g 0), .int k]) ++ List.replicate (2 - (lg_sl ([.ref (g 0), .int k])).length) Slot.unset).toArray = ls at hl ⊢
  have hl : lv_has ls 2 [(0, .ref (g 0)), (1, .int k)] := hl
  have hok3 : okT (tsel a 3) := hok.1 3 (by decide)
  have hlat : rL a ≤ L := hok.2.2
  refine lv_aload_n hx hb dX1_remove_0 rfl (lv_at hl 0 rfl) ?_
  refine va_get (D := (dC, dI)) (ci := 1) (v := .ref (g 15)) (C := RX1) (T := TX1) (N := 4) hx hb hts (by decide +kernel) hown hK hP 0 rfl rfl 0 (by decide) (hts (.fieldLink RX1 10 "RevisionTree" "worked" "LRevisionTree$Table;") (by decide +kernel)) (fun _ h9 => h9) rfl dX1_remove_1 ?_
  refine lv_iload_n hx hb dX1_remove_4 rfl (lv_at hl 1 rfl) ?_
  refine zwri (w1 := fun u : TB => wT (g 15) (g 16) (g 17) (g 18) cI u) (va_runV (As := [.int k]) (rest := []) ⟨hx, hb, hml, hown, hts⟩ (c_Table_drop l dC dI cI cT (g 15) (g 16) (g 17) (g 18) (tsel a 3) k s.heap.size hok3) (cwV 1 hts gX1_remove_X0_drop rfl rfl rfl (by decide +kernel) ⟨Nat.le_of_ble_eq_true rfl, Nat.le_of_ble_eq_true rfl⟩) (zpreV hK (hP.sub [15, 16, 17, 18] rfl) (hD.sub [15, 16, 17, 18] (by decide) rfl) rfl 0 rfl) rfl rfl hl.1 rfl (lv_room (Nat.le_of_ble_eq_true rfl)) dX1_remove_5 ⟨Nat.le_of_ble_eq_true rfl, Nat.le_of_ble_eq_true rfl⟩) hP hD hS hA [15, 16, 17, 18] rfl (fun _ => rfl) (fun _ => rfl) (fun r u H locs hw hP hD hS => ?_)
  have hP : va_P (dC, dI) vwCl (wR g cI cT (tset a 3 u)) H := hP
  have hD : va_D A (wR g cI cT (tset a 3 u)) := hD
  obtain ⟨rfl, hq⟩ := hw
  refine zifeq (tgt := 21) hx hb dX1_remove_8 (by decide) (fun h_8 => ?_) (fun h_8 => ?_)
  · refine lv_bipush (v := (-2)) hx hb dX1_remove_21 (by decide) ?_
    rw [tDrop_n h_8] at hq
    exact W.iret (v := (-2)) hx hb hr (fun t9 ht9 hW9 => ⟨⟨_, (tset a 3 u), rfl, by unfold aRemove; rw [if_neg h_8]; exact ⟨rfl, (tset_eq (by decide) eqR_rf hq : eqR (tset a 3 u) (tset a 3 (tsel a 3)))⟩, by show va_P _ _ _ t9.heap; rw [ht9]; exact hP⟩, hS.F ht9⟩) hS.2.2 dX1_remove_23
  · refine lv_aload_n hx hb dX1_remove_11 rfl (lv_at hl 0 rfl) ?_
    refine va_get (D := (dC, dI)) (ci := 1) (v := .ref (g 15)) (C := RX1) (T := TX1) (N := 4) hx hb hts (by decide +kernel) hown hK hP 0 rfl rfl 0 (by decide) (hts (.fieldLink RX1 10 "RevisionTree" "worked" "LRevisionTree$Table;") (by decide +kernel)) (fun _ h9 => h9) rfl dX1_remove_12 ?_
    refine va_get (D := (dC, dI)) (ci := 0) (v := .int (nI u.1)) (C := RX0) (T := TX0) (N := 4) hx hb hts (by decide +kernel) hown hK hP 15 rfl rfl 3 (by decide) (hts (.fieldLink RX1 40 "RevisionTree$Table" "held" "I") (by decide +kernel)) (fun _ h9 => h9) rfl dX1_remove_15 ?_
    refine lv_goto (tgt := 23) hx hb dX1_remove_18 (by decide) ?_
    exact W.iret (v := nI u.1) hx hb hr (fun t9 ht9 hW9 => ⟨⟨_, (tset a 3 u), rfl, by unfold aRemove; rw [if_pos h_8]; exact ⟨congrArg nI (by have h9 := hq.1; rw [tDrop_h h_8] at h9; exact h9), tset_eq (by decide) eqR_rf hq⟩, by show va_P _ _ _ t9.heap; rw [ht9]; exact hP⟩, hS.F ht9⟩) hS.2.2 dX1_remove_23
