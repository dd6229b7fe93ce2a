set_option maxHeartbeats 4000000 in
set_option maxRecDepth 100000 in
/-- put -/
theorem c_Model_put (l : Launch) (dC : Nat → ClassId) (dI : Nat → Nat → Nat) (cI cT : ClassId) (g : Nat → Nat) (w : MS) (k v z : Int32) (sz : Nat) (L : Nat) (hok : okR L (view w)) (hL : L < 500000) : Met l yX2_put wsX2_put ({ frames := 1, cells := 0, slots := 0, locals := 23 }) (va_Pc [.ref (g 0), .int k, .int v, .int z] (zPW (dC, dI) vwCl cI cT (wM g cI w) sz)) (va_Qi (fun (r9 : Int32) (u9 : MS) => r9 = (aPut (view w) k v z).1 ∧ eqR (view u9) (aPut (view w) k v z).2) (fun u t => va_P (dC, dI) vwCl (wM g cI u) t.heap) (va_A (wM g cI w) sz)) 0 0 (va_A (wM g cI w) sz) := by
  refine Met.ofW (cc := cX2_put) (maxL := 7) (ret := (some .int)) (by decide) rfl ?_
  intro p e s m args below meth c s₁ B hml hv
  obtain ⟨rfl, hsz, hP, hK, hD0⟩ := hv
  have hx := B.exec
  have hb := B.bytes
  have hr := B.returns
  have hts := atoms_spec (ws := wsX2_put) B.pre
  have hown : s.vm.findClass RX2 = some m.cls := findClass_of_methodNamed B.named
  have hlocks := B.notSynchronized
  subst hsz
  have hD := hD0.self (sz := s.heap.size)
  generalize hAe : va_A (wM g cI w) s.heap.size = A at hD ⊢
  have hA : ∀ q : Nat, s.heap.size ≤ q → A q := fun q h => by rw [← hAe]; exact Or.inr h
  have hS : va_S A s.heap s.heap [] := va_S.rf
  have hl := lv_entry ([.ref (g 0), .int k, .int v, .int z]) (n := 7) (Nat.le_of_ble_eq_true rfl)
  rw [lg_entry_eq]
  generalize (lg_sl ([.ref (g 0), .int k, .int v, .int z]) ++ List.replicate (7 - (lg_sl ([.ref (g 0), .int k, .int v, .int z])).length) Slot.unset).toArray = ls at hl ⊢
  have hl : lv_has ls 7 [(0, .ref (g 0)), (1, .int k), (2, .int v), (3, .int z)] := hl
  have hle : ∀ t, t < 4 → mC w t ≤ 400 := fun t ht => by have h9 := (hok.1 t ht).1; rw [view_t w ht] at h9; exact h9
  have hc3 : mC w 3 ≤ 400 := hle 3 (by decide)
  have hlat : mL w ≤ L := hok.2.2
  refine lv_iload_n hx hb dX2_put_0 rfl (lv_at hl 3 rfl) ?_
  refine lv_if_lt (tgt := 11) hx hb dX2_put_1 (by decide) (fun h_1 => ?_) (fun h_1 => ?_)
  · refine lv_iconst (v := (-1)) hx hb dX2_put_11 (by decide) ?_
    exact W.iret (v := (-1)) hx hb hr (fun t9 ht9 hW9 => ⟨⟨_, w, rfl, by unfold aPut; rw [if_pos (show z < 0 ∨ 300 < z from Or.inl h_1)]; exact ⟨rfl, eqR_rf⟩, by show va_P _ _ _ t9.heap; rw [ht9]; exact hP⟩, hS.F ht9⟩) hS.2.2 dX2_put_12
  · refine lv_iload_n hx hb dX2_put_4 rfl (lv_at hl 3 rfl) ?_
    refine lv_sipush (v := nI 300) hx hb dX2_put_5 (by decide) ?_
    refine lv_icmp_le (tgt := 13) hx hb dX2_put_8 (by decide) (fun h_8 => ?_) (fun h_8 => ?_)
    · refine lv_aload_n hx hb dX2_put_13 rfl (lv_at hl 0 rfl) ?_
      refine lv_iconst (v := nI 3) hx hb dX2_put_14 (by decide) ?_
      refine lv_iload_n hx hb dX2_put_15 rfl (lv_at hl 1 rfl) ?_
      refine zroi (va_runV (As := [.int (nI 3), .int k]) (rest := []) ⟨hx, hb, hml, hown, hts⟩ (c_Model_place l dC dI cI cT g w 3 k s.heap.size (by decide) hle) (cwV 2 hts gX2_put_X2_place rfl rfl rfl (by decide +kernel) ⟨Nat.le_of_ble_eq_true rfl, Nat.le_of_ble_eq_true rfl⟩) (zpreV hK hP hD rfl 0 rfl) rfl rfl hl.1 rfl (lv_room (Nat.le_of_ble_eq_true rfl)) dX2_put_16 ⟨Nat.le_of_ble_eq_true rfl, Nat.le_of_ble_eq_true rfl⟩) hP hS hA (fun H locs hP hS => ?_)
      obtain ⟨q, eq⟩ : ∃ q, q = tPl (vT w 3) k := ⟨_, rfl⟩
      rw [← eq]
      have hq : q ≤ mC w 3 := by rw [eq]; exact pl_le _ _ _
      refine lv_istore (lv' := [(4, .int (nI (400 * 3 + q))), (0, .ref (g 0)), (1, .int k), (2, .int v), (3, .int z)]) hx hb dX2_put_19 hl (by decide) rfl (fun ls hl => ?_)
      refine lv_aload_n hx hb dX2_put_21 rfl (lv_at hl 1 rfl) ?_
      refine lv_iconst (v := nI 3) hx hb dX2_put_22 (by decide) ?_
      refine lv_iload hx hb dX2_put_23 (lv_at hl 0 rfl) ?_
      refine lv_iload_n hx hb dX2_put_25 rfl (lv_at hl 2 rfl) ?_
      refine zroi (va_runV (As := [.int (nI 3), .int (nI (400 * 3 + q)), .int k]) (rest := []) ⟨hx, hb, hml, hown, hts⟩ (c_Model_is l dC dI cI cT g w 3 q k H.size (by decide) hle (by omega)) (cwV 3 hts gX2_put_X2_is rfl rfl rfl (by decide +kernel) ⟨Nat.le_of_ble_eq_true rfl, Nat.le_of_ble_eq_true rfl⟩) (zpreV hK hP hD rfl 0 rfl) rfl rfl hl.1 rfl (lv_room (Nat.le_of_ble_eq_true rfl)) dX2_put_26 ⟨Nat.le_of_ble_eq_true rfl, Nat.le_of_ble_eq_true rfl⟩) hP hS hA (fun H locs hP hS => ?_)
      refine lv_istore (lv' := [(5, .int (bz (q < mC w 3 ∧ mK w (400 * 3 + q) = k))), (4, .int (nI (400 * 3 + q))), (0, .ref (g 0)), (1, .int k), (2, .int v), (3, .int z)]) hx hb dX2_put_29 hl (by decide) rfl (fun ls hl => ?_)
      refine lv_iload hx hb dX2_put_31 (lv_at hl 0 rfl) ?_
      refine zifne (tgt := 51) hx hb dX2_put_33 (by decide) (fun h_33 => ?_) (fun h_33 => ?_)
      · refine lv_iload hx hb dX2_put_51 (lv_at hl 0 rfl) ?_
        refine zifne (tgt := 139) hx hb dX2_put_53 (by decide) (fun h_53 => ?_) (fun h_53 => absurd h_33 h_53)
        have hq4 : q < 400 := by have h9 := h_33.1; omega
        refine lv_aload_n hx hb dX2_put_139 rfl (lv_at hl 2 rfl) ?_
        refine va_get (D := (dC, dI)) (ci := 2) (v := .ref (g 1)) (C := RX2) (T := TX2) (N := 6) hx hb hts (by decide +kernel) hown hK hP 0 rfl rfl 0 (by decide) (hts (.fieldLink RX2 9 "RevisionTreeModel" "key" "[I") (by decide +kernel)) (fun _ h9 => h9) rfl dX2_put_140 ?_
        refine lv_iload hx hb dX2_put_143 (lv_at hl 1 rfl) ?_
        refine lv_iload_n hx hb dX2_put_145 rfl (lv_at hl 3 rfl) ?_
        refine zwrN hx hb hK hP hD hS 1 0 rfl rfl (j := 400 * 3 + q) (by omega) (by decide) dX2_put_146 (fun H locs hP hD hS => ?_)
        have hP : va_P (dC, dI) vwCl (wM g cI (upd (mK w) (400 * 3 + q) k, mV w, mS w, mC w, mR w, mL w)) H := hP
        have hD : va_D A (wM g cI (upd (mK w) (400 * 3 + q) k, mV w, mS w, mC w, mR w, mL w)) := hD
        refine lv_aload_n hx hb dX2_put_147 rfl (lv_at hl 2 rfl) ?_
        refine va_get (D := (dC, dI)) (ci := 2) (v := .ref (g 2)) (C := RX2) (T := TX2) (N := 6) hx hb hts (by decide +kernel) hown hK hP 0 rfl rfl 1 (by decide) (hts (.fieldLink RX2 13 "RevisionTreeModel" "value" "[I") (by decide +kernel)) (fun _ h9 => h9) rfl dX2_put_148 ?_
        refine lv_iload hx hb dX2_put_151 (lv_at hl 1 rfl) ?_
        refine lv_iload_n hx hb dX2_put_153 rfl (lv_at hl 4 rfl) ?_
        refine zwrN hx hb hK hP hD hS 2 0 rfl rfl (j := 400 * 3 + q) (by omega) (by decide) dX2_put_154 (fun H locs hP hD hS => ?_)
        have hP : va_P (dC, dI) vwCl (wM g cI (upd (mK w) (400 * 3 + q) k, upd (mV w) (400 * 3 + q) v, mS w, mC w, mR w, mL w)) H := hP
        have hD : va_D A (wM g cI (upd (mK w) (400 * 3 + q) k, upd (mV w) (400 * 3 + q) v, mS w, mC w, mR w, mL w)) := hD
        refine lv_aload_n hx hb dX2_put_155 rfl (lv_at hl 2 rfl) ?_
        refine va_get (D := (dC, dI)) (ci := 2) (v := .ref (g 3)) (C := RX2) (T := TX2) (N := 6) hx hb hts (by decide +kernel) hown hK hP 0 rfl rfl 2 (by decide) (hts (.fieldLink RX2 16 "RevisionTreeModel" "size" "[I") (by decide +kernel)) (fun _ h9 => h9) rfl dX2_put_156 ?_
        refine lv_iload hx hb dX2_put_159 (lv_at hl 1 rfl) ?_
        refine lv_iload_n hx hb dX2_put_161 rfl (lv_at hl 5 rfl) ?_
        refine zwrN hx hb hK hP hD hS 3 0 rfl rfl (j := 400 * 3 + q) (by omega) (by decide) dX2_put_162 (fun H locs hP hD hS => ?_)
        have hP : va_P (dC, dI) vwCl (wM g cI (upd (mK w) (400 * 3 + q) k, upd (mV w) (400 * 3 + q) v, upd (mS w) (400 * 3 + q) z, mC w, mR w, mL w)) H := hP
        have hD : va_D A (wM g cI (upd (mK w) (400 * 3 + q) k, upd (mV w) (400 * 3 + q) v, upd (mS w) (400 * 3 + q) z, mC w, mR w, mL w)) := hD
        refine lv_iload hx hb dX2_put_163 (lv_at hl 0 rfl) ?_
        refine zifeq (tgt := 172) hx hb dX2_put_165 (by decide) (fun h_165 => absurd h_33 h_165) (fun h_165 => ?_)
        refine lv_iconst (v := nI 0) hx hb dX2_put_168 (by decide) ?_
        refine lv_goto (tgt := 173) hx hb dX2_put_169 (by decide) ?_
        exact W.iret (v := nI 0) hx hb hr (fun t9 ht9 hW9 => ⟨⟨_, (upd (mK w) (400 * 3 + q) k, upd (mV w) (400 * 3 + q) v, upd (mS w) (400 * 3 + q) z, mC w, mR w, mL w), rfl, by subst eq; unfold aPut; rw [if_neg (fun q => q.elim h_1 (i_nl h_8))]; exact ⟨(put_viewH hle h_33).1.symm, (put_viewH hle h_33).2⟩, by show va_P _ _ _ t9.heap; rw [ht9]; exact hP⟩, hS.F ht9⟩) hS.2.2 dX2_put_173
      · refine lv_aload_n hx hb dX2_put_36 rfl (lv_at hl 2 rfl) ?_
        refine va_get (D := (dC, dI)) (ci := 2) (v := .ref (g 4)) (C := RX2) (T := TX2) (N := 6) hx hb hts (by decide +kernel) hown hK hP 0 rfl rfl 3 (by decide) (hts (.fieldLink RX2 19 "RevisionTreeModel" "count" "[I") (by decide +kernel)) (fun _ h9 => h9) rfl dX2_put_37 ?_
        refine lv_iconst (v := nI 3) hx hb dX2_put_40 (by decide) ?_
        refine zrdN hx hb hK hP 4 0 rfl rfl (j := 3) (by omega) (by decide) dX2_put_41 ?_
        refine lv_sipush (v := nI 400) hx hb dX2_put_42 (by decide) ?_
        refine zne (tgt := 51) hx hb dX2_put_45 (by decide) (by omega) (by omega) (fun h_45 => ?_) (fun h_45 => ?_)
        · refine lv_iload hx hb dX2_put_51 (lv_at hl 0 rfl) ?_
          refine zifne (tgt := 139) hx hb dX2_put_53 (by decide) (fun h_53 => absurd h_53 h_33) (fun h_53 => ?_)
          refine lv_sipush (v := nI 1200) hx hb dX2_put_56 (by decide) ?_
          refine lv_aload_n hx hb dX2_put_59 rfl (lv_at hl 2 rfl) ?_
          refine va_get (D := (dC, dI)) (ci := 2) (v := .ref (g 4)) (C := RX2) (T := TX2) (N := 6) hx hb hts (by decide +kernel) hown hK hP 0 rfl rfl 3 (by decide) (hts (.fieldLink RX2 19 "RevisionTreeModel" "count" "[I") (by decide +kernel)) (fun _ h9 => h9) rfl dX2_put_60 ?_
          refine lv_iconst (v := nI 3) hx hb dX2_put_63 (by decide) ?_
          refine zrdN hx hb hK hP 4 0 rfl rfl (j := 3) (by omega) (by decide) dX2_put_64 ?_
          refine lv_iadd hx hb dX2_put_65 ?_
          refine zt (y := nI (1200 + (mC w 3))) (nI_add _ _) ?_
          refine lv_istore (lv' := [(6, .int (nI (1200 + (mC w 3)))), (5, .int (bz (q < mC w 3 ∧ mK w (400 * 3 + q) = k))), (4, .int (nI (400 * 3 + q))), (0, .ref (g 0)), (1, .int k), (2, .int v), (3, .int z)]) hx hb dX2_put_66 hl (by decide) rfl (fun ls hl => ?_)
          refine zloop (σ := Nat × (Nat → Int32) × (Nat → Int32) × (Nat → Int32)) (fun x H locs ls => match x with | (c, K', V', S') => (q ≤ c ∧ c ≤ mC w 3 ∧ shR (mK w) K' c (mC w 3) ∧ shR (mV w) V' c (mC w 3) ∧ shR (mS w) S' c (mC w 3)) ∧ va_P (dC, dI) vwCl (wM g cI (K', V', S', mC w, mR w, mL w)) H ∧ va_D A (wM g cI (K', V', S', mC w, mR w, mL w)) ∧ va_S A s.heap H locs ∧ lv_has ls 7 [(0, .ref (g 0)), (1, .int k), (2, .int v), (3, .int z), (4, .int (nI (400 * 3 + q))), (5, .int (bz (q < mC w 3 ∧ mK w (400 * 3 + q) = k))), (6, .int (nI (1200 + c)))]) (fun x => x.1) ?_ (mC w 3, mK w, mV w, mS w) ⟨⟨hq, Nat.le_refl _, shR_0, shR_0, shR_0⟩, hP, hD, hS, lv_sub hl [3, 4, 5, 6, 2, 1, 0] rfl⟩
          rintro ⟨c, K', V', S'⟩ H locs ls ⟨⟨h1, h2, hk, hv, hs⟩, hP, hD, hS, hl⟩ ih
          refine lv_iload hx hb dX2_put_68 (lv_at hl 6 rfl) ?_
          refine lv_iload hx hb dX2_put_70 (lv_at hl 4 rfl) ?_
          refine zle (tgt := 129) hx hb dX2_put_72 (by decide) (by omega) (by omega) (fun h_72 => ?_) (fun h_72 => ?_)
          · obtain rfl : q = c := by omega
            refine lv_aload_n hx hb dX2_put_129 rfl (lv_at hl 0 rfl) ?_
            refine va_get (D := (dC, dI)) (ci := 2) (v := .ref (g 4)) (C := RX2) (T := TX2) (N := 6) hx hb hts (by decide +kernel) hown hK hP 0 rfl rfl 3 (by decide) (hts (.fieldLink RX2 19 "RevisionTreeModel" "count" "[I") (by decide +kernel)) (fun _ h9 => h9) rfl dX2_put_130 ?_
            refine lv_iconst (v := nI 3) hx hb dX2_put_133 (by decide) ?_
            refine lv_dup2_11 hx hb dX2_put_134 rfl rfl ?_
            refine zrdN hx hb hK hP 4 0 rfl rfl (j := 3) (by omega) (by decide) dX2_put_135 ?_
            refine lv_iconst (v := nI 1) hx hb dX2_put_136 (by decide) ?_
            refine lv_iadd hx hb dX2_put_137 ?_
            refine zt (y := nI ((mC w 3) + 1)) (nI_add _ _) ?_
            refine zwrN hx hb hK hP hD hS 4 0 rfl rfl (j := 3) (by omega) (by decide) dX2_put_138 (fun H locs hP hD hS => ?_)
            rw [rd_up (f := mC w) (j := 3) (x := (mC w 3) + 1)] at hP hD
            have hP : va_P (dC, dI) vwCl (wM g cI (K', V', S', (va_up (mC w) 3 ((mC w 3) + 1)), mR w, mL w)) H := hP
            have hD : va_D A (wM g cI (K', V', S', (va_up (mC w) 3 ((mC w 3) + 1)), mR w, mL w)) := hD
            have hq4 : q < 400 := by omega
            refine lv_aload_n hx hb dX2_put_139 rfl (lv_at hl 0 rfl) ?_
            refine va_get (D := (dC, dI)) (ci := 2) (v := .ref (g 1)) (C := RX2) (T := TX2) (N := 6) hx hb hts (by decide +kernel) hown hK hP 0 rfl rfl 0 (by decide) (hts (.fieldLink RX2 9 "RevisionTreeModel" "key" "[I") (by decide +kernel)) (fun _ h9 => h9) rfl dX2_put_140 ?_
            refine lv_iload hx hb dX2_put_143 (lv_at hl 4 rfl) ?_
            refine lv_iload_n hx hb dX2_put_145 rfl (lv_at hl 1 rfl) ?_
            refine zwrN hx hb hK hP hD hS 1 0 rfl rfl (j := 400 * 3 + q) (by omega) (by decide) dX2_put_146 (fun H locs hP hD hS => ?_)
            have hP : va_P (dC, dI) vwCl (wM g cI (upd K' (400 * 3 + q) k, V', S', (va_up (mC w) 3 ((mC w 3) + 1)), mR w, mL w)) H := hP
            have hD : va_D A (wM g cI (upd K' (400 * 3 + q) k, V', S', (va_up (mC w) 3 ((mC w 3) + 1)), mR w, mL w)) := hD
            refine lv_aload_n hx hb dX2_put_147 rfl (lv_at hl 0 rfl) ?_
            refine va_get (D := (dC, dI)) (ci := 2) (v := .ref (g 2)) (C := RX2) (T := TX2) (N := 6) hx hb hts (by decide +kernel) hown hK hP 0 rfl rfl 1 (by decide) (hts (.fieldLink RX2 13 "RevisionTreeModel" "value" "[I") (by decide +kernel)) (fun _ h9 => h9) rfl dX2_put_148 ?_
            refine lv_iload hx hb dX2_put_151 (lv_at hl 4 rfl) ?_
            refine lv_iload_n hx hb dX2_put_153 rfl (lv_at hl 2 rfl) ?_
            refine zwrN hx hb hK hP hD hS 2 0 rfl rfl (j := 400 * 3 + q) (by omega) (by decide) dX2_put_154 (fun H locs hP hD hS => ?_)
            have hP : va_P (dC, dI) vwCl (wM g cI (upd K' (400 * 3 + q) k, upd V' (400 * 3 + q) v, S', (va_up (mC w) 3 ((mC w 3) + 1)), mR w, mL w)) H := hP
            have hD : va_D A (wM g cI (upd K' (400 * 3 + q) k, upd V' (400 * 3 + q) v, S', (va_up (mC w) 3 ((mC w 3) + 1)), mR w, mL w)) := hD
            refine lv_aload_n hx hb dX2_put_155 rfl (lv_at hl 0 rfl) ?_
            refine va_get (D := (dC, dI)) (ci := 2) (v := .ref (g 3)) (C := RX2) (T := TX2) (N := 6) hx hb hts (by decide +kernel) hown hK hP 0 rfl rfl 2 (by decide) (hts (.fieldLink RX2 16 "RevisionTreeModel" "size" "[I") (by decide +kernel)) (fun _ h9 => h9) rfl dX2_put_156 ?_
            refine lv_iload hx hb dX2_put_159 (lv_at hl 4 rfl) ?_
            refine lv_iload_n hx hb dX2_put_161 rfl (lv_at hl 3 rfl) ?_
            refine zwrN hx hb hK hP hD hS 3 0 rfl rfl (j := 400 * 3 + q) (by omega) (by decide) dX2_put_162 (fun H locs hP hD hS => ?_)
            have hP : va_P (dC, dI) vwCl (wM g cI (upd K' (400 * 3 + q) k, upd V' (400 * 3 + q) v, upd S' (400 * 3 + q) z, (va_up (mC w) 3 ((mC w 3) + 1)), mR w, mL w)) H := hP
            have hD : va_D A (wM g cI (upd K' (400 * 3 + q) k, upd V' (400 * 3 + q) v, upd S' (400 * 3 + q) z, (va_up (mC w) 3 ((mC w 3) + 1)), mR w, mL w)) := hD
            refine lv_iload hx hb dX2_put_163 (lv_at hl 5 rfl) ?_
            refine zifeq (tgt := 172) hx hb dX2_put_165 (by decide) (fun h_165 => ?_) (fun h_165 => absurd h_165 h_33)
            refine lv_iconst (v := nI 1) hx hb dX2_put_172 (by decide) ?_
            exact W.iret (v := nI 1) hx hb hr (fun t9 ht9 hW9 => ⟨⟨_, (upd K' (400 * 3 + q) k, upd V' (400 * 3 + q) v, upd S' (400 * 3 + q) z, (va_up (mC w) 3 ((mC w 3) + 1)), mR w, mL w), rfl, by subst eq; unfold aPut; rw [if_neg (fun q => q.elim h_1 (i_nl h_8))]; exact ⟨(put_viewN hle h_33 (by omega) hk hv hs).1.symm, (put_viewN hle h_33 (by omega) hk hv hs).2⟩, by show va_P _ _ _ t9.heap; rw [ht9]; exact hP⟩, hS.F ht9⟩) hS.2.2 dX2_put_173
          · obtain ⟨c, rfl⟩ : ∃ d, c = d + 1 := ⟨c - 1, by omega⟩
            have hl : lv_has ls 7 [(0, .ref (g 0)), (1, .int k), (2, .int v), (3, .int z), (4, .int (nI (400 * 3 + q))), (5, .int (bz (q < mC w 3 ∧ mK w (400 * 3 + q) = k))), (6, .int (nI (1200 + c + 1)))] := hl
            refine lv_aload_n hx hb dX2_put_75 rfl (lv_at hl 0 rfl) ?_
            refine va_get (D := (dC, dI)) (ci := 2) (v := .ref (g 1)) (C := RX2) (T := TX2) (N := 6) hx hb hts (by decide +kernel) hown hK hP 0 rfl rfl 0 (by decide) (hts (.fieldLink RX2 9 "RevisionTreeModel" "key" "[I") (by decide +kernel)) (fun _ h9 => h9) rfl dX2_put_76 ?_
            refine lv_iload hx hb dX2_put_79 (lv_at hl 6 rfl) ?_
            refine lv_aload_n hx hb dX2_put_81 rfl (lv_at hl 0 rfl) ?_
            refine va_get (D := (dC, dI)) (ci := 2) (v := .ref (g 1)) (C := RX2) (T := TX2) (N := 6) hx hb hts (by decide +kernel) hown hK hP 0 rfl rfl 0 (by decide) (hts (.fieldLink RX2 9 "RevisionTreeModel" "key" "[I") (by decide +kernel)) (fun _ h9 => h9) rfl dX2_put_82 ?_
            refine lv_iload hx hb dX2_put_85 (lv_at hl 6 rfl) ?_
            refine lv_iconst (v := nI 1) hx hb dX2_put_87 (by decide) ?_
            refine lv_isub hx hb dX2_put_88 ?_
            refine zt (y := nI ((1200 + c + 1) - 1)) (pk_sub (by omega)) ?_
            refine zt (y := nI (1200 + c)) (congrArg nI (by omega)) ?_
            refine zrdN hx hb hK hP 1 0 rfl rfl (j := 1200 + c) (by omega) (by decide) dX2_put_89 ?_
            refine zwrN hx hb hK hP hD hS 1 0 rfl rfl (j := 1200 + c + 1) (by omega) (by decide) dX2_put_90 (fun H locs hP hD hS => ?_)
            have hP : va_P (dC, dI) vwCl (wM g cI (upd K' (1200 + c + 1) (K' (1200 + c)), V', S', mC w, mR w, mL w)) H := hP
            have hD : va_D A (wM g cI (upd K' (1200 + c + 1) (K' (1200 + c)), V', S', mC w, mR w, mL w)) := hD
            refine lv_aload_n hx hb dX2_put_91 rfl (lv_at hl 0 rfl) ?_
            refine va_get (D := (dC, dI)) (ci := 2) (v := .ref (g 2)) (C := RX2) (T := TX2) (N := 6) hx hb hts (by decide +kernel) hown hK hP 0 rfl rfl 1 (by decide) (hts (.fieldLink RX2 13 "RevisionTreeModel" "value" "[I") (by decide +kernel)) (fun _ h9 => h9) rfl dX2_put_92 ?_
            refine lv_iload hx hb dX2_put_95 (lv_at hl 6 rfl) ?_
            refine lv_aload_n hx hb dX2_put_97 rfl (lv_at hl 0 rfl) ?_
            refine va_get (D := (dC, dI)) (ci := 2) (v := .ref (g 2)) (C := RX2) (T := TX2) (N := 6) hx hb hts (by decide +kernel) hown hK hP 0 rfl rfl 1 (by decide) (hts (.fieldLink RX2 13 "RevisionTreeModel" "value" "[I") (by decide +kernel)) (fun _ h9 => h9) rfl dX2_put_98 ?_
            refine lv_iload hx hb dX2_put_101 (lv_at hl 6 rfl) ?_
            refine lv_iconst (v := nI 1) hx hb dX2_put_103 (by decide) ?_
            refine lv_isub hx hb dX2_put_104 ?_
            refine zt (y := nI ((1200 + c + 1) - 1)) (pk_sub (by omega)) ?_
            refine zt (y := nI (1200 + c)) (congrArg nI (by omega)) ?_
            refine zrdN hx hb hK hP 2 0 rfl rfl (j := 1200 + c) (by omega) (by decide) dX2_put_105 ?_
            refine zwrN hx hb hK hP hD hS 2 0 rfl rfl (j := 1200 + c + 1) (by omega) (by decide) dX2_put_106 (fun H locs hP hD hS => ?_)
            have hP : va_P (dC, dI) vwCl (wM g cI (upd K' (1200 + c + 1) (K' (1200 + c)), upd V' (1200 + c + 1) (V' (1200 + c)), S', mC w, mR w, mL w)) H := hP
            have hD : va_D A (wM g cI (upd K' (1200 + c + 1) (K' (1200 + c)), upd V' (1200 + c + 1) (V' (1200 + c)), S', mC w, mR w, mL w)) := hD
            refine lv_aload_n hx hb dX2_put_107 rfl (lv_at hl 0 rfl) ?_
            refine va_get (D := (dC, dI)) (ci := 2) (v := .ref (g 3)) (C := RX2) (T := TX2) (N := 6) hx hb hts (by decide +kernel) hown hK hP 0 rfl rfl 2 (by decide) (hts (.fieldLink RX2 16 "RevisionTreeModel" "size" "[I") (by decide +kernel)) (fun _ h9 => h9) rfl dX2_put_108 ?_
            refine lv_iload hx hb dX2_put_111 (lv_at hl 6 rfl) ?_
            refine lv_aload_n hx hb dX2_put_113 rfl (lv_at hl 0 rfl) ?_
            refine va_get (D := (dC, dI)) (ci := 2) (v := .ref (g 3)) (C := RX2) (T := TX2) (N := 6) hx hb hts (by decide +kernel) hown hK hP 0 rfl rfl 2 (by decide) (hts (.fieldLink RX2 16 "RevisionTreeModel" "size" "[I") (by decide +kernel)) (fun _ h9 => h9) rfl dX2_put_114 ?_
            refine lv_iload hx hb dX2_put_117 (lv_at hl 6 rfl) ?_
            refine lv_iconst (v := nI 1) hx hb dX2_put_119 (by decide) ?_
            refine lv_isub hx hb dX2_put_120 ?_
            refine zt (y := nI ((1200 + c + 1) - 1)) (pk_sub (by omega)) ?_
            refine zt (y := nI (1200 + c)) (congrArg nI (by omega)) ?_
            refine zrdN hx hb hK hP 3 0 rfl rfl (j := 1200 + c) (by omega) (by decide) dX2_put_121 ?_
            refine zwrN hx hb hK hP hD hS 3 0 rfl rfl (j := 1200 + c + 1) (by omega) (by decide) dX2_put_122 (fun H locs hP hD hS => ?_)
            have hP : va_P (dC, dI) vwCl (wM g cI (upd K' (1200 + c + 1) (K' (1200 + c)), upd V' (1200 + c + 1) (V' (1200 + c)), upd S' (1200 + c + 1) (S' (1200 + c)), mC w, mR w, mL w)) H := hP
            have hD : va_D A (wM g cI (upd K' (1200 + c + 1) (K' (1200 + c)), upd V' (1200 + c + 1) (V' (1200 + c)), upd S' (1200 + c + 1) (S' (1200 + c)), mC w, mR w, mL w)) := hD
            refine lv_iinc (v := nI (1200 + c)) (lv' := [(6, .int (nI (1200 + c))), (0, .ref (g 0)), (1, .int k), (2, .int v), (3, .int z), (4, .int (nI (400 * 3 + q))), (5, .int (bz (q < mC w 3 ∧ mK w (400 * 3 + q) = k)))]) hx hb dX2_put_123 hl (k := 6) rfl (zdec _) (by decide) rfl (fun ls hl => ?_)
            refine lv_goto (tgt := 68) hx hb dX2_put_126 (by decide) ?_
            exact ih (c, upd K' (1200 + c + 1) (K' (1200 + c)), upd V' (1200 + c + 1) (V' (1200 + c)), upd S' (1200 + c + 1) (S' (1200 + c))) _ _ _ ⟨⟨by omega, by omega, shR_s hk, shR_s hv, shR_s hs⟩, hP, hD, hS, lv_sub hl [1, 2, 3, 4, 5, 6, 0] rfl⟩ (Nat.lt_succ_self c)
        · refine lv_bipush (v := (-3)) hx hb dX2_put_48 (by decide) ?_
          exact W.iret (v := (-3)) hx hb hr (fun t9 ht9 hW9 => ⟨⟨_, w, rfl, by subst eq; unfold aPut; rw [if_neg (fun q => q.elim h_1 (i_nl h_8)), tEnter_f (T := tsel (view w) 3) v z h_33 (show 400 ≤ mC w 3 by omega)]; exact ⟨rfl, (eqR_rf : eqR (view w) (tset (view w) 3 (tsel (view w) 3)))⟩, by show va_P _ _ _ t9.heap; rw [ht9]; exact hP⟩, hS.F ht9⟩) hS.2.2 dX2_put_50
    · refine lv_iconst (v := (-1)) hx hb dX2_put_11 (by decide) ?_
      exact W.iret (v := (-1)) hx hb hr (fun t9 ht9 hW9 => ⟨⟨_, w, rfl, by unfold aPut; rw [if_pos (show z < 0 ∨ 300 < z from Or.inr (i_lt h_8))]; exact ⟨rfl, eqR_rf⟩, by show va_P _ _ _ t9.heap; rw [ht9]; exact hP⟩, hS.F ht9⟩) hS.2.2 dX2_put_12
