theorem z_cmp (x : Int64) : lg_cmp x x = nI 0 := by
  have h : ¬ x > x := fun h => by
    have h9 := Int64.lt_iff_toInt_lt.mp h
    omega
  unfold lg_cmp
  rw [if_neg h, if_pos rfl]
  rfl
theorem z_5 (c5 : Nat) : nI (5 * c5) + Int32.ofInt 5 = nI (5 * (c5 + 1)) := (nI_add (5 * c5) 5).trans (congrArg nI (by omega))
theorem z_le5 {L c5 : Nat} (h : ¬ nI L - nI 5 < nI (5 * c5)) (h1 : L < 2 ^ 30) (h2 : 5 * c5 < 2 ^ 30) : 5 * c5 + 5 ≤ L := by
  have h9 : ¬ (nI L - nI 5).toInt < (nI (5 * c5)).toInt := fun q => h (Int32.lt_iff_toInt_lt.mpr q)
  rw [pk_sub_toInt h1 (by decide), nI_toInt (by omega)] at h9
  omega
theorem zarrI {args : Array Value} {s : State} (h : (Cond.arrayClass .int).before args s = true) : ∃ cA : ClassId, ArrOfT s cA .int ∧ va_RA s cA .int := by
  obtain ⟨cA, kA, comp, h1, h2, h3⟩ := Cond.arrayClass_spec h
  exact ⟨cA, fun n z => ⟨fun k h => (by cases h), kA, h2, comp, h3⟩, h1⟩
theorem zarrT {args : Array Value} {s : State} {C : String} (h : (Cond.arrayOver (.object C)).before args s = true) : ∃ cA : ClassId, ArrOfT s cA (.object C) ∧ va_RA s cA (.object C) := by
  obtain ⟨comp, cA, kA, h1, h2, h3, h4, h5⟩ := Cond.arrayOver_spec h
  exact ⟨cA, fun n z => ⟨fun k h => (by cases h), kA, h3, comp, h4⟩, kA, comp, h3, h4, h1, h5⟩
set_option maxHeartbeats 4000000 in
set_option maxRecDepth 100000 in
/-- the law, case 0: put -/
theorem law_put {p : Program} {l : Launch} {e : Env} {s : State} {m : MethodId} {below : List Frame} {meth : Method} {c : Code} {dC : Nat → ClassId} {dI : Nat → Nat → Nat} {cI cT : ClassId} {b L : Nat} {xs : Nat → Int32} {g g2 : Nat → Nat} (hL : L ≤ 2560) (C0 : lw_At p s m meth c b L xs) (hK : va_K (dC, dI) vwCl (zTY cI cT) s) {c5 : Nat} (h5 : 5 * c5 + 5 ≤ L) {a : RS} {w : MS} (hok : okR c5 a) (heq : eqR a (view w)) {H : Heap} {locs : List Loc} {ls : Array Slot} (hP : va_P (dC, dI) vwCl (wR g cI cT a ++ wM g2 cI w) H) (hD : va_D (fun q : Nat => s.heap.size ≤ q) (wR g cI cT a ++ wM g2 cI w)) (hS : va_S (fun q : Nat => s.heap.size ≤ q) s.heap H locs) (hl : lv_has ls 4 [(0, .ref b), (1, .ref (g 0)), (2, .ref (g2 0)), (3, .int (nI (5 * c5)))])
    (kk : ∀ (a : RS) (w : MS) (H : Heap) (locs : List Loc) (ls : Array Slot), okR (c5 + 1) a → eqR a (view w) → va_P (dC, dI) vwCl (wR g cI cT a ++ wM g2 cI w) H → va_D (fun q : Nat => s.heap.size ≤ q) (wR g cI cT a ++ wM g2 cI w) → va_S (fun q : Nat => s.heap.size ≤ q) s.heap H locs → lv_has ls 4 [(0, .ref b), (1, .ref (g 0)), (2, .ref (g2 0)), (3, .int (nI (5 * c5)))] → W p l e room_1 s m #[Value.ref b] below meth c H locs 600000 7302250 (lw_Z below #[Value.ref b] s) (F0 m 417 ls [])) : W p l e room_1 s m #[Value.ref b] below meth c H locs 600000 7302250 (lw_Z below #[Value.ref b] s) (F0 m 92 ls []) := by
  obtain ⟨hx, hb, hr, hml, hown, hts, hX, hbl, hlocks, hgv⟩ := C0
  have htt := hts
  have hts := fun w h => htt w (wsL_law_in w h)
  have hA : ∀ q : Nat, s.heap.size ≤ q → (fun q : Nat => s.heap.size ≤ q) q := fun _ h => h
  have hbA : ¬ (fun q : Nat => s.heap.size ≤ q) b := Nat.not_le.mpr hbl
  refine lv_aload_n hx hb dL_law_92 rfl (lv_at hl 1 rfl) ?_
  refine lv_aload_n hx hb dL_law_93 rfl (lv_at hl 0 rfl) ?_
  refine lv_iload_n hx hb dL_law_94 rfl (lv_at hl 3 rfl) ?_
  refine lv_iconst (v := nI 1) hx hb dL_law_95 (by decide) ?_
  refine lv_iadd hx hb dL_law_96 ?_
  refine zt (y := nI ((5 * c5) + 1)) (nI_add _ _) ?_
  refine va_sld hx hb hX hbl hbA hS (vp_in_nI (show (5 * c5) + 1 < L by omega) (by omega)) dL_law_97 ?_
  refine zt (y := xs ((5 * c5) + 1)) (by rw [nI_clamp (by omega)]) ?_
  refine lv_aload_n hx hb dL_law_98 rfl (lv_at hl 0 rfl) ?_
  refine lv_iload_n hx hb dL_law_99 rfl (lv_at hl 3 rfl) ?_
  refine lv_iconst (v := nI 2) hx hb dL_law_100 (by decide) ?_
  refine lv_iadd hx hb dL_law_101 ?_
  refine zt (y := nI ((5 * c5) + 2)) (nI_add _ _) ?_
  refine va_sld hx hb hX hbl hbA hS (vp_in_nI (show (5 * c5) + 2 < L by omega) (by omega)) dL_law_102 ?_
  refine zt (y := xs ((5 * c5) + 2)) (by rw [nI_clamp (by omega)]) ?_
  refine lv_aload_n hx hb dL_law_103 rfl (lv_at hl 0 rfl) ?_
  refine lv_iload_n hx hb dL_law_104 rfl (lv_at hl 3 rfl) ?_
  refine lv_iconst (v := nI 3) hx hb dL_law_105 (by decide) ?_
  refine lv_iadd hx hb dL_law_106 ?_
  refine zt (y := nI ((5 * c5) + 3)) (nI_add _ _) ?_
  refine va_sld hx hb hX hbl hbA hS (vp_in_nI (show (5 * c5) + 3 < L by omega) (by omega)) dL_law_107 ?_
  refine zt (y := xs ((5 * c5) + 3)) (by rw [nI_clamp (by omega)]) ?_
  refine zwiL (wf := fun u : RS => wR g cI cT u) (va_runV (As := [.int (xs ((5 * c5) + 1)), .int (xs ((5 * c5) + 2)), .int (xs ((5 * c5) + 3))]) (rest := []) ⟨hx, hb, hml, hown, hts⟩ (c_Tree_put l dC dI cI cT g a (xs (5 * c5 + 1)) (xs (5 * c5 + 2)) (xs (5 * c5 + 3)) H.size c5 hok (by omega)) (cwV 3 hts gL_law_X1_put rfl rfl rfl (by decide +kernel) ⟨Nat.le_of_ble_eq_true rfl, Nat.le_of_ble_eq_true rfl⟩) (zpreV hK (zPl hP) (zDl hD) rfl 0 rfl) rfl rfl hl.1 rfl (lv_room (Nat.le_of_ble_eq_true rfl)) dL_law_108 ⟨Nat.le_refl _, Nat.le_refl _⟩) hP hD hS hA (fun _ => rfl) (fun r1 u H locs hw1 hP hD hS => ?_)
  have hP : va_P (dC, dI) vwCl (wR g cI cT u ++ wM g2 cI w) H := hP
  have hD : va_D (fun q : Nat => s.heap.size ≤ q) (wR g cI cT u ++ wM g2 cI w) := hD
  refine lv_aload_n hx hb dL_law_111 rfl (lv_at hl 2 rfl) ?_
  refine lv_aload_n hx hb dL_law_112 rfl (lv_at hl 0 rfl) ?_
  refine lv_iload_n hx hb dL_law_113 rfl (lv_at hl 3 rfl) ?_
  refine lv_iconst (v := nI 1) hx hb dL_law_114 (by decide) ?_
  refine lv_iadd hx hb dL_law_115 ?_
  refine zt (y := nI ((5 * c5) + 1)) (nI_add _ _) ?_
  refine va_sld hx hb hX hbl hbA hS (vp_in_nI (show (5 * c5) + 1 < L by omega) (by omega)) dL_law_116 ?_
  refine zt (y := xs ((5 * c5) + 1)) (by rw [nI_clamp (by omega)]) ?_
  refine lv_aload_n hx hb dL_law_117 rfl (lv_at hl 0 rfl) ?_
  refine lv_iload_n hx hb dL_law_118 rfl (lv_at hl 3 rfl) ?_
  refine lv_iconst (v := nI 2) hx hb dL_law_119 (by decide) ?_
  refine lv_iadd hx hb dL_law_120 ?_
  refine zt (y := nI ((5 * c5) + 2)) (nI_add _ _) ?_
  refine va_sld hx hb hX hbl hbA hS (vp_in_nI (show (5 * c5) + 2 < L by omega) (by omega)) dL_law_121 ?_
  refine zt (y := xs ((5 * c5) + 2)) (by rw [nI_clamp (by omega)]) ?_
  refine lv_aload_n hx hb dL_law_122 rfl (lv_at hl 0 rfl) ?_
  refine lv_iload_n hx hb dL_law_123 rfl (lv_at hl 3 rfl) ?_
  refine lv_iconst (v := nI 3) hx hb dL_law_124 (by decide) ?_
  refine lv_iadd hx hb dL_law_125 ?_
  refine zt (y := nI ((5 * c5) + 3)) (nI_add _ _) ?_
  refine va_sld hx hb hX hbl hbA hS (vp_in_nI (show (5 * c5) + 3 < L by omega) (by omega)) dL_law_126 ?_
  refine zt (y := xs ((5 * c5) + 3)) (by rw [nI_clamp (by omega)]) ?_
  refine zwiR (wf := fun u2 : MS => wM g2 cI u2) (va_runV (As := [.int (xs ((5 * c5) + 1)), .int (xs ((5 * c5) + 2)), .int (xs ((5 * c5) + 3))]) (rest := [.int r1]) ⟨hx, hb, hml, hown, hts⟩ (c_Model_put l dC dI cI cT g2 w (xs (5 * c5 + 1)) (xs (5 * c5 + 2)) (xs (5 * c5 + 3)) H.size c5 (okR_eq heq hok) (by omega)) (cwV 3 hts gL_law_X2_put rfl rfl rfl (by decide +kernel) ⟨Nat.le_of_ble_eq_true rfl, Nat.le_of_ble_eq_true rfl⟩) (zpreV hK (zPr hP) (zDr hD) rfl 0 rfl) rfl rfl hl.1 rfl (lv_room (Nat.le_of_ble_eq_true rfl)) dL_law_127 ⟨Nat.le_refl _, Nat.le_refl _⟩) hP hD hS hA (fun _ => rfl) (fun r2 u2 H locs hw2 hP hD hS => ?_)
  have hP : va_P (dC, dI) vwCl (wR g cI cT u ++ wM g2 cI u2) H := hP
  have hD : va_D (fun q : Nat => s.heap.size ≤ q) (wR g cI cT u ++ wM g2 cI u2) := hD
  refine lv_icmp_eq (tgt := 417) hx hb dL_law_130 (by decide) (fun h_130 => ?_) (fun h_130 => absurd (hw1.1.trans ((aPut_eq heq (xs (5 * c5 + 1)) (xs (5 * c5 + 2)) (xs (5 * c5 + 3))).1.trans hw2.1.symm)) h_130)
  exact kk u u2 _ _ _ (okR_up (okR_eq (eqR_sy hw1.2) (aPut_ok hok (xs (5 * c5 + 1)) (xs (5 * c5 + 2)) (xs (5 * c5 + 3)))) (Nat.le_succ c5)) (eqR_tr hw1.2 (eqR_tr (aPut_eq heq (xs (5 * c5 + 1)) (xs (5 * c5 + 2)) (xs (5 * c5 + 3))).2 (eqR_sy hw2.2))) hP hD hS (lv_sub hl [0, 1, 2, 3] rfl)
set_option maxHeartbeats 4000000 in
set_option maxRecDepth 100000 in
/-- the law, case 1: some -/
theorem law_some {p : Program} {l : Launch} {e : Env} {s : State} {m : MethodId} {below : List Frame} {meth : Method} {c : Code} {dC : Nat → ClassId} {dI : Nat → Nat → Nat} {cI cT : ClassId} {b L : Nat} {xs : Nat → Int32} {g g2 : Nat → Nat} (hL : L ≤ 2560) (C0 : lw_At p s m meth c b L xs) (hK : va_K (dC, dI) vwCl (zTY cI cT) s) {c5 : Nat} (h5 : 5 * c5 + 5 ≤ L) {a : RS} {w : MS} (hok : okR c5 a) (heq : eqR a (view w)) {H : Heap} {locs : List Loc} {ls : Array Slot} (hP : va_P (dC, dI) vwCl (wR g cI cT a ++ wM g2 cI w) H) (hD : va_D (fun q : Nat => s.heap.size ≤ q) (wR g cI cT a ++ wM g2 cI w)) (hS : va_S (fun q : Nat => s.heap.size ≤ q) s.heap H locs) (hl : lv_has ls 4 [(0, .ref b), (1, .ref (g 0)), (2, .ref (g2 0)), (3, .int (nI (5 * c5)))])
    (kk : ∀ (a : RS) (w : MS) (H : Heap) (locs : List Loc) (ls : Array Slot), okR (c5 + 1) a → eqR a (view w) → va_P (dC, dI) vwCl (wR g cI cT a ++ wM g2 cI w) H → va_D (fun q : Nat => s.heap.size ≤ q) (wR g cI cT a ++ wM g2 cI w) → va_S (fun q : Nat => s.heap.size ≤ q) s.heap H locs → lv_has ls 4 [(0, .ref b), (1, .ref (g 0)), (2, .ref (g2 0)), (3, .int (nI (5 * c5)))] → W p l e room_1 s m #[Value.ref b] below meth c H locs 600000 7302250 (lw_Z below #[Value.ref b] s) (F0 m 417 ls [])) : W p l e room_1 s m #[Value.ref b] below meth c H locs 600000 7302250 (lw_Z below #[Value.ref b] s) (F0 m 135 ls []) := by
  obtain ⟨hx, hb, hr, hml, hown, hts, hX, hbl, hlocks, hgv⟩ := C0
  have htt := hts
  have hts := fun w h => htt w (wsL_law_in w h)
  have hA : ∀ q : Nat, s.heap.size ≤ q → (fun q : Nat => s.heap.size ≤ q) q := fun _ h => h
  have hbA : ¬ (fun q : Nat => s.heap.size ≤ q) b := Nat.not_le.mpr hbl
  refine lv_aload_n hx hb dL_law_135 rfl (lv_at hl 1 rfl) ?_
  refine lv_aload_n hx hb dL_law_136 rfl (lv_at hl 0 rfl) ?_
  refine lv_iload_n hx hb dL_law_137 rfl (lv_at hl 3 rfl) ?_
  refine lv_iconst (v := nI 1) hx hb dL_law_138 (by decide) ?_
  refine lv_iadd hx hb dL_law_139 ?_
  refine zt (y := nI ((5 * c5) + 1)) (nI_add _ _) ?_
  refine va_sld hx hb hX hbl hbA hS (vp_in_nI (show (5 * c5) + 1 < L by omega) (by omega)) dL_law_140 ?_
  refine zt (y := xs ((5 * c5) + 1)) (by rw [nI_clamp (by omega)]) ?_
  refine lv_aload_n hx hb dL_law_141 rfl (lv_at hl 0 rfl) ?_
  refine lv_iload_n hx hb dL_law_142 rfl (lv_at hl 3 rfl) ?_
  refine lv_iconst (v := nI 2) hx hb dL_law_143 (by decide) ?_
  refine lv_iadd hx hb dL_law_144 ?_
  refine zt (y := nI ((5 * c5) + 2)) (nI_add _ _) ?_
  refine va_sld hx hb hX hbl hbA hS (vp_in_nI (show (5 * c5) + 2 < L by omega) (by omega)) dL_law_145 ?_
  refine zt (y := xs ((5 * c5) + 2)) (by rw [nI_clamp (by omega)]) ?_
  refine lv_aload_n hx hb dL_law_146 rfl (lv_at hl 0 rfl) ?_
  refine lv_iload_n hx hb dL_law_147 rfl (lv_at hl 3 rfl) ?_
  refine lv_iconst (v := nI 3) hx hb dL_law_148 (by decide) ?_
  refine lv_iadd hx hb dL_law_149 ?_
  refine zt (y := nI ((5 * c5) + 3)) (nI_add _ _) ?_
  refine va_sld hx hb hX hbl hbA hS (vp_in_nI (show (5 * c5) + 3 < L by omega) (by omega)) dL_law_150 ?_
  refine zt (y := xs ((5 * c5) + 3)) (by rw [nI_clamp (by omega)]) ?_
  refine lv_aload_n hx hb dL_law_151 rfl (lv_at hl 0 rfl) ?_
  refine lv_iload_n hx hb dL_law_152 rfl (lv_at hl 3 rfl) ?_
  refine lv_iconst (v := nI 4) hx hb dL_law_153 (by decide) ?_
  refine lv_iadd hx hb dL_law_154 ?_
  refine zt (y := nI ((5 * c5) + 4)) (nI_add _ _) ?_
  refine va_sld hx hb hX hbl hbA hS (vp_in_nI (show (5 * c5) + 4 < L by omega) (by omega)) dL_law_155 ?_
  refine zt (y := xs ((5 * c5) + 4)) (by rw [nI_clamp (by omega)]) ?_
  refine zwiL (wf := fun u : RS => wR g cI cT u) (va_runV (As := [.int (xs ((5 * c5) + 1)), .int (xs ((5 * c5) + 2)), .int (xs ((5 * c5) + 3)), .int (xs ((5 * c5) + 4))]) (rest := []) ⟨hx, hb, hml, hown, hts⟩ (c_Tree_some l dC dI cI cT g a (xs (5 * c5 + 1)) (xs (5 * c5 + 2)) (xs (5 * c5 + 3)) (xs (5 * c5 + 4)) H.size c5 hok (by omega)) (cwV 4 hts gL_law_X1_some rfl rfl rfl (by decide +kernel) ⟨Nat.le_of_ble_eq_true rfl, Nat.le_of_ble_eq_true rfl⟩) (zpreV hK (zPl hP) (zDl hD) rfl 0 rfl) rfl rfl hl.1 rfl (lv_room (Nat.le_of_ble_eq_true rfl)) dL_law_156 ⟨Nat.le_refl _, Nat.le_refl _⟩) hP hD hS hA (fun _ => rfl) (fun r1 u H locs hw1 hP hD hS => ?_)
  have hP : va_P (dC, dI) vwCl (wR g cI cT u ++ wM g2 cI w) H := hP
  have hD : va_D (fun q : Nat => s.heap.size ≤ q) (wR g cI cT u ++ wM g2 cI w) := hD
  refine lv_aload_n hx hb dL_law_159 rfl (lv_at hl 2 rfl) ?_
  refine lv_aload_n hx hb dL_law_160 rfl (lv_at hl 0 rfl) ?_
  refine lv_iload_n hx hb dL_law_161 rfl (lv_at hl 3 rfl) ?_
  refine lv_iconst (v := nI 1) hx hb dL_law_162 (by decide) ?_
  refine lv_iadd hx hb dL_law_163 ?_
  refine zt (y := nI ((5 * c5) + 1)) (nI_add _ _) ?_
  refine va_sld hx hb hX hbl hbA hS (vp_in_nI (show (5 * c5) + 1 < L by omega) (by omega)) dL_law_164 ?_
  refine zt (y := xs ((5 * c5) + 1)) (by rw [nI_clamp (by omega)]) ?_
  refine lv_aload_n hx hb dL_law_165 rfl (lv_at hl 0 rfl) ?_
  refine lv_iload_n hx hb dL_law_166 rfl (lv_at hl 3 rfl) ?_
  refine lv_iconst (v := nI 2) hx hb dL_law_167 (by decide) ?_
  refine lv_iadd hx hb dL_law_168 ?_
  refine zt (y := nI ((5 * c5) + 2)) (nI_add _ _) ?_
  refine va_sld hx hb hX hbl hbA hS (vp_in_nI (show (5 * c5) + 2 < L by omega) (by omega)) dL_law_169 ?_
  refine zt (y := xs ((5 * c5) + 2)) (by rw [nI_clamp (by omega)]) ?_
  refine lv_aload_n hx hb dL_law_170 rfl (lv_at hl 0 rfl) ?_
  refine lv_iload_n hx hb dL_law_171 rfl (lv_at hl 3 rfl) ?_
  refine lv_iconst (v := nI 3) hx hb dL_law_172 (by decide) ?_
  refine lv_iadd hx hb dL_law_173 ?_
  refine zt (y := nI ((5 * c5) + 3)) (nI_add _ _) ?_
  refine va_sld hx hb hX hbl hbA hS (vp_in_nI (show (5 * c5) + 3 < L by omega) (by omega)) dL_law_174 ?_
  refine zt (y := xs ((5 * c5) + 3)) (by rw [nI_clamp (by omega)]) ?_
  refine lv_aload_n hx hb dL_law_175 rfl (lv_at hl 0 rfl) ?_
  refine lv_iload_n hx hb dL_law_176 rfl (lv_at hl 3 rfl) ?_
  refine lv_iconst (v := nI 4) hx hb dL_law_177 (by decide) ?_
  refine lv_iadd hx hb dL_law_178 ?_
  refine zt (y := nI ((5 * c5) + 4)) (nI_add _ _) ?_
  refine va_sld hx hb hX hbl hbA hS (vp_in_nI (show (5 * c5) + 4 < L by omega) (by omega)) dL_law_179 ?_
  refine zt (y := xs ((5 * c5) + 4)) (by rw [nI_clamp (by omega)]) ?_
  refine zwiR (wf := fun u2 : MS => wM g2 cI u2) (va_runV (As := [.int (xs ((5 * c5) + 1)), .int (xs ((5 * c5) + 2)), .int (xs ((5 * c5) + 3)), .int (xs ((5 * c5) + 4))]) (rest := [.int r1]) ⟨hx, hb, hml, hown, hts⟩ (c_Model_some l dC dI cI cT g2 w (xs (5 * c5 + 1)) (xs (5 * c5 + 2)) (xs (5 * c5 + 3)) (xs (5 * c5 + 4)) H.size c5 (okR_eq heq hok) (by omega)) (cwV 4 hts gL_law_X2_some rfl rfl rfl (by decide +kernel) ⟨Nat.le_of_ble_eq_true rfl, Nat.le_of_ble_eq_true rfl⟩) (zpreV hK (zPr hP) (zDr hD) rfl 0 rfl) rfl rfl hl.1 rfl (lv_room (Nat.le_of_ble_eq_true rfl)) dL_law_180 ⟨Nat.le_refl _, Nat.le_refl _⟩) hP hD hS hA (fun _ => rfl) (fun r2 u2 H locs hw2 hP hD hS => ?_)
  have hP : va_P (dC, dI) vwCl (wR g cI cT u ++ wM g2 cI u2) H := hP
  have hD : va_D (fun q : Nat => s.heap.size ≤ q) (wR g cI cT u ++ wM g2 cI u2) := hD
  refine lv_icmp_eq (tgt := 417) hx hb dL_law_183 (by decide) (fun h_183 => ?_) (fun h_183 => absurd (hw1.1.trans ((aSome_eq heq (xs (5 * c5 + 1)) (xs (5 * c5 + 2)) (xs (5 * c5 + 3)) (xs (5 * c5 + 4))).1.trans hw2.1.symm)) h_183)
  exact kk u u2 _ _ _ (okR_up (okR_eq (eqR_sy hw1.2) (aSome_ok hok (xs (5 * c5 + 1)) (xs (5 * c5 + 2)) (xs (5 * c5 + 3)) (xs (5 * c5 + 4)))) (Nat.le_succ c5)) (eqR_tr hw1.2 (eqR_tr (aSome_eq heq (xs (5 * c5 + 1)) (xs (5 * c5 + 2)) (xs (5 * c5 + 3)) (xs (5 * c5 + 4))).2 (eqR_sy hw2.2))) hP hD hS (lv_sub hl [0, 1, 2, 3] rfl)
set_option maxHeartbeats 4000000 in
set_option maxRecDepth 100000 in
/-- the law, case 2: remove -/
theorem law_remove {p : Program} {l : Launch} {e : Env} {s : State} {m : MethodId} {below : List Frame} {meth : Method} {c : Code} {dC : Nat → ClassId} {dI : Nat → Nat → Nat} {cI cT : ClassId} {b L : Nat} {xs : Nat → Int32} {g g2 : Nat → Nat} (hL : L ≤ 2560) (C0 : lw_At p s m meth c b L xs) (hK : va_K (dC, dI) vwCl (zTY cI cT) s) {c5 : Nat} (h5 : 5 * c5 + 5 ≤ L) {a : RS} {w : MS} (hok : okR c5 a) (heq : eqR a (view w)) {H : Heap} {locs : List Loc} {ls : Array Slot} (hP : va_P (dC, dI) vwCl (wR g cI cT a ++ wM g2 cI w) H) (hD : va_D (fun q : Nat => s.heap.size ≤ q) (wR g cI cT a ++ wM g2 cI w)) (hS : va_S (fun q : Nat => s.heap.size ≤ q) s.heap H locs) (hl : lv_has ls 4 [(0, .ref b), (1, .ref (g 0)), (2, .ref (g2 0)), (3, .int (nI (5 * c5)))])
    (kk : ∀ (a : RS) (w : MS) (H : Heap) (locs : List Loc) (ls : Array Slot), okR (c5 + 1) a → eqR a (view w) → va_P (dC, dI) vwCl (wR g cI cT a ++ wM g2 cI w) H → va_D (fun q : Nat => s.heap.size ≤ q) (wR g cI cT a ++ wM g2 cI w) → va_S (fun q : Nat => s.heap.size ≤ q) s.heap H locs → lv_has ls 4 [(0, .ref b), (1, .ref (g 0)), (2, .ref (g2 0)), (3, .int (nI (5 * c5)))] → W p l e room_1 s m #[Value.ref b] below meth c H locs 600000 7302250 (lw_Z below #[Value.ref b] s) (F0 m 417 ls [])) : W p l e room_1 s m #[Value.ref b] below meth c H locs 600000 7302250 (lw_Z below #[Value.ref b] s) (F0 m 188 ls []) := by
  obtain ⟨hx, hb, hr, hml, hown, hts, hX, hbl, hlocks, hgv⟩ := C0
  have htt := hts
  have hts := fun w h => htt w (wsL_law_in w h)
  have hA : ∀ q : Nat, s.heap.size ≤ q → (fun q : Nat => s.heap.size ≤ q) q := fun _ h => h
  have hbA : ¬ (fun q : Nat => s.heap.size ≤ q) b := Nat.not_le.mpr hbl
  refine lv_aload_n hx hb dL_law_188 rfl (lv_at hl 1 rfl) ?_
  refine lv_aload_n hx hb dL_law_189 rfl (lv_at hl 0 rfl) ?_
  refine lv_iload_n hx hb dL_law_190 rfl (lv_at hl 3 rfl) ?_
  refine lv_iconst (v := nI 1) hx hb dL_law_191 (by decide) ?_
  refine lv_iadd hx hb dL_law_192 ?_
  refine zt (y := nI ((5 * c5) + 1)) (nI_add _ _) ?_
  refine va_sld hx hb hX hbl hbA hS (vp_in_nI (show (5 * c5) + 1 < L by omega) (by omega)) dL_law_193 ?_
  refine zt (y := xs ((5 * c5) + 1)) (by rw [nI_clamp (by omega)]) ?_
  refine zwiL (wf := fun u : RS => wR g cI cT u) (va_runV (As := [.int (xs ((5 * c5) + 1))]) (rest := []) ⟨hx, hb, hml, hown, hts⟩ (c_Tree_remove l dC dI cI cT g a (xs (5 * c5 + 1)) H.size c5 hok (by omega)) (cwV 1 hts gL_law_X1_remove rfl rfl rfl (by decide +kernel) ⟨Nat.le_of_ble_eq_true rfl, Nat.le_of_ble_eq_true rfl⟩) (zpreV hK (zPl hP) (zDl hD) rfl 0 rfl) rfl rfl hl.1 rfl (lv_room (Nat.le_of_ble_eq_true rfl)) dL_law_194 ⟨Nat.le_refl _, Nat.le_refl _⟩) hP hD hS hA (fun _ => rfl) (fun r1 u H locs hw1 hP hD hS => ?_)
  have hP : va_P (dC, dI) vwCl (wR g cI cT u ++ wM g2 cI w) H := hP
  have hD : va_D (fun q : Nat => s.heap.size ≤ q) (wR g cI cT u ++ wM g2 cI w) := hD
  refine lv_aload_n hx hb dL_law_197 rfl (lv_at hl 2 rfl) ?_
  refine lv_aload_n hx hb dL_law_198 rfl (lv_at hl 0 rfl) ?_
  refine lv_iload_n hx hb dL_law_199 rfl (lv_at hl 3 rfl) ?_
  refine lv_iconst (v := nI 1) hx hb dL_law_200 (by decide) ?_
  refine lv_iadd hx hb dL_law_201 ?_
  refine zt (y := nI ((5 * c5) + 1)) (nI_add _ _) ?_
  refine va_sld hx hb hX hbl hbA hS (vp_in_nI (show (5 * c5) + 1 < L by omega) (by omega)) dL_law_202 ?_
  refine zt (y := xs ((5 * c5) + 1)) (by rw [nI_clamp (by omega)]) ?_
  refine zwiR (wf := fun u2 : MS => wM g2 cI u2) (va_runV (As := [.int (xs ((5 * c5) + 1))]) (rest := [.int r1]) ⟨hx, hb, hml, hown, hts⟩ (c_Model_remove l dC dI cI cT g2 w (xs (5 * c5 + 1)) H.size c5 (okR_eq heq hok) (by omega)) (cwV 1 hts gL_law_X2_remove rfl rfl rfl (by decide +kernel) ⟨Nat.le_of_ble_eq_true rfl, Nat.le_of_ble_eq_true rfl⟩) (zpreV hK (zPr hP) (zDr hD) rfl 0 rfl) rfl rfl hl.1 rfl (lv_room (Nat.le_of_ble_eq_true rfl)) dL_law_203 ⟨Nat.le_refl _, Nat.le_refl _⟩) hP hD hS hA (fun _ => rfl) (fun r2 u2 H locs hw2 hP hD hS => ?_)
  have hP : va_P (dC, dI) vwCl (wR g cI cT u ++ wM g2 cI u2) H := hP
  have hD : va_D (fun q : Nat => s.heap.size ≤ q) (wR g cI cT u ++ wM g2 cI u2) := hD
  refine lv_icmp_eq (tgt := 417) hx hb dL_law_206 (by decide) (fun h_206 => ?_) (fun h_206 => absurd (hw1.1.trans ((aRemove_eq heq (xs (5 * c5 + 1))).1.trans hw2.1.symm)) h_206)
  exact kk u u2 _ _ _ (okR_up (okR_eq (eqR_sy hw1.2) (aRemove_ok hok (xs (5 * c5 + 1)))) (Nat.le_succ c5)) (eqR_tr hw1.2 (eqR_tr (aRemove_eq heq (xs (5 * c5 + 1))).2 (eqR_sy hw2.2))) hP hD hS (lv_sub hl [0, 1, 2, 3] rfl)
set_option maxHeartbeats 4000000 in
set_option maxRecDepth 100000 in
/-- the law, case 3: commit -/
theorem law_commit {p : Program} {l : Launch} {e : Env} {s : State} {m : MethodId} {below : List Frame} {meth : Method} {c : Code} {dC : Nat → ClassId} {dI : Nat → Nat → Nat} {cI cT : ClassId} {b L : Nat} {xs : Nat → Int32} {g g2 : Nat → Nat} (hL : L ≤ 2560) (C0 : lw_At p s m meth c b L xs) (hK : va_K (dC, dI) vwCl (zTY cI cT) s) {c5 : Nat} (h5 : 5 * c5 + 5 ≤ L) {a : RS} {w : MS} (hok : okR c5 a) (heq : eqR a (view w)) {H : Heap} {locs : List Loc} {ls : Array Slot} (hP : va_P (dC, dI) vwCl (wR g cI cT a ++ wM g2 cI w) H) (hD : va_D (fun q : Nat => s.heap.size ≤ q) (wR g cI cT a ++ wM g2 cI w)) (hS : va_S (fun q : Nat => s.heap.size ≤ q) s.heap H locs) (hl : lv_has ls 4 [(0, .ref b), (1, .ref (g 0)), (2, .ref (g2 0)), (3, .int (nI (5 * c5)))])
    (kk : ∀ (a : RS) (w : MS) (H : Heap) (locs : List Loc) (ls : Array Slot), okR (c5 + 1) a → eqR a (view w) → va_P (dC, dI) vwCl (wR g cI cT a ++ wM g2 cI w) H → va_D (fun q : Nat => s.heap.size ≤ q) (wR g cI cT a ++ wM g2 cI w) → va_S (fun q : Nat => s.heap.size ≤ q) s.heap H locs → lv_has ls 4 [(0, .ref b), (1, .ref (g 0)), (2, .ref (g2 0)), (3, .int (nI (5 * c5)))] → W p l e room_1 s m #[Value.ref b] below meth c H locs 600000 7302250 (lw_Z below #[Value.ref b] s) (F0 m 417 ls [])) : W p l e room_1 s m #[Value.ref b] below meth c H locs 600000 7302250 (lw_Z below #[Value.ref b] s) (F0 m 211 ls []) := by
  obtain ⟨hx, hb, hr, hml, hown, hts, hX, hbl, hlocks, hgv⟩ := C0
  have htt := hts
  have hts := fun w h => htt w (wsL_law_in w h)
  have hA : ∀ q : Nat, s.heap.size ≤ q → (fun q : Nat => s.heap.size ≤ q) q := fun _ h => h
  have hbA : ¬ (fun q : Nat => s.heap.size ≤ q) b := Nat.not_le.mpr hbl
  refine lv_aload_n hx hb dL_law_211 rfl (lv_at hl 1 rfl) ?_
  refine lv_aload_n hx hb dL_law_212 rfl (lv_at hl 0 rfl) ?_
  refine lv_iload_n hx hb dL_law_213 rfl (lv_at hl 3 rfl) ?_
  refine lv_iconst (v := nI 1) hx hb dL_law_214 (by decide) ?_
  refine lv_iadd hx hb dL_law_215 ?_
  refine zt (y := nI ((5 * c5) + 1)) (nI_add _ _) ?_
  refine va_sld hx hb hX hbl hbA hS (vp_in_nI (show (5 * c5) + 1 < L by omega) (by omega)) dL_law_216 ?_
  refine zt (y := xs ((5 * c5) + 1)) (by rw [nI_clamp (by omega)]) ?_
  refine zwiL (wf := fun u : RS => wR g cI cT u) (va_runV (As := [.int (xs ((5 * c5) + 1))]) (rest := []) ⟨hx, hb, hml, hown, hts⟩ (c_Tree_commit l dC dI cI cT g a (xs (5 * c5 + 1)) H.size c5 hok (by omega)) (cwV 1 hts gL_law_X1_commit rfl rfl rfl (by decide +kernel) ⟨Nat.le_of_ble_eq_true rfl, Nat.le_of_ble_eq_true rfl⟩) (zpreV hK (zPl hP) (zDl hD) rfl 0 rfl) rfl rfl hl.1 rfl (lv_room (Nat.le_of_ble_eq_true rfl)) dL_law_217 ⟨Nat.le_refl _, Nat.le_refl _⟩) hP hD hS hA (fun _ => rfl) (fun r1 u H locs hw1 hP hD hS => ?_)
  have hP : va_P (dC, dI) vwCl (wR g cI cT u ++ wM g2 cI w) H := hP
  have hD : va_D (fun q : Nat => s.heap.size ≤ q) (wR g cI cT u ++ wM g2 cI w) := hD
  refine lv_aload_n hx hb dL_law_220 rfl (lv_at hl 2 rfl) ?_
  refine lv_aload_n hx hb dL_law_221 rfl (lv_at hl 0 rfl) ?_
  refine lv_iload_n hx hb dL_law_222 rfl (lv_at hl 3 rfl) ?_
  refine lv_iconst (v := nI 1) hx hb dL_law_223 (by decide) ?_
  refine lv_iadd hx hb dL_law_224 ?_
  refine zt (y := nI ((5 * c5) + 1)) (nI_add _ _) ?_
  refine va_sld hx hb hX hbl hbA hS (vp_in_nI (show (5 * c5) + 1 < L by omega) (by omega)) dL_law_225 ?_
  refine zt (y := xs ((5 * c5) + 1)) (by rw [nI_clamp (by omega)]) ?_
  refine zwiR (wf := fun u2 : MS => wM g2 cI u2) (va_runV (As := [.int (xs ((5 * c5) + 1))]) (rest := [.int r1]) ⟨hx, hb, hml, hown, hts⟩ (c_Model_commit l dC dI cI cT g2 w (xs (5 * c5 + 1)) H.size c5 (okR_eq heq hok) (by omega)) (cwV 1 hts gL_law_X2_commit rfl rfl rfl (by decide +kernel) ⟨Nat.le_of_ble_eq_true rfl, Nat.le_of_ble_eq_true rfl⟩) (zpreV hK (zPr hP) (zDr hD) rfl 0 rfl) rfl rfl hl.1 rfl (lv_room (Nat.le_of_ble_eq_true rfl)) dL_law_226 ⟨Nat.le_refl _, Nat.le_refl _⟩) hP hD hS hA (fun _ => rfl) (fun r2 u2 H locs hw2 hP hD hS => ?_)
  have hP : va_P (dC, dI) vwCl (wR g cI cT u ++ wM g2 cI u2) H := hP
  have hD : va_D (fun q : Nat => s.heap.size ≤ q) (wR g cI cT u ++ wM g2 cI u2) := hD
  refine lv_icmp_eq (tgt := 417) hx hb dL_law_229 (by decide) (fun h_229 => ?_) (fun h_229 => absurd (hw1.1.trans ((aCommit_eq heq (xs (5 * c5 + 1))).1.trans hw2.1.symm)) h_229)
  exact kk u u2 _ _ _ (okR_eq (eqR_sy hw1.2) (aCommit_ok hok (xs (5 * c5 + 1)))) (eqR_tr hw1.2 (eqR_tr (aCommit_eq heq (xs (5 * c5 + 1))).2 (eqR_sy hw2.2))) hP hD hS (lv_sub hl [0, 1, 2, 3] rfl)
set_option maxHeartbeats 4000000 in
set_option maxRecDepth 100000 in
/-- the law, case 4: forget -/
theorem law_forget {p : Program} {l : Launch} {e : Env} {s : State} {m : MethodId} {below : List Frame} {meth : Method} {c : Code} {dC : Nat → ClassId} {dI : Nat → Nat → Nat} {cI cT : ClassId} {b L : Nat} {xs : Nat → Int32} {g g2 : Nat → Nat} (hL : L ≤ 2560) (C0 : lw_At p s m meth c b L xs) (hK : va_K (dC, dI) vwCl (zTY cI cT) s) {c5 : Nat} (h5 : 5 * c5 + 5 ≤ L) {a : RS} {w : MS} (hok : okR c5 a) (heq : eqR a (view w)) {H : Heap} {locs : List Loc} {ls : Array Slot} (hP : va_P (dC, dI) vwCl (wR g cI cT a ++ wM g2 cI w) H) (hD : va_D (fun q : Nat => s.heap.size ≤ q) (wR g cI cT a ++ wM g2 cI w)) (hS : va_S (fun q : Nat => s.heap.size ≤ q) s.heap H locs) (hl : lv_has ls 4 [(0, .ref b), (1, .ref (g 0)), (2, .ref (g2 0)), (3, .int (nI (5 * c5)))])
    (kk : ∀ (a : RS) (w : MS) (H : Heap) (locs : List Loc) (ls : Array Slot), okR (c5 + 1) a → eqR a (view w) → va_P (dC, dI) vwCl (wR g cI cT a ++ wM g2 cI w) H → va_D (fun q : Nat => s.heap.size ≤ q) (wR g cI cT a ++ wM g2 cI w) → va_S (fun q : Nat => s.heap.size ≤ q) s.heap H locs → lv_has ls 4 [(0, .ref b), (1, .ref (g 0)), (2, .ref (g2 0)), (3, .int (nI (5 * c5)))] → W p l e room_1 s m #[Value.ref b] below meth c H locs 600000 7302250 (lw_Z below #[Value.ref b] s) (F0 m 417 ls [])) : W p l e room_1 s m #[Value.ref b] below meth c H locs 600000 7302250 (lw_Z below #[Value.ref b] s) (F0 m 234 ls []) := by
  obtain ⟨hx, hb, hr, hml, hown, hts, hX, hbl, hlocks, hgv⟩ := C0
  have htt := hts
  have hts := fun w h => htt w (wsL_law_in w h)
  have hA : ∀ q : Nat, s.heap.size ≤ q → (fun q : Nat => s.heap.size ≤ q) q := fun _ h => h
  have hbA : ¬ (fun q : Nat => s.heap.size ≤ q) b := Nat.not_le.mpr hbl
  refine lv_aload_n hx hb dL_law_234 rfl (lv_at hl 1 rfl) ?_
  refine zwiL (wf := fun u : RS => wR g cI cT u) (va_runV (As := []) (rest := []) ⟨hx, hb, hml, hown, hts⟩ (c_Tree_forget l dC dI cI cT g a  H.size c5 hok (by omega)) (cwV 0 hts gL_law_X1_forget rfl rfl rfl (by decide +kernel) ⟨Nat.le_of_ble_eq_true rfl, Nat.le_of_ble_eq_true rfl⟩) (zpreV hK (zPl hP) (zDl hD) rfl 0 rfl) rfl rfl hl.1 rfl (lv_room (Nat.le_of_ble_eq_true rfl)) dL_law_235 ⟨Nat.le_refl _, Nat.le_refl _⟩) hP hD hS hA (fun _ => rfl) (fun r1 u H locs hw1 hP hD hS => ?_)
  have hP : va_P (dC, dI) vwCl (wR g cI cT u ++ wM g2 cI w) H := hP
  have hD : va_D (fun q : Nat => s.heap.size ≤ q) (wR g cI cT u ++ wM g2 cI w) := hD
  refine lv_aload_n hx hb dL_law_238 rfl (lv_at hl 2 rfl) ?_
  refine zwiR (wf := fun u2 : MS => wM g2 cI u2) (va_runV (As := []) (rest := [.int r1]) ⟨hx, hb, hml, hown, hts⟩ (c_Model_forget l dC dI cI cT g2 w  H.size c5 (okR_eq heq hok) (by omega)) (cwV 0 hts gL_law_X2_forget rfl rfl rfl (by decide +kernel) ⟨Nat.le_of_ble_eq_true rfl, Nat.le_of_ble_eq_true rfl⟩) (zpreV hK (zPr hP) (zDr hD) rfl 0 rfl) rfl rfl hl.1 rfl (lv_room (Nat.le_of_ble_eq_true rfl)) dL_law_239 ⟨Nat.le_refl _, Nat.le_refl _⟩) hP hD hS hA (fun _ => rfl) (fun r2 u2 H locs hw2 hP hD hS => ?_)
  have hP : va_P (dC, dI) vwCl (wR g cI cT u ++ wM g2 cI u2) H := hP
  have hD : va_D (fun q : Nat => s.heap.size ≤ q) (wR g cI cT u ++ wM g2 cI u2) := hD
  refine lv_icmp_eq (tgt := 417) hx hb dL_law_242 (by decide) (fun h_242 => ?_) (fun h_242 => absurd (hw1.1.trans ((aForget_eq heq ).1.trans hw2.1.symm)) h_242)
  exact kk u u2 _ _ _ (okR_up (okR_eq (eqR_sy hw1.2) (aForget_ok hok )) (Nat.le_succ c5)) (eqR_tr hw1.2 (eqR_tr (aForget_eq heq ).2 (eqR_sy hw2.2))) hP hD hS (lv_sub hl [0, 1, 2, 3] rfl)
set_option maxHeartbeats 4000000 in
set_option maxRecDepth 100000 in
/-- the law, case 5: open -/
theorem law_open {p : Program} {l : Launch} {e : Env} {s : State} {m : MethodId} {below : List Frame} {meth : Method} {c : Code} {dC : Nat → ClassId} {dI : Nat → Nat → Nat} {cI cT : ClassId} {b L : Nat} {xs : Nat → Int32} {g g2 : Nat → Nat} (hL : L ≤ 2560) (C0 : lw_At p s m meth c b L xs) (hK : va_K (dC, dI) vwCl (zTY cI cT) s) {c5 : Nat} (h5 : 5 * c5 + 5 ≤ L) {a : RS} {w : MS} (hok : okR c5 a) (heq : eqR a (view w)) {H : Heap} {locs : List Loc} {ls : Array Slot} (hP : va_P (dC, dI) vwCl (wR g cI cT a ++ wM g2 cI w) H) (hD : va_D (fun q : Nat => s.heap.size ≤ q) (wR g cI cT a ++ wM g2 cI w)) (hS : va_S (fun q : Nat => s.heap.size ≤ q) s.heap H locs) (hl : lv_has ls 4 [(0, .ref b), (1, .ref (g 0)), (2, .ref (g2 0)), (3, .int (nI (5 * c5)))])
    (kk : ∀ (a : RS) (w : MS) (H : Heap) (locs : List Loc) (ls : Array Slot), okR (c5 + 1) a → eqR a (view w) → va_P (dC, dI) vwCl (wR g cI cT a ++ wM g2 cI w) H → va_D (fun q : Nat => s.heap.size ≤ q) (wR g cI cT a ++ wM g2 cI w) → va_S (fun q : Nat => s.heap.size ≤ q) s.heap H locs → lv_has ls 4 [(0, .ref b), (1, .ref (g 0)), (2, .ref (g2 0)), (3, .int (nI (5 * c5)))] → W p l e room_1 s m #[Value.ref b] below meth c H locs 600000 7302250 (lw_Z below #[Value.ref b] s) (F0 m 417 ls [])) : W p l e room_1 s m #[Value.ref b] below meth c H locs 600000 7302250 (lw_Z below #[Value.ref b] s) (F0 m 247 ls []) := by
  obtain ⟨hx, hb, hr, hml, hown, hts, hX, hbl, hlocks, hgv⟩ := C0
  have htt := hts
  have hts := fun w h => htt w (wsL_law_in w h)
  have hA : ∀ q : Nat, s.heap.size ≤ q → (fun q : Nat => s.heap.size ≤ q) q := fun _ h => h
  have hbA : ¬ (fun q : Nat => s.heap.size ≤ q) b := Nat.not_le.mpr hbl
  refine lv_aload_n hx hb dL_law_247 rfl (lv_at hl 1 rfl) ?_
  refine lv_aload_n hx hb dL_law_248 rfl (lv_at hl 0 rfl) ?_
  refine lv_iload_n hx hb dL_law_249 rfl (lv_at hl 3 rfl) ?_
  refine lv_iconst (v := nI 1) hx hb dL_law_250 (by decide) ?_
  refine lv_iadd hx hb dL_law_251 ?_
  refine zt (y := nI ((5 * c5) + 1)) (nI_add _ _) ?_
  refine va_sld hx hb hX hbl hbA hS (vp_in_nI (show (5 * c5) + 1 < L by omega) (by omega)) dL_law_252 ?_
  refine zt (y := xs ((5 * c5) + 1)) (by rw [nI_clamp (by omega)]) ?_
  refine zwiL (wf := fun u : RS => wR g cI cT u) (va_runV (As := [.int (xs ((5 * c5) + 1))]) (rest := []) ⟨hx, hb, hml, hown, hts⟩ (c_Tree_open l dC dI cI cT g a (xs (5 * c5 + 1)) H.size c5 hok (by omega)) (cwV 1 hts gL_law_X1_open rfl rfl rfl (by decide +kernel) ⟨Nat.le_of_ble_eq_true rfl, Nat.le_of_ble_eq_true rfl⟩) (zpreV hK (zPl hP) (zDl hD) rfl 0 rfl) rfl rfl hl.1 rfl (lv_room (Nat.le_of_ble_eq_true rfl)) dL_law_253 ⟨Nat.le_refl _, Nat.le_refl _⟩) hP hD hS hA (fun _ => rfl) (fun r1 u H locs hw1 hP hD hS => ?_)
  have hP : va_P (dC, dI) vwCl (wR g cI cT u ++ wM g2 cI w) H := hP
  have hD : va_D (fun q : Nat => s.heap.size ≤ q) (wR g cI cT u ++ wM g2 cI w) := hD
  refine lv_aload_n hx hb dL_law_256 rfl (lv_at hl 2 rfl) ?_
  refine lv_aload_n hx hb dL_law_257 rfl (lv_at hl 0 rfl) ?_
  refine lv_iload_n hx hb dL_law_258 rfl (lv_at hl 3 rfl) ?_
  refine lv_iconst (v := nI 1) hx hb dL_law_259 (by decide) ?_
  refine lv_iadd hx hb dL_law_260 ?_
  refine zt (y := nI ((5 * c5) + 1)) (nI_add _ _) ?_
  refine va_sld hx hb hX hbl hbA hS (vp_in_nI (show (5 * c5) + 1 < L by omega) (by omega)) dL_law_261 ?_
  refine zt (y := xs ((5 * c5) + 1)) (by rw [nI_clamp (by omega)]) ?_
  refine zwiR (wf := fun u2 : MS => wM g2 cI u2) (va_runV (As := [.int (xs ((5 * c5) + 1))]) (rest := [.int r1]) ⟨hx, hb, hml, hown, hts⟩ (c_Model_open l dC dI cI cT g2 w (xs (5 * c5 + 1)) H.size c5 (okR_eq heq hok) (by omega)) (cwV 1 hts gL_law_X2_open rfl rfl rfl (by decide +kernel) ⟨Nat.le_of_ble_eq_true rfl, Nat.le_of_ble_eq_true rfl⟩) (zpreV hK (zPr hP) (zDr hD) rfl 0 rfl) rfl rfl hl.1 rfl (lv_room (Nat.le_of_ble_eq_true rfl)) dL_law_262 ⟨Nat.le_refl _, Nat.le_refl _⟩) hP hD hS hA (fun _ => rfl) (fun r2 u2 H locs hw2 hP hD hS => ?_)
  have hP : va_P (dC, dI) vwCl (wR g cI cT u ++ wM g2 cI u2) H := hP
  have hD : va_D (fun q : Nat => s.heap.size ≤ q) (wR g cI cT u ++ wM g2 cI u2) := hD
  refine lv_icmp_eq (tgt := 417) hx hb dL_law_265 (by decide) (fun h_265 => ?_) (fun h_265 => absurd (hw1.1.trans ((aOpen_eq heq (xs (5 * c5 + 1))).1.trans hw2.1.symm)) h_265)
  exact kk u u2 _ _ _ (okR_up (okR_eq (eqR_sy hw1.2) (aOpen_ok hok (xs (5 * c5 + 1)))) (Nat.le_succ c5)) (eqR_tr hw1.2 (eqR_tr (aOpen_eq heq (xs (5 * c5 + 1))).2 (eqR_sy hw2.2))) hP hD hS (lv_sub hl [0, 1, 2, 3] rfl)
set_option maxHeartbeats 4000000 in
set_option maxRecDepth 100000 in
/-- the law, case 6: get -/
theorem law_get {p : Program} {l : Launch} {e : Env} {s : State} {m : MethodId} {below : List Frame} {meth : Method} {c : Code} {dC : Nat → ClassId} {dI : Nat → Nat → Nat} {cI cT : ClassId} {b L : Nat} {xs : Nat → Int32} {g g2 : Nat → Nat} (hL : L ≤ 2560) (C0 : lw_At p s m meth c b L xs) (hK : va_K (dC, dI) vwCl (zTY cI cT) s) {c5 : Nat} (h5 : 5 * c5 + 5 ≤ L) {a : RS} {w : MS} (hok : okR c5 a) (heq : eqR a (view w)) {H : Heap} {locs : List Loc} {ls : Array Slot} (hP : va_P (dC, dI) vwCl (wR g cI cT a ++ wM g2 cI w) H) (hD : va_D (fun q : Nat => s.heap.size ≤ q) (wR g cI cT a ++ wM g2 cI w)) (hS : va_S (fun q : Nat => s.heap.size ≤ q) s.heap H locs) (hl : lv_has ls 4 [(0, .ref b), (1, .ref (g 0)), (2, .ref (g2 0)), (3, .int (nI (5 * c5)))])
    (kk : ∀ (a : RS) (w : MS) (H : Heap) (locs : List Loc) (ls : Array Slot), okR (c5 + 1) a → eqR a (view w) → va_P (dC, dI) vwCl (wR g cI cT a ++ wM g2 cI w) H → va_D (fun q : Nat => s.heap.size ≤ q) (wR g cI cT a ++ wM g2 cI w) → va_S (fun q : Nat => s.heap.size ≤ q) s.heap H locs → lv_has ls 4 [(0, .ref b), (1, .ref (g 0)), (2, .ref (g2 0)), (3, .int (nI (5 * c5)))] → W p l e room_1 s m #[Value.ref b] below meth c H locs 600000 7302250 (lw_Z below #[Value.ref b] s) (F0 m 417 ls [])) : W p l e room_1 s m #[Value.ref b] below meth c H locs 600000 7302250 (lw_Z below #[Value.ref b] s) (F0 m 270 ls []) := by
  obtain ⟨hx, hb, hr, hml, hown, hts, hX, hbl, hlocks, hgv⟩ := C0
  have htt := hts
  have hts := fun w h => htt w (wsL_law_in w h)
  have hA : ∀ q : Nat, s.heap.size ≤ q → (fun q : Nat => s.heap.size ≤ q) q := fun _ h => h
  have hbA : ¬ (fun q : Nat => s.heap.size ≤ q) b := Nat.not_le.mpr hbl
  refine lv_aload_n hx hb dL_law_270 rfl (lv_at hl 1 rfl) ?_
  refine lv_aload_n hx hb dL_law_271 rfl (lv_at hl 0 rfl) ?_
  refine lv_iload_n hx hb dL_law_272 rfl (lv_at hl 3 rfl) ?_
  refine lv_iconst (v := nI 1) hx hb dL_law_273 (by decide) ?_
  refine lv_iadd hx hb dL_law_274 ?_
  refine zt (y := nI ((5 * c5) + 1)) (nI_add _ _) ?_
  refine va_sld hx hb hX hbl hbA hS (vp_in_nI (show (5 * c5) + 1 < L by omega) (by omega)) dL_law_275 ?_
  refine zt (y := xs ((5 * c5) + 1)) (by rw [nI_clamp (by omega)]) ?_
  refine lv_aload_n hx hb dL_law_276 rfl (lv_at hl 0 rfl) ?_
  refine lv_iload_n hx hb dL_law_277 rfl (lv_at hl 3 rfl) ?_
  refine lv_iconst (v := nI 2) hx hb dL_law_278 (by decide) ?_
  refine lv_iadd hx hb dL_law_279 ?_
  refine zt (y := nI ((5 * c5) + 2)) (nI_add _ _) ?_
  refine va_sld hx hb hX hbl hbA hS (vp_in_nI (show (5 * c5) + 2 < L by omega) (by omega)) dL_law_280 ?_
  refine zt (y := xs ((5 * c5) + 2)) (by rw [nI_clamp (by omega)]) ?_
  refine zrol (va_runV (As := [.int (xs ((5 * c5) + 1)), .int (xs ((5 * c5) + 2))]) (rest := []) ⟨hx, hb, hml, hown, hts⟩ (c_Tree_get l dC dI cI cT g a (xs (5 * c5 + 1)) (xs (5 * c5 + 2)) H.size c5 hok (by omega)) (cwV 2 hts gL_law_X1_get rfl rfl rfl (by decide +kernel) ⟨Nat.le_of_ble_eq_true rfl, Nat.le_of_ble_eq_true rfl⟩) (zpreV hK (zPl hP) (zDl hD) rfl 0 rfl) rfl rfl hl.1 rfl (lv_room (Nat.le_of_ble_eq_true rfl)) dL_law_281 ⟨Nat.le_refl _, Nat.le_refl _⟩) hP hS hA (fun H locs hP hS => ?_)
  refine lv_aload_n hx hb dL_law_284 rfl (lv_at hl 2 rfl) ?_
  refine lv_aload_n hx hb dL_law_285 rfl (lv_at hl 0 rfl) ?_
  refine lv_iload_n hx hb dL_law_286 rfl (lv_at hl 3 rfl) ?_
  refine lv_iconst (v := nI 1) hx hb dL_law_287 (by decide) ?_
  refine lv_iadd hx hb dL_law_288 ?_
  refine zt (y := nI ((5 * c5) + 1)) (nI_add _ _) ?_
  refine va_sld hx hb hX hbl hbA hS (vp_in_nI (show (5 * c5) + 1 < L by omega) (by omega)) dL_law_289 ?_
  refine zt (y := xs ((5 * c5) + 1)) (by rw [nI_clamp (by omega)]) ?_
  refine lv_aload_n hx hb dL_law_290 rfl (lv_at hl 0 rfl) ?_
  refine lv_iload_n hx hb dL_law_291 rfl (lv_at hl 3 rfl) ?_
  refine lv_iconst (v := nI 2) hx hb dL_law_292 (by decide) ?_
  refine lv_iadd hx hb dL_law_293 ?_
  refine zt (y := nI ((5 * c5) + 2)) (nI_add _ _) ?_
  refine va_sld hx hb hX hbl hbA hS (vp_in_nI (show (5 * c5) + 2 < L by omega) (by omega)) dL_law_294 ?_
  refine zt (y := xs ((5 * c5) + 2)) (by rw [nI_clamp (by omega)]) ?_
  refine zrol (va_runV (As := [.int (xs ((5 * c5) + 1)), .int (xs ((5 * c5) + 2))]) (rest := [.long (aGet a (xs (5 * c5 + 1)) (xs (5 * c5 + 2)))]) ⟨hx, hb, hml, hown, hts⟩ (c_Model_get l dC dI cI cT g2 w (xs (5 * c5 + 1)) (xs (5 * c5 + 2)) H.size c5 (okR_eq heq hok) (by omega)) (cwV 2 hts gL_law_X2_get rfl rfl rfl (by decide +kernel) ⟨Nat.le_of_ble_eq_true rfl, Nat.le_of_ble_eq_true rfl⟩) (zpreV hK (zPr hP) (zDr hD) rfl 0 rfl) rfl rfl hl.1 rfl (lv_room (Nat.le_of_ble_eq_true rfl)) dL_law_295 ⟨Nat.le_refl _, Nat.le_refl _⟩) hP hS hA (fun H locs hP hS => ?_)
  refine ztr (y := .long (aGet a (xs (5 * c5 + 1)) (xs (5 * c5 + 2)))) (by rw [aGet_eq heq]) ?_
  refine W.lcmp hx hb dL_law_298 ?_
  refine zt (y := nI 0) (z_cmp _) ?_
  refine lv_if_eq (tgt := 417) hx hb dL_law_299 (by decide) (fun h_299 => ?_) (fun h_299 => absurd (by decide) h_299)
  exact kk a w _ _ _ (okR_up hok (Nat.le_succ c5)) heq hP hD hS (lv_sub hl [0, 1, 2, 3] rfl)
set_option maxHeartbeats 4000000 in
set_option maxRecDepth 100000 in
/-- the law, case 7: next -/
theorem law_next {p : Program} {l : Launch} {e : Env} {s : State} {m : MethodId} {below : List Frame} {meth : Method} {c : Code} {dC : Nat → ClassId} {dI : Nat → Nat → Nat} {cI cT : ClassId} {b L : Nat} {xs : Nat → Int32} {g g2 : Nat → Nat} (hL : L ≤ 2560) (C0 : lw_At p s m meth c b L xs) (hK : va_K (dC, dI) vwCl (zTY cI cT) s) {c5 : Nat} (h5 : 5 * c5 + 5 ≤ L) {a : RS} {w : MS} (hok : okR c5 a) (heq : eqR a (view w)) {H : Heap} {locs : List Loc} {ls : Array Slot} (hP : va_P (dC, dI) vwCl (wR g cI cT a ++ wM g2 cI w) H) (hD : va_D (fun q : Nat => s.heap.size ≤ q) (wR g cI cT a ++ wM g2 cI w)) (hS : va_S (fun q : Nat => s.heap.size ≤ q) s.heap H locs) (hl : lv_has ls 4 [(0, .ref b), (1, .ref (g 0)), (2, .ref (g2 0)), (3, .int (nI (5 * c5)))])
    (kk : ∀ (a : RS) (w : MS) (H : Heap) (locs : List Loc) (ls : Array Slot), okR (c5 + 1) a → eqR a (view w) → va_P (dC, dI) vwCl (wR g cI cT a ++ wM g2 cI w) H → va_D (fun q : Nat => s.heap.size ≤ q) (wR g cI cT a ++ wM g2 cI w) → va_S (fun q : Nat => s.heap.size ≤ q) s.heap H locs → lv_has ls 4 [(0, .ref b), (1, .ref (g 0)), (2, .ref (g2 0)), (3, .int (nI (5 * c5)))] → W p l e room_1 s m #[Value.ref b] below meth c H locs 600000 7302250 (lw_Z below #[Value.ref b] s) (F0 m 417 ls [])) : W p l e room_1 s m #[Value.ref b] below meth c H locs 600000 7302250 (lw_Z below #[Value.ref b] s) (F0 m 304 ls []) := by
  obtain ⟨hx, hb, hr, hml, hown, hts, hX, hbl, hlocks, hgv⟩ := C0
  have htt := hts
  have hts := fun w h => htt w (wsL_law_in w h)
  have hA : ∀ q : Nat, s.heap.size ≤ q → (fun q : Nat => s.heap.size ≤ q) q := fun _ h => h
  have hbA : ¬ (fun q : Nat => s.heap.size ≤ q) b := Nat.not_le.mpr hbl
  refine lv_aload_n hx hb dL_law_304 rfl (lv_at hl 1 rfl) ?_
  refine lv_aload_n hx hb dL_law_305 rfl (lv_at hl 0 rfl) ?_
  refine lv_iload_n hx hb dL_law_306 rfl (lv_at hl 3 rfl) ?_
  refine lv_iconst (v := nI 1) hx hb dL_law_307 (by decide) ?_
  refine lv_iadd hx hb dL_law_308 ?_
  refine zt (y := nI ((5 * c5) + 1)) (nI_add _ _) ?_
  refine va_sld hx hb hX hbl hbA hS (vp_in_nI (show (5 * c5) + 1 < L by omega) (by omega)) dL_law_309 ?_
  refine zt (y := xs ((5 * c5) + 1)) (by rw [nI_clamp (by omega)]) ?_
  refine lv_aload_n hx hb dL_law_310 rfl (lv_at hl 0 rfl) ?_
  refine lv_iload_n hx hb dL_law_311 rfl (lv_at hl 3 rfl) ?_
  refine lv_iconst (v := nI 2) hx hb dL_law_312 (by decide) ?_
  refine lv_iadd hx hb dL_law_313 ?_
  refine zt (y := nI ((5 * c5) + 2)) (nI_add _ _) ?_
  refine va_sld hx hb hX hbl hbA hS (vp_in_nI (show (5 * c5) + 2 < L by omega) (by omega)) dL_law_314 ?_
  refine zt (y := xs ((5 * c5) + 2)) (by rw [nI_clamp (by omega)]) ?_
  refine zrol (va_runV (As := [.int (xs ((5 * c5) + 1)), .int (xs ((5 * c5) + 2))]) (rest := []) ⟨hx, hb, hml, hown, hts⟩ (c_Tree_next l dC dI cI cT g a (xs (5 * c5 + 1)) (xs (5 * c5 + 2)) H.size c5 hok (by omega)) (cwV 2 hts gL_law_X1_next rfl rfl rfl (by decide +kernel) ⟨Nat.le_of_ble_eq_true rfl, Nat.le_of_ble_eq_true rfl⟩) (zpreV hK (zPl hP) (zDl hD) rfl 0 rfl) rfl rfl hl.1 rfl (lv_room (Nat.le_of_ble_eq_true rfl)) dL_law_315 ⟨Nat.le_refl _, Nat.le_refl _⟩) hP hS hA (fun H locs hP hS => ?_)
  refine lv_aload_n hx hb dL_law_318 rfl (lv_at hl 2 rfl) ?_
  refine lv_aload_n hx hb dL_law_319 rfl (lv_at hl 0 rfl) ?_
  refine lv_iload_n hx hb dL_law_320 rfl (lv_at hl 3 rfl) ?_
  refine lv_iconst (v := nI 1) hx hb dL_law_321 (by decide) ?_
  refine lv_iadd hx hb dL_law_322 ?_
  refine zt (y := nI ((5 * c5) + 1)) (nI_add _ _) ?_
  refine va_sld hx hb hX hbl hbA hS (vp_in_nI (show (5 * c5) + 1 < L by omega) (by omega)) dL_law_323 ?_
  refine zt (y := xs ((5 * c5) + 1)) (by rw [nI_clamp (by omega)]) ?_
  refine lv_aload_n hx hb dL_law_324 rfl (lv_at hl 0 rfl) ?_
  refine lv_iload_n hx hb dL_law_325 rfl (lv_at hl 3 rfl) ?_
  refine lv_iconst (v := nI 2) hx hb dL_law_326 (by decide) ?_
  refine lv_iadd hx hb dL_law_327 ?_
  refine zt (y := nI ((5 * c5) + 2)) (nI_add _ _) ?_
  refine va_sld hx hb hX hbl hbA hS (vp_in_nI (show (5 * c5) + 2 < L by omega) (by omega)) dL_law_328 ?_
  refine zt (y := xs ((5 * c5) + 2)) (by rw [nI_clamp (by omega)]) ?_
  refine zrol (va_runV (As := [.int (xs ((5 * c5) + 1)), .int (xs ((5 * c5) + 2))]) (rest := [.long (aNext a (xs (5 * c5 + 1)) (xs (5 * c5 + 2)))]) ⟨hx, hb, hml, hown, hts⟩ (c_Model_next l dC dI cI cT g2 w (xs (5 * c5 + 1)) (xs (5 * c5 + 2)) H.size c5 (okR_eq heq hok) (by omega)) (cwV 2 hts gL_law_X2_next rfl rfl rfl (by decide +kernel) ⟨Nat.le_of_ble_eq_true rfl, Nat.le_of_ble_eq_true rfl⟩) (zpreV hK (zPr hP) (zDr hD) rfl 0 rfl) rfl rfl hl.1 rfl (lv_room (Nat.le_of_ble_eq_true rfl)) dL_law_329 ⟨Nat.le_refl _, Nat.le_refl _⟩) hP hS hA (fun H locs hP hS => ?_)
  refine ztr (y := .long (aNext a (xs (5 * c5 + 1)) (xs (5 * c5 + 2)))) (by rw [aNext_eq heq]) ?_
  refine W.lcmp hx hb dL_law_332 ?_
  refine zt (y := nI 0) (z_cmp _) ?_
  refine lv_if_eq (tgt := 417) hx hb dL_law_333 (by decide) (fun h_333 => ?_) (fun h_333 => absurd (by decide) h_333)
  exact kk a w _ _ _ (okR_up hok (Nat.le_succ c5)) heq hP hD hS (lv_sub hl [0, 1, 2, 3] rfl)
set_option maxHeartbeats 4000000 in
set_option maxRecDepth 100000 in
/-- the law, case 8: size -/
theorem law_size {p : Program} {l : Launch} {e : Env} {s : State} {m : MethodId} {below : List Frame} {meth : Method} {c : Code} {dC : Nat → ClassId} {dI : Nat → Nat → Nat} {cI cT : ClassId} {b L : Nat} {xs : Nat → Int32} {g g2 : Nat → Nat} (hL : L ≤ 2560) (C0 : lw_At p s m meth c b L xs) (hK : va_K (dC, dI) vwCl (zTY cI cT) s) {c5 : Nat} (h5 : 5 * c5 + 5 ≤ L) {a : RS} {w : MS} (hok : okR c5 a) (heq : eqR a (view w)) {H : Heap} {locs : List Loc} {ls : Array Slot} (hP : va_P (dC, dI) vwCl (wR g cI cT a ++ wM g2 cI w) H) (hD : va_D (fun q : Nat => s.heap.size ≤ q) (wR g cI cT a ++ wM g2 cI w)) (hS : va_S (fun q : Nat => s.heap.size ≤ q) s.heap H locs) (hl : lv_has ls 4 [(0, .ref b), (1, .ref (g 0)), (2, .ref (g2 0)), (3, .int (nI (5 * c5)))])
    (kk : ∀ (a : RS) (w : MS) (H : Heap) (locs : List Loc) (ls : Array Slot), okR (c5 + 1) a → eqR a (view w) → va_P (dC, dI) vwCl (wR g cI cT a ++ wM g2 cI w) H → va_D (fun q : Nat => s.heap.size ≤ q) (wR g cI cT a ++ wM g2 cI w) → va_S (fun q : Nat => s.heap.size ≤ q) s.heap H locs → lv_has ls 4 [(0, .ref b), (1, .ref (g 0)), (2, .ref (g2 0)), (3, .int (nI (5 * c5)))] → W p l e room_1 s m #[Value.ref b] below meth c H locs 600000 7302250 (lw_Z below #[Value.ref b] s) (F0 m 417 ls [])) : W p l e room_1 s m #[Value.ref b] below meth c H locs 600000 7302250 (lw_Z below #[Value.ref b] s) (F0 m 338 ls []) := by
  obtain ⟨hx, hb, hr, hml, hown, hts, hX, hbl, hlocks, hgv⟩ := C0
  have htt := hts
  have hts := fun w h => htt w (wsL_law_in w h)
  have hA : ∀ q : Nat, s.heap.size ≤ q → (fun q : Nat => s.heap.size ≤ q) q := fun _ h => h
  have hbA : ¬ (fun q : Nat => s.heap.size ≤ q) b := Nat.not_le.mpr hbl
  refine lv_aload_n hx hb dL_law_338 rfl (lv_at hl 1 rfl) ?_
  refine lv_aload_n hx hb dL_law_339 rfl (lv_at hl 0 rfl) ?_
  refine lv_iload_n hx hb dL_law_340 rfl (lv_at hl 3 rfl) ?_
  refine lv_iconst (v := nI 1) hx hb dL_law_341 (by decide) ?_
  refine lv_iadd hx hb dL_law_342 ?_
  refine zt (y := nI ((5 * c5) + 1)) (nI_add _ _) ?_
  refine va_sld hx hb hX hbl hbA hS (vp_in_nI (show (5 * c5) + 1 < L by omega) (by omega)) dL_law_343 ?_
  refine zt (y := xs ((5 * c5) + 1)) (by rw [nI_clamp (by omega)]) ?_
  refine lv_aload_n hx hb dL_law_344 rfl (lv_at hl 0 rfl) ?_
  refine lv_iload_n hx hb dL_law_345 rfl (lv_at hl 3 rfl) ?_
  refine lv_iconst (v := nI 2) hx hb dL_law_346 (by decide) ?_
  refine lv_iadd hx hb dL_law_347 ?_
  refine zt (y := nI ((5 * c5) + 2)) (nI_add _ _) ?_
  refine va_sld hx hb hX hbl hbA hS (vp_in_nI (show (5 * c5) + 2 < L by omega) (by omega)) dL_law_348 ?_
  refine zt (y := xs ((5 * c5) + 2)) (by rw [nI_clamp (by omega)]) ?_
  refine zroi (va_runV (As := [.int (xs ((5 * c5) + 1)), .int (xs ((5 * c5) + 2))]) (rest := []) ⟨hx, hb, hml, hown, hts⟩ (c_Tree_size l dC dI cI cT g a (xs (5 * c5 + 1)) (xs (5 * c5 + 2)) H.size c5 hok (by omega)) (cwV 2 hts gL_law_X1_size rfl rfl rfl (by decide +kernel) ⟨Nat.le_of_ble_eq_true rfl, Nat.le_of_ble_eq_true rfl⟩) (zpreV hK (zPl hP) (zDl hD) rfl 0 rfl) rfl rfl hl.1 rfl (lv_room (Nat.le_of_ble_eq_true rfl)) dL_law_349 ⟨Nat.le_refl _, Nat.le_refl _⟩) hP hS hA (fun H locs hP hS => ?_)
  refine lv_aload_n hx hb dL_law_352 rfl (lv_at hl 2 rfl) ?_
  refine lv_aload_n hx hb dL_law_353 rfl (lv_at hl 0 rfl) ?_
  refine lv_iload_n hx hb dL_law_354 rfl (lv_at hl 3 rfl) ?_
  refine lv_iconst (v := nI 1) hx hb dL_law_355 (by decide) ?_
  refine lv_iadd hx hb dL_law_356 ?_
  refine zt (y := nI ((5 * c5) + 1)) (nI_add _ _) ?_
  refine va_sld hx hb hX hbl hbA hS (vp_in_nI (show (5 * c5) + 1 < L by omega) (by omega)) dL_law_357 ?_
  refine zt (y := xs ((5 * c5) + 1)) (by rw [nI_clamp (by omega)]) ?_
  refine lv_aload_n hx hb dL_law_358 rfl (lv_at hl 0 rfl) ?_
  refine lv_iload_n hx hb dL_law_359 rfl (lv_at hl 3 rfl) ?_
  refine lv_iconst (v := nI 2) hx hb dL_law_360 (by decide) ?_
  refine lv_iadd hx hb dL_law_361 ?_
  refine zt (y := nI ((5 * c5) + 2)) (nI_add _ _) ?_
  refine va_sld hx hb hX hbl hbA hS (vp_in_nI (show (5 * c5) + 2 < L by omega) (by omega)) dL_law_362 ?_
  refine zt (y := xs ((5 * c5) + 2)) (by rw [nI_clamp (by omega)]) ?_
  refine zroi (va_runV (As := [.int (xs ((5 * c5) + 1)), .int (xs ((5 * c5) + 2))]) (rest := [.int (aSize a (xs (5 * c5 + 1)) (xs (5 * c5 + 2)))]) ⟨hx, hb, hml, hown, hts⟩ (c_Model_size l dC dI cI cT g2 w (xs (5 * c5 + 1)) (xs (5 * c5 + 2)) H.size c5 (okR_eq heq hok) (by omega)) (cwV 2 hts gL_law_X2_size rfl rfl rfl (by decide +kernel) ⟨Nat.le_of_ble_eq_true rfl, Nat.le_of_ble_eq_true rfl⟩) (zpreV hK (zPr hP) (zDr hD) rfl 0 rfl) rfl rfl hl.1 rfl (lv_room (Nat.le_of_ble_eq_true rfl)) dL_law_363 ⟨Nat.le_refl _, Nat.le_refl _⟩) hP hS hA (fun H locs hP hS => ?_)
  refine lv_icmp_eq (tgt := 417) hx hb dL_law_366 (by decide) (fun h_366 => ?_) (fun h_366 => absurd ((aSize_eq heq (xs (5 * c5 + 1)) (xs (5 * c5 + 2)))) h_366)
  exact kk a w _ _ _ (okR_up hok (Nat.le_succ c5)) heq hP hD hS (lv_sub hl [0, 1, 2, 3] rfl)
set_option maxHeartbeats 4000000 in
set_option maxRecDepth 100000 in
/-- the law, case 9: count -/
theorem law_count {p : Program} {l : Launch} {e : Env} {s : State} {m : MethodId} {below : List Frame} {meth : Method} {c : Code} {dC : Nat → ClassId} {dI : Nat → Nat → Nat} {cI cT : ClassId} {b L : Nat} {xs : Nat → Int32} {g g2 : Nat → Nat} (hL : L ≤ 2560) (C0 : lw_At p s m meth c b L xs) (hK : va_K (dC, dI) vwCl (zTY cI cT) s) {c5 : Nat} (h5 : 5 * c5 + 5 ≤ L) {a : RS} {w : MS} (hok : okR c5 a) (heq : eqR a (view w)) {H : Heap} {locs : List Loc} {ls : Array Slot} (hP : va_P (dC, dI) vwCl (wR g cI cT a ++ wM g2 cI w) H) (hD : va_D (fun q : Nat => s.heap.size ≤ q) (wR g cI cT a ++ wM g2 cI w)) (hS : va_S (fun q : Nat => s.heap.size ≤ q) s.heap H locs) (hl : lv_has ls 4 [(0, .ref b), (1, .ref (g 0)), (2, .ref (g2 0)), (3, .int (nI (5 * c5)))])
    (kk : ∀ (a : RS) (w : MS) (H : Heap) (locs : List Loc) (ls : Array Slot), okR (c5 + 1) a → eqR a (view w) → va_P (dC, dI) vwCl (wR g cI cT a ++ wM g2 cI w) H → va_D (fun q : Nat => s.heap.size ≤ q) (wR g cI cT a ++ wM g2 cI w) → va_S (fun q : Nat => s.heap.size ≤ q) s.heap H locs → lv_has ls 4 [(0, .ref b), (1, .ref (g 0)), (2, .ref (g2 0)), (3, .int (nI (5 * c5)))] → W p l e room_1 s m #[Value.ref b] below meth c H locs 600000 7302250 (lw_Z below #[Value.ref b] s) (F0 m 417 ls [])) : W p l e room_1 s m #[Value.ref b] below meth c H locs 600000 7302250 (lw_Z below #[Value.ref b] s) (F0 m 371 ls []) := by
  obtain ⟨hx, hb, hr, hml, hown, hts, hX, hbl, hlocks, hgv⟩ := C0
  have htt := hts
  have hts := fun w h => htt w (wsL_law_in w h)
  have hA : ∀ q : Nat, s.heap.size ≤ q → (fun q : Nat => s.heap.size ≤ q) q := fun _ h => h
  have hbA : ¬ (fun q : Nat => s.heap.size ≤ q) b := Nat.not_le.mpr hbl
  refine lv_aload_n hx hb dL_law_371 rfl (lv_at hl 1 rfl) ?_
  refine lv_aload_n hx hb dL_law_372 rfl (lv_at hl 0 rfl) ?_
  refine lv_iload_n hx hb dL_law_373 rfl (lv_at hl 3 rfl) ?_
  refine lv_iconst (v := nI 1) hx hb dL_law_374 (by decide) ?_
  refine lv_iadd hx hb dL_law_375 ?_
  refine zt (y := nI ((5 * c5) + 1)) (nI_add _ _) ?_
  refine va_sld hx hb hX hbl hbA hS (vp_in_nI (show (5 * c5) + 1 < L by omega) (by omega)) dL_law_376 ?_
  refine zt (y := xs ((5 * c5) + 1)) (by rw [nI_clamp (by omega)]) ?_
  refine zroi (va_runV (As := [.int (xs ((5 * c5) + 1))]) (rest := []) ⟨hx, hb, hml, hown, hts⟩ (c_Tree_count l dC dI cI cT g a (xs (5 * c5 + 1)) H.size c5 hok (by omega)) (cwV 1 hts gL_law_X1_count rfl rfl rfl (by decide +kernel) ⟨Nat.le_of_ble_eq_true rfl, Nat.le_of_ble_eq_true rfl⟩) (zpreV hK (zPl hP) (zDl hD) rfl 0 rfl) rfl rfl hl.1 rfl (lv_room (Nat.le_of_ble_eq_true rfl)) dL_law_377 ⟨Nat.le_refl _, Nat.le_refl _⟩) hP hS hA (fun H locs hP hS => ?_)
  refine lv_aload_n hx hb dL_law_380 rfl (lv_at hl 2 rfl) ?_
  refine lv_aload_n hx hb dL_law_381 rfl (lv_at hl 0 rfl) ?_
  refine lv_iload_n hx hb dL_law_382 rfl (lv_at hl 3 rfl) ?_
  refine lv_iconst (v := nI 1) hx hb dL_law_383 (by decide) ?_
  refine lv_iadd hx hb dL_law_384 ?_
  refine zt (y := nI ((5 * c5) + 1)) (nI_add _ _) ?_
  refine va_sld hx hb hX hbl hbA hS (vp_in_nI (show (5 * c5) + 1 < L by omega) (by omega)) dL_law_385 ?_
  refine zt (y := xs ((5 * c5) + 1)) (by rw [nI_clamp (by omega)]) ?_
  refine zroi (va_runV (As := [.int (xs ((5 * c5) + 1))]) (rest := [.int (aCount a (xs (5 * c5 + 1)))]) ⟨hx, hb, hml, hown, hts⟩ (c_Model_count l dC dI cI cT g2 w (xs (5 * c5 + 1)) H.size c5 (okR_eq heq hok) (by omega)) (cwV 1 hts gL_law_X2_count rfl rfl rfl (by decide +kernel) ⟨Nat.le_of_ble_eq_true rfl, Nat.le_of_ble_eq_true rfl⟩) (zpreV hK (zPr hP) (zDr hD) rfl 0 rfl) rfl rfl hl.1 rfl (lv_room (Nat.le_of_ble_eq_true rfl)) dL_law_386 ⟨Nat.le_refl _, Nat.le_refl _⟩) hP hS hA (fun H locs hP hS => ?_)
  refine lv_icmp_eq (tgt := 417) hx hb dL_law_389 (by decide) (fun h_389 => ?_) (fun h_389 => absurd ((aCount_eq heq (xs (5 * c5 + 1)))) h_389)
  exact kk a w _ _ _ (okR_up hok (Nat.le_succ c5)) heq hP hD hS (lv_sub hl [0, 1, 2, 3] rfl)
set_option maxHeartbeats 4000000 in
set_option maxRecDepth 100000 in
/-- the law, case 10: digest -/
theorem law_digest {p : Program} {l : Launch} {e : Env} {s : State} {m : MethodId} {below : List Frame} {meth : Method} {c : Code} {dC : Nat → ClassId} {dI : Nat → Nat → Nat} {cI cT : ClassId} {b L : Nat} {xs : Nat → Int32} {g g2 : Nat → Nat} (hL : L ≤ 2560) (C0 : lw_At p s m meth c b L xs) (hK : va_K (dC, dI) vwCl (zTY cI cT) s) {c5 : Nat} (h5 : 5 * c5 + 5 ≤ L) {a : RS} {w : MS} (hok : okR c5 a) (heq : eqR a (view w)) {H : Heap} {locs : List Loc} {ls : Array Slot} (hP : va_P (dC, dI) vwCl (wR g cI cT a ++ wM g2 cI w) H) (hD : va_D (fun q : Nat => s.heap.size ≤ q) (wR g cI cT a ++ wM g2 cI w)) (hS : va_S (fun q : Nat => s.heap.size ≤ q) s.heap H locs) (hl : lv_has ls 4 [(0, .ref b), (1, .ref (g 0)), (2, .ref (g2 0)), (3, .int (nI (5 * c5)))])
    (kk : ∀ (a : RS) (w : MS) (H : Heap) (locs : List Loc) (ls : Array Slot), okR (c5 + 1) a → eqR a (view w) → va_P (dC, dI) vwCl (wR g cI cT a ++ wM g2 cI w) H → va_D (fun q : Nat => s.heap.size ≤ q) (wR g cI cT a ++ wM g2 cI w) → va_S (fun q : Nat => s.heap.size ≤ q) s.heap H locs → lv_has ls 4 [(0, .ref b), (1, .ref (g 0)), (2, .ref (g2 0)), (3, .int (nI (5 * c5)))] → W p l e room_1 s m #[Value.ref b] below meth c H locs 600000 7302250 (lw_Z below #[Value.ref b] s) (F0 m 417 ls [])) : W p l e room_1 s m #[Value.ref b] below meth c H locs 600000 7302250 (lw_Z below #[Value.ref b] s) (F0 m 394 ls []) := by
  obtain ⟨hx, hb, hr, hml, hown, hts, hX, hbl, hlocks, hgv⟩ := C0
  have htt := hts
  have hts := fun w h => htt w (wsL_law_in w h)
  have hA : ∀ q : Nat, s.heap.size ≤ q → (fun q : Nat => s.heap.size ≤ q) q := fun _ h => h
  have hbA : ¬ (fun q : Nat => s.heap.size ≤ q) b := Nat.not_le.mpr hbl
  refine lv_aload_n hx hb dL_law_394 rfl (lv_at hl 1 rfl) ?_
  refine lv_aload_n hx hb dL_law_395 rfl (lv_at hl 0 rfl) ?_
  refine lv_iload_n hx hb dL_law_396 rfl (lv_at hl 3 rfl) ?_
  refine lv_iconst (v := nI 1) hx hb dL_law_397 (by decide) ?_
  refine lv_iadd hx hb dL_law_398 ?_
  refine zt (y := nI ((5 * c5) + 1)) (nI_add _ _) ?_
  refine va_sld hx hb hX hbl hbA hS (vp_in_nI (show (5 * c5) + 1 < L by omega) (by omega)) dL_law_399 ?_
  refine zt (y := xs ((5 * c5) + 1)) (by rw [nI_clamp (by omega)]) ?_
  refine zroi (va_runV (As := [.int (xs ((5 * c5) + 1))]) (rest := []) ⟨hx, hb, hml, hown, hts⟩ (c_Tree_digest l dC dI cI cT g a (xs (5 * c5 + 1)) H.size c5 hok (by omega)) (cwV 1 hts gL_law_X1_digest rfl rfl rfl (by decide +kernel) ⟨Nat.le_of_ble_eq_true rfl, Nat.le_of_ble_eq_true rfl⟩) (zpreV hK (zPl hP) (zDl hD) rfl 0 rfl) rfl rfl hl.1 rfl (lv_room (Nat.le_of_ble_eq_true rfl)) dL_law_400 ⟨Nat.le_refl _, Nat.le_refl _⟩) hP hS hA (fun H locs hP hS => ?_)
  refine lv_aload_n hx hb dL_law_403 rfl (lv_at hl 2 rfl) ?_
  refine lv_aload_n hx hb dL_law_404 rfl (lv_at hl 0 rfl) ?_
  refine lv_iload_n hx hb dL_law_405 rfl (lv_at hl 3 rfl) ?_
  refine lv_iconst (v := nI 1) hx hb dL_law_406 (by decide) ?_
  refine lv_iadd hx hb dL_law_407 ?_
  refine zt (y := nI ((5 * c5) + 1)) (nI_add _ _) ?_
  refine va_sld hx hb hX hbl hbA hS (vp_in_nI (show (5 * c5) + 1 < L by omega) (by omega)) dL_law_408 ?_
  refine zt (y := xs ((5 * c5) + 1)) (by rw [nI_clamp (by omega)]) ?_
  refine zroi (va_runV (As := [.int (xs ((5 * c5) + 1))]) (rest := [.int (aDigest a (xs (5 * c5 + 1)))]) ⟨hx, hb, hml, hown, htt⟩ (c_Model_digest l dC dI cI cT g2 w (xs (5 * c5 + 1)) H.size c5 (okR_eq heq hok) (by omega)) (cwV 1 htt gL_law_X2_digest rfl rfl rfl (by decide +kernel) ⟨Nat.le_of_ble_eq_true rfl, Nat.le_of_ble_eq_true rfl⟩) (zpreV hK (zPr hP) (zDr hD) rfl 0 rfl) rfl rfl hl.1 rfl (lv_room (Nat.le_of_ble_eq_true rfl)) dL_law_409 ⟨Nat.le_refl _, Nat.le_refl _⟩) hP hS hA (fun H locs hP hS => ?_)
  refine lv_icmp_eq (tgt := 417) hx hb dL_law_412 (by decide) (fun h_412 => ?_) (fun h_412 => absurd ((aDigest_eq heq (xs (5 * c5 + 1)))) h_412)
  exact kk a w _ _ _ (okR_up hok (Nat.le_succ c5)) heq hP hD hS (lv_sub hl [0, 1, 2, 3] rfl)
