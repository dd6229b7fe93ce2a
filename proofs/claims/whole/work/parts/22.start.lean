set_option maxHeartbeats 4000000 in
set_option maxRecDepth 100000 in
/-- the law, from its entry -/
theorem whole_start {p : Program} {e : Env} {s : State} {m : MethodId} {below : List Frame} {meth : Method} {c : Code} (l : Launch) {b L : Nat} {xs : Nat → Int32} (hL : L ≤ 2560) (C0 : lw_At p s m meth c b L xs) : W p l e room_1 s m #[Value.ref b] below meth c s.heap [] 0 0 (lw_Z below #[Value.ref b] s) (entryFrame m ([Value.ref b] : List Value).toArray 4) := by
  obtain ⟨hx, hb, hr, hml, hown, hts, hX, hbl, hlocks, hgv⟩ := id C0
  have htt := hts
  have hts := fun w h => htt w (wsL_law_in w h)
  have hA : ∀ q : Nat, s.heap.size ≤ q → (fun q : Nat => s.heap.size ≤ q) q := fun _ h => h
  have hbA : ¬ (fun q : Nat => s.heap.size ≤ q) b := Nat.not_le.mpr hbl
  obtain ⟨c0, iS0, hKn0⟩ := u_known (C := RX0) (T := TX0) (N := 4) (n := 4) hts inlX0 (hts (.instantiable RX0 4) (by decide +kernel))
  obtain ⟨c1, iS1, hKn1⟩ := u_known (C := RX1) (T := TX1) (N := 4) (n := 4) hts inlX1 (hts (.instantiable RX1 4) (by decide +kernel))
  obtain ⟨c2, iS2, hKn2⟩ := u_known (C := RX2) (T := TX2) (N := 6) (n := 6) hts inlX2 (hts (.instantiable RX2 6) (by decide +kernel))
  obtain ⟨dC, dI, hKc⟩ : ∃ (dC : Nat → ClassId) (dI : Nat → Nat → Nat), ∀ (k : Nat) (q : vw_C), vwCl[k]? = some q → u_Kn s q.1 q.2.1 q.2.2 (dC k) (dI k) := by
    refine ⟨fun k => if k = 0 then c0 else if k = 1 then c1 else c2, fun k => if k = 0 then iS0 else if k = 1 then iS1 else iS2, ?_⟩
    intro k q hq
    match k, hq with
    | 0, hq => cases hq; exact hKn0
    | 1, hq => cases hq; exact hKn1
    | 2, hq => cases hq; exact hKn2
    | k + 3, hq => simp [vwCl] at hq
  have hNw : va_Nw (.methodLinkNest RX1 9 yX0_init "RevisionTree") s := va_Nw.of rfl (htt (.methodLinkNest RX1 9 yX0_init "RevisionTree") (by decide +kernel))
  have hAO : va_AO RX0 s := va_AO.of (htt (.arrayOver (.object RX0)) (by decide +kernel))
  obtain ⟨cI, hI⟩ := zarrI (hts (.arrayClass .int) (by decide +kernel))
  obtain ⟨cT, hT⟩ := zarrT (htt (.arrayOver (.object RX0)) (by decide +kernel))
  have hK : va_K (dC, dI) vwCl (zTY cI cT) s := ⟨hKc, fun k q h => by
      match k, h with
      | 0, h => cases h; exact hI
      | 1, h => cases h; exact hT
      | k + 2, h => simp [zTY] at h⟩
  have hS : va_S (fun q : Nat => s.heap.size ≤ q) s.heap s.heap [] := va_S.rf
  have hP : va_P (dC, dI) vwCl [] s.heap := fun k q h => by simp at h
  have hD : va_D (fun q : Nat => s.heap.size ≤ q) [] := ⟨fun i j p q h => by simp at h, fun k q h => by simp at h⟩
  have hl := lv_entry ([.ref b]) (n := 4) (Nat.le_of_ble_eq_true rfl)
  rw [lg_entry_eq]
  generalize (lg_sl ([.ref b]) ++ List.replicate (4 - (lg_sl ([.ref b])).length) Slot.unset).toArray = ls at hl ⊢
  have hl : lv_has ls 4 [(0, .ref b)] := hl
  refine va_new (ci := 1) (fs := [.null, .null, .null, .int (nI 0)]) (C := RX1) (T := TX1) (N := 4) hx hb hts inlX1 tyX1 tyX1_ok hown (hts (.classLink RL 7 RX1) (by decide +kernel)) (hts (.instantiable RX1 4) (by decide +kernel)) (hts (.initialized RX1) (by decide +kernel)) hK hP hD hS hA rfl (fun j hj => by rcases (show j = 0 ∨ j = 1 ∨ j = 2 ∨ j = 3 by omega) with rfl | rfl | rfl | rfl <;> rfl) (by decide +kernel) (by decide +kernel) dL_law_0 (fun qx H hP hD hS => ?_)
  have hP : va_P (dC, dI) vwCl [(qx, .inr (1, [.null, .null, .null, .int (nI 0)]))] H := hP
  have hD : va_D (fun q : Nat => s.heap.size ≤ q) [(qx, .inr (1, [.null, .null, .null, .int (nI 0)]))] := hD
  refine lv_dup hx hb dL_law_3 rfl ?_
  have hFc := va_free (wc := [(qx, .inr (1, [.null, .null, .null, .int (nI 0)]))]) hD hS hA [0] rfl
  refine va_callv (va_runI (As := []) (rest := [.ref qx]) ⟨hx, hb, hml, hown, hts⟩ (c_Tree_init l dC dI cI cT qx H.size) (cwI 0 hts gL_law_X1_init rfl rfl rfl (hts (.initialized RX1) (by decide +kernel)) (hts (.methodLink RL 9 yX1_init) (by decide +kernel)) (hts (.instanceMethod yX1_init) (by decide +kernel)) rfl (by decide +kernel) ⟨Nat.le_of_ble_eq_true rfl, Nat.le_of_ble_eq_true rfl⟩) (zpreSX hK (hP.sub [0] rfl) (hD.sub [0] (by decide) rfl) hNw hAO) rfl rfl hl.1 rfl (lv_room (Nat.le_of_ble_eq_true rfl)) dL_law_4 ⟨by decide +kernel, by decide +kernel⟩) hS (fun q _ h => hFc q h) hFc (fun g t9 H1 locs ht9 hvm hw hB hz1 hk1 hS => ?_)
  obtain ⟨hP1, hD1⟩ := hB
  rw [ht9] at hP1
  have hw : g 0 = qx := hw
  subst hw
  obtain ⟨hP, hD⟩ := va_join (wr := []) (w1 := wR g cI cT a0s) hP hD [0] [] rfl rfl (by decide) (by decide) hk1 hFc hP1 hD1
  generalize H1 = H at hP hS ⊢
  have hP : va_P (dC, dI) vwCl (wR g cI cT a0s) H := hP
  have hD : va_D (fun q : Nat => s.heap.size ≤ q) (wR g cI cT a0s) := hD
  refine lv_astore_n (lv' := [(1, .ref (g 0)), (0, .ref b)]) hx hb dL_law_7 rfl hl (by decide) rfl (fun ls hl => ?_)
  refine va_new (ci := 2) (fs := [.null, .null, .null, .null, .null, .int (nI 0)]) (C := RX2) (T := TX2) (N := 6) hx hb hts inlX2 tyX2 tyX2_ok hown (hts (.classLink RL 10 RX2) (by decide +kernel)) (hts (.instantiable RX2 6) (by decide +kernel)) (hts (.initialized RX2) (by decide +kernel)) hK hP hD hS hA rfl (fun j hj => by rcases (show j = 0 ∨ j = 1 ∨ j = 2 ∨ j = 3 ∨ j = 4 ∨ j = 5 by omega) with rfl | rfl | rfl | rfl | rfl | rfl <;> rfl) (by decide +kernel) (by decide +kernel) dL_law_8 (fun qm H hP hD hS => ?_)
  have hP : va_P (dC, dI) vwCl (wR g cI cT a0s ++ [(qm, .inr (2, [.null, .null, .null, .null, .null, .int (nI 0)]))]) H := hP
  have hD : va_D (fun q : Nat => s.heap.size ≤ q) (wR g cI cT a0s ++ [(qm, .inr (2, [.null, .null, .null, .null, .null, .int (nI 0)]))]) := hD
  refine lv_dup hx hb dL_law_11 rfl ?_
  have hFc := va_free (wc := [(qm, .inr (2, [.null, .null, .null, .null, .null, .int (nI 0)]))]) hD hS hA [19] rfl
  refine va_callv (va_runI (As := []) (rest := [.ref qm]) ⟨hx, hb, hml, hown, hts⟩ (c_Model_init l dC dI cI cT qm H.size) (cwI 0 hts gL_law_X2_init rfl rfl rfl (hts (.initialized RX2) (by decide +kernel)) (hts (.methodLink RL 12 yX2_init) (by decide +kernel)) (hts (.instanceMethod yX2_init) (by decide +kernel)) rfl (by decide +kernel) ⟨Nat.le_of_ble_eq_true rfl, Nat.le_of_ble_eq_true rfl⟩) (zpreS hK (hP.sub [19] rfl) (hD.sub [19] (by decide) rfl)) rfl rfl hl.1 rfl (lv_room (Nat.le_of_ble_eq_true rfl)) dL_law_12 ⟨by decide +kernel, by decide +kernel⟩) hS (fun q _ h => hFc q h) hFc (fun g2 t9 H1 locs ht9 hvm hw hB hz1 hk1 hS => ?_)
  obtain ⟨hP1, hD1⟩ := hB
  rw [ht9] at hP1
  have hw : g2 0 = qm := hw
  subst hw
  obtain ⟨hP, hD⟩ := va_join (wr := wR g cI cT a0s) (w1 := wM g2 cI m0s) hP hD [19] [0, 1, 2, 3, 4, 5, 6, 7, 8, 9, 10, 11, 12, 13, 14, 15, 16, 17, 18] rfl rfl (by decide) (by decide) hk1 hFc hP1 hD1
  generalize H1 = H at hP hS ⊢
  have hP : va_P (dC, dI) vwCl (wR g cI cT a0s ++ wM g2 cI m0s) H := hP
  have hD : va_D (fun q : Nat => s.heap.size ≤ q) (wR g cI cT a0s ++ wM g2 cI m0s) := hD
  refine lv_astore_n (lv' := [(2, .ref (g2 0)), (1, .ref (g 0)), (0, .ref b)]) hx hb dL_law_15 rfl hl (by decide) rfl (fun ls hl => ?_)
  refine W.widen (k := 600000) (n := 7302250) (by decide +kernel) (by decide +kernel) ?_
  refine lv_iconst (v := nI 0) hx hb dL_law_16 (by decide) ?_
  refine lv_istore_n (lv' := [(3, .int (nI 0)), (2, .ref (g2 0)), (1, .ref (g 0)), (0, .ref b)]) hx hb dL_law_17 rfl hl (by decide) rfl (fun ls hl => ?_)
  refine zloop (σ := Nat × RS × MS) (fun x H locs ls => match x with | (c5, a, w) => (5 * c5 ≤ L ∧ okR c5 a ∧ eqR a (view w)) ∧ va_P (dC, dI) vwCl (wR g cI cT a ++ wM g2 cI w) H ∧ va_D (fun q : Nat => s.heap.size ≤ q) (wR g cI cT a ++ wM g2 cI w) ∧ va_S (fun q : Nat => s.heap.size ≤ q) s.heap H locs ∧ lv_has ls 4 [(0, .ref b), (1, .ref (g 0)), (2, .ref (g2 0)), (3, .int (nI (5 * c5)))]) (fun x => L + 1 - 5 * x.1) ?_ (0, a0s, m0s) ⟨⟨Nat.zero_le _, ok0, eq0⟩, hP, hD, hS, lv_sub hl [3, 2, 1, 0] rfl⟩
  rintro ⟨c5, a, w⟩ H locs ls ⟨⟨hc5, hok, heq⟩, hP, hD, hS, hl⟩ ih
  refine lv_iload_n hx hb dL_law_18 rfl (lv_at hl 3 rfl) ?_
  refine lv_aload_n hx hb dL_law_19 rfl (lv_at hl 0 rfl) ?_
  refine va_slen hx hb hX hbl hbA hS dL_law_20 ?_
  refine lv_iconst (v := nI 5) hx hb dL_law_21 (by decide) ?_
  refine lv_isub hx hb dL_law_22 ?_
  refine lv_icmp_gt (tgt := 423) hx hb dL_law_23 (by decide) (fun h_23 => ?_) (fun h_23 => ?_)
  · refine lv_iconst (v := 1) hx hb dL_law_423 (by decide) ?_
    refine va_forget (fun q hq => hS.2.2 q hq) ?_
    exact lw_ret hx hb hr hlocks dL_law_424
  · have h5 : 5 * c5 + 5 ≤ L := z_le5 h_23 (by omega) (by omega)
    have kk : ∀ (a : RS) (w : MS) (H : Heap) (locs : List Loc) (ls : Array Slot), okR (c5 + 1) a → eqR a (view w) → va_P (dC, dI) vwCl (wR g cI cT a ++ wM g2 cI w) H → va_D (fun q : Nat => s.heap.size ≤ q) (wR g cI cT a ++ wM g2 cI w) → va_S (fun q : Nat => s.heap.size ≤ q) s.heap H locs → lv_has ls 4 [(0, .ref b), (1, .ref (g 0)), (2, .ref (g2 0)), (3, .int (nI (5 * c5)))] → W p l e room_1 s m #[Value.ref b] below meth c H locs 600000 7302250 (lw_Z below #[Value.ref b] s) (F0 m 417 ls []) := by
      intro a w H locs ls hok heq hP hD hS hl
      refine lv_iinc (v := nI (5 * (c5 + 1))) (lv' := [(3, .int (nI (5 * (c5 + 1)))), (0, .ref b), (1, .ref (g 0)), (2, .ref (g2 0))]) hx hb dL_law_417 hl (k := 3) rfl (z_5 _) (by decide) rfl (fun ls hl => ?_)
      refine lv_goto (tgt := 18) hx hb dL_law_420 (by decide) ?_
      exact ih (c5 + 1, a, w) _ _ _ ⟨⟨by omega, hok, heq⟩, hP, hD, hS, lv_sub hl [1, 2, 3, 0] rfl⟩ (by show L + 1 - 5 * (c5 + 1) < L + 1 - 5 * c5; omega)
    refine lv_aload_n hx hb dL_law_26 rfl (lv_at hl 0 rfl) ?_
    refine lv_iload_n hx hb dL_law_27 rfl (lv_at hl 3 rfl) ?_
    refine va_sld hx hb hX hbl hbA hS (vp_in_nI (show 5 * c5 < L by omega) (by omega)) dL_law_28 ?_
    refine lv_bipush (v := nI 15) hx hb dL_law_29 (by decide) ?_
    refine lv_iand hx hb dL_law_31 ?_
    obtain ⟨v, hv, ev⟩ := pk_andE (xs (nI (5 * c5)).toNatClampNeg) (m := nI 15) 4 (by decide)
    refine zt ev ?_
    rcases (show v = 0 ∨ v = 1 ∨ v = 2 ∨ v = 3 ∨ v = 4 ∨ v = 5 ∨ v = 6 ∨ v = 7 ∨ v = 8 ∨ v = 9 ∨ v = 10 ∨ 11 ≤ v by omega) with h | h | h | h | h | h | h | h | h | h | h | h
    · subst h
      refine lv_tableIn (tgt := 92) hx hb dL_law_32 (by decide) (by decide) (off := 60) (by decide) (by decide) ?_
      exact law_put hL C0 hK h5 hok heq hP hD hS hl kk
    · subst h
      refine lv_tableIn (tgt := 135) hx hb dL_law_32 (by decide) (by decide) (off := 103) (by decide) (by decide) ?_
      exact law_some hL C0 hK h5 hok heq hP hD hS hl kk
    · subst h
      refine lv_tableIn (tgt := 188) hx hb dL_law_32 (by decide) (by decide) (off := 156) (by decide) (by decide) ?_
      exact law_remove hL C0 hK h5 hok heq hP hD hS hl kk
    · subst h
      refine lv_tableIn (tgt := 211) hx hb dL_law_32 (by decide) (by decide) (off := 179) (by decide) (by decide) ?_
      exact law_commit hL C0 hK h5 hok heq hP hD hS hl kk
    · subst h
      refine lv_tableIn (tgt := 234) hx hb dL_law_32 (by decide) (by decide) (off := 202) (by decide) (by decide) ?_
      exact law_forget hL C0 hK h5 hok heq hP hD hS hl kk
    · subst h
      refine lv_tableIn (tgt := 247) hx hb dL_law_32 (by decide) (by decide) (off := 215) (by decide) (by decide) ?_
      exact law_open hL C0 hK h5 hok heq hP hD hS hl kk
    · subst h
      refine lv_tableIn (tgt := 270) hx hb dL_law_32 (by decide) (by decide) (off := 238) (by decide) (by decide) ?_
      exact law_get hL C0 hK h5 hok heq hP hD hS hl kk
    · subst h
      refine lv_tableIn (tgt := 304) hx hb dL_law_32 (by decide) (by decide) (off := 272) (by decide) (by decide) ?_
      exact law_next hL C0 hK h5 hok heq hP hD hS hl kk
    · subst h
      refine lv_tableIn (tgt := 338) hx hb dL_law_32 (by decide) (by decide) (off := 306) (by decide) (by decide) ?_
      exact law_size hL C0 hK h5 hok heq hP hD hS hl kk
    · subst h
      refine lv_tableIn (tgt := 371) hx hb dL_law_32 (by decide) (by decide) (off := 339) (by decide) (by decide) ?_
      exact law_count hL C0 hK h5 hok heq hP hD hS hl kk
    · subst h
      refine lv_tableIn (tgt := 394) hx hb dL_law_32 (by decide) (by decide) (off := 362) (by decide) (by decide) ?_
      exact law_digest hL C0 hK h5 hok heq hP hD hS hl kk
    · refine lv_tableOut (tgt := 417) hx hb dL_law_32 (Or.inr (by rw [nI_toInt (by omega)]; omega)) (by decide) ?_
      exact kk a w _ _ _ (okR_up hok (Nat.le_succ c5)) heq hP hD hS hl
