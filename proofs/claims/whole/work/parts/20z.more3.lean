-- MORE ROWS: a world of two halves; a call that writes one of them
theorem zal {α : Type} {w1 w2 : List α} {k : Nat} {q : α} (h : w1[k]? = some q) : (w1 ++ w2)[k]? = some q := by
  rw [List.getElem?_append_left (List.getElem?_eq_some_iff.mp h).1]
  exact h
theorem zar {α : Type} {w1 w2 : List α} {k : Nat} {q : α} (h : w2[k]? = some q) : (w1 ++ w2)[w1.length + k]? = some q := by
  rw [List.getElem?_append_right (Nat.le_add_right _ _), Nat.add_sub_cancel_left]
  exact h
theorem zPl {D : va_G} {cl : List vw_C} {w1 w2 : va_W} {H : Heap} (h : va_P D cl (w1 ++ w2) H) : va_P D cl w1 H := fun k q hk => h k q (zal hk)
theorem zPr {D : va_G} {cl : List vw_C} {w1 w2 : va_W} {H : Heap} (h : va_P D cl (w1 ++ w2) H) : va_P D cl w2 H := fun k q hk => h (w1.length + k) q (zar hk)
theorem zDl {A : Nat → Prop} {w1 w2 : va_W} (h : va_D A (w1 ++ w2)) : va_D A w1 := ⟨fun i j x y hi hj e => h.1 i j x y (zal hi) (zal hj) e, fun k q hk => h.2 k q (zal hk)⟩
theorem zDr {A : Nat → Prop} {w1 w2 : va_W} (h : va_D A (w1 ++ w2)) : va_D A w2 := ⟨fun i j x y hi hj e => by
    have h9 := h.1 (w1.length + i) (w1.length + j) x y (zar hi) (zar hj) e
    omega, fun k q hk => h.2 (w1.length + k) q (zar hk)⟩
theorem zjL {A : Nat → Prop} {D : va_G} {cl : List vw_C} {w1 w2 w1' : va_W} {H H1 : Heap} (hP : va_P D cl (w1 ++ w2) H) (hD : va_D A (w1 ++ w2)) (hk : ∀ q : Nat, q < H.size → ¬ va_A w1 H.size q → H1[q]? = H[q]?) (hP1 : va_P D cl w1' H1) : va_P D cl (w1' ++ w2) H1 := va_P.app hP1 (fun k q hq => by
  have h2 := zPr hP k q hq
  refine h2.kept (hk q.1 h2.lt ?_)
  rintro (⟨j, e, he⟩ | h)
  · have hj := (List.getElem?_eq_some_iff.mp he).1
    have h9 := hD.1 j (w1.length + k) (q.1, e) q (zal he) (zar hq) rfl
    omega
  · have h9 := h2.lt
    omega)
theorem zjR {A : Nat → Prop} {D : va_G} {cl : List vw_C} {w1 w2 w2' : va_W} {H H1 : Heap} (hP : va_P D cl (w1 ++ w2) H) (hD : va_D A (w1 ++ w2)) (hk : ∀ q : Nat, q < H.size → ¬ va_A w2 H.size q → H1[q]? = H[q]?) (hP1 : va_P D cl w2' H1) : va_P D cl (w1 ++ w2') H1 := va_P.app (fun k q hq => by
  have h2 := zPl hP k q hq
  refine h2.kept (hk q.1 h2.lt ?_)
  rintro (⟨j, e, he⟩ | h)
  · have hj := (List.getElem?_eq_some_iff.mp hq).1
    have h9 := hD.1 k (w1.length + j) q (q.1, e) (zal hq) (zar he) rfl
    omega
  · have h9 := h2.lt
    omega) hP1
section ZH
variable {p : Program} {l : Launch} {e : Env} {R : Room} {s : State} {m : MethodId} {args : Array Value} {below : List Frame} {meth : Method} {c : Code} {H : Heap} {locs : List Loc} {cells slots : Nat} {Q : State → Prop}
variable {pc : Nat} {ls : Array Slot} {rest st0 : List Value} {D : va_G} {cl : List vw_C} {A : Nat → Prop} {w1 w2 : va_W} {H0 : Heap}
theorem zwiL {S : Type} {post : Int32 → S → Prop} {wf : S → va_W} {av : Array Value} (hr : va_Run p l e R s m args below meth c H locs cells slots 0 0 (F0 m pc ls st0) rest (va_Qi post (fun u t => va_P D cl (wf u) t.heap) (va_A w1 H.size) av) (va_A w1 H.size)) (hP : va_P D cl (w1 ++ w2) H) (hD : va_D A (w1 ++ w2)) (hS : va_S A H0 H locs) (hA : ∀ q : Nat, H0.size ≤ q → A q) (ha : ∀ u, (wf u).map Prod.fst = w1.map Prod.fst)
    (kk : ∀ (r : Int32) (u : S) (H1 : Heap) (locs1 : List Loc), post r u → va_P D cl (wf u ++ w2) H1 → va_D A (wf u ++ w2) → va_S A H0 H1 locs1 → W p l e R s m args below meth c H1 locs1 cells slots Q (F0 m (pc + 3) ls (.int r :: rest))) : W p l e R s m args below meth c H locs cells slots Q (F0 m pc ls st0) := by
  have hF : ∀ q, va_A w1 H.size q → A q := by
    rintro q (⟨k, e, h⟩ | h)
    · exact hD.2 k (q, e) (zal h)
    · exact hA q (Nat.le_trans hS.1 h)
  exact va_calli hr hS (fun q _ h => hF q h) hF (fun r u t H1 locs1 ht hvm hw hB hz hk hS => kk r u H1 locs1 hw (zjL hP hD hk (by rw [← ht]; exact hB)) (zDs hD (by rw [List.map_append, List.map_append, ha u])) hS)
theorem zwiR {S : Type} {post : Int32 → S → Prop} {wf : S → va_W} {av : Array Value} (hr : va_Run p l e R s m args below meth c H locs cells slots 0 0 (F0 m pc ls st0) rest (va_Qi post (fun u t => va_P D cl (wf u) t.heap) (va_A w2 H.size) av) (va_A w2 H.size)) (hP : va_P D cl (w1 ++ w2) H) (hD : va_D A (w1 ++ w2)) (hS : va_S A H0 H locs) (hA : ∀ q : Nat, H0.size ≤ q → A q) (ha : ∀ u, (wf u).map Prod.fst = w2.map Prod.fst)
    (kk : ∀ (r : Int32) (u : S) (H1 : Heap) (locs1 : List Loc), post r u → va_P D cl (w1 ++ wf u) H1 → va_D A (w1 ++ wf u) → va_S A H0 H1 locs1 → W p l e R s m args below meth c H1 locs1 cells slots Q (F0 m (pc + 3) ls (.int r :: rest))) : W p l e R s m args below meth c H locs cells slots Q (F0 m pc ls st0) := by
  have hF : ∀ q, va_A w2 H.size q → A q := by
    rintro q (⟨k, e, h⟩ | h)
    · exact hD.2 (w1.length + k) (q, e) (zar h)
    · exact hA q (Nat.le_trans hS.1 h)
  exact va_calli hr hS (fun q _ h => hF q h) hF (fun r u t H1 locs1 ht hvm hw hB hz hk hS => kk r u H1 locs1 hw (zjR hP hD hk (by rw [← ht]; exact hB)) (zDs hD (by rw [List.map_append, List.map_append, ha u])) hS)
end ZH
