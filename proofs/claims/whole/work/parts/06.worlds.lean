-- WORLDS: the cells of a table, of the class, of the reference
def gl (xs : List Nat) : Nat → Nat := fun j => xs.getD j 0
def wT (u0 u1 u2 u3 : Nat) (cI : ClassId) (T : TB) : va_W := [(u0, .inr (0, [.ref u1, .ref u2, .ref u3, .int (nI T.1)])), (u1, .inl (cI, 400, .inl T.2.1)), (u2, .inl (cI, 400, .inl T.2.2.1)), (u3, .inl (cI, 400, .inl T.2.2.2))]
def wR (g : Nat → Nat) (cI cT : ClassId) (a : RS) : va_W := [(g 0, .inr (1, [.ref (g 15), .ref (g 1), .ref (g 2), .int (nI (rL a))])), (g 1, .inl (cT, 3, .inr (.inr (.inr (.inr (fun j => some (g (3 + 4 * j)))))))), (g 2, .inl (cI, 4, .inl (fun j => nI (rRd a j)))), (g 3, .inr (0, [.ref (g 4), .ref (g 5), .ref (g 6), .int (nI ((tsel a 0).1))])), (g 4, .inl (cI, 400, .inl ((tsel a 0).2.1))), (g 5, .inl (cI, 400, .inl ((tsel a 0).2.2.1))), (g 6, .inl (cI, 400, .inl ((tsel a 0).2.2.2))), (g 7, .inr (0, [.ref (g 8), .ref (g 9), .ref (g 10), .int (nI ((tsel a 1).1))])), (g 8, .inl (cI, 400, .inl ((tsel a 1).2.1))), (g 9, .inl (cI, 400, .inl ((tsel a 1).2.2.1))), (g 10, .inl (cI, 400, .inl ((tsel a 1).2.2.2))), (g 11, .inr (0, [.ref (g 12), .ref (g 13), .ref (g 14), .int (nI ((tsel a 2).1))])), (g 12, .inl (cI, 400, .inl ((tsel a 2).2.1))), (g 13, .inl (cI, 400, .inl ((tsel a 2).2.2.1))), (g 14, .inl (cI, 400, .inl ((tsel a 2).2.2.2))), (g 15, .inr (0, [.ref (g 16), .ref (g 17), .ref (g 18), .int (nI ((tsel a 3).1))])), (g 16, .inl (cI, 400, .inl ((tsel a 3).2.1))), (g 17, .inl (cI, 400, .inl ((tsel a 3).2.2.1))), (g 18, .inl (cI, 400, .inl ((tsel a 3).2.2.2)))]
def wM (g : Nat → Nat) (cI : ClassId) (w : MS) : va_W := [(g 0, .inr (2, [.ref (g 1), .ref (g 2), .ref (g 3), .ref (g 4), .ref (g 5), .int (nI (mL w))])), (g 1, .inl (cI, 1600, .inl (mK w))), (g 2, .inl (cI, 1600, .inl (mV w))), (g 3, .inl (cI, 1600, .inl (mS w))), (g 4, .inl (cI, 4, .inl (fun j => nI (mC w j)))), (g 5, .inl (cI, 4, .inl (fun j => nI (mR w j))))]
def tb0 : TB := (0, (fun _ => nI 0), (fun _ => nI 0), (fun _ => nI 0))
def a0s : RS := (tb0, tb0, tb0, tb0, (fun _ => 0), 0)
def m0s : MS := ((fun _ => nI 0), (fun _ => nI 0), (fun _ => nI 0), (fun _ => 0), (fun _ => 0), 0)
theorem ok0 : okR 0 a0s := ⟨fun t ht => by rcases (show t = 0 ∨ t = 1 ∨ t = 2 ∨ t = 3 by omega) with h | h | h | h <;> subst h <;> exact ⟨by decide, fun i j _ hj => absurd hj (Nat.not_lt_zero _)⟩, fun r _ => Nat.le_refl _, Nat.le_refl _⟩
theorem eq0 : eqR a0s (view m0s) := ⟨fun t ht => by rcases (show t = 0 ∨ t = 1 ∨ t = 2 ∨ t = 3 by omega) with h | h | h | h <;> subst h <;> exact ⟨rfl, fun j hj => absurd hj (Nat.not_lt_zero _), fun j hj => absurd hj (Nat.not_lt_zero _), fun j hj => absurd hj (Nat.not_lt_zero _)⟩, fun r _ => rfl, rfl⟩
theorem wR_t {D : va_G} {cl : List vw_C} {H : Heap} {g : Nat → Nat} {cI cT : ClassId} {a : RS} {t : Nat} (hP : va_P D cl (wR g cI cT a) H) (ht : t < 4) : va_P D cl (wT (g (3 + 4 * t)) (g (4 + 4 * t)) (g (5 + 4 * t)) (g (6 + 4 * t)) cI (tsel a t)) H := by
  rcases (show t = 0 ∨ t = 1 ∨ t = 2 ∨ t = 3 by omega) with h | h | h | h <;> subst h
  · exact hP.sub [3, 4, 5, 6] rfl
  · exact hP.sub [7, 8, 9, 10] rfl
  · exact hP.sub [11, 12, 13, 14] rfl
  · exact hP.sub [15, 16, 17, 18] rfl
theorem wR_d {A : Nat → Prop} {g : Nat → Nat} {cI cT : ClassId} {a : RS} {t : Nat} (hD : va_D A (wR g cI cT a)) (ht : t < 4) : va_D A (wT (g (3 + 4 * t)) (g (4 + 4 * t)) (g (5 + 4 * t)) (g (6 + 4 * t)) cI (tsel a t)) := by
  rcases (show t = 0 ∨ t = 1 ∨ t = 2 ∨ t = 3 by omega) with h | h | h | h <;> subst h
  · exact hD.sub [3, 4, 5, 6] (by decide) rfl
  · exact hD.sub [7, 8, 9, 10] (by decide) rfl
  · exact hD.sub [11, 12, 13, 14] (by decide) rfl
  · exact hD.sub [15, 16, 17, 18] (by decide) rfl
theorem zq_congr {D : va_G} {cl : List vw_C} {ws : va_W} {H : Heap} (hP : va_P D cl ws H) (i : Nat) {a : Nat} {cA : ClassId} {n : Nat} {f f' : Nat → Option Nat} (h : ws[i]? = some (a, .inl (cA, n, .inr (.inr (.inr (.inr f)))))) (e : ∀ j, j < n → f j = f' j) : va_P D cl (ws.set i (a, .inl (cA, n, .inr (.inr (.inr (.inr f')))))) H := by
  intro k q hk
  by_cases c : k = i
  · subst c
    have hl : k < ws.length := (List.getElem?_eq_some_iff.mp h).1
    rw [List.getElem?_set_self hl] at hk
    cases hk
    have h1 : H[a]? = some (vp_cell cA (n, .inr (.inr (.inr (.inr f))))) := hP k _ h
    show H[a]? = some (vp_cell cA (n, .inr (.inr (.inr (.inr f')))))
    rw [h1, vp_cell_q, vp_cell_q]
    have e2 : (Array.ofFn (n := n) fun j => va_rf (f j.val)) = Array.ofFn (n := n) fun j => va_rf (f' j.val) := by
      congr 1
      funext j
      rw [e j.val j.isLt]
    unfold arrV
    rw [e2]
  · rw [List.getElem?_set_ne (Ne.symm c)] at hk
    exact hP k q hk
