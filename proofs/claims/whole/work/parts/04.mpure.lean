-- PURE, of the reference: its flat rows, and what its loops make of them
abbrev MS : Type := (Nat → Int32) × (Nat → Int32) × (Nat → Int32) × (Nat → Nat) × (Nat → Nat) × Nat
abbrev mK (w : MS) : Nat → Int32 := w.1
abbrev mV (w : MS) : Nat → Int32 := w.2.1
abbrev mS (w : MS) : Nat → Int32 := w.2.2.1
abbrev mC (w : MS) : Nat → Nat := w.2.2.2.1
abbrev mR (w : MS) : Nat → Nat := w.2.2.2.2.1
abbrev mL (w : MS) : Nat := w.2.2.2.2.2
def vT (w : MS) (t : Nat) : TB := (mC w t, fun j => mK w (400 * t + j), fun j => mV w (400 * t + j), fun j => mS w (400 * t + j))
def view (w : MS) : RS := (vT w 0, vT w 1, vT w 2, vT w 3, mR w, mL w)
theorem view_t (w : MS) {t : Nat} (ht : t < 4) : tsel (view w) t = vT w t := by
  rcases (show t = 0 ∨ t = 1 ∨ t = 2 ∨ t = 3 by omega) with h | h | h | h <;> subst h <;> rfl
theorem vset {u w : MS} {t0 : Nat} {T' : TB} (h0 : t0 < 4) (h : ∀ t, t < 4 → t ≠ t0 → eqT (vT u t) (vT w t)) (h3 : eqT (vT u t0) T') (hr : ∀ r, r < 4 → mR u r = mR w r) (hl : mL u = mL w) : eqR (view u) (tset (view w) t0 T') := by
  refine ⟨fun t ht => ?_, fun r q => ?_, ?_⟩
  · by_cases c : t = t0
    · subst c; rw [tset_same _ _ h0, view_t u h0]; exact h3
    · rw [tset_ne _ _ h0 ht c, view_t u ht, view_t w ht]; exact h t ht c
  · rw [tset_rd]; exact hr r q
  · rw [tset_L]; exact hl
theorem vT_out {u w : MS} {t t0 : Nat} (ht4 : t < 4) (ht : t ≠ t0) (hc : mC u t = mC w t) (hle : mC w t ≤ 400) (hk : ∀ x, x < 1600 → (x < 400 * t0 ∨ 400 * t0 + 400 ≤ x) → mK u x = mK w x) (hv : ∀ x, x < 1600 → (x < 400 * t0 ∨ 400 * t0 + 400 ≤ x) → mV u x = mV w x) (hs : ∀ x, x < 1600 → (x < 400 * t0 ∨ 400 * t0 + 400 ≤ x) → mS u x = mS w x) : eqT (vT u t) (vT w t) := by
  have hj : ∀ j, j < mC u t → 400 * t + j < 1600 ∧ (400 * t + j < 400 * t0 ∨ 400 * t0 + 400 ≤ 400 * t + j) := by
    intro j hj
    rw [hc] at hj
    omega
  exact ⟨hc, fun j q => hk _ (hj j q).1 (hj j q).2, fun j q => hv _ (hj j q).1 (hj j q).2, fun j q => hs _ (hj j q).1 (hj j q).2⟩
-- put: from the last place down to the place
def shR (f f' : Nat → Int32) (c n : Nat) : Prop := (∀ j, j ≤ 1200 + c → f' j = f j) ∧ (∀ j, c < j → j ≤ n → f' (1200 + j) = f (1200 + (j - 1)))
theorem shR_0 {f : Nat → Int32} {n : Nat} : shR f f n n := ⟨fun _ _ => rfl, fun j h1 h2 => absurd h2 (by omega)⟩
theorem shR_s {f f' : Nat → Int32} {c n : Nat} (h : shR f f' (c + 1) n) : shR f (upd f' (1200 + c + 1) (f' (1200 + c))) c n := by
  refine ⟨fun j hj => ?_, fun j h1 h2 => ?_⟩
  · rw [pk_un (by omega)]; exact h.1 j (by omega)
  · by_cases e : j = c + 1
    · subst e
      rw [show 1200 + (c + 1) = 1200 + c + 1 by omega, pk_us, h.1 _ (by omega)]
      rfl
    · rw [pk_un (by omega)]; exact h.2 j (by omega) h2
theorem put_ag {f f' : Nat → Int32} {n q : Nat} {x : Int32} (h : shR f f' q n) : ag (n + 1) (fun j => upd f' (400 * 3 + q) x (400 * 3 + j)) (ins (fun j => f (400 * 3 + j)) q x) := by
  intro j hj
  show upd f' (400 * 3 + q) x (400 * 3 + j) = if j < q then f (400 * 3 + j) else if j = q then x else f (400 * 3 + (j - 1))
  by_cases c1 : j < q
  · rw [if_pos c1, pk_un (by omega)]; exact h.1 _ (by omega)
  · by_cases c2 : j = q
    · rw [if_neg c1, if_pos c2, c2, pk_us]
    · rw [if_neg c1, if_neg c2, pk_un (by omega)]
      exact h.2 j (by omega) (by omega)
theorem put_out {f f' : Nat → Int32} {n q : Nat} {x : Int32} (h : shR f f' q n) (hq : q ≤ n) (hn : n < 400) : ∀ y, y < 1600 → (y < 400 * 3 ∨ 400 * 3 + 400 ≤ y) → upd f' (400 * 3 + q) x y = f y := by
  intro y hb hy
  rw [pk_un (by omega)]
  exact h.1 y (by omega)
theorem putH_ag {f : Nat → Int32} {n q : Nat} {x : Int32} (h : f (400 * 3 + q) = x) : ag n (fun j => upd f (400 * 3 + q) x (400 * 3 + j)) (fun j => f (400 * 3 + j)) := by
  intro j hj
  show upd f (400 * 3 + q) x (400 * 3 + j) = f (400 * 3 + j)
  by_cases c : j = q
  · rw [c, pk_us, h]
  · rw [pk_un (by omega)]
theorem putU_ag {f : Nat → Int32} {n q : Nat} {x : Int32} : ag n (fun j => upd f (400 * 3 + q) x (400 * 3 + j)) (upd (fun j => f (400 * 3 + j)) q x) := by
  intro j hj
  show upd f (400 * 3 + q) x (400 * 3 + j) = if j = q then x else f (400 * 3 + j)
  by_cases c : j = q
  · rw [if_pos c, c, pk_us]
  · rw [if_neg c, pk_un (by omega)]
theorem putU_out {f : Nat → Int32} {q : Nat} {x : Int32} (hq : q < 400) : ∀ y, y < 1600 → (y < 400 * 3 ∨ 400 * 3 + 400 ≤ y) → upd f (400 * 3 + q) x y = f y := by
  intro y hb hy
  rw [pk_un (by omega)]
-- the whole of put, of remove, on the reference's rows
theorem put_viewN {w : MS} {k' v' s' : Nat → Int32} {k v z : Int32} (hle : ∀ t, t < 4 → mC w t ≤ 400) (hh : ¬ tHas (vT w 3) k) (hn : ¬ 400 ≤ mC w 3) (hk : shR (mK w) k' (tPl (vT w 3) k) (mC w 3)) (hv : shR (mV w) v' (tPl (vT w 3) k) (mC w 3)) (hs : shR (mS w) s' (tPl (vT w 3) k) (mC w 3)) :
    (tEnter (vT w 3) k v z).1 = 1 ∧ eqR (view (upd k' (400 * 3 + tPl (vT w 3) k) k, upd v' (400 * 3 + tPl (vT w 3) k) v, upd s' (400 * 3 + tPl (vT w 3) k) z, va_up (mC w) 3 (mC w 3 + 1), mR w, mL w)) (tset (view w) 3 (tEnter (vT w 3) k v z).2) := by
  have hq : tPl (vT w 3) k ≤ mC w 3 := pl_le _ _ _
  rw [tEnter_n v z hh hn]
  refine ⟨rfl, vset (by decide) (fun t ht hne => ?_) ?_ (fun _ _ => rfl) rfl⟩
  · exact vT_out ht hne (va_up_ne _ _ hne) (hle t ht) (put_out hk hq (by omega)) (put_out hv hq (by omega)) (put_out hs hq (by omega))
  · have e : (vT (upd k' (400 * 3 + tPl (vT w 3) k) k, upd v' (400 * 3 + tPl (vT w 3) k) v, upd s' (400 * 3 + tPl (vT w 3) k) z, va_up (mC w) 3 (mC w 3 + 1), mR w, mL w) 3).1 = mC w 3 + 1 := va_up_self (mC w) 3 (mC w 3 + 1)
    exact ⟨e, by rw [e]; exact put_ag hk, by rw [e]; exact put_ag hv, by rw [e]; exact put_ag hs⟩
theorem put_viewH {w : MS} {k v z : Int32} (hle : ∀ t, t < 4 → mC w t ≤ 400) (hh : tHas (vT w 3) k) :
    (tEnter (vT w 3) k v z).1 = 0 ∧ eqR (view (upd (mK w) (400 * 3 + tPl (vT w 3) k) k, upd (mV w) (400 * 3 + tPl (vT w 3) k) v, upd (mS w) (400 * 3 + tPl (vT w 3) k) z, mC w, mR w, mL w)) (tset (view w) 3 (tEnter (vT w 3) k v z).2) := by
  have hq : tPl (vT w 3) k < mC w 3 := hh.1
  have hl : mC w 3 ≤ 400 := hle 3 (by decide)
  rw [tEnter_h v z hh]
  refine ⟨rfl, vset (by decide) (fun t ht hne => ?_) ?_ (fun _ _ => rfl) rfl⟩
  · exact vT_out ht hne rfl (hle t ht) (putU_out (by omega)) (putU_out (by omega)) (putU_out (by omega))
  · exact ⟨rfl, putH_ag hh.2, putU_ag, putU_ag⟩
-- remove: from the place up
def slR (f f' : Nat → Int32) (q c : Nat) : Prop := (∀ j, j < 1200 + q → f' j = f j) ∧ (∀ j, q ≤ j → j < c → f' (1200 + j) = f (1200 + j + 1)) ∧ (∀ j, 1200 + c ≤ j → f' j = f j)
theorem slR_0 {f : Nat → Int32} {q : Nat} : slR f f q q := ⟨fun _ _ => rfl, fun j h1 h2 => absurd h2 (by omega), fun _ _ => rfl⟩
theorem slR_s {f f' : Nat → Int32} {q c : Nat} (h : slR f f' q c) (hq : q ≤ c) : slR f (upd f' (1200 + c) (f' (1200 + c + 1))) q (c + 1) := by
  refine ⟨fun j hj => ?_, fun j h1 h2 => ?_, fun j hj => ?_⟩
  · rw [pk_un (by omega)]; exact h.1 j hj
  · by_cases e : j = c
    · rw [e, pk_us]; exact h.2.2 _ (by omega)
    · rw [pk_un (by omega)]; exact h.2.1 j h1 (by omega)
  · rw [pk_un (by omega)]; exact h.2.2 j (by omega)
theorem rem_ag {f f' : Nat → Int32} {q n : Nat} (h : slR f f' q (n - 1)) : ag (n - 1) (fun j => f' (400 * 3 + j)) (del (fun j => f (400 * 3 + j)) q) := by
  intro j hj
  show f' (400 * 3 + j) = if j < q then f (400 * 3 + j) else f (400 * 3 + (j + 1))
  by_cases c1 : j < q
  · rw [if_pos c1]; exact h.1 _ (by omega)
  · rw [if_neg c1]; exact h.2.1 j (by omega) hj
theorem rem_out {f f' : Nat → Int32} {q c : Nat} (h : slR f f' q c) (hc : c ≤ 400) : ∀ y, y < 1600 → (y < 400 * 3 ∨ 400 * 3 + 400 ≤ y) → f' y = f y := by
  intro y _ hy
  rcases hy with hy | hy
  · exact h.1 y (by omega)
  · exact h.2.2 y (by omega)
theorem rem_view {w : MS} {k' v' s' : Nat → Int32} {k : Int32} (hle : ∀ t, t < 4 → mC w t ≤ 400) (hh : tHas (vT w 3) k) (hk : slR (mK w) k' (tPl (vT w 3) k) (mC w 3 - 1)) (hv : slR (mV w) v' (tPl (vT w 3) k) (mC w 3 - 1)) (hs : slR (mS w) s' (tPl (vT w 3) k) (mC w 3 - 1)) :
    eqR (view (k', v', s', va_up (mC w) 3 (mC w 3 - 1), mR w, mL w)) (tset (view w) 3 (tDrop (vT w 3) k)) := by
  have hl : mC w 3 ≤ 400 := hle 3 (by decide)
  rw [tDrop_h hh]
  refine vset (by decide) (fun t ht hne => ?_) ?_ (fun _ _ => rfl) rfl
  · exact vT_out ht hne (va_up_ne _ _ hne) (hle t ht) (rem_out hk (by omega)) (rem_out hv (by omega)) (rem_out hs (by omega))
  · have e : (vT (k', v', s', va_up (mC w) 3 (mC w 3 - 1), mR w, mL w) 3).1 = mC w 3 - 1 := va_up_self (mC w) 3 (mC w 3 - 1)
    exact ⟨e, by rw [e]; exact rem_ag hk, by rw [e]; exact rem_ag hv, by rw [e]; exact rem_ag hs⟩
-- copy
def cpR (f f' : Nat → Int32) (fr to c : Nat) : Prop := (∀ j, j < c → f' (400 * to + j) = f (400 * fr + j)) ∧ (∀ x, (x < 400 * to ∨ 400 * to + 400 ≤ x) → f' x = f x)
theorem cpR_0 {f : Nat → Int32} {fr to : Nat} : cpR f f fr to 0 := ⟨fun j h => absurd h (Nat.not_lt_zero _), fun _ _ => rfl⟩
theorem cpR_s {f f' : Nat → Int32} {fr to c : Nat} (h : cpR f f' fr to c) (hne : fr ≠ to) (hc : c < 400) : cpR f (upd f' (400 * to + c) (f' (400 * fr + c))) fr to (c + 1) := by
  refine ⟨fun j hj => ?_, fun x hx => ?_⟩
  · by_cases e : j = c
    · rw [e, pk_us]; exact h.2 _ (by omega)
    · rw [pk_un (by omega)]; exact h.1 j (by omega)
  · rw [pk_un (by omega)]; exact h.2 x hx
theorem cp_view {w : MS} {k' v' s' : Nat → Int32} {fr to : Nat} (hto : to < 4) (hfr : fr < 4) (hle : ∀ t, t < 4 → mC w t ≤ 400) (hk : cpR (mK w) k' fr to (mC w fr)) (hv : cpR (mV w) v' fr to (mC w fr)) (hs : cpR (mS w) s' fr to (mC w fr)) : eqR (view (k', v', s', va_up (mC w) to (mC w fr), mR w, mL w)) (tset (view w) to (tsel (view w) fr)) := by
  rw [view_t w hfr]
  refine vset hto (fun t ht hne => ?_) ?_ (fun _ _ => rfl) rfl
  · exact vT_out ht hne (va_up_ne _ _ hne) (hle t ht) (fun x _ h => hk.2 x h) (fun x _ h => hv.2 x h) (fun x _ h => hs.2 x h)
  · have e : va_up (mC w) to (mC w fr) to = mC w fr := va_up_self _ _ _
    refine ⟨e, fun j hj => ?_, fun j hj => ?_, fun j hj => ?_⟩
    · exact hk.1 j (by rw [← e]; exact hj)
    · exact hv.1 j (by rw [← e]; exact hj)
    · exact hs.1 j (by rw [← e]; exact hj)
-- numbers of the reference's table
theorem mT_s (w : MS) (r : Int32) (h : aSt (view w) r = 0) : tsel (view w) (aTb (view w) r) = vT w (aTb (view w) r) := view_t w (aTb_lt _ _)
def mTb (a : RS) (r : Int32) : Int32 := if aSt a r = 0 then nI (aTb a r) else aSt a r
theorem mTb_n {a : RS} {r v : Int32} (hv : ¬ v = 0) (h : aSt a r = v) : mTb a r = v := by
  unfold mTb
  rw [h, if_neg hv]
theorem mTb_z {a : RS} {r : Int32} {t : Nat} (h : aSt a r = 0) (h2 : aTb a r = t) : mTb a r = nI t := by
  unfold mTb
  rw [if_pos h, h2]
theorem mr_le {R L : Nat} (hL : L < 2 ^ 30) (hR : R < 2 ^ 30) : nI L - nI 2 ≤ nI R ↔ ¬ R + 3 ≤ L := by
  rw [Int32.le_iff_toInt_le, pk_sub_toInt hL (by decide), nI_toInt (by omega)]
  omega
theorem mr_lt {R L : Nat} (h : ¬ nI L - nI 2 ≤ nI R) (hL : L < 2 ^ 30) (hR : R < 2 ^ 30) : R + 3 ≤ L := by
  rw [mr_le hL hR] at h
  omega
theorem mr_ge {R L : Nat} (h : nI L - nI 2 ≤ nI R) (hL : L < 2 ^ 30) (hR : R < 2 ^ 30) : ¬ R + 3 ≤ L := (mr_le hL hR).mp h
