-- PURE: the table, its steps, the state, the law's eleven calls as functions
theorem i_tr {a b c : Int32} (h : a < b) (g : b < c) : a < c := by
  have h5 := Int32.lt_iff_toInt_lt.mp h
  have h6 := Int32.lt_iff_toInt_lt.mp g
  exact Int32.lt_iff_toInt_lt.mpr (by omega)
theorem i_gt {a b : Int32} (h : ¬ b < a) (g : b ≠ a) : a < b := by
  have h1 : ¬ b.toInt < a.toInt := fun q => h (Int32.lt_iff_toInt_lt.mpr q)
  have h2 : b.toInt ≠ a.toInt := fun q => g (Int32.toInt_inj.mp q)
  exact Int32.lt_iff_toInt_lt.mpr (by omega)
theorem i_ir {a : Int32} : ¬ a < a := fun h => by
  have h5 := Int32.lt_iff_toInt_lt.mp h
  omega
theorem i_as {a b : Int32} (h : a < b) : ¬ b < a := fun g => i_ir (i_tr h g)
theorem i_le {a b : Int32} (h : ¬ a < b) : b ≤ a := by
  have h1 : ¬ a.toInt < b.toInt := fun q => h (Int32.lt_iff_toInt_lt.mpr q)
  exact Int32.le_iff_toInt_le.mpr (by omega)
theorem i_nl {a b : Int32} (h : b ≤ a) : ¬ a < b := fun g => by
  have h5 := Int32.lt_iff_toInt_lt.mp g
  have h6 := Int32.le_iff_toInt_le.mp h
  omega
theorem i_lt {a b : Int32} (h : ¬ b ≤ a) : a < b := by
  have h1 : ¬ b.toInt ≤ a.toInt := fun q => h (Int32.le_iff_toInt_le.mpr q)
  exact Int32.lt_iff_toInt_lt.mpr (by omega)
def bz (P : Prop) [Decidable P] : Int32 := if P then 1 else 0
theorem bz_t {P : Prop} [Decidable P] (h : P) : bz P = 1 := if_pos h
theorem bz_f {P : Prop} [Decidable P] (h : ¬ P) : bz P = 0 := if_neg h
def ag (n : Nat) (f g : Nat → Int32) : Prop := ∀ j, j < n → f j = g j
theorem ag_rf {n : Nat} {f : Nat → Int32} : ag n f f := fun _ _ => rfl
theorem ag_sy {n : Nat} {f g : Nat → Int32} (h : ag n f g) : ag n g f := fun j hj => (h j hj).symm
theorem ag_tr {n : Nat} {f g k : Nat → Int32} (h : ag n f g) (h2 : ag n g k) : ag n f k := fun j hj => (h j hj).trans (h2 j hj)
def sr (n : Nat) (K : Nat → Int32) : Prop := ∀ i j, i < j → j < n → K i < K j
def plF (K : Nat → Int32) (k : Int32) : Nat → Nat → Nat
  | 0, p => p
  | f + 1, p => if K p < k then plF K k f (p + 1) else p
def pl (n : Nat) (K : Nat → Int32) (k : Int32) : Nat := plF K k n 0
def isPl (n : Nat) (K : Nat → Int32) (k : Int32) (p : Nat) : Prop := p ≤ n ∧ (∀ j, j < p → K j < k) ∧ (p < n → ¬ K p < k)
theorem plF_ok (K : Nat → Int32) (k : Int32) : ∀ (f p : Nat), (∀ j, j < p → K j < k) → isPl (p + f) K k (plF K k f p)
  | 0, p, h => ⟨Nat.le_refl _, h, fun q => absurd q (Nat.lt_irrefl _)⟩
  | f + 1, p, h => by
    unfold plF
    by_cases c : K p < k
    · rw [if_pos c]
      have h9 := plF_ok K k f (p + 1) (fun j hj => by
        rcases Nat.lt_or_ge j p with q | q
        · exact h j q
        · have e : j = p := by omega
          subst e; exact c)
      rw [show p + (f + 1) = p + 1 + f by omega]
      exact h9
    · rw [if_neg c]
      exact ⟨by omega, h, fun _ => c⟩
theorem pl_ok (n : Nat) (K : Nat → Int32) (k : Int32) : isPl n K k (pl n K k) := by
  have h := plF_ok K k n 0 (fun j h => absurd h (Nat.not_lt_zero _))
  rw [Nat.zero_add] at h
  exact h
theorem isPl_u {n : Nat} {K : Nat → Int32} {k : Int32} {p q : Nat} (h1 : isPl n K k p) (h2 : isPl n K k q) : p = q := by
  rcases Nat.lt_trichotomy p q with h | h | h
  · exact absurd (h2.2.1 p h) (h1.2.2 (Nat.lt_of_lt_of_le h h2.1))
  · exact h
  · exact absurd (h1.2.1 q h) (h2.2.2 (Nat.lt_of_lt_of_le h h1.1))
theorem isPl_pl {n : Nat} {K : Nat → Int32} {k : Int32} {p : Nat} (h1 : isPl n K k p) : p = pl n K k := isPl_u h1 (pl_ok n K k)
theorem isPl_ag {n : Nat} {K L : Nat → Int32} {k : Int32} {p : Nat} (h : ag n K L) (hp : isPl n K k p) : isPl n L k p :=
  ⟨hp.1, fun j hj => by rw [← h j (Nat.lt_of_lt_of_le hj hp.1)]; exact hp.2.1 j hj, fun hl => by rw [← h p hl]; exact hp.2.2 hl⟩
theorem pl_ag {n : Nat} {K L : Nat → Int32} {k : Int32} (h : ag n K L) : pl n K k = pl n L k := isPl_pl (isPl_ag h (pl_ok n K k))
theorem pl_le (n : Nat) (K : Nat → Int32) (k : Int32) : pl n K k ≤ n := (pl_ok n K k).1
-- putting in and taking out
def ins (f : Nat → Int32) (p : Nat) (x : Int32) : Nat → Int32 := fun j => if j < p then f j else if j = p then x else f (j - 1)
def del (f : Nat → Int32) (p : Nat) : Nat → Int32 := fun j => if j < p then f j else f (j + 1)
theorem ins_ag {n p : Nat} {f g : Nat → Int32} {x : Int32} (h : ag n f g) (hp : p ≤ n) : ag (n + 1) (ins f p x) (ins g p x) := by
  intro j hj
  unfold ins
  by_cases c1 : j < p
  · rw [if_pos c1, if_pos c1]; exact h j (by omega)
  · by_cases c2 : j = p
    · rw [if_neg c1, if_neg c1, if_pos c2, if_pos c2]
    · rw [if_neg c1, if_neg c1, if_neg c2, if_neg c2]; exact h (j - 1) (by omega)
theorem del_ag {n p : Nat} {f g : Nat → Int32} (h : ag n f g) : ag (n - 1) (del f p) (del g p) := by
  intro j hj
  unfold del
  by_cases c1 : j < p
  · rw [if_pos c1, if_pos c1]; exact h j (by omega)
  · rw [if_neg c1, if_neg c1]; exact h (j + 1) (by omega)
theorem upd_ag {n p : Nat} {f g : Nat → Int32} {x : Int32} (h : ag n f g) : ag n (upd f p x) (upd g p x) := by
  intro j hj
  unfold upd
  by_cases c : j = p
  · rw [if_pos c, if_pos c]
  · rw [if_neg c, if_neg c]; exact h j hj
theorem ins_sr {n p : Nat} {K : Nat → Int32} {k : Int32} (hs : sr n K) (hp : isPl n K k p) (hh : ¬ (p < n ∧ K p = k)) : sr (n + 1) (ins K p k) := by
  intro i j hij hj
  have e1 : ∀ a, a < p → K a < k := hp.2.1
  have e2 : ∀ b, p ≤ b → b < n → k < K b := by
    intro b hb hbn
    have h1 : ¬ K p < k := hp.2.2 (by omega)
    have h2 : K p ≠ k := fun q => hh ⟨by omega, q⟩
    have h3 : k < K p := i_gt h1 h2
    rcases Nat.eq_or_lt_of_le hb with q | q
    · rw [← q]; exact h3
    · exact i_tr h3 (hs p b q hbn)
  unfold ins
  by_cases c1 : j < p
  · rw [if_pos c1, if_pos (show i < p by omega)]
    exact hs i j hij (by have := hp.1; omega)
  · by_cases c2 : j = p
    · rw [if_neg c1, if_pos c2, if_pos (show i < p by omega)]
      exact e1 i (by omega)
    · rw [if_neg c1, if_neg c2]
      by_cases c3 : i < p
      · rw [if_pos c3]; exact hs i (j - 1) (by omega) (by omega)
      · by_cases c4 : i = p
        · rw [if_neg c3, if_pos c4]; exact e2 (j - 1) (by omega) (by omega)
        · rw [if_neg c3, if_neg c4]; exact hs (i - 1) (j - 1) (by omega) (by omega)
theorem del_sr {n p : Nat} {K : Nat → Int32} (hs : sr n K) : sr (n - 1) (del K p) := by
  intro i j hij hj
  unfold del
  by_cases c1 : j < p
  · rw [if_pos c1, if_pos (show i < p by omega)]; exact hs i j hij (by omega)
  · rw [if_neg c1]
    by_cases c3 : i < p
    · rw [if_pos c3]; exact hs i (j + 1) (by omega) (by omega)
    · rw [if_neg c3]; exact hs (i + 1) (j + 1) (by omega) (by omega)
-- a table: how many, keys, values, sizes
abbrev TB : Type := Nat × (Nat → Int32) × (Nat → Int32) × (Nat → Int32)
abbrev tPl (T : TB) (k : Int32) : Nat := pl T.1 T.2.1 k
abbrev tHas (T : TB) (k : Int32) : Prop := pl T.1 T.2.1 k < T.1 ∧ T.2.1 (pl T.1 T.2.1 k) = k
def eqT (X Y : TB) : Prop := X.1 = Y.1 ∧ ag X.1 X.2.1 Y.2.1 ∧ ag X.1 X.2.2.1 Y.2.2.1 ∧ ag X.1 X.2.2.2 Y.2.2.2
def okT (T : TB) : Prop := T.1 ≤ 400 ∧ sr T.1 T.2.1
theorem eqT_rf {X : TB} : eqT X X := ⟨rfl, ag_rf, ag_rf, ag_rf⟩
theorem eqT_sy {X Y : TB} (h : eqT X Y) : eqT Y X := by
  obtain ⟨h1, h2, h3, h4⟩ := h
  exact ⟨h1.symm, by rw [← h1]; exact ag_sy h2, by rw [← h1]; exact ag_sy h3, by rw [← h1]; exact ag_sy h4⟩
theorem eqT_tr {X Y Z : TB} (h : eqT X Y) (g : eqT Y Z) : eqT X Z := by
  obtain ⟨h1, h2, h3, h4⟩ := h
  obtain ⟨g1, g2, g3, g4⟩ := g
  rw [← h1] at g2 g3 g4
  exact ⟨h1.trans g1, ag_tr h2 g2, ag_tr h3 g3, ag_tr h4 g4⟩
theorem okT_eq {X Y : TB} (h : eqT X Y) (g : okT X) : okT Y := by
  obtain ⟨h1, h2, -, -⟩ := h
  refine ⟨by rw [← h1]; exact g.1, fun i j hij hj => ?_⟩
  rw [← h1] at hj
  rw [← h2 i (by omega), ← h2 j hj]
  exact g.2 i j hij hj
theorem eqT_pl {X Y : TB} (h : eqT X Y) (k : Int32) : tPl X k = tPl Y k := by
  obtain ⟨h1, h2, -, -⟩ := h
  show pl X.1 X.2.1 k = pl Y.1 Y.2.1 k
  rw [← h1]
  exact pl_ag h2
theorem eqT_has1 {X Y : TB} (h : eqT X Y) {k : Int32} (g : tHas X k) : tHas Y k := by
  have e : pl X.1 X.2.1 k = pl Y.1 Y.2.1 k := eqT_pl h k
  obtain ⟨h1, h2, -, -⟩ := h
  obtain ⟨g1, g2⟩ := g
  refine ⟨by rw [← e, ← h1]; exact g1, ?_⟩
  rw [← e, ← h2 _ g1]
  exact g2
theorem eqT_has {X Y : TB} (h : eqT X Y) (k : Int32) : tHas X k ↔ tHas Y k := ⟨eqT_has1 h, eqT_has1 (eqT_sy h)⟩
def tEnter (T : TB) (k v z : Int32) : Int32 × TB :=
  if tHas T k then (0, T.1, T.2.1, upd T.2.2.1 (tPl T k) v, upd T.2.2.2 (tPl T k) z)
  else if 400 ≤ T.1 then (-3, T)
  else (1, T.1 + 1, ins T.2.1 (tPl T k) k, ins T.2.2.1 (tPl T k) v, ins T.2.2.2 (tPl T k) z)
theorem tEnter_h {T : TB} {k : Int32} (v z : Int32) (h : tHas T k) : tEnter T k v z = (0, T.1, T.2.1, upd T.2.2.1 (tPl T k) v, upd T.2.2.2 (tPl T k) z) := if_pos h
theorem tEnter_f {T : TB} {k : Int32} (v z : Int32) (h : ¬ tHas T k) (g : 400 ≤ T.1) : tEnter T k v z = (-3, T) := by
  unfold tEnter; rw [if_neg h, if_pos g]
theorem tEnter_n {T : TB} {k : Int32} (v z : Int32) (h : ¬ tHas T k) (g : ¬ 400 ≤ T.1) : tEnter T k v z = (1, T.1 + 1, ins T.2.1 (tPl T k) k, ins T.2.2.1 (tPl T k) v, ins T.2.2.2 (tPl T k) z) := by
  unfold tEnter; rw [if_neg h, if_neg g]
theorem tEnter_eq {X Y : TB} (h : eqT X Y) (k v z : Int32) : (tEnter X k v z).1 = (tEnter Y k v z).1 ∧ eqT (tEnter X k v z).2 (tEnter Y k v z).2 := by
  have e := eqT_pl h k
  have hh := eqT_has h k
  have hle : tPl X k ≤ X.1 := pl_le _ _ _
  by_cases c : tHas X k
  · rw [tEnter_h v z c, tEnter_h v z (hh.mp c), ← e]
    obtain ⟨h1, h2, h3, h4⟩ := h
    exact ⟨rfl, h1, h2, upd_ag h3, upd_ag h4⟩
  · have c' : ¬ tHas Y k := fun q => c (hh.mpr q)
    by_cases d : 400 ≤ X.1
    · rw [tEnter_f v z c d, tEnter_f v z c' (by rw [← h.1]; exact d)]
      exact ⟨rfl, h⟩
    · rw [tEnter_n v z c d, tEnter_n v z c' (by rw [← h.1]; exact d), ← e]
      obtain ⟨h1, h2, h3, h4⟩ := h
      exact ⟨rfl, by show X.1 + 1 = Y.1 + 1; rw [h1], ins_ag h2 hle, ins_ag h3 hle, ins_ag h4 hle⟩
theorem tEnter_ok {T : TB} (h : okT T) (k v z : Int32) : okT (tEnter T k v z).2 := by
  by_cases c : tHas T k
  · rw [tEnter_h v z c]; exact h
  · by_cases d : 400 ≤ T.1
    · rw [tEnter_f v z c d]; exact h
    · rw [tEnter_n v z c d]
      exact ⟨by show T.1 + 1 ≤ 400; omega, ins_sr h.2 (pl_ok _ _ _) c⟩
def tDrop (T : TB) (k : Int32) : TB := if tHas T k then (T.1 - 1, del T.2.1 (tPl T k), del T.2.2.1 (tPl T k), del T.2.2.2 (tPl T k)) else T
theorem tDrop_h {T : TB} {k : Int32} (h : tHas T k) : tDrop T k = (T.1 - 1, del T.2.1 (tPl T k), del T.2.2.1 (tPl T k), del T.2.2.2 (tPl T k)) := if_pos h
theorem tDrop_n {T : TB} {k : Int32} (h : ¬ tHas T k) : tDrop T k = T := if_neg h
theorem tDrop_eq {X Y : TB} (h : eqT X Y) (k : Int32) : eqT (tDrop X k) (tDrop Y k) := by
  have e := eqT_pl h k
  have hh := eqT_has h k
  by_cases c : tHas X k
  · rw [tDrop_h c, tDrop_h (hh.mp c), ← e]
    obtain ⟨h1, h2, h3, h4⟩ := h
    exact ⟨by show X.1 - 1 = Y.1 - 1; rw [h1], del_ag h2, del_ag h3, del_ag h4⟩
  · rw [tDrop_n c, tDrop_n (fun q => c (hh.mpr q))]; exact h
theorem tDrop_ok {T : TB} (h : okT T) (k : Int32) : okT (tDrop T k) := by
  by_cases c : tHas T k
  · rw [tDrop_h c]; exact ⟨by show T.1 - 1 ≤ 400; have := h.1; omega, del_sr h.2⟩
  · rw [tDrop_n c]; exact h
def dgF (K V S : Nat → Int32) : Nat → Int32
  | 0 => nI 0
  | i + 1 => (dgF K V S i * nI 31 + K i) * nI 31 + V i + S i
def tDg (T : TB) : Int32 := dgF T.2.1 T.2.2.1 T.2.2.2 T.1
theorem dgF_ag {K V S K' V' S' : Nat → Int32} : ∀ n, ag n K K' → ag n V V' → ag n S S' → dgF K V S n = dgF K' V' S' n
  | 0, _, _, _ => rfl
  | n + 1, h1, h2, h3 => by
    show (dgF K V S n * nI 31 + K n) * nI 31 + V n + S n = (dgF K' V' S' n * nI 31 + K' n) * nI 31 + V' n + S' n
    rw [dgF_ag n (fun j hj => h1 j (by omega)) (fun j hj => h2 j (by omega)) (fun j hj => h3 j (by omega)), h1 n (by omega), h2 n (by omega), h3 n (by omega)]
theorem tDg_eq {X Y : TB} (h : eqT X Y) : tDg X = tDg Y := by
  obtain ⟨h1, h2, h3, h4⟩ := h
  unfold tDg
  rw [← h1]
  exact dgF_ag _ h2 h3 h4
-- what System.arraycopy and the writes make of a row
theorem cpy_up {n p : Nat} {f : Nat → Int32} {x : Int32} (hp : p ≤ n) : ag (n + 1) (upd (va_cpy f f p (p + 1) (n - p)) p x) (ins f p x) := by
  intro j hj
  unfold upd ins va_cpy
  by_cases c1 : j = p
  · rw [if_pos c1, if_neg (show ¬ j < p by omega), if_pos c1]
  · rw [if_neg c1]
    by_cases c2 : j < p
    · rw [if_neg (by omega), if_pos c2]
    · rw [if_pos (by omega), if_neg c2, if_neg c1]
      congr 1
      omega
theorem cpy_dn {n p : Nat} {f : Nat → Int32} (hp : p < n) : ag (n - 1) (va_cpy f f (p + 1) p (n - (p + 1))) (del f p) := by
  intro j hj
  unfold del va_cpy
  by_cases c2 : j < p
  · rw [if_neg (by omega), if_pos c2]
  · rw [if_pos (by omega), if_neg c2]
    congr 1
    omega
theorem cpy_all {n : Nat} {f g : Nat → Int32} : ag n (va_cpy f g 0 0 n) f := by
  intro j hj
  unfold va_cpy
  rw [if_pos (by omega)]
  congr 1
  omega
-- the state: three kept tables, the worked one, the readers' revisions, the latest
abbrev RS : Type := TB × TB × TB × TB × (Nat → Nat) × Nat
def tsel (a : RS) (t : Nat) : TB := match t with
  | 0 => a.1
  | 1 => a.2.1
  | 2 => a.2.2.1
  | _ => a.2.2.2.1
def tset (a : RS) (t : Nat) (T : TB) : RS := match t with
  | 0 => (T, a.2)
  | 1 => (a.1, T, a.2.2)
  | 2 => (a.1, a.2.1, T, a.2.2.2)
  | _ => (a.1, a.2.1, a.2.2.1, T, a.2.2.2.2)
abbrev rW (a : RS) : TB := a.2.2.2.1
abbrev rRd (a : RS) : Nat → Nat := a.2.2.2.2.1
abbrev rL (a : RS) : Nat := a.2.2.2.2.2
def eqR (a b : RS) : Prop := (∀ t, t < 4 → eqT (tsel a t) (tsel b t)) ∧ (∀ r, r < 4 → rRd a r = rRd b r) ∧ rL a = rL b
def okR (L : Nat) (a : RS) : Prop := (∀ t, t < 4 → okT (tsel a t)) ∧ (∀ r, r < 4 → rRd a r ≤ rL a) ∧ rL a ≤ L
theorem okR_up {L M : Nat} {a : RS} (h : okR L a) (g : L ≤ M) : okR M a := ⟨h.1, h.2.1, Nat.le_trans h.2.2 g⟩
theorem eqR_rf {a : RS} : eqR a a := ⟨fun _ _ => eqT_rf, fun _ _ => rfl, rfl⟩
theorem eqR_sy {a b : RS} (h : eqR a b) : eqR b a := ⟨fun t q => eqT_sy (h.1 t q), fun r q => (h.2.1 r q).symm, h.2.2.symm⟩
theorem eqR_tr {a b c : RS} (h : eqR a b) (g : eqR b c) : eqR a c := ⟨fun t q => eqT_tr (h.1 t q) (g.1 t q), fun r q => (h.2.1 r q).trans (g.2.1 r q), h.2.2.trans g.2.2⟩
theorem okR_eq {L : Nat} {a b : RS} (h : eqR a b) (g : okR L a) : okR L b := by
  refine ⟨fun t q => okT_eq (h.1 t q) (g.1 t q), fun r q => ?_, ?_⟩
  · rw [← h.2.1 r q, ← h.2.2]; exact g.2.1 r q
  · rw [← h.2.2]; exact g.2.2
theorem tset_same (a : RS) {t : Nat} (T : TB) (ht : t < 4) : tsel (tset a t T) t = T := by
  rcases (show t = 0 ∨ t = 1 ∨ t = 2 ∨ t = 3 by omega) with h | h | h | h <;> subst h <;> rfl
theorem tset_ne (a : RS) {t u : Nat} (T : TB) (ht : t < 4) (hu : u < 4) (h : u ≠ t) : tsel (tset a t T) u = tsel a u := by
  rcases (show t = 0 ∨ t = 1 ∨ t = 2 ∨ t = 3 by omega) with h1 | h1 | h1 | h1 <;> subst h1 <;>
    rcases (show u = 0 ∨ u = 1 ∨ u = 2 ∨ u = 3 by omega) with h2 | h2 | h2 | h2 <;> subst h2 <;> first | rfl | exact absurd rfl h
theorem tset_rd (a : RS) (t : Nat) (T : TB) : rRd (tset a t T) = rRd a := by
  unfold tset; split <;> rfl
theorem tset_L (a : RS) (t : Nat) (T : TB) : rL (tset a t T) = rL a := by
  unfold tset; split <;> rfl
theorem tset_eq {a b : RS} {X Y : TB} {t : Nat} (ht : t < 4) (h : eqR a b) (g : eqT X Y) : eqR (tset a t X) (tset b t Y) := by
  refine ⟨fun u hu => ?_, fun r hr => ?_, ?_⟩
  · by_cases c : u = t
    · subst c; rw [tset_same a X ht, tset_same b Y ht]; exact g
    · rw [tset_ne a X ht hu c, tset_ne b Y ht hu c]; exact h.1 u hu
  · rw [tset_rd, tset_rd]; exact h.2.1 r hr
  · rw [tset_L, tset_L]; exact h.2.2
theorem tset_ok {L : Nat} {a : RS} {X : TB} {t : Nat} (ht : t < 4) (h : okR L a) (g : okT X) : okR L (tset a t X) := by
  refine ⟨fun u hu => ?_, fun r hr => ?_, ?_⟩
  · by_cases c : u = t
    · subst c; rw [tset_same a X ht]; exact g
    · rw [tset_ne a X ht hu c]; exact h.1 u hu
  · rw [tset_rd, tset_L]; exact h.2.1 r hr
  · rw [tset_L]; exact h.2.2
-- the eleven calls
def aPut (a : RS) (k v z : Int32) : Int32 × RS := if z < 0 ∨ 300 < z then (-1, a) else ((tEnter (tsel a 3) k v z).1, tset a 3 (tEnter (tsel a 3) k v z).2)
def zsz (v : Int32) (i : Nat) : Int32 := if i % 2 = 0 then 0 else (v + nI (7 * i)) &&& nI 127
def someF (T : TB) (fr st v : Int32) : Nat → Nat × TB
  | 0 => (0, T)
  | i + 1 => (if (tEnter (someF T fr st v i).2 (fr + nI i * st) (v + nI i) (zsz v i)).1 = 1 then (someF T fr st v i).1 + 1 else (someF T fr st v i).1, (tEnter (someF T fr st v i).2 (fr + nI i * st) (v + nI i) (zsz v i)).2)
def aSome (a : RS) (fr st many v : Int32) : Int32 × RS := if many < 1 ∨ 60 < many then (-1, a) else (nI (someF (tsel a 3) fr st v many.toNatClampNeg).1, tset a 3 (someF (tsel a 3) fr st v many.toNatClampNeg).2)
def aRemove (a : RS) (k : Int32) : Int32 × RS := if tHas (tsel a 3) k then (nI ((tsel a 3).1 - 1), tset a 3 (tDrop (tsel a 3) k)) else (-2, a)
def rUp (a : RS) : RS := (a.1, a.2.1, a.2.2.1, a.2.2.2.1, a.2.2.2.2.1, a.2.2.2.2.2 + 1)
def rRs (a : RS) (f : Nat → Nat) : RS := (a.1, a.2.1, a.2.2.1, a.2.2.2.1, f, a.2.2.2.2.2)
def aCommit (a : RS) (cut : Int32) : Int32 × RS := if cut < 0 then (nI (rL a + 1), tset (rUp a) ((rL a + 1) % 3) (tsel a 3)) else (-5, tset a 3 (tsel a (rL a % 3)))
def aForget (a : RS) : Int32 × RS := (nI (tsel a (rL a % 3)).1, tset a 3 (tsel a (rL a % 3)))
def aOpen (a : RS) (r : Int32) : Int32 × RS := if r < 0 ∨ 3 < r then (-1, a) else (nI (rL a), rRs a (va_up (rRd a) r.toNatClampNeg (rL a)))
def aSt (a : RS) (r : Int32) : Int32 := if r < -1 ∨ 3 < r then -1 else if 0 ≤ r ∧ rRd a r.toNatClampNeg + 3 ≤ rL a then -4 else 0
def aTb (a : RS) (r : Int32) : Nat := if r < 0 then 3 else rRd a r.toNatClampNeg % 3
def aGet (a : RS) (r k : Int32) : Int64 := if aSt a r = 0 then (if tHas (tsel a (aTb a r)) k then ((tsel a (aTb a r)).2.2.1 (tPl (tsel a (aTb a r)) k)).toInt64 else 1099511627774) else 1099511627776 + (aSt a r).toInt64
def tAb (T : TB) (k : Int32) : Nat := if tHas T k then tPl T k + 1 else tPl T k
def aNext (a : RS) (r k : Int32) : Int64 := if aSt a r = 0 then (if tAb (tsel a (aTb a r)) k < (tsel a (aTb a r)).1 then ((tsel a (aTb a r)).2.1 (tAb (tsel a (aTb a r)) k)).toInt64 else 1099511627774) else 1099511627776 + (aSt a r).toInt64
def aSize (a : RS) (r k : Int32) : Int32 := if aSt a r = 0 then (if tHas (tsel a (aTb a r)) k then (tsel a (aTb a r)).2.2.2 (tPl (tsel a (aTb a r)) k) else -2) else aSt a r
def aCount (a : RS) (r : Int32) : Int32 := if aSt a r = 0 then nI (tsel a (aTb a r)).1 else aSt a r
def aDigest (a : RS) (r : Int32) : Int32 := if aSt a r = 0 then tDg (tsel a (aTb a r)) else aSt a r
-- numbers of a reader
theorem r_in {r : Int32} (h1 : ¬ r < 0) (h2 : ¬ 3 < r) : ∃ j : Nat, j < 4 ∧ r = nI j ∧ r.toNatClampNeg = j := by
  obtain ⟨j, hj, e⟩ := nI_of2 (x := r) (M := 3) (n := 3) (by decide) h1 (i_le h2)
  exact ⟨j, by omega, e, by rw [e]; exact nI_clamp (by omega)⟩
theorem r_ge {r : Int32} (h : 0 ≤ r) : ¬ r < 0 := i_nl h
-- the same answers and states from states that agree
theorem eqT_tEnter {X Y : TB} (h : eqT X Y) (k v z : Int32) : eqT (tEnter X k v z).2 (tEnter Y k v z).2 := (tEnter_eq h k v z).2
theorem aPut_eq {a b : RS} (h : eqR a b) (k v z : Int32) : (aPut a k v z).1 = (aPut b k v z).1 ∧ eqR (aPut a k v z).2 (aPut b k v z).2 := by
  have e := tEnter_eq (h.1 3 (by decide)) k v z
  unfold aPut
  by_cases c : z < 0 ∨ 300 < z
  · rw [if_pos c, if_pos c]; exact ⟨rfl, h⟩
  · rw [if_neg c, if_neg c]; exact ⟨e.1, tset_eq (by decide) h e.2⟩
theorem someF_eq {X Y : TB} (h : eqT X Y) (fr st v : Int32) : ∀ i, (someF X fr st v i).1 = (someF Y fr st v i).1 ∧ eqT (someF X fr st v i).2 (someF Y fr st v i).2
  | 0 => ⟨rfl, h⟩
  | i + 1 => by
    obtain ⟨e1, e2⟩ := someF_eq h fr st v i
    obtain ⟨g1, g2⟩ := tEnter_eq e2 (fr + nI i * st) (v + nI i) (zsz v i)
    refine ⟨?_, g2⟩
    show (if _ then _ else _) = (if _ then _ else _)
    rw [g1, e1]
theorem someF_ok {X : TB} (h : okT X) (fr st v : Int32) : ∀ i, okT (someF X fr st v i).2
  | 0 => h
  | i + 1 => tEnter_ok (someF_ok h fr st v i) _ _ _
theorem someF_le (X : TB) (fr st v : Int32) : ∀ i, (someF X fr st v i).1 ≤ i
  | 0 => Nat.le_refl _
  | i + 1 => by
    have h := someF_le X fr st v i
    by_cases c : (tEnter (someF X fr st v i).2 (fr + nI i * st) (v + nI i) (zsz v i)).1 = 1
    · have e : (someF X fr st v (i + 1)).1 = (someF X fr st v i).1 + 1 := if_pos c
      omega
    · have e : (someF X fr st v (i + 1)).1 = (someF X fr st v i).1 := if_neg c
      omega
theorem aSome_eq {a b : RS} (h : eqR a b) (fr st many v : Int32) : (aSome a fr st many v).1 = (aSome b fr st many v).1 ∧ eqR (aSome a fr st many v).2 (aSome b fr st many v).2 := by
  have e := someF_eq (h.1 3 (by decide)) fr st v many.toNatClampNeg
  unfold aSome
  by_cases c : many < 1 ∨ 60 < many
  · rw [if_pos c, if_pos c]; exact ⟨rfl, h⟩
  · rw [if_neg c, if_neg c]; exact ⟨by show nI _ = nI _; rw [e.1], tset_eq (by decide) h e.2⟩
theorem aRemove_eq {a b : RS} (h : eqR a b) (k : Int32) : (aRemove a k).1 = (aRemove b k).1 ∧ eqR (aRemove a k).2 (aRemove b k).2 := by
  have e := h.1 3 (by decide)
  unfold aRemove
  by_cases c : tHas (tsel a 3) k
  · rw [if_pos c, if_pos (eqT_has1 e c)]; exact ⟨by show nI _ = nI _; rw [e.1], tset_eq (by decide) h (tDrop_eq e k)⟩
  · rw [if_neg c, if_neg (fun q => c ((eqT_has e k).mpr q))]; exact ⟨rfl, h⟩
theorem rUp_eq {a b : RS} (h : eqR a b) : eqR (rUp a) (rUp b) := by
  refine ⟨fun t ht => ?_, h.2.1, ?_⟩
  · have e := h.1 t ht
    rcases (show t = 0 ∨ t = 1 ∨ t = 2 ∨ t = 3 by omega) with h1 | h1 | h1 | h1 <;> subst h1 <;> exact e
  · show rL a + 1 = rL b + 1
    rw [h.2.2]
theorem rUp_ok {L : Nat} {a : RS} (h : okR L a) : okR (L + 1) (rUp a) := by
  refine ⟨fun t ht => ?_, fun r hr => ?_, ?_⟩
  · have e := h.1 t ht
    rcases (show t = 0 ∨ t = 1 ∨ t = 2 ∨ t = 3 by omega) with h1 | h1 | h1 | h1 <;> subst h1 <;> exact e
  · have e := h.2.1 r hr
    show rRd a r ≤ rL a + 1
    omega
  · have e := h.2.2
    show rL a + 1 ≤ L + 1
    omega
theorem rt_m3 (n : Nat) : n % 3 < 4 := by omega
theorem aCommit_eq {a b : RS} (h : eqR a b) (cut : Int32) : (aCommit a cut).1 = (aCommit b cut).1 ∧ eqR (aCommit a cut).2 (aCommit b cut).2 := by
  unfold aCommit
  by_cases c : cut < 0
  · rw [if_pos c, if_pos c, ← h.2.2]; exact ⟨rfl, tset_eq (rt_m3 _) (rUp_eq h) (h.1 3 (by decide))⟩
  · rw [if_neg c, if_neg c, ← h.2.2]; exact ⟨rfl, tset_eq (by decide) h (h.1 _ (rt_m3 _))⟩
theorem aForget_eq {a b : RS} (h : eqR a b) : (aForget a).1 = (aForget b).1 ∧ eqR (aForget a).2 (aForget b).2 := by
  unfold aForget
  rw [← h.2.2]
  exact ⟨by show nI _ = nI _; rw [(h.1 _ (rt_m3 _)).1], tset_eq (by decide) h (h.1 _ (rt_m3 _))⟩
theorem rRs_eq {a b : RS} (h : eqR a b) {f g : Nat → Nat} (hf : ∀ r, r < 4 → f r = g r) : eqR (rRs a f) (rRs b g) := by
  refine ⟨fun t ht => ?_, hf, h.2.2⟩
  have e := h.1 t ht
  rcases (show t = 0 ∨ t = 1 ∨ t = 2 ∨ t = 3 by omega) with h1 | h1 | h1 | h1 <;> subst h1 <;> exact e
theorem aOpen_eq {a b : RS} (h : eqR a b) (r : Int32) : (aOpen a r).1 = (aOpen b r).1 ∧ eqR (aOpen a r).2 (aOpen b r).2 := by
  unfold aOpen
  by_cases c : r < 0 ∨ 3 < r
  · rw [if_pos c, if_pos c]; exact ⟨rfl, h⟩
  · rw [if_neg c, if_neg c, h.2.2]
    refine ⟨rfl, rRs_eq h fun j hj => ?_⟩
    unfold va_up
    by_cases d : j = r.toNatClampNeg
    · rw [if_pos d, if_pos d]
    · rw [if_neg d, if_neg d]; exact h.2.1 j hj
theorem aSt_eq {a b : RS} (h : eqR a b) (r : Int32) : aSt a r = aSt b r := by
  unfold aSt
  by_cases c : r < -1 ∨ 3 < r
  · rw [if_pos c, if_pos c]
  · rw [if_neg c, if_neg c]
    by_cases d : 0 ≤ r
    · obtain ⟨j, hj, e1, e2⟩ := r_in (r_ge d) (fun q => c (Or.inr q))
      rw [e2, h.2.1 j hj, h.2.2]
    · rw [if_neg (fun q => d q.1), if_neg (fun q => d q.1)]
theorem aTb_eq {a b : RS} (h : eqR a b) {r : Int32} (hr : ¬ 3 < r) : aTb a r = aTb b r := by
  unfold aTb
  by_cases d : r < 0
  · rw [if_pos d, if_pos d]
  · obtain ⟨j, hj, e1, e2⟩ := r_in d hr
    rw [if_neg d, if_neg d, e2, h.2.1 j hj]
theorem aTb_lt (a : RS) (r : Int32) : aTb a r < 4 := by
  unfold aTb
  split <;> omega
theorem aSt_0 {a : RS} {r : Int32} (h : aSt a r = 0) : ¬ r < -1 ∧ ¬ 3 < r := by
  unfold aSt at h
  by_cases c : r < -1 ∨ 3 < r
  · rw [if_pos c] at h; exact absurd h (by decide)
  · exact ⟨fun q => c (Or.inl q), fun q => c (Or.inr q)⟩
theorem aTs_eq {a b : RS} (h : eqR a b) {r : Int32} (hr : ¬ 3 < r) : eqT (tsel a (aTb a r)) (tsel b (aTb b r)) := by
  rw [← aTb_eq h hr]
  exact h.1 _ (aTb_lt a r)
theorem tAb_eq {X Y : TB} (h : eqT X Y) (k : Int32) : tAb X k = tAb Y k := by
  have e := eqT_pl h k
  unfold tAb
  by_cases c : tHas X k
  · rw [if_pos c, if_pos (eqT_has1 h c), e]
  · rw [if_neg c, if_neg (fun q => c ((eqT_has h k).mpr q)), e]
theorem aGet_eq {a b : RS} (h : eqR a b) (r k : Int32) : aGet a r k = aGet b r k := by
  have e := aSt_eq h r
  unfold aGet
  by_cases c : aSt a r = 0
  · have g := aTs_eq h (aSt_0 c).2
    have c' : aSt b r = 0 := by rw [← e]; exact c
    rw [if_pos c, if_pos c']
    by_cases d : tHas (tsel a (aTb a r)) k
    · rw [if_pos d, if_pos (eqT_has1 g d), ← eqT_pl g k, g.2.2.1 _ d.1]
    · rw [if_neg d, if_neg (fun q => d ((eqT_has g k).mpr q))]
  · have c' : ¬ aSt b r = 0 := by rw [← e]; exact c
    rw [if_neg c, if_neg c', e]
theorem aNext_eq {a b : RS} (h : eqR a b) (r k : Int32) : aNext a r k = aNext b r k := by
  have e := aSt_eq h r
  unfold aNext
  by_cases c : aSt a r = 0
  · have g := aTs_eq h (aSt_0 c).2
    have c' : aSt b r = 0 := by rw [← e]; exact c
    rw [if_pos c, if_pos c', ← tAb_eq g k, ← g.1]
    by_cases d : tAb (tsel a (aTb a r)) k < (tsel a (aTb a r)).1
    · rw [if_pos d, if_pos d, g.2.1 _ d]
    · rw [if_neg d, if_neg d]
  · have c' : ¬ aSt b r = 0 := by rw [← e]; exact c
    rw [if_neg c, if_neg c', e]
theorem aSize_eq {a b : RS} (h : eqR a b) (r k : Int32) : aSize a r k = aSize b r k := by
  have e := aSt_eq h r
  unfold aSize
  by_cases c : aSt a r = 0
  · have g := aTs_eq h (aSt_0 c).2
    have c' : aSt b r = 0 := by rw [← e]; exact c
    rw [if_pos c, if_pos c']
    by_cases d : tHas (tsel a (aTb a r)) k
    · rw [if_pos d, if_pos (eqT_has1 g d), ← eqT_pl g k, g.2.2.2 _ d.1]
    · rw [if_neg d, if_neg (fun q => d ((eqT_has g k).mpr q))]
  · have c' : ¬ aSt b r = 0 := by rw [← e]; exact c
    rw [if_neg c, if_neg c', e]
theorem aCount_eq {a b : RS} (h : eqR a b) (r : Int32) : aCount a r = aCount b r := by
  have e := aSt_eq h r
  unfold aCount
  by_cases c : aSt a r = 0
  · have g := aTs_eq h (aSt_0 c).2
    have c' : aSt b r = 0 := by rw [← e]; exact c
    rw [if_pos c, if_pos c', g.1]
  · have c' : ¬ aSt b r = 0 := by rw [← e]; exact c
    rw [if_neg c, if_neg c', e]
theorem aDigest_eq {a b : RS} (h : eqR a b) (r : Int32) : aDigest a r = aDigest b r := by
  have e := aSt_eq h r
  unfold aDigest
  by_cases c : aSt a r = 0
  · have g := aTs_eq h (aSt_0 c).2
    have c' : aSt b r = 0 := by rw [← e]; exact c
    rw [if_pos c, if_pos c', tDg_eq g]
  · have c' : ¬ aSt b r = 0 := by rw [← e]; exact c
    rw [if_neg c, if_neg c', e]
theorem aPut_ok {L : Nat} {a : RS} (h : okR L a) (k v z : Int32) : okR L (aPut a k v z).2 := by
  unfold aPut
  split
  · exact h
  · exact tset_ok (by decide) h (tEnter_ok (h.1 3 (by decide)) _ _ _)
theorem aSome_ok {L : Nat} {a : RS} (h : okR L a) (fr st many v : Int32) : okR L (aSome a fr st many v).2 := by
  unfold aSome
  split
  · exact h
  · exact tset_ok (by decide) h (someF_ok (h.1 3 (by decide)) _ _ _ _)
theorem aRemove_ok {L : Nat} {a : RS} (h : okR L a) (k : Int32) : okR L (aRemove a k).2 := by
  unfold aRemove
  split
  · exact tset_ok (by decide) h (tDrop_ok (h.1 3 (by decide)) _)
  · exact h
theorem aCommit_ok {L : Nat} {a : RS} (h : okR L a) (cut : Int32) : okR (L + 1) (aCommit a cut).2 := by
  unfold aCommit
  split
  · exact tset_ok (rt_m3 _) (rUp_ok h) (h.1 3 (by decide))
  · exact okR_up (tset_ok (by decide) h (h.1 _ (rt_m3 _))) (Nat.le_succ L)
theorem aForget_ok {L : Nat} {a : RS} (h : okR L a) : okR L (aForget a).2 := tset_ok (by decide) h (h.1 _ (rt_m3 _))
theorem aOpen_ok {L : Nat} {a : RS} (h : okR L a) (r : Int32) : okR L (aOpen a r).2 := by
  unfold aOpen
  split
  · exact h
  · refine ⟨fun t ht => ?_, fun j hj => ?_, h.2.2⟩
    · have e := h.1 t ht
      rcases (show t = 0 ∨ t = 1 ∨ t = 2 ∨ t = 3 by omega) with h1 | h1 | h1 | h1 <;> subst h1 <;> exact e
    · show va_up (rRd a) r.toNatClampNeg (rL a) j ≤ rL a
      unfold va_up
      split
      · exact Nat.le_refl _
      · exact h.2.1 j hj
-- the halves of a binary search
theorem bs_lo {n m : Nat} {K : Nat → Int32} {k : Int32} (hs : sr n K) (hm : m < n) (h : ¬ k ≤ K m) : ∀ j, j < m + 1 → K j < k := by
  intro j hj
  rcases Nat.lt_or_ge j m with q | q
  · exact i_tr (hs j m q hm) (i_lt h)
  · have e : j = m := by omega
    subst e
    exact i_lt h
theorem bs_hi {n m : Nat} {K : Nat → Int32} {k : Int32} (hs : sr n K) (h : k ≤ K m) : ∀ j, m ≤ j → j < n → ¬ K j < k := by
  intro j hj hn
  rcases Nat.eq_or_lt_of_le hj with q | q
  · rw [← q]; exact i_nl h
  · exact fun z => i_nl h (i_tr (hs m j q hn) z)
-- a reader's state, a reader's table
theorem r43 {r : Int32} : r < nI 4 ↔ ¬ 3 < r := by
  have e4 : (nI 4).toInt = 4 := by decide
  have e3 : (3 : Int32).toInt = 3 := by decide
  rw [Int32.lt_iff_toInt_lt, Int32.lt_iff_toInt_lt, e4, e3]
  omega
theorem r33 {r : Int32} : r ≤ nI 3 ↔ ¬ 3 < r := by
  have e4 : (nI 3).toInt = 3 := by decide
  have e3 : (3 : Int32).toInt = 3 := by decide
  rw [Int32.le_iff_toInt_le, Int32.lt_iff_toInt_lt, e4, e3]
  omega
theorem aSt_out {a : RS} {r : Int32} (h : r < -1 ∨ 3 < r) : aSt a r = -1 := if_pos h
theorem aSt_neg {a : RS} {r : Int32} (h : ¬ r < -1) (h2 : r < 0) : aSt a r = 0 := by
  have h3 : ¬ 3 < r := fun q => i_as h2 (i_tr (show (0 : Int32) < 3 by decide) q)
  unfold aSt
  rw [if_neg (fun q => q.elim h h3), if_neg (fun q => i_nl q.1 h2)]
theorem nj_in {j : Nat} (hj : j < 4) : ¬ (nI j < -1 ∨ 3 < nI j) := by
  rcases (show j = 0 ∨ j = 1 ∨ j = 2 ∨ j = 3 by omega) with h | h | h | h <;> subst h <;> decide
theorem aSt_gone {a : RS} {j : Nat} (hj : j < 4) (h : rRd a j + 3 ≤ rL a) : aSt a (nI j) = -4 := by
  unfold aSt
  rw [if_neg (nj_in hj), if_pos ⟨nI_pos' (by omega), by rw [nI_clamp (by omega)]; exact h⟩]
theorem aSt_ok {a : RS} {j : Nat} (hj : j < 4) (h : ¬ rRd a j + 3 ≤ rL a) : aSt a (nI j) = 0 := by
  unfold aSt
  rw [if_neg (nj_in hj), if_neg (fun q => h (by have := q.2; rw [nI_clamp (by omega)] at this; exact this))]
theorem aTb_j {a : RS} {j : Nat} (hj : j < 4) : aTb a (nI j) = rRd a j % 3 := by
  unfold aTb
  rw [if_neg (nI_pos (by omega)), nI_clamp (by omega)]
theorem aTb_n {a : RS} {r : Int32} (h : r < 0) : aTb a r = 3 := if_pos h
theorem aSt_c {a : RS} {r : Int32} (h : ¬ aSt a r = 0) : aSt a r = -1 ∨ aSt a r = -4 := by
  unfold aSt at h ⊢
  by_cases c : r < -1 ∨ 3 < r
  · rw [if_pos c]; exact Or.inl rfl
  · rw [if_neg c] at h ⊢
    by_cases d : 0 ≤ r ∧ rRd a r.toNatClampNeg + 3 ≤ rL a
    · rw [if_pos d]; exact Or.inr rfl
    · rw [if_neg d] at h; exact absurd rfl h
theorem zsz_in (v : Int32) (i : Nat) : ¬ zsz v i < 0 ∧ ¬ nI 300 < zsz v i := by
  unfold zsz
  split
  · decide
  · obtain ⟨j, hj, e⟩ := pk_andE (v + nI (7 * i)) (m := nI 127) 7 (by decide)
    rw [e]
    exact ⟨nI_pos (by omega), nI_nlt (by omega) (by omega)⟩
theorem many_in {x : Int32} (h1 : ¬ x < 1) (h2 : ¬ 60 < x) : ∃ j : Nat, 1 ≤ j ∧ j ≤ 60 ∧ x = nI j ∧ x.toNatClampNeg = j := by
  have h0 : ¬ x < 0 := fun q => h1 (i_tr q (by decide))
  obtain ⟨j, hj, e⟩ := nI_of2 (x := x) (M := 60) (n := 60) (by decide) h0 (i_le h2)
  refine ⟨j, ?_, hj, e, by rw [e]; exact nI_clamp (by omega)⟩
  rcases Nat.eq_zero_or_pos j with q | q
  · subst q; rw [e] at h1; exact absurd (by decide) h1
  · exact q
theorem rd_up {f : Nat → Nat} {j x : Nat} : upd (fun j => nI (f j)) j (nI x) = fun i => nI (va_up f j x i) := by
  funext i
  unfold upd va_up
  split <;> rfl
theorem nI_xor (a b : Nat) : nI a ^^^ nI b = nI (a ^^^ b) := by
  apply Int32.toBitVec_inj.1
  show BitVec.ofNat 32 a ^^^ BitVec.ofNat 32 b = BitVec.ofNat 32 (a ^^^ b)
  apply BitVec.eq_of_getLsbD_eq
  intro i hi
  simp [hi]
theorem fm_pos {n : Nat} (h : n < 1000000) : 0 ≤ nI n ^^^ nI 3 := by
  rw [nI_xor]
  have h1 : n ^^^ 3 < 2 ^ 20 := Nat.xor_lt_two_pow (by omega) (by decide)
  exact nI_pos' (by omega)
theorem tAb_le (T : TB) (k : Int32) : tAb T k ≤ T.1 + 1 := by
  have h := pl_le T.1 T.2.1 k
  unfold tAb
  split
  · show pl T.1 T.2.1 k + 1 ≤ T.1 + 1
    omega
  · show pl T.1 T.2.1 k ≤ T.1 + 1
    omega
/-- a step of some, seen through put -/
theorem some_st {a b b' : RS} {fr st v r : Int32} {i : Nat} (hq : eqR b (tset a 3 (someF (tsel a 3) fr st v i).2)) (hr : r = (aPut b (fr + nI i * st) (v + nI i) (zsz v i)).1) (hb : eqR b' (aPut b (fr + nI i * st) (v + nI i) (zsz v i)).2) :
    eqR b' (tset a 3 (someF (tsel a 3) fr st v (i + 1)).2) ∧ (r = 1 → (someF (tsel a 3) fr st v (i + 1)).1 = (someF (tsel a 3) fr st v i).1 + 1) ∧ (¬ r = 1 → (someF (tsel a 3) fr st v (i + 1)).1 = (someF (tsel a 3) fr st v i).1) := by
  have hz := zsz_in v i
  have e := hq.1 3 (by decide)
  rw [tset_same a _ (by decide)] at e
  have hp : aPut b (fr + nI i * st) (v + nI i) (zsz v i) = ((tEnter (tsel b 3) (fr + nI i * st) (v + nI i) (zsz v i)).1, tset b 3 (tEnter (tsel b 3) (fr + nI i * st) (v + nI i) (zsz v i)).2) := if_neg (fun q => q.elim hz.1 hz.2)
  obtain ⟨t1, t2⟩ := tEnter_eq e (fr + nI i * st) (v + nI i) (zsz v i)
  rw [hp] at hr hb
  have hr : r = (tEnter (tsel b 3) (fr + nI i * st) (v + nI i) (zsz v i)).1 := hr
  rw [t1] at hr
  refine ⟨eqR_tr hb ?_, fun h => if_pos (by rw [← hr]; exact h), fun h => if_neg (by rw [← hr]; exact h)⟩
  refine ⟨fun t ht => ?_, fun j hj => ?_, ?_⟩
  · by_cases c : t = 3
    · subst c
      rw [tset_same b _ (by decide), tset_same a _ (by decide)]
      exact t2
    · rw [tset_ne b _ (by decide) ht c, tset_ne a _ (by decide) ht c]
      have h9 := hq.1 t ht
      rw [tset_ne a _ (by decide) ht c] at h9
      exact h9
  · rw [tset_rd, tset_rd]
    have h9 := hq.2.1 j hj
    rw [tset_rd] at h9
    exact h9
  · rw [tset_L, tset_L]
    have h9 := hq.2.2
    rw [tset_L] at h9
    exact h9
