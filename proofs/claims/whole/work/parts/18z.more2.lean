-- MORE ROWS: a constructor's start that also knows a nest mate's link and the array class over a class
def zPX (D : va_G) (cl : List vw_C) (cI cT : ClassId) (ws : va_W) (sz : Nat) (a : String) (i : Nat) (x : MethodName) (h C : String) (U : State) : Prop := zPW D cl cI cT ws sz U ∧ va_Nw (.methodLinkNest a i x h) U ∧ va_AO C U
theorem zpreSX {s : State} {H : Heap} {D : va_G} {cl : List vw_C} {A : Nat → Prop} {cI cT : ClassId} {wc : va_W} {As : List Value} {a : String} {i : Nat} {x : MethodName} {h C : String} (hK : va_K D cl (zTY cI cT) s) (hPc : va_P D cl wc H) (hDc : va_D A wc) (hN : va_Nw (.methodLinkNest a i x h) s) (hO : va_AO C s) : PreS s H (va_Pc As (zPX D cl cI cT wc H.size a i x h C)) As :=
  ⟨fun av U g mk q => by
    obtain ⟨q0, ⟨q1, qP, qK, qD⟩, n1, n2⟩ := q
    exact ⟨q0, ⟨q1, qP, va_K.moved (u := U) (U := U.calling g mk av) (Vm.Alike.refl U.vm) qK, qD⟩, va_Nw.same rfl rfl n1, va_AO.moved (u := U) (U := U.calling g mk av) (Vm.Alike.refl U.vm) n2⟩,
   fun U hU hW => ⟨rfl, ⟨by rw [hU], by rw [hU]; exact hPc, va_K.moved hW.alike hK, hDc.weaken (fun _ _ _ _ => trivial)⟩, va_Nw.warmM hW hN, va_AO.moved hW.alike hO⟩⟩
