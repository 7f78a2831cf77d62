section GF
variable {p : Program} {l : Launch} {e : Env} {Rm : Room} {s : State} {m : MethodId} {args : Array Value} {below : List Frame} {meth : Method} {c : Code} {X : gX} {nL : Nat} {Q : State → Prop} {cells slots : Nat} {I : gI} {R : gR} {S : gS} {pc : Nat} {lv : List (Nat × Value)} {st : List Value} {cc : ByteArray} {own : String} {Ts : List Cond}
/-- what the classes of worlds are to one another, and that kindTold is told -/
def gEN (U : State) : Prop := va_Nw (.declares ⟨"TimesByPowers$World", "kindTold", "()I"⟩) U ∧ va_Nw (.castable RX7 RX4) U ∧ (va_Nw (.castable RX1 RX10) U ∧ va_Nw (.castable RX3 RX10) U ∧ va_Nw (.castable RX4 RX10) U ∧ va_Nw (.castable RX7 RX10) U) ∧ (va_Nc RX1 RX3 U ∧ va_Nc RX1 RX4 U ∧ va_Nc RX1 RX7 U) ∧ (va_Nc RX3 RX1 U ∧ va_Nc RX3 RX4 U ∧ va_Nc RX3 RX7 U) ∧ (va_Nc RX4 RX1 U ∧ va_Nc RX4 RX3 U ∧ va_Nc RX4 RX7 U) ∧ (va_Nc RX7 RX1 U ∧ va_Nc RX7 RX3 U)
theorem gEN_warm {U : State} (hW : s.WarmedH U.vm) (h : gEN s) : gEN U := by
  obtain ⟨h1, h2, ⟨a1, a2, a3, a4⟩, ⟨b1, b2, b3⟩, ⟨c1, c2, c3⟩, ⟨d1, d2, d3⟩, e1, e2⟩ := h
  have hA := hW.alike
  exact ⟨h1.warmD hW, h2.warmC hW, ⟨a1.warmC hW, a2.warmC hW, a3.warmC hW, a4.warmC hW⟩, ⟨b1.moved hA, b2.moved hA, b3.moved hA⟩, ⟨c1.moved hA, c2.moved hA, c3.moved hA⟩, ⟨d1.moved hA, d2.moved hA, d3.moved hA⟩, e1.moved hA, e2.moved hA⟩
theorem gEN_call {a : Array Value} {U : State} {g : JFrame} {mk : MethodId} (h : gEN U) : gEN (U.calling g mk a) := by
  obtain ⟨h1, h2, ⟨a1, a2, a3, a4⟩, ⟨b1, b2, b3⟩, ⟨c1, c2, c3⟩, ⟨d1, d2, d3⟩, e1, e2⟩ := h
  have hA : U.vm.Alike (U.calling g mk a).vm := Vm.Alike.refl U.vm
  exact ⟨h1.same rfl rfl, h2.same rfl rfl, ⟨a1.same rfl rfl, a2.same rfl rfl, a3.same rfl rfl, a4.same rfl rfl⟩, ⟨b1.moved hA, b2.moved hA, b3.moved hA⟩, ⟨c1.moved hA, c2.moved hA, c3.moved hA⟩, ⟨d1.moved hA, d2.moved hA, d3.moved hA⟩, e1.moved hA, e2.moved hA⟩
theorem gEN_in (h : gEN s) : gEin X I R S s gEN := ⟨fun _ _ _ _ h => gEN_call h, fun _ _ _ _ _ _ hW => gEN_warm hW h⟩
/-- the cell of an object, as instanceof asks for it -/
theorem g_cell {H : Heap} {w k n Nn : Nat} {Cn : String} {T : u_T} (C : gC p s m args c cc nL own Ts X) (hR : gReal X I R S H) (hS : S[w]? = some (k, n)) (hk : k < 12) (hc : vwCl[k]? = some (Cn, T, Nn)) : ∃ cell : Cell, H[X.1 + w]? = some cell ∧ cell.vm.isStatics = false ∧ s.vm.findClass Cn = some cell.cls := by
  have hP := gReal_at hR hS
  rw [gE_obj hk] at hP
  exact va_recv C.2.2.2.2.2.1 hP hc (q0 := 0) rfl
theorem g_instY {w k n Nn index : Nat} {Cn nm : String} {T : u_T} (C : gC p s m args c cc nL own Ts X) (hd : decode cc pc = .ok (.instanceof index, 3)) (hlink : (Cond.classLink own index nm).before args s = true) (hS : S[w]? = some (k, n)) (hk : k < 12) (hc : vwCl[k]? = some (Cn, T, Nn)) (hy : va_Nw (.castable Cn nm) s) (kk : gW p l e Rm s m args below meth c X nL Q cells slots I R S (pc + 3) lv (.int 1 :: st)) : gW p l e Rm s m args below meth c X nL Q cells slots I R S pc lv (.ref (X.1 + w) :: st) :=
  fun H locs ls hR hS' hl => va_instY C.1 C.2.1 C.2.2.2.1 hlink hy (g_cell C hR hS hk hc) hd (kk H locs ls hR hS' hl)
theorem g_instS {w k n Nn index : Nat} {Cn : String} {T : u_T} (C : gC p s m args c cc nL own Ts X) (hd : decode cc pc = .ok (.instanceof index, 3)) (hlink : (Cond.classLink own index Cn).before args s = true) (hS : S[w]? = some (k, n)) (hk : k < 12) (hc : vwCl[k]? = some (Cn, T, Nn)) (kk : gW p l e Rm s m args below meth c X nL Q cells slots I R S (pc + 3) lv (.int 1 :: st)) : gW p l e Rm s m args below meth c X nL Q cells slots I R S pc lv (.ref (X.1 + w) :: st) :=
  fun H locs ls hR hS' hl => va_instS C.1 C.2.1 C.2.2.2.1 hlink (C.2.2.2.2.2.1.1 k _ hc).2 (g_cell C hR hS hk hc) hd (kk H locs ls hR hS' hl)
theorem g_instNo {w k n Nn index : Nat} {Cn nm : String} {T : u_T} (C : gC p s m args c cc nL own Ts X) (hd : decode cc pc = .ok (.instanceof index, 3)) (hlink : (Cond.classLink own index nm).before args s = true) (hS : S[w]? = some (k, n)) (hk : k < 12) (hc : vwCl[k]? = some (Cn, T, Nn)) (hy : va_Nc Cn nm s) (kk : gW p l e Rm s m args below meth c X nL Q cells slots I R S (pc + 3) lv (.int 0 :: st)) : gW p l e Rm s m args below meth c X nL Q cells slots I R S pc lv (.ref (X.1 + w) :: st) :=
  fun H locs ls hR hS' hl => va_instNo C.1 C.2.1 C.2.2.2.1 hlink hy (g_cell C hR hS hk hc) hd (kk H locs ls hR hS' hl)
theorem g_instN {index : Nat} (C : gC p s m args c cc nL own Ts X) (hd : decode cc pc = .ok (.instanceof index, 3)) (kk : gW p l e Rm s m args below meth c X nL Q cells slots I R S (pc + 3) lv (.int 0 :: st)) : gW p l e Rm s m args below meth c X nL Q cells slots I R S pc lv (.null :: st) :=
  fun H locs ls hR hS' hl => lv_instN C.1 C.2.1 hd (kk H locs ls hR hS' hl)
theorem g_castY {w k n Nn index : Nat} {Cn nm : String} {T : u_T} (C : gC p s m args c cc nL own Ts X) (hd : decode cc pc = .ok (.checkcast index, 3)) (hlink : (Cond.classLink own index nm).before args s = true) (hS : S[w]? = some (k, n)) (hk : k < 12) (hc : vwCl[k]? = some (Cn, T, Nn)) (hy : va_Nw (.castable Cn nm) s) (kk : gW p l e Rm s m args below meth c X nL Q cells slots I R S (pc + 3) lv (.ref (X.1 + w) :: st)) : gW p l e Rm s m args below meth c X nL Q cells slots I R S pc lv (.ref (X.1 + w) :: st) :=
  fun H locs ls hR hS' hl => va_castY C.1 C.2.1 C.2.2.2.1 hlink hy (g_cell C hR hS hk hc) hd (kk H locs ls hR hS' hl)
theorem g_castS {w k n Nn index : Nat} {Cn : String} {T : u_T} (C : gC p s m args c cc nL own Ts X) (hd : decode cc pc = .ok (.checkcast index, 3)) (hlink : (Cond.classLink own index Cn).before args s = true) (hS : S[w]? = some (k, n)) (hk : k < 12) (hc : vwCl[k]? = some (Cn, T, Nn)) (kk : gW p l e Rm s m args below meth c X nL Q cells slots I R S (pc + 3) lv (.ref (X.1 + w) :: st)) : gW p l e Rm s m args below meth c X nL Q cells slots I R S pc lv (.ref (X.1 + w) :: st) :=
  fun H locs ls hR hS' hl => va_castS C.1 C.2.1 C.2.2.2.1 hlink (C.2.2.2.2.2.1.1 k _ hc).2 (g_cell C hR hS hk hc) hd (kk H locs ls hR hS' hl)
/-- a call whose method the receiver's class selects -/
theorem g_callU {E : State → Prop} {x y : MethodName} {ws : List Cond} {rm : Room} {As : List Value} {v : Option Value} {I' : gI} {R' : gR} {S' : gS} {mc ms maxL n index q k n' Nn : Nat} {bytes : ByteArray} {ret : Option FieldType} {Cn owner : String} {T : u_T} {stk : List Value} (C : gC p s m args c cc nL own Ts X) (hd : decode cc pc = .ok (.invokevirtual index, 3)) (hM : gM l y ws rm X E (.ref (X.1 + q) :: As) I R S v I' R' S' mc ms) (hE : gEin X I R S s E) (cw : va_CU Rm s args own Cn owner index x y bytes maxL ret ws rm mc ms n) (hS : S[q]? = some (k, n')) (hk : k < 12) (hc : vwCl[k]? = some (Cn, T, Nn)) (hn : As.length = n) (hst : stk = As.reverse ++ .ref (X.1 + q) :: st) (hW : (st.map fun v => v.category).sum ≤ 8) (hfit : cells + mc ≤ Rm.cells ∧ slots + ms ≤ Rm.slots)
    (kk : gW p l e Rm s m args below meth c X nL Q (cells + mc) (slots + ms) I' R' S' (pc + 3) lv (v.toList ++ st)) : gW p l e Rm s m args below meth c X nL Q cells slots I R S pc lv stk := by
  refine g_run (Value.ref (X.1 + q) :: As).toArray (fun H locs ls hR hS' hl => ?_) kk
  exact va_runU ⟨C.1, C.2.1, C.2.2.1, C.2.2.2.1, C.2.2.2.2.1⟩ hM cw ⟨g_blind hE.1, g_cell C hR hS hk hc, fun U hU hW' => ⟨rfl, by rw [hU]; exact hR, va_K.moved hW'.alike C.2.2.2.2.2.1, hE.2 H locs U hR hS' hU hW'⟩⟩ rfl hn hl.1 hst (lv_room hW) hd hfit
/-- super.m(..) -/
theorem g_callSU {E : State → Prop} {y : MethodName} {ws : List Cond} {rm : Room} {As : List Value} {v : Option Value} {I' : gI} {R' : gR} {S' : gS} {mc ms maxL n index q k n' Nn : Nat} {bytes : ByteArray} {ret : Option FieldType} {Cn : String} {T : u_T} {stk : List Value} (C : gC p s m args c cc nL own Ts X) (hd : decode cc pc = .ok (.invokespecial index, 3)) (hM : gM l y ws rm X E (.ref (X.1 + q) :: As) I R S v I' R' S' mc ms) (hE : gEin X I R S s E) (cw : va_CS Rm s args own index y bytes maxL ret ws rm mc ms n) (hS : S[q]? = some (k, n')) (hk : k < 12) (hc : vwCl[k]? = some (Cn, T, Nn)) (hn : As.length = n) (hst : stk = As.reverse ++ .ref (X.1 + q) :: st) (hW : (st.map fun v => v.category).sum ≤ 8) (hfit : cells + mc ≤ Rm.cells ∧ slots + ms ≤ Rm.slots)
    (kk : gW p l e Rm s m args below meth c X nL Q (cells + mc) (slots + ms) I' R' S' (pc + 3) lv (v.toList ++ st)) : gW p l e Rm s m args below meth c X nL Q cells slots I R S pc lv stk := by
  refine g_run (Value.ref (X.1 + q) :: As).toArray (fun H locs ls hR hS' hl => ?_) kk
  exact va_runSU (C.2.2.2.2.2.1.1 k _ hc).2 ⟨C.1, C.2.1, C.2.2.1, C.2.2.2.1, C.2.2.2.2.1⟩ hM cw ⟨g_blind hE.1, g_cell C hR hS hk hc, fun U hU hW' => ⟨rfl, by rw [hU]; exact hR, va_K.moved hW'.alike C.2.2.2.2.2.1, hE.2 H locs U hR hS' hU hW'⟩⟩ rfl hn hl.1 hst (lv_room hW) hd hfit
/-- a private constructor of a nest mate -/
theorem g_callIN {E : State → Prop} {y : MethodName} {ws : List Cond} {rm : Room} {As : List Value} {I' : gI} {R' : gR} {S' : gS} {mc ms maxL n index q : Nat} {bytes : ByteArray} {host : String} {stk : List Value} (C : gC p s m args c cc nL own Ts X) (hd : decode cc pc = .ok (.invokespecial index, 3)) (hM : gM l y ws rm X E (.ref (X.1 + q) :: As) I R S none I' R' S' mc ms) (hE : gEin X I R S s E) (cw : va_CN Rm s args own index y host bytes maxL none ws rm mc ms n ∧ y.name = "<init>" ∧ (Cond.instanceMethod y).before args s = true) (hn : As.length = n) (hst : stk = As.reverse ++ .ref (X.1 + q) :: st) (hW : (st.map fun v => v.category).sum ≤ 8) (hfit : cells + mc ≤ Rm.cells ∧ slots + ms ≤ Rm.slots)
    (kk : gW p l e Rm s m args below meth c X nL Q (cells + mc) (slots + ms) I' R' S' (pc + 3) lv st) : gW p l e Rm s m args below meth c X nL Q cells slots I R S pc lv stk := by
  refine g_run (v := none) (Value.ref (X.1 + q) :: As).toArray (fun H locs ls hR hS' hl => ?_) kk
  exact va_runIN ⟨C.1, C.2.1, C.2.2.1, C.2.2.2.1, C.2.2.2.2.1⟩ hM cw ⟨g_blind hE.1, fun U hU hW' => ⟨rfl, by rw [hU]; exact hR, va_K.moved hW'.alike C.2.2.2.2.2.1, hE.2 H locs U hR hS' hU hW'⟩⟩ rfl hn hl.1 hst (lv_room hW) hd hfit
/-- a place of a row of references is written -/
theorem g_aastV {q n t : Nat} {i : Int32} {H H1 : Heap} {r : Option Nat} {locs : List Loc} (hR : gReal X I R S H) (h1 : 1 ≤ t) (hS : S[q]? = some (12 + t, n)) (e1 : H1[X.1 + q]? = some ((vp_cell (X.2.2.2 t) (n, .inr (.inr (.inr (.inr (fun j => (R q j).map (X.1 + ·))))))).setSlot i.toNatClampNeg (gv X.1 r))) (e2 : H1.size = H.size) (e3 : ∀ a, a ≠ X.1 + q → H1[a]? = H[a]?) : gReal X I (gU R q i.toNatClampNeg r) S H1 := by
  refine gReal_put hR hS e2 e3 ?_ (fun _ _ => rfl) (fun a ha => gU_cell R _ r ha)
  rw [gE_ref t h1]
  show H1[X.1 + q]? = some (vp_cell _ _)
  rw [e1, gU_rowR]
  rw [vp_cell_q, vp_cell_q, arrV_store]
  congr 2
  funext z
  by_cases hz : z = i.toNatClampNeg
  · subst hz
    simp [updV, va_up, gv]
  · simp [updV, va_up, hz]
theorem g_aast {τ : Type} {A o : Option τ} {q n w k n' Nn : Nat} {i : Int32} {Cn E : String} {T : u_T} (t : Nat) (C : gC p s m args c cc nL own Ts X) (hd : decode cc pc = .ok (.aastore, 1)) (h1 : 1 ≤ t) (hS : S[q]? = some (12 + t, n)) (ht : (gTys X.2.2.2)[t]? = some (X.2.2.2 t, .object E)) (hSw : S[w]? = some (k, n')) (hk : k < 12) (hc : vwCl[k]? = some (Cn, T, Nn)) (hca : Cn = E ∨ va_Nw (.castable Cn E) s) (ho : o ≠ none) (hf : (if i < 0 ∨ n ≤ i.toNatClampNeg then none else A) = o)
    (kk : A = o → gW p l e Rm s m args below meth c X nL Q cells slots I (gU R q i.toNatClampNeg (some w)) S (pc + 1) lv st) : gW p l e Rm s m args below meth c X nL Q cells slots I R S pc lv (.ref (X.1 + w) :: .int i :: .ref (X.1 + q) :: st) := by
  by_cases h : i < 0 ∨ n ≤ i.toNatClampNeg
  · rw [if_pos h] at hf; exact absurd hf.symm ho
  rw [if_neg h] at hf
  intro H locs ls hR hS' hl
  have hlt : i.toNatClampNeg < n := Nat.not_le.mp fun q => h (Or.inr q)
  have h0 : ¬ i < 0 := fun q => h (Or.inl q)
  have hP := gReal_at hR hS
  rw [gE_ref t h1] at hP
  have hPw := gReal_at hR hSw
  rw [gE_obj hk] at hPw
  have hK := C.2.2.2.2.2.1
  obtain ⟨r', hr', cellV, g1, g2, g3, -⟩ := hPw 0 _ rfl
  have hcls := (hK.1 k _ hc).2
  obtain ⟨kA, comp, k1, k2, k3, -⟩ := (hK.2 t _ ht).2
  obtain ⟨kE, hkE, -⟩ := Vm.findClass_spec k3
  obtain ⟨kC, hkC, -⟩ := hcls.2
  have hasg : s.vm.assignable (X.2.2.1.1 k) comp = true := by
    rcases hca with e | hca
    · subst e
      have hcomp : comp = X.2.2.1.1 k := Option.some.inj (k3.symm.trans hcls.1)
      subst hcomp
      exact va_assign hcls
    · obtain ⟨c0, t1, f1, f2, f3⟩ := Cond.castable_spec (va_Nw.use (A := args) rfl hca)
      cases hcls.1.symm.trans f1
      cases k3.symm.trans f2
      exact f3
  refine W.aast C.1 C.2.1 (hP 0 _ rfl) (fun q h => by cases h) (fun h => by cases h) k1 k2 rfl hkE ⟨h0, by show _ < (arrV _ _ _).slots.size; rw [arrV_size]; exact hlt⟩ g1 (fun q h => by rw [g3] at h; cases h) (by rw [g2]; exact hkC) (by rw [g2]; exact hasg) rfl rfl hd fun H1 e1 e2 e3 => ?_
  exact kk hf H1 _ ls (g_aastV (r := some w) (locs := locs) hR h1 hS e1 e2 e3) (hS'.put e2 e3 (Nat.le_add_right _ _)) hl
theorem g_aastN {τ : Type} {A o : Option τ} {q n : Nat} {i : Int32} {E : String} (t : Nat) (C : gC p s m args c cc nL own Ts X) (hd : decode cc pc = .ok (.aastore, 1)) (h1 : 1 ≤ t) (hS : S[q]? = some (12 + t, n)) (ht : (gTys X.2.2.2)[t]? = some (X.2.2.2 t, .object E)) (ho : o ≠ none) (hf : (if i < 0 ∨ n ≤ i.toNatClampNeg then none else A) = o)
    (kk : A = o → gW p l e Rm s m args below meth c X nL Q cells slots I (gU R q i.toNatClampNeg none) S (pc + 1) lv st) : gW p l e Rm s m args below meth c X nL Q cells slots I R S pc lv (.null :: .int i :: .ref (X.1 + q) :: st) := by
  by_cases h : i < 0 ∨ n ≤ i.toNatClampNeg
  · rw [if_pos h] at hf; exact absurd hf.symm ho
  rw [if_neg h] at hf
  intro H locs ls hR hS' hl
  have hP := gReal_at hR hS
  rw [gE_ref t h1] at hP
  have hK := C.2.2.2.2.2.1
  refine va_WaastN (C := E) C.1 C.2.1 (hP 0 _ rfl) ((hK.2 t _ ht).1 n (fun j => va_rf ((R q j).map (X.1 + ·)))) (fun h => by cases h) (by show ¬ (i < 0 ∨ (arrV _ _ _).slots.size ≤ _); rw [arrV_size]; exact h) rfl rfl hd fun H1 e1 e2 e3 => ?_
  exact kk hf H1 _ ls (g_aastV (r := none) (locs := locs) hR h1 hS e1 e2 e3) (hS'.put e2 e3 (Nat.le_add_right _ _)) hl
end GF
