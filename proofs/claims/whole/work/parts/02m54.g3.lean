section GD
variable {p : Program} {l : Launch} {e : Env} {Rm : Room} {s : State} {m : MethodId} {args : Array Value} {below : List Frame} {meth : Method} {c : Code} {X : gX} {nL : Nat} {Q : State → Prop} {cells slots : Nat} {I : gI} {R : gR} {S : gS} {pc : Nat} {lv : List (Nat × Value)} {st : List Value} {cc : ByteArray} {own : String} {Ts : List Cond}
theorem gE_kept {I' : gI} {R' : gR} {b : Nat} {dA : Nat → ClassId} {a : Nat} (k : Nat × Nat) (hI : I' a = I a) (hR : R' a = R a) : gE b dA I' R' a k = gE b dA I R a k := by
  have eV : gV b I' R' a = gV b I R a := by
    funext x
    unfold gV
    rw [hI, hR]
  unfold gE
  rw [eV, hI, hR]
/-- one cell more -/
theorem gReal_push {H H' : Heap} {I' : gI} {R' : gR} {kn : Nat × Nat} (hR : gReal X I R S H) (hz : H'.size = H.size + 1) (ho : ∀ a : Nat, a < H.size → H'[a]? = H[a]?) (hq : va_at X.2.2.1 vwCl (X.1 + S.length, gE X.1 X.2.2.2 I' R' S.length kn) H') (hI : ∀ a, a ≠ S.length → I' a = I a) (hRr : ∀ a, a ≠ S.length → R' a = R a) : gReal X I' R' (S ++ [kn]) H' := by
  have hs := hR.1
  refine ⟨by rw [hz, hs, List.length_append]; rfl, fun a ha => by rw [ho a (by omega)]; exact hR.2.1 a ha, fun a k ha => ?_⟩
  by_cases h : a < S.length
  · rw [List.getElem?_append_left h] at ha
    rw [gE_kept k (hI a (by omega)) (hRr a (by omega))]
    exact (hR.2.2 a k ha).kept (ho _ (by show X.1 + a < H.size; omega))
  · rw [List.getElem?_append_right (by omega)] at ha
    have h0 : a - S.length < 1 := (List.getElem?_eq_some_iff.mp ha).1
    have e : a = S.length := by omega
    subst e
    rw [Nat.sub_self] at ha
    cases ha
    exact hq
theorem va_S.grow {H H' : Heap} {locs : List Loc} (hS : va_S (fun q => X.1 ≤ q) s.heap H locs) (hz : H.size ≤ H'.size) (ho : ∀ a : Nat, a < H.size → H'[a]? = H[a]?) : va_S (fun q => X.1 ≤ q) s.heap H' locs :=
  ⟨Nat.le_trans hS.1 hz, fun x h1 h2 => (ho x (Nat.lt_of_lt_of_le h1 hS.1)).trans (hS.2.1 x h1 h2), hS.2.2⟩
theorem g_objInit {idx q : Nat} (C : gC p s m args c cc nL own Ts X) (hd : decode cc pc = .ok (.invokespecial idx, 3)) (hl0 : (Cond.methodLink own idx Lib.objectInit).before args s = true) (hi : (Cond.instanceMethod Lib.objectInit).before args s = true) (hc : (Cond.code Lib.objectInit ⟨#[0xb1]⟩ 1 none).before args s = true) (hframes : 1 ≤ Rm.frames) (hlocals : (st.map fun v => v.category).sum + 12 ≤ Rm.locals) (kk : gW p l e Rm s m args below meth c X nL Q cells slots I R S (pc + 3) lv st) : gW p l e Rm s m args below meth c X nL Q cells slots I R S pc lv (.ref (X.1 + q) :: st) :=
  fun H locs ls hR hS hl => W.objInit C.1 C.2.1 C.2.2.2.1 hl0 hi hc rfl (by show ls.size = _; rw [C.2.2.1, hl.1]) rfl hd hframes (by show 2 * 0 + _ + 12 ≤ _; omega) (kk H locs ls hR hS hl)
theorem g_newa {q : Nat} {n : Int32} {N' : Nat} (C : gC p s m args c cc nL own Ts X) (hd : decode cc pc = .ok (.newarray .int, 2)) (harr : (Cond.arrayClass .int).before args s = true) (hn : ¬ n < 0) (hN : n.toNatClampNeg = N') (hb : N' * 4 ≤ 536870912) (hfit : cells + 1 ≤ Rm.cells ∧ slots + N' ≤ Rm.slots) (hq : S.length = q)
    (kk : gW p l e Rm s m args below meth c X nL Q (cells + 1) (slots + N') (gZ I q) R (S ++ [(12, N')]) (pc + 2) lv (.ref (X.1 + q) :: st)) : gW p l e Rm s m args below meth c X nL Q cells slots I R S pc lv (.int n :: st) := by
  subst hq
  intro H locs ls hR hS hl
  refine va_newaK C.1 C.2.1 (atype := .int) harr rfl hd rfl hn hN hb hfit.1 hfit.2 hR.1 fun H' cA e1 z1 o1 _ fc => ?_
  have hcA : cA = X.2.2.2 0 := Option.some.inj (fc.symm.trans (C.2.2.2.2.2.1.2 0 (X.2.2.2 0, .int) rfl).2)
  subst hcA
  rw [← hR.1] at e1 o1 z1
  refine kk H' locs ls (gReal_push hR z1 o1 ?_ (fun a h => gZ_ne h) (fun _ _ => rfl)) (hS.grow (by omega) o1) hl
  show H'[X.1 + S.length]? = some (vp_cell (X.2.2.2 0) (N', .inl (gZ I S.length S.length)))
  rw [gZ_at, vp_cell_i, ← hR.1]
  exact e1
/-- the default of a field -/
def gDf (x : Bool × Nat) : Value := if x.1 = true then .null else .int 0
theorem gDf_map (b q k : Nat) : (gT k).map (gV b (gZ I q) (gZn R q) q) = (gT k).map gDf := by
  refine List.map_congr_left fun x _ => ?_
  unfold gV gDf
  rw [gZ_at, gZn_at]
  by_cases h : x.1 = true
  · rw [if_pos h, if_pos h]
    by_cases h9 : 1000 ≤ x.2
    · rw [if_pos h9]; rfl
    · rw [if_neg h9]; rfl
  · rw [if_neg h, if_neg h]
theorem g_new {q : Nat} {k Nn index : Nat} {Cn : String} {T : u_T} {ty : Nat → FieldType} (C : gC p s m args c cc nL own Ts X) (hd : decode cc pc = .ok (.new index, 3)) (hc : gCl Ts k Cn T Nn) (hty : gTy T Nn ty) (hcl : (Cond.classLink own index Cn).before args s = true) (hinst : (Cond.instantiable Cn Nn).before args s = true) (hini : (Cond.initialized Cn).before args s = true) (hdf : ∀ j, j < Nn → defaultValue (ty j) = vp_V ((gT k).map gDf) j) (hfit : cells + 1 ≤ Rm.cells ∧ slots + Nn ≤ Rm.slots) (hq : S.length = q)
    (kk : gW p l e Rm s m args below meth c X nL Q (cells + 1) (slots + Nn) (gZ I q) (gZn R q) (S ++ [(k, Nn)]) (pc + 3) lv (.ref (X.1 + q) :: st)) : gW p l e Rm s m args below meth c X nL Q cells slots I R S pc lv st := by
  subst hq
  intro H locs ls hR hS hl
  have hKn := C.2.2.2.2.2.1.1 k _ hc.2.1
  refine W.newcK C.1 C.2.1 C.2.2.2.1 hcl hinst hini rfl hd hfit.1 hfit.2 hKn.2.1 hR.1 fun H' kC hkC e1 z1 o1 => ?_
  rw [← hR.1] at e1 o1 z1
  refine kk H' locs ls (gReal_push hR z1 o1 ?_ (fun a h => gZ_ne h) (fun a h => gZn_ne h)) (hS.grow (by omega) o1) hl
  rw [gE_obj hc.1, gDf_map, ← hR.1]
  exact ⟨_, hc.2.1, (u_born ty C.2.2.2.2.1 hc.2.2.2 hKn hkC e1 hty.1).to hdf⟩
theorem g_anewa {q : Nat} {n : Int32} {N' index : Nat} {Cn : String} (t : Nat) (C : gC p s m args c cc nL own Ts X) (hd : decode cc pc = .ok (.anewarray index, 3)) (hcl : (Cond.classLink own index Cn).before args s = true) (hover : va_AO Cn s) (h1 : 1 ≤ t) (ht : (gTys X.2.2.2)[t]? = some (X.2.2.2 t, .object Cn)) (hn : ¬ n < 0) (hN : n.toNatClampNeg = N') (hb : N' * 4 ≤ 536870912) (hfit : cells + 1 ≤ Rm.cells ∧ slots + N' ≤ Rm.slots) (hq : S.length = q)
    (kk : gW p l e Rm s m args below meth c X nL Q (cells + 1) (slots + N') I (gZn R q) (S ++ [(12 + t, N')]) (pc + 3) lv (.ref (X.1 + q) :: st)) : gW p l e Rm s m args below meth c X nL Q cells slots I R S pc lv (.int n :: st) := by
  subst hq
  intro H locs ls hR hS hl
  subst hN
  refine W.anew C.1 C.2.1 C.2.2.2.1 hcl (va_AO.use hover) rfl hd rfl hn hb hfit.1 hfit.2 fun cA kA comp f1 f2 f3 f4 => ?_
  obtain ⟨kA', comp', g1, g2, g3, g4⟩ := (C.2.2.2.2.2.1.2 t _ ht).2
  have hcA : cA = X.2.2.2 t := Option.some.inj (f1.symm.trans g4)
  subst hcA
  generalize hH1 : H.push ({ cls := X.2.2.2 t, slots := Array.replicate n.toNatClampNeg .null, vm := .none } : Cell) = H1
  have z1 : H1.size = H.size + 1 := by rw [← hH1, Array.size_push]
  have e1 : H1[H.size]? = some (arrV (X.2.2.2 t) n.toNatClampNeg (fun _ => .null)) := by rw [← hH1, Array.getElem?_push_size, ← arrV_new]
  have o1 : ∀ a : Nat, a < H.size → H1[a]? = H[a]? := fun a ha => by rw [← hH1, Array.getElem?_push_lt ha, Array.getElem?_eq_getElem ha]
  have hsz : X.1 + S.length = H.size := hR.1.symm
  refine W.eq (g2 := F0 m (pc + 3) ls (.ref (X.1 + S.length) :: st)) (by rw [hsz]) (kk H1 locs ls (gReal_push hR z1 o1 ?_ (fun _ _ => rfl) (fun a h => gZn_ne h)) (hS.grow (by omega) o1) hl)
  rw [gE_ref t h1, gZn_at]
  show H1[X.1 + S.length]? = some (vp_cell _ _)
  rw [vp_cell_q, hsz]
  exact e1
theorem gouter (c : ClassId) (N h0 : Nat) : ∀ i : Nat, Jvm.Free.Multi.outerC c N h0 i = arrV c N (fun j => va_rf (if j < i then some (h0 + 1 + j) else none))
  | 0 => by
    show ({ cls := c, slots := Array.replicate N .null, vm := .none } : Cell) = _
    rw [arrV_new]
    refine congrArg (arrV c N) (funext fun j => ?_)
    simp [va_rf]
  | i + 1 => by
    show (Jvm.Free.Multi.outerC c N h0 i).setSlot i (.ref (h0 + 1 + i)) = _
    rw [gouter c N h0 i, arrV_store]
    refine congrArg (arrV c N) (funext fun j => ?_)
    by_cases e : j = i
    · subst e
      simp [updV, va_rf]
    · by_cases h : j < i
      · simp [updV, e, h, Nat.lt_succ_of_lt h]
      · simp [updV, e, h, show ¬ j < i + 1 by omega]
def gAOA (U : State) : Prop := (Cond.arrayOver (.array .int)).before #[] U = true
/-- n cells more, all rows of ints of one length -/
theorem gReal_rows {H H' : Heap} {I' : gI} {R' : gR} (kn : Nat × Nat) (n k : Nat) (hR : gReal X I R S H) (hz : H'.size = H.size + 1 + n) (ho : ∀ a : Nat, a < H.size → H'[a]? = H[a]?) (hq : va_at X.2.2.1 vwCl (X.1 + S.length, gE X.1 X.2.2.2 I' R' S.length kn) H') (hrow : ∀ j, j < n → va_at X.2.2.1 vwCl (X.1 + (S.length + 1 + j), gE X.1 X.2.2.2 I' R' (S.length + 1 + j) (12, k)) H') (hI : ∀ a, a < S.length → I' a = I a) (hRr : ∀ a, a < S.length → R' a = R a) : gReal X I' R' (S ++ (kn :: List.replicate n (12, k))) H' := by
  have hs := hR.1
  refine ⟨by rw [hz, hs, List.length_append, List.length_cons, List.length_replicate]; omega, fun a ha => by rw [ho a (by omega)]; exact hR.2.1 a ha, fun a x ha => ?_⟩
  by_cases h : a < S.length
  · rw [List.getElem?_append_left h] at ha
    rw [gE_kept x (hI a h) (hRr a h)]
    exact (hR.2.2 a x ha).kept (ho _ (by show X.1 + a < H.size; omega))
  · rw [List.getElem?_append_right (by omega)] at ha
    cases hd : a - S.length with
    | zero =>
      rw [hd] at ha
      cases ha
      have e : a = S.length := by omega
      subst e
      exact hq
    | succ j =>
      rw [hd] at ha
      have ha2 : (List.replicate n (12, k))[j]? = some x := ha
      obtain ⟨hj, hx⟩ := List.getElem?_eq_some_iff.mp ha2
      rw [List.length_replicate] at hj
      rw [List.getElem_replicate] at hx
      subst hx
      have e : a = S.length + 1 + j := by omega
      subst e
      exact hrow j hj
theorem g_mna {q : Nat} {n k : Int32} {N' K' index : Nat} (C : gC p s m args c cc nL own Ts X) (hd : decode cc pc = .ok (.multianewarray index 2, 4)) (hcl : (Cond.classLink own index "[[I").before args s = true) (hover : gAOA s) (harr : (Cond.arrayClass .int).before args s = true) (hn : ¬ n < 0) (hk : ¬ k < 0) (hN : n.toNatClampNeg = N') (hK' : k.toNatClampNeg = K') (hb : N' * 4 ≤ 536870912 ∧ K' * 4 ≤ 536870912) (hfit : cells + (1 + N') ≤ Rm.cells ∧ slots + (N' + N' * K') ≤ Rm.slots) (hq : S.length = q)
    (kk : gW p l e Rm s m args below meth c X nL Q (cells + 1 + N') (slots + N' + N' * K') (gZs I q N') (gZg R q N') (S ++ ((13, N') :: List.replicate N' (12, K'))) (pc + 4) lv (.ref (X.1 + q) :: st)) : gW p l e Rm s m args below meth c X nL Q cells slots I R S pc lv (.int k :: .int n :: st) := by
  subst hq
  subst hN
  subst hK'
  intro H locs ls hR hS hl T hT Xs
  obtain ⟨vm₁, cA, comp, -, fA, fC, hO, -, X', step⟩ := Xs.multianewarray2F C.1 (ty := .int) C.2.2.2.1 hcl hover harr (g := F0 m pc ls (.int k :: .int n :: st)) rfl (by rw [C.2.1]; exact hd) rfl hn hk hb.1 hb.2 (by have := hb.2; omega) rfl rfl hfit.1 hfit.2
  have hcA : cA = X.2.2.2 1 := Option.some.inj (fA.symm.trans (C.2.2.2.2.2.1.2 1 (X.2.2.2 1, .array .int) rfl).2)
  have hco : comp = X.2.2.2 0 := Option.some.inj (fC.symm.trans (C.2.2.2.2.2.1.2 0 (X.2.2.2 0, .int) rfl).2)
  subst hcA
  subst hco
  generalize hF : Jvm.Free.Multi.fill (T.setVm vm₁) (X.2.2.2 1) (X.2.2.2 0) n.toNatClampNeg k.toNatClampNeg (defaultValue .int) n.toNatClampNeg = F at X' step
  have hTh : (T.setVm vm₁).heap = H := hT
  obtain ⟨f1, f2, -, -⟩ := Jvm.Free.Multi.fill_facts (T.setVm vm₁) (X.2.2.2 1) (X.2.2.2 0) n.toNatClampNeg k.toNatClampNeg (defaultValue .int) n.toNatClampNeg
  rw [hF, hTh] at f1 f2
  have hold : ∀ x : Nat, x < H.size → F.heap[x]? = H[x]? := fun x hx => by
    have := Jvm.Free.Multi.fill_old (T.setVm vm₁) (X.2.2.2 1) (X.2.2.2 0) n.toNatClampNeg k.toNatClampNeg (defaultValue .int) (a := x) (by rw [hTh]; exact hx) n.toNatClampNeg
    rw [hF, hTh] at this
    exact this
  have hrow : ∀ j : Nat, j < n.toNatClampNeg → F.heap[H.size + 1 + j]? = some (Jvm.Free.Multi.innerC (X.2.2.2 0) k.toNatClampNeg (defaultValue .int)) := fun j hj => by
    have := Jvm.Free.Multi.fill_inner (T.setVm vm₁) (X.2.2.2 1) (X.2.2.2 0) n.toNatClampNeg k.toNatClampNeg (defaultValue .int) n.toNatClampNeg j hj
    rw [hF, hTh] at this
    exact this
  have hsz : H.size = X.1 + S.length := hR.1
  obtain ⟨t, a1, b1⟩ := kk F.heap locs ls (gReal_rows (13, n.toNatClampNeg) n.toNatClampNeg k.toNatClampNeg hR f1 hold (by
      rw [show (13 : Nat) = 12 + 1 from rfl, gE_ref 1 (by omega)]
      show F.heap[X.1 + S.length]? = some (vp_cell _ _)
      rw [vp_cell_q, ← hsz, f2, gouter]
      congr 2
      funext j
      by_cases hj : j < n.toNatClampNeg
      · simp [gZg, hj, hsz, Nat.add_assoc]
      · simp [gZg, hj]) (fun j hj => by
      show F.heap[X.1 + (S.length + 1 + j)]? = some (vp_cell _ _)
      rw [show X.1 + (S.length + 1 + j) = H.size + 1 + j by omega, hrow j hj, vp_cell_i]
      show some ({ cls := _, slots := Array.replicate k.toNatClampNeg (Value.int 0), vm := _ } : Cell) = some (arrV (X.2.2.2 0) k.toNatClampNeg (fun i => .int (gZs I S.length n.toNatClampNeg (S.length + 1 + j) i)))
      have e : (fun i => Value.int (gZs I S.length n.toNatClampNeg (S.length + 1 + j) i)) = fun _ => Value.int 0 := by
        funext i
        unfold gZs
        rw [if_pos (by omega)]
      rw [e, arrV_new]) (fun a h => by
      funext j
      unfold gZs
      rw [if_neg (by omega)]) (fun a h => by
      funext j
      unfold gZg
      rw [if_neg (by omega)])) (hS.grow (by omega) hold) hl F rfl X'
  refine ⟨t, step t ?_, b1⟩
  have e9 : T.heap.size = X.1 + S.length := by rw [hT]; exact hsz
  rw [e9]
  exact a1
end GD
