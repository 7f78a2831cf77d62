section GH
variable {p : Program} {l : Launch} {e : Env} {Rm : Room} {s : State} {m : MethodId} {args : Array Value} {below : List Frame} {meth : Method} {c : Code} {X : gX} {nL : Nat} {Q : State → Prop} {cells slots : Nat} {I : gI} {R : gR} {S : gS} {pc : Nat} {lv : List (Nat × Value)} {st : List Value} {cc : ByteArray} {own : String} {Ts : List Cond}
theorem g_icmp_eq_t {x y : Int32} {off : Int} {tgt : Nat} (C : gC p s m args c cc nL own Ts X) (hd : decode cc pc = .ok (.if_icmp .eq off, 3)) (ht : (pc : Int) + off = (tgt : Int)) (h : x = y) (k : gW p l e Rm s m args below meth c X nL Q cells slots I R S tgt lv st) : gW p l e Rm s m args below meth c X nL Q cells slots I R S pc lv (.int y :: .int x :: st) :=
  fun H locs ls hR hS hl => lv_icmp_eq (tgt := tgt) C.1 C.2.1 hd ht (fun _ => k H locs ls hR hS hl) (fun z => absurd h z)
theorem g_icmp_eq_f {x y : Int32} {off : Int} {tgt : Nat} (C : gC p s m args c cc nL own Ts X) (hd : decode cc pc = .ok (.if_icmp .eq off, 3)) (ht : (pc : Int) + off = (tgt : Int)) (h : ¬ (x = y)) (k : gW p l e Rm s m args below meth c X nL Q cells slots I R S (pc + 3) lv st) : gW p l e Rm s m args below meth c X nL Q cells slots I R S pc lv (.int y :: .int x :: st) :=
  fun H locs ls hR hS hl => lv_icmp_eq (tgt := tgt) C.1 C.2.1 hd ht (fun z => absurd z h) (fun _ => k H locs ls hR hS hl)
theorem g_if_eq_t {x : Int32} {off : Int} {tgt : Nat} (C : gC p s m args c cc nL own Ts X) (hd : decode cc pc = .ok (.ifCond .eq off, 3)) (ht : (pc : Int) + off = (tgt : Int)) (h : x = 0) (k : gW p l e Rm s m args below meth c X nL Q cells slots I R S tgt lv st) : gW p l e Rm s m args below meth c X nL Q cells slots I R S pc lv (.int x :: st) :=
  fun H locs ls hR hS hl => lv_if_eq (tgt := tgt) C.1 C.2.1 hd ht (fun _ => k H locs ls hR hS hl) (fun z => absurd h z)
theorem g_if_eq_f {x : Int32} {off : Int} {tgt : Nat} (C : gC p s m args c cc nL own Ts X) (hd : decode cc pc = .ok (.ifCond .eq off, 3)) (ht : (pc : Int) + off = (tgt : Int)) (h : ¬ (x = 0)) (k : gW p l e Rm s m args below meth c X nL Q cells slots I R S (pc + 3) lv st) : gW p l e Rm s m args below meth c X nL Q cells slots I R S pc lv (.int x :: st) :=
  fun H locs ls hR hS hl => lv_if_eq (tgt := tgt) C.1 C.2.1 hd ht (fun z => absurd z h) (fun _ => k H locs ls hR hS hl)
theorem g_icmp_ne_t {x y : Int32} {off : Int} {tgt : Nat} (C : gC p s m args c cc nL own Ts X) (hd : decode cc pc = .ok (.if_icmp .ne off, 3)) (ht : (pc : Int) + off = (tgt : Int)) (h : ¬ x = y) (k : gW p l e Rm s m args below meth c X nL Q cells slots I R S tgt lv st) : gW p l e Rm s m args below meth c X nL Q cells slots I R S pc lv (.int y :: .int x :: st) :=
  fun H locs ls hR hS hl => lv_icmp_ne (tgt := tgt) C.1 C.2.1 hd ht (fun _ => k H locs ls hR hS hl) (fun z => absurd z h)
theorem g_icmp_ne_f {x y : Int32} {off : Int} {tgt : Nat} (C : gC p s m args c cc nL own Ts X) (hd : decode cc pc = .ok (.if_icmp .ne off, 3)) (ht : (pc : Int) + off = (tgt : Int)) (h : x = y) (k : gW p l e Rm s m args below meth c X nL Q cells slots I R S (pc + 3) lv st) : gW p l e Rm s m args below meth c X nL Q cells slots I R S pc lv (.int y :: .int x :: st) :=
  fun H locs ls hR hS hl => lv_icmp_ne (tgt := tgt) C.1 C.2.1 hd ht (fun z => absurd h z) (fun _ => k H locs ls hR hS hl)
theorem g_if_ne_t {x : Int32} {off : Int} {tgt : Nat} (C : gC p s m args c cc nL own Ts X) (hd : decode cc pc = .ok (.ifCond .ne off, 3)) (ht : (pc : Int) + off = (tgt : Int)) (h : ¬ x = 0) (k : gW p l e Rm s m args below meth c X nL Q cells slots I R S tgt lv st) : gW p l e Rm s m args below meth c X nL Q cells slots I R S pc lv (.int x :: st) :=
  fun H locs ls hR hS hl => lv_if_ne (tgt := tgt) C.1 C.2.1 hd ht (fun _ => k H locs ls hR hS hl) (fun z => absurd z h)
theorem g_if_ne_f {x : Int32} {off : Int} {tgt : Nat} (C : gC p s m args c cc nL own Ts X) (hd : decode cc pc = .ok (.ifCond .ne off, 3)) (ht : (pc : Int) + off = (tgt : Int)) (h : x = 0) (k : gW p l e Rm s m args below meth c X nL Q cells slots I R S (pc + 3) lv st) : gW p l e Rm s m args below meth c X nL Q cells slots I R S pc lv (.int x :: st) :=
  fun H locs ls hR hS hl => lv_if_ne (tgt := tgt) C.1 C.2.1 hd ht (fun z => absurd h z) (fun _ => k H locs ls hR hS hl)
theorem g_icmp_lt_t {x y : Int32} {off : Int} {tgt : Nat} (C : gC p s m args c cc nL own Ts X) (hd : decode cc pc = .ok (.if_icmp .lt off, 3)) (ht : (pc : Int) + off = (tgt : Int)) (h : x < y) (k : gW p l e Rm s m args below meth c X nL Q cells slots I R S tgt lv st) : gW p l e Rm s m args below meth c X nL Q cells slots I R S pc lv (.int y :: .int x :: st) :=
  fun H locs ls hR hS hl => lv_icmp_lt (tgt := tgt) C.1 C.2.1 hd ht (fun _ => k H locs ls hR hS hl) (fun z => absurd h z)
theorem g_icmp_lt_f {x y : Int32} {off : Int} {tgt : Nat} (C : gC p s m args c cc nL own Ts X) (hd : decode cc pc = .ok (.if_icmp .lt off, 3)) (ht : (pc : Int) + off = (tgt : Int)) (h : ¬ (x < y)) (k : gW p l e Rm s m args below meth c X nL Q cells slots I R S (pc + 3) lv st) : gW p l e Rm s m args below meth c X nL Q cells slots I R S pc lv (.int y :: .int x :: st) :=
  fun H locs ls hR hS hl => lv_icmp_lt (tgt := tgt) C.1 C.2.1 hd ht (fun z => absurd z h) (fun _ => k H locs ls hR hS hl)
theorem g_if_lt_t {x : Int32} {off : Int} {tgt : Nat} (C : gC p s m args c cc nL own Ts X) (hd : decode cc pc = .ok (.ifCond .lt off, 3)) (ht : (pc : Int) + off = (tgt : Int)) (h : x < 0) (k : gW p l e Rm s m args below meth c X nL Q cells slots I R S tgt lv st) : gW p l e Rm s m args below meth c X nL Q cells slots I R S pc lv (.int x :: st) :=
  fun H locs ls hR hS hl => lv_if_lt (tgt := tgt) C.1 C.2.1 hd ht (fun _ => k H locs ls hR hS hl) (fun z => absurd h z)
theorem g_if_lt_f {x : Int32} {off : Int} {tgt : Nat} (C : gC p s m args c cc nL own Ts X) (hd : decode cc pc = .ok (.ifCond .lt off, 3)) (ht : (pc : Int) + off = (tgt : Int)) (h : ¬ (x < 0)) (k : gW p l e Rm s m args below meth c X nL Q cells slots I R S (pc + 3) lv st) : gW p l e Rm s m args below meth c X nL Q cells slots I R S pc lv (.int x :: st) :=
  fun H locs ls hR hS hl => lv_if_lt (tgt := tgt) C.1 C.2.1 hd ht (fun z => absurd z h) (fun _ => k H locs ls hR hS hl)
theorem g_icmp_ge_t {x y : Int32} {off : Int} {tgt : Nat} (C : gC p s m args c cc nL own Ts X) (hd : decode cc pc = .ok (.if_icmp .ge off, 3)) (ht : (pc : Int) + off = (tgt : Int)) (h : y ≤ x) (k : gW p l e Rm s m args below meth c X nL Q cells slots I R S tgt lv st) : gW p l e Rm s m args below meth c X nL Q cells slots I R S pc lv (.int y :: .int x :: st) :=
  fun H locs ls hR hS hl => lv_icmp_ge (tgt := tgt) C.1 C.2.1 hd ht (fun _ => k H locs ls hR hS hl) (fun z => absurd h z)
theorem g_icmp_ge_f {x y : Int32} {off : Int} {tgt : Nat} (C : gC p s m args c cc nL own Ts X) (hd : decode cc pc = .ok (.if_icmp .ge off, 3)) (ht : (pc : Int) + off = (tgt : Int)) (h : ¬ (y ≤ x)) (k : gW p l e Rm s m args below meth c X nL Q cells slots I R S (pc + 3) lv st) : gW p l e Rm s m args below meth c X nL Q cells slots I R S pc lv (.int y :: .int x :: st) :=
  fun H locs ls hR hS hl => lv_icmp_ge (tgt := tgt) C.1 C.2.1 hd ht (fun z => absurd z h) (fun _ => k H locs ls hR hS hl)
theorem g_if_ge_t {x : Int32} {off : Int} {tgt : Nat} (C : gC p s m args c cc nL own Ts X) (hd : decode cc pc = .ok (.ifCond .ge off, 3)) (ht : (pc : Int) + off = (tgt : Int)) (h : 0 ≤ x) (k : gW p l e Rm s m args below meth c X nL Q cells slots I R S tgt lv st) : gW p l e Rm s m args below meth c X nL Q cells slots I R S pc lv (.int x :: st) :=
  fun H locs ls hR hS hl => lv_if_ge (tgt := tgt) C.1 C.2.1 hd ht (fun _ => k H locs ls hR hS hl) (fun z => absurd h z)
theorem g_if_ge_f {x : Int32} {off : Int} {tgt : Nat} (C : gC p s m args c cc nL own Ts X) (hd : decode cc pc = .ok (.ifCond .ge off, 3)) (ht : (pc : Int) + off = (tgt : Int)) (h : ¬ (0 ≤ x)) (k : gW p l e Rm s m args below meth c X nL Q cells slots I R S (pc + 3) lv st) : gW p l e Rm s m args below meth c X nL Q cells slots I R S pc lv (.int x :: st) :=
  fun H locs ls hR hS hl => lv_if_ge (tgt := tgt) C.1 C.2.1 hd ht (fun z => absurd z h) (fun _ => k H locs ls hR hS hl)
theorem g_icmp_gt_t {x y : Int32} {off : Int} {tgt : Nat} (C : gC p s m args c cc nL own Ts X) (hd : decode cc pc = .ok (.if_icmp .gt off, 3)) (ht : (pc : Int) + off = (tgt : Int)) (h : y < x) (k : gW p l e Rm s m args below meth c X nL Q cells slots I R S tgt lv st) : gW p l e Rm s m args below meth c X nL Q cells slots I R S pc lv (.int y :: .int x :: st) :=
  fun H locs ls hR hS hl => lv_icmp_gt (tgt := tgt) C.1 C.2.1 hd ht (fun _ => k H locs ls hR hS hl) (fun z => absurd h z)
theorem g_icmp_gt_f {x y : Int32} {off : Int} {tgt : Nat} (C : gC p s m args c cc nL own Ts X) (hd : decode cc pc = .ok (.if_icmp .gt off, 3)) (ht : (pc : Int) + off = (tgt : Int)) (h : ¬ (y < x)) (k : gW p l e Rm s m args below meth c X nL Q cells slots I R S (pc + 3) lv st) : gW p l e Rm s m args below meth c X nL Q cells slots I R S pc lv (.int y :: .int x :: st) :=
  fun H locs ls hR hS hl => lv_icmp_gt (tgt := tgt) C.1 C.2.1 hd ht (fun z => absurd z h) (fun _ => k H locs ls hR hS hl)
theorem g_if_gt_t {x : Int32} {off : Int} {tgt : Nat} (C : gC p s m args c cc nL own Ts X) (hd : decode cc pc = .ok (.ifCond .gt off, 3)) (ht : (pc : Int) + off = (tgt : Int)) (h : 0 < x) (k : gW p l e Rm s m args below meth c X nL Q cells slots I R S tgt lv st) : gW p l e Rm s m args below meth c X nL Q cells slots I R S pc lv (.int x :: st) :=
  fun H locs ls hR hS hl => lv_if_gt (tgt := tgt) C.1 C.2.1 hd ht (fun _ => k H locs ls hR hS hl) (fun z => absurd h z)
theorem g_if_gt_f {x : Int32} {off : Int} {tgt : Nat} (C : gC p s m args c cc nL own Ts X) (hd : decode cc pc = .ok (.ifCond .gt off, 3)) (ht : (pc : Int) + off = (tgt : Int)) (h : ¬ (0 < x)) (k : gW p l e Rm s m args below meth c X nL Q cells slots I R S (pc + 3) lv st) : gW p l e Rm s m args below meth c X nL Q cells slots I R S pc lv (.int x :: st) :=
  fun H locs ls hR hS hl => lv_if_gt (tgt := tgt) C.1 C.2.1 hd ht (fun z => absurd z h) (fun _ => k H locs ls hR hS hl)
theorem g_icmp_le_t {x y : Int32} {off : Int} {tgt : Nat} (C : gC p s m args c cc nL own Ts X) (hd : decode cc pc = .ok (.if_icmp .le off, 3)) (ht : (pc : Int) + off = (tgt : Int)) (h : x ≤ y) (k : gW p l e Rm s m args below meth c X nL Q cells slots I R S tgt lv st) : gW p l e Rm s m args below meth c X nL Q cells slots I R S pc lv (.int y :: .int x :: st) :=
  fun H locs ls hR hS hl => lv_icmp_le (tgt := tgt) C.1 C.2.1 hd ht (fun _ => k H locs ls hR hS hl) (fun z => absurd h z)
theorem g_icmp_le_f {x y : Int32} {off : Int} {tgt : Nat} (C : gC p s m args c cc nL own Ts X) (hd : decode cc pc = .ok (.if_icmp .le off, 3)) (ht : (pc : Int) + off = (tgt : Int)) (h : ¬ (x ≤ y)) (k : gW p l e Rm s m args below meth c X nL Q cells slots I R S (pc + 3) lv st) : gW p l e Rm s m args below meth c X nL Q cells slots I R S pc lv (.int y :: .int x :: st) :=
  fun H locs ls hR hS hl => lv_icmp_le (tgt := tgt) C.1 C.2.1 hd ht (fun z => absurd z h) (fun _ => k H locs ls hR hS hl)
theorem g_if_le_t {x : Int32} {off : Int} {tgt : Nat} (C : gC p s m args c cc nL own Ts X) (hd : decode cc pc = .ok (.ifCond .le off, 3)) (ht : (pc : Int) + off = (tgt : Int)) (h : x ≤ 0) (k : gW p l e Rm s m args below meth c X nL Q cells slots I R S tgt lv st) : gW p l e Rm s m args below meth c X nL Q cells slots I R S pc lv (.int x :: st) :=
  fun H locs ls hR hS hl => lv_if_le (tgt := tgt) C.1 C.2.1 hd ht (fun _ => k H locs ls hR hS hl) (fun z => absurd h z)
theorem g_if_le_f {x : Int32} {off : Int} {tgt : Nat} (C : gC p s m args c cc nL own Ts X) (hd : decode cc pc = .ok (.ifCond .le off, 3)) (ht : (pc : Int) + off = (tgt : Int)) (h : ¬ (x ≤ 0)) (k : gW p l e Rm s m args below meth c X nL Q cells slots I R S (pc + 3) lv st) : gW p l e Rm s m args below meth c X nL Q cells slots I R S pc lv (.int x :: st) :=
  fun H locs ls hR hS hl => lv_if_le (tgt := tgt) C.1 C.2.1 hd ht (fun z => absurd z h) (fun _ => k H locs ls hR hS hl)
theorem g_same {args : Array Value} {a b n d : String} (h : (Cond.sameField a b n d).before args s = true) : ∀ x, s.fieldFound? b n d = some x → s.fieldFound? a n d = some x := by
  exact fun x hx => u_same h x hx
/-- what the constructors rest on beside the tables' words -/
def gEC (X : gX) (tm : Nat) (U : State) : Prop := va_AO RX5 U ∧ va_AO RX10 U ∧ gAOA U ∧ va_Z "TimesByPowers$Field" "MODULI" "[I" (.ref tm) (fun q => X.1 ≤ q) U U.heap ∧ va_T .int tm 18 (fun j => .int (gMod j)) (fun q => X.1 ≤ q) U U.heap ∧ va_Nw (.methodLinkNest RX11 23 yX9_init RX11) U ∧ va_Nw (.methodLinkNest RX11 75 yX5_init RX11) U
theorem gAOA_moved {u U : State} (hvm : u.vm.Alike U.vm) (h : gAOA u) : gAOA U := by
  obtain ⟨comp, c, k, h1, h2, h3, h4, h5⟩ := arrayOverA_spec h
  obtain ⟨k', hk', he⟩ := hvm.2.2 _ _ h3
  have hi : (U.vm.classes.findIdx? fun (x : Class) => match x.kind with | .array component _ => component == comp | _ => false) = some c := by
    have e1 := va_idx_bare U.vm comp
    rw [hvm.bare_eq] at e1
    exact (e1.symm.trans (va_idx_bare u.vm comp)).trans h2
  have hkind : k'.kind = .array comp (.array .int) := by rw [he]; exact h4
  have f1 : U.vm.findClass (FieldType.array .int).toString = some comp := by rw [hvm.findClass]; exact h1
  have f2 : U.vm.findClass ("[" ++ (FieldType.array .int).toString) = some c := by rw [hvm.findClass]; exact h5
  unfold gAOA Cond.before Cond.holds
  simp only [Cond.value]
  rw [f1, Option.bind_some]
  refine (congrArg (fun o : Option Nat => (o.bind (fun c => (U.vm.classes[c]?).map fun (k : Class) => match k.kind with | .array _ ty => decide (ty = FieldType.array .int) && decide (U.vm.findClass ("[" ++ (FieldType.array .int).toString) = some c) | _ => false) == some true)) hi).trans ?_
  simp [hk', hkind, f2]
theorem va_Z.keep {C n d : String} {v : Value} {A : Nat → Prop} {U : State} {H H1 : Heap} (h : va_Z C n d v A U H) (hk : ∀ a : Nat, a < H.size → ¬ A a → H1[a]? = H[a]?) : va_Z C n d v A U H1 := by
  obtain ⟨cf, kf, fi, f, a, cell, h1, h2, h3, h4, h5, h6, h7, h8⟩ := h
  exact ⟨cf, kf, fi, f, a, cell, h1, h2, h3, h4, by rw [hk a (Array.getElem?_eq_some_iff.mp h5).1 h8]; exact h5, h6, h7, h8⟩
theorem va_T.keep {ty : FieldType} {t N : Nat} {f : Nat → Value} {A : Nat → Prop} {U : State} {H H1 : Heap} (h : va_T ty t N f A U H) (hk : ∀ a : Nat, a < H.size → ¬ A a → H1[a]? = H[a]?) : va_T ty t N f A U H1 := by
  obtain ⟨cell, h1, h2, h3, h4, h5, h6, h7⟩ := h
  exact ⟨cell, by rw [hk t (Array.getElem?_eq_some_iff.mp h1).1 h7]; exact h1, h2, h3, h4, h5, h6, h7⟩
theorem gEC_in {tm : Nat} (h : gEC X tm s) : gEin X I R S s (gEC X tm) := by
  refine ⟨fun a U g mk h => ?_, fun H locs U hR hS hU hW => ?_⟩
  · obtain ⟨h1, h2, h3, h4, h5, h6, h7⟩ := h
    have hA : U.vm.Alike (U.calling g mk a).vm := Vm.Alike.refl U.vm
    exact ⟨h1.moved hA, h2.moved hA, gAOA_moved hA h3, h4.moved hA, h5.moved hA, h6.same rfl rfl, h7.same rfl rfl⟩
  · obtain ⟨h1, h2, h3, h4, h5, h6, h7⟩ := h
    have hA := hW.alike
    subst hU
    exact ⟨h1.moved hA, h2.moved hA, gAOA_moved hA h3, (h4.moved hA).keep (fun a x y => hS.2.1 a x y), (h5.moved hA).keep (fun a x y => hS.2.1 a x y), h6.warmM hW, h7.warmM hW⟩
theorem g_getS {index tm : Nat} (C : gC p s m args c cc nL own Ts X) (hd : decode cc pc = .ok (.getstatic index, 3)) (hZ : va_Z "TimesByPowers$Field" "MODULI" "[I" (.ref tm) (fun q => X.1 ≤ q) s s.heap) (hlink : (Cond.fieldLink own index "TimesByPowers$Field" "MODULI" "[I").before args s = true) (kk : gW p l e Rm s m args below meth c X nL Q cells slots I R S (pc + 3) lv (.ref tm :: st)) : gW p l e Rm s m args below meth c X nL Q cells slots I R S pc lv st :=
  fun H locs ls hR hS hl => va_gets C.1 C.2.1 hZ hS C.2.2.2.1 hlink (fun _ h9 => h9) hd (kk H locs ls hR hS hl)
theorem g_ialdS {τ : Type} {A o : Option τ} {tm : Nat} {i : Int32} (C : gC p s m args c cc nL own Ts X) (hd : decode cc pc = .ok (.iaload, 1)) (hT : va_T .int tm 18 (fun j => .int (gMod j)) (fun q => X.1 ≤ q) s s.heap) (ho : o ≠ none) (hf : (if i < 0 ∨ 18 ≤ i.toNatClampNeg then none else A) = o) (kk : A = o → gW p l e Rm s m args below meth c X nL Q cells slots I R S (pc + 1) lv (.int (gMod i.toNatClampNeg) :: st)) : gW p l e Rm s m args below meth c X nL Q cells slots I R S pc lv (.int i :: .ref tm :: st) := by
  by_cases h : i < 0 ∨ 18 ≤ i.toNatClampNeg
  · rw [if_pos h] at hf; exact absurd hf.symm ho
  · rw [if_neg h] at hf
    exact fun H locs ls hR hS hl => va_ti C.1 C.2.1 hT hS h rfl hd (kk hf H locs ls hR hS hl)
end GH
theorem gd0 : ∀ j, j < 12 → defaultValue (tyX0 j) = vp_V ((gT 0).map gDf) j := fun j hj => by
  rcases (show j = 0 ∨ j = 1 ∨ j = 2 ∨ j = 3 ∨ j = 4 ∨ j = 5 ∨ j = 6 ∨ j = 7 ∨ j = 8 ∨ j = 9 ∨ j = 10 ∨ j = 11 by omega) with rfl | rfl | rfl | rfl | rfl | rfl | rfl | rfl | rfl | rfl | rfl | rfl <;> rfl
theorem gd1 : ∀ j, j < 4 → defaultValue (tyX1 j) = vp_V ((gT 1).map gDf) j := fun j hj => by
  rcases (show j = 0 ∨ j = 1 ∨ j = 2 ∨ j = 3 by omega) with rfl | rfl | rfl | rfl <;> rfl
theorem gd2 : ∀ j, j < 8 → defaultValue (tyX2 j) = vp_V ((gT 2).map gDf) j := fun j hj => by
  rcases (show j = 0 ∨ j = 1 ∨ j = 2 ∨ j = 3 ∨ j = 4 ∨ j = 5 ∨ j = 6 ∨ j = 7 by omega) with rfl | rfl | rfl | rfl | rfl | rfl | rfl | rfl <;> rfl
theorem gd3 : ∀ j, j < 4 → defaultValue (tyX3 j) = vp_V ((gT 3).map gDf) j := fun j hj => by
  rcases (show j = 0 ∨ j = 1 ∨ j = 2 ∨ j = 3 by omega) with rfl | rfl | rfl | rfl <;> rfl
theorem gd4 : ∀ j, j < 5 → defaultValue (tyX4 j) = vp_V ((gT 4).map gDf) j := fun j hj => by
  rcases (show j = 0 ∨ j = 1 ∨ j = 2 ∨ j = 3 ∨ j = 4 by omega) with rfl | rfl | rfl | rfl | rfl <;> rfl
theorem gd5 : ∀ j, j < 3 → defaultValue (tyX5 j) = vp_V ((gT 5).map gDf) j := fun j hj => by
  rcases (show j = 0 ∨ j = 1 ∨ j = 2 by omega) with rfl | rfl | rfl <;> rfl
theorem gd6 : ∀ j, j < 10 → defaultValue (tyX6 j) = vp_V ((gT 6).map gDf) j := fun j hj => by
  rcases (show j = 0 ∨ j = 1 ∨ j = 2 ∨ j = 3 ∨ j = 4 ∨ j = 5 ∨ j = 6 ∨ j = 7 ∨ j = 8 ∨ j = 9 by omega) with rfl | rfl | rfl | rfl | rfl | rfl | rfl | rfl | rfl | rfl <;> rfl
theorem gd7 : ∀ j, j < 5 → defaultValue (tyX7 j) = vp_V ((gT 7).map gDf) j := fun j hj => by
  rcases (show j = 0 ∨ j = 1 ∨ j = 2 ∨ j = 3 ∨ j = 4 by omega) with rfl | rfl | rfl | rfl | rfl <;> rfl
theorem gd8 : ∀ j, j < 10 → defaultValue (tyX8 j) = vp_V ((gT 8).map gDf) j := fun j hj => by
  rcases (show j = 0 ∨ j = 1 ∨ j = 2 ∨ j = 3 ∨ j = 4 ∨ j = 5 ∨ j = 6 ∨ j = 7 ∨ j = 8 ∨ j = 9 by omega) with rfl | rfl | rfl | rfl | rfl | rfl | rfl | rfl | rfl | rfl <;> rfl
theorem gd9 : ∀ j, j < 2 → defaultValue (tyX9 j) = vp_V ((gT 9).map gDf) j := fun j hj => by
  rcases (show j = 0 ∨ j = 1 by omega) with rfl | rfl <;> rfl
theorem gd10 : ∀ j, j < 8 → defaultValue (tyX11 j) = vp_V ((gT 10).map gDf) j := fun j hj => by
  rcases (show j = 0 ∨ j = 1 ∨ j = 2 ∨ j = 3 ∨ j = 4 ∨ j = 5 ∨ j = 6 ∨ j = 7 by omega) with rfl | rfl | rfl | rfl | rfl | rfl | rfl | rfl <;> rfl
theorem gd11 : ∀ j, j < 29 → defaultValue (tyX12 j) = vp_V ((gT 11).map gDf) j := fun j hj => by
  rcases (show j = 0 ∨ j = 1 ∨ j = 2 ∨ j = 3 ∨ j = 4 ∨ j = 5 ∨ j = 6 ∨ j = 7 ∨ j = 8 ∨ j = 9 ∨ j = 10 ∨ j = 11 ∨ j = 12 ∨ j = 13 ∨ j = 14 ∨ j = 15 ∨ j = 16 ∨ j = 17 ∨ j = 18 ∨ j = 19 ∨ j = 20 ∨ j = 21 ∨ j = 22 ∨ j = 23 ∨ j = 24 ∨ j = 25 ∨ j = 26 ∨ j = 27 ∨ j = 28 by omega) with rfl | rfl | rfl | rfl | rfl | rfl | rfl | rfl | rfl | rfl | rfl | rfl | rfl | rfl | rfl | rfl | rfl | rfl | rfl | rfl | rfl | rfl | rfl | rfl | rfl | rfl | rfl | rfl | rfl <;> rfl
theorem gs1 {α : Type} {a b : α} (h : some a = some b) : a = b := Option.some.inj h
theorem gs2 {α β : Type} {a c : α} {b d : β} (h : some (a, b) = some (c, d)) : a = c ∧ b = d := Prod.mk.inj (Option.some.inj h)
theorem gs3 {α β γ : Type} {a c : α} {b d : β} {x y : γ} (h : some (a, b, x) = some (c, d, y)) : a = c ∧ b = d ∧ x = y := ⟨(Prod.mk.inj (Option.some.inj h)).1, Prod.mk.inj (Prod.mk.inj (Option.some.inj h)).2⟩
theorem gs4 {α β γ δ : Type} {a c : α} {b d : β} {x y : γ} {u v : δ} (h : some (a, b, x, u) = some (c, d, y, v)) : a = c ∧ b = d ∧ x = y ∧ u = v := ⟨(Prod.mk.inj (Option.some.inj h)).1, (Prod.mk.inj (Prod.mk.inj (Option.some.inj h)).2).1, Prod.mk.inj (Prod.mk.inj (Prod.mk.inj (Option.some.inj h)).2).2⟩
