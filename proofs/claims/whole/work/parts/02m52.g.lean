/-! THE HEAP IN FEW WORDS: what each cell holds: ints by cell and slot, references by cell and slot (cells counted from a base on), shapes -/
abbrev gX : Type := Nat × Heap × va_G × (Nat → ClassId)
/-- the fields of a kind of object, in the order of the tables: a reference or not, and its slot here -/
def gT (k : Nat) : List (Bool × Nat) := match k with
  | 0 => [(true, 0), (true, 1), (false, 2), (false, 3), (true, 4), (true, 1005), (true, 6), (true, 7), (true, 8), (true, 9), (true, 10), (false, 11)]
  | 1 => [(true, 0), (false, 1), (false, 2), (false, 3)]
  | 2 => [(false, 0), (false, 1), (false, 2), (false, 3), (true, 4), (true, 5), (true, 6), (true, 7)]
  | 3 => [(true, 0), (false, 1), (false, 2), (false, 3)]
  | 4 => [(true, 0), (false, 1), (false, 2), (false, 3), (false, 4)]
  | 5 => [(true, 0), (false, 1), (false, 2)]
  | 6 => [(true, 0), (false, 1), (true, 2), (true, 3), (true, 4), (true, 5), (true, 6), (false, 7), (false, 8), (false, 9)]
  | 7 => [(false, 4), (true, 0), (false, 1), (false, 2), (false, 3)]
  | 8 => [(true, 0), (true, 1), (false, 2), (true, 3), (true, 1004), (false, 5), (true, 6), (true, 7), (true, 8), (true, 9)]
  | 9 => [(true, 0), (false, 1)]
  | 10 => [(true, 0), (true, 1), (true, 2), (true, 3), (true, 4), (true, 5), (true, 6), (false, 7)]
  | 11 => [(false, 0), (false, 1), (false, 2), (false, 3), (false, 4), (false, 5), (true, 6), (true, 7), (true, 8), (true, 9), (true, 10), (true, 11), (true, 12), (true, 13), (true, 14), (true, 15), (true, 16), (true, 17), (true, 18), (true, 19), (true, 20), (true, 21), (true, 22), (true, 23), (true, 24), (true, 25), (true, 26), (true, 27), (false, 28)]
  | _ => []
/-- a reference that may be none, as a value -/
def gv (b : Nat) (r : Option Nat) : Value := va_rf (r.map (b + ·))
def gV (b : Nat) (I : gI) (R : gR) (q : Nat) (x : Bool × Nat) : Value := if x.1 = true then (if 1000 ≤ x.2 then gv b (gdec (I q (x.2 - 1000))) else gv b (R q x.2)) else .int (I q x.2)
def gE (b : Nat) (dA : Nat → ClassId) (I : gI) (R : gR) (q : Nat) (kn : Nat × Nat) : va_E :=
  if kn.1 < 12 then .inr (kn.1, (gT kn.1).map (gV b I R q))
  else if kn.1 = 12 then .inl (dA 0, kn.2, .inl (I q))
  else .inl (dA (kn.1 - 12), kn.2, .inr (.inr (.inr (.inr (fun j => (R q j).map (b + ·))))))
def gReal (X : gX) (I : gI) (R : gR) (S : gS) (H : Heap) : Prop :=
  H.size = X.1 + S.length ∧ (∀ q : Nat, q < X.1 → H[q]? = X.2.1[q]?) ∧ ∀ (q : Nat) (kn : Nat × Nat), S[q]? = some kn → va_at X.2.2.1 vwCl (X.1 + q, gE X.1 X.2.2.2 I R q kn) H
def gTys (dA : Nat → ClassId) : List (ClassId × FieldType) := [(dA 0, .int), (dA 1, .array .int), (dA 2, .object RX5), (dA 3, .object RX10)]
/-- the locals, the newest first -/
def gGet (lv : List (Nat × Value)) (i : Nat) : Option Value := match lv with
  | [] => none
  | q :: lv => if q.1 = i then some q.2 else gGet lv i
def gSet (lv : List (Nat × Value)) (i : Nat) (v : Value) : List (Nat × Value) := match lv with
  | [] => [(i, v)]
  | q :: lv => if q.1 = i then (i, v) :: lv else q :: gSet lv i v
/-- no local stands twice, none is a long's first half ahead of place i -/
def gFine (lv : List (Nat × Value)) (i : Nat) : Bool := lv.all (fun q => !(q.1 + 1 == i && q.2.category == 2))
theorem gGet_mem {lv : List (Nat × Value)} {i : Nat} {v : Value} (h : gGet lv i = some v) : (i, v) ∈ lv := by
  induction lv with
  | nil => cases h
  | cons q lv ih =>
    unfold gGet at h
    split at h
    · rename_i hq
      cases h
      rw [← hq]
      exact List.mem_cons_self
    · exact List.mem_cons_of_mem _ (ih h)
theorem gGet_lv {ls : Array Slot} {nL : Nat} {lv : List (Nat × Value)} {i : Nat} {v : Value} (h : lv_has ls nL lv) (hg : gGet lv i = some v) : ls[i]? = some (.val v) := h.2.2 (i, v) (gGet_mem hg)
def gUniq (lv : List (Nat × Value)) : Bool := match lv with
  | [] => true
  | q :: lv => lv.all (fun x => !(x.1 == q.1)) && gUniq lv
theorem gSet_mem {lv : List (Nat × Value)} {i : Nat} {v : Value} (hu : gUniq lv = true) {x : Nat × Value} (hx : x ∈ gSet lv i v) : x = (i, v) ∨ (x ∈ lv ∧ x.1 ≠ i) := by
  induction lv with
  | nil => exact Or.inl (List.mem_singleton.mp hx)
  | cons q lv ih =>
    unfold gUniq at hu
    rw [Bool.and_eq_true] at hu
    unfold gSet at hx
    split at hx
    · rename_i hq
      rcases List.mem_cons.mp hx with h | h
      · exact Or.inl h
      · refine Or.inr ⟨List.mem_cons_of_mem _ h, fun e => ?_⟩
        have := List.all_eq_true.mp hu.1 x h
        rw [e, hq] at this
        simp at this
    · rename_i hq
      rcases List.mem_cons.mp hx with h | h
      · subst h; exact Or.inr ⟨List.mem_cons_self, hq⟩
      · rcases ih hu.2 h with h | h
        · exact Or.inl h
        · exact Or.inr ⟨List.mem_cons_of_mem _ h.1, h.2⟩
theorem gSet_lv {ls' : Array Slot} {nL : Nat} {lv : List (Nat × Value)} {i : Nat} {v : Value} (hu : gUniq lv = true) (hf : gFine lv i = true) (h : lv_has ls' nL ((i, v) :: lv.filter (fun q => !(q.1 == i) && !(q.1 + 1 == i && q.2.category == 2)))) : lv_has ls' nL (gSet lv i v) := by
  refine ⟨h.1, h.2.1, fun x hx => ?_⟩
  rcases gSet_mem hu hx with hx | ⟨hx, hn⟩
  · subst hx; exact h.2.2 _ List.mem_cons_self
  · refine h.2.2 x (List.mem_cons_of_mem _ (List.mem_filter.mpr ⟨hx, ?_⟩))
    rw [Bool.and_eq_true]
    refine ⟨by simp [hn], List.all_eq_true.mp hf x hx⟩
/-- the context of a walk: the machine, the code, the tables' words, the classes -/
def gC (p : Program) (s : State) (m : MethodId) (args : Array Value) (c : Code) (cc : ByteArray) (nL : Nat) (own : String) (Ts : List Cond) (X : gX) : Prop :=
  p.tables.exec = Jvm.exec ∧ c.code = cc ∧ c.maxLocals = nL ∧ s.vm.findClass own = some m.cls ∧ (∀ w ∈ Ts, w.before args s = true) ∧ va_K X.2.2.1 vwCl (gTys X.2.2.2) s ∧ X.1 ≤ s.heap.size
def gW (p : Program) (l : Launch) (e : Env) (Rm : Room) (s : State) (m : MethodId) (args : Array Value) (below : List Frame) (meth : Method) (c : Code) (X : gX) (nL : Nat) (Q : State → Prop) (cells slots : Nat) (I : gI) (R : gR) (S : gS) (pc : Nat) (lv : List (Nat × Value)) (st : List Value) : Prop :=
  ∀ (H : Heap) (locs : List Loc) (ls : Array Slot), gReal X I R S H → va_S (fun q => X.1 ≤ q) s.heap H locs → lv_has ls nL lv → W p l e Rm s m args below meth c H locs cells slots Q (F0 m pc ls st)
section GA
variable {p : Program} {l : Launch} {e : Env} {Rm : Room} {s : State} {m : MethodId} {args : Array Value} {below : List Frame} {meth : Method} {c : Code} {X : gX} {nL : Nat} {Q : State → Prop} {cells slots : Nat} {I : gI} {R : gR} {S : gS} {pc : Nat} {lv : List (Nat × Value)} {st : List Value} {cc : ByteArray} {own : String} {Ts : List Cond}
theorem g_iconst {n : Int} {v : Int32} (C : gC p s m args c cc nL own Ts X) (hd : decode cc pc = .ok (.iconst n, 1)) (hv : Int32.ofInt n = v) (k : gW p l e Rm s m args below meth c X nL Q cells slots I R S (pc + 1) lv (.int v :: st)) : gW p l e Rm s m args below meth c X nL Q cells slots I R S pc lv st :=
  fun H locs ls hR hS hl => lv_iconst C.1 C.2.1 hd hv (k H locs ls hR hS hl)
theorem g_bipush {n : Int} {v : Int32} (C : gC p s m args c cc nL own Ts X) (hd : decode cc pc = .ok (.bipush n, 2)) (hv : (Int8.ofInt n).toInt32 = v) (k : gW p l e Rm s m args below meth c X nL Q cells slots I R S (pc + 2) lv (.int v :: st)) : gW p l e Rm s m args below meth c X nL Q cells slots I R S pc lv st :=
  fun H locs ls hR hS hl => lv_bipush C.1 C.2.1 hd hv (k H locs ls hR hS hl)
theorem g_sipush {n : Int} {v : Int32} (C : gC p s m args c cc nL own Ts X) (hd : decode cc pc = .ok (.sipush n, 3)) (hv : (Int16.ofInt n).toInt32 = v) (k : gW p l e Rm s m args below meth c X nL Q cells slots I R S (pc + 3) lv (.int v :: st)) : gW p l e Rm s m args below meth c X nL Q cells slots I R S pc lv st :=
  fun H locs ls hR hS hl => lv_sipush C.1 C.2.1 hd hv (k H locs ls hR hS hl)
theorem g_lconst {n : Fin 2} {v : Int64} (C : gC p s m args c cc nL own Ts X) (hd : decode cc pc = .ok (.lconst n, 1)) (hv : Int64.ofNat (n : Nat) = v) (k : gW p l e Rm s m args below meth c X nL Q cells slots I R S (pc + 1) lv (.long v :: st)) : gW p l e Rm s m args below meth c X nL Q cells slots I R S pc lv st :=
  fun H locs ls hR hS hl => lv_lconst C.1 C.2.1 hd hv (k H locs ls hR hS hl)
theorem g_ldc {index : Nat} {v : Int32} (C : gC p s m args c cc nL own Ts X) (hw : (Jvm.Cond.constant own index v).before args s = true) (hd : decode cc pc = .ok (.ldc index, 2)) (k : gW p l e Rm s m args below meth c X nL Q cells slots I R S (pc + 2) lv (.int v :: st)) : gW p l e Rm s m args below meth c X nL Q cells slots I R S pc lv st :=
  fun H locs ls hR hS hl => lv_ldc C.1 C.2.1 C.2.2.2.1 hw hd (k H locs ls hR hS hl)
theorem g_ldc2 {index : Nat} {v : Int64} (C : gC p s m args c cc nL own Ts X) (hw : (Jvm.Cond.constantLong own index v).before args s = true) (hd : decode cc pc = .ok (.ldc2_w index, 3)) (k : gW p l e Rm s m args below meth c X nL Q cells slots I R S (pc + 3) lv (.long v :: st)) : gW p l e Rm s m args below meth c X nL Q cells slots I R S pc lv st :=
  fun H locs ls hR hS hl => lv_ldc2 C.1 C.2.1 C.2.2.2.1 hw hd (k H locs ls hR hS hl)
theorem g_iload_n {f : Fin 4} {i : Nat} {x : Int32} (C : gC p s m args c cc nL own Ts X) (hd : decode cc pc = .ok (.iload_n f, 1)) (hi : (f : Nat) = i) (hg : gGet lv i = some (.int x)) (k : gW p l e Rm s m args below meth c X nL Q cells slots I R S (pc + 1) lv (.int x :: st)) : gW p l e Rm s m args below meth c X nL Q cells slots I R S pc lv st :=
  fun H locs ls hR hS hl => lv_iload_n C.1 C.2.1 hd hi (gGet_lv hl hg) (k H locs ls hR hS hl)
theorem g_iload {i : Nat} {x : Int32} (C : gC p s m args c cc nL own Ts X) (hd : decode cc pc = .ok (.iload i, 2)) (hg : gGet lv i = some (.int x)) (k : gW p l e Rm s m args below meth c X nL Q cells slots I R S (pc + 2) lv (.int x :: st)) : gW p l e Rm s m args below meth c X nL Q cells slots I R S pc lv st :=
  fun H locs ls hR hS hl => lv_iload C.1 C.2.1 hd (gGet_lv hl hg) (k H locs ls hR hS hl)
theorem g_lload_n {f : Fin 4} {i : Nat} {x : Int64} (C : gC p s m args c cc nL own Ts X) (hd : decode cc pc = .ok (.lload_n f, 1)) (hi : (f : Nat) = i) (hg : gGet lv i = some (.long x)) (k : gW p l e Rm s m args below meth c X nL Q cells slots I R S (pc + 1) lv (.long x :: st)) : gW p l e Rm s m args below meth c X nL Q cells slots I R S pc lv st :=
  fun H locs ls hR hS hl => lv_lload_n C.1 C.2.1 hd hi (gGet_lv hl hg) (k H locs ls hR hS hl)
theorem g_lload {i : Nat} {x : Int64} (C : gC p s m args c cc nL own Ts X) (hd : decode cc pc = .ok (.lload i, 2)) (hg : gGet lv i = some (.long x)) (k : gW p l e Rm s m args below meth c X nL Q cells slots I R S (pc + 2) lv (.long x :: st)) : gW p l e Rm s m args below meth c X nL Q cells slots I R S pc lv st :=
  fun H locs ls hR hS hl => lv_lload C.1 C.2.1 hd (gGet_lv hl hg) (k H locs ls hR hS hl)
theorem g_aload_n {f : Fin 4} {i : Nat} {x : Nat} (C : gC p s m args c cc nL own Ts X) (hd : decode cc pc = .ok (.aload_n f, 1)) (hi : (f : Nat) = i) (hg : gGet lv i = some (.ref x)) (k : gW p l e Rm s m args below meth c X nL Q cells slots I R S (pc + 1) lv (.ref x :: st)) : gW p l e Rm s m args below meth c X nL Q cells slots I R S pc lv st :=
  fun H locs ls hR hS hl => lv_aload_n C.1 C.2.1 hd hi (gGet_lv hl hg) (k H locs ls hR hS hl)
theorem g_aload {i : Nat} {x : Nat} (C : gC p s m args c cc nL own Ts X) (hd : decode cc pc = .ok (.aload i, 2)) (hg : gGet lv i = some (.ref x)) (k : gW p l e Rm s m args below meth c X nL Q cells slots I R S (pc + 2) lv (.ref x :: st)) : gW p l e Rm s m args below meth c X nL Q cells slots I R S pc lv st :=
  fun H locs ls hR hS hl => lv_aload C.1 C.2.1 hd (gGet_lv hl hg) (k H locs ls hR hS hl)
theorem g_aload_nN {f : Fin 4} {i : Nat} (C : gC p s m args c cc nL own Ts X) (hd : decode cc pc = .ok (.aload_n f, 1)) (hi : (f : Nat) = i) (hg : gGet lv i = some .null) (k : gW p l e Rm s m args below meth c X nL Q cells slots I R S (pc + 1) lv (.null :: st)) : gW p l e Rm s m args below meth c X nL Q cells slots I R S pc lv st :=
  fun H locs ls hR hS hl => lv_aload_nN C.1 C.2.1 hd hi (gGet_lv hl hg) (k H locs ls hR hS hl)
theorem g_aloadN {i : Nat} (C : gC p s m args c cc nL own Ts X) (hd : decode cc pc = .ok (.aload i, 2)) (hg : gGet lv i = some .null) (k : gW p l e Rm s m args below meth c X nL Q cells slots I R S (pc + 2) lv (.null :: st)) : gW p l e Rm s m args below meth c X nL Q cells slots I R S pc lv st :=
  fun H locs ls hR hS hl => lv_aloadN C.1 C.2.1 hd (gGet_lv hl hg) (k H locs ls hR hS hl)
theorem g_istore_n {f : Fin 4} {i : Nat} {x : Int32} (C : gC p s m args c cc nL own Ts X) (hd : decode cc pc = .ok (.istore_n f, 1)) (hi : (f : Nat) = i) (hn : i < nL) (hu : gUniq lv = true) (hf : gFine lv i = true) (k : gW p l e Rm s m args below meth c X nL Q cells slots I R S (pc + 1) (gSet lv i (.int x)) st) : gW p l e Rm s m args below meth c X nL Q cells slots I R S pc lv (.int x :: st) :=
  fun H locs ls hR hS hl => lv_istore_n C.1 C.2.1 hd hi hl hn rfl (fun ls' hl' => k H locs ls' hR hS (gSet_lv hu hf hl'))
theorem g_istore {i : Nat} {x : Int32} (C : gC p s m args c cc nL own Ts X) (hd : decode cc pc = .ok (.istore i, 2)) (hn : i < nL) (hu : gUniq lv = true) (hf : gFine lv i = true) (k : gW p l e Rm s m args below meth c X nL Q cells slots I R S (pc + 2) (gSet lv i (.int x)) st) : gW p l e Rm s m args below meth c X nL Q cells slots I R S pc lv (.int x :: st) :=
  fun H locs ls hR hS hl => lv_istore C.1 C.2.1 hd hl hn rfl (fun ls' hl' => k H locs ls' hR hS (gSet_lv hu hf hl'))
theorem g_astore_n {f : Fin 4} {i : Nat} {x : Nat} (C : gC p s m args c cc nL own Ts X) (hd : decode cc pc = .ok (.astore_n f, 1)) (hi : (f : Nat) = i) (hn : i < nL) (hu : gUniq lv = true) (hf : gFine lv i = true) (k : gW p l e Rm s m args below meth c X nL Q cells slots I R S (pc + 1) (gSet lv i (.ref x)) st) : gW p l e Rm s m args below meth c X nL Q cells slots I R S pc lv (.ref x :: st) :=
  fun H locs ls hR hS hl => lv_astore_n C.1 C.2.1 hd hi hl hn rfl (fun ls' hl' => k H locs ls' hR hS (gSet_lv hu hf hl'))
theorem g_astore {i : Nat} {x : Nat} (C : gC p s m args c cc nL own Ts X) (hd : decode cc pc = .ok (.astore i, 2)) (hn : i < nL) (hu : gUniq lv = true) (hf : gFine lv i = true) (k : gW p l e Rm s m args below meth c X nL Q cells slots I R S (pc + 2) (gSet lv i (.ref x)) st) : gW p l e Rm s m args below meth c X nL Q cells slots I R S pc lv (.ref x :: st) :=
  fun H locs ls hR hS hl => lv_astore C.1 C.2.1 hd hl hn rfl (fun ls' hl' => k H locs ls' hR hS (gSet_lv hu hf hl'))
theorem g_iinc {i : Nat} {n : Int} {x v : Int32} (C : gC p s m args c cc nL own Ts X) (hd : decode cc pc = .ok (.iinc i n, 3)) (hg : gGet lv i = some (.int x)) {d : Int32} (hv : Int32.ofInt n = d) (he : x + d = v) (hn : i < nL) (hu : gUniq lv = true) (hf : gFine lv i = true) (k : gW p l e Rm s m args below meth c X nL Q cells slots I R S (pc + 3) (gSet lv i (.int v)) st) : gW p l e Rm s m args below meth c X nL Q cells slots I R S pc lv st := by
  intro H locs ls hR hS hl
  obtain ⟨j, hj⟩ := List.getElem?_of_mem (gGet_mem hg)
  exact lv_iinc C.1 C.2.1 hd hl hj (by rw [hv]; exact he) hn rfl (fun ls' hl' => k H locs ls' hR hS (gSet_lv hu hf hl'))
theorem g_iadd {x y : Int32} (C : gC p s m args c cc nL own Ts X) (hd : decode cc pc = .ok (.iadd, 1)) (k : gW p l e Rm s m args below meth c X nL Q cells slots I R S (pc + 1) lv (.int (x + y) :: st)) : gW p l e Rm s m args below meth c X nL Q cells slots I R S pc lv (.int y :: .int x :: st) :=
  fun H locs ls hR hS hl => lv_iadd C.1 C.2.1 hd (k H locs ls hR hS hl)
theorem g_isub {x y : Int32} (C : gC p s m args c cc nL own Ts X) (hd : decode cc pc = .ok (.isub, 1)) (k : gW p l e Rm s m args below meth c X nL Q cells slots I R S (pc + 1) lv (.int (x - y) :: st)) : gW p l e Rm s m args below meth c X nL Q cells slots I R S pc lv (.int y :: .int x :: st) :=
  fun H locs ls hR hS hl => lv_isub C.1 C.2.1 hd (k H locs ls hR hS hl)
theorem g_imul {x y : Int32} (C : gC p s m args c cc nL own Ts X) (hd : decode cc pc = .ok (.imul, 1)) (k : gW p l e Rm s m args below meth c X nL Q cells slots I R S (pc + 1) lv (.int (x * y) :: st)) : gW p l e Rm s m args below meth c X nL Q cells slots I R S pc lv (.int y :: .int x :: st) :=
  fun H locs ls hR hS hl => lv_imul C.1 C.2.1 hd (k H locs ls hR hS hl)
theorem g_iand {x y : Int32} (C : gC p s m args c cc nL own Ts X) (hd : decode cc pc = .ok (.iand, 1)) (k : gW p l e Rm s m args below meth c X nL Q cells slots I R S (pc + 1) lv (.int (x &&& y) :: st)) : gW p l e Rm s m args below meth c X nL Q cells slots I R S pc lv (.int y :: .int x :: st) :=
  fun H locs ls hR hS hl => lv_iand C.1 C.2.1 hd (k H locs ls hR hS hl)
theorem g_ixor {x y : Int32} (C : gC p s m args c cc nL own Ts X) (hd : decode cc pc = .ok (.ixor, 1)) (k : gW p l e Rm s m args below meth c X nL Q cells slots I R S (pc + 1) lv (.int (x ^^^ y) :: st)) : gW p l e Rm s m args below meth c X nL Q cells slots I R S pc lv (.int y :: .int x :: st) :=
  fun H locs ls hR hS hl => lv_ixor C.1 C.2.1 hd (k H locs ls hR hS hl)
theorem g_ishl {x y : Int32} (C : gC p s m args c cc nL own Ts X) (hd : decode cc pc = .ok (.ishl, 1)) (k : gW p l e Rm s m args below meth c X nL Q cells slots I R S (pc + 1) lv (.int (x <<< (y &&& 31)) :: st)) : gW p l e Rm s m args below meth c X nL Q cells slots I R S pc lv (.int y :: .int x :: st) :=
  fun H locs ls hR hS hl => lv_ishl C.1 C.2.1 hd (k H locs ls hR hS hl)
theorem g_ishr {x y : Int32} (C : gC p s m args c cc nL own Ts X) (hd : decode cc pc = .ok (.ishr, 1)) (k : gW p l e Rm s m args below meth c X nL Q cells slots I R S (pc + 1) lv (.int (x >>> (y &&& 31)) :: st)) : gW p l e Rm s m args below meth c X nL Q cells slots I R S pc lv (.int y :: .int x :: st) :=
  fun H locs ls hR hS hl => lv_ishr C.1 C.2.1 hd (k H locs ls hR hS hl)
theorem g_idiv {τ : Type} {A o : Option τ} {x y : Int32} (C : gC p s m args c cc nL own Ts X) (hd : decode cc pc = .ok (.idiv, 1)) (ho : o ≠ none) (hf : (if y = 0 then none else A) = o) (k : A = o → gW p l e Rm s m args below meth c X nL Q cells slots I R S (pc + 1) lv (.int (x / y) :: st)) : gW p l e Rm s m args below meth c X nL Q cells slots I R S pc lv (.int y :: .int x :: st) := by
  by_cases h : y = 0
  · rw [if_pos h] at hf; exact absurd hf.symm ho
  · rw [if_neg h] at hf; exact fun H locs ls hR hS hl => lv_idiv C.1 C.2.1 hd h (k hf H locs ls hR hS hl)
theorem g_irem {τ : Type} {A o : Option τ} {x y : Int32} (C : gC p s m args c cc nL own Ts X) (hd : decode cc pc = .ok (.irem, 1)) (ho : o ≠ none) (hf : (if y = 0 then none else A) = o) (k : A = o → gW p l e Rm s m args below meth c X nL Q cells slots I R S (pc + 1) lv (.int (x - x / y * y) :: st)) : gW p l e Rm s m args below meth c X nL Q cells slots I R S pc lv (.int y :: .int x :: st) := by
  by_cases h : y = 0
  · rw [if_pos h] at hf; exact absurd hf.symm ho
  · rw [if_neg h] at hf; exact fun H locs ls hR hS hl => lv_irem C.1 C.2.1 hd h (k hf H locs ls hR hS hl)
theorem g_ladd {x y : Int64} (C : gC p s m args c cc nL own Ts X) (hd : decode cc pc = .ok (.ladd, 1)) (k : gW p l e Rm s m args below meth c X nL Q cells slots I R S (pc + 1) lv (.long (x + y) :: st)) : gW p l e Rm s m args below meth c X nL Q cells slots I R S pc lv (.long y :: .long x :: st) :=
  fun H locs ls hR hS hl => lv_ladd C.1 C.2.1 hd (k H locs ls hR hS hl)
theorem g_lmul {x y : Int64} (C : gC p s m args c cc nL own Ts X) (hd : decode cc pc = .ok (.lmul, 1)) (k : gW p l e Rm s m args below meth c X nL Q cells slots I R S (pc + 1) lv (.long (x * y) :: st)) : gW p l e Rm s m args below meth c X nL Q cells slots I R S pc lv (.long y :: .long x :: st) :=
  fun H locs ls hR hS hl => lv_lmul C.1 C.2.1 hd (k H locs ls hR hS hl)
theorem g_lrem {τ : Type} {A o : Option τ} {x y : Int64} (C : gC p s m args c cc nL own Ts X) (hd : decode cc pc = .ok (.lrem, 1)) (ho : o ≠ none) (hf : (if y = 0 then none else A) = o) (k : A = o → gW p l e Rm s m args below meth c X nL Q cells slots I R S (pc + 1) lv (.long (x - x / y * y) :: st)) : gW p l e Rm s m args below meth c X nL Q cells slots I R S pc lv (.long y :: .long x :: st) := by
  by_cases h : y = 0
  · rw [if_pos h] at hf; exact absurd hf.symm ho
  · rw [if_neg h] at hf; exact fun H locs ls hR hS hl => lv_lrem C.1 C.2.1 hd h (k hf H locs ls hR hS hl)
theorem g_lcmp {x y : Int64} (C : gC p s m args c cc nL own Ts X) (hd : decode cc pc = .ok (.lcmp, 1)) (k : gW p l e Rm s m args below meth c X nL Q cells slots I R S (pc + 1) lv (.int (lg_cmp x y) :: st)) : gW p l e Rm s m args below meth c X nL Q cells slots I R S pc lv (.long y :: .long x :: st) :=
  fun H locs ls hR hS hl => W.lcmp C.1 C.2.1 hd (k H locs ls hR hS hl)
theorem g_i2l {x : Int32} (C : gC p s m args c cc nL own Ts X) (hd : decode cc pc = .ok (.i2l, 1)) (k : gW p l e Rm s m args below meth c X nL Q cells slots I R S (pc + 1) lv (.long (x.toInt64) :: st)) : gW p l e Rm s m args below meth c X nL Q cells slots I R S pc lv (.int x :: st) :=
  fun H locs ls hR hS hl => lv_i2l C.1 C.2.1 hd rfl (k H locs ls hR hS hl)
theorem g_l2i {x : Int64} (C : gC p s m args c cc nL own Ts X) (hd : decode cc pc = .ok (.l2i, 1)) (k : gW p l e Rm s m args below meth c X nL Q cells slots I R S (pc + 1) lv (.int (x.toInt32) :: st)) : gW p l e Rm s m args below meth c X nL Q cells slots I R S pc lv (.long x :: st) :=
  fun H locs ls hR hS hl => lv_l2i C.1 C.2.1 hd rfl (k H locs ls hR hS hl)
theorem g_i2b {x : Int32} (C : gC p s m args c cc nL own Ts X) (hd : decode cc pc = .ok (.i2b, 1)) (k : gW p l e Rm s m args below meth c X nL Q cells slots I R S (pc + 1) lv (.int (x.toInt8.toInt32) :: st)) : gW p l e Rm s m args below meth c X nL Q cells slots I R S pc lv (.int x :: st) :=
  fun H locs ls hR hS hl => lv_i2b C.1 C.2.1 hd rfl (k H locs ls hR hS hl)
theorem g_i2s {x : Int32} (C : gC p s m args c cc nL own Ts X) (hd : decode cc pc = .ok (.i2s, 1)) (k : gW p l e Rm s m args below meth c X nL Q cells slots I R S (pc + 1) lv (.int (x.toInt16.toInt32) :: st)) : gW p l e Rm s m args below meth c X nL Q cells slots I R S pc lv (.int x :: st) :=
  fun H locs ls hR hS hl => lv_i2s C.1 C.2.1 hd rfl (k H locs ls hR hS hl)
theorem g_dup {v : Value} (C : gC p s m args c cc nL own Ts X) (hd : decode cc pc = .ok (.dup, 1)) (hv : v.category = 1) (k : gW p l e Rm s m args below meth c X nL Q cells slots I R S (pc + 1) lv (v :: v :: st)) : gW p l e Rm s m args below meth c X nL Q cells slots I R S pc lv (v :: st) :=
  fun H locs ls hR hS hl => lv_dup C.1 C.2.1 hd hv (k H locs ls hR hS hl)
theorem g_dup2 {v w : Value} (C : gC p s m args c cc nL own Ts X) (hd : decode cc pc = .ok (.dup2, 1)) (hv : v.category = 1) (hw : w.category = 1) (k : gW p l e Rm s m args below meth c X nL Q cells slots I R S (pc + 1) lv (v :: w :: v :: w :: st)) : gW p l e Rm s m args below meth c X nL Q cells slots I R S pc lv (v :: w :: st) :=
  fun H locs ls hR hS hl => lv_dup2_11 C.1 C.2.1 hd hv hw (k H locs ls hR hS hl)
theorem g_null (C : gC p s m args c cc nL own Ts X) (hd : decode cc pc = .ok (.aconst_null, 1)) (k : gW p l e Rm s m args below meth c X nL Q cells slots I R S (pc + 1) lv (.null :: st)) : gW p l e Rm s m args below meth c X nL Q cells slots I R S pc lv st :=
  fun H locs ls hR hS hl => lv_null C.1 C.2.1 hd (k H locs ls hR hS hl)
theorem g_goto {off : Int} {tgt : Nat} (C : gC p s m args c cc nL own Ts X) (hd : decode cc pc = .ok (.goto off, 3)) (ht : (pc : Int) + off = (tgt : Int)) (k : gW p l e Rm s m args below meth c X nL Q cells slots I R S tgt lv st) : gW p l e Rm s m args below meth c X nL Q cells slots I R S pc lv st :=
  fun H locs ls hR hS hl => lv_goto C.1 C.2.1 hd ht (k H locs ls hR hS hl)
theorem gmap_inj {b : Nat} {x y : Option Nat} (h : x.map (b + ·) = y.map (b + ·)) : x = y := by
  cases x <;> cases y <;> simp_all
theorem g_icmp_eq {τ : Type} {A B o : Option τ} {x y : Int32} {off : Int} {tgt : Nat} (C : gC p s m args c cc nL own Ts X) (hd : decode cc pc = .ok (.if_icmp .eq off, 3)) (ht : (pc : Int) + off = (tgt : Int)) (hf : (if x = y then A else B) = o) (kt : A = o → gW p l e Rm s m args below meth c X nL Q cells slots I R S tgt lv st) (kf : B = o → gW p l e Rm s m args below meth c X nL Q cells slots I R S (pc + 3) lv st) : gW p l e Rm s m args below meth c X nL Q cells slots I R S pc lv (.int y :: .int x :: st) :=
  fun H locs ls hR hS hl => lv_icmp_eq C.1 C.2.1 hd ht (fun h => kt (by rw [← hf, if_pos h]) H locs ls hR hS hl) (fun h => kf (by rw [← hf, if_neg h]) H locs ls hR hS hl)
theorem g_if_eq {τ : Type} {A B o : Option τ} {x : Int32} {off : Int} {tgt : Nat} (C : gC p s m args c cc nL own Ts X) (hd : decode cc pc = .ok (.ifCond .eq off, 3)) (ht : (pc : Int) + off = (tgt : Int)) (hf : (if x = 0 then A else B) = o) (kt : A = o → gW p l e Rm s m args below meth c X nL Q cells slots I R S tgt lv st) (kf : B = o → gW p l e Rm s m args below meth c X nL Q cells slots I R S (pc + 3) lv st) : gW p l e Rm s m args below meth c X nL Q cells slots I R S pc lv (.int x :: st) :=
  fun H locs ls hR hS hl => lv_if_eq C.1 C.2.1 hd ht (fun h => kt (by rw [← hf, if_pos h]) H locs ls hR hS hl) (fun h => kf (by rw [← hf, if_neg h]) H locs ls hR hS hl)
theorem g_icmp_ne {τ : Type} {A B o : Option τ} {x y : Int32} {off : Int} {tgt : Nat} (C : gC p s m args c cc nL own Ts X) (hd : decode cc pc = .ok (.if_icmp .ne off, 3)) (ht : (pc : Int) + off = (tgt : Int)) (hf : (if x = y then B else A) = o) (kt : A = o → gW p l e Rm s m args below meth c X nL Q cells slots I R S tgt lv st) (kf : B = o → gW p l e Rm s m args below meth c X nL Q cells slots I R S (pc + 3) lv st) : gW p l e Rm s m args below meth c X nL Q cells slots I R S pc lv (.int y :: .int x :: st) :=
  fun H locs ls hR hS hl => lv_icmp_ne C.1 C.2.1 hd ht (fun h => kt (by rw [← hf, if_neg h]) H locs ls hR hS hl) (fun h => kf (by rw [← hf, if_pos h]) H locs ls hR hS hl)
theorem g_if_ne {τ : Type} {A B o : Option τ} {x : Int32} {off : Int} {tgt : Nat} (C : gC p s m args c cc nL own Ts X) (hd : decode cc pc = .ok (.ifCond .ne off, 3)) (ht : (pc : Int) + off = (tgt : Int)) (hf : (if x = 0 then B else A) = o) (kt : A = o → gW p l e Rm s m args below meth c X nL Q cells slots I R S tgt lv st) (kf : B = o → gW p l e Rm s m args below meth c X nL Q cells slots I R S (pc + 3) lv st) : gW p l e Rm s m args below meth c X nL Q cells slots I R S pc lv (.int x :: st) :=
  fun H locs ls hR hS hl => lv_if_ne C.1 C.2.1 hd ht (fun h => kt (by rw [← hf, if_neg h]) H locs ls hR hS hl) (fun h => kf (by rw [← hf, if_pos h]) H locs ls hR hS hl)
theorem g_icmp_lt {τ : Type} {A B o : Option τ} {x y : Int32} {off : Int} {tgt : Nat} (C : gC p s m args c cc nL own Ts X) (hd : decode cc pc = .ok (.if_icmp .lt off, 3)) (ht : (pc : Int) + off = (tgt : Int)) (hf : (if x < y then A else B) = o) (kt : A = o → gW p l e Rm s m args below meth c X nL Q cells slots I R S tgt lv st) (kf : B = o → gW p l e Rm s m args below meth c X nL Q cells slots I R S (pc + 3) lv st) : gW p l e Rm s m args below meth c X nL Q cells slots I R S pc lv (.int y :: .int x :: st) :=
  fun H locs ls hR hS hl => lv_icmp_lt C.1 C.2.1 hd ht (fun h => kt (by rw [← hf, if_pos h]) H locs ls hR hS hl) (fun h => kf (by rw [← hf, if_neg h]) H locs ls hR hS hl)
theorem g_if_lt {τ : Type} {A B o : Option τ} {x : Int32} {off : Int} {tgt : Nat} (C : gC p s m args c cc nL own Ts X) (hd : decode cc pc = .ok (.ifCond .lt off, 3)) (ht : (pc : Int) + off = (tgt : Int)) (hf : (if x < 0 then A else B) = o) (kt : A = o → gW p l e Rm s m args below meth c X nL Q cells slots I R S tgt lv st) (kf : B = o → gW p l e Rm s m args below meth c X nL Q cells slots I R S (pc + 3) lv st) : gW p l e Rm s m args below meth c X nL Q cells slots I R S pc lv (.int x :: st) :=
  fun H locs ls hR hS hl => lv_if_lt C.1 C.2.1 hd ht (fun h => kt (by rw [← hf, if_pos h]) H locs ls hR hS hl) (fun h => kf (by rw [← hf, if_neg h]) H locs ls hR hS hl)
theorem g_icmp_ge {τ : Type} {A B o : Option τ} {x y : Int32} {off : Int} {tgt : Nat} (C : gC p s m args c cc nL own Ts X) (hd : decode cc pc = .ok (.if_icmp .ge off, 3)) (ht : (pc : Int) + off = (tgt : Int)) (hf : (if y ≤ x then A else B) = o) (kt : A = o → gW p l e Rm s m args below meth c X nL Q cells slots I R S tgt lv st) (kf : B = o → gW p l e Rm s m args below meth c X nL Q cells slots I R S (pc + 3) lv st) : gW p l e Rm s m args below meth c X nL Q cells slots I R S pc lv (.int y :: .int x :: st) :=
  fun H locs ls hR hS hl => lv_icmp_ge C.1 C.2.1 hd ht (fun h => kt (by rw [← hf, if_pos h]) H locs ls hR hS hl) (fun h => kf (by rw [← hf, if_neg h]) H locs ls hR hS hl)
theorem g_if_ge {τ : Type} {A B o : Option τ} {x : Int32} {off : Int} {tgt : Nat} (C : gC p s m args c cc nL own Ts X) (hd : decode cc pc = .ok (.ifCond .ge off, 3)) (ht : (pc : Int) + off = (tgt : Int)) (hf : (if 0 ≤ x then A else B) = o) (kt : A = o → gW p l e Rm s m args below meth c X nL Q cells slots I R S tgt lv st) (kf : B = o → gW p l e Rm s m args below meth c X nL Q cells slots I R S (pc + 3) lv st) : gW p l e Rm s m args below meth c X nL Q cells slots I R S pc lv (.int x :: st) :=
  fun H locs ls hR hS hl => lv_if_ge C.1 C.2.1 hd ht (fun h => kt (by rw [← hf, if_pos h]) H locs ls hR hS hl) (fun h => kf (by rw [← hf, if_neg h]) H locs ls hR hS hl)
theorem g_icmp_gt {τ : Type} {A B o : Option τ} {x y : Int32} {off : Int} {tgt : Nat} (C : gC p s m args c cc nL own Ts X) (hd : decode cc pc = .ok (.if_icmp .gt off, 3)) (ht : (pc : Int) + off = (tgt : Int)) (hf : (if y < x then A else B) = o) (kt : A = o → gW p l e Rm s m args below meth c X nL Q cells slots I R S tgt lv st) (kf : B = o → gW p l e Rm s m args below meth c X nL Q cells slots I R S (pc + 3) lv st) : gW p l e Rm s m args below meth c X nL Q cells slots I R S pc lv (.int y :: .int x :: st) :=
  fun H locs ls hR hS hl => lv_icmp_gt C.1 C.2.1 hd ht (fun h => kt (by rw [← hf, if_pos h]) H locs ls hR hS hl) (fun h => kf (by rw [← hf, if_neg h]) H locs ls hR hS hl)
theorem g_if_gt {τ : Type} {A B o : Option τ} {x : Int32} {off : Int} {tgt : Nat} (C : gC p s m args c cc nL own Ts X) (hd : decode cc pc = .ok (.ifCond .gt off, 3)) (ht : (pc : Int) + off = (tgt : Int)) (hf : (if 0 < x then A else B) = o) (kt : A = o → gW p l e Rm s m args below meth c X nL Q cells slots I R S tgt lv st) (kf : B = o → gW p l e Rm s m args below meth c X nL Q cells slots I R S (pc + 3) lv st) : gW p l e Rm s m args below meth c X nL Q cells slots I R S pc lv (.int x :: st) :=
  fun H locs ls hR hS hl => lv_if_gt C.1 C.2.1 hd ht (fun h => kt (by rw [← hf, if_pos h]) H locs ls hR hS hl) (fun h => kf (by rw [← hf, if_neg h]) H locs ls hR hS hl)
theorem g_icmp_le {τ : Type} {A B o : Option τ} {x y : Int32} {off : Int} {tgt : Nat} (C : gC p s m args c cc nL own Ts X) (hd : decode cc pc = .ok (.if_icmp .le off, 3)) (ht : (pc : Int) + off = (tgt : Int)) (hf : (if x ≤ y then A else B) = o) (kt : A = o → gW p l e Rm s m args below meth c X nL Q cells slots I R S tgt lv st) (kf : B = o → gW p l e Rm s m args below meth c X nL Q cells slots I R S (pc + 3) lv st) : gW p l e Rm s m args below meth c X nL Q cells slots I R S pc lv (.int y :: .int x :: st) :=
  fun H locs ls hR hS hl => lv_icmp_le C.1 C.2.1 hd ht (fun h => kt (by rw [← hf, if_pos h]) H locs ls hR hS hl) (fun h => kf (by rw [← hf, if_neg h]) H locs ls hR hS hl)
theorem g_if_le {τ : Type} {A B o : Option τ} {x : Int32} {off : Int} {tgt : Nat} (C : gC p s m args c cc nL own Ts X) (hd : decode cc pc = .ok (.ifCond .le off, 3)) (ht : (pc : Int) + off = (tgt : Int)) (hf : (if x ≤ 0 then A else B) = o) (kt : A = o → gW p l e Rm s m args below meth c X nL Q cells slots I R S tgt lv st) (kf : B = o → gW p l e Rm s m args below meth c X nL Q cells slots I R S (pc + 3) lv st) : gW p l e Rm s m args below meth c X nL Q cells slots I R S pc lv (.int x :: st) :=
  fun H locs ls hR hS hl => lv_if_le C.1 C.2.1 hd ht (fun h => kt (by rw [← hf, if_pos h]) H locs ls hR hS hl) (fun h => kf (by rw [← hf, if_neg h]) H locs ls hR hS hl)
theorem g_acmp_eq {τ : Type} {A B o : Option τ} {rx ry : Option Nat} {off : Int} {tgt : Nat} (C : gC p s m args c cc nL own Ts X) (hd : decode cc pc = .ok (.if_acmp .eq off, 3)) (ht : (pc : Int) + off = (tgt : Int)) (hf : (if rx = ry then A else B) = o) (kt : A = o → gW p l e Rm s m args below meth c X nL Q cells slots I R S tgt lv st) (kf : B = o → gW p l e Rm s m args below meth c X nL Q cells slots I R S (pc + 3) lv st) : gW p l e Rm s m args below meth c X nL Q cells slots I R S pc lv (gv X.1 ry :: gv X.1 rx :: st) :=
  fun H locs ls hR hS hl => lv_acmp_eq C.1 C.2.1 hd ht (fun h => kt (by rw [← hf, if_pos (gmap_inj h)]) H locs ls hR hS hl) (fun h => kf (by rw [← hf, if_neg (fun z => h (by rw [z]))]) H locs ls hR hS hl)
theorem g_acmp_ne {τ : Type} {A B o : Option τ} {rx ry : Option Nat} {off : Int} {tgt : Nat} (C : gC p s m args c cc nL own Ts X) (hd : decode cc pc = .ok (.if_acmp .ne off, 3)) (ht : (pc : Int) + off = (tgt : Int)) (hf : (if rx = ry then B else A) = o) (kt : A = o → gW p l e Rm s m args below meth c X nL Q cells slots I R S tgt lv st) (kf : B = o → gW p l e Rm s m args below meth c X nL Q cells slots I R S (pc + 3) lv st) : gW p l e Rm s m args below meth c X nL Q cells slots I R S pc lv (gv X.1 ry :: gv X.1 rx :: st) :=
  fun H locs ls hR hS hl => lv_acmp_ne C.1 C.2.1 hd ht (fun h => kt (by rw [← hf, if_neg (fun z => h (by rw [z]))]) H locs ls hR hS hl) (fun h => kf (by rw [← hf, if_pos (gmap_inj h)]) H locs ls hR hS hl)
theorem g_ifnull {off : Int} {x : Nat} (C : gC p s m args c cc nL own Ts X) (hd : decode cc pc = .ok (.ifnull off, 3)) (k : gW p l e Rm s m args below meth c X nL Q cells slots I R S (pc + 3) lv st) : gW p l e Rm s m args below meth c X nL Q cells slots I R S pc lv (.ref x :: st) :=
  fun H locs ls hR hS hl => lv_ifnull C.1 C.2.1 hd (k H locs ls hR hS hl)
theorem g_ifnullN {off : Int} {tgt : Nat} (C : gC p s m args c cc nL own Ts X) (hd : decode cc pc = .ok (.ifnull off, 3)) (ht : (pc : Int) + off = (tgt : Int)) (k : gW p l e Rm s m args below meth c X nL Q cells slots I R S tgt lv st) : gW p l e Rm s m args below meth c X nL Q cells slots I R S pc lv (.null :: st) :=
  fun H locs ls hR hS hl => lv_ifnullN C.1 C.2.1 hd ht (k H locs ls hR hS hl)
theorem g_ifnonnull {off : Int} {tgt x : Nat} (C : gC p s m args c cc nL own Ts X) (hd : decode cc pc = .ok (.ifnonnull off, 3)) (ht : (pc : Int) + off = (tgt : Int)) (k : gW p l e Rm s m args below meth c X nL Q cells slots I R S tgt lv st) : gW p l e Rm s m args below meth c X nL Q cells slots I R S pc lv (.ref x :: st) :=
  fun H locs ls hR hS hl => lv_ifnonnull C.1 C.2.1 hd ht (k H locs ls hR hS hl)
theorem g_ifnonnullN {off : Int} (C : gC p s m args c cc nL own Ts X) (hd : decode cc pc = .ok (.ifnonnull off, 3)) (k : gW p l e Rm s m args below meth c X nL Q cells slots I R S (pc + 3) lv st) : gW p l e Rm s m args below meth c X nL Q cells slots I R S pc lv (.null :: st) :=
  fun H locs ls hR hS hl => lv_ifnonnullN C.1 C.2.1 hd (k H locs ls hR hS hl)
/-- a reference that may be none: two roads -/
theorem g_split {τ : Type} {A o : Option τ} {B : Nat → Option τ} {r : Option Nat} (hf : (match r with | none => A | some w => B w) = o) (kn : r = none → A = o → gW p l e Rm s m args below meth c X nL Q cells slots I R S pc lv (.null :: st)) (ks : ∀ w : Nat, r = some w → B w = o → gW p l e Rm s m args below meth c X nL Q cells slots I R S pc lv (.ref (X.1 + w) :: st)) : gW p l e Rm s m args below meth c X nL Q cells slots I R S pc lv (gv X.1 r :: st) := by
  cases r with
  | none => exact kn rfl hf
  | some w => exact ks w rfl hf
theorem gT_nodup : ∀ k : Nat, (gT k).Nodup := by
  intro k
  unfold gT
  split <;> decide
theorem gT_sep : ∀ k : Nat, ∀ x ∈ gT k, ∀ y ∈ gT k, x.1 = false → y.1 = true → y.2 ≠ 1000 + x.2 := by
  intro k
  unfold gT
  split <;> decide
theorem gReal_at {H : Heap} (hR : gReal X I R S H) {q k n : Nat} (hS : S[q]? = some (k, n)) : va_P X.2.2.1 vwCl [(X.1 + q, gE X.1 X.2.2.2 I R q (k, n))] H := by
  intro j x hx
  have h0 : j < 1 := (List.getElem?_eq_some_iff.mp hx).1
  rw [show j = 0 by omega] at hx
  cases hx
  exact hR.2.2 q _ hS
theorem gE_obj {b : Nat} {dA : Nat → ClassId} {q k n : Nat} (h : k < 12) : gE b dA I R q (k, n) = .inr (k, (gT k).map (gV b I R q)) := if_pos h
theorem gE_int {b : Nat} {dA : Nat → ClassId} {q n : Nat} : gE b dA I R q (12, n) = .inl (dA 0, n, .inl (I q)) := rfl
theorem gE_ref {b : Nat} {dA : Nat → ClassId} {q n : Nat} (t : Nat) (h : 1 ≤ t) : gE b dA I R q (12 + t, n) = .inl (dA t, n, .inr (.inr (.inr (.inr (fun j => (R q j).map (b + ·)))))) := by
  unfold gE
  rw [if_neg (by show ¬ 12 + t < 12; omega), if_neg (by show ¬ 12 + t = 12; omega)]
  show Sum.inl (dA (12 + t - 12), _) = _
  rw [show 12 + t - 12 = t by omega]
/-- one cell is written: the rest stays -/
theorem gReal_put {H H' : Heap} {I' : gI} {R' : gR} (hR : gReal X I R S H) {q : Nat} {kn : Nat × Nat} (hS : S[q]? = some kn) (hz : H'.size = H.size) (ho : ∀ a : Nat, a ≠ X.1 + q → H'[a]? = H[a]?) (hq : va_at X.2.2.1 vwCl (X.1 + q, gE X.1 X.2.2.2 I' R' q kn) H') (hI : ∀ a, a ≠ q → I' a = I a) (hRr : ∀ a, a ≠ q → R' a = R a) : gReal X I' R' S H' := by
  refine ⟨by rw [hz]; exact hR.1, fun a ha => by rw [ho a (by omega)]; exact hR.2.1 a ha, fun a k ha => ?_⟩
  by_cases h : a = q
  · subst h
    have : kn = k := Option.some.inj (hS.symm.trans ha)
    subst this
    exact hq
  · have h1 := hR.2.2 a k ha
    have e : gE X.1 X.2.2.2 I' R' a k = gE X.1 X.2.2.2 I R a k := by
      have eV : gV X.1 I' R' a = gV X.1 I R a := by
        funext x
        unfold gV
        rw [hI a h, hRr a h]
      unfold gE
      rw [eV, hI a h, hRr a h]
    rw [e]
    exact h1.kept (ho _ (by show X.1 + a ≠ X.1 + q; omega))
theorem gF_setI {b q k i j : Nat} {v : Int32} (hT : (gT k)[i]? = some (false, j)) : ((gT k).map (gV b I R q)).set i (.int v) = (gT k).map (gV b (gU I q j v) R q) := by
  apply List.ext_getElem?
  intro i'
  by_cases h : i' = i
  · subst h
    have hl : i' < (gT k).length := (List.getElem?_eq_some_iff.mp hT).1
    rw [List.getElem?_set_self (by rw [List.length_map]; exact hl), List.getElem?_map, hT]
    simp [gV, gU_at]
  · rw [List.getElem?_set_ne (Ne.symm h), List.getElem?_map, List.getElem?_map]
    cases hx : (gT k)[i']? with
    | none => rfl
    | some x =>
      obtain ⟨t, j'⟩ := x
      show some _ = some _
      congr 1
      unfold gV
      cases t with
      | true =>
        by_cases h9 : 1000 ≤ j'
        · have hne : j' - 1000 ≠ j := fun e => gT_sep k _ (List.mem_of_getElem? hT) _ (List.mem_of_getElem? hx) rfl rfl (show j' = 1000 + j by omega)
          simp only [if_true, h9]
          rw [gU_slot I q v hne]
        · simp only [if_true, h9, if_false]
      | false =>
        have hj : j' ≠ j := fun e => by
          subst e
          exact h ((List.getElem?_inj (List.getElem?_eq_some_iff.mp hx).1 (gT_nodup k)).mp (hx.trans hT.symm))
        simp only [Bool.false_eq_true, if_false]
        rw [gU_slot I q v hj]
theorem gF_setR {b q k i j : Nat} {r : Option Nat} (hT : (gT k)[i]? = some (true, j)) (hj9 : j < 1000) : ((gT k).map (gV b I R q)).set i (gv b r) = (gT k).map (gV b I (gU R q j r) q) := by
  apply List.ext_getElem?
  intro i'
  by_cases h : i' = i
  · subst h
    have hl : i' < (gT k).length := (List.getElem?_eq_some_iff.mp hT).1
    rw [List.getElem?_set_self (by rw [List.length_map]; exact hl), List.getElem?_map, hT]
    simp [gV, gU_at, Nat.not_le.mpr hj9]
  · rw [List.getElem?_set_ne (Ne.symm h), List.getElem?_map, List.getElem?_map]
    cases hx : (gT k)[i']? with
    | none => rfl
    | some x =>
      obtain ⟨t, j'⟩ := x
      show some _ = some _
      congr 1
      unfold gV
      cases t with
      | false => rfl
      | true =>
        have hj : j' ≠ j := fun e => by
          subst e
          exact h ((List.getElem?_inj (List.getElem?_eq_some_iff.mp hx).1 (gT_nodup k)).mp (hx.trans hT.symm))
        simp only [if_true]
        rw [gU_slot R q r hj]
theorem gF_setE {b q k i j : Nat} {v : Int32} (hT : (gT k)[i]? = some (true, 1000 + j)) : ((gT k).map (gV b I R q)).set i (gv b (gdec v)) = (gT k).map (gV b (gU I q j v) R q) := by
  apply List.ext_getElem?
  intro i'
  by_cases h : i' = i
  · subst h
    have hl : i' < (gT k).length := (List.getElem?_eq_some_iff.mp hT).1
    rw [List.getElem?_set_self (by rw [List.length_map]; exact hl), List.getElem?_map, hT]
    simp [gV, gU_at]
  · rw [List.getElem?_set_ne (Ne.symm h), List.getElem?_map, List.getElem?_map]
    cases hx : (gT k)[i']? with
    | none => rfl
    | some x =>
      obtain ⟨t, j'⟩ := x
      show some _ = some _
      congr 1
      unfold gV
      cases t with
      | true =>
        have hj : j' ≠ 1000 + j := fun e => by
          subst e
          exact h ((List.getElem?_inj (List.getElem?_eq_some_iff.mp hx).1 (gT_nodup k)).mp (hx.trans hT.symm))
        by_cases h9 : 1000 ≤ j'
        · simp only [if_true, h9]
          rw [gU_slot I q v (by omega)]
        · simp only [if_true, h9, if_false]
      | false =>
        have hj : j' ≠ j := fun e => gT_sep k _ (List.mem_of_getElem? hx) _ (List.mem_of_getElem? hT) rfl rfl (show 1000 + j = 1000 + j' by omega)
        simp only [Bool.false_eq_true, if_false]
        rw [gU_slot I q v hj]
/-- what a class's rows are: its number, name, table, how many fields -/
def gCl (Ts : List Cond) (k : Nat) (Cn : String) (T : u_T) (Nn : Nat) : Prop := k < 12 ∧ vwCl[k]? = some (Cn, T, Nn) ∧ (gT k).length = Nn ∧ ∀ w ∈ u_ws Cn T Nn, w ∈ Ts
theorem g_getI {q k n i j Nn index : Nat} {Cn ref : String} {T : u_T} (C : gC p s m args c cc nL own Ts X) (hd : decode cc pc = .ok (.getfield index, 3)) (hS : S[q]? = some (k, n)) (hc : gCl Ts k Cn T Nn) (hT : (gT k)[i]? = some (false, j)) (hlink : (Cond.fieldLink own index ref (T i).2.1 (T i).2.2.1).before args s = true) (hsame : ∀ x, s.fieldFound? (T i).1 (T i).2.1 (T i).2.2.1 = some x → s.fieldFound? ref (T i).2.1 (T i).2.2.1 = some x) (kk : gW p l e Rm s m args below meth c X nL Q cells slots I R S (pc + 3) lv (.int (I q j) :: st)) : gW p l e Rm s m args below meth c X nL Q cells slots I R S pc lv (.ref (X.1 + q) :: st) := by
  intro H locs ls hR hS' hl
  have hP := gReal_at hR hS
  rw [gE_obj hc.1] at hP
  exact va_get C.1 C.2.1 C.2.2.2.2.1 hc.2.2.2 C.2.2.2.1 C.2.2.2.2.2.1 hP 0 rfl hc.2.1 i (by rw [← hc.2.2.1]; exact (List.getElem?_eq_some_iff.mp hT).1) hlink hsame (v := .int (I q j)) (by rw [List.getElem?_map, hT]; rfl) hd (kk H locs ls hR hS' hl)
theorem g_getM {q k n i j Nn index : Nat} {Cn ref : String} {T : u_T} (C : gC p s m args c cc nL own Ts X) (hd : decode cc pc = .ok (.getfield index, 3)) (hS : S[q]? = some (k, n)) (hc : gCl Ts k Cn T Nn) (hT : (gT k)[i]? = some (true, j)) (hj9 : j < 1000) (hlink : (Cond.fieldLink own index ref (T i).2.1 (T i).2.2.1).before args s = true) (hsame : ∀ x, s.fieldFound? (T i).1 (T i).2.1 (T i).2.2.1 = some x → s.fieldFound? ref (T i).2.1 (T i).2.2.1 = some x) (kk : gW p l e Rm s m args below meth c X nL Q cells slots I R S (pc + 3) lv (gv X.1 (R q j) :: st)) : gW p l e Rm s m args below meth c X nL Q cells slots I R S pc lv (.ref (X.1 + q) :: st) := by
  intro H locs ls hR hS' hl
  have hP := gReal_at hR hS
  rw [gE_obj hc.1] at hP
  exact va_get C.1 C.2.1 C.2.2.2.2.1 hc.2.2.2 C.2.2.2.1 C.2.2.2.2.2.1 hP 0 rfl hc.2.1 i (by rw [← hc.2.2.1]; exact (List.getElem?_eq_some_iff.mp hT).1) hlink hsame (v := gv X.1 (R q j)) (by rw [List.getElem?_map, hT]; simp [gV, Nat.not_le.mpr hj9]) hd (kk H locs ls hR hS' hl)
theorem g_getR {q k n i j Nn index w : Nat} {Cn ref : String} {T : u_T} (C : gC p s m args c cc nL own Ts X) (hd : decode cc pc = .ok (.getfield index, 3)) (hS : S[q]? = some (k, n)) (hc : gCl Ts k Cn T Nn) (hT : (gT k)[i]? = some (true, j)) (hj9 : j < 1000) (hlink : (Cond.fieldLink own index ref (T i).2.1 (T i).2.2.1).before args s = true) (hsame : ∀ x, s.fieldFound? (T i).1 (T i).2.1 (T i).2.2.1 = some x → s.fieldFound? ref (T i).2.1 (T i).2.2.1 = some x) (hw : R q j = some w) (kk : gW p l e Rm s m args below meth c X nL Q cells slots I R S (pc + 3) lv (.ref (X.1 + w) :: st)) : gW p l e Rm s m args below meth c X nL Q cells slots I R S pc lv (.ref (X.1 + q) :: st) :=
  g_getM C hd hS hc hT hj9 hlink hsame (by rw [hw]; exact kk)
/-- the types of a class's fields, and that they are apart -/
def gTy (T : u_T) (Nn : Nat) (ty : Nat → FieldType) : Prop := (∀ k, k < Nn → parseFieldDescriptor (T k).2.2.1 = some (ty k)) ∧ (∀ a, a < Nn → ∀ b, b < Nn → a ≠ b → (T a).2.1 ≠ (T b).2.1)
theorem g_putV {q k n i Nn index : Nat} {Cn ref : String} {T : u_T} {ty : Nat → FieldType} {v : Value} {I' : gI} {R' : gR} (C : gC p s m args c cc nL own Ts X) (hd : decode cc pc = .ok (.putfield index, 3)) (hS : S[q]? = some (k, n)) (hc : gCl Ts k Cn T Nn) (hty : gTy T Nn ty) (hi : i < Nn) (hlink : (Cond.fieldLink own index ref (T i).2.1 (T i).2.2.1).before args s = true) (hsame : ∀ x, s.fieldFound? (T i).1 (T i).2.1 (T i).2.2.1 = some x → s.fieldFound? ref (T i).2.1 (T i).2.2.1 = some x)
    (hfin : (T i).2.2.2 = false ∨ ((T i).2.2.2 = true ∧ meth.name = "<init>" ∧ (T i).1 = own)) (hn : narrow (ty i) v = v) (hfit : fits (ty i) v = true) (hset : ((gT k).map (gV X.1 I R q)).set i v = (gT k).map (gV X.1 I' R' q)) (hI : ∀ a, a ≠ q → I' a = I a) (hRr : ∀ a, a ≠ q → R' a = R a)
    (kk : gW p l e Rm s m args below meth c X nL Q cells slots I' R' S (pc + 3) lv st) : gW p l e Rm s m args below meth c X nL Q cells slots I R S pc lv (v :: .ref (X.1 + q) :: st) := by
  intro H locs ls hR hS' hl
  have hP := gReal_at hR hS
  rw [gE_obj hc.1] at hP
  have hts := C.2.2.2.2.1
  have hin := hc.2.2.2
  have hK := C.2.2.2.2.2.1
  have hown := C.2.2.2.1
  have hap := va_apart (own := own) hts hin ty hty.1 hty.2 hK hc.2.1
  obtain ⟨r, h1, cell, q1, q2, q3, q4⟩ := hP 0 _ rfl
  have hr : r = (Cn, T, Nn) := Option.some.inj (h1.symm.trans hc.2.1)
  subst hr
  obtain ⟨hSl, hfc, kC, hkC, hkind⟩ := hK.1 k _ hc.2.1
  obtain ⟨cf, kf, fi, f, hi', hsl⟩ := hSl i hi
  have hst := (u_facts hfc hkC (u_lays hts hin hi) hi').1
  have hd' : parseFieldDescriptor (T i).2.2.1 = some (ty i) := hty.1 i hi
  have hlen : i < ((gT k).map (gV X.1 I R q)).length := by rw [List.length_map, hc.2.2.1]; exact hi
  have fin : ∀ H' : Heap, H'[X.1 + q]? = some (cell.setSlot (X.2.2.1.2 k i) v) → H'.size = H.size → (∀ a, a ≠ X.1 + q → H'[a]? = H[a]?) → gReal X I' R' S H' := fun H' e1 e2 e3 => by
    refine gReal_put hR hS e2 e3 ?_ hI hRr
    rw [gE_obj hc.1, ← hset]
    exact ⟨_, hc.2.1, t_OB.to (V := updV (vp_V ((gT k).map (gV X.1 I R q))) i v) ⟨_, e1, q2, q3, t_set q4 hap hi v⟩ (fun j _ => vp_updV_set hlen v j)⟩
  have hlay := hts _ (hin _ (u_in_lay hi))
  unfold u_lay at hlay
  rcases hfin with hfin | ⟨hfin, hin2, hdecl⟩
  · rw [if_neg (by rw [hfin]; decide)] at hlay
    have h6 := u_store hfc hkC hkind hlay hi' hd' hn hfit
    refine W.putK C.1 C.2.1 (f := f) ⟨hown, hlink, ⟨_, _, _, hsame _ hi'⟩, hst⟩ (by rw [q2]; exact h6) q1 q3 (by rw [hsl]; exact k2_hasslot (q4 i hi)) rfl rfl hd fun H' e1 e2 e3 => ?_
    rw [hsl] at e1 ⊢
    exact kk H' _ ls (fin H' e1 e2 e3) (hS'.put e2 e3 (Nat.le_add_right _ _)) hl
  · rw [if_pos hfin] at hlay
    have hcf : m.cls = cf := by
      obtain ⟨_, _, c', _, _, _, -, -, hf', -, -, -, hown2, -⟩ := Cond.laysFinal_spec hlay
      have e1 : c' = cf := by have := hi'.symm.trans hf'; simp at this; exact this.1.symm
      rw [hdecl] at hown2
      rw [← e1]; exact Option.some.inj (hown.symm.trans hown2)
    have h6 := u_fits hfc hkC hkind (Or.inr hlay) hi' hd' hn hfit
    refine W.putFinK C.1 C.2.1 hown hlink (hsame _ hi') hst hcf hin2 (by rw [q2]; exact h6) q1 q3 (by rw [hsl]; exact k2_hasslot (q4 i hi)) rfl rfl hd fun H' e1 e2 e3 => ?_
    rw [hsl] at e1 ⊢
    exact kk H' _ ls (fin H' e1 e2 e3) (hS'.put e2 e3 (Nat.le_add_right _ _)) hl
theorem g_putI {q k n i j Nn index : Nat} {Cn ref : String} {T : u_T} {ty : Nat → FieldType} {x : Int32} (C : gC p s m args c cc nL own Ts X) (hd : decode cc pc = .ok (.putfield index, 3)) (hS : S[q]? = some (k, n)) (hc : gCl Ts k Cn T Nn) (hty : gTy T Nn ty) (hT : (gT k)[i]? = some (false, j)) (hlink : (Cond.fieldLink own index ref (T i).2.1 (T i).2.2.1).before args s = true) (hsame : ∀ x, s.fieldFound? (T i).1 (T i).2.1 (T i).2.2.1 = some x → s.fieldFound? ref (T i).2.1 (T i).2.2.1 = some x)
    (hfin : (T i).2.2.2 = false ∨ ((T i).2.2.2 = true ∧ meth.name = "<init>" ∧ (T i).1 = own)) (hti : ty i = .int)
    (kk : gW p l e Rm s m args below meth c X nL Q cells slots (gU I q j x) R S (pc + 3) lv st) : gW p l e Rm s m args below meth c X nL Q cells slots I R S pc lv (.int x :: .ref (X.1 + q) :: st) :=
  g_putV C hd hS hc hty (by rw [← hc.2.2.1]; exact (List.getElem?_eq_some_iff.mp hT).1) hlink hsame hfin (by rw [hti]; rfl) (by rw [hti]; rfl) (gF_setI hT) (fun a h => gU_cell I j x h) (fun _ _ => rfl) kk
theorem g_putR {q k n i j Nn index w : Nat} {Cn ref : String} {T : u_T} {ty : Nat → FieldType} (C : gC p s m args c cc nL own Ts X) (hd : decode cc pc = .ok (.putfield index, 3)) (hS : S[q]? = some (k, n)) (hc : gCl Ts k Cn T Nn) (hty : gTy T Nn ty) (hT : (gT k)[i]? = some (true, j)) (hj9 : j < 1000) (hlink : (Cond.fieldLink own index ref (T i).2.1 (T i).2.2.1).before args s = true) (hsame : ∀ x, s.fieldFound? (T i).1 (T i).2.1 (T i).2.2.1 = some x → s.fieldFound? ref (T i).2.1 (T i).2.2.1 = some x)
    (hfin : (T i).2.2.2 = false ∨ ((T i).2.2.2 = true ∧ meth.name = "<init>" ∧ (T i).1 = own)) (hti : ∀ a : Nat, narrow (ty i) (.ref a) = .ref a ∧ fits (ty i) (.ref a) = true)
    (kk : gW p l e Rm s m args below meth c X nL Q cells slots I (gU R q j (some w)) S (pc + 3) lv st) : gW p l e Rm s m args below meth c X nL Q cells slots I R S pc lv (.ref (X.1 + w) :: .ref (X.1 + q) :: st) :=
  g_putV (v := .ref (X.1 + w)) C hd hS hc hty (by rw [← hc.2.2.1]; exact (List.getElem?_eq_some_iff.mp hT).1) hlink hsame hfin (hti _).1 (hti _).2 (gF_setR (r := some w) hT hj9) (fun _ _ => rfl) (fun a h => gU_cell R j (some w) h) kk
theorem g_putN {q k n i j Nn index : Nat} {Cn ref : String} {T : u_T} {ty : Nat → FieldType} (C : gC p s m args c cc nL own Ts X) (hd : decode cc pc = .ok (.putfield index, 3)) (hS : S[q]? = some (k, n)) (hc : gCl Ts k Cn T Nn) (hty : gTy T Nn ty) (hT : (gT k)[i]? = some (true, j)) (hj9 : j < 1000) (hlink : (Cond.fieldLink own index ref (T i).2.1 (T i).2.2.1).before args s = true) (hsame : ∀ x, s.fieldFound? (T i).1 (T i).2.1 (T i).2.2.1 = some x → s.fieldFound? ref (T i).2.1 (T i).2.2.1 = some x)
    (hfin : (T i).2.2.2 = false ∨ ((T i).2.2.2 = true ∧ meth.name = "<init>" ∧ (T i).1 = own)) (hti : narrow (ty i) .null = .null ∧ fits (ty i) .null = true)
    (kk : gW p l e Rm s m args below meth c X nL Q cells slots I (gU R q j none) S (pc + 3) lv st) : gW p l e Rm s m args below meth c X nL Q cells slots I R S pc lv (.null :: .ref (X.1 + q) :: st) :=
  g_putV (v := .null) C hd hS hc hty (by rw [← hc.2.2.1]; exact (List.getElem?_eq_some_iff.mp hT).1) hlink hsame hfin hti.1 hti.2 (gF_setR (r := none) hT hj9) (fun _ _ => rfl) (fun a h => gU_cell R j none h) kk
theorem g_getE {q k n i j Nn index : Nat} {Cn ref : String} {T : u_T} (C : gC p s m args c cc nL own Ts X) (hd : decode cc pc = .ok (.getfield index, 3)) (hS : S[q]? = some (k, n)) (hc : gCl Ts k Cn T Nn) (hT : (gT k)[i]? = some (true, 1000 + j)) (hlink : (Cond.fieldLink own index ref (T i).2.1 (T i).2.2.1).before args s = true) (hsame : ∀ x, s.fieldFound? (T i).1 (T i).2.1 (T i).2.2.1 = some x → s.fieldFound? ref (T i).2.1 (T i).2.2.1 = some x) (kk : gW p l e Rm s m args below meth c X nL Q cells slots I R S (pc + 3) lv (gv X.1 (gdec (I q j)) :: st)) : gW p l e Rm s m args below meth c X nL Q cells slots I R S pc lv (.ref (X.1 + q) :: st) := by
  intro H locs ls hR hS' hl
  have hP := gReal_at hR hS
  rw [gE_obj hc.1] at hP
  exact va_get C.1 C.2.1 C.2.2.2.2.1 hc.2.2.2 C.2.2.2.1 C.2.2.2.2.2.1 hP 0 rfl hc.2.1 i (by rw [← hc.2.2.1]; exact (List.getElem?_eq_some_iff.mp hT).1) hlink hsame (v := gv X.1 (gdec (I q j))) (by rw [List.getElem?_map, hT]; simp [gV]) hd (kk H locs ls hR hS' hl)
theorem g_putE {τ : Type} {A o : Option τ} {q k n i j Nn index w : Nat} {Cn ref : String} {T : u_T} {ty : Nat → FieldType} (C : gC p s m args c cc nL own Ts X) (hd : decode cc pc = .ok (.putfield index, 3)) (hS : S[q]? = some (k, n)) (hc : gCl Ts k Cn T Nn) (hty : gTy T Nn ty) (hT : (gT k)[i]? = some (true, 1000 + j)) (hlink : (Cond.fieldLink own index ref (T i).2.1 (T i).2.2.1).before args s = true) (hsame : ∀ x, s.fieldFound? (T i).1 (T i).2.1 (T i).2.2.1 = some x → s.fieldFound? ref (T i).2.1 (T i).2.2.1 = some x)
    (hfin : (T i).2.2.2 = false ∨ ((T i).2.2.2 = true ∧ meth.name = "<init>" ∧ (T i).1 = own)) (hti : ∀ a : Nat, narrow (ty i) (.ref a) = .ref a ∧ fits (ty i) (.ref a) = true) (ho : o ≠ none) (hf : (if 2147483647 ≤ w + 1 then none else A) = o)
    (kk : A = o → gW p l e Rm s m args below meth c X nL Q cells slots (gU I q j (genc w)) R S (pc + 3) lv st) : gW p l e Rm s m args below meth c X nL Q cells slots I R S pc lv (.ref (X.1 + w) :: .ref (X.1 + q) :: st) := by
  by_cases h : 2147483647 ≤ w + 1
  · rw [if_pos h] at hf; exact absurd hf.symm ho
  rw [if_neg h] at hf
  have e : Value.ref (X.1 + w) = gv X.1 (gdec (genc w)) := by rw [gdec_enc (by omega)]; rfl
  exact g_putV (v := .ref (X.1 + w)) C hd hS hc hty (by rw [← hc.2.2.1]; exact (List.getElem?_eq_some_iff.mp hT).1) hlink hsame hfin (hti _).1 (hti _).2 (by rw [e]; exact gF_setE hT) (fun a h => gU_cell I j _ h) (fun _ _ => rfl) (kk hf)
theorem g_putEN {q k n i j Nn index : Nat} {Cn ref : String} {T : u_T} {ty : Nat → FieldType} (C : gC p s m args c cc nL own Ts X) (hd : decode cc pc = .ok (.putfield index, 3)) (hS : S[q]? = some (k, n)) (hc : gCl Ts k Cn T Nn) (hty : gTy T Nn ty) (hT : (gT k)[i]? = some (true, 1000 + j)) (hlink : (Cond.fieldLink own index ref (T i).2.1 (T i).2.2.1).before args s = true) (hsame : ∀ x, s.fieldFound? (T i).1 (T i).2.1 (T i).2.2.1 = some x → s.fieldFound? ref (T i).2.1 (T i).2.2.1 = some x)
    (hfin : (T i).2.2.2 = false ∨ ((T i).2.2.2 = true ∧ meth.name = "<init>" ∧ (T i).1 = own)) (hti : narrow (ty i) .null = .null ∧ fits (ty i) .null = true)
    (kk : gW p l e Rm s m args below meth c X nL Q cells slots (gU I q j 0) R S (pc + 3) lv st) : gW p l e Rm s m args below meth c X nL Q cells slots I R S pc lv (.null :: .ref (X.1 + q) :: st) :=
  g_putV (v := .null) C hd hS hc hty (by rw [← hc.2.2.1]; exact (List.getElem?_eq_some_iff.mp hT).1) hlink hsame hfin hti.1 hti.2 (by exact gF_setE (v := 0) hT) (fun a h => gU_cell I j 0 h) (fun _ _ => rfl) kk
theorem g_iald {τ : Type} {A o : Option τ} {q n : Nat} {i : Int32} (C : gC p s m args c cc nL own Ts X) (hd : decode cc pc = .ok (.iaload, 1)) (hS : S[q]? = some (12, n)) (ho : o ≠ none) (hf : (if i < 0 ∨ n ≤ i.toNatClampNeg then none else A) = o) (kk : A = o → gW p l e Rm s m args below meth c X nL Q cells slots I R S (pc + 1) lv (.int (I q i.toNatClampNeg) :: st)) : gW p l e Rm s m args below meth c X nL Q cells slots I R S pc lv (.int i :: .ref (X.1 + q) :: st) := by
  by_cases h : i < 0 ∨ n ≤ i.toNatClampNeg
  · rw [if_pos h] at hf; exact absurd hf.symm ho
  · rw [if_neg h] at hf
    intro H locs ls hR hS' hl
    exact va_iald C.1 C.2.1 C.2.2.2.2.2.1 (gReal_at hR hS) 0 0 (n := n) (f := I q) rfl rfl h hd (kk hf H locs ls hR hS' hl)
theorem g_iast {τ : Type} {A o : Option τ} {q n : Nat} {i x : Int32} (C : gC p s m args c cc nL own Ts X) (hd : decode cc pc = .ok (.iastore, 1)) (hS : S[q]? = some (12, n)) (ho : o ≠ none) (hf : (if i < 0 ∨ n ≤ i.toNatClampNeg then none else A) = o) (kk : A = o → gW p l e Rm s m args below meth c X nL Q cells slots (gU I q i.toNatClampNeg x) R S (pc + 1) lv st) : gW p l e Rm s m args below meth c X nL Q cells slots I R S pc lv (.int x :: .int i :: .ref (X.1 + q) :: st) := by
  by_cases h : i < 0 ∨ n ≤ i.toNatClampNeg
  · rw [if_pos h] at hf; exact absurd hf.symm ho
  · rw [if_neg h] at hf
    intro H locs ls hR hS' hl
    have hP := gReal_at hR hS 0 _ rfl
    have hK := C.2.2.2.2.2.1
    refine W.iast C.1 C.2.1 hP ((hK.2 0 (X.2.2.2 0, .int) rfl).1 n (fun j => .int (I q j))) (fun q => by cases q) (by show ¬ (i < 0 ∨ (arrV _ _ _).slots.size ≤ _); rw [arrV_size]; exact h) rfl rfl hd fun H1 e1 e2 e3 => ?_
    refine kk hf H1 _ ls (gReal_put hR hS e2 e3 ?_ (fun a ha => gU_cell I _ x ha) (fun _ _ => rfl)) (hS'.put e2 e3 (Nat.le_add_right _ _)) hl
    show H1[X.1 + q]? = some (vp_cell _ _)
    rw [e1]
    show some ((vp_cell (X.2.2.2 0) (n, .inl (I q))).setSlot i.toNatClampNeg (.int x)) = some (vp_cell (X.2.2.2 0) (n, .inl (gU I q i.toNatClampNeg x q)))
    rw [vp_cell_i, vp_cell_i, arrV_store, gU_row]
    congr 2
    funext z
    by_cases hz : z = i.toNatClampNeg
    · subst hz
      simp [updV, upd]
    · simp [updV, upd, hz]
theorem g_alen {q k n : Nat} {ty : FieldType} {v : Int32} (t : Nat) (C : gC p s m args c cc nL own Ts X) (hd : decode cc pc = .ok (.arraylength, 1)) (hS : S[q]? = some (12 + t, n)) (ht : (gTys X.2.2.2)[t]? = some (X.2.2.2 t, ty)) (hv : Int32.ofNat n = v) (kk : gW p l e Rm s m args below meth c X nL Q cells slots I R S (pc + 1) lv (.int v :: st)) : gW p l e Rm s m args below meth c X nL Q cells slots I R S pc lv (.ref (X.1 + q) :: st) := by
  intro H locs ls hR hS' hl
  have hP := gReal_at hR hS
  by_cases h0 : t = 0
  · subst h0
    exact va_alen C.1 C.2.1 C.2.2.2.2.2.1 hP 0 0 (x := (n, .inl (I q))) rfl ht hv hd (kk H locs ls hR hS' hl)
  · rw [gE_ref t (by omega)] at hP
    exact va_alen C.1 C.2.1 C.2.2.2.2.2.1 hP 0 t (x := (n, .inr (.inr (.inr (.inr (fun j => (R q j).map (X.1 + ·))))))) rfl ht hv hd (kk H locs ls hR hS' hl)
theorem g_aald {τ : Type} {A o : Option τ} {q n : Nat} {i : Int32} {ty : FieldType} (t : Nat) (C : gC p s m args c cc nL own Ts X) (hd : decode cc pc = .ok (.aaload, 1)) (h1 : 1 ≤ t) (hS : S[q]? = some (12 + t, n)) (ht : (gTys X.2.2.2)[t]? = some (X.2.2.2 t, ty)) (href : ty.isReference = true) (ho : o ≠ none) (hf : (if i < 0 ∨ n ≤ i.toNatClampNeg then none else A) = o) (kk : A = o → gW p l e Rm s m args below meth c X nL Q cells slots I R S (pc + 1) lv (gv X.1 (R q i.toNatClampNeg) :: st)) : gW p l e Rm s m args below meth c X nL Q cells slots I R S pc lv (.int i :: .ref (X.1 + q) :: st) := by
  by_cases h : i < 0 ∨ n ≤ i.toNatClampNeg
  · rw [if_pos h] at hf; exact absurd hf.symm ho
  · rw [if_neg h] at hf
    intro H locs ls hR hS' hl
    have hP := gReal_at hR hS
    rw [gE_ref t h1] at hP
    have hlt : i.toNatClampNeg < n := Nat.not_le.mp fun q => h (Or.inr q)
    exact W.aald (v := gv X.1 (R q i.toNatClampNeg)) (ty := ty) C.1 C.2.1 (hP 0 _ rfl) ((C.2.2.2.2.2.1.2 t _ ht).1 n (fun j => va_rf ((R q j).map (X.1 + ·)))) href (fun q => by cases q) (by show ¬ (i < 0 ∨ (arrV _ _ _).slots.size ≤ _); rw [arrV_size]; exact h) (by show (arrV _ _ _).slots[_]? = _; rw [arrV_read _ _ hlt]; rfl) rfl rfl hd (kk hf H locs ls hR hS' hl)
/-- a method's end in these words -/
def gQ (X : gX) (v : Option Value) (I : gI) (R : gR) (S : gS) : Array Value → State → Outcome → State → Prop := fun _ st o t => o = .returned v ∧ gReal X I R S t.heap ∧ va_F (fun q => X.1 ≤ q) st t
/-- a method's contract in these words -/
def gM (l : Launch) (y : MethodName) (ws : List Cond) (rm : Room) (X : gX) (E : State → Prop) (av : List Value) (I : gI) (R : gR) (S : gS) (v : Option Value) (I' : gI) (R' : gR) (S' : gS) (mc ms : Nat) : Prop :=
  Met l y ws rm (va_Pc av (fun U => gReal X I R S U.heap ∧ va_K X.2.2.1 vwCl (gTys X.2.2.2) U ∧ E U)) (gQ X v I' R' S') mc ms (fun q => X.1 ≤ q)
def gE0 : State → Prop := fun _ => True
theorem gM_of {E : State → Prop} {y : MethodName} {ws ws' : List Cond} {rm : Room} {av : List Value} {v : Option Value} {I' : gI} {R' : gR} {S' : gS} {mc ms maxL : Nat} {ret : Option FieldType} (hy : plainName y.cls = true) (hyo : y.cls = own) (hw : ws = Cond.code y cc maxL ret :: ws') (hlen : (lg_sl av).length ≤ maxL)
    (body : ∀ (p : Program) (e : Env) (s : State) (m : MethodId) (args : Array Value) (below : List Frame) (meth : Method) (c : Code), gC p s m args c cc maxL own ws X → meth.sig.returnType = ret → meth.locks = false → meth.name = y.name → E s → gW p l e rm s m args below meth c X maxL (MQ below (gQ X v I' R' S') args s mc ms (fun q => X.1 ≤ q)) 0 0 I R S 0 (lv_args 0 av) []) : gM l y ws rm X E av I R S v I' R' S' mc ms := by
  refine Met.ofW (cc := cc) (maxL := maxL) (ret := ret) hy hw ?_
  intro p e s m args below meth c s₁ B hml hv
  obtain ⟨rfl, hReal, hK, hE⟩ := hv
  have hts := atoms_spec (ws := ws) B.pre
  have hown : s.vm.findClass y.cls = some m.cls := findClass_of_methodNamed B.named
  have hl := lv_entry av (n := maxL) hlen
  rw [lg_entry_eq]
  exact body p e s m _ below meth c ⟨B.exec, B.bytes, hml, hyo ▸ hown, hts, hK, by rw [hReal.1]; exact Nat.le_add_right _ _⟩ B.returns B.notSynchronized (name_of_methodNamed B.named B.method).1 hE s.heap [] _ hReal va_S.rf hl
theorem g_widen {k n : Nat} (h1 : cells ≤ k) (h2 : slots ≤ n) (kk : gW p l e Rm s m args below meth c X nL Q k n I R S pc lv st) : gW p l e Rm s m args below meth c X nL Q cells slots I R S pc lv st :=
  fun H locs ls hR hS hl => W.widen h1 h2 (kk H locs ls hR hS hl)
theorem g_iret {x : Int32} (C : gC p s m args c cc nL own Ts X) (hd : decode cc pc = .ok (.ireturn, 1)) (hr : meth.sig.returnType = some .int) (hlk : meth.locks = false) : gW p l e Rm s m args below meth c X nL (MQ below (gQ X (some (.int x)) I R S) args s cells slots (fun q => X.1 ≤ q)) cells slots I R S pc lv [.int x] :=
  fun H locs ls hR hS hl => W.iret C.1 C.2.1 hr (fun t ht hW => ⟨rfl, by rw [ht]; exact hR, hS.F ht⟩) hS.2.2 hd hlk
theorem g_zret {x : Int32} (C : gC p s m args c cc nL own Ts X) (hd : decode cc pc = .ok (.ireturn, 1)) (hr : meth.sig.returnType = some .boolean) (hlk : meth.locks = false) (hn : x = 0 ∨ x = 1) : gW p l e Rm s m args below meth c X nL (MQ below (gQ X (some (.int x)) I R S) args s cells slots (fun q => X.1 ≤ q)) cells slots I R S pc lv [.int x] :=
  fun H locs ls hR hS hl => W.zret C.1 C.2.1 hr (by rcases hn with rfl | rfl <;> rfl) (fun t ht hW => ⟨rfl, by rw [ht]; exact hR, hS.F ht⟩) hS.2.2 hd hlk
theorem g_vret (C : gC p s m args c cc nL own Ts X) (hd : decode cc pc = .ok (.return_, 1)) (hr : meth.sig.returnType = none) (hlk : meth.locks = false) : gW p l e Rm s m args below meth c X nL (MQ below (gQ X none I R S) args s cells slots (fun q => X.1 ≤ q)) cells slots I R S pc lv [] :=
  fun H locs ls hR hS hl => W.vret C.1 C.2.1 hr (fun t ht hW => ⟨rfl, by rw [ht]; exact hR, hS.F ht⟩) hS.2.2 hd hlk
theorem g_aret {w : Nat} {rt : FieldType} (C : gC p s m args c cc nL own Ts X) (hd : decode cc pc = .ok (.areturn, 1)) (hr : meth.sig.returnType = some rt) (hrt : (∃ n, rt = .object n) ∨ ∃ t, rt = .array t) (hlk : meth.locks = false) : gW p l e Rm s m args below meth c X nL (MQ below (gQ X (some (.ref (X.1 + w))) I R S) args s cells slots (fun q => X.1 ≤ q)) cells slots I R S pc lv [.ref (X.1 + w)] :=
  fun H locs ls hR hS hl => W.aret C.1 C.2.1 hr hrt (Or.inr ⟨_, rfl⟩) (fun t ht hW => ⟨rfl, by rw [ht]; exact hR, hS.F ht⟩) hS.2.2 hd hlk
/-- a residue that is a call's answer, and what follows -/
theorem gbind {τ υ : Type} {f : Option τ} {K : τ → Option υ} {o : Option υ} (hf : f.bind K = o) (ho : o ≠ none) : ∃ z, f = some z ∧ K z = o := by
  cases f with
  | none => exact absurd hf.symm ho
  | some z => exact ⟨z, rfl, hf⟩
theorem g_run {v : Option Value} {I' : gI} {R' : gR} {S' : gS} {mc ms : Nat} {stk : List Value} (a : Array Value)
    (hrun : ∀ (H : Heap) (locs : List Loc) (ls : Array Slot), gReal X I R S H → va_S (fun q => X.1 ≤ q) s.heap H locs → lv_has ls nL lv → va_Run p l e Rm s m args below meth c H locs cells slots mc ms (F0 m pc ls stk) st (gQ X v I' R' S' a) (fun q => X.1 ≤ q))
    (kk : gW p l e Rm s m args below meth c X nL Q (cells + mc) (slots + ms) I' R' S' (pc + 3) lv (v.toList ++ st)) : gW p l e Rm s m args below meth c X nL Q cells slots I R S pc lv stk := by
  intro H locs ls hR hS hl T hT XX
  obtain ⟨v', st₀, t, T', L, h0, X', hL, e1, e2, ⟨hv, hR', hF⟩, stp⟩ := hrun H locs ls hR hS hl T hT XX
  cases hv
  obtain ⟨t2, a1, b1⟩ := kk T'.heap (locs ++ L) ls (by rw [e1]; exact hR') ⟨Nat.le_trans hS.1 (by rw [e1, ← h0]; exact hF.1), fun q h1 h2 => by
      rw [e1]
      have h3 : q < st₀.heap.size := by rw [h0]; exact Nat.lt_of_lt_of_le h1 hS.1
      rw [hF.2 q h3 h2, h0]
      exact hS.2.1 q h1 h2, fun q hq => by
      rcases List.mem_append.mp hq with h | h
      · exact hS.2.2 q h
      · exact hL q h⟩ hl T' rfl X'
  exact ⟨t2, stp t2 a1, b1⟩
theorem g_blind {E : State → Prop} {av : List Value} (hE : ∀ (a : Array Value) (U : State) (g : JFrame) (mk : MethodId), E U → E (U.calling g mk a)) : FrameBlind (va_Pc av (fun U => gReal X I R S U.heap ∧ va_K X.2.2.1 vwCl (gTys X.2.2.2) U ∧ E U)) := fun a U g mk q => by
  obtain ⟨q0, q1, qK, qE⟩ := q
  exact ⟨q0, q1, va_K.moved (u := U) (U := U.calling g mk a) (Vm.Alike.refl U.vm) qK, hE a U g mk qE⟩
theorem gE0_blind : ∀ (a : Array Value) (U : State) (g : JFrame) (mk : MethodId), gE0 U → gE0 (U.calling g mk a) := fun _ _ _ _ _ => trivial
/-- what the caller must know for E at the callee's entry -/
def gEin (X : gX) (I : gI) (R : gR) (S : gS) (s : State) (E : State → Prop) : Prop := (∀ (a : Array Value) (U : State) (g : JFrame) (mk : MethodId), E U → E (U.calling g mk a)) ∧ ∀ (H : Heap) (locs : List Loc) (U : State), gReal X I R S H → va_S (fun q => X.1 ≤ q) s.heap H locs → U.heap = H → s.WarmedH U.vm → E U
theorem gEin0 : gEin X I R S s gE0 := ⟨gE0_blind, fun _ _ _ _ _ _ _ => trivial⟩
theorem g_callV {E : State → Prop} {y : MethodName} {ws : List Cond} {rm : Room} {As : List Value} {v : Option Value} {I' : gI} {R' : gR} {S' : gS} {mc ms maxL n index q k n' Nn : Nat} {bytes : ByteArray} {ret : Option FieldType} {Cn : String} {T : u_T} {stk : List Value} (C : gC p s m args c cc nL own Ts X) (hd : decode cc pc = .ok (.invokevirtual index, 3)) (hM : gM l y ws rm X E (.ref (X.1 + q) :: As) I R S v I' R' S' mc ms) (hE : gEin X I R S s E) (cw : CallW Rm s args own Cn index y bytes maxL ret ws rm mc ms n) (hS : S[q]? = some (k, n')) (hk : k < 12) (hc : vwCl[k]? = some (Cn, T, Nn)) (hn : As.length = n) (hst : stk = As.reverse ++ .ref (X.1 + q) :: st) (hW : (st.map fun v => v.category).sum ≤ 8) (hfit : cells + mc ≤ Rm.cells ∧ slots + ms ≤ Rm.slots)
    (kk : gW p l e Rm s m args below meth c X nL Q (cells + mc) (slots + ms) I' R' S' (pc + 3) lv (v.toList ++ st)) : gW p l e Rm s m args below meth c X nL Q cells slots I R S pc lv stk := by
  refine g_run (Value.ref (X.1 + q) :: As).toArray (fun H locs ls hR hS' hl => ?_) kk
  have hP := gReal_at hR hS
  rw [gE_obj hk] at hP
  exact va_runV ⟨C.1, C.2.1, C.2.2.1, C.2.2.2.1, C.2.2.2.2.1⟩ hM cw ⟨g_blind hE.1, va_recv C.2.2.2.2.2.1 hP hc (q0 := 0) rfl, fun U hU hW' => ⟨rfl, by rw [hU]; exact hR, va_K.moved hW'.alike C.2.2.2.2.2.1, hE.2 H locs U hR hS' hU hW'⟩⟩ rfl hn hl.1 hst (lv_room hW) hd hfit
theorem g_callS {E : State → Prop} {y : MethodName} {ws : List Cond} {rm : Room} {As : List Value} {v : Option Value} {I' : gI} {R' : gR} {S' : gS} {mc ms maxL n index : Nat} {bytes : ByteArray} {ret : Option FieldType} {stk : List Value} (C : gC p s m args c cc nL own Ts X) (hd : decode cc pc = .ok (.invokestatic index, 3)) (hM : gM l y ws rm X E As I R S v I' R' S' mc ms) (hE : gEin X I R S s E) (cw : CallB Rm s args own index y bytes maxL ret ws rm mc ms n ∧ (Cond.static y).before args s = true) (hn : As.length = n) (hst : stk = As.reverse ++ st) (hW : (st.map fun v => v.category).sum ≤ 8) (hfit : cells + mc ≤ Rm.cells ∧ slots + ms ≤ Rm.slots)
    (kk : gW p l e Rm s m args below meth c X nL Q (cells + mc) (slots + ms) I' R' S' (pc + 3) lv (v.toList ++ st)) : gW p l e Rm s m args below meth c X nL Q cells slots I R S pc lv stk := by
  refine g_run As.toArray (fun H locs ls hR hS' hl => ?_) kk
  exact va_runS ⟨C.1, C.2.1, C.2.2.1, C.2.2.2.1, C.2.2.2.2.1⟩ hM cw ⟨g_blind hE.1, fun U hU hW' => ⟨rfl, by rw [hU]; exact hR, va_K.moved hW'.alike C.2.2.2.2.2.1, hE.2 H locs U hR hS' hU hW'⟩⟩ rfl hn hl.1 hst (lv_room hW) hd hfit
theorem g_callI {E : State → Prop} {y : MethodName} {ws : List Cond} {rm : Room} {As : List Value} {I' : gI} {R' : gR} {S' : gS} {mc ms maxL n index q : Nat} {bytes : ByteArray} {stk : List Value} (C : gC p s m args c cc nL own Ts X) (hd : decode cc pc = .ok (.invokespecial index, 3)) (hM : gM l y ws rm X E (.ref (X.1 + q) :: As) I R S none I' R' S' mc ms) (hE : gEin X I R S s E) (cw : CallB Rm s args own index y bytes maxL none ws rm mc ms n ∧ y.name = "<init>" ∧ (Cond.instanceMethod y).before args s = true) (hn : As.length = n) (hst : stk = As.reverse ++ .ref (X.1 + q) :: st) (hW : (st.map fun v => v.category).sum ≤ 8) (hfit : cells + mc ≤ Rm.cells ∧ slots + ms ≤ Rm.slots)
    (kk : gW p l e Rm s m args below meth c X nL Q (cells + mc) (slots + ms) I' R' S' (pc + 3) lv st) : gW p l e Rm s m args below meth c X nL Q cells slots I R S pc lv stk := by
  refine g_run (v := none) (Value.ref (X.1 + q) :: As).toArray (fun H locs ls hR hS' hl => ?_) kk
  exact va_runI ⟨C.1, C.2.1, C.2.2.1, C.2.2.2.1, C.2.2.2.2.1⟩ hM cw ⟨g_blind hE.1, fun U hU hW' => ⟨rfl, by rw [hU]; exact hR, va_K.moved hW'.alike C.2.2.2.2.2.1, hE.2 H locs U hR hS' hU hW'⟩⟩ rfl hn hl.1 hst (lv_room hW) hd hfit
theorem iter_wpm {σ ρ : Type} {b : σ → Option (σ ⊕ ρ)} {P : σ → Prop} {E : ρ → Prop} (step : ∀ (s : σ) (o : Option (σ ⊕ ρ)), b s = o → o ≠ none → (∀ s', o = some (.inl s') → P s') → (∀ r, o = some (.inr r) → E r) → P s) : ∀ (N : Nat) (s : σ) (r : ρ), iter b N s = some r → E r → P s := by
  intro N
  induction N with
  | zero => intro s r h; cases h
  | succ n ih =>
    intro s r h hE
    unfold iter at h
    cases hb : b s with
    | none => rw [hb] at h; cases h
    | some x =>
      rw [hb] at h
      cases x with
      | inl s' => exact step s _ hb (fun z => by cases z) (fun s2 e => by cases e; exact ih s' r h hE) (fun r2 e => by cases e)
      | inr r' =>
        cases h
        exact step s _ hb (fun z => by cases z) (fun s2 e => by cases e) (fun r2 e => by cases e; exact hE)
/-- the locals of lv2 are among those of lv -/
def gSub (lv lv2 : List (Nat × Value)) : Prop := match lv2 with
  | [] => True
  | x :: t => gGet lv x.1 = some x.2 ∧ gSub lv t
theorem gSub_mem {lv lv2 : List (Nat × Value)} (h : gSub lv lv2) : ∀ x ∈ lv2, x ∈ lv := by
  induction lv2 with
  | nil => intro x hx; cases hx
  | cons y t ih =>
    intro x hx
    rcases List.mem_cons.mp hx with e | e
    · subst e; exact gGet_mem h.1
    · exact ih h.2 x e
theorem g_sub {lv2 : List (Nat × Value)} (h : gSub lv lv2) (k : gW p l e Rm s m args below meth c X nL Q cells slots I R S pc lv2 st) : gW p l e Rm s m args below meth c X nL Q cells slots I R S pc lv st :=
  fun H locs ls hR hS hl => k H locs ls hR hS ⟨hl.1, hl.2.1, fun x hx => hl.2.2 x (gSub_mem h x hx)⟩
theorem g_loop {τ σ ρ : Type} {b : σ → Option (σ ⊕ ρ)} {K : ρ → Option τ} {o : Option τ} {N : Nat} {z0 : σ} (lvf : σ → List (Nat × Value)) (Jf : σ → gI) (lvx : ρ → List (Nat × Value)) (Jx : ρ → gI) (pcx : Nat) (hf : (iter b N z0).bind K = o) (ho : o ≠ none) (hsub : gSub lv (lvf z0)) (hI : Jf z0 = I)
    (krest : ∀ r, K r = o → gW p l e Rm s m args below meth c X nL Q cells slots (Jx r) R S pcx (lvx r) [])
    (step : ∀ (z : σ) (o1 : Option (σ ⊕ ρ)), b z = o1 → o1 ≠ none → (∀ z', o1 = some (.inl z') → gW p l e Rm s m args below meth c X nL Q cells slots (Jf z') R S pc (lvf z') []) → (∀ r, o1 = some (.inr r) → gW p l e Rm s m args below meth c X nL Q cells slots (Jx r) R S pcx (lvx r) []) → gW p l e Rm s m args below meth c X nL Q cells slots (Jf z) R S pc (lvf z) []) : gW p l e Rm s m args below meth c X nL Q cells slots I R S pc lv [] := by
  obtain ⟨zr, hz, hf⟩ := gbind hf ho
  subst hI
  exact g_sub hsub (iter_wpm (P := fun z => gW p l e Rm s m args below meth c X nL Q cells slots (Jf z) R S pc (lvf z) []) (E := fun r => r = zr) (fun z o1 h1 h2 h3 h4 => step z o1 h1 h2 h3 (fun r hr => by rw [h4 r hr]; exact krest zr hf)) N z0 zr hz rfl)
theorem g_loopR {τ σ ρ υ : Type} {b : σ → Option (σ ⊕ (ρ ⊕ υ))} {K : ρ ⊕ υ → Option τ} {o : Option τ} {N : Nat} {z0 : σ} (lvf : σ → List (Nat × Value)) (Jf : σ → gI) (lvx : ρ → List (Nat × Value)) (Jx : ρ → gI) (pcx : Nat) (hf : (iter b N z0).bind K = o) (ho : o ≠ none) (hsub : gSub lv (lvf z0)) (hI : Jf z0 = I)
    (krest : ∀ r, K (.inl r) = o → gW p l e Rm s m args below meth c X nL Q cells slots (Jx r) R S pcx (lvx r) [])
    (step : ∀ (z : σ) (o1 : Option (σ ⊕ (ρ ⊕ υ))), b z = o1 → o1 ≠ none → (∀ z', o1 = some (.inl z') → gW p l e Rm s m args below meth c X nL Q cells slots (Jf z') R S pc (lvf z') []) → (∀ r, o1 = some (.inr (.inl r)) → gW p l e Rm s m args below meth c X nL Q cells slots (Jx r) R S pcx (lvx r) []) → (∀ x, o1 = some (.inr (.inr x)) → K (.inr x) = o) → gW p l e Rm s m args below meth c X nL Q cells slots (Jf z) R S pc (lvf z) []) : gW p l e Rm s m args below meth c X nL Q cells slots I R S pc lv [] := by
  obtain ⟨zr, hz, hf⟩ := gbind hf ho
  subst hI
  exact g_sub hsub (iter_wpm (P := fun z => gW p l e Rm s m args below meth c X nL Q cells slots (Jf z) R S pc (lvf z) []) (E := fun r => r = zr) (fun z o1 h1 h2 h3 h4 => step z o1 h1 h2 h3 (fun r hr => krest r (by rw [h4 _ hr]; exact hf)) (fun x hx => by rw [h4 _ hx]; exact hf)) N z0 zr hz rfl)
theorem g_join {τ ρ : Type} {J : Option ρ} {K : ρ → Option τ} {o : Option τ} (lvx : ρ → List (Nat × Value)) (stx : ρ → List Value) (Jx : ρ → gI) (pcx : Nat) (hf : J.bind K = o) (ho : o ≠ none)
    (krest : ∀ r, K r = o → gW p l e Rm s m args below meth c X nL Q cells slots (Jx r) R S pcx (lvx r) (stx r))
    (step : ∀ (o1 : Option ρ), J = o1 → o1 ≠ none → (∀ r, o1 = some r → gW p l e Rm s m args below meth c X nL Q cells slots (Jx r) R S pcx (lvx r) (stx r)) → gW p l e Rm s m args below meth c X nL Q cells slots I R S pc lv st) : gW p l e Rm s m args below meth c X nL Q cells slots I R S pc lv st := by
  obtain ⟨zr, hz, hf⟩ := gbind hf ho
  exact step J rfl (fun h => by rw [h] at hz; cases hz) (fun r hr => krest r (by rw [hz] at hr; cases hr; exact hf))
theorem gcase {τ : Type} {q : Prop} [Decidable q] {A o : Option τ} (hf : (if q then A else none) = o) (ho : o ≠ none) : q ∧ A = o := by
  by_cases h : q
  · rw [if_pos h] at hf; exact ⟨h, hf⟩
  · rw [if_neg h] at hf; exact absurd hf.symm ho
theorem g_ialdD {τ : Type} {A o : Option τ} {q : Nat} {i : Int32} (C : gC p s m args c cc nL own Ts X) (hd : decode cc pc = .ok (.iaload, 1)) (ho : o ≠ none) (hf : (if i < 0 ∨ gLn S q ≤ i.toNatClampNeg then none else A) = o) (kk : A = o → gW p l e Rm s m args below meth c X nL Q cells slots I R S (pc + 1) lv (.int (I q i.toNatClampNeg) :: st)) : gW p l e Rm s m args below meth c X nL Q cells slots I R S pc lv (.int i :: .ref (X.1 + q) :: st) := by
  by_cases h : i < 0 ∨ gLn S q ≤ i.toNatClampNeg
  · rw [if_pos h] at hf; exact absurd hf.symm ho
  · exact g_iald C hd (gLn_at (by have : ¬ gLn S q ≤ i.toNatClampNeg := fun z => h (Or.inr z); omega)) ho hf kk
theorem g_iastD {τ : Type} {A o : Option τ} {q : Nat} {i x : Int32} (C : gC p s m args c cc nL own Ts X) (hd : decode cc pc = .ok (.iastore, 1)) (ho : o ≠ none) (hf : (if i < 0 ∨ gLn S q ≤ i.toNatClampNeg then none else A) = o) (kk : A = o → gW p l e Rm s m args below meth c X nL Q cells slots (gU I q i.toNatClampNeg x) R S (pc + 1) lv st) : gW p l e Rm s m args below meth c X nL Q cells slots I R S pc lv (.int x :: .int i :: .ref (X.1 + q) :: st) := by
  by_cases h : i < 0 ∨ gLn S q ≤ i.toNatClampNeg
  · rw [if_pos h] at hf; exact absurd hf.symm ho
  · exact g_iast C hd (gLn_at (by have : ¬ gLn S q ≤ i.toNatClampNeg := fun z => h (Or.inr z); omega)) ho hf kk
theorem g_alenD {τ : Type} {A o : Option τ} {q : Nat} (C : gC p s m args c cc nL own Ts X) (hd : decode cc pc = .ok (.arraylength, 1)) (ho : o ≠ none) (hf : (if gAr S q = false then none else A) = o) (kk : A = o → gW p l e Rm s m args below meth c X nL Q cells slots I R S (pc + 1) lv (.int (Int32.ofNat (gLn S q)) :: st)) : gW p l e Rm s m args below meth c X nL Q cells slots I R S pc lv (.ref (X.1 + q) :: st) := by
  by_cases h : gAr S q = false
  · rw [if_pos h] at hf; exact absurd hf.symm ho
  · rw [if_neg h] at hf
    exact g_alen (k := 0) 0 C hd (gAr_at (by cases hx : gAr S q <;> simp_all)) rfl rfl (kk hf)
/-- a row of references whose places are known -/
theorem g_aaldG {τ : Type} {A o : Option τ} {q n : Nat} {i : Int32} {ty : FieldType} (t : Nat) (tg : Nat → Nat) (C : gC p s m args c cc nL own Ts X) (hd : decode cc pc = .ok (.aaload, 1)) (h1 : 1 ≤ t) (hS : S[q]? = some (12 + t, n)) (ht : (gTys X.2.2.2)[t]? = some (X.2.2.2 t, ty)) (href : ty.isReference = true) (hG : ∀ j, j < n → R q j = some (tg j)) (ho : o ≠ none) (hf : (if i < 0 ∨ n ≤ i.toNatClampNeg then none else A) = o) (kk : i.toNatClampNeg < n → A = o → gW p l e Rm s m args below meth c X nL Q cells slots I R S (pc + 1) lv (.ref (X.1 + tg i.toNatClampNeg) :: st)) : gW p l e Rm s m args below meth c X nL Q cells slots I R S pc lv (.int i :: .ref (X.1 + q) :: st) := by
  by_cases h : i < 0 ∨ n ≤ i.toNatClampNeg
  · rw [if_pos h] at hf; exact absurd hf.symm ho
  · have hlt : i.toNatClampNeg < n := Nat.not_le.mp fun z => h (Or.inr z)
    refine g_aald t C hd h1 hS ht href ho hf (fun hf => ?_)
    rw [hG _ hlt]
    exact kk hlt hf
theorem g_tabC {dflt lo hi : Int} {offs : Array Int} {len : Nat} {x v : Int32} {off : Int} {tgt : Nat} (C : gC p s m args c cc nL own Ts X) (hd : decode cc pc = .ok (.tableswitch dflt lo hi offs, len)) (hx : x = v) (h1 : ¬ v.toInt < lo) (h2 : ¬ hi < v.toInt) (ho : offs[(v.toInt - lo).toNat]? = some off) (ht : (pc : Int) + off = (tgt : Int)) (k : gW p l e Rm s m args below meth c X nL Q cells slots I R S tgt lv st) : gW p l e Rm s m args below meth c X nL Q cells slots I R S pc lv (.int x :: st) := by
  subst hx
  exact fun H locs ls hR hS hl => lv_tableIn C.1 C.2.1 hd h1 h2 ho ht (k H locs ls hR hS hl)
theorem g_tabD {dflt lo hi : Int} {offs : Array Int} {len cnt : Nat} {x : Int32} {tgt : Nat} (C : gC p s m args c cc nL own Ts X) (hd : decode cc pc = .ok (.tableswitch dflt lo hi offs, len)) (hne : ∀ k : Nat, k < cnt → ¬ x = Int32.ofInt (lo + k)) (hlh : hi + 1 = lo + cnt ∧ -2147483648 ≤ lo ∧ hi < 2147483648) (ht : (pc : Int) + dflt = (tgt : Int)) (k : gW p l e Rm s m args below meth c X nL Q cells slots I R S tgt lv st) : gW p l e Rm s m args below meth c X nL Q cells slots I R S pc lv (.int x :: st) := by
  have h : x.toInt < lo ∨ hi < x.toInt := by
    rcases Int.lt_or_le x.toInt lo with h | h
    · exact Or.inl h
    · rcases Int.lt_or_le hi x.toInt with h2 | h2
      · exact Or.inr h2
      · refine absurd ?_ (hne (x.toInt - lo).toNat (by omega))
        rw [show lo + ((x.toInt - lo).toNat : Int) = x.toInt by omega]
        exact (Int32.ofInt_toInt x).symm
  exact fun H locs ls hR hS hl => lv_tableOut C.1 C.2.1 hd h ht (k H locs ls hR hS hl)
theorem gcaseF {τ : Type} {q : Bool} {A o : Option τ} (hf : (if q = false then none else A) = o) (ho : o ≠ none) : q = true ∧ A = o := by
  cases q with
  | true => exact ⟨rfl, hf⟩
  | false => exact absurd hf.symm ho
end GA
