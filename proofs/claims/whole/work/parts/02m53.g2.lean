section GB
variable {p : Program} {l : Launch} {e : Env} {Rm : Room} {s : State} {m : MethodId} {args : Array Value} {below : List Frame} {meth : Method} {c : Code} {X : gX} {nL : Nat} {Q : State → Prop} {cells slots : Nat} {I : gI} {R : gR} {S : gS} {pc : Nat} {lv : List (Nat × Value)} {st : List Value} {cc : ByteArray} {own : String} {Ts : List Cond}
theorem g_astore_nN {f : Fin 4} {i : Nat} (C : gC p s m args c cc nL own Ts X) (hd : decode cc pc = .ok (.astore_n f, 1)) (hi : (f : Nat) = i) (hn : i < nL) (hu : gUniq lv = true) (hf : gFine lv i = true) (k : gW p l e Rm s m args below meth c X nL Q cells slots I R S (pc + 1) (gSet lv i .null) st) : gW p l e Rm s m args below meth c X nL Q cells slots I R S pc lv (.null :: st) :=
  fun H locs ls hR hS hl => lv_astore_nN C.1 C.2.1 hd hi hl hn rfl (fun ls' hl' => k H locs ls' hR hS (gSet_lv hu hf hl'))
theorem g_astoreN {i : Nat} (C : gC p s m args c cc nL own Ts X) (hd : decode cc pc = .ok (.astore i, 2)) (hn : i < nL) (hu : gUniq lv = true) (hf : gFine lv i = true) (k : gW p l e Rm s m args below meth c X nL Q cells slots I R S (pc + 2) (gSet lv i .null) st) : gW p l e Rm s m args below meth c X nL Q cells slots I R S pc lv (.null :: st) :=
  fun H locs ls hR hS hl => lv_astoreN C.1 C.2.1 hd hl hn rfl (fun ls' hl' => k H locs ls' hR hS (gSet_lv hu hf hl'))
/-- the words of the two functions of Math -/
def gMin (s : State) (args : Array Value) : Prop := (Cond.static Lib.Math.min.name).before args s = true ∧ (Cond.initialized "java/lang/Math").before args s = true ∧ (Cond.code Lib.Math.min.name Lib.Math.min.code 2 (some .int)).before args s = true
def gMax (s : State) (args : Array Value) : Prop := (Cond.static Lib.Math.max.name).before args s = true ∧ (Cond.initialized "java/lang/Math").before args s = true ∧ (Cond.code Lib.Math.max.name Lib.Math.max.code 2 (some .int)).before args s = true
theorem g_min {index : Nat} {x y : Int32} (C : gC p s m args c cc nL own Ts X) (hd : decode cc pc = .ok (.invokestatic index, 3)) (hl0 : (Cond.methodLink own index Lib.Math.min.name).before args s = true) (hw : gMin s args) (hframes : 1 ≤ Rm.frames) (hlocals : (st.map fun v => v.category).sum + 13 ≤ Rm.locals) (hc : cells ≤ Rm.cells ∧ slots ≤ Rm.slots) (kk : gW p l e Rm s m args below meth c X nL Q cells slots I R S (pc + 3) lv (.int (if y < x then y else x) :: st)) : gW p l e Rm s m args below meth c X nL Q cells slots I R S pc lv (.int y :: .int x :: st) :=
  fun H locs ls hR hS hl => va_mmin C.1 C.2.1 (by rw [C.2.2.1, hl.1]) C.2.2.2.1 hl0 hw.1 hw.2.1 hw.2.2 hframes hlocals hc.1 hc.2 hd (kk H locs ls hR hS hl)
theorem g_max {index : Nat} {x y : Int32} (C : gC p s m args c cc nL own Ts X) (hd : decode cc pc = .ok (.invokestatic index, 3)) (hl0 : (Cond.methodLink own index Lib.Math.max.name).before args s = true) (hw : gMax s args) (hframes : 1 ≤ Rm.frames) (hlocals : (st.map fun v => v.category).sum + 13 ≤ Rm.locals) (hc : cells ≤ Rm.cells ∧ slots ≤ Rm.slots) (kk : gW p l e Rm s m args below meth c X nL Q cells slots I R S (pc + 3) lv (.int (if x < y then y else x) :: st)) : gW p l e Rm s m args below meth c X nL Q cells slots I R S pc lv (.int y :: .int x :: st) :=
  fun H locs ls hR hS hl => va_mmax C.1 C.2.1 (by rw [C.2.2.1, hl.1]) C.2.2.2.1 hl0 hw.1 hw.2.1 hw.2.2 hframes hlocals hc.1 hc.2 hd (kk H locs ls hR hS hl)
/-- the rows of the four classes of worlds -/
def gWc (Ts : List Cond) : Prop := gCl Ts 1 RX1 TX1 4 ∧ gCl Ts 3 RX3 TX3 4 ∧ gCl Ts 4 RX4 TX4 5 ∧ gCl Ts 7 RX7 TX7 5
theorem g_getWI {w index : Nat} {ref nm ds : String} (j : Nat) (C : gC p s m args c cc nL own Ts X) (hd : decode cc pc = .ok (.getfield index, 3)) (hw : gWb R S w = true) (hc : gWc Ts) (hj : (gT 1)[j]? = some (false, j) ∧ (gT 3)[j]? = some (false, j) ∧ (gT 4)[j]? = some (false, j) ∧ (gT 7)[j + 1]? = some (false, j)) (hlink : (Cond.fieldLink own index ref nm ds).before args s = true) (hn : (TX1 j) = (ref, nm, ds, true) ∧ (TX3 j) = (ref, nm, ds, true) ∧ (TX4 j) = (ref, nm, ds, true) ∧ (TX7 (j + 1)) = (ref, nm, ds, true)) (kk : gW p l e Rm s m args below meth c X nL Q cells slots I R S (pc + 3) lv (.int (I w j) :: st)) : gW p l e Rm s m args below meth c X nL Q cells slots I R S pc lv (.ref (X.1 + w) :: st) := by
  rcases gWb_k hw with h | h | h | h
  · exact g_getI (i := j) C hd h hc.1 hj.1 (by rw [hn.1]; exact hlink) (by rw [hn.1]; exact fun _ h9 => h9) kk
  · exact g_getI (i := j) C hd h hc.2.1 hj.2.1 (by rw [hn.2.1]; exact hlink) (by rw [hn.2.1]; exact fun _ h9 => h9) kk
  · exact g_getI (i := j) C hd h hc.2.2.1 hj.2.2.1 (by rw [hn.2.2.1]; exact hlink) (by rw [hn.2.2.1]; exact fun _ h9 => h9) kk
  · exact g_getI (i := j + 1) C hd h hc.2.2.2 hj.2.2.2 (by rw [hn.2.2.2]; exact hlink) (by rw [hn.2.2.2]; exact fun _ h9 => h9) kk
theorem g_getWt {w index : Nat} {ref nm ds : String} (C : gC p s m args c cc nL own Ts X) (hd : decode cc pc = .ok (.getfield index, 3)) (hw : gWb R S w = true) (hc : gWc Ts) (hlink : (Cond.fieldLink own index ref nm ds).before args s = true) (hn : (TX1 0) = (ref, nm, ds, true) ∧ (TX3 0) = (ref, nm, ds, true) ∧ (TX4 0) = (ref, nm, ds, true) ∧ (TX7 1) = (ref, nm, ds, true)) (kk : gW p l e Rm s m args below meth c X nL Q cells slots I R S (pc + 3) lv (.ref (X.1 + gt R w) :: st)) : gW p l e Rm s m args below meth c X nL Q cells slots I R S pc lv (.ref (X.1 + w) :: st) := by
  have ht := (gWb_t hw).1
  rcases gWb_k hw with h | h | h | h
  · exact g_getR (i := 0) (j := 0) C hd h hc.1 rfl (by decide) (by rw [hn.1]; exact hlink) (by rw [hn.1]; exact fun _ h9 => h9) ht kk
  · exact g_getR (i := 0) (j := 0) C hd h hc.2.1 rfl (by decide) (by rw [hn.2.1]; exact hlink) (by rw [hn.2.1]; exact fun _ h9 => h9) ht kk
  · exact g_getR (i := 0) (j := 0) C hd h hc.2.2.1 rfl (by decide) (by rw [hn.2.2.1]; exact hlink) (by rw [hn.2.2.1]; exact fun _ h9 => h9) ht kk
  · exact g_getR (i := 1) (j := 0) C hd h hc.2.2.2 rfl (by decide) (by rw [hn.2.2.2]; exact hlink) (by rw [hn.2.2.2]; exact fun _ h9 => h9) ht kk
def gAcw (s : State) (args : Array Value) : Prop := (Cond.native arraycopyName).before args s = true ∧ (Cond.static arraycopyName).before args s = true ∧ (Cond.initialized "java/lang/System").before args s = true
theorem g_copy {τ : Type} {A o : Option τ} {index a0 a n0 n1 : Nat} {sp dp n : Int32} (C : gC p s m args c cc nL own Ts X) (hd : decode cc pc = .ok (.invokestatic index, 3)) (hl0 : (Cond.methodLink own index arraycopyName).before args s = true) (hw : gAcw s args) (hS0 : S[a0]? = some (12, n0)) (hS1 : S[a]? = some (12, n1)) (ho : o ≠ none) (hf : (if (sp < 0 ∨ dp < 0 ∨ n < 0) ∨ n0 < sp.toNatClampNeg + n.toNatClampNeg ∨ n1 < dp.toNatClampNeg + n.toNatClampNeg then none else A) = o)
    (hframes : 1 ≤ Rm.frames) (hlocals : (st.map fun v => v.category).sum + (nativeFrameWords "java/lang/System" "arraycopy" 5 + 11) ≤ Rm.locals)
    (kk : A = o → gW p l e Rm s m args below meth c X nL Q cells slots (gCopy I a0 a sp.toNatClampNeg dp.toNatClampNeg n.toNatClampNeg) R S (pc + 3) lv st) : gW p l e Rm s m args below meth c X nL Q cells slots I R S pc lv (.int n :: .int dp :: .ref (X.1 + a) :: .int sp :: .ref (X.1 + a0) :: st) := by
  by_cases h : (sp < 0 ∨ dp < 0 ∨ n < 0) ∨ n0 < sp.toNatClampNeg + n.toNatClampNeg ∨ n1 < dp.toNatClampNeg + n.toNatClampNeg
  · rw [if_pos h] at hf; exact absurd hf.symm ho
  rw [if_neg h] at hf
  have h1 : ¬ sp < 0 := fun z => h (Or.inl (Or.inl z))
  have h2 : ¬ dp < 0 := fun z => h (Or.inl (Or.inr (Or.inl z)))
  have h3 : ¬ n < 0 := fun z => h (Or.inl (Or.inr (Or.inr z)))
  have h4 : sp.toNatClampNeg + n.toNatClampNeg ≤ n0 := Nat.not_lt.mp fun z => h (Or.inr (Or.inl z))
  have h5 : dp.toNatClampNeg + n.toNatClampNeg ≤ n1 := Nat.not_lt.mp fun z => h (Or.inr (Or.inr z))
  have nn : ∀ z : Int32, ¬ z < 0 → z.toInt = (z.toNatClampNeg : Int) := by
    intro z hz
    have hz0 : (0 : Int) ≤ z.toInt := by
      have := Int32.not_lt.mp hz
      simpa using Int32.le_iff_toInt_le.mp this
    show z.toInt = ((z.toInt.toNat : Nat) : Int)
    omega
  intro H locs ls hR hS hl T hT XX
  have hK := C.2.2.2.2.2.1
  have hc0 : H[X.1 + a0]? = some (vp_cell (X.2.2.2 0) (n0, .inl (I a0))) := gReal_at hR hS0 0 _ rfl
  have hc1 : H[X.1 + a]? = some (vp_cell (X.2.2.2 0) (n1, .inl (I a))) := gReal_at hR hS1 0 _ rfl
  obtain ⟨-, k0, hk0, cm0, hkk0⟩ := (hK.2 0 (X.2.2.2 0, .int) rfl).1 n0 (fun j => .int (I a0 j))
  obtain ⟨-, k1, hk1, cm1, hkk1⟩ := (hK.2 0 (X.2.2.2 0, .int) rfl).1 n1 (fun j => .int (I a j))
  obtain ⟨vm', X', step⟩ := XX.arraycopy C.1 C.2.2.2.1 hl0 hw.1 hw.2.1 hw.2.2 (src := X.1 + a0) (dst := X.1 + a) (cs := vp_cell (X.2.2.2 0) (n0, .inl (I a0))) (cd := vp_cell (X.2.2.2 0) (n1, .inl (I a))) (srcPos := sp) (destPos := dp) (n := n) (by rw [hT]; exact hc0) (by rw [hT]; exact hc1)
    (fun _ h => by cases h) (fun _ h => by cases h) (fun h => by cases h) (fun h => by cases h) hk0 hk1 hkk0 hkk1 (by simp [refKind]) h1 h2 h3
    (by rw [nn sp h1, nn n h3]; show ¬ _ > ((arrV (X.2.2.2 0) n0 (fun j => .int (I a0 j))).slots.size : Int); rw [arrV_size]; omega)
    (by rw [nn dp h2, nn n h3]; show ¬ _ > ((arrV (X.2.2.2 0) n1 (fun j => .int (I a j))).slots.size : Int); rw [arrV_size]; omega)
    (fun vm₁ _ i hi => by
      have e : (vp_cell (X.2.2.2 0) (n0, .inl (I a0))).slots.getD (sp.toNatClampNeg + i) .null = .int (I a0 (sp.toNatClampNeg + i)) := by
        show (arrV (X.2.2.2 0) n0 (fun j => .int (I a0 j))).slots.getD _ _ = _
        rw [Array.getD_eq_getD_getElem?, arrV_read _ _ (by omega)]
        rfl
      refine ⟨?_, ?_⟩
      · rw [e]
        rfl
      · rw [e]
        exact trivial)
    (g := F0 m pc ls (.int n :: .int dp :: .ref (X.1 + a) :: .int sp :: .ref (X.1 + a0) :: st)) rfl (by show ls.size = _; rw [C.2.2.1, hl.1]) (rest := st) rfl (by rw [C.2.1]; exact hd) hframes (by show 2 * 0 + _ + _ ≤ _; omega)
  have e1 : copied (vp_cell (X.2.2.2 0) (n0, .inl (I a0))) (vp_cell (X.2.2.2 0) (n1, .inl (I a))) sp dp n = vp_cell (X.2.2.2 0) (n1, .inl (va_cpy (I a0) (I a) sp.toNatClampNeg dp.toNatClampNeg n.toNatClampNeg)) := va_copied (fun z => .int z) (X.2.2.2 0) (X.2.2.2 0) (I a0) (I a) h4
  rw [e1] at X' step
  have hlt : X.1 + a < H.size := (Array.getElem?_eq_some_iff.mp hc1).1
  generalize hcl : vp_cell (X.2.2.2 0) (n1, .inl (va_cpy (I a0) (I a) sp.toNatClampNeg dp.toNatClampNeg n.toNatClampNeg)) = cl at X' step
  have hheap : ((T.setVm vm').setCell (X.1 + a) cl).heap = H.setIfInBounds (X.1 + a) cl := by rw [← hT]; rfl
  have oq : ∀ q : Nat, q ≠ X.1 + a → (H.setIfInBounds (X.1 + a) cl)[q]? = H[q]? := fun q hq => by simp [Array.getElem?_setIfInBounds, Ne.symm hq]
  obtain ⟨t, a1, b1⟩ := kk hf _ _ ls (gReal_put hR hS1 (by simp) oq (show (H.setIfInBounds (X.1 + a) cl)[X.1 + a]? = some (vp_cell _ _) by
      rw [gCopy_row, hcl]
      simp [Array.getElem?_setIfInBounds, hlt]) (fun q h => gCopy_cell _ _ _ _ _ h) (fun _ _ => rfl)) ⟨by simp; exact hS.1, fun q g1 g2 => by
      rw [oq q (fun e => g2 (by rw [e]; exact Nat.le_add_right _ _))]
      exact hS.2.1 q g1 g2, fun q hq => by
      rcases List.mem_append.mp hq with h | h
      · exact hS.2.2 q h
      · obtain ⟨z, -, hz⟩ := List.mem_map.mp h
        rw [← hz]
        exact Nat.le_add_right _ _⟩ hl _ hheap X'
  exact ⟨t, step t a1, b1⟩
end GB
