section GO
variable {p : Program} {e : Env} {s : State} {m : MethodId} {below : List Frame} {meth : Method} {c : Code}
/-- the script is where it was -/
def gEX (b L : Nat) (xs : Nat → Int32) (U : State) : Prop := va_X b L xs U U.heap
theorem gX_lt {b L : Nat} {xs : Nat → Int32} {U : State} {H : Heap} (h : va_X b L xs U H) : b < H.size := by
  obtain ⟨scr, h1, -⟩ := h
  exact (Array.getElem?_eq_some_iff.mp h1).1
theorem gEX_in {X : gX} {I : gI} {R : gR} {S : gS} {b L : Nat} {xs : Nat → Int32} (hX : va_X b L xs s s.heap) (hbA : ¬ X.1 ≤ b) : gEin X I R S s (gEX b L xs) :=
  ⟨fun a U g mk h => va_X.moved (u := U) (U := U.calling g mk a) (Vm.Alike.refl U.vm) h, fun H locs U hR hS hU hW => by
    subst hU
    exact (hX.moved hW.alike).kept (hS.2.1 b (gX_lt hX) hbA)⟩
theorem cell_in {L : Nat} {a : Int32} (h0 : ¬ a < 0) (hL : L < 2 ^ 31) (h : ¬ Int32.ofNat L ≤ a) : vp_in a L := by
  rw [vp_in_iff]
  rw [Int32.lt_iff_toInt_lt] at h0
  rw [Int32.le_iff_toInt_le, show Int32.ofNat L = nI L from rfl, nI_toInt hL] at h
  have e0 : (0 : Int32).toInt = 0 := rfl
  rw [e0] at h0
  omega
/-- what cell(script, k) answers -/
def cellV (L : Nat) (xs : Nat → Int32) (a : Int32) : Int32 := if Int32.ofNat L ≤ a then 0 else xs a.toNatClampNeg
set_option maxRecDepth 100000 in
set_option maxHeartbeats 4000000 in
theorem m_L_cell (l : Launch) (X : gX) {b L : Nat} {xs : Nat → Int32} (hbA : ¬ X.1 ≤ b) (I : gI) (R : gR) (S : gS) (a : Int32) (h0 : ¬ a < 0) (hL : L < 2 ^ 31) : gM l yL_cell wsL_cell { frames := 0, cells := 0, slots := 0, locals := 0 } X (gEX b L xs) [.ref b, .int a] I R S (some (.int (cellV L xs a))) I R S 0 0 := by
  refine gM_of (cc := cL_cell) (own := RL) (maxL := 2) (ret := some .int) (by decide) rfl rfl (Nat.le_of_ble_eq_true rfl) ?_
  intro p e s m args below meth c C hr hlk hnm hE
  have hE : va_X b L xs s s.heap := hE
  refine g_iload_n C dL_cell_0 rfl rfl ?_
  refine g_aload_n C dL_cell_1 rfl rfl ?_
  refine g_slen C dL_cell_2 hE (gX_lt hE) hbA ?_
  by_cases h : Int32.ofNat L ≤ a
  · refine g_icmp_ge_t (tgt := 12) C dL_cell_3 (by decide) h ?_
    refine g_iconst (v := 0) C dL_cell_12 (by decide) ?_
    rw [show cellV L xs a = 0 from if_pos h]
    exact g_iret C dL_cell_13 hr hlk
  · refine g_icmp_ge_f (tgt := 12) C dL_cell_3 (by decide) h ?_
    refine g_aload_n C dL_cell_6 rfl rfl ?_
    refine g_iload_n C dL_cell_7 rfl rfl ?_
    refine g_sld C dL_cell_8 hE (gX_lt hE) hbA (cell_in h0 hL h) ?_
    refine g_goto (tgt := 13) C dL_cell_9 (by decide) ?_
    rw [show cellV L xs a = xs a.toNatClampNeg from if_neg h]
    exact g_iret C dL_cell_13 hr hlk
/-- what the Statement gives of the moduli -/
theorem mod_of {b : Nat} {X : gX} (hts : ∀ w ∈ lw_tbl, w.before #[Value.ref b] s = true) (hgv : (Jvm.Cond.and given_1 narrow_1).before #[Value.ref b] s = true) (hXs : X.1 = s.heap.size) : ∃ tm : Nat, va_Z "TimesByPowers$Field" "MODULI" "[I" (.ref tm) (fun q => X.1 ≤ q) s s.heap ∧ va_T .int tm 18 (fun j => .int (gMod j)) (fun q => X.1 ≤ q) s s.heap := by
  have hs := flat_of_before _ hgv
  have hA : ∀ a : Nat, a < s.heap.size → ¬ (fun q => X.1 ≤ q) a := fun a h z => by
    have z : X.1 ≤ a := z
    omega
  have harr : (Cond.arrayOf (.static "TimesByPowers$Field" "MODULI" "[I") .int).before #[Value.ref b] s = true := hs _ (by decide +kernel)
  have hlen := va_eqt (hs (Cond.eq (.length (.static "TimesByPowers$Field" "MODULI" "[I")) (.int 18)) (by decide +kernel))
  have hel : ∀ j : Nat, j < 18 → (Term.elem (.static "TimesByPowers$Field" "MODULI" "[I") (.int (Int32.ofNat j))).eval #[Value.ref b] s none [] s = some (.int (gMod j)) := by
    intro j hj
    have hq : Cond.eq (.elem (.static "TimesByPowers$Field" "MODULI" "[I") (.int (Int32.ofNat j))) (.int (gMod j)) ∈ flatC (Jvm.Cond.and given_1 narrow_1) := by
      have : ∀ j, j < 18 → Cond.eq (.elem (.static "TimesByPowers$Field" "MODULI" "[I") (.int (Int32.ofNat j))) (.int (gMod j)) ∈ flatC (Jvm.Cond.and given_1 narrow_1) := by decide +kernel
      exact this j hj
    exact va_eqt (hs _ hq)
  obtain ⟨tm, h1, h2⟩ := va_Tof (f := fun j => .int (gMod j)) (N := 18) (A := fun q => X.1 ≤ q) (by decide) harr hlen hel hA
  exact ⟨tm, va_Zref (hts (.laysStatic "TimesByPowers$Field" "MODULI" "[I") (by decide +kernel)) (hts (.initialized "TimesByPowers$Field") (by decide +kernel)) h1 hA, h2⟩
theorem gEN_of {b : Nat} (hts : ∀ w ∈ lw_tbl, w.before #[Value.ref b] s = true) (hgv : (Jvm.Cond.and given_1 narrow_1).before #[Value.ref b] s = true) : gEN s := by
  have hs := flat_of_before _ hgv
  exact ⟨va_Nw.of rfl (hts (.declares ⟨"TimesByPowers$World", "kindTold", "()I"⟩) (by decide +kernel)), va_Nw.of rfl (hts (.castable RX7 RX4) (by decide +kernel)),
    ⟨va_Nw.of rfl (hts (.castable RX1 RX10) (by decide +kernel)), va_Nw.of rfl (hts (.castable RX3 RX10) (by decide +kernel)), va_Nw.of rfl (hts (.castable RX4 RX10) (by decide +kernel)), va_Nw.of rfl (hts (.castable RX7 RX10) (by decide +kernel))⟩,
    ⟨va_Nc.of (hs (.not (.castable RX1 RX3)) (by decide +kernel)), va_Nc.of (hs (.not (.castable RX1 RX4)) (by decide +kernel)), va_Nc.of (hs (.not (.castable RX1 RX7)) (by decide +kernel))⟩,
    ⟨va_Nc.of (hs (.not (.castable RX3 RX1)) (by decide +kernel)), va_Nc.of (hs (.not (.castable RX3 RX4)) (by decide +kernel)), va_Nc.of (hs (.not (.castable RX3 RX7)) (by decide +kernel))⟩,
    ⟨va_Nc.of (hs (.not (.castable RX4 RX1)) (by decide +kernel)), va_Nc.of (hs (.not (.castable RX4 RX3)) (by decide +kernel)), va_Nc.of (hs (.not (.castable RX4 RX7)) (by decide +kernel))⟩,
    va_Nc.of (hs (.not (.castable RX7 RX1)) (by decide +kernel)), va_Nc.of (hs (.not (.castable RX7 RX3)) (by decide +kernel))⟩
end GO
