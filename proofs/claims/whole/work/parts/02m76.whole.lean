section GP
variable {p : Program} {e : Env} {s : State} {m : MethodId} {below : List Frame} {meth : Method} {c : Code}
theorem gKnown {b : Nat} (hts : ∀ w ∈ lw_tbl, w.before #[Value.ref b] s = true) : ∃ (dC : Nat → ClassId) (dI : Nat → Nat → Nat), ∀ (k : Nat) (q : vw_C), vwCl[k]? = some q → u_Kn s q.1 q.2.1 q.2.2 (dC k) (dI k) := by
  obtain ⟨c0, i0, h0⟩ := u_known (C := RX0) (T := TX0) (N := 12) (n := 12) hts (by decide +kernel) (hts (.instantiable RX0 12) (by decide +kernel))
  obtain ⟨c1, i1, h1⟩ := u_known (C := RX1) (T := TX1) (N := 4) (n := 4) hts (by decide +kernel) (hts (.instantiable RX1 4) (by decide +kernel))
  obtain ⟨c2, i2, h2⟩ := u_known (C := RX2) (T := TX2) (N := 8) (n := 8) hts (by decide +kernel) (hts (.instantiable RX2 8) (by decide +kernel))
  obtain ⟨c3, i3, h3⟩ := u_known (C := RX3) (T := TX3) (N := 4) (n := 4) hts (by decide +kernel) (hts (.instantiable RX3 4) (by decide +kernel))
  obtain ⟨c4, i4, h4⟩ := u_known (C := RX4) (T := TX4) (N := 5) (n := 5) hts (by decide +kernel) (hts (.instantiable RX4 5) (by decide +kernel))
  obtain ⟨c5, i5, h5⟩ := u_known (C := RX5) (T := TX5) (N := 3) (n := 3) hts (by decide +kernel) (hts (.instantiable RX5 3) (by decide +kernel))
  obtain ⟨c6, i6, h6⟩ := u_known (C := RX6) (T := TX6) (N := 10) (n := 10) hts (by decide +kernel) (hts (.instantiable RX6 10) (by decide +kernel))
  obtain ⟨c7, i7, h7⟩ := u_known (C := RX7) (T := TX7) (N := 5) (n := 5) hts (by decide +kernel) (hts (.instantiable RX7 5) (by decide +kernel))
  obtain ⟨c8, i8, h8⟩ := u_known (C := RX8) (T := TX8) (N := 10) (n := 10) hts (by decide +kernel) (hts (.instantiable RX8 10) (by decide +kernel))
  obtain ⟨c9, i9, h9⟩ := u_known (C := RX9) (T := TX9) (N := 2) (n := 2) hts (by decide +kernel) (hts (.instantiable RX9 2) (by decide +kernel))
  obtain ⟨c10, i10, h10⟩ := u_known (C := RX11) (T := TX11) (N := 8) (n := 8) hts (by decide +kernel) (hts (.instantiable RX11 8) (by decide +kernel))
  obtain ⟨c11, i11, h11⟩ := u_known (C := RX12) (T := TX12) (N := 29) (n := 29) hts (by decide +kernel) (hts (.instantiable RX12 29) (by decide +kernel))
  refine ⟨fun k => [c0, c1, c2, c3, c4, c5, c6, c7, c8, c9, c10, c11].getD k c0, fun k => [i0, i1, i2, i3, i4, i5, i6, i7, i8, i9, i10, i11].getD k i0, ?_⟩
  intro k q hq
  match k, hq with
  | 0, hq => cases hq; exact h0
  | 1, hq => cases hq; exact h1
  | 2, hq => cases hq; exact h2
  | 3, hq => cases hq; exact h3
  | 4, hq => cases hq; exact h4
  | 5, hq => cases hq; exact h5
  | 6, hq => cases hq; exact h6
  | 7, hq => cases hq; exact h7
  | 8, hq => cases hq; exact h8
  | 9, hq => cases hq; exact h9
  | 10, hq => cases hq; exact h10
  | 11, hq => cases hq; exact h11
  | k + 12, hq => simp [vwCl] at hq
theorem gArr {b : Nat} (hts : ∀ w ∈ lw_tbl, w.before #[Value.ref b] s = true) : ∃ dA : Nat → ClassId, ∀ (k : Nat) (q : ClassId × FieldType), (gTys dA)[k]? = some q → ArrOfT s q.1 q.2 ∧ va_RA s q.1 q.2 := by
  obtain ⟨ci, ki, cm, a1, a2, a3⟩ := Cond.arrayClass_spec (hts (.arrayClass .int) (by decide +kernel))
  obtain ⟨cmA, cA, kA, e1, e2, e3, e4, e5⟩ := arrayOverA_spec (hts (.arrayOver (.array .int)) (by decide +kernel))
  obtain ⟨cmR, cR, kR, f1, f2, f3, f4, f5⟩ := Cond.arrayOver_spec (hts (.arrayOver (.object RX5)) (by decide +kernel))
  obtain ⟨cmW, cW, kW, g1, g2, g3, g4, g5⟩ := Cond.arrayOver_spec (hts (.arrayOver (.object RX10)) (by decide +kernel))
  refine ⟨fun k => if k = 0 then ci else if k = 1 then cA else if k = 2 then cR else cW, ?_⟩
  intro k q hq
  match k, hq with
  | 0, hq => cases hq; exact ⟨fun N z => ⟨(fun q hq => by cases hq), ki, a2, cm, a3⟩, a1⟩
  | 1, hq => cases hq; exact ⟨fun N z => ⟨(fun q hq => by cases hq), kA, e3, cmA, e4⟩, e5⟩
  | 2, hq => cases hq; exact ⟨fun N z => ⟨(fun q hq => by cases hq), kR, f3, cmR, f4⟩, kR, cmR, f3, f4, f1, f5⟩
  | 3, hq => cases hq; exact ⟨fun N z => ⟨(fun q hq => by cases hq), kW, g3, cmW, g4⟩, kW, cmW, g3, g4, g1, g5⟩
  | k + 4, hq => simp [gTys] at hq
set_option maxRecDepth 100000 in
set_option maxHeartbeats 8000000 in
/-- THE CLAIM OUT OF THE FUNCTIONS ALONE -/
theorem whole_from (l : Launch) {b L : Nat} {xs : Nat → Int32} (hL : L ≤ 3074) (C0 : lw_At p s m meth c b L xs) (N : Nat) (Inv : Nat → gI → gR → gS → Prop) (hp : gPureY N Inv) : W p l e room_1 s m #[Value.ref b] below meth c s.heap [] 0 0 (lw_Z below #[Value.ref b] s) (entryFrame m ([Value.ref b] : List Value).toArray 4) := by
  obtain ⟨hx, hb, hr, hml, hown, hts, hX, hbl, hlocks, hgv⟩ := id C0
  obtain ⟨hlay, hini, hstep⟩ := hp
  obtain ⟨dC, dI, hKc⟩ := gKnown hts
  obtain ⟨dA, hKa⟩ := gArr hts
  obtain ⟨X, eX⟩ : ∃ X : gX, X = (s.heap.size, s.heap, (dC, dI), dA) := ⟨_, rfl⟩
  have hXs : X.1 = s.heap.size := by rw [eX]
  have hK : va_K X.2.2.1 vwCl (gTys X.2.2.2) s := by rw [eX]; exact ⟨hKc, hKa⟩
  have C : gC p s m #[Value.ref b] c cL_law 4 RL lw_tbl X := ⟨hx, hb, hml, hown, hts, hK, by rw [hXs]; exact Nat.le_refl _⟩
  have hbA : ¬ X.1 ≤ b := by rw [hXs]; omega
  have hE := gEN_of hts hgv
  obtain ⟨tm, hZm, hTm⟩ := mod_of (X := X) hts hgv hXs
  have hEC : gEC X tm s := ⟨va_AO.of (hts (.arrayOver (.object RX5)) (by decide +kernel)), va_AO.of (hts (.arrayOver (.object RX10)) (by decide +kernel)), (hts (.arrayOver (.array .int)) (by decide +kernel) : (Cond.arrayOver (.array .int)).before #[Value.ref b] s = true), hZm, hTm, va_Nw.of rfl (hts (.methodLinkNest RX11 23 yX9_init RX11) (by decide +kernel)), va_Nw.of rfl (hts (.methodLinkNest RX11 75 yX5_init RX11) (by decide +kernel))⟩
  have hReal : gReal X (fun _ _ => 0) (fun _ _ => none) [] s.heap := by
    rw [eX]
    exact ⟨rfl, fun _ _ => rfl, fun q kn h => by simp at h⟩
  obtain ⟨J, P, T, J2, P2, T2, hf1, hT, hf2, hI⟩ := hini (cellV L xs 0) (cellV L xs 1)
  have key : gW p l e room_1 s m #[Value.ref b] below meth c X 4 (lw_Z below #[Value.ref b] s) 0 0 (fun _ _ => 0) (fun _ _ => none) [] 0 (lv_args 0 [.ref b]) [] := by
    have c10 : gCl lw_tbl 10 RX11 TX11 8 := ⟨by decide, rfl, rfl, by decide +kernel⟩
    have c11 : gCl lw_tbl 11 RX12 TX12 29 := ⟨by decide, rfl, rfl, by decide +kernel⟩
    refine g_new (q := 0) C dL_law_0 c10 gy10 (hts (.classLink RL 7 RX11) (by decide +kernel)) (hts (.instantiable RX11 8) (by decide +kernel)) (hts (.initialized RX11) (by decide +kernel)) gd10 ⟨Nat.le_of_ble_eq_true rfl, Nat.le_of_ble_eq_true rfl⟩ rfl ?_
    refine g_dup C dL_law_3 rfl ?_
    refine g_aload_n C dL_law_4 rfl rfl ?_
    refine g_iconst (v := 0) C dL_law_5 (by decide) ?_
    refine g_callS C dL_law_6 (m_L_cell l X hbA _ _ _ 0 (by decide) (by omega)) (gEX_in hX hbA) (va_cwS 2 C.2.2.2.2.1 hL_law_L_cell rfl rfl rfl (by decide +kernel) ⟨Nat.le_of_ble_eq_true rfl, Nat.le_of_ble_eq_true rfl⟩) rfl rfl (Nat.le_of_ble_eq_true rfl) ⟨Nat.le_of_ble_eq_true rfl, Nat.le_of_ble_eq_true rfl⟩ ?_
    refine g_aload_n C dL_law_9 rfl rfl ?_
    refine g_iconst (v := 1) C dL_law_10 (by decide) ?_
    refine g_callS C dL_law_11 (m_L_cell l X hbA _ _ _ 1 (by decide) (by omega)) (gEX_in hX hbA) (va_cwS 2 C.2.2.2.2.1 hL_law_L_cell rfl rfl rfl (by decide +kernel) ⟨Nat.le_of_ble_eq_true rfl, Nat.le_of_ble_eq_true rfl⟩) rfl rfl (Nat.le_of_ble_eq_true rfl) ⟨Nat.le_of_ble_eq_true rfl, Nat.le_of_ble_eq_true rfl⟩ ?_
    refine g_callI C dL_law_14 (m_Y11_init l X N _ _ _ tm _ _ J P T hf1) (gEC_in hEC) (cwI 2 C.2.2.2.2.1 hL_law_X11_init rfl rfl rfl (hts (.initialized RX11) (by decide +kernel)) (hts (.methodLink RL 15 yX11_init) (by decide +kernel)) (hts (.instanceMethod yX11_init) (by decide +kernel)) rfl (by decide +kernel) ⟨Nat.le_of_ble_eq_true rfl, Nat.le_of_ble_eq_true rfl⟩) rfl rfl (Nat.le_of_ble_eq_true rfl) ⟨Nat.le_of_ble_eq_true rfl, Nat.le_of_ble_eq_true rfl⟩ ?_
    refine g_astore_n C dL_law_17 rfl (Nat.le_of_ble_eq_true rfl) rfl rfl ?_
    refine g_new (q := 91) C dL_law_18 c11 gy11 (hts (.classLink RL 18 RX12) (by decide +kernel)) (hts (.instantiable RX12 29) (by decide +kernel)) (hts (.initialized RX12) (by decide +kernel)) gd11 ⟨Nat.le_of_ble_eq_true rfl, Nat.le_of_ble_eq_true rfl⟩ hT ?_
    refine g_dup C dL_law_21 rfl ?_
    refine g_aload_n C dL_law_22 rfl rfl ?_
    refine g_iconst (v := 0) C dL_law_23 (by decide) ?_
    refine g_callS C dL_law_24 (m_L_cell l X hbA _ _ _ 0 (by decide) (by omega)) (gEX_in hX hbA) (va_cwS 2 C.2.2.2.2.1 hL_law_L_cell rfl rfl rfl (by decide +kernel) ⟨Nat.le_of_ble_eq_true rfl, Nat.le_of_ble_eq_true rfl⟩) rfl rfl (Nat.le_of_ble_eq_true rfl) ⟨Nat.le_of_ble_eq_true rfl, Nat.le_of_ble_eq_true rfl⟩ ?_
    refine g_aload_n C dL_law_27 rfl rfl ?_
    refine g_iconst (v := 1) C dL_law_28 (by decide) ?_
    refine g_callS C dL_law_29 (m_L_cell l X hbA _ _ _ 1 (by decide) (by omega)) (gEX_in hX hbA) (va_cwS 2 C.2.2.2.2.1 hL_law_L_cell rfl rfl rfl (by decide +kernel) ⟨Nat.le_of_ble_eq_true rfl, Nat.le_of_ble_eq_true rfl⟩) rfl rfl (Nat.le_of_ble_eq_true rfl) ⟨Nat.le_of_ble_eq_true rfl, Nat.le_of_ble_eq_true rfl⟩ ?_
    refine g_callI C dL_law_32 (m_X12_init l X N _ _ _ _ _ J2 P2 T2 hf2) gEin0 (cwI 2 C.2.2.2.2.1 hL_law_X12_init rfl rfl rfl (hts (.initialized RX12) (by decide +kernel)) (hts (.methodLink RL 20 yX12_init) (by decide +kernel)) (hts (.instanceMethod yX12_init) (by decide +kernel)) rfl (by decide +kernel) ⟨Nat.le_of_ble_eq_true rfl, Nat.le_of_ble_eq_true rfl⟩) rfl rfl (Nat.le_of_ble_eq_true rfl) ⟨Nat.le_of_ble_eq_true rfl, Nat.le_of_ble_eq_true rfl⟩ ?_
    refine g_astore_n C dL_law_35 rfl (Nat.le_of_ble_eq_true rfl) rfl rfl ?_
    refine g_iconst (v := 2) C dL_law_36 (by decide) ?_
    refine g_istore_n C dL_law_37 rfl (Nat.le_of_ble_eq_true rfl) rfl rfl ?_
    refine g_widen (k := 114 + 3 * 0) (n := 33337 + 14 * 0) (Nat.le_of_ble_eq_true rfl) (Nat.le_of_ble_eq_true rfl) ?_
    refine g_sub ?_ (law_loop N Inv hlay hstep C hr hlocks hXs hX hbl hbA hE hL 513 0 J2 P2 T2 (by omega) (by omega) hI)
    exact (And.intro rfl (And.intro rfl (And.intro rfl (And.intro rfl trivial))))
  have hl := lv_entry ([.ref b]) (n := 4) (Nat.le_of_ble_eq_true rfl)
  rw [lg_entry_eq]
  exact key s.heap [] _ hReal va_S.rf hl
end GP

