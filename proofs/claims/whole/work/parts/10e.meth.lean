def f_X11_isRow (N : Nat) (I : gI) (R : gR) (S : gS) (a0 : Int32) : Option (Int32) :=
  (if a0 < 0 then some (0 : Int32) else (if (8 : Int32) ≤ a0 then some (0 : Int32) else some (1 : Int32)))
set_option maxRecDepth 100000 in
set_option maxHeartbeats 8000000 in
theorem m_X11_isRow (l : Launch) (X : gX) (N : Nat) (I : gI) (R : gR) (S : gS) (hL : gLay 0 91 R S) (a0 : Int32) (v : Int32) (hf : f_X11_isRow N I R S a0 = some v) : gM l yX11_isRow wsX11_isRow { frames := 0, cells := 0, slots := 0, locals := 0 } X gE0 [.int a0] I R S (some (.int v)) I R S 0 0 := by
  unfold f_X11_isRow at hf
  refine gM_of (cc := cX11_isRow) (own := RX11) (maxL := 1) (ret := (some .boolean)) (by decide) rfl rfl (Nat.le_of_ble_eq_true rfl) ?_
  intro p e s m args below meth c C hr hlk hnm hE
  have ho : (some v) ≠ none := fun h => by cases h
  refine g_iload_n C dX11_isRow_0 rfl rfl ?_
  refine g_if_lt (tgt := 14) C dX11_isRow_1 (by decide) hf (fun hf => ?_) (fun hf => ?_)
  · refine g_iconst (v := 0) C dX11_isRow_14 (by decide) ?_
    cases hf
    exact g_zret C dX11_isRow_15 hr hlk (by decide)
  · refine g_iload_n C dX11_isRow_4 rfl rfl ?_
    refine g_bipush (v := 8) C dX11_isRow_5 (by decide) ?_
    refine g_icmp_ge (tgt := 14) C dX11_isRow_7 (by decide) hf (fun hf => ?_) (fun hf => ?_)
    · refine g_iconst (v := 0) C dX11_isRow_14 (by decide) ?_
      cases hf
      exact g_zret C dX11_isRow_15 hr hlk (by decide)
    · refine g_iconst (v := 1) C dX11_isRow_10 (by decide) ?_
      refine g_goto (tgt := 15) C dX11_isRow_11 (by decide) ?_
      cases hf
      exact g_zret C dX11_isRow_15 hr hlk (by decide)
def f_X11_found (N : Nat) (I : gI) (R : gR) (S : gS) (a0 : Int32) : Option (Int32 × gI) :=
  some ((-1000010 : Int32) - a0, gU I 0 7 a0)
set_option maxRecDepth 100000 in
set_option maxHeartbeats 8000000 in
theorem m_X11_found (l : Launch) (X : gX) (N : Nat) (I : gI) (R : gR) (S : gS) (hL : gLay 0 91 R S) (a0 : Int32) (v : Int32) (J : gI) (hf : f_X11_found N I R S a0 = some (v, J)) : gM l yX11_found wsX11_found { frames := 0, cells := 0, slots := 0, locals := 0 } X gE0 [.ref (X.1 + 0), .int a0] I R S (some (.int v)) J R S 0 0 := by
  unfold f_X11_found at hf
  refine gM_of (cc := cX11_found) (own := RX11) (maxL := 2) (ret := (some .int)) (by decide) rfl rfl (Nat.le_of_ble_eq_true rfl) ?_
  intro p e s m args below meth c C hr hlk hnm hE
  have ho : (some (v, J)) ≠ none := fun h => by cases h
  have f32 := C.2.2.2.2.1 (.fieldLink RX11 32 "TimesByPowers" "latest" "I") (by decide +kernel)
  have c10 : gCl wsX11_found 10 RX11 TX11 8 := ⟨by decide, rfl, rfl, by decide +kernel⟩
  have k255 := C.2.2.2.2.1 (.constant RX11 255 (-1000010)) (by decide +kernel)
  refine g_aload_n C dX11_found_0 rfl rfl ?_
  refine g_iload_n C dX11_found_1 rfl rfl ?_
  refine g_putI (i := 7) (j := 7) C dX11_found_2 (L0 hL (by decide) (by decide)) c10 gy10 rfl f32 (fun _ h9 => h9) (Or.inl rfl) rfl ?_
  refine g_ldc C k255 dX11_found_5 ?_
  refine g_iload_n C dX11_found_7 rfl rfl ?_
  refine g_isub C dX11_found_8 ?_
  cases hf
  exact g_iret C dX11_found_9 hr hlk
def f_X11_fine (N : Nat) (I : gI) (R : gR) (S : gS) (a0 : Int32) : Option (Int32 × gI) :=
  some (a0, gU I 0 7 (0 : Int32))
set_option maxRecDepth 100000 in
set_option maxHeartbeats 8000000 in
theorem m_X11_fine (l : Launch) (X : gX) (N : Nat) (I : gI) (R : gR) (S : gS) (hL : gLay 0 91 R S) (a0 : Int32) (v : Int32) (J : gI) (hf : f_X11_fine N I R S a0 = some (v, J)) : gM l yX11_fine wsX11_fine { frames := 0, cells := 0, slots := 0, locals := 0 } X gE0 [.ref (X.1 + 0), .int a0] I R S (some (.int v)) J R S 0 0 := by
  unfold f_X11_fine at hf
  refine gM_of (cc := cX11_fine) (own := RX11) (maxL := 2) (ret := (some .int)) (by decide) rfl rfl (Nat.le_of_ble_eq_true rfl) ?_
  intro p e s m args below meth c C hr hlk hnm hE
  have ho : (some (v, J)) ≠ none := fun h => by cases h
  have f32 := C.2.2.2.2.1 (.fieldLink RX11 32 "TimesByPowers" "latest" "I") (by decide +kernel)
  have c10 : gCl wsX11_fine 10 RX11 TX11 8 := ⟨by decide, rfl, rfl, by decide +kernel⟩
  refine g_aload_n C dX11_fine_0 rfl rfl ?_
  refine g_iconst (v := 0) C dX11_fine_1 (by decide) ?_
  refine g_putI (i := 7) (j := 7) C dX11_fine_2 (L0 hL (by decide) (by decide)) c10 gy10 rfl f32 (fun _ h9 => h9) (Or.inl rfl) rfl ?_
  refine g_iload_n C dX11_fine_5 rfl rfl ?_
  cases hf
  exact g_iret C dX11_fine_6 hr hlk
def f_X11_row (N : Nat) (I : gI) (R : gR) (S : gS) (a0 : Int32) (a1 : Int32) (a2 : Int32) : Option (Int32 × gI) :=
  ((f_X11_isRow N I R S a0).bind (fun z1 => (if z1 = 0 then some ((-1000001 : Int32), I) else (if a1 < 0 then some ((-1000001 : Int32), I) else (if (3 : Int32) ≤ a1 then some ((-1000001 : Int32), I) else (if a2 ≤ (24 : Int32) then (if 0 ≤ a2 then if a0 < 0 ∨ 8 ≤ a0.toNatClampNeg then none else ((f_X5_begin N I R S (75 + 2 * a0.toNatClampNeg) a1 a2).bind (fun z3 => ((f_X11_fine N z3 R S a2).bind (fun z4 => some (z4.1, z4.2))))) else ((f_X11_found N I R S (4 : Int32)).bind (fun z5 => some (z5.1, z5.2)))) else some ((-1000001 : Int32), I)))))))
set_option maxRecDepth 100000 in
set_option maxHeartbeats 8000000 in
theorem m_X11_row (l : Launch) (X : gX) (N : Nat) (I : gI) (R : gR) (S : gS) (hL : gLay 0 91 R S) (a0 : Int32) (a1 : Int32) (a2 : Int32) (v : Int32) (J : gI) (hf : f_X11_row N I R S a0 a1 a2 = some (v, J)) : gM l yX11_row wsX11_row { frames := 2, cells := 0, slots := 0, locals := 45 } X gE0 [.ref (X.1 + 0), .int a0, .int a1, .int a2] I R S (some (.int v)) J R S 0 0 := by
  unfold f_X11_row at hf
  refine gM_of (cc := cX11_row) (own := RX11) (maxL := 4) (ret := (some .int)) (by decide) rfl rfl (Nat.le_of_ble_eq_true rfl) ?_
  intro p e s m args below meth c C hr hlk hnm hE
  have ho : (some (v, J)) ≠ none := fun h => by cases h
  have k80 := C.2.2.2.2.1 (.constant RX11 80 (-1000001)) (by decide +kernel)
  have f11 := C.2.2.2.2.1 (.fieldLink RX11 11 "TimesByPowers" "rows" "[LTimesByPowers$Row;") (by decide +kernel)
  have c10 : gCl wsX11_row 10 RX11 TX11 8 := ⟨by decide, rfl, rfl, by decide +kernel⟩
  refine g_iload_n C dX11_row_0 rfl rfl ?_
  obtain ⟨z1, hz1, hf⟩ := gbind hf ho
  refine g_callS C dX11_row_1 (m_X11_isRow l X N _ _ _  (gLay.sub hL (by decide) (by decide)) _ z1 hz1) gEin0 (va_cwS 1 C.2.2.2.2.1 gX11_row_X11_isRow rfl rfl rfl (by decide +kernel) ⟨Nat.le_of_ble_eq_true rfl, Nat.le_of_ble_eq_true rfl⟩) rfl rfl (Nat.le_of_ble_eq_true rfl) ⟨Nat.le_of_ble_eq_true rfl, Nat.le_of_ble_eq_true rfl⟩ ?_
  refine g_if_eq (tgt := 22) C dX11_row_4 (by decide) hf (fun hf => ?_) (fun hf => ?_)
  · refine g_ldc C k80 dX11_row_22 ?_
    cases hf
    exact g_iret C dX11_row_24 hr hlk
  · refine g_iload_n C dX11_row_7 rfl rfl ?_
    refine g_if_lt (tgt := 22) C dX11_row_8 (by decide) hf (fun hf => ?_) (fun hf => ?_)
    · refine g_ldc C k80 dX11_row_22 ?_
      cases hf
      exact g_iret C dX11_row_24 hr hlk
    · refine g_iload_n C dX11_row_11 rfl rfl ?_
      refine g_iconst (v := 3) C dX11_row_12 (by decide) ?_
      refine g_icmp_ge (tgt := 22) C dX11_row_13 (by decide) hf (fun hf => ?_) (fun hf => ?_)
      · refine g_ldc C k80 dX11_row_22 ?_
        cases hf
        exact g_iret C dX11_row_24 hr hlk
      · refine g_iload_n C dX11_row_16 rfl rfl ?_
        refine g_bipush (v := 24) C dX11_row_17 (by decide) ?_
        refine g_icmp_le (tgt := 25) C dX11_row_19 (by decide) hf (fun hf => ?_) (fun hf => ?_)
        · refine g_iload_n C dX11_row_25 rfl rfl ?_
          refine g_if_ge (tgt := 35) C dX11_row_26 (by decide) hf (fun hf => ?_) (fun hf => ?_)
          · refine g_aload_n C dX11_row_35 rfl rfl ?_
            refine g_getR (i := 3) (j := 3) C dX11_row_36 (L0 hL (by decide) (by decide)) c10 rfl (by decide) f11 (fun _ h9 => h9) (LR0_3 hL (by decide) (by decide)) ?_
            refine g_iload_n C dX11_row_39 rfl rfl ?_
            refine g_aaldG 2 (fun j => 75 + 2 * j) C dX11_row_40 (by decide) (L1 hL (by decide) (by decide)) rfl rfl (fun j hj => LG1 hL (by decide) (by decide) hj) ho hf (fun hj2 hf => ?_)
            refine g_iload_n C dX11_row_41 rfl rfl ?_
            refine g_iload_n C dX11_row_42 rfl rfl ?_
            obtain ⟨z3, hz3, hf⟩ := gbind hf ho
            refine g_callV C dX11_row_43 (m_X5_begin l X N _ _ _  (LH1 hL (by decide) (by decide) hj2) _ _ _ z3 hz3) gEin0 (cwV 2 C.2.2.2.2.1 gX11_row_X5_begin rfl rfl rfl (by decide +kernel) ⟨Nat.le_of_ble_eq_true rfl, Nat.le_of_ble_eq_true rfl⟩) ((LH1 hL (by decide) (by decide) hj2)).1 (by decide) rfl rfl rfl (Nat.le_of_ble_eq_true rfl) ⟨Nat.le_of_ble_eq_true rfl, Nat.le_of_ble_eq_true rfl⟩ ?_
            refine g_aload_n C dX11_row_46 rfl rfl ?_
            refine g_iload_n C dX11_row_47 rfl rfl ?_
            obtain ⟨z4, hz4, hf⟩ := gbind hf ho
            refine g_callV C dX11_row_48 (m_X11_fine l X N _ _ _  (gLay.sub hL (by decide) (by decide)) _ z4.1 z4.2 hz4) gEin0 (cwV 1 C.2.2.2.2.1 gX11_row_X11_fine rfl rfl rfl (by decide +kernel) ⟨Nat.le_of_ble_eq_true rfl, Nat.le_of_ble_eq_true rfl⟩) (L0 hL (by decide) (by decide)) (by decide) rfl rfl rfl (Nat.le_of_ble_eq_true rfl) ⟨Nat.le_of_ble_eq_true rfl, Nat.le_of_ble_eq_true rfl⟩ ?_
            cases hf
            exact g_iret C dX11_row_51 hr hlk
          · refine g_aload_n C dX11_row_29 rfl rfl ?_
            refine g_iconst (v := 4) C dX11_row_30 (by decide) ?_
            obtain ⟨z5, hz5, hf⟩ := gbind hf ho
            refine g_callV C dX11_row_31 (m_X11_found l X N _ _ _  (gLay.sub hL (by decide) (by decide)) _ z5.1 z5.2 hz5) gEin0 (cwV 1 C.2.2.2.2.1 gX11_row_X11_found rfl rfl rfl (by decide +kernel) ⟨Nat.le_of_ble_eq_true rfl, Nat.le_of_ble_eq_true rfl⟩) (L0 hL (by decide) (by decide)) (by decide) rfl rfl rfl (Nat.le_of_ble_eq_true rfl) ⟨Nat.le_of_ble_eq_true rfl, Nat.le_of_ble_eq_true rfl⟩ ?_
            cases hf
            exact g_iret C dX11_row_34 hr hlk
        · refine g_ldc C k80 dX11_row_22 ?_
          cases hf
          exact g_iret C dX11_row_24 hr hlk
def f_X11_set (N : Nat) (I : gI) (R : gR) (S : gS) (a0 : Int32) (a1 : Int32) (a2 : Int32) : Option (Int32 × gI) :=
  ((f_X11_isRow N I R S a0).bind (fun z1 => (if z1 = 0 then some ((-1000001 : Int32), I) else if a0 < 0 ∨ 8 ≤ a0.toNatClampNeg then none else ((f_X5_isMissing N I R S (75 + 2 * a0.toNatClampNeg)).bind (fun z3 => (if z3 = 0 then ((f_X5_hasItems N I R S (75 + 2 * a0.toNatClampNeg) a1 (1 : Int32)).bind (fun z4 => (if z4 = 0 then ((f_X11_found N I R S (2 : Int32)).bind (fun z7 => some (z7.1, z7.2))) else ((f_X5_put N I R S (75 + 2 * a0.toNatClampNeg) a1 a2).bind (fun z5 => ((f_X11_fine N z5.2 R S z5.1).bind (fun z6 => some (z6.1, z6.2)))))))) else ((f_X11_found N I R S (1 : Int32)).bind (fun z8 => some (z8.1, z8.2)))))))))
set_option maxRecDepth 100000 in
set_option maxHeartbeats 8000000 in
theorem m_X11_set (l : Launch) (X : gX) (N : Nat) (I : gI) (R : gR) (S : gS) (hL : gLay 0 91 R S) (a0 : Int32) (a1 : Int32) (a2 : Int32) (v : Int32) (J : gI) (hf : f_X11_set N I R S a0 a1 a2 = some (v, J)) : gM l yX11_set wsX11_set { frames := 1, cells := 0, slots := 0, locals := 22 } X gE0 [.ref (X.1 + 0), .int a0, .int a1, .int a2] I R S (some (.int v)) J R S 0 0 := by
  unfold f_X11_set at hf
  refine gM_of (cc := cX11_set) (own := RX11) (maxL := 5) (ret := (some .int)) (by decide) rfl rfl (Nat.le_of_ble_eq_true rfl) ?_
  intro p e s m args below meth c C hr hlk hnm hE
  have ho : (some (v, J)) ≠ none := fun h => by cases h
  have f11 := C.2.2.2.2.1 (.fieldLink RX11 11 "TimesByPowers" "rows" "[LTimesByPowers$Row;") (by decide +kernel)
  have c10 : gCl wsX11_set 10 RX11 TX11 8 := ⟨by decide, rfl, rfl, by decide +kernel⟩
  have k80 := C.2.2.2.2.1 (.constant RX11 80 (-1000001)) (by decide +kernel)
  refine g_iload_n C dX11_set_0 rfl rfl ?_
  obtain ⟨z1, hz1, hf⟩ := gbind hf ho
  refine g_callS C dX11_set_1 (m_X11_isRow l X N _ _ _  (gLay.sub hL (by decide) (by decide)) _ z1 hz1) gEin0 (va_cwS 1 C.2.2.2.2.1 gX11_set_X11_isRow rfl rfl rfl (by decide +kernel) ⟨Nat.le_of_ble_eq_true rfl, Nat.le_of_ble_eq_true rfl⟩) rfl rfl (Nat.le_of_ble_eq_true rfl) ⟨Nat.le_of_ble_eq_true rfl, Nat.le_of_ble_eq_true rfl⟩ ?_
  refine g_if_ne (tgt := 10) C dX11_set_4 (by decide) hf (fun hf => ?_) (fun hf => ?_)
  · refine g_aload_n C dX11_set_10 rfl rfl ?_
    refine g_getR (i := 3) (j := 3) C dX11_set_11 (L0 hL (by decide) (by decide)) c10 rfl (by decide) f11 (fun _ h9 => h9) (LR0_3 hL (by decide) (by decide)) ?_
    refine g_iload_n C dX11_set_14 rfl rfl ?_
    refine g_aaldG 2 (fun j => 75 + 2 * j) C dX11_set_15 (by decide) (L1 hL (by decide) (by decide)) rfl rfl (fun j hj => LG1 hL (by decide) (by decide) hj) ho hf (fun hj2 hf => ?_)
    refine g_astore C dX11_set_16 (Nat.le_of_ble_eq_true rfl) rfl rfl ?_
    refine g_aload C dX11_set_18 rfl ?_
    obtain ⟨z3, hz3, hf⟩ := gbind hf ho
    refine g_callV C dX11_set_20 (m_X5_isMissing l X N _ _ _  (LH1 hL (by decide) (by decide) hj2) _ z3 hz3) gEin0 (cwV 0 C.2.2.2.2.1 gX11_set_X5_isMissing rfl rfl rfl (by decide +kernel) ⟨Nat.le_of_ble_eq_true rfl, Nat.le_of_ble_eq_true rfl⟩) ((LH1 hL (by decide) (by decide) hj2)).1 (by decide) rfl rfl rfl (Nat.le_of_ble_eq_true rfl) ⟨Nat.le_of_ble_eq_true rfl, Nat.le_of_ble_eq_true rfl⟩ ?_
    refine g_if_eq (tgt := 32) C dX11_set_23 (by decide) hf (fun hf => ?_) (fun hf => ?_)
    · refine g_aload C dX11_set_32 rfl ?_
      refine g_iload_n C dX11_set_34 rfl rfl ?_
      refine g_iconst (v := 1) C dX11_set_35 (by decide) ?_
      obtain ⟨z4, hz4, hf⟩ := gbind hf ho
      refine g_callV C dX11_set_36 (m_X5_hasItems l X N _ _ _  (LH1 hL (by decide) (by decide) hj2) _ _ _ z4 hz4) gEin0 (cwV 2 C.2.2.2.2.1 gX11_set_X5_hasItems rfl rfl rfl (by decide +kernel) ⟨Nat.le_of_ble_eq_true rfl, Nat.le_of_ble_eq_true rfl⟩) ((LH1 hL (by decide) (by decide) hj2)).1 (by decide) rfl rfl rfl (Nat.le_of_ble_eq_true rfl) ⟨Nat.le_of_ble_eq_true rfl, Nat.le_of_ble_eq_true rfl⟩ ?_
      refine g_if_ne (tgt := 48) C dX11_set_39 (by decide) hf (fun hf => ?_) (fun hf => ?_)
      · refine g_aload_n C dX11_set_48 rfl rfl ?_
        refine g_aload C dX11_set_49 rfl ?_
        refine g_iload_n C dX11_set_51 rfl rfl ?_
        refine g_iload_n C dX11_set_52 rfl rfl ?_
        obtain ⟨z5, hz5, hf⟩ := gbind hf ho
        refine g_callV C dX11_set_53 (m_X5_put l X N _ _ _  (LH1 hL (by decide) (by decide) hj2) _ _ _ z5.1 z5.2 hz5) gEin0 (cwV 2 C.2.2.2.2.1 gX11_set_X5_put rfl rfl rfl (by decide +kernel) ⟨Nat.le_of_ble_eq_true rfl, Nat.le_of_ble_eq_true rfl⟩) ((LH1 hL (by decide) (by decide) hj2)).1 (by decide) rfl rfl rfl (Nat.le_of_ble_eq_true rfl) ⟨Nat.le_of_ble_eq_true rfl, Nat.le_of_ble_eq_true rfl⟩ ?_
        obtain ⟨z6, hz6, hf⟩ := gbind hf ho
        refine g_callV C dX11_set_56 (m_X11_fine l X N _ _ _  (gLay.sub hL (by decide) (by decide)) _ z6.1 z6.2 hz6) gEin0 (cwV 1 C.2.2.2.2.1 gX11_set_X11_fine rfl rfl rfl (by decide +kernel) ⟨Nat.le_of_ble_eq_true rfl, Nat.le_of_ble_eq_true rfl⟩) (L0 hL (by decide) (by decide)) (by decide) rfl rfl rfl (Nat.le_of_ble_eq_true rfl) ⟨Nat.le_of_ble_eq_true rfl, Nat.le_of_ble_eq_true rfl⟩ ?_
        cases hf
        exact g_iret C dX11_set_59 hr hlk
      · refine g_aload_n C dX11_set_42 rfl rfl ?_
        refine g_iconst (v := 2) C dX11_set_43 (by decide) ?_
        obtain ⟨z7, hz7, hf⟩ := gbind hf ho
        refine g_callV C dX11_set_44 (m_X11_found l X N _ _ _  (gLay.sub hL (by decide) (by decide)) _ z7.1 z7.2 hz7) gEin0 (cwV 1 C.2.2.2.2.1 gX11_set_X11_found rfl rfl rfl (by decide +kernel) ⟨Nat.le_of_ble_eq_true rfl, Nat.le_of_ble_eq_true rfl⟩) (L0 hL (by decide) (by decide)) (by decide) rfl rfl rfl (Nat.le_of_ble_eq_true rfl) ⟨Nat.le_of_ble_eq_true rfl, Nat.le_of_ble_eq_true rfl⟩ ?_
        cases hf
        exact g_iret C dX11_set_47 hr hlk
    · refine g_aload_n C dX11_set_26 rfl rfl ?_
      refine g_iconst (v := 1) C dX11_set_27 (by decide) ?_
      obtain ⟨z8, hz8, hf⟩ := gbind hf ho
      refine g_callV C dX11_set_28 (m_X11_found l X N _ _ _  (gLay.sub hL (by decide) (by decide)) _ z8.1 z8.2 hz8) gEin0 (cwV 1 C.2.2.2.2.1 gX11_set_X11_found rfl rfl rfl (by decide +kernel) ⟨Nat.le_of_ble_eq_true rfl, Nat.le_of_ble_eq_true rfl⟩) (L0 hL (by decide) (by decide)) (by decide) rfl rfl rfl (Nat.le_of_ble_eq_true rfl) ⟨Nat.le_of_ble_eq_true rfl, Nat.le_of_ble_eq_true rfl⟩ ?_
      cases hf
      exact g_iret C dX11_set_31 hr hlk
  · refine g_ldc C k80 dX11_set_7 ?_
    cases hf
    exact g_iret C dX11_set_9 hr hlk
def f_X11_copy (N : Nat) (I : gI) (R : gR) (S : gS) (a0 : Int32) (a1 : Int32) (a2 : Int32) (a3 : Int32) (a4 : Int32) : Option (Int32 × gI) :=
  ((f_X11_isRow N I R S a0).bind (fun z1 => (if z1 = 0 then some ((-1000001 : Int32), I) else ((f_X11_isRow N I R S a2).bind (fun z2 => (if z2 = 0 then some ((-1000001 : Int32), I) else if a0 < 0 ∨ 8 ≤ a0.toNatClampNeg then none else if a2 < 0 ∨ 8 ≤ a2.toNatClampNeg then none else ((f_X5_isMissing N I R S (75 + 2 * a0.toNatClampNeg)).bind (fun z5 => (if z5 = 0 then ((f_X5_isMissing N I R S (75 + 2 * a2.toNatClampNeg)).bind (fun z7 => (if z7 = 0 then (if (I (75 + 2 * a0.toNatClampNeg) 1) = (I (75 + 2 * a2.toNatClampNeg) 1) then ((f_X5_hasItems N I R S (75 + 2 * a0.toNatClampNeg) a1 a4).bind (fun z8 => (if z8 = 0 then ((f_X11_found N I R S (2 : Int32)).bind (fun z9 => some (z9.1, z9.2))) else ((f_X5_hasItems N I R S (75 + 2 * a2.toNatClampNeg) a3 a4).bind (fun z10 => (if z10 = 0 then ((f_X11_found N I R S (2 : Int32)).bind (fun z12 => some (z12.1, z12.2))) else if (a1 < 0 ∨ a3 < 0 ∨ a4 < 0) ∨ 24 < a1.toNatClampNeg + a4.toNatClampNeg ∨ 24 < a3.toNatClampNeg + a4.toNatClampNeg then none else ((f_X11_fine N (gCopy I (76 + 2 * a0.toNatClampNeg) (76 + 2 * a2.toNatClampNeg) a1.toNatClampNeg a3.toNatClampNeg a4.toNatClampNeg) R S a4).bind (fun z11 => some (z11.1, z11.2))))))))) else ((f_X11_found N I R S (5 : Int32)).bind (fun z13 => some (z13.1, z13.2)))) else ((f_X11_found N I R S (1 : Int32)).bind (fun z14 => some (z14.1, z14.2)))))) else ((f_X11_found N I R S (1 : Int32)).bind (fun z6 => some (z6.1, z6.2))))))))))))
set_option maxRecDepth 100000 in
set_option maxHeartbeats 8000000 in
theorem m_X11_copy (l : Launch) (X : gX) (N : Nat) (I : gI) (R : gR) (S : gS) (hL : gLay 0 91 R S) (a0 : Int32) (a1 : Int32) (a2 : Int32) (a3 : Int32) (a4 : Int32) (v : Int32) (J : gI) (hf : f_X11_copy N I R S a0 a1 a2 a3 a4 = some (v, J)) : gM l yX11_copy wsX11_copy { frames := 1, cells := 0, slots := 0, locals := 43 } X gE0 [.ref (X.1 + 0), .int a0, .int a1, .int a2, .int a3, .int a4] I R S (some (.int v)) J R S 0 0 := by
  unfold f_X11_copy at hf
  refine gM_of (cc := cX11_copy) (own := RX11) (maxL := 8) (ret := (some .int)) (by decide) rfl rfl (Nat.le_of_ble_eq_true rfl) ?_
  intro p e s m args below meth c C hr hlk hnm hE
  have ho : (some (v, J)) ≠ none := fun h => by cases h
  have k80 := C.2.2.2.2.1 (.constant RX11 80 (-1000001)) (by decide +kernel)
  have f11 := C.2.2.2.2.1 (.fieldLink RX11 11 "TimesByPowers" "rows" "[LTimesByPowers$Row;") (by decide +kernel)
  have c10 : gCl wsX11_copy 10 RX11 TX11 8 := ⟨by decide, rfl, rfl, by decide +kernel⟩
  have f102 := C.2.2.2.2.1 (.fieldLink RX11 102 "TimesByPowers$Row" "lane" "I") (by decide +kernel)
  have c5 : gCl wsX11_copy 5 RX5 TX5 3 := ⟨by decide, rfl, rfl, by decide +kernel⟩
  have f105 := C.2.2.2.2.1 (.fieldLink RX11 105 "TimesByPowers$Row" "items" "[I") (by decide +kernel)
  have m108 := C.2.2.2.2.1 (.methodLink RX11 108 arraycopyName) (by decide +kernel)
  have hacw : gAcw s args := ⟨C.2.2.2.2.1 (.native arraycopyName) (by decide +kernel), C.2.2.2.2.1 (.static arraycopyName) (by decide +kernel), C.2.2.2.2.1 (.initialized "java/lang/System") (by decide +kernel)⟩
  refine g_iload_n C dX11_copy_0 rfl rfl ?_
  obtain ⟨z1, hz1, hf⟩ := gbind hf ho
  refine g_callS C dX11_copy_1 (m_X11_isRow l X N _ _ _  (gLay.sub hL (by decide) (by decide)) _ z1 hz1) gEin0 (va_cwS 1 C.2.2.2.2.1 gX11_copy_X11_isRow rfl rfl rfl (by decide +kernel) ⟨Nat.le_of_ble_eq_true rfl, Nat.le_of_ble_eq_true rfl⟩) rfl rfl (Nat.le_of_ble_eq_true rfl) ⟨Nat.le_of_ble_eq_true rfl, Nat.le_of_ble_eq_true rfl⟩ ?_
  refine g_if_eq (tgt := 14) C dX11_copy_4 (by decide) hf (fun hf => ?_) (fun hf => ?_)
  · refine g_ldc C k80 dX11_copy_14 ?_
    cases hf
    exact g_iret C dX11_copy_16 hr hlk
  · refine g_iload_n C dX11_copy_7 rfl rfl ?_
    obtain ⟨z2, hz2, hf⟩ := gbind hf ho
    refine g_callS C dX11_copy_8 (m_X11_isRow l X N _ _ _  (gLay.sub hL (by decide) (by decide)) _ z2 hz2) gEin0 (va_cwS 1 C.2.2.2.2.1 gX11_copy_X11_isRow rfl rfl rfl (by decide +kernel) ⟨Nat.le_of_ble_eq_true rfl, Nat.le_of_ble_eq_true rfl⟩) rfl rfl (Nat.le_of_ble_eq_true rfl) ⟨Nat.le_of_ble_eq_true rfl, Nat.le_of_ble_eq_true rfl⟩ ?_
    refine g_if_ne (tgt := 17) C dX11_copy_11 (by decide) hf (fun hf => ?_) (fun hf => ?_)
    · refine g_aload_n C dX11_copy_17 rfl rfl ?_
      refine g_getR (i := 3) (j := 3) C dX11_copy_18 (L0 hL (by decide) (by decide)) c10 rfl (by decide) f11 (fun _ h9 => h9) (LR0_3 hL (by decide) (by decide)) ?_
      refine g_iload_n C dX11_copy_21 rfl rfl ?_
      refine g_aaldG 2 (fun j => 75 + 2 * j) C dX11_copy_22 (by decide) (L1 hL (by decide) (by decide)) rfl rfl (fun j hj => LG1 hL (by decide) (by decide) hj) ho hf (fun hj3 hf => ?_)
      refine g_astore C dX11_copy_23 (Nat.le_of_ble_eq_true rfl) rfl rfl ?_
      refine g_aload_n C dX11_copy_25 rfl rfl ?_
      refine g_getR (i := 3) (j := 3) C dX11_copy_26 (L0 hL (by decide) (by decide)) c10 rfl (by decide) f11 (fun _ h9 => h9) (LR0_3 hL (by decide) (by decide)) ?_
      refine g_iload_n C dX11_copy_29 rfl rfl ?_
      refine g_aaldG 2 (fun j => 75 + 2 * j) C dX11_copy_30 (by decide) (L1 hL (by decide) (by decide)) rfl rfl (fun j hj => LG1 hL (by decide) (by decide) hj) ho hf (fun hj4 hf => ?_)
      refine g_astore C dX11_copy_31 (Nat.le_of_ble_eq_true rfl) rfl rfl ?_
      refine g_aload C dX11_copy_33 rfl ?_
      obtain ⟨z5, hz5, hf⟩ := gbind hf ho
      refine g_callV C dX11_copy_35 (m_X5_isMissing l X N _ _ _  (LH1 hL (by decide) (by decide) hj3) _ z5 hz5) gEin0 (cwV 0 C.2.2.2.2.1 gX11_copy_X5_isMissing rfl rfl rfl (by decide +kernel) ⟨Nat.le_of_ble_eq_true rfl, Nat.le_of_ble_eq_true rfl⟩) ((LH1 hL (by decide) (by decide) hj3)).1 (by decide) rfl rfl rfl (Nat.le_of_ble_eq_true rfl) ⟨Nat.le_of_ble_eq_true rfl, Nat.le_of_ble_eq_true rfl⟩ ?_
      refine g_if_ne (tgt := 49) C dX11_copy_38 (by decide) hf (fun hf => ?_) (fun hf => ?_)
      · refine g_aload_n C dX11_copy_49 rfl rfl ?_
        refine g_iconst (v := 1) C dX11_copy_50 (by decide) ?_
        obtain ⟨z6, hz6, hf⟩ := gbind hf ho
        refine g_callV C dX11_copy_51 (m_X11_found l X N _ _ _  (gLay.sub hL (by decide) (by decide)) _ z6.1 z6.2 hz6) gEin0 (cwV 1 C.2.2.2.2.1 gX11_copy_X11_found rfl rfl rfl (by decide +kernel) ⟨Nat.le_of_ble_eq_true rfl, Nat.le_of_ble_eq_true rfl⟩) (L0 hL (by decide) (by decide)) (by decide) rfl rfl rfl (Nat.le_of_ble_eq_true rfl) ⟨Nat.le_of_ble_eq_true rfl, Nat.le_of_ble_eq_true rfl⟩ ?_
        cases hf
        exact g_iret C dX11_copy_54 hr hlk
      · refine g_aload C dX11_copy_41 rfl ?_
        obtain ⟨z7, hz7, hf⟩ := gbind hf ho
        refine g_callV C dX11_copy_43 (m_X5_isMissing l X N _ _ _  (LH1 hL (by decide) (by decide) hj4) _ z7 hz7) gEin0 (cwV 0 C.2.2.2.2.1 gX11_copy_X5_isMissing rfl rfl rfl (by decide +kernel) ⟨Nat.le_of_ble_eq_true rfl, Nat.le_of_ble_eq_true rfl⟩) ((LH1 hL (by decide) (by decide) hj4)).1 (by decide) rfl rfl rfl (Nat.le_of_ble_eq_true rfl) ⟨Nat.le_of_ble_eq_true rfl, Nat.le_of_ble_eq_true rfl⟩ ?_
        refine g_if_eq (tgt := 55) C dX11_copy_46 (by decide) hf (fun hf => ?_) (fun hf => ?_)
        · refine g_aload C dX11_copy_55 rfl ?_
          refine g_getI (i := 1) (j := 1) C dX11_copy_57 ((LH1 hL (by decide) (by decide) hj3)).1 c5 rfl f102 (fun _ h9 => h9) ?_
          refine g_aload C dX11_copy_60 rfl ?_
          refine g_getI (i := 1) (j := 1) C dX11_copy_62 ((LH1 hL (by decide) (by decide) hj4)).1 c5 rfl f102 (fun _ h9 => h9) ?_
          refine g_icmp_eq (tgt := 74) C dX11_copy_65 (by decide) hf (fun hf => ?_) (fun hf => ?_)
          · refine g_aload C dX11_copy_74 rfl ?_
            refine g_iload_n C dX11_copy_76 rfl rfl ?_
            refine g_iload C dX11_copy_77 rfl ?_
            obtain ⟨z8, hz8, hf⟩ := gbind hf ho
            refine g_callV C dX11_copy_79 (m_X5_hasItems l X N _ _ _  (LH1 hL (by decide) (by decide) hj3) _ _ _ z8 hz8) gEin0 (cwV 2 C.2.2.2.2.1 gX11_copy_X5_hasItems rfl rfl rfl (by decide +kernel) ⟨Nat.le_of_ble_eq_true rfl, Nat.le_of_ble_eq_true rfl⟩) ((LH1 hL (by decide) (by decide) hj3)).1 (by decide) rfl rfl rfl (Nat.le_of_ble_eq_true rfl) ⟨Nat.le_of_ble_eq_true rfl, Nat.le_of_ble_eq_true rfl⟩ ?_
            refine g_if_eq (tgt := 97) C dX11_copy_82 (by decide) hf (fun hf => ?_) (fun hf => ?_)
            · refine g_aload_n C dX11_copy_97 rfl rfl ?_
              refine g_iconst (v := 2) C dX11_copy_98 (by decide) ?_
              obtain ⟨z9, hz9, hf⟩ := gbind hf ho
              refine g_callV C dX11_copy_99 (m_X11_found l X N _ _ _  (gLay.sub hL (by decide) (by decide)) _ z9.1 z9.2 hz9) gEin0 (cwV 1 C.2.2.2.2.1 gX11_copy_X11_found rfl rfl rfl (by decide +kernel) ⟨Nat.le_of_ble_eq_true rfl, Nat.le_of_ble_eq_true rfl⟩) (L0 hL (by decide) (by decide)) (by decide) rfl rfl rfl (Nat.le_of_ble_eq_true rfl) ⟨Nat.le_of_ble_eq_true rfl, Nat.le_of_ble_eq_true rfl⟩ ?_
              cases hf
              exact g_iret C dX11_copy_102 hr hlk
            · refine g_aload C dX11_copy_85 rfl ?_
              refine g_iload C dX11_copy_87 rfl ?_
              refine g_iload C dX11_copy_89 rfl ?_
              obtain ⟨z10, hz10, hf⟩ := gbind hf ho
              refine g_callV C dX11_copy_91 (m_X5_hasItems l X N _ _ _  (LH1 hL (by decide) (by decide) hj4) _ _ _ z10 hz10) gEin0 (cwV 2 C.2.2.2.2.1 gX11_copy_X5_hasItems rfl rfl rfl (by decide +kernel) ⟨Nat.le_of_ble_eq_true rfl, Nat.le_of_ble_eq_true rfl⟩) ((LH1 hL (by decide) (by decide) hj4)).1 (by decide) rfl rfl rfl (Nat.le_of_ble_eq_true rfl) ⟨Nat.le_of_ble_eq_true rfl, Nat.le_of_ble_eq_true rfl⟩ ?_
              refine g_if_ne (tgt := 103) C dX11_copy_94 (by decide) hf (fun hf => ?_) (fun hf => ?_)
              · refine g_aload C dX11_copy_103 rfl ?_
                refine g_getR (i := 0) (j := 0) C dX11_copy_105 ((LH1 hL (by decide) (by decide) hj3)).1 c5 rfl (by decide) f105 (fun _ h9 => h9) ((LH1 hL (by decide) (by decide) hj3)).2.1 ?_
                refine g_iload_n C dX11_copy_108 rfl rfl ?_
                refine g_aload C dX11_copy_109 rfl ?_
                refine g_getR (i := 0) (j := 0) C dX11_copy_111 ((LH1 hL (by decide) (by decide) hj4)).1 c5 rfl (by decide) f105 (fun _ h9 => h9) ((LH1 hL (by decide) (by decide) hj4)).2.1 ?_
                refine g_iload C dX11_copy_114 rfl ?_
                refine g_iload C dX11_copy_116 rfl ?_
                refine g_copy C dX11_copy_118 m108 hacw ((LH1 hL (by decide) (by decide) hj3)).2.2 ((LH1 hL (by decide) (by decide) hj4)).2.2 ho hf (Nat.le_of_ble_eq_true rfl) (Nat.le_of_ble_eq_true rfl) (fun hf => ?_)
                refine g_aload_n C dX11_copy_121 rfl rfl ?_
                refine g_iload C dX11_copy_122 rfl ?_
                obtain ⟨z11, hz11, hf⟩ := gbind hf ho
                refine g_callV C dX11_copy_124 (m_X11_fine l X N _ _ _  (gLay.sub hL (by decide) (by decide)) _ z11.1 z11.2 hz11) gEin0 (cwV 1 C.2.2.2.2.1 gX11_copy_X11_fine rfl rfl rfl (by decide +kernel) ⟨Nat.le_of_ble_eq_true rfl, Nat.le_of_ble_eq_true rfl⟩) (L0 hL (by decide) (by decide)) (by decide) rfl rfl rfl (Nat.le_of_ble_eq_true rfl) ⟨Nat.le_of_ble_eq_true rfl, Nat.le_of_ble_eq_true rfl⟩ ?_
                cases hf
                exact g_iret C dX11_copy_127 hr hlk
              · refine g_aload_n C dX11_copy_97 rfl rfl ?_
                refine g_iconst (v := 2) C dX11_copy_98 (by decide) ?_
                obtain ⟨z12, hz12, hf⟩ := gbind hf ho
                refine g_callV C dX11_copy_99 (m_X11_found l X N _ _ _  (gLay.sub hL (by decide) (by decide)) _ z12.1 z12.2 hz12) gEin0 (cwV 1 C.2.2.2.2.1 gX11_copy_X11_found rfl rfl rfl (by decide +kernel) ⟨Nat.le_of_ble_eq_true rfl, Nat.le_of_ble_eq_true rfl⟩) (L0 hL (by decide) (by decide)) (by decide) rfl rfl rfl (Nat.le_of_ble_eq_true rfl) ⟨Nat.le_of_ble_eq_true rfl, Nat.le_of_ble_eq_true rfl⟩ ?_
                cases hf
                exact g_iret C dX11_copy_102 hr hlk
          · refine g_aload_n C dX11_copy_68 rfl rfl ?_
            refine g_iconst (v := 5) C dX11_copy_69 (by decide) ?_
            obtain ⟨z13, hz13, hf⟩ := gbind hf ho
            refine g_callV C dX11_copy_70 (m_X11_found l X N _ _ _  (gLay.sub hL (by decide) (by decide)) _ z13.1 z13.2 hz13) gEin0 (cwV 1 C.2.2.2.2.1 gX11_copy_X11_found rfl rfl rfl (by decide +kernel) ⟨Nat.le_of_ble_eq_true rfl, Nat.le_of_ble_eq_true rfl⟩) (L0 hL (by decide) (by decide)) (by decide) rfl rfl rfl (Nat.le_of_ble_eq_true rfl) ⟨Nat.le_of_ble_eq_true rfl, Nat.le_of_ble_eq_true rfl⟩ ?_
            cases hf
            exact g_iret C dX11_copy_73 hr hlk
        · refine g_aload_n C dX11_copy_49 rfl rfl ?_
          refine g_iconst (v := 1) C dX11_copy_50 (by decide) ?_
          obtain ⟨z14, hz14, hf⟩ := gbind hf ho
          refine g_callV C dX11_copy_51 (m_X11_found l X N _ _ _  (gLay.sub hL (by decide) (by decide)) _ z14.1 z14.2 hz14) gEin0 (cwV 1 C.2.2.2.2.1 gX11_copy_X11_found rfl rfl rfl (by decide +kernel) ⟨Nat.le_of_ble_eq_true rfl, Nat.le_of_ble_eq_true rfl⟩) (L0 hL (by decide) (by decide)) (by decide) rfl rfl rfl (Nat.le_of_ble_eq_true rfl) ⟨Nat.le_of_ble_eq_true rfl, Nat.le_of_ble_eq_true rfl⟩ ?_
          cases hf
          exact g_iret C dX11_copy_54 hr hlk
    · refine g_ldc C k80 dX11_copy_14 ?_
      cases hf
      exact g_iret C dX11_copy_16 hr hlk
def f_X11_drop (N : Nat) (I : gI) (R : gR) (S : gS) (a0 : Int32) : Option (Int32 × gI) :=
  ((f_X11_isRow N I R S a0).bind (fun z1 => (if z1 = 0 then some ((-1000001 : Int32), I) else if a0 < 0 ∨ 8 ≤ a0.toNatClampNeg then none else ((f_X5_isMissing N I R S (75 + 2 * a0.toNatClampNeg)).bind (fun z3 => (if z3 = 0 then if a0 < 0 ∨ 8 ≤ a0.toNatClampNeg then none else ((f_X5_end N I R S (75 + 2 * a0.toNatClampNeg)).bind (fun z5 => ((f_X11_fine N z5.2 R S z5.1).bind (fun z6 => some (z6.1, z6.2))))) else ((f_X11_found N I R S (1 : Int32)).bind (fun z7 => some (z7.1, z7.2)))))))))
set_option maxRecDepth 100000 in
set_option maxHeartbeats 8000000 in
theorem m_X11_drop (l : Launch) (X : gX) (N : Nat) (I : gI) (R : gR) (S : gS) (hL : gLay 0 91 R S) (a0 : Int32) (v : Int32) (J : gI) (hf : f_X11_drop N I R S a0 = some (v, J)) : gM l yX11_drop wsX11_drop { frames := 1, cells := 0, slots := 0, locals := 21 } X gE0 [.ref (X.1 + 0), .int a0] I R S (some (.int v)) J R S 0 0 := by
  unfold f_X11_drop at hf
  refine gM_of (cc := cX11_drop) (own := RX11) (maxL := 2) (ret := (some .int)) (by decide) rfl rfl (Nat.le_of_ble_eq_true rfl) ?_
  intro p e s m args below meth c C hr hlk hnm hE
  have ho : (some (v, J)) ≠ none := fun h => by cases h
  have f11 := C.2.2.2.2.1 (.fieldLink RX11 11 "TimesByPowers" "rows" "[LTimesByPowers$Row;") (by decide +kernel)
  have c10 : gCl wsX11_drop 10 RX11 TX11 8 := ⟨by decide, rfl, rfl, by decide +kernel⟩
  have k80 := C.2.2.2.2.1 (.constant RX11 80 (-1000001)) (by decide +kernel)
  refine g_iload_n C dX11_drop_0 rfl rfl ?_
  obtain ⟨z1, hz1, hf⟩ := gbind hf ho
  refine g_callS C dX11_drop_1 (m_X11_isRow l X N _ _ _  (gLay.sub hL (by decide) (by decide)) _ z1 hz1) gEin0 (va_cwS 1 C.2.2.2.2.1 gX11_drop_X11_isRow rfl rfl rfl (by decide +kernel) ⟨Nat.le_of_ble_eq_true rfl, Nat.le_of_ble_eq_true rfl⟩) rfl rfl (Nat.le_of_ble_eq_true rfl) ⟨Nat.le_of_ble_eq_true rfl, Nat.le_of_ble_eq_true rfl⟩ ?_
  refine g_if_ne (tgt := 10) C dX11_drop_4 (by decide) hf (fun hf => ?_) (fun hf => ?_)
  · refine g_aload_n C dX11_drop_10 rfl rfl ?_
    refine g_getR (i := 3) (j := 3) C dX11_drop_11 (L0 hL (by decide) (by decide)) c10 rfl (by decide) f11 (fun _ h9 => h9) (LR0_3 hL (by decide) (by decide)) ?_
    refine g_iload_n C dX11_drop_14 rfl rfl ?_
    refine g_aaldG 2 (fun j => 75 + 2 * j) C dX11_drop_15 (by decide) (L1 hL (by decide) (by decide)) rfl rfl (fun j hj => LG1 hL (by decide) (by decide) hj) ho hf (fun hj2 hf => ?_)
    obtain ⟨z3, hz3, hf⟩ := gbind hf ho
    refine g_callV C dX11_drop_16 (m_X5_isMissing l X N _ _ _  (LH1 hL (by decide) (by decide) hj2) _ z3 hz3) gEin0 (cwV 0 C.2.2.2.2.1 gX11_drop_X5_isMissing rfl rfl rfl (by decide +kernel) ⟨Nat.le_of_ble_eq_true rfl, Nat.le_of_ble_eq_true rfl⟩) ((LH1 hL (by decide) (by decide) hj2)).1 (by decide) rfl rfl rfl (Nat.le_of_ble_eq_true rfl) ⟨Nat.le_of_ble_eq_true rfl, Nat.le_of_ble_eq_true rfl⟩ ?_
    refine g_if_eq (tgt := 28) C dX11_drop_19 (by decide) hf (fun hf => ?_) (fun hf => ?_)
    · refine g_aload_n C dX11_drop_28 rfl rfl ?_
      refine g_aload_n C dX11_drop_29 rfl rfl ?_
      refine g_getR (i := 3) (j := 3) C dX11_drop_30 (L0 hL (by decide) (by decide)) c10 rfl (by decide) f11 (fun _ h9 => h9) (LR0_3 hL (by decide) (by decide)) ?_
      refine g_iload_n C dX11_drop_33 rfl rfl ?_
      refine g_aaldG 2 (fun j => 75 + 2 * j) C dX11_drop_34 (by decide) (L1 hL (by decide) (by decide)) rfl rfl (fun j hj => LG1 hL (by decide) (by decide) hj) ho hf (fun hj4 hf => ?_)
      obtain ⟨z5, hz5, hf⟩ := gbind hf ho
      refine g_callV C dX11_drop_35 (m_X5_end l X N _ _ _  (LH1 hL (by decide) (by decide) hj4) _ z5.1 z5.2 hz5) gEin0 (cwV 0 C.2.2.2.2.1 gX11_drop_X5_end rfl rfl rfl (by decide +kernel) ⟨Nat.le_of_ble_eq_true rfl, Nat.le_of_ble_eq_true rfl⟩) ((LH1 hL (by decide) (by decide) hj4)).1 (by decide) rfl rfl rfl (Nat.le_of_ble_eq_true rfl) ⟨Nat.le_of_ble_eq_true rfl, Nat.le_of_ble_eq_true rfl⟩ ?_
      obtain ⟨z6, hz6, hf⟩ := gbind hf ho
      refine g_callV C dX11_drop_38 (m_X11_fine l X N _ _ _  (gLay.sub hL (by decide) (by decide)) _ z6.1 z6.2 hz6) gEin0 (cwV 1 C.2.2.2.2.1 gX11_drop_X11_fine rfl rfl rfl (by decide +kernel) ⟨Nat.le_of_ble_eq_true rfl, Nat.le_of_ble_eq_true rfl⟩) (L0 hL (by decide) (by decide)) (by decide) rfl rfl rfl (Nat.le_of_ble_eq_true rfl) ⟨Nat.le_of_ble_eq_true rfl, Nat.le_of_ble_eq_true rfl⟩ ?_
      cases hf
      exact g_iret C dX11_drop_41 hr hlk
    · refine g_aload_n C dX11_drop_22 rfl rfl ?_
      refine g_iconst (v := 1) C dX11_drop_23 (by decide) ?_
      obtain ⟨z7, hz7, hf⟩ := gbind hf ho
      refine g_callV C dX11_drop_24 (m_X11_found l X N _ _ _  (gLay.sub hL (by decide) (by decide)) _ z7.1 z7.2 hz7) gEin0 (cwV 1 C.2.2.2.2.1 gX11_drop_X11_found rfl rfl rfl (by decide +kernel) ⟨Nat.le_of_ble_eq_true rfl, Nat.le_of_ble_eq_true rfl⟩) (L0 hL (by decide) (by decide)) (by decide) rfl rfl rfl (Nat.le_of_ble_eq_true rfl) ⟨Nat.le_of_ble_eq_true rfl, Nat.le_of_ble_eq_true rfl⟩ ?_
      cases hf
      exact g_iret C dX11_drop_27 hr hlk
  · refine g_ldc C k80 dX11_drop_7 ?_
    cases hf
    exact g_iret C dX11_drop_9 hr hlk
def f_X11_field (N : Nat) (I : gI) (R : gR) (S : gS) (a0 : Int32) (a1 : Int32) (a2 : Int32) : Option (Int32 × gI) :=
  ((f_X2_has N I R S a0).bind (fun z1 => (if z1 = 0 then some ((-1000001 : Int32), I) else (if a2 < 0 then some ((-1000001 : Int32), I) else (if a2 ≤ (3 : Int32) then (if a2 = (2 : Int32) then (if a1 < 0 then some ((-1000001 : Int32), I) else (if a1 ≤ (100000 : Int32) then ((f_X2_power N I R S a0 a1).bind (fun z7 => some (z7.1, z7.2))) else some ((-1000001 : Int32), I))) else ((f_X2_has N I R S a1).bind (fun z2 => (if z2 = 0 then some ((-1000001 : Int32), I) else (if a2 = 0 then ((f_X2_plusTimes N I R S a0 (1 : Int32) a1).bind (fun z6 => some (z6.1, z6.2))) else (if a2 = (1 : Int32) then ((f_X2_times N I R S a0 a1).bind (fun z5 => some (z5.1, z5.2))) else (if a1 = 0 then some ((-1000000 : Int32), I) else ((f_X2_inverse N I R S a1).bind (fun z3 => ((f_X2_times N z3.2 R S a0 z3.1).bind (fun z4 => some (z4.1, z4.2)))))))))))) else some ((-1000001 : Int32), I))))))
set_option maxRecDepth 100000 in
set_option maxHeartbeats 8000000 in
theorem m_X11_field (l : Launch) (X : gX) (N : Nat) (I : gI) (R : gR) (S : gS) (hL : gLay 0 91 R S) (a0 : Int32) (a1 : Int32) (a2 : Int32) (v : Int32) (J : gI) (hf : f_X11_field N I R S a0 a1 a2 = some (v, J)) : gM l yX11_field wsX11_field { frames := 4, cells := 0, slots := 0, locals := 95 } X gE0 [.ref (X.1 + 0), .int a0, .int a1, .int a2] I R S (some (.int v)) J R S 0 0 := by
  unfold f_X11_field at hf
  refine gM_of (cc := cX11_field) (own := RX11) (maxL := 4) (ret := (some .int)) (by decide) rfl rfl (Nat.le_of_ble_eq_true rfl) ?_
  intro p e s m args below meth c C hr hlk hnm hE
  have ho : (some (v, J)) ≠ none := fun h => by cases h
  have f50 := C.2.2.2.2.1 (.fieldLink RX11 50 "TimesByPowers" "elements" "LTimesByPowers$Field;") (by decide +kernel)
  have c10 : gCl wsX11_field 10 RX11 TX11 8 := ⟨by decide, rfl, rfl, by decide +kernel⟩
  have k80 := C.2.2.2.2.1 (.constant RX11 80 (-1000001)) (by decide +kernel)
  have k132 := C.2.2.2.2.1 (.constant RX11 132 (-1000000)) (by decide +kernel)
  have k121 := C.2.2.2.2.1 (.constant RX11 121 (100000)) (by decide +kernel)
  refine g_aload_n C dX11_field_0 rfl rfl ?_
  refine g_getR (i := 0) (j := 0) C dX11_field_1 (L0 hL (by decide) (by decide)) c10 rfl (by decide) f50 (fun _ h9 => h9) (LR0_0 hL (by decide) (by decide)) ?_
  refine g_iload_n C dX11_field_4 rfl rfl ?_
  obtain ⟨z1, hz1, hf⟩ := gbind hf ho
  refine g_callV C dX11_field_5 (m_X2_has l X N _ _ _  (gLay.sub hL (by decide) (by decide)) _ z1 hz1) gEin0 (cwV 1 C.2.2.2.2.1 gX11_field_X2_has rfl rfl rfl (by decide +kernel) ⟨Nat.le_of_ble_eq_true rfl, Nat.le_of_ble_eq_true rfl⟩) (L6 hL (by decide) (by decide)) (by decide) rfl rfl rfl (Nat.le_of_ble_eq_true rfl) ⟨Nat.le_of_ble_eq_true rfl, Nat.le_of_ble_eq_true rfl⟩ ?_
  refine g_if_eq (tgt := 20) C dX11_field_8 (by decide) hf (fun hf => ?_) (fun hf => ?_)
  · refine g_ldc C k80 dX11_field_20 ?_
    cases hf
    exact g_iret C dX11_field_22 hr hlk
  · refine g_iload_n C dX11_field_11 rfl rfl ?_
    refine g_if_lt (tgt := 20) C dX11_field_12 (by decide) hf (fun hf => ?_) (fun hf => ?_)
    · refine g_ldc C k80 dX11_field_20 ?_
      cases hf
      exact g_iret C dX11_field_22 hr hlk
    · refine g_iload_n C dX11_field_15 rfl rfl ?_
      refine g_iconst (v := 3) C dX11_field_16 (by decide) ?_
      refine g_icmp_le (tgt := 23) C dX11_field_17 (by decide) hf (fun hf => ?_) (fun hf => ?_)
      · refine g_iload_n C dX11_field_23 rfl rfl ?_
        refine g_iconst (v := 2) C dX11_field_24 (by decide) ?_
        refine g_icmp_ne (tgt := 53) C dX11_field_25 (by decide) hf (fun hf => ?_) (fun hf => ?_)
        · refine g_aload_n C dX11_field_53 rfl rfl ?_
          refine g_getR (i := 0) (j := 0) C dX11_field_54 (L0 hL (by decide) (by decide)) c10 rfl (by decide) f50 (fun _ h9 => h9) (LR0_0 hL (by decide) (by decide)) ?_
          refine g_iload_n C dX11_field_57 rfl rfl ?_
          obtain ⟨z2, hz2, hf⟩ := gbind hf ho
          refine g_callV C dX11_field_58 (m_X2_has l X N _ _ _  (gLay.sub hL (by decide) (by decide)) _ z2 hz2) gEin0 (cwV 1 C.2.2.2.2.1 gX11_field_X2_has rfl rfl rfl (by decide +kernel) ⟨Nat.le_of_ble_eq_true rfl, Nat.le_of_ble_eq_true rfl⟩) (L6 hL (by decide) (by decide)) (by decide) rfl rfl rfl (Nat.le_of_ble_eq_true rfl) ⟨Nat.le_of_ble_eq_true rfl, Nat.le_of_ble_eq_true rfl⟩ ?_
          refine g_if_ne (tgt := 67) C dX11_field_61 (by decide) hf (fun hf => ?_) (fun hf => ?_)
          · refine g_iload_n C dX11_field_67 rfl rfl ?_
            refine g_if_ne (tgt := 82) C dX11_field_68 (by decide) hf (fun hf => ?_) (fun hf => ?_)
            · refine g_iload_n C dX11_field_82 rfl rfl ?_
              refine g_iconst (v := 1) C dX11_field_83 (by decide) ?_
              refine g_icmp_ne (tgt := 97) C dX11_field_84 (by decide) hf (fun hf => ?_) (fun hf => ?_)
              · refine g_iload_n C dX11_field_97 rfl rfl ?_
                refine g_if_ne (tgt := 106) C dX11_field_98 (by decide) hf (fun hf => ?_) (fun hf => ?_)
                · refine g_aload_n C dX11_field_106 rfl rfl ?_
                  refine g_getR (i := 0) (j := 0) C dX11_field_107 (L0 hL (by decide) (by decide)) c10 rfl (by decide) f50 (fun _ h9 => h9) (LR0_0 hL (by decide) (by decide)) ?_
                  refine g_iload_n C dX11_field_110 rfl rfl ?_
                  refine g_aload_n C dX11_field_111 rfl rfl ?_
                  refine g_getR (i := 0) (j := 0) C dX11_field_112 (L0 hL (by decide) (by decide)) c10 rfl (by decide) f50 (fun _ h9 => h9) (LR0_0 hL (by decide) (by decide)) ?_
                  refine g_iload_n C dX11_field_115 rfl rfl ?_
                  obtain ⟨z3, hz3, hf⟩ := gbind hf ho
                  refine g_callV C dX11_field_116 (m_X2_inverse l X N _ _ _  (gLay.sub hL (by decide) (by decide)) _ z3.1 z3.2 hz3) gEin0 (cwV 1 C.2.2.2.2.1 gX11_field_X2_inverse rfl rfl rfl (by decide +kernel) ⟨Nat.le_of_ble_eq_true rfl, Nat.le_of_ble_eq_true rfl⟩) (L6 hL (by decide) (by decide)) (by decide) rfl rfl rfl (Nat.le_of_ble_eq_true rfl) ⟨Nat.le_of_ble_eq_true rfl, Nat.le_of_ble_eq_true rfl⟩ ?_
                  obtain ⟨z4, hz4, hf⟩ := gbind hf ho
                  refine g_callV C dX11_field_119 (m_X2_times l X N _ _ _  (gLay.sub hL (by decide) (by decide)) _ _ z4.1 z4.2 hz4) gEin0 (cwV 2 C.2.2.2.2.1 gX11_field_X2_times rfl rfl rfl (by decide +kernel) ⟨Nat.le_of_ble_eq_true rfl, Nat.le_of_ble_eq_true rfl⟩) (L6 hL (by decide) (by decide)) (by decide) rfl rfl rfl (Nat.le_of_ble_eq_true rfl) ⟨Nat.le_of_ble_eq_true rfl, Nat.le_of_ble_eq_true rfl⟩ ?_
                  cases hf
                  exact g_iret C dX11_field_122 hr hlk
                · refine g_ldc C k132 dX11_field_101 ?_
                  refine g_goto (tgt := 122) C dX11_field_103 (by decide) ?_
                  cases hf
                  exact g_iret C dX11_field_122 hr hlk
              · refine g_aload_n C dX11_field_87 rfl rfl ?_
                refine g_getR (i := 0) (j := 0) C dX11_field_88 (L0 hL (by decide) (by decide)) c10 rfl (by decide) f50 (fun _ h9 => h9) (LR0_0 hL (by decide) (by decide)) ?_
                refine g_iload_n C dX11_field_91 rfl rfl ?_
                refine g_iload_n C dX11_field_92 rfl rfl ?_
                obtain ⟨z5, hz5, hf⟩ := gbind hf ho
                refine g_callV C dX11_field_93 (m_X2_times l X N _ _ _  (gLay.sub hL (by decide) (by decide)) _ _ z5.1 z5.2 hz5) gEin0 (cwV 2 C.2.2.2.2.1 gX11_field_X2_times rfl rfl rfl (by decide +kernel) ⟨Nat.le_of_ble_eq_true rfl, Nat.le_of_ble_eq_true rfl⟩) (L6 hL (by decide) (by decide)) (by decide) rfl rfl rfl (Nat.le_of_ble_eq_true rfl) ⟨Nat.le_of_ble_eq_true rfl, Nat.le_of_ble_eq_true rfl⟩ ?_
                cases hf
                exact g_iret C dX11_field_96 hr hlk
            · refine g_aload_n C dX11_field_71 rfl rfl ?_
              refine g_getR (i := 0) (j := 0) C dX11_field_72 (L0 hL (by decide) (by decide)) c10 rfl (by decide) f50 (fun _ h9 => h9) (LR0_0 hL (by decide) (by decide)) ?_
              refine g_iload_n C dX11_field_75 rfl rfl ?_
              refine g_iconst (v := 1) C dX11_field_76 (by decide) ?_
              refine g_iload_n C dX11_field_77 rfl rfl ?_
              obtain ⟨z6, hz6, hf⟩ := gbind hf ho
              refine g_callV C dX11_field_78 (m_X2_plusTimes l X N _ _ _  (gLay.sub hL (by decide) (by decide)) _ _ _ z6.1 z6.2 hz6) gEin0 (cwV 3 C.2.2.2.2.1 gX11_field_X2_plusTimes rfl rfl rfl (by decide +kernel) ⟨Nat.le_of_ble_eq_true rfl, Nat.le_of_ble_eq_true rfl⟩) (L6 hL (by decide) (by decide)) (by decide) rfl rfl rfl (Nat.le_of_ble_eq_true rfl) ⟨Nat.le_of_ble_eq_true rfl, Nat.le_of_ble_eq_true rfl⟩ ?_
              cases hf
              exact g_iret C dX11_field_81 hr hlk
          · refine g_ldc C k80 dX11_field_64 ?_
            cases hf
            exact g_iret C dX11_field_66 hr hlk
        · refine g_iload_n C dX11_field_28 rfl rfl ?_
          refine g_if_lt (tgt := 38) C dX11_field_29 (by decide) hf (fun hf => ?_) (fun hf => ?_)
          · refine g_ldc C k80 dX11_field_38 ?_
            refine g_goto (tgt := 52) C dX11_field_40 (by decide) ?_
            cases hf
            exact g_iret C dX11_field_52 hr hlk
          · refine g_iload_n C dX11_field_32 rfl rfl ?_
            refine g_ldc C k121 dX11_field_33 ?_
            refine g_icmp_le (tgt := 43) C dX11_field_35 (by decide) hf (fun hf => ?_) (fun hf => ?_)
            · refine g_aload_n C dX11_field_43 rfl rfl ?_
              refine g_getR (i := 0) (j := 0) C dX11_field_44 (L0 hL (by decide) (by decide)) c10 rfl (by decide) f50 (fun _ h9 => h9) (LR0_0 hL (by decide) (by decide)) ?_
              refine g_iload_n C dX11_field_47 rfl rfl ?_
              refine g_iload_n C dX11_field_48 rfl rfl ?_
              obtain ⟨z7, hz7, hf⟩ := gbind hf ho
              refine g_callV C dX11_field_49 (m_X2_power l X N _ _ _  (gLay.sub hL (by decide) (by decide)) _ _ z7.1 z7.2 hz7) gEin0 (cwV 2 C.2.2.2.2.1 gX11_field_X2_power rfl rfl rfl (by decide +kernel) ⟨Nat.le_of_ble_eq_true rfl, Nat.le_of_ble_eq_true rfl⟩) (L6 hL (by decide) (by decide)) (by decide) rfl rfl rfl (Nat.le_of_ble_eq_true rfl) ⟨Nat.le_of_ble_eq_true rfl, Nat.le_of_ble_eq_true rfl⟩ ?_
              cases hf
              exact g_iret C dX11_field_52 hr hlk
            · refine g_ldc C k80 dX11_field_38 ?_
              refine g_goto (tgt := 52) C dX11_field_40 (by decide) ?_
              cases hf
              exact g_iret C dX11_field_52 hr hlk
      · refine g_ldc C k80 dX11_field_20 ?_
        cases hf
        exact g_iret C dX11_field_22 hr hlk
def f_X11_isPlace (N : Nat) (I : gI) (R : gR) (S : gS) (a0 : Int32) : Option (Int32) :=
  (if a0 < 0 then some (0 : Int32) else (if (10 : Int32) ≤ a0 then some (0 : Int32) else some (1 : Int32)))
set_option maxRecDepth 100000 in
set_option maxHeartbeats 8000000 in
theorem m_X11_isPlace (l : Launch) (X : gX) (N : Nat) (I : gI) (R : gR) (S : gS) (hL : gLay 0 91 R S) (a0 : Int32) (v : Int32) (hf : f_X11_isPlace N I R S a0 = some v) : gM l yX11_isPlace wsX11_isPlace { frames := 0, cells := 0, slots := 0, locals := 0 } X gE0 [.int a0] I R S (some (.int v)) I R S 0 0 := by
  unfold f_X11_isPlace at hf
  refine gM_of (cc := cX11_isPlace) (own := RX11) (maxL := 1) (ret := (some .boolean)) (by decide) rfl rfl (Nat.le_of_ble_eq_true rfl) ?_
  intro p e s m args below meth c C hr hlk hnm hE
  have ho : (some v) ≠ none := fun h => by cases h
  refine g_iload_n C dX11_isPlace_0 rfl rfl ?_
  refine g_if_lt (tgt := 14) C dX11_isPlace_1 (by decide) hf (fun hf => ?_) (fun hf => ?_)
  · refine g_iconst (v := 0) C dX11_isPlace_14 (by decide) ?_
    cases hf
    exact g_zret C dX11_isPlace_15 hr hlk (by decide)
  · refine g_iload_n C dX11_isPlace_4 rfl rfl ?_
    refine g_bipush (v := 10) C dX11_isPlace_5 (by decide) ?_
    refine g_icmp_ge (tgt := 14) C dX11_isPlace_7 (by decide) hf (fun hf => ?_) (fun hf => ?_)
    · refine g_iconst (v := 0) C dX11_isPlace_14 (by decide) ?_
      cases hf
      exact g_zret C dX11_isPlace_15 hr hlk (by decide)
    · refine g_iconst (v := 1) C dX11_isPlace_10 (by decide) ?_
      refine g_goto (tgt := 15) C dX11_isPlace_11 (by decide) ?_
      cases hf
      exact g_zret C dX11_isPlace_15 hr hlk (by decide)
def f_X11_take (N : Nat) (I : gI) (R : gR) (S : gS) (a0 : Int32) (a1 : Int32) (a2 : Int32) : Option (Int32 × gI) :=
  if a0 < 0 ∨ 8 ≤ a0.toNatClampNeg then none else ((f_X5_isMissing N I R S (75 + 2 * a0.toNatClampNeg)).bind (fun z2 => (if z2 = 0 then ((f_X5_hasItems N I R S (75 + 2 * a0.toNatClampNeg) a1 (a2 + (1 : Int32))).bind (fun z3 => (if z3 = 0 then ((f_X11_found N I R S (2 : Int32)).bind (fun z9 => some (z9.1, z9.2))) else ((iter (σ := Int32 × gI) (ρ := (gI) ⊕ (Int32 × gI)) (fun z4 => (if a2 < z4.1 then some (.inr (.inl z4.2)) else if (a1 + z4.1) < 0 ∨ 24 ≤ (a1 + z4.1).toNatClampNeg then none else if z4.1 < 0 ∨ 5 ≤ z4.1.toNatClampNeg then none else if z4.1 < 0 ∨ 5 ≤ z4.1.toNatClampNeg then none else ((f_X2_has N (gU z4.2 5 z4.1.toNatClampNeg (z4.2 (76 + 2 * a0.toNatClampNeg) (a1 + z4.1).toNatClampNeg)) R S ((gU z4.2 5 z4.1.toNatClampNeg (z4.2 (76 + 2 * a0.toNatClampNeg) (a1 + z4.1).toNatClampNeg)) 5 z4.1.toNatClampNeg)).bind (fun z6 => (if z6 = 0 then some (.inr (.inr ((-1000001 : Int32), gU z4.2 5 z4.1.toNatClampNeg (z4.2 (76 + 2 * a0.toNatClampNeg) (a1 + z4.1).toNatClampNeg)))) else some (.inl (z4.1 + 1, gU z4.2 5 z4.1.toNatClampNeg (z4.2 (76 + 2 * a0.toNatClampNeg) (a1 + z4.1).toNatClampNeg)))))))) N ((0 : Int32), I)).bind (fun y8 => Sum.elim (fun r5 => if a2 < 0 ∨ 5 ≤ a2.toNatClampNeg then none else (if (r5 5 a2.toNatClampNeg) = 0 then some ((-1000001 : Int32), r5) else some ((0 : Int32), r5))) (fun x7 => some x7) y8))))) else ((f_X11_found N I R S (1 : Int32)).bind (fun z10 => some (z10.1, z10.2))))))
set_option maxRecDepth 100000 in
set_option maxHeartbeats 8000000 in
theorem m_X11_take (l : Launch) (X : gX) (N : Nat) (I : gI) (R : gR) (S : gS) (hL : gLay 0 91 R S) (a0 : Int32) (a1 : Int32) (a2 : Int32) (v : Int32) (J : gI) (hf : f_X11_take N I R S a0 a1 a2 = some (v, J)) : gM l yX11_take wsX11_take { frames := 1, cells := 0, slots := 0, locals := 22 } X gE0 [.ref (X.1 + 0), .int a0, .int a1, .int a2] I R S (some (.int v)) J R S 0 0 := by
  unfold f_X11_take at hf
  refine gM_of (cc := cX11_take) (own := RX11) (maxL := 6) (ret := (some .int)) (by decide) rfl rfl (Nat.le_of_ble_eq_true rfl) ?_
  intro p e s m args below meth c C hr hlk hnm hE
  have ho : (some (v, J)) ≠ none := fun h => by cases h
  have f11 := C.2.2.2.2.1 (.fieldLink RX11 11 "TimesByPowers" "rows" "[LTimesByPowers$Row;") (by decide +kernel)
  have c10 : gCl wsX11_take 10 RX11 TX11 8 := ⟨by decide, rfl, rfl, by decide +kernel⟩
  have f28 := C.2.2.2.2.1 (.fieldLink RX11 28 "TimesByPowers" "taken" "[I") (by decide +kernel)
  have f105 := C.2.2.2.2.1 (.fieldLink RX11 105 "TimesByPowers$Row" "items" "[I") (by decide +kernel)
  have c5 : gCl wsX11_take 5 RX5 TX5 3 := ⟨by decide, rfl, rfl, by decide +kernel⟩
  have f50 := C.2.2.2.2.1 (.fieldLink RX11 50 "TimesByPowers" "elements" "LTimesByPowers$Field;") (by decide +kernel)
  have k80 := C.2.2.2.2.1 (.constant RX11 80 (-1000001)) (by decide +kernel)
  refine g_aload_n C dX11_take_0 rfl rfl ?_
  refine g_getR (i := 3) (j := 3) C dX11_take_1 (L0 hL (by decide) (by decide)) c10 rfl (by decide) f11 (fun _ h9 => h9) (LR0_3 hL (by decide) (by decide)) ?_
  refine g_iload_n C dX11_take_4 rfl rfl ?_
  refine g_aaldG 2 (fun j => 75 + 2 * j) C dX11_take_5 (by decide) (L1 hL (by decide) (by decide)) rfl rfl (fun j hj => LG1 hL (by decide) (by decide) hj) ho hf (fun hj1 hf => ?_)
  refine g_astore C dX11_take_6 (Nat.le_of_ble_eq_true rfl) rfl rfl ?_
  refine g_aload C dX11_take_8 rfl ?_
  obtain ⟨z2, hz2, hf⟩ := gbind hf ho
  refine g_callV C dX11_take_10 (m_X5_isMissing l X N _ _ _  (LH1 hL (by decide) (by decide) hj1) _ z2 hz2) gEin0 (cwV 0 C.2.2.2.2.1 gX11_take_X5_isMissing rfl rfl rfl (by decide +kernel) ⟨Nat.le_of_ble_eq_true rfl, Nat.le_of_ble_eq_true rfl⟩) ((LH1 hL (by decide) (by decide) hj1)).1 (by decide) rfl rfl rfl (Nat.le_of_ble_eq_true rfl) ⟨Nat.le_of_ble_eq_true rfl, Nat.le_of_ble_eq_true rfl⟩ ?_
  refine g_if_eq (tgt := 22) C dX11_take_13 (by decide) hf (fun hf => ?_) (fun hf => ?_)
  · refine g_aload C dX11_take_22 rfl ?_
    refine g_iload_n C dX11_take_24 rfl rfl ?_
    refine g_iload_n C dX11_take_25 rfl rfl ?_
    refine g_iconst (v := 1) C dX11_take_26 (by decide) ?_
    refine g_iadd C dX11_take_27 ?_
    obtain ⟨z3, hz3, hf⟩ := gbind hf ho
    refine g_callV C dX11_take_28 (m_X5_hasItems l X N _ _ _  (LH1 hL (by decide) (by decide) hj1) _ _ _ z3 hz3) gEin0 (cwV 2 C.2.2.2.2.1 gX11_take_X5_hasItems rfl rfl rfl (by decide +kernel) ⟨Nat.le_of_ble_eq_true rfl, Nat.le_of_ble_eq_true rfl⟩) ((LH1 hL (by decide) (by decide) hj1)).1 (by decide) rfl rfl rfl (Nat.le_of_ble_eq_true rfl) ⟨Nat.le_of_ble_eq_true rfl, Nat.le_of_ble_eq_true rfl⟩ ?_
    refine g_if_ne (tgt := 40) C dX11_take_31 (by decide) hf (fun hf => ?_) (fun hf => ?_)
    · refine g_iconst (v := 0) C dX11_take_40 (by decide) ?_
      refine g_istore C dX11_take_41 (Nat.le_of_ble_eq_true rfl) rfl rfl ?_
      refine g_loopR (fun z4 => [(0, .ref (X.1 + 0)), (2, .int a1), (3, .int a2), (4, .ref (X.1 + (75 + 2 * a0.toNatClampNeg))), (5, .int z4.1)]) (fun z4 => z4.2) (fun r5 => [(0, .ref (X.1 + 0)), (3, .int a2)]) (fun r5 => r5) 92 hf ho ⟨rfl, rfl, rfl, rfl, rfl, trivial⟩ rfl (fun r5 hf => ?_) (fun z4 o1 hf ho hkz4 hez4 hrz4 => ?_)
      · refine g_aload_n C dX11_take_92 rfl rfl ?_
        refine g_getR (i := 6) (j := 6) C dX11_take_93 (L0 hL (by decide) (by decide)) c10 rfl (by decide) f28 (fun _ h9 => h9) (LR0_6 hL (by decide) (by decide)) ?_
        refine g_iload_n C dX11_take_96 rfl rfl ?_
        refine g_iald C dX11_take_97 (L5 hL (by decide) (by decide)) ho hf (fun hf => ?_)
        refine g_if_ne (tgt := 106) C dX11_take_98 (by decide) hf (fun hf => ?_) (fun hf => ?_)
        · refine g_iconst (v := 0) C dX11_take_106 (by decide) ?_
          cases hf
          exact g_iret C dX11_take_107 hr hlk
        · refine g_ldc C k80 dX11_take_101 ?_
          refine g_goto (tgt := 107) C dX11_take_103 (by decide) ?_
          cases hf
          exact g_iret C dX11_take_107 hr hlk
      · refine g_iload C dX11_take_43 rfl ?_
        refine g_iload_n C dX11_take_45 rfl rfl ?_
        refine g_icmp_gt (tgt := 92) C dX11_take_46 (by decide) hf (fun hf => ?_) (fun hf => ?_)
        · exact g_sub ⟨rfl, rfl, trivial⟩ (hez4 _ hf.symm)
        · refine g_aload_n C dX11_take_49 rfl rfl ?_
          refine g_getR (i := 6) (j := 6) C dX11_take_50 (L0 hL (by decide) (by decide)) c10 rfl (by decide) f28 (fun _ h9 => h9) (LR0_6 hL (by decide) (by decide)) ?_
          refine g_iload C dX11_take_53 rfl ?_
          refine g_aload C dX11_take_55 rfl ?_
          refine g_getR (i := 0) (j := 0) C dX11_take_57 ((LH1 hL (by decide) (by decide) hj1)).1 c5 rfl (by decide) f105 (fun _ h9 => h9) ((LH1 hL (by decide) (by decide) hj1)).2.1 ?_
          refine g_iload_n C dX11_take_60 rfl rfl ?_
          refine g_iload C dX11_take_61 rfl ?_
          refine g_iadd C dX11_take_63 ?_
          refine g_iald C dX11_take_64 ((LH1 hL (by decide) (by decide) hj1)).2.2 ho hf (fun hf => ?_)
          refine g_iast C dX11_take_65 (L5 hL (by decide) (by decide)) ho hf (fun hf => ?_)
          refine g_aload_n C dX11_take_66 rfl rfl ?_
          refine g_getR (i := 0) (j := 0) C dX11_take_67 (L0 hL (by decide) (by decide)) c10 rfl (by decide) f50 (fun _ h9 => h9) (LR0_0 hL (by decide) (by decide)) ?_
          refine g_aload_n C dX11_take_70 rfl rfl ?_
          refine g_getR (i := 6) (j := 6) C dX11_take_71 (L0 hL (by decide) (by decide)) c10 rfl (by decide) f28 (fun _ h9 => h9) (LR0_6 hL (by decide) (by decide)) ?_
          refine g_iload C dX11_take_74 rfl ?_
          refine g_iald C dX11_take_76 (L5 hL (by decide) (by decide)) ho hf (fun hf => ?_)
          obtain ⟨z6, hz6, hf⟩ := gbind hf ho
          refine g_callV C dX11_take_77 (m_X2_has l X N _ _ _  (gLay.sub hL (by decide) (by decide)) _ z6 hz6) gEin0 (cwV 1 C.2.2.2.2.1 gX11_take_X2_has rfl rfl rfl (by decide +kernel) ⟨Nat.le_of_ble_eq_true rfl, Nat.le_of_ble_eq_true rfl⟩) (L6 hL (by decide) (by decide)) (by decide) rfl rfl rfl (Nat.le_of_ble_eq_true rfl) ⟨Nat.le_of_ble_eq_true rfl, Nat.le_of_ble_eq_true rfl⟩ ?_
          refine g_if_ne (tgt := 86) C dX11_take_80 (by decide) hf (fun hf => ?_) (fun hf => ?_)
          · refine g_iinc (d := 1) C dX11_take_86 rfl (by decide) rfl (Nat.le_of_ble_eq_true rfl) rfl rfl ?_
            refine g_goto (tgt := 43) C dX11_take_89 (by decide) ?_
            exact g_sub ⟨rfl, rfl, rfl, rfl, rfl, trivial⟩ (hkz4 _ hf.symm)
          · refine g_ldc C k80 dX11_take_83 ?_
            replace hf := hrz4 _ hf.symm
            dsimp only [Sum.elim_inr] at hf
            cases hf
            exact g_iret C dX11_take_85 hr hlk
    · refine g_aload_n C dX11_take_34 rfl rfl ?_
      refine g_iconst (v := 2) C dX11_take_35 (by decide) ?_
      obtain ⟨z9, hz9, hf⟩ := gbind hf ho
      refine g_callV C dX11_take_36 (m_X11_found l X N _ _ _  (gLay.sub hL (by decide) (by decide)) _ z9.1 z9.2 hz9) gEin0 (cwV 1 C.2.2.2.2.1 gX11_take_X11_found rfl rfl rfl (by decide +kernel) ⟨Nat.le_of_ble_eq_true rfl, Nat.le_of_ble_eq_true rfl⟩) (L0 hL (by decide) (by decide)) (by decide) rfl rfl rfl (Nat.le_of_ble_eq_true rfl) ⟨Nat.le_of_ble_eq_true rfl, Nat.le_of_ble_eq_true rfl⟩ ?_
      cases hf
      exact g_iret C dX11_take_39 hr hlk
  · refine g_aload_n C dX11_take_16 rfl rfl ?_
    refine g_iconst (v := 1) C dX11_take_17 (by decide) ?_
    obtain ⟨z10, hz10, hf⟩ := gbind hf ho
    refine g_callV C dX11_take_18 (m_X11_found l X N _ _ _  (gLay.sub hL (by decide) (by decide)) _ z10.1 z10.2 hz10) gEin0 (cwV 1 C.2.2.2.2.1 gX11_take_X11_found rfl rfl rfl (by decide +kernel) ⟨Nat.le_of_ble_eq_true rfl, Nat.le_of_ble_eq_true rfl⟩) (L0 hL (by decide) (by decide)) (by decide) rfl rfl rfl (Nat.le_of_ble_eq_true rfl) ⟨Nat.le_of_ble_eq_true rfl, Nat.le_of_ble_eq_true rfl⟩ ?_
    cases hf
    exact g_iret C dX11_take_21 hr hlk
def f_X11_shelve (N : Nat) (I : gI) (R : gR) (S : gS) (a0 : Int32) (a1 : Nat) : Option (Int32 × gI × gR × gS) :=
  if gWb R S a1 = true then (if gK S a1 = 1 then if a0 < 0 ∨ 10 ≤ a0.toNatClampNeg then none else ((f_X1_kindTold N I (gU R 2 a0.toNatClampNeg (some a1)) S a1).bind (fun z2 => if gLayb 0 91 (gU R 2 a0.toNatClampNeg (some a1)) S = true then ((f_X11_fine N I (gU R 2 a0.toNatClampNeg (some a1)) S z2).bind (fun z3 => some (z3.1, z3.2, gU R 2 a0.toNatClampNeg (some a1), S))) else none)) else if gK S a1 = 3 then if a0 < 0 ∨ 10 ≤ a0.toNatClampNeg then none else ((f_X3_kindTold N I (gU R 2 a0.toNatClampNeg (some a1)) S a1).bind (fun z5 => if gLayb 0 91 (gU R 2 a0.toNatClampNeg (some a1)) S = true then ((f_X11_fine N I (gU R 2 a0.toNatClampNeg (some a1)) S z5).bind (fun z6 => some (z6.1, z6.2, gU R 2 a0.toNatClampNeg (some a1), S))) else none)) else if gK S a1 = 4 then if a0 < 0 ∨ 10 ≤ a0.toNatClampNeg then none else ((f_X4_kindTold N I (gU R 2 a0.toNatClampNeg (some a1)) S a1).bind (fun z8 => if gLayb 0 91 (gU R 2 a0.toNatClampNeg (some a1)) S = true then ((f_X11_fine N I (gU R 2 a0.toNatClampNeg (some a1)) S z8).bind (fun z9 => some (z9.1, z9.2, gU R 2 a0.toNatClampNeg (some a1), S))) else none)) else if a0 < 0 ∨ 10 ≤ a0.toNatClampNeg then none else ((f_X7_kindTold N I (gU R 2 a0.toNatClampNeg (some a1)) S a1).bind (fun z11 => if gLayb 0 91 (gU R 2 a0.toNatClampNeg (some a1)) S = true then ((f_X11_fine N I (gU R 2 a0.toNatClampNeg (some a1)) S z11).bind (fun z12 => some (z12.1, z12.2, gU R 2 a0.toNatClampNeg (some a1), S))) else none))) else none
set_option maxRecDepth 100000 in
set_option maxHeartbeats 8000000 in
theorem m_X11_shelve (l : Launch) (X : gX) (N : Nat) (I : gI) (R : gR) (S : gS) (hL : gLay 0 91 R S) (a0 : Int32) (a1 : Nat) (v : Int32) (J : gI) (P : gR) (T : gS) (hf : f_X11_shelve N I R S a0 a1 = some (v, J, P, T)) : gM l yX11_shelve wsX11_shelve { frames := 1, cells := 0, slots := 0, locals := 21 } X gEN [.ref (X.1 + 0), .int a0, .ref (X.1 + a1)] I R S (some (.int v)) J P T 0 0 := by
  unfold f_X11_shelve at hf
  refine gM_of (cc := cX11_shelve) (own := RX11) (maxL := 3) (ret := (some .int)) (by decide) rfl rfl (Nat.le_of_ble_eq_true rfl) ?_
  intro p e s m args below meth c C hr hlk hnm hE
  have ho : (some (v, J, P, T)) ≠ none := fun h => by cases h
  have f17 := C.2.2.2.2.1 (.fieldLink RX11 17 "TimesByPowers" "shelf" "[LTimesByPowers$World;") (by decide +kernel)
  have c10 : gCl wsX11_shelve 10 RX11 TX11 8 := ⟨by decide, rfl, rfl, by decide +kernel⟩
  obtain ⟨hwa1, hf⟩ := gcase hf ho
  refine g_aload_n C dX11_shelve_0 rfl rfl ?_
  refine g_getR (i := 4) (j := 4) C dX11_shelve_1 (L0 hL (by decide) (by decide)) c10 rfl (by decide) f17 (fun _ h9 => h9) (LR0_4 hL (by decide) (by decide)) ?_
  refine g_iload_n C dX11_shelve_4 rfl rfl ?_
  refine g_aload_n C dX11_shelve_5 rfl rfl ?_
  rcases gKb_k (gW_kb hwa1) with hk1 | hk1 | hk1 | hk1
  · rw [if_pos (gK_of hk1)] at hf
    refine g_aast 3 C dX11_shelve_6 (by decide) (L2 hL (by decide) (by decide)) rfl hk1 (by decide) rfl (Or.inr hE.2.2.1.1) ho hf (fun hf => ?_)
    refine g_aload_n C dX11_shelve_7 rfl rfl ?_
    refine g_aload_n C dX11_shelve_8 rfl rfl ?_
    obtain ⟨z2, hz2, hf⟩ := gbind hf ho
    refine g_callU (k := 1) C dX11_shelve_9 (m_X1_kindTold l X N _ _ _   _ z2 hz2) gEin0 (va_cwA 0 C.2.2.2.2.1 gX11_shelve_X1_kindTold_u213X1 rfl rfl rfl hE.1 (by decide +kernel) ⟨Nat.le_of_ble_eq_true rfl, Nat.le_of_ble_eq_true rfl⟩) hk1 (by decide) rfl rfl rfl (Nat.le_of_ble_eq_true rfl) ⟨Nat.le_of_ble_eq_true rfl, Nat.le_of_ble_eq_true rfl⟩ ?_
    obtain ⟨hL4, hf⟩ := gcase hf ho
    have hL4 := gLayb_ok (by decide) hL4
    obtain ⟨z3, hz3, hf⟩ := gbind hf ho
    refine g_callV C dX11_shelve_12 (m_X11_fine l X N _ _ _  (gLay.sub hL4 (by decide) (by decide)) _ z3.1 z3.2 hz3) gEin0 (cwV 1 C.2.2.2.2.1 gX11_shelve_X11_fine rfl rfl rfl (by decide +kernel) ⟨Nat.le_of_ble_eq_true rfl, Nat.le_of_ble_eq_true rfl⟩) (L0 hL4 (by decide) (by decide)) (by decide) rfl rfl rfl (Nat.le_of_ble_eq_true rfl) ⟨Nat.le_of_ble_eq_true rfl, Nat.le_of_ble_eq_true rfl⟩ ?_
    cases hf
    exact g_iret C dX11_shelve_15 hr hlk
  · rw [if_neg (by rw [gK_of hk1]; decide), if_pos (gK_of hk1)] at hf
    refine g_aast 3 C dX11_shelve_6 (by decide) (L2 hL (by decide) (by decide)) rfl hk1 (by decide) rfl (Or.inr hE.2.2.1.2.1) ho hf (fun hf => ?_)
    refine g_aload_n C dX11_shelve_7 rfl rfl ?_
    refine g_aload_n C dX11_shelve_8 rfl rfl ?_
    obtain ⟨z5, hz5, hf⟩ := gbind hf ho
    refine g_callU (k := 3) C dX11_shelve_9 (m_X3_kindTold l X N _ _ _   _ z5 hz5) gEin0 (va_cwA 0 C.2.2.2.2.1 gX11_shelve_X3_kindTold_u213X3 rfl rfl rfl hE.1 (by decide +kernel) ⟨Nat.le_of_ble_eq_true rfl, Nat.le_of_ble_eq_true rfl⟩) hk1 (by decide) rfl rfl rfl (Nat.le_of_ble_eq_true rfl) ⟨Nat.le_of_ble_eq_true rfl, Nat.le_of_ble_eq_true rfl⟩ ?_
    obtain ⟨hL7, hf⟩ := gcase hf ho
    have hL7 := gLayb_ok (by decide) hL7
    obtain ⟨z6, hz6, hf⟩ := gbind hf ho
    refine g_callV C dX11_shelve_12 (m_X11_fine l X N _ _ _  (gLay.sub hL7 (by decide) (by decide)) _ z6.1 z6.2 hz6) gEin0 (cwV 1 C.2.2.2.2.1 gX11_shelve_X11_fine rfl rfl rfl (by decide +kernel) ⟨Nat.le_of_ble_eq_true rfl, Nat.le_of_ble_eq_true rfl⟩) (L0 hL7 (by decide) (by decide)) (by decide) rfl rfl rfl (Nat.le_of_ble_eq_true rfl) ⟨Nat.le_of_ble_eq_true rfl, Nat.le_of_ble_eq_true rfl⟩ ?_
    cases hf
    exact g_iret C dX11_shelve_15 hr hlk
  · rw [if_neg (by rw [gK_of hk1]; decide), if_neg (by rw [gK_of hk1]; decide), if_pos (gK_of hk1)] at hf
    refine g_aast 3 C dX11_shelve_6 (by decide) (L2 hL (by decide) (by decide)) rfl hk1 (by decide) rfl (Or.inr hE.2.2.1.2.2.1) ho hf (fun hf => ?_)
    refine g_aload_n C dX11_shelve_7 rfl rfl ?_
    refine g_aload_n C dX11_shelve_8 rfl rfl ?_
    obtain ⟨z8, hz8, hf⟩ := gbind hf ho
    refine g_callU (k := 4) C dX11_shelve_9 (m_X4_kindTold l X N _ _ _   _ z8 hz8) gEin0 (va_cwA 0 C.2.2.2.2.1 gX11_shelve_X4_kindTold_u213X4 rfl rfl rfl hE.1 (by decide +kernel) ⟨Nat.le_of_ble_eq_true rfl, Nat.le_of_ble_eq_true rfl⟩) hk1 (by decide) rfl rfl rfl (Nat.le_of_ble_eq_true rfl) ⟨Nat.le_of_ble_eq_true rfl, Nat.le_of_ble_eq_true rfl⟩ ?_
    obtain ⟨hL10, hf⟩ := gcase hf ho
    have hL10 := gLayb_ok (by decide) hL10
    obtain ⟨z9, hz9, hf⟩ := gbind hf ho
    refine g_callV C dX11_shelve_12 (m_X11_fine l X N _ _ _  (gLay.sub hL10 (by decide) (by decide)) _ z9.1 z9.2 hz9) gEin0 (cwV 1 C.2.2.2.2.1 gX11_shelve_X11_fine rfl rfl rfl (by decide +kernel) ⟨Nat.le_of_ble_eq_true rfl, Nat.le_of_ble_eq_true rfl⟩) (L0 hL10 (by decide) (by decide)) (by decide) rfl rfl rfl (Nat.le_of_ble_eq_true rfl) ⟨Nat.le_of_ble_eq_true rfl, Nat.le_of_ble_eq_true rfl⟩ ?_
    cases hf
    exact g_iret C dX11_shelve_15 hr hlk
  · rw [if_neg (by rw [gK_of hk1]; decide), if_neg (by rw [gK_of hk1]; decide), if_neg (by rw [gK_of hk1]; decide)] at hf
    refine g_aast 3 C dX11_shelve_6 (by decide) (L2 hL (by decide) (by decide)) rfl hk1 (by decide) rfl (Or.inr hE.2.2.1.2.2.2) ho hf (fun hf => ?_)
    refine g_aload_n C dX11_shelve_7 rfl rfl ?_
    refine g_aload_n C dX11_shelve_8 rfl rfl ?_
    obtain ⟨z11, hz11, hf⟩ := gbind hf ho
    refine g_callU (k := 7) C dX11_shelve_9 (m_X7_kindTold l X N _ _ _   _ z11 hz11) gEin0 (va_cwA 0 C.2.2.2.2.1 gX11_shelve_X7_kindTold_u213X7 rfl rfl rfl hE.1 (by decide +kernel) ⟨Nat.le_of_ble_eq_true rfl, Nat.le_of_ble_eq_true rfl⟩) hk1 (by decide) rfl rfl rfl (Nat.le_of_ble_eq_true rfl) ⟨Nat.le_of_ble_eq_true rfl, Nat.le_of_ble_eq_true rfl⟩ ?_
    obtain ⟨hL13, hf⟩ := gcase hf ho
    have hL13 := gLayb_ok (by decide) hL13
    obtain ⟨z12, hz12, hf⟩ := gbind hf ho
    refine g_callV C dX11_shelve_12 (m_X11_fine l X N _ _ _  (gLay.sub hL13 (by decide) (by decide)) _ z12.1 z12.2 hz12) gEin0 (cwV 1 C.2.2.2.2.1 gX11_shelve_X11_fine rfl rfl rfl (by decide +kernel) ⟨Nat.le_of_ble_eq_true rfl, Nat.le_of_ble_eq_true rfl⟩) (L0 hL13 (by decide) (by decide)) (by decide) rfl rfl rfl (Nat.le_of_ble_eq_true rfl) ⟨Nat.le_of_ble_eq_true rfl, Nat.le_of_ble_eq_true rfl⟩ ?_
    cases hf
    exact g_iret C dX11_shelve_15 hr hlk
def f_X11_world (N : Nat) (I : gI) (R : gR) (S : gS) (a0 : Int32) (a1 : Int32) (a2 : Int32) (a3 : Int32) : Option (Int32 × gI × gR × gS) :=
  ((f_X11_isPlace N I R S a0).bind (fun z1 => (if z1 = 0 then some ((-1000001 : Int32), I, R, S) else ((f_X11_isRow N I R S a1).bind (fun z2 => (if z2 = 0 then some ((-1000001 : Int32), I, R, S) else (if a3 < (1 : Int32) then some ((-1000001 : Int32), I, R, S) else (if a3 ≤ (3 : Int32) then ((f_X11_take N I R S a1 a2 a3).bind (fun z3 => (if z3.1 = 0 then if gAr (S ++ [(12, 4)]) S.length = false then none else if ((0 : Int32) < 0 ∨ (0 : Int32) < 0 ∨ (a3 + (1 : Int32)) < 0) ∨ 5 < (0 : Int32).toNatClampNeg + (a3 + (1 : Int32)).toNatClampNeg ∨ (gLn (S ++ [(12, 4)]) S.length) < (0 : Int32).toNatClampNeg + (a3 + (1 : Int32)).toNatClampNeg then none else ((f_X8_worldOf N (gCopy (gZ z3.2 S.length) 5 S.length (0 : Int32).toNatClampNeg (0 : Int32).toNatClampNeg (a3 + (1 : Int32)).toNatClampNeg) R (S ++ [(12, 4)]) S.length a3).bind (fun z5 => if gLayb 0 91 z5.2.2.1 z5.2.2.2 = true then ((f_X11_shelve N z5.2.1 z5.2.2.1 z5.2.2.2 a0 z5.1).bind (fun z6 => some (z6.1, z6.2.1, z6.2.2.1, z6.2.2.2))) else none)) else some (z3.1, z3.2, R, S)))) else some ((-1000001 : Int32), I, R, S)))))))))
set_option maxRecDepth 100000 in
set_option maxHeartbeats 8000000 in
theorem m_X11_world (l : Launch) (X : gX) (N : Nat) (I : gI) (R : gR) (S : gS) (hL : gLay 0 91 R S) (a0 : Int32) (a1 : Int32) (a2 : Int32) (a3 : Int32) (v : Int32) (J : gI) (P : gR) (T : gS) (hf : f_X11_world N I R S a0 a1 a2 a3 = some (v, J, P, T)) : gM l yX11_world wsX11_world { frames := 6, cells := 3, slots := 14, locals := 149 } X gEN [.ref (X.1 + 0), .int a0, .int a1, .int a2, .int a3] I R S (some (.int v)) J P T 3 14 := by
  unfold f_X11_world at hf
  refine gM_of (cc := cX11_world) (own := RX11) (maxL := 7) (ret := (some .int)) (by decide) rfl rfl (Nat.le_of_ble_eq_true rfl) ?_
  intro p e s m args below meth c C hr hlk hnm hE
  have ho : (some (v, J, P, T)) ≠ none := fun h => by cases h
  have k80 := C.2.2.2.2.1 (.constant RX11 80 (-1000001)) (by decide +kernel)
  have ai := C.2.2.2.2.1 (.arrayClass .int) (by decide +kernel)
  have f28 := C.2.2.2.2.1 (.fieldLink RX11 28 "TimesByPowers" "taken" "[I") (by decide +kernel)
  have c10 : gCl wsX11_world 10 RX11 TX11 8 := ⟨by decide, rfl, rfl, by decide +kernel⟩
  have m108 := C.2.2.2.2.1 (.methodLink RX11 108 arraycopyName) (by decide +kernel)
  have hacw : gAcw s args := ⟨C.2.2.2.2.1 (.native arraycopyName) (by decide +kernel), C.2.2.2.2.1 (.static arraycopyName) (by decide +kernel), C.2.2.2.2.1 (.initialized "java/lang/System") (by decide +kernel)⟩
  have f64 := C.2.2.2.2.1 (.fieldLink RX11 64 "TimesByPowers" "sums" "LTimesByPowers$Sums;") (by decide +kernel)
  refine g_iload_n C dX11_world_0 rfl rfl ?_
  obtain ⟨z1, hz1, hf⟩ := gbind hf ho
  refine g_callS C dX11_world_1 (m_X11_isPlace l X N _ _ _  (gLay.sub hL (by decide) (by decide)) _ z1 hz1) gEin0 (va_cwS 1 C.2.2.2.2.1 gX11_world_X11_isPlace rfl rfl rfl (by decide +kernel) ⟨Nat.le_of_ble_eq_true rfl, Nat.le_of_ble_eq_true rfl⟩) rfl rfl (Nat.le_of_ble_eq_true rfl) ⟨Nat.le_of_ble_eq_true rfl, Nat.le_of_ble_eq_true rfl⟩ ?_
  refine g_if_eq (tgt := 26) C dX11_world_4 (by decide) hf (fun hf => ?_) (fun hf => ?_)
  · refine g_ldc C k80 dX11_world_26 ?_
    cases hf
    refine g_widen (k := 3) (n := 14) (Nat.le_of_ble_eq_true rfl) (Nat.le_of_ble_eq_true rfl) ?_
    exact g_iret C dX11_world_28 hr hlk
  · refine g_iload_n C dX11_world_7 rfl rfl ?_
    obtain ⟨z2, hz2, hf⟩ := gbind hf ho
    refine g_callS C dX11_world_8 (m_X11_isRow l X N _ _ _  (gLay.sub hL (by decide) (by decide)) _ z2 hz2) gEin0 (va_cwS 1 C.2.2.2.2.1 gX11_world_X11_isRow rfl rfl rfl (by decide +kernel) ⟨Nat.le_of_ble_eq_true rfl, Nat.le_of_ble_eq_true rfl⟩) rfl rfl (Nat.le_of_ble_eq_true rfl) ⟨Nat.le_of_ble_eq_true rfl, Nat.le_of_ble_eq_true rfl⟩ ?_
    refine g_if_eq (tgt := 26) C dX11_world_11 (by decide) hf (fun hf => ?_) (fun hf => ?_)
    · refine g_ldc C k80 dX11_world_26 ?_
      cases hf
      refine g_widen (k := 3) (n := 14) (Nat.le_of_ble_eq_true rfl) (Nat.le_of_ble_eq_true rfl) ?_
      exact g_iret C dX11_world_28 hr hlk
    · refine g_iload C dX11_world_14 rfl ?_
      refine g_iconst (v := 1) C dX11_world_16 (by decide) ?_
      refine g_icmp_lt (tgt := 26) C dX11_world_17 (by decide) hf (fun hf => ?_) (fun hf => ?_)
      · refine g_ldc C k80 dX11_world_26 ?_
        cases hf
        refine g_widen (k := 3) (n := 14) (Nat.le_of_ble_eq_true rfl) (Nat.le_of_ble_eq_true rfl) ?_
        exact g_iret C dX11_world_28 hr hlk
      · refine g_iload C dX11_world_20 rfl ?_
        refine g_iconst (v := 3) C dX11_world_22 (by decide) ?_
        refine g_icmp_le (tgt := 29) C dX11_world_23 (by decide) hf (fun hf => ?_) (fun hf => ?_)
        · refine g_aload_n C dX11_world_29 rfl rfl ?_
          refine g_iload_n C dX11_world_30 rfl rfl ?_
          refine g_iload_n C dX11_world_31 rfl rfl ?_
          refine g_iload C dX11_world_32 rfl ?_
          obtain ⟨z3, hz3, hf⟩ := gbind hf ho
          refine g_callV C dX11_world_34 (m_X11_take l X N _ _ _  (gLay.sub hL (by decide) (by decide)) _ _ _ z3.1 z3.2 hz3) gEin0 (cwV 3 C.2.2.2.2.1 gX11_world_X11_take rfl rfl rfl (by decide +kernel) ⟨Nat.le_of_ble_eq_true rfl, Nat.le_of_ble_eq_true rfl⟩) (L0 hL (by decide) (by decide)) (by decide) rfl rfl rfl (Nat.le_of_ble_eq_true rfl) ⟨Nat.le_of_ble_eq_true rfl, Nat.le_of_ble_eq_true rfl⟩ ?_
          refine g_istore C dX11_world_37 (Nat.le_of_ble_eq_true rfl) rfl rfl ?_
          refine g_iload C dX11_world_39 rfl ?_
          refine g_if_eq (tgt := 47) C dX11_world_41 (by decide) hf (fun hf => ?_) (fun hf => ?_)
          · refine g_iconst (v := 4) C dX11_world_47 (by decide) ?_
            refine g_newa (q := S.length) C dX11_world_48 ai (by decide) (by decide) (by decide) ⟨Nat.le_of_ble_eq_true rfl, Nat.le_of_ble_eq_true rfl⟩ rfl ?_
            have hL := gLay.app hL (T := [(12, 4)]) (by decide)
            refine g_astore C dX11_world_50 (Nat.le_of_ble_eq_true rfl) rfl rfl ?_
            refine g_aload_n C dX11_world_52 rfl rfl ?_
            refine g_getR (i := 6) (j := 6) C dX11_world_53 (L0 hL (by decide) (by decide)) c10 rfl (by decide) f28 (fun _ h9 => h9) (LR0_6 hL (by decide) (by decide)) ?_
            refine g_iconst (v := 0) C dX11_world_56 (by decide) ?_
            refine g_aload C dX11_world_57 rfl ?_
            refine g_iconst (v := 0) C dX11_world_59 (by decide) ?_
            refine g_iload C dX11_world_60 rfl ?_
            refine g_iconst (v := 1) C dX11_world_62 (by decide) ?_
            refine g_iadd C dX11_world_63 ?_
            obtain ⟨ha4, hf⟩ := gcaseF hf ho
            refine g_copy C dX11_world_64 m108 hacw (L5 hL (by decide) (by decide)) (gAr_at ha4) ho hf (Nat.le_of_ble_eq_true rfl) (Nat.le_of_ble_eq_true rfl) (fun hf => ?_)
            refine g_aload_n C dX11_world_67 rfl rfl ?_
            refine g_iload_n C dX11_world_68 rfl rfl ?_
            refine g_aload_n C dX11_world_69 rfl rfl ?_
            refine g_getR (i := 1) (j := 1) C dX11_world_70 (L0 hL (by decide) (by decide)) c10 rfl (by decide) f64 (fun _ h9 => h9) (LR0_1 hL (by decide) (by decide)) ?_
            refine g_aload C dX11_world_73 rfl ?_
            refine g_iload C dX11_world_75 rfl ?_
            obtain ⟨z5, hz5, hf⟩ := gbind hf ho
            refine g_callV C dX11_world_77 (m_X8_worldOf l X N _ _ _  (gLay.sub hL (by decide) (by decide)) _ _ z5.1 z5.2.1 z5.2.2.1 z5.2.2.2 hz5) gEin0 (cwV 2 C.2.2.2.2.1 gX11_world_X8_worldOf rfl rfl rfl (by decide +kernel) ⟨Nat.le_of_ble_eq_true rfl, Nat.le_of_ble_eq_true rfl⟩) (L37 hL (by decide) (by decide)) (by decide) rfl rfl rfl (Nat.le_of_ble_eq_true rfl) ⟨Nat.le_of_ble_eq_true rfl, Nat.le_of_ble_eq_true rfl⟩ ?_
            obtain ⟨hL7, hf⟩ := gcase hf ho
            have hL7 := gLayb_ok (by decide) hL7
            obtain ⟨z6, hz6, hf⟩ := gbind hf ho
            refine g_callV C dX11_world_80 (m_X11_shelve l X N _ _ _  (gLay.sub hL7 (by decide) (by decide)) _ _ z6.1 z6.2.1 z6.2.2.1 z6.2.2.2 hz6) (gEN_in hE) (cwV 2 C.2.2.2.2.1 gX11_world_X11_shelve rfl rfl rfl (by decide +kernel) ⟨Nat.le_of_ble_eq_true rfl, Nat.le_of_ble_eq_true rfl⟩) (L0 hL7 (by decide) (by decide)) (by decide) rfl rfl rfl (Nat.le_of_ble_eq_true rfl) ⟨Nat.le_of_ble_eq_true rfl, Nat.le_of_ble_eq_true rfl⟩ ?_
            cases hf
            refine g_widen (k := 3) (n := 14) (Nat.le_of_ble_eq_true rfl) (Nat.le_of_ble_eq_true rfl) ?_
            exact g_iret C dX11_world_83 hr hlk
          · refine g_iload C dX11_world_44 rfl ?_
            cases hf
            refine g_widen (k := 3) (n := 14) (Nat.le_of_ble_eq_true rfl) (Nat.le_of_ble_eq_true rfl) ?_
            exact g_iret C dX11_world_46 hr hlk
        · refine g_ldc C k80 dX11_world_26 ?_
          cases hf
          refine g_widen (k := 3) (n := 14) (Nat.le_of_ble_eq_true rfl) (Nat.le_of_ble_eq_true rfl) ?_
          exact g_iret C dX11_world_28 hr hlk
def f_X11_turn (N : Nat) (I : gI) (R : gR) (S : gS) (a0 : Int32) (a1 : Int32) (a2 : Int32) : Option (Int32 × gI × gR × gS) :=
  ((f_X11_isPlace N I R S a0).bind (fun z1 => (if z1 = 0 then some ((-1000001 : Int32), I, R, S) else ((f_X11_isPlace N I R S a1).bind (fun z2 => (if z2 = 0 then some ((-1000001 : Int32), I, R, S) else (if a2 = 0 then some ((-1000001 : Int32), I, R, S) else ((f_X2_has N I R S a2).bind (fun z3 => (if z3 = 0 then some ((-1000001 : Int32), I, R, S) else if a1 < 0 ∨ 10 ≤ a1.toNatClampNeg then none else (match R 2 a1.toNatClampNeg with | none => ((f_X11_found N I R S (1 : Int32)).bind (fun z5 => some (z5.1, z5.2, R, S))) | some w4 => if gWb R S w4 = true then ((f_X8_turned N I R S w4 a2).bind (fun z6 => if gWb z6.2.2.1 z6.2.2.2 w4 = true then if gLayb 0 91 z6.2.2.1 z6.2.2.2 = true then ((f_X8_worldOf N z6.2.1 z6.2.2.1 z6.2.2.2 z6.1 (z6.2.1 w4 1)).bind (fun z8 => if gLayb 0 91 z8.2.2.1 z8.2.2.2 = true then ((f_X11_shelve N z8.2.1 z8.2.2.1 z8.2.2.2 a0 z8.1).bind (fun z10 => some (z10.1, z10.2.1, z10.2.2.1, z10.2.2.2))) else none)) else none else none)) else none)))))))))))
set_option maxRecDepth 100000 in
set_option maxHeartbeats 8000000 in
theorem m_X11_turn (l : Launch) (X : gX) (N : Nat) (I : gI) (R : gR) (S : gS) (hL : gLay 0 91 R S) (a0 : Int32) (a1 : Int32) (a2 : Int32) (v : Int32) (J : gI) (P : gR) (T : gS) (hf : f_X11_turn N I R S a0 a1 a2 = some (v, J, P, T)) : gM l yX11_turn wsX11_turn { frames := 6, cells := 3, slots := 14, locals := 149 } X gEN [.ref (X.1 + 0), .int a0, .int a1, .int a2] I R S (some (.int v)) J P T 3 14 := by
  unfold f_X11_turn at hf
  refine gM_of (cc := cX11_turn) (own := RX11) (maxL := 5) (ret := (some .int)) (by decide) rfl rfl (Nat.le_of_ble_eq_true rfl) ?_
  intro p e s m args below meth c C hr hlk hnm hE
  have ho : (some (v, J, P, T)) ≠ none := fun h => by cases h
  have k80 := C.2.2.2.2.1 (.constant RX11 80 (-1000001)) (by decide +kernel)
  have f50 := C.2.2.2.2.1 (.fieldLink RX11 50 "TimesByPowers" "elements" "LTimesByPowers$Field;") (by decide +kernel)
  have c10 : gCl wsX11_turn 10 RX11 TX11 8 := ⟨by decide, rfl, rfl, by decide +kernel⟩
  have f17 := C.2.2.2.2.1 (.fieldLink RX11 17 "TimesByPowers" "shelf" "[LTimesByPowers$World;") (by decide +kernel)
  have f64 := C.2.2.2.2.1 (.fieldLink RX11 64 "TimesByPowers" "sums" "LTimesByPowers$Sums;") (by decide +kernel)
  have f154 := C.2.2.2.2.1 (.fieldLink RX11 154 "TimesByPowers$World" "\x72" "I") (by decide +kernel)
  have cw : gWc wsX11_turn := ⟨⟨by decide, rfl, rfl, by decide +kernel⟩, ⟨by decide, rfl, rfl, by decide +kernel⟩, ⟨by decide, rfl, rfl, by decide +kernel⟩, ⟨by decide, rfl, rfl, by decide +kernel⟩⟩
  refine g_iload_n C dX11_turn_0 rfl rfl ?_
  obtain ⟨z1, hz1, hf⟩ := gbind hf ho
  refine g_callS C dX11_turn_1 (m_X11_isPlace l X N _ _ _  (gLay.sub hL (by decide) (by decide)) _ z1 hz1) gEin0 (va_cwS 1 C.2.2.2.2.1 gX11_turn_X11_isPlace rfl rfl rfl (by decide +kernel) ⟨Nat.le_of_ble_eq_true rfl, Nat.le_of_ble_eq_true rfl⟩) rfl rfl (Nat.le_of_ble_eq_true rfl) ⟨Nat.le_of_ble_eq_true rfl, Nat.le_of_ble_eq_true rfl⟩ ?_
  refine g_if_eq (tgt := 29) C dX11_turn_4 (by decide) hf (fun hf => ?_) (fun hf => ?_)
  · refine g_ldc C k80 dX11_turn_29 ?_
    cases hf
    refine g_widen (k := 3) (n := 14) (Nat.le_of_ble_eq_true rfl) (Nat.le_of_ble_eq_true rfl) ?_
    exact g_iret C dX11_turn_31 hr hlk
  · refine g_iload_n C dX11_turn_7 rfl rfl ?_
    obtain ⟨z2, hz2, hf⟩ := gbind hf ho
    refine g_callS C dX11_turn_8 (m_X11_isPlace l X N _ _ _  (gLay.sub hL (by decide) (by decide)) _ z2 hz2) gEin0 (va_cwS 1 C.2.2.2.2.1 gX11_turn_X11_isPlace rfl rfl rfl (by decide +kernel) ⟨Nat.le_of_ble_eq_true rfl, Nat.le_of_ble_eq_true rfl⟩) rfl rfl (Nat.le_of_ble_eq_true rfl) ⟨Nat.le_of_ble_eq_true rfl, Nat.le_of_ble_eq_true rfl⟩ ?_
    refine g_if_eq (tgt := 29) C dX11_turn_11 (by decide) hf (fun hf => ?_) (fun hf => ?_)
    · refine g_ldc C k80 dX11_turn_29 ?_
      cases hf
      refine g_widen (k := 3) (n := 14) (Nat.le_of_ble_eq_true rfl) (Nat.le_of_ble_eq_true rfl) ?_
      exact g_iret C dX11_turn_31 hr hlk
    · refine g_iload_n C dX11_turn_14 rfl rfl ?_
      refine g_if_eq (tgt := 29) C dX11_turn_15 (by decide) hf (fun hf => ?_) (fun hf => ?_)
      · refine g_ldc C k80 dX11_turn_29 ?_
        cases hf
        refine g_widen (k := 3) (n := 14) (Nat.le_of_ble_eq_true rfl) (Nat.le_of_ble_eq_true rfl) ?_
        exact g_iret C dX11_turn_31 hr hlk
      · refine g_aload_n C dX11_turn_18 rfl rfl ?_
        refine g_getR (i := 0) (j := 0) C dX11_turn_19 (L0 hL (by decide) (by decide)) c10 rfl (by decide) f50 (fun _ h9 => h9) (LR0_0 hL (by decide) (by decide)) ?_
        refine g_iload_n C dX11_turn_22 rfl rfl ?_
        obtain ⟨z3, hz3, hf⟩ := gbind hf ho
        refine g_callV C dX11_turn_23 (m_X2_has l X N _ _ _  (gLay.sub hL (by decide) (by decide)) _ z3 hz3) gEin0 (cwV 1 C.2.2.2.2.1 gX11_turn_X2_has rfl rfl rfl (by decide +kernel) ⟨Nat.le_of_ble_eq_true rfl, Nat.le_of_ble_eq_true rfl⟩) (L6 hL (by decide) (by decide)) (by decide) rfl rfl rfl (Nat.le_of_ble_eq_true rfl) ⟨Nat.le_of_ble_eq_true rfl, Nat.le_of_ble_eq_true rfl⟩ ?_
        refine g_if_ne (tgt := 32) C dX11_turn_26 (by decide) hf (fun hf => ?_) (fun hf => ?_)
        · refine g_aload_n C dX11_turn_32 rfl rfl ?_
          refine g_getR (i := 4) (j := 4) C dX11_turn_33 (L0 hL (by decide) (by decide)) c10 rfl (by decide) f17 (fun _ h9 => h9) (LR0_4 hL (by decide) (by decide)) ?_
          refine g_iload_n C dX11_turn_36 rfl rfl ?_
          refine g_aald 3 C dX11_turn_37 (by decide) (L2 hL (by decide) (by decide)) rfl rfl ho hf (fun hf => ?_)
          refine g_split hf (fun hnw4 hf => ?_) (fun w4 hsw4 hf => ?_)
          · refine g_astoreN C dX11_turn_38 (Nat.le_of_ble_eq_true rfl) rfl rfl ?_
            refine g_aloadN C dX11_turn_40 rfl ?_
            refine g_ifnonnullN C dX11_turn_42 ?_
            refine g_aload_n C dX11_turn_45 rfl rfl ?_
            refine g_iconst (v := 1) C dX11_turn_46 (by decide) ?_
            obtain ⟨z5, hz5, hf⟩ := gbind hf ho
            refine g_callV C dX11_turn_47 (m_X11_found l X N _ _ _  (gLay.sub hL (by decide) (by decide)) _ z5.1 z5.2 hz5) gEin0 (cwV 1 C.2.2.2.2.1 gX11_turn_X11_found rfl rfl rfl (by decide +kernel) ⟨Nat.le_of_ble_eq_true rfl, Nat.le_of_ble_eq_true rfl⟩) (L0 hL (by decide) (by decide)) (by decide) rfl rfl rfl (Nat.le_of_ble_eq_true rfl) ⟨Nat.le_of_ble_eq_true rfl, Nat.le_of_ble_eq_true rfl⟩ ?_
            cases hf
            refine g_widen (k := 3) (n := 14) (Nat.le_of_ble_eq_true rfl) (Nat.le_of_ble_eq_true rfl) ?_
            exact g_iret C dX11_turn_50 hr hlk
          · obtain ⟨hww4, hf⟩ := gcase hf ho
            refine g_astore C dX11_turn_38 (Nat.le_of_ble_eq_true rfl) rfl rfl ?_
            refine g_aload C dX11_turn_40 rfl ?_
            refine g_ifnonnull (tgt := 51) C dX11_turn_42 (by decide) ?_
            refine g_aload_n C dX11_turn_51 rfl rfl ?_
            refine g_iload_n C dX11_turn_52 rfl rfl ?_
            refine g_aload_n C dX11_turn_53 rfl rfl ?_
            refine g_getR (i := 1) (j := 1) C dX11_turn_54 (L0 hL (by decide) (by decide)) c10 rfl (by decide) f64 (fun _ h9 => h9) (LR0_1 hL (by decide) (by decide)) ?_
            refine g_aload_n C dX11_turn_57 rfl rfl ?_
            refine g_getR (i := 1) (j := 1) C dX11_turn_58 (L0 hL (by decide) (by decide)) c10 rfl (by decide) f64 (fun _ h9 => h9) (LR0_1 hL (by decide) (by decide)) ?_
            refine g_aload C dX11_turn_61 rfl ?_
            refine g_iload_n C dX11_turn_63 rfl rfl ?_
            obtain ⟨z6, hz6, hf⟩ := gbind hf ho
            refine g_callV C dX11_turn_64 (m_X8_turned l X N _ _ _  (gLay.sub hL (by decide) (by decide)) _ _ z6.1 z6.2.1 z6.2.2.1 z6.2.2.2 hz6) gEin0 (cwV 2 C.2.2.2.2.1 gX11_turn_X8_turned rfl rfl rfl (by decide +kernel) ⟨Nat.le_of_ble_eq_true rfl, Nat.le_of_ble_eq_true rfl⟩) (L37 hL (by decide) (by decide)) (by decide) rfl rfl rfl (Nat.le_of_ble_eq_true rfl) ⟨Nat.le_of_ble_eq_true rfl, Nat.le_of_ble_eq_true rfl⟩ ?_
            refine g_aload C dX11_turn_67 rfl ?_
            obtain ⟨hw7, hf⟩ := gcase hf ho
            refine g_getWI 1 C dX11_turn_69 hw7 cw ⟨rfl, rfl, rfl, rfl⟩ f154 ⟨rfl, rfl, rfl, rfl⟩ ?_
            obtain ⟨hL9, hf⟩ := gcase hf ho
            have hL9 := gLayb_ok (by decide) hL9
            obtain ⟨z8, hz8, hf⟩ := gbind hf ho
            refine g_callV C dX11_turn_72 (m_X8_worldOf l X N _ _ _  (gLay.sub hL9 (by decide) (by decide)) _ _ z8.1 z8.2.1 z8.2.2.1 z8.2.2.2 hz8) gEin0 (cwV 2 C.2.2.2.2.1 gX11_turn_X8_worldOf rfl rfl rfl (by decide +kernel) ⟨Nat.le_of_ble_eq_true rfl, Nat.le_of_ble_eq_true rfl⟩) (L37 hL9 (by decide) (by decide)) (by decide) rfl rfl rfl (Nat.le_of_ble_eq_true rfl) ⟨Nat.le_of_ble_eq_true rfl, Nat.le_of_ble_eq_true rfl⟩ ?_
            obtain ⟨hL11, hf⟩ := gcase hf ho
            have hL11 := gLayb_ok (by decide) hL11
            obtain ⟨z10, hz10, hf⟩ := gbind hf ho
            refine g_callV C dX11_turn_75 (m_X11_shelve l X N _ _ _  (gLay.sub hL11 (by decide) (by decide)) _ _ z10.1 z10.2.1 z10.2.2.1 z10.2.2.2 hz10) (gEN_in hE) (cwV 2 C.2.2.2.2.1 gX11_turn_X11_shelve rfl rfl rfl (by decide +kernel) ⟨Nat.le_of_ble_eq_true rfl, Nat.le_of_ble_eq_true rfl⟩) (L0 hL11 (by decide) (by decide)) (by decide) rfl rfl rfl (Nat.le_of_ble_eq_true rfl) ⟨Nat.le_of_ble_eq_true rfl, Nat.le_of_ble_eq_true rfl⟩ ?_
            cases hf
            refine g_widen (k := 3) (n := 14) (Nat.le_of_ble_eq_true rfl) (Nat.le_of_ble_eq_true rfl) ?_
            exact g_iret C dX11_turn_78 hr hlk
        · refine g_ldc C k80 dX11_turn_29 ?_
          cases hf
          refine g_widen (k := 3) (n := 14) (Nat.le_of_ble_eq_true rfl) (Nat.le_of_ble_eq_true rfl) ?_
          exact g_iret C dX11_turn_31 hr hlk
def f_X11_takeMap (N : Nat) (I : gI) (R : gR) (S : gS) (a0 : Option Nat) (a1 : Int32) (a2 : Int32) (a3 : Int32) : Option (Int32 × gI) :=
  match a0 with | none => ((f_X11_found N I R S (1 : Int32)).bind (fun z1 => some (z1.1, z1.2))) | some wa0 => if gWb R S wa0 = true then ((f_X11_take N I R S a1 a2 a3).bind (fun z2 => (if z2.1 = 0 then if (0 : Int32) < 0 ∨ 5 ≤ (0 : Int32).toNatClampNeg then none else (if (z2.2 5 (0 : Int32).toNatClampNeg) = 0 then some ((-1000001 : Int32), z2.2) else some (z2.1, z2.2)) else some (z2.1, z2.2)))) else none
set_option maxRecDepth 100000 in
set_option maxHeartbeats 8000000 in
theorem m_X11_takeMap (l : Launch) (X : gX) (N : Nat) (I : gI) (R : gR) (S : gS) (hL : gLay 0 91 R S) (a0 : Option Nat) (a1 : Int32) (a2 : Int32) (a3 : Int32) (v : Int32) (J : gI) (hf : f_X11_takeMap N I R S a0 a1 a2 a3 = some (v, J)) : gM l yX11_takeMap wsX11_takeMap { frames := 2, cells := 0, slots := 0, locals := 47 } X gE0 [.ref (X.1 + 0), gv X.1 a0, .int a1, .int a2, .int a3] I R S (some (.int v)) J R S 0 0 := by
  unfold f_X11_takeMap at hf
  cases a0 with
  | none =>
    dsimp only at hf
    refine gM_of (cc := cX11_takeMap) (own := RX11) (maxL := 6) (ret := (some .int)) (by decide) rfl rfl (Nat.le_of_ble_eq_true rfl) ?_
    intro p e s m args below meth c C hr hlk hnm hE
    have ho : (some (v, J)) ≠ none := fun h => by cases h
    have f28 := C.2.2.2.2.1 (.fieldLink RX11 28 "TimesByPowers" "taken" "[I") (by decide +kernel)
    have c10 : gCl wsX11_takeMap 10 RX11 TX11 8 := ⟨by decide, rfl, rfl, by decide +kernel⟩
    have k80 := C.2.2.2.2.1 (.constant RX11 80 (-1000001)) (by decide +kernel)
    refine g_aload_nN C dX11_takeMap_0 rfl rfl ?_
    refine g_ifnonnullN C dX11_takeMap_1 ?_
    refine g_aload_n C dX11_takeMap_4 rfl rfl ?_
    refine g_iconst (v := 1) C dX11_takeMap_5 (by decide) ?_
    obtain ⟨z1, hz1, hf⟩ := gbind hf ho
    refine g_callV C dX11_takeMap_6 (m_X11_found l X N _ _ _  (gLay.sub hL (by decide) (by decide)) _ z1.1 z1.2 hz1) gEin0 (cwV 1 C.2.2.2.2.1 gX11_takeMap_X11_found rfl rfl rfl (by decide +kernel) ⟨Nat.le_of_ble_eq_true rfl, Nat.le_of_ble_eq_true rfl⟩) (L0 hL (by decide) (by decide)) (by decide) rfl rfl rfl (Nat.le_of_ble_eq_true rfl) ⟨Nat.le_of_ble_eq_true rfl, Nat.le_of_ble_eq_true rfl⟩ ?_
    cases hf
    exact g_iret C dX11_takeMap_9 hr hlk
  | some wa0 =>
    dsimp only at hf
    refine gM_of (cc := cX11_takeMap) (own := RX11) (maxL := 6) (ret := (some .int)) (by decide) rfl rfl (Nat.le_of_ble_eq_true rfl) ?_
    intro p e s m args below meth c C hr hlk hnm hE
    have ho : (some (v, J)) ≠ none := fun h => by cases h
    have f28 := C.2.2.2.2.1 (.fieldLink RX11 28 "TimesByPowers" "taken" "[I") (by decide +kernel)
    have c10 : gCl wsX11_takeMap 10 RX11 TX11 8 := ⟨by decide, rfl, rfl, by decide +kernel⟩
    have k80 := C.2.2.2.2.1 (.constant RX11 80 (-1000001)) (by decide +kernel)
    obtain ⟨hwwa0, hf⟩ := gcase hf ho
    refine g_aload_n C dX11_takeMap_0 rfl rfl ?_
    refine g_ifnonnull (tgt := 10) C dX11_takeMap_1 (by decide) ?_
    refine g_aload_n C dX11_takeMap_10 rfl rfl ?_
    refine g_iload_n C dX11_takeMap_11 rfl rfl ?_
    refine g_iload_n C dX11_takeMap_12 rfl rfl ?_
    refine g_iload C dX11_takeMap_13 rfl ?_
    obtain ⟨z2, hz2, hf⟩ := gbind hf ho
    refine g_callV C dX11_takeMap_15 (m_X11_take l X N _ _ _  (gLay.sub hL (by decide) (by decide)) _ _ _ z2.1 z2.2 hz2) gEin0 (cwV 3 C.2.2.2.2.1 gX11_takeMap_X11_take rfl rfl rfl (by decide +kernel) ⟨Nat.le_of_ble_eq_true rfl, Nat.le_of_ble_eq_true rfl⟩) (L0 hL (by decide) (by decide)) (by decide) rfl rfl rfl (Nat.le_of_ble_eq_true rfl) ⟨Nat.le_of_ble_eq_true rfl, Nat.le_of_ble_eq_true rfl⟩ ?_
    refine g_istore C dX11_takeMap_18 (Nat.le_of_ble_eq_true rfl) rfl rfl ?_
    refine g_iload C dX11_takeMap_20 rfl ?_
    refine g_if_ne (tgt := 39) C dX11_takeMap_22 (by decide) hf (fun hf => ?_) (fun hf => ?_)
    · refine g_iload C dX11_takeMap_39 rfl ?_
      cases hf
      exact g_iret C dX11_takeMap_41 hr hlk
    · refine g_aload_n C dX11_takeMap_25 rfl rfl ?_
      refine g_getR (i := 6) (j := 6) C dX11_takeMap_26 (L0 hL (by decide) (by decide)) c10 rfl (by decide) f28 (fun _ h9 => h9) (LR0_6 hL (by decide) (by decide)) ?_
      refine g_iconst (v := 0) C dX11_takeMap_29 (by decide) ?_
      refine g_iald C dX11_takeMap_30 (L5 hL (by decide) (by decide)) ho hf (fun hf => ?_)
      refine g_if_ne (tgt := 39) C dX11_takeMap_31 (by decide) hf (fun hf => ?_) (fun hf => ?_)
      · refine g_iload C dX11_takeMap_39 rfl ?_
        cases hf
        exact g_iret C dX11_takeMap_41 hr hlk
      · refine g_ldc C k80 dX11_takeMap_34 ?_
        refine g_goto (tgt := 41) C dX11_takeMap_36 (by decide) ?_
        cases hf
        exact g_iret C dX11_takeMap_41 hr hlk
def f_J7_copyOf_59c91 (N : Nat) (I : gI) (R : gR) (S : gS) (a0 : Nat) : Option (Nat × gI × gR × gS) :=
  if gAr S a0 = false then none else (if (4 : Int32) = (Int32.ofNat (gLn S a0)) then none else if gAr (S ++ [(12, 4)]) a0 = false then none else if gAr (S ++ [(12, 4)]) a0 = false then none else if gAr (S ++ [(12, 4)]) S.length = false then none else if ((0 : Int32) < 0 ∨ (0 : Int32) < 0 ∨ (if (4 : Int32) < (Int32.ofNat (gLn (S ++ [(12, 4)]) a0)) then (4 : Int32) else (Int32.ofNat (gLn (S ++ [(12, 4)]) a0))) < 0) ∨ (gLn (S ++ [(12, 4)]) a0) < (0 : Int32).toNatClampNeg + (if (4 : Int32) < (Int32.ofNat (gLn (S ++ [(12, 4)]) a0)) then (4 : Int32) else (Int32.ofNat (gLn (S ++ [(12, 4)]) a0))).toNatClampNeg ∨ (gLn (S ++ [(12, 4)]) S.length) < (0 : Int32).toNatClampNeg + (if (4 : Int32) < (Int32.ofNat (gLn (S ++ [(12, 4)]) a0)) then (4 : Int32) else (Int32.ofNat (gLn (S ++ [(12, 4)]) a0))).toNatClampNeg then none else some (S.length, gCopy (gZ I S.length) a0 S.length (0 : Int32).toNatClampNeg (0 : Int32).toNatClampNeg (if (4 : Int32) < (Int32.ofNat (gLn (S ++ [(12, 4)]) a0)) then (4 : Int32) else (Int32.ofNat (gLn (S ++ [(12, 4)]) a0))).toNatClampNeg, R, S ++ [(12, 4)]))
set_option maxRecDepth 100000 in
set_option maxHeartbeats 8000000 in
theorem m_J7_copyOf_59c91 (l : Launch) (X : gX) (N : Nat) (I : gI) (R : gR) (S : gS) (a0 : Nat) (v : Nat) (J : gI) (P : gR) (T : gS) (hf : f_J7_copyOf_59c91 N I R S a0 = some (v, J, P, T)) : gM l yJ7_copyOf_59c91 wsJ7_copyOf_59c91 { frames := 1, cells := 1, slots := 4, locals := 43 } X gE0 [.ref (X.1 + a0), .int 4] I R S (some (.ref (X.1 + v))) J P T 1 4 := by
  unfold f_J7_copyOf_59c91 at hf
  refine gM_of (cc := cJ7_copyOf_59c91) (own := RJ7) (maxL := 3) (ret := (some (.array .int))) (by decide) rfl rfl (Nat.le_of_ble_eq_true rfl) ?_
  intro p e s m args below meth c C hr hlk hnm hE
  have ho : (some (v, J, P, T)) ≠ none := fun h => by cases h
  have ai := C.2.2.2.2.1 (.arrayClass .int) (by decide +kernel)
  have m304 := C.2.2.2.2.1 (.methodLink RJ7 304 Lib.Math.min.name) (by decide +kernel)
  have hmin : gMin s args := ⟨C.2.2.2.2.1 (.static Lib.Math.min.name) (by decide +kernel), C.2.2.2.2.1 (.initialized "java/lang/Math") (by decide +kernel), C.2.2.2.2.1 (.code Lib.Math.min.name Lib.Math.min.code 2 (some .int)) (by decide +kernel)⟩
  have m150 := C.2.2.2.2.1 (.methodLink RJ7 150 arraycopyName) (by decide +kernel)
  have hacw : gAcw s args := ⟨C.2.2.2.2.1 (.native arraycopyName) (by decide +kernel), C.2.2.2.2.1 (.static arraycopyName) (by decide +kernel), C.2.2.2.2.1 (.initialized "java/lang/System") (by decide +kernel)⟩
  refine g_iload_n C dJ7_copyOf_59c91_0 rfl rfl ?_
  refine g_aload_n C dJ7_copyOf_59c91_1 rfl rfl ?_
  refine g_alenD C dJ7_copyOf_59c91_2 ho hf (fun hf => ?_)
  refine g_icmp_ne (tgt := 14) C dJ7_copyOf_59c91_3 (by decide) hf (fun hf => ?_) (fun hf => ?_)
  · refine g_iload_n C dJ7_copyOf_59c91_14 rfl rfl ?_
    refine g_newa (q := S.length) C dJ7_copyOf_59c91_15 ai (by decide) (by decide) (by decide) ⟨Nat.le_of_ble_eq_true rfl, Nat.le_of_ble_eq_true rfl⟩ rfl ?_
    refine g_astore_n C dJ7_copyOf_59c91_17 rfl (Nat.le_of_ble_eq_true rfl) rfl rfl ?_
    refine g_aload_n C dJ7_copyOf_59c91_18 rfl rfl ?_
    refine g_iconst (v := 0) C dJ7_copyOf_59c91_19 (by decide) ?_
    refine g_aload_n C dJ7_copyOf_59c91_20 rfl rfl ?_
    refine g_iconst (v := 0) C dJ7_copyOf_59c91_21 (by decide) ?_
    refine g_aload_n C dJ7_copyOf_59c91_22 rfl rfl ?_
    refine g_alenD C dJ7_copyOf_59c91_23 ho hf (fun hf => ?_)
    refine g_iload_n C dJ7_copyOf_59c91_24 rfl rfl ?_
    refine g_min C dJ7_copyOf_59c91_25 m304 hmin (Nat.le_of_ble_eq_true rfl) (Nat.le_of_ble_eq_true rfl) ⟨Nat.le_of_ble_eq_true rfl, Nat.le_of_ble_eq_true rfl⟩ ?_
    obtain ⟨ha1, hf⟩ := gcaseF hf ho
    obtain ⟨ha2, hf⟩ := gcaseF hf ho
    refine g_copy C dJ7_copyOf_59c91_28 m150 hacw (gAr_at ha1) (gAr_at ha2) ho hf (Nat.le_of_ble_eq_true rfl) (Nat.le_of_ble_eq_true rfl) (fun hf => ?_)
    refine g_aload_n C dJ7_copyOf_59c91_31 rfl rfl ?_
    cases hf
    refine g_widen (k := 1) (n := 4) (Nat.le_of_ble_eq_true rfl) (Nat.le_of_ble_eq_true rfl) ?_
    exact g_aret C dJ7_copyOf_59c91_32 hr (by first | exact Or.inl ⟨_, rfl⟩ | exact Or.inr ⟨_, rfl⟩) hlk
  · refine g_aload_n C dJ7_copyOf_59c91_6 rfl rfl ?_
    exact absurd hf.symm ho
def f_X11_map (N : Nat) (I : gI) (R : gR) (S : gS) (a0 : Int32) (a1 : Int32) (a2 : Int32) (a3 : Int32) (a4 : Int32) : Option (Int32 × gI × gR × gS) :=
  ((f_X11_isPlace N I R S a0).bind (fun z1 => (if z1 = 0 then some ((-1000001 : Int32), I, R, S) else ((f_X11_isPlace N I R S a1).bind (fun z2 => (if z2 = 0 then some ((-1000001 : Int32), I, R, S) else ((f_X11_isRow N I R S a2).bind (fun z3 => (if z3 = 0 then some ((-1000001 : Int32), I, R, S) else (if a4 < (1 : Int32) then some ((-1000001 : Int32), I, R, S) else (if a4 ≤ (4 : Int32) then if a1 < 0 ∨ 10 ≤ a1.toNatClampNeg then none else (match R 2 a1.toNatClampNeg with | none => ((f_X11_takeMap N I R S none a2 a3 a4).bind (fun z5 => (if z5.1 = 0 then none else some (z5.1, z5.2, R, S)))) | some w4 => if gWb R S w4 = true then ((f_X11_takeMap N I R S (some w4) a2 a3 a4).bind (fun z7 => (if z7.1 = 0 then ((f_X8_leads N z7.2 R S w4 5 a4).bind (fun z8 => (if z8.1 = 0 then ((f_X11_fine N z8.2 R S (-1000000 : Int32)).bind (fun z15 => some (z15.1, z15.2, R, S))) else ((f_J7_copyOf_59c91 N z8.2 R S 55).bind (fun z9 => if gLayb 0 91 z9.2.2.1 z9.2.2.2 = true then if gWb z9.2.2.1 z9.2.2.2 w4 = true then ((f_X8_worldOf N z9.2.1 z9.2.2.1 z9.2.2.2 z9.1 (z9.2.1 w4 1)).bind (fun z12 => if gLayb 0 91 z12.2.2.1 z12.2.2.2 = true then ((f_X11_shelve N z12.2.1 z12.2.2.1 z12.2.2.2 a0 z12.1).bind (fun z13 => some (z13.1, z13.2.1, z13.2.2.1, z13.2.2.2))) else none)) else none else none))))) else some (z7.1, z7.2, R, S)))) else none) else some ((-1000001 : Int32), I, R, S))))))))))))
set_option maxRecDepth 100000 in
set_option maxHeartbeats 8000000 in
theorem m_X11_map (l : Launch) (X : gX) (N : Nat) (I : gI) (R : gR) (S : gS) (hL : gLay 0 91 R S) (a0 : Int32) (a1 : Int32) (a2 : Int32) (a3 : Int32) (a4 : Int32) (v : Int32) (J : gI) (P : gR) (T : gS) (hf : f_X11_map N I R S a0 a1 a2 a3 a4 = some (v, J, P, T)) : gM l yX11_map wsX11_map { frames := 6, cells := 3, slots := 14, locals := 149 } X gEN [.ref (X.1 + 0), .int a0, .int a1, .int a2, .int a3, .int a4] I R S (some (.int v)) J P T 3 14 := by
  unfold f_X11_map at hf
  refine gM_of (cc := cX11_map) (own := RX11) (maxL := 9) (ret := (some .int)) (by decide) rfl rfl (Nat.le_of_ble_eq_true rfl) ?_
  intro p e s m args below meth c C hr hlk hnm hE
  have ho : (some (v, J, P, T)) ≠ none := fun h => by cases h
  have k80 := C.2.2.2.2.1 (.constant RX11 80 (-1000001)) (by decide +kernel)
  have f17 := C.2.2.2.2.1 (.fieldLink RX11 17 "TimesByPowers" "shelf" "[LTimesByPowers$World;") (by decide +kernel)
  have c10 : gCl wsX11_map 10 RX11 TX11 8 := ⟨by decide, rfl, rfl, by decide +kernel⟩
  have f64 := C.2.2.2.2.1 (.fieldLink RX11 64 "TimesByPowers" "sums" "LTimesByPowers$Sums;") (by decide +kernel)
  have f28 := C.2.2.2.2.1 (.fieldLink RX11 28 "TimesByPowers" "taken" "[I") (by decide +kernel)
  have f165 := C.2.2.2.2.1 (.fieldLink RX11 165 "TimesByPowers$Sums" "quotient" "[I") (by decide +kernel)
  have c8 : gCl wsX11_map 8 RX8 TX8 10 := ⟨by decide, rfl, rfl, by decide +kernel⟩
  have f154 := C.2.2.2.2.1 (.fieldLink RX11 154 "TimesByPowers$World" "\x72" "I") (by decide +kernel)
  have cw : gWc wsX11_map := ⟨⟨by decide, rfl, rfl, by decide +kernel⟩, ⟨by decide, rfl, rfl, by decide +kernel⟩, ⟨by decide, rfl, rfl, by decide +kernel⟩, ⟨by decide, rfl, rfl, by decide +kernel⟩⟩
  have k132 := C.2.2.2.2.1 (.constant RX11 132 (-1000000)) (by decide +kernel)
  refine g_iload_n C dX11_map_0 rfl rfl ?_
  obtain ⟨z1, hz1, hf⟩ := gbind hf ho
  refine g_callS C dX11_map_1 (m_X11_isPlace l X N _ _ _  (gLay.sub hL (by decide) (by decide)) _ z1 hz1) gEin0 (va_cwS 1 C.2.2.2.2.1 gX11_map_X11_isPlace rfl rfl rfl (by decide +kernel) ⟨Nat.le_of_ble_eq_true rfl, Nat.le_of_ble_eq_true rfl⟩) rfl rfl (Nat.le_of_ble_eq_true rfl) ⟨Nat.le_of_ble_eq_true rfl, Nat.le_of_ble_eq_true rfl⟩ ?_
  refine g_if_eq (tgt := 33) C dX11_map_4 (by decide) hf (fun hf => ?_) (fun hf => ?_)
  · refine g_ldc C k80 dX11_map_33 ?_
    cases hf
    refine g_widen (k := 3) (n := 14) (Nat.le_of_ble_eq_true rfl) (Nat.le_of_ble_eq_true rfl) ?_
    exact g_iret C dX11_map_35 hr hlk
  · refine g_iload_n C dX11_map_7 rfl rfl ?_
    obtain ⟨z2, hz2, hf⟩ := gbind hf ho
    refine g_callS C dX11_map_8 (m_X11_isPlace l X N _ _ _  (gLay.sub hL (by decide) (by decide)) _ z2 hz2) gEin0 (va_cwS 1 C.2.2.2.2.1 gX11_map_X11_isPlace rfl rfl rfl (by decide +kernel) ⟨Nat.le_of_ble_eq_true rfl, Nat.le_of_ble_eq_true rfl⟩) rfl rfl (Nat.le_of_ble_eq_true rfl) ⟨Nat.le_of_ble_eq_true rfl, Nat.le_of_ble_eq_true rfl⟩ ?_
    refine g_if_eq (tgt := 33) C dX11_map_11 (by decide) hf (fun hf => ?_) (fun hf => ?_)
    · refine g_ldc C k80 dX11_map_33 ?_
      cases hf
      refine g_widen (k := 3) (n := 14) (Nat.le_of_ble_eq_true rfl) (Nat.le_of_ble_eq_true rfl) ?_
      exact g_iret C dX11_map_35 hr hlk
    · refine g_iload_n C dX11_map_14 rfl rfl ?_
      obtain ⟨z3, hz3, hf⟩ := gbind hf ho
      refine g_callS C dX11_map_15 (m_X11_isRow l X N _ _ _  (gLay.sub hL (by decide) (by decide)) _ z3 hz3) gEin0 (va_cwS 1 C.2.2.2.2.1 gX11_map_X11_isRow rfl rfl rfl (by decide +kernel) ⟨Nat.le_of_ble_eq_true rfl, Nat.le_of_ble_eq_true rfl⟩) rfl rfl (Nat.le_of_ble_eq_true rfl) ⟨Nat.le_of_ble_eq_true rfl, Nat.le_of_ble_eq_true rfl⟩ ?_
      refine g_if_eq (tgt := 33) C dX11_map_18 (by decide) hf (fun hf => ?_) (fun hf => ?_)
      · refine g_ldc C k80 dX11_map_33 ?_
        cases hf
        refine g_widen (k := 3) (n := 14) (Nat.le_of_ble_eq_true rfl) (Nat.le_of_ble_eq_true rfl) ?_
        exact g_iret C dX11_map_35 hr hlk
      · refine g_iload C dX11_map_21 rfl ?_
        refine g_iconst (v := 1) C dX11_map_23 (by decide) ?_
        refine g_icmp_lt (tgt := 33) C dX11_map_24 (by decide) hf (fun hf => ?_) (fun hf => ?_)
        · refine g_ldc C k80 dX11_map_33 ?_
          cases hf
          refine g_widen (k := 3) (n := 14) (Nat.le_of_ble_eq_true rfl) (Nat.le_of_ble_eq_true rfl) ?_
          exact g_iret C dX11_map_35 hr hlk
        · refine g_iload C dX11_map_27 rfl ?_
          refine g_iconst (v := 4) C dX11_map_29 (by decide) ?_
          refine g_icmp_le (tgt := 36) C dX11_map_30 (by decide) hf (fun hf => ?_) (fun hf => ?_)
          · refine g_aload_n C dX11_map_36 rfl rfl ?_
            refine g_getR (i := 4) (j := 4) C dX11_map_37 (L0 hL (by decide) (by decide)) c10 rfl (by decide) f17 (fun _ h9 => h9) (LR0_4 hL (by decide) (by decide)) ?_
            refine g_iload_n C dX11_map_40 rfl rfl ?_
            refine g_aald 3 C dX11_map_41 (by decide) (L2 hL (by decide) (by decide)) rfl rfl ho hf (fun hf => ?_)
            refine g_split hf (fun hnw4 hf => ?_) (fun w4 hsw4 hf => ?_)
            · refine g_astoreN C dX11_map_42 (Nat.le_of_ble_eq_true rfl) rfl rfl ?_
              refine g_aload_n C dX11_map_44 rfl rfl ?_
              refine g_aloadN C dX11_map_45 rfl ?_
              refine g_iload_n C dX11_map_47 rfl rfl ?_
              refine g_iload C dX11_map_48 rfl ?_
              refine g_iload C dX11_map_50 rfl ?_
              obtain ⟨z5, hz5, hf⟩ := gbind hf ho
              refine g_callV C dX11_map_52 (m_X11_takeMap l X N _ _ _  (gLay.sub hL (by decide) (by decide)) _ _ _ _ z5.1 z5.2 hz5) gEin0 (cwV 4 C.2.2.2.2.1 gX11_map_X11_takeMap rfl rfl rfl (by decide +kernel) ⟨Nat.le_of_ble_eq_true rfl, Nat.le_of_ble_eq_true rfl⟩) (L0 hL (by decide) (by decide)) (by decide) rfl rfl rfl (Nat.le_of_ble_eq_true rfl) ⟨Nat.le_of_ble_eq_true rfl, Nat.le_of_ble_eq_true rfl⟩ ?_
              refine g_istore C dX11_map_55 (Nat.le_of_ble_eq_true rfl) rfl rfl ?_
              refine g_iload C dX11_map_57 rfl ?_
              refine g_if_eq (tgt := 65) C dX11_map_59 (by decide) hf (fun hf => ?_) (fun hf => ?_)
              · refine g_aload_n C dX11_map_65 rfl rfl ?_
                refine g_getR (i := 1) (j := 1) C dX11_map_66 (L0 hL (by decide) (by decide)) c10 rfl (by decide) f64 (fun _ h9 => h9) (LR0_1 hL (by decide) (by decide)) ?_
                refine g_aloadN C dX11_map_69 rfl ?_
                refine g_aload_n C dX11_map_71 rfl rfl ?_
                refine g_getR (i := 6) (j := 6) C dX11_map_72 (L0 hL (by decide) (by decide)) c10 rfl (by decide) f28 (fun _ h9 => h9) (LR0_6 hL (by decide) (by decide)) ?_
                refine g_iload C dX11_map_75 rfl ?_
                exact absurd hf.symm ho
              · refine g_iload C dX11_map_62 rfl ?_
                cases hf
                refine g_widen (k := 3) (n := 14) (Nat.le_of_ble_eq_true rfl) (Nat.le_of_ble_eq_true rfl) ?_
                exact g_iret C dX11_map_64 hr hlk
            · obtain ⟨hww4, hf⟩ := gcase hf ho
              refine g_astore C dX11_map_42 (Nat.le_of_ble_eq_true rfl) rfl rfl ?_
              refine g_aload_n C dX11_map_44 rfl rfl ?_
              refine g_aload C dX11_map_45 rfl ?_
              refine g_iload_n C dX11_map_47 rfl rfl ?_
              refine g_iload C dX11_map_48 rfl ?_
              refine g_iload C dX11_map_50 rfl ?_
              obtain ⟨z7, hz7, hf⟩ := gbind hf ho
              refine g_callV C dX11_map_52 (m_X11_takeMap l X N _ _ _  (gLay.sub hL (by decide) (by decide)) _ _ _ _ z7.1 z7.2 hz7) gEin0 (cwV 4 C.2.2.2.2.1 gX11_map_X11_takeMap rfl rfl rfl (by decide +kernel) ⟨Nat.le_of_ble_eq_true rfl, Nat.le_of_ble_eq_true rfl⟩) (L0 hL (by decide) (by decide)) (by decide) rfl rfl rfl (Nat.le_of_ble_eq_true rfl) ⟨Nat.le_of_ble_eq_true rfl, Nat.le_of_ble_eq_true rfl⟩ ?_
              refine g_istore C dX11_map_55 (Nat.le_of_ble_eq_true rfl) rfl rfl ?_
              refine g_iload C dX11_map_57 rfl ?_
              refine g_if_eq (tgt := 65) C dX11_map_59 (by decide) hf (fun hf => ?_) (fun hf => ?_)
              · refine g_aload_n C dX11_map_65 rfl rfl ?_
                refine g_getR (i := 1) (j := 1) C dX11_map_66 (L0 hL (by decide) (by decide)) c10 rfl (by decide) f64 (fun _ h9 => h9) (LR0_1 hL (by decide) (by decide)) ?_
                refine g_aload C dX11_map_69 rfl ?_
                refine g_aload_n C dX11_map_71 rfl rfl ?_
                refine g_getR (i := 6) (j := 6) C dX11_map_72 (L0 hL (by decide) (by decide)) c10 rfl (by decide) f28 (fun _ h9 => h9) (LR0_6 hL (by decide) (by decide)) ?_
                refine g_iload C dX11_map_75 rfl ?_
                obtain ⟨z8, hz8, hf⟩ := gbind hf ho
                refine g_callV C dX11_map_77 (m_X8_leads l X N _ _ _  (gLay.sub hL (by decide) (by decide)) _ _ _ z8.1 z8.2 hz8) gEin0 (cwV 3 C.2.2.2.2.1 gX11_map_X8_leads rfl rfl rfl (by decide +kernel) ⟨Nat.le_of_ble_eq_true rfl, Nat.le_of_ble_eq_true rfl⟩) (L37 hL (by decide) (by decide)) (by decide) rfl rfl rfl (Nat.le_of_ble_eq_true rfl) ⟨Nat.le_of_ble_eq_true rfl, Nat.le_of_ble_eq_true rfl⟩ ?_
                refine g_if_ne (tgt := 90) C dX11_map_80 (by decide) hf (fun hf => ?_) (fun hf => ?_)
                · refine g_aload_n C dX11_map_90 rfl rfl ?_
                  refine g_getR (i := 1) (j := 1) C dX11_map_91 (L0 hL (by decide) (by decide)) c10 rfl (by decide) f64 (fun _ h9 => h9) (LR0_1 hL (by decide) (by decide)) ?_
                  refine g_getR (i := 9) (j := 9) C dX11_map_94 (L37 hL (by decide) (by decide)) c8 rfl (by decide) f165 (fun _ h9 => h9) (LR37_9 hL (by decide) (by decide)) ?_
                  refine g_iconst (v := 4) C dX11_map_97 (by decide) ?_
                  obtain ⟨z9, hz9, hf⟩ := gbind hf ho
                  refine g_callS C dX11_map_98 (m_J7_copyOf_59c91 l X N _ _ _   _ z9.1 z9.2.1 z9.2.2.1 z9.2.2.2 hz9) gEin0 (va_cwS 2 C.2.2.2.2.1 gX11_map_J7_copyOf_59c91 rfl rfl rfl (by decide +kernel) ⟨Nat.le_of_ble_eq_true rfl, Nat.le_of_ble_eq_true rfl⟩) rfl rfl (Nat.le_of_ble_eq_true rfl) ⟨Nat.le_of_ble_eq_true rfl, Nat.le_of_ble_eq_true rfl⟩ ?_
                  refine g_astore C dX11_map_101 (Nat.le_of_ble_eq_true rfl) rfl rfl ?_
                  refine g_aload_n C dX11_map_103 rfl rfl ?_
                  refine g_iload_n C dX11_map_104 rfl rfl ?_
                  refine g_aload_n C dX11_map_105 rfl rfl ?_
                  obtain ⟨hL10, hf⟩ := gcase hf ho
                  have hL10 := gLayb_ok (by decide) hL10
                  refine g_getR (i := 1) (j := 1) C dX11_map_106 (L0 hL10 (by decide) (by decide)) c10 rfl (by decide) f64 (fun _ h9 => h9) (LR0_1 hL10 (by decide) (by decide)) ?_
                  refine g_aload C dX11_map_109 rfl ?_
                  refine g_aload C dX11_map_111 rfl ?_
                  obtain ⟨hw11, hf⟩ := gcase hf ho
                  refine g_getWI 1 C dX11_map_113 hw11 cw ⟨rfl, rfl, rfl, rfl⟩ f154 ⟨rfl, rfl, rfl, rfl⟩ ?_
                  obtain ⟨z12, hz12, hf⟩ := gbind hf ho
                  refine g_callV C dX11_map_116 (m_X8_worldOf l X N _ _ _  (gLay.sub hL10 (by decide) (by decide)) _ _ z12.1 z12.2.1 z12.2.2.1 z12.2.2.2 hz12) gEin0 (cwV 2 C.2.2.2.2.1 gX11_map_X8_worldOf rfl rfl rfl (by decide +kernel) ⟨Nat.le_of_ble_eq_true rfl, Nat.le_of_ble_eq_true rfl⟩) (L37 hL10 (by decide) (by decide)) (by decide) rfl rfl rfl (Nat.le_of_ble_eq_true rfl) ⟨Nat.le_of_ble_eq_true rfl, Nat.le_of_ble_eq_true rfl⟩ ?_
                  obtain ⟨hL14, hf⟩ := gcase hf ho
                  have hL14 := gLayb_ok (by decide) hL14
                  obtain ⟨z13, hz13, hf⟩ := gbind hf ho
                  refine g_callV C dX11_map_119 (m_X11_shelve l X N _ _ _  (gLay.sub hL14 (by decide) (by decide)) _ _ z13.1 z13.2.1 z13.2.2.1 z13.2.2.2 hz13) (gEN_in hE) (cwV 2 C.2.2.2.2.1 gX11_map_X11_shelve rfl rfl rfl (by decide +kernel) ⟨Nat.le_of_ble_eq_true rfl, Nat.le_of_ble_eq_true rfl⟩) (L0 hL14 (by decide) (by decide)) (by decide) rfl rfl rfl (Nat.le_of_ble_eq_true rfl) ⟨Nat.le_of_ble_eq_true rfl, Nat.le_of_ble_eq_true rfl⟩ ?_
                  cases hf
                  refine g_widen (k := 3) (n := 14) (Nat.le_of_ble_eq_true rfl) (Nat.le_of_ble_eq_true rfl) ?_
                  exact g_iret C dX11_map_122 hr hlk
                · refine g_aload_n C dX11_map_83 rfl rfl ?_
                  refine g_ldc C k132 dX11_map_84 ?_
                  obtain ⟨z15, hz15, hf⟩ := gbind hf ho
                  refine g_callV C dX11_map_86 (m_X11_fine l X N _ _ _  (gLay.sub hL (by decide) (by decide)) _ z15.1 z15.2 hz15) gEin0 (cwV 1 C.2.2.2.2.1 gX11_map_X11_fine rfl rfl rfl (by decide +kernel) ⟨Nat.le_of_ble_eq_true rfl, Nat.le_of_ble_eq_true rfl⟩) (L0 hL (by decide) (by decide)) (by decide) rfl rfl rfl (Nat.le_of_ble_eq_true rfl) ⟨Nat.le_of_ble_eq_true rfl, Nat.le_of_ble_eq_true rfl⟩ ?_
                  cases hf
                  refine g_widen (k := 3) (n := 14) (Nat.le_of_ble_eq_true rfl) (Nat.le_of_ble_eq_true rfl) ?_
                  exact g_iret C dX11_map_89 hr hlk
              · refine g_iload C dX11_map_62 rfl ?_
                cases hf
                refine g_widen (k := 3) (n := 14) (Nat.le_of_ble_eq_true rfl) (Nat.le_of_ble_eq_true rfl) ?_
                exact g_iret C dX11_map_64 hr hlk
          · refine g_ldc C k80 dX11_map_33 ?_
            cases hf
            refine g_widen (k := 3) (n := 14) (Nat.le_of_ble_eq_true rfl) (Nat.le_of_ble_eq_true rfl) ?_
            exact g_iret C dX11_map_35 hr hlk
def f_X11_clear (N : Nat) (I : gI) (R : gR) (S : gS) (a0 : Int32) : Option (Int32 × gR × gS) :=
  ((f_X11_isPlace N I R S a0).bind (fun z1 => (if z1 = 0 then some ((-1000001 : Int32), R, S) else if a0 < 0 ∨ 10 ≤ a0.toNatClampNeg then none else (match R 2 a0.toNatClampNeg with | none => if a0 < 0 ∨ 10 ≤ a0.toNatClampNeg then none else some ((0 : Int32), gU R 2 a0.toNatClampNeg none, S) | some w2 => if gWb R S w2 = true then if a0 < 0 ∨ 10 ≤ a0.toNatClampNeg then none else some ((1 : Int32), gU R 2 a0.toNatClampNeg none, S) else none))))
set_option maxRecDepth 100000 in
set_option maxHeartbeats 8000000 in
theorem m_X11_clear (l : Launch) (X : gX) (N : Nat) (I : gI) (R : gR) (S : gS) (hL : gLay 0 91 R S) (a0 : Int32) (v : Int32) (P : gR) (T : gS) (hf : f_X11_clear N I R S a0 = some (v, P, T)) : gM l yX11_clear wsX11_clear { frames := 1, cells := 0, slots := 0, locals := 20 } X gE0 [.ref (X.1 + 0), .int a0] I R S (some (.int v)) I P T 0 0 := by
  unfold f_X11_clear at hf
  refine gM_of (cc := cX11_clear) (own := RX11) (maxL := 3) (ret := (some .int)) (by decide) rfl rfl (Nat.le_of_ble_eq_true rfl) ?_
  intro p e s m args below meth c C hr hlk hnm hE
  have ho : (some (v, P, T)) ≠ none := fun h => by cases h
  have f17 := C.2.2.2.2.1 (.fieldLink RX11 17 "TimesByPowers" "shelf" "[LTimesByPowers$World;") (by decide +kernel)
  have c10 : gCl wsX11_clear 10 RX11 TX11 8 := ⟨by decide, rfl, rfl, by decide +kernel⟩
  have k80 := C.2.2.2.2.1 (.constant RX11 80 (-1000001)) (by decide +kernel)
  refine g_iload_n C dX11_clear_0 rfl rfl ?_
  obtain ⟨z1, hz1, hf⟩ := gbind hf ho
  refine g_callS C dX11_clear_1 (m_X11_isPlace l X N _ _ _  (gLay.sub hL (by decide) (by decide)) _ z1 hz1) gEin0 (va_cwS 1 C.2.2.2.2.1 gX11_clear_X11_isPlace rfl rfl rfl (by decide +kernel) ⟨Nat.le_of_ble_eq_true rfl, Nat.le_of_ble_eq_true rfl⟩) rfl rfl (Nat.le_of_ble_eq_true rfl) ⟨Nat.le_of_ble_eq_true rfl, Nat.le_of_ble_eq_true rfl⟩ ?_
  refine g_if_ne (tgt := 10) C dX11_clear_4 (by decide) hf (fun hf => ?_) (fun hf => ?_)
  · refine g_aload_n C dX11_clear_10 rfl rfl ?_
    refine g_getR (i := 4) (j := 4) C dX11_clear_11 (L0 hL (by decide) (by decide)) c10 rfl (by decide) f17 (fun _ h9 => h9) (LR0_4 hL (by decide) (by decide)) ?_
    refine g_iload_n C dX11_clear_14 rfl rfl ?_
    refine g_aald 3 C dX11_clear_15 (by decide) (L2 hL (by decide) (by decide)) rfl rfl ho hf (fun hf => ?_)
    refine g_split hf (fun hnw2 hf => ?_) (fun w2 hsw2 hf => ?_)
    · refine g_ifnonnullN C dX11_clear_16 ?_
      refine g_iconst (v := 0) C dX11_clear_19 (by decide) ?_
      refine g_goto (tgt := 24) C dX11_clear_20 (by decide) ?_
      refine g_istore_n C dX11_clear_24 rfl (Nat.le_of_ble_eq_true rfl) rfl rfl ?_
      refine g_aload_n C dX11_clear_25 rfl rfl ?_
      refine g_getR (i := 4) (j := 4) C dX11_clear_26 (L0 hL (by decide) (by decide)) c10 rfl (by decide) f17 (fun _ h9 => h9) (LR0_4 hL (by decide) (by decide)) ?_
      refine g_iload_n C dX11_clear_29 rfl rfl ?_
      refine g_null C dX11_clear_30 ?_
      refine g_aastN 3 C dX11_clear_31 (by decide) (L2 hL (by decide) (by decide)) rfl ho hf (fun hf => ?_)
      refine g_iload_n C dX11_clear_32 rfl rfl ?_
      cases hf
      exact g_iret C dX11_clear_33 hr hlk
    · obtain ⟨hww2, hf⟩ := gcase hf ho
      refine g_ifnonnull (tgt := 23) C dX11_clear_16 (by decide) ?_
      refine g_iconst (v := 1) C dX11_clear_23 (by decide) ?_
      refine g_istore_n C dX11_clear_24 rfl (Nat.le_of_ble_eq_true rfl) rfl rfl ?_
      refine g_aload_n C dX11_clear_25 rfl rfl ?_
      refine g_getR (i := 4) (j := 4) C dX11_clear_26 (L0 hL (by decide) (by decide)) c10 rfl (by decide) f17 (fun _ h9 => h9) (LR0_4 hL (by decide) (by decide)) ?_
      refine g_iload_n C dX11_clear_29 rfl rfl ?_
      refine g_null C dX11_clear_30 ?_
      refine g_aastN 3 C dX11_clear_31 (by decide) (L2 hL (by decide) (by decide)) rfl ho hf (fun hf => ?_)
      refine g_iload_n C dX11_clear_32 rfl rfl ?_
      cases hf
      exact g_iret C dX11_clear_33 hr hlk
  · refine g_ldc C k80 dX11_clear_7 ?_
    cases hf
    exact g_iret C dX11_clear_9 hr hlk
