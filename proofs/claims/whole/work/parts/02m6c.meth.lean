set_option maxRecDepth 100000 in
set_option maxHeartbeats 8000000 in
theorem m_X7_sizeAsked (l : Launch) (X : gX) (N : Nat) (I : gI) (R : gR) (S : gS) (hL : gLay 3 5 R S) (w : Nat) (v : Int32) (J : gI) (hf : f_X7_sizeAsked N I R S w = some (v, J)) : gM l yX7_sizeAsked wsX7_sizeAsked { frames := 3, cells := 0, slots := 0, locals := 63 } X gE0 [.ref (X.1 + w), .ref (X.1 + 3)] I R S (some (.int v)) J R S 0 0 := by
  unfold f_X7_sizeAsked at hf
  refine gM_of (cc := cX7_sizeAsked) (own := RX7) (maxL := 2) (ret := (some .int)) (by decide) rfl rfl (Nat.le_of_ble_eq_true rfl) ?_
  intro p e s m args below meth c C hr hlk hnm hE
  have ho : (some (v, J)) ≠ none := fun h => by cases h
  obtain ⟨hk, hf⟩ := gcase hf ho
  refine g_aload_n C dX7_sizeAsked_0 rfl rfl ?_
  refine g_bipush (v := 12) C dX7_sizeAsked_1 (by decide) ?_
  obtain ⟨z1, hz1, hf⟩ := gbind hf ho
  refine g_callV C dX7_sizeAsked_3 (m_X9_leave l X N _ _ _  (gLay.sub hL (by decide) (by decide)) _ z1 hz1) gEin0 (cwV 1 C.2.2.2.2.1 gX7_sizeAsked_X9_leave rfl rfl rfl (by decide +kernel) ⟨Nat.le_of_ble_eq_true rfl, Nat.le_of_ble_eq_true rfl⟩) (L3 hL (by decide) (by decide)) (by decide) rfl rfl rfl (Nat.le_of_ble_eq_true rfl) ⟨Nat.le_of_ble_eq_true rfl, Nat.le_of_ble_eq_true rfl⟩ ?_
  refine g_aload_n C dX7_sizeAsked_6 rfl rfl ?_
  refine g_aload_n C dX7_sizeAsked_7 rfl rfl ?_
  obtain ⟨z2, hz2, hf⟩ := gbind hf ho
  refine g_callSU (k := 7) C dX7_sizeAsked_8 (m_X4_sizeAsked l X N _ _ _  (gLay.sub hL (by decide) (by decide)) _ z2.1 z2.2 hz2) gEin0 (va_cwSU 1 C.2.2.2.2.1 gX7_sizeAsked_X4_sizeAsked_s29 rfl rfl rfl (by decide +kernel) ⟨Nat.le_of_ble_eq_true rfl, Nat.le_of_ble_eq_true rfl⟩) hk (by decide) rfl rfl rfl (Nat.le_of_ble_eq_true rfl) ⟨Nat.le_of_ble_eq_true rfl, Nat.le_of_ble_eq_true rfl⟩ ?_
  refine g_iconst (v := 2) C dX7_sizeAsked_11 (by decide) ?_
  refine g_imul C dX7_sizeAsked_12 ?_
  obtain ⟨rfl, rfl⟩ := gs2 hf
  exact g_iret C dX7_sizeAsked_13 hr hlk
set_option maxRecDepth 100000 in
set_option maxHeartbeats 8000000 in
theorem m_X3_signAsked (l : Launch) (X : gX) (N : Nat) (I : gI) (R : gR) (S : gS) (hL : gLay 3 5 R S) (w : Nat) (v : Int32) (J : gI) (hf : f_X3_signAsked N I R S w = some (v, J)) : gM l yX3_signAsked wsX3_signAsked { frames := 2, cells := 0, slots := 0, locals := 42 } X gE0 [.ref (X.1 + w), .ref (X.1 + 3)] I R S (some (.int v)) J R S 0 0 := by
  unfold f_X3_signAsked at hf
  refine gM_of (cc := cX3_signAsked) (own := RX3) (maxL := 3) (ret := (some .int)) (by decide) rfl rfl (Nat.le_of_ble_eq_true rfl) ?_
  intro p e s m args below meth c C hr hlk hnm hE
  have ho : (some (v, J)) ≠ none := fun h => by cases h
  obtain ⟨hk, hf⟩ := gcase hf ho
  refine g_aload_n C dX3_signAsked_0 rfl rfl ?_
  refine g_bipush (v := 23) C dX3_signAsked_1 (by decide) ?_
  obtain ⟨z1, hz1, hf⟩ := gbind hf ho
  refine g_callV C dX3_signAsked_3 (m_X9_leave l X N _ _ _  (gLay.sub hL (by decide) (by decide)) _ z1 hz1) gEin0 (cwV 1 C.2.2.2.2.1 gX3_signAsked_X9_leave rfl rfl rfl (by decide +kernel) ⟨Nat.le_of_ble_eq_true rfl, Nat.le_of_ble_eq_true rfl⟩) (L3 hL (by decide) (by decide)) (by decide) rfl rfl rfl (Nat.le_of_ble_eq_true rfl) ⟨Nat.le_of_ble_eq_true rfl, Nat.le_of_ble_eq_true rfl⟩ ?_
  refine g_aload_n C dX3_signAsked_6 rfl rfl ?_
  refine g_aload_n C dX3_signAsked_7 rfl rfl ?_
  obtain ⟨z2, hz2, hf⟩ := gbind hf ho
  refine g_callSU (k := 3) C dX3_signAsked_8 (m_X10_signAsked l X N _ _ _  (gLay.sub hL (by decide) (by decide)) _ z2.1 z2.2 hz2) gEin0 (va_cwSU 1 C.2.2.2.2.1 gX3_signAsked_X10_signAsked_s13 rfl rfl rfl (by decide +kernel) ⟨Nat.le_of_ble_eq_true rfl, Nat.le_of_ble_eq_true rfl⟩) hk (by decide) rfl rfl rfl (Nat.le_of_ble_eq_true rfl) ⟨Nat.le_of_ble_eq_true rfl, Nat.le_of_ble_eq_true rfl⟩ ?_
  refine g_istore_n C dX3_signAsked_11 rfl (Nat.le_of_ble_eq_true rfl) rfl rfl ?_
  refine g_iload_n C dX3_signAsked_12 rfl rfl ?_
  refine g_aload_n C dX3_signAsked_13 rfl rfl ?_
  refine g_aload_n C dX3_signAsked_14 rfl rfl ?_
  obtain ⟨z3, hz3, hf⟩ := gbind hf ho
  refine g_callU (k := 3) C dX3_signAsked_15 (m_X10_sizeAsked l X N _ _ _  (gLay.sub hL (by decide) (by decide)) _ z3.1 z3.2 hz3) gEin0 (va_cwU 1 C.2.2.2.2.1 gX3_signAsked_X10_sizeAsked_u17X3 rfl rfl rfl rfl (by decide +kernel) ⟨Nat.le_of_ble_eq_true rfl, Nat.le_of_ble_eq_true rfl⟩) hk (by decide) rfl rfl rfl (Nat.le_of_ble_eq_true rfl) ⟨Nat.le_of_ble_eq_true rfl, Nat.le_of_ble_eq_true rfl⟩ ?_
  refine g_iadd C dX3_signAsked_18 ?_
  obtain ⟨rfl, rfl⟩ := gs2 hf
  exact g_iret C dX3_signAsked_19 hr hlk
set_option maxRecDepth 100000 in
set_option maxHeartbeats 8000000 in
theorem m_X4_signAsked (l : Launch) (X : gX) (N : Nat) (I : gI) (R : gR) (S : gS) (hL : gLay 3 5 R S) (w : Nat) (v : Int32) (J : gI) (hf : f_X4_signAsked N I R S w = some (v, J)) : gM l yX4_signAsked wsX4_signAsked { frames := 2, cells := 0, slots := 0, locals := 42 } X gE0 [.ref (X.1 + w), .ref (X.1 + 3)] I R S (some (.int v)) J R S 0 0 := by
  unfold f_X4_signAsked at hf
  refine gM_of (cc := cX4_signAsked) (own := RX4) (maxL := 2) (ret := (some .int)) (by decide) rfl rfl (Nat.le_of_ble_eq_true rfl) ?_
  intro p e s m args below meth c C hr hlk hnm hE
  have ho : (some (v, J)) ≠ none := fun h => by cases h
  have f7 := C.2.2.2.2.1 (.fieldLink RX4 7 "TimesByPowers$Pair" "mark" "I") (by decide +kernel)
  have c4 : gCl wsX4_signAsked 4 RX4 TX4 5 := ⟨by decide, rfl, rfl, by decide +kernel⟩
  have c7 : gCl wsX4_signAsked 7 RX7 TX7 5 := ⟨by decide, rfl, rfl, by decide +kernel⟩
  obtain ⟨hk, hf⟩ := gcase hf ho
  rcases hk with hk | hk
  · refine g_aload_n C dX4_signAsked_0 rfl rfl ?_
    refine g_bipush (v := 21) C dX4_signAsked_1 (by decide) ?_
    obtain ⟨z1, hz1, hf⟩ := gbind hf ho
    refine g_callV C dX4_signAsked_3 (m_X9_leave l X N _ _ _  (gLay.sub hL (by decide) (by decide)) _ z1 hz1) gEin0 (cwV 1 C.2.2.2.2.1 gX4_signAsked_X9_leave rfl rfl rfl (by decide +kernel) ⟨Nat.le_of_ble_eq_true rfl, Nat.le_of_ble_eq_true rfl⟩) (L3 hL (by decide) (by decide)) (by decide) rfl rfl rfl (Nat.le_of_ble_eq_true rfl) ⟨Nat.le_of_ble_eq_true rfl, Nat.le_of_ble_eq_true rfl⟩ ?_
    refine g_aload_n C dX4_signAsked_6 rfl rfl ?_
    refine g_aload_n C dX4_signAsked_7 rfl rfl ?_
    obtain ⟨z2, hz2, hf⟩ := gbind hf ho
    refine g_callSU (k := 4) C dX4_signAsked_8 (m_X10_signAsked l X N _ _ _  (gLay.sub hL (by decide) (by decide)) _ z2.1 z2.2 hz2) gEin0 (va_cwSU 1 C.2.2.2.2.1 gX4_signAsked_X10_signAsked_s23 rfl rfl rfl (by decide +kernel) ⟨Nat.le_of_ble_eq_true rfl, Nat.le_of_ble_eq_true rfl⟩) hk (by decide) rfl rfl rfl (Nat.le_of_ble_eq_true rfl) ⟨Nat.le_of_ble_eq_true rfl, Nat.le_of_ble_eq_true rfl⟩ ?_
    refine g_aload_n C dX4_signAsked_11 rfl rfl ?_
    refine g_getI (i := 4) (j := 4) C dX4_signAsked_12 hk c4 rfl f7 (fun _ h9 => h9) ?_
    refine g_iadd C dX4_signAsked_15 ?_
    obtain ⟨rfl, rfl⟩ := gs2 hf
    exact g_iret C dX4_signAsked_16 hr hlk
  · refine g_aload_n C dX4_signAsked_0 rfl rfl ?_
    refine g_bipush (v := 21) C dX4_signAsked_1 (by decide) ?_
    obtain ⟨z1, hz1, hf⟩ := gbind hf ho
    refine g_callV C dX4_signAsked_3 (m_X9_leave l X N _ _ _  (gLay.sub hL (by decide) (by decide)) _ z1 hz1) gEin0 (cwV 1 C.2.2.2.2.1 gX4_signAsked_X9_leave rfl rfl rfl (by decide +kernel) ⟨Nat.le_of_ble_eq_true rfl, Nat.le_of_ble_eq_true rfl⟩) (L3 hL (by decide) (by decide)) (by decide) rfl rfl rfl (Nat.le_of_ble_eq_true rfl) ⟨Nat.le_of_ble_eq_true rfl, Nat.le_of_ble_eq_true rfl⟩ ?_
    refine g_aload_n C dX4_signAsked_6 rfl rfl ?_
    refine g_aload_n C dX4_signAsked_7 rfl rfl ?_
    obtain ⟨z2, hz2, hf⟩ := gbind hf ho
    refine g_callSU (k := 7) C dX4_signAsked_8 (m_X10_signAsked l X N _ _ _  (gLay.sub hL (by decide) (by decide)) _ z2.1 z2.2 hz2) gEin0 (va_cwSU 1 C.2.2.2.2.1 gX4_signAsked_X10_signAsked_s23 rfl rfl rfl (by decide +kernel) ⟨Nat.le_of_ble_eq_true rfl, Nat.le_of_ble_eq_true rfl⟩) hk (by decide) rfl rfl rfl (Nat.le_of_ble_eq_true rfl) ⟨Nat.le_of_ble_eq_true rfl, Nat.le_of_ble_eq_true rfl⟩ ?_
    refine g_aload_n C dX4_signAsked_11 rfl rfl ?_
    refine g_getI (i := 0) (j := 4) C dX4_signAsked_12 hk c7 rfl f7 (fun _ h9 => h9) ?_
    refine g_iadd C dX4_signAsked_15 ?_
    obtain ⟨rfl, rfl⟩ := gs2 hf
    exact g_iret C dX4_signAsked_16 hr hlk
set_option maxRecDepth 100000 in
set_option maxHeartbeats 8000000 in
theorem m_X7_signAsked (l : Launch) (X : gX) (N : Nat) (I : gI) (R : gR) (S : gS) (hL : gLay 3 5 R S) (w : Nat) (v : Int32) (J : gI) (hf : f_X7_signAsked N I R S w = some (v, J)) : gM l yX7_signAsked wsX7_signAsked { frames := 3, cells := 0, slots := 0, locals := 63 } X gE0 [.ref (X.1 + w), .ref (X.1 + 3)] I R S (some (.int v)) J R S 0 0 := by
  unfold f_X7_signAsked at hf
  refine gM_of (cc := cX7_signAsked) (own := RX7) (maxL := 2) (ret := (some .int)) (by decide) rfl rfl (Nat.le_of_ble_eq_true rfl) ?_
  intro p e s m args below meth c C hr hlk hnm hE
  have ho : (some (v, J)) ≠ none := fun h => by cases h
  have f36 := C.2.2.2.2.1 (.fieldLink RX7 36 "TimesByPowers$Steep" "d" "I") (by decide +kernel)
  have c7 : gCl wsX7_signAsked 7 RX7 TX7 5 := ⟨by decide, rfl, rfl, by decide +kernel⟩
  have sf36 := C.2.2.2.2.1 (.sameField "TimesByPowers$Steep" "TimesByPowers$World" "d" "I") (by decide +kernel)
  obtain ⟨hk, hf⟩ := gcase hf ho
  refine g_aload_n C dX7_signAsked_0 rfl rfl ?_
  refine g_bipush (v := 22) C dX7_signAsked_1 (by decide) ?_
  obtain ⟨z1, hz1, hf⟩ := gbind hf ho
  refine g_callV C dX7_signAsked_3 (m_X9_leave l X N _ _ _  (gLay.sub hL (by decide) (by decide)) _ z1 hz1) gEin0 (cwV 1 C.2.2.2.2.1 gX7_signAsked_X9_leave rfl rfl rfl (by decide +kernel) ⟨Nat.le_of_ble_eq_true rfl, Nat.le_of_ble_eq_true rfl⟩) (L3 hL (by decide) (by decide)) (by decide) rfl rfl rfl (Nat.le_of_ble_eq_true rfl) ⟨Nat.le_of_ble_eq_true rfl, Nat.le_of_ble_eq_true rfl⟩ ?_
  refine g_aload_n C dX7_signAsked_6 rfl rfl ?_
  refine g_aload_n C dX7_signAsked_7 rfl rfl ?_
  obtain ⟨z2, hz2, hf⟩ := gbind hf ho
  refine g_callSU (k := 7) C dX7_signAsked_8 (m_X4_signAsked l X N _ _ _  (gLay.sub hL (by decide) (by decide)) _ z2.1 z2.2 hz2) gEin0 (va_cwSU 1 C.2.2.2.2.1 gX7_signAsked_X4_signAsked_s33 rfl rfl rfl (by decide +kernel) ⟨Nat.le_of_ble_eq_true rfl, Nat.le_of_ble_eq_true rfl⟩) hk (by decide) rfl rfl rfl (Nat.le_of_ble_eq_true rfl) ⟨Nat.le_of_ble_eq_true rfl, Nat.le_of_ble_eq_true rfl⟩ ?_
  refine g_aload_n C dX7_signAsked_11 rfl rfl ?_
  refine g_getI (i := 4) (j := 3) C dX7_signAsked_12 hk c7 rfl f36 (g_same sf36) ?_
  refine g_iadd C dX7_signAsked_15 ?_
  obtain ⟨rfl, rfl⟩ := gs2 hf
  exact g_iret C dX7_signAsked_16 hr hlk
set_option maxRecDepth 100000 in
set_option maxHeartbeats 8000000 in
theorem m_X1_sizeAsked (l : Launch) (X : gX) (N : Nat) (I : gI) (R : gR) (S : gS) (hL : gLay 3 5 R S) (w : Nat) (v : Int32) (J : gI) (hf : f_X1_sizeAsked N I R S w = some (v, J)) : gM l yX1_sizeAsked wsX1_sizeAsked { frames := 2, cells := 0, slots := 0, locals := 42 } X gE0 [.ref (X.1 + w), .ref (X.1 + 3)] I R S (some (.int v)) J R S 0 0 := by
  unfold f_X1_sizeAsked at hf
  refine gM_of (cc := cX1_sizeAsked) (own := RX1) (maxL := 3) (ret := (some .int)) (by decide) rfl rfl (Nat.le_of_ble_eq_true rfl) ?_
  intro p e s m args below meth c C hr hlk hnm hE
  have ho : (some (v, J)) ≠ none := fun h => by cases h
  obtain ⟨hk, hf⟩ := gcase hf ho
  refine g_aload_n C dX1_sizeAsked_0 rfl rfl ?_
  refine g_bipush (v := 13) C dX1_sizeAsked_1 (by decide) ?_
  obtain ⟨z1, hz1, hf⟩ := gbind hf ho
  refine g_callV C dX1_sizeAsked_3 (m_X9_leave l X N _ _ _  (gLay.sub hL (by decide) (by decide)) _ z1 hz1) gEin0 (cwV 1 C.2.2.2.2.1 gX1_sizeAsked_X9_leave rfl rfl rfl (by decide +kernel) ⟨Nat.le_of_ble_eq_true rfl, Nat.le_of_ble_eq_true rfl⟩) (L3 hL (by decide) (by decide)) (by decide) rfl rfl rfl (Nat.le_of_ble_eq_true rfl) ⟨Nat.le_of_ble_eq_true rfl, Nat.le_of_ble_eq_true rfl⟩ ?_
  refine g_aload_n C dX1_sizeAsked_6 rfl rfl ?_
  refine g_aload_n C dX1_sizeAsked_7 rfl rfl ?_
  obtain ⟨z2, hz2, hf⟩ := gbind hf ho
  refine g_callSU (k := 1) C dX1_sizeAsked_8 (m_X10_sizeAsked l X N _ _ _  (gLay.sub hL (by decide) (by decide)) _ z2.1 z2.2 hz2) gEin0 (va_cwSU 1 C.2.2.2.2.1 gX1_sizeAsked_X10_sizeAsked_s13 rfl rfl rfl (by decide +kernel) ⟨Nat.le_of_ble_eq_true rfl, Nat.le_of_ble_eq_true rfl⟩) hk (by decide) rfl rfl rfl (Nat.le_of_ble_eq_true rfl) ⟨Nat.le_of_ble_eq_true rfl, Nat.le_of_ble_eq_true rfl⟩ ?_
  refine g_istore_n C dX1_sizeAsked_11 rfl (Nat.le_of_ble_eq_true rfl) rfl rfl ?_
  refine g_iload_n C dX1_sizeAsked_12 rfl rfl ?_
  refine g_aload_n C dX1_sizeAsked_13 rfl rfl ?_
  refine g_aload_n C dX1_sizeAsked_14 rfl rfl ?_
  obtain ⟨z3, hz3, hf⟩ := gbind hf ho
  refine g_callU (k := 1) C dX1_sizeAsked_15 (m_X10_signAsked l X N _ _ _  (gLay.sub hL (by decide) (by decide)) _ z3.1 z3.2 hz3) gEin0 (va_cwU 1 C.2.2.2.2.1 gX1_sizeAsked_X10_signAsked_u17X1 rfl rfl rfl rfl (by decide +kernel) ⟨Nat.le_of_ble_eq_true rfl, Nat.le_of_ble_eq_true rfl⟩) hk (by decide) rfl rfl rfl (Nat.le_of_ble_eq_true rfl) ⟨Nat.le_of_ble_eq_true rfl, Nat.le_of_ble_eq_true rfl⟩ ?_
  refine g_iadd C dX1_sizeAsked_18 ?_
  obtain ⟨rfl, rfl⟩ := gs2 hf
  exact g_iret C dX1_sizeAsked_19 hr hlk
set_option maxRecDepth 100000 in
set_option maxHeartbeats 8000000 in
theorem m_X2_times (l : Launch) (X : gX) (N : Nat) (I : gI) (R : gR) (S : gS) (hL : gLay 6 17 R S) (a0 : Int32) (a1 : Int32) (v : Int32) (J : gI) (hf : f_X2_times N I R S a0 a1 = some (v, J)) : gM l yX2_times wsX2_times { frames := 1, cells := 0, slots := 0, locals := 27 } X gE0 [.ref (X.1 + 6), .int a0, .int a1] I R S (some (.int v)) J R S 0 0 := by
  unfold f_X2_times at hf
  refine gM_of (cc := cX2_times) (own := RX2) (maxL := 3) (ret := (some .int)) (by decide) rfl rfl (Nat.le_of_ble_eq_true rfl) ?_
  intro p e s m args below meth c C hr hlk hnm hE
  have ho : (some (v, J)) ≠ none := fun h => by cases h
  refine g_aload_n C dX2_times_0 rfl rfl ?_
  refine g_iload_n C dX2_times_1 rfl rfl ?_
  refine g_iload_n C dX2_times_2 rfl rfl ?_
  obtain ⟨z1, hz1, hf⟩ := gbind hf ho
  refine g_callV C dX2_times_3 (m_X2_addProduct l X N _ _ _  (gLay.sub hL (by decide) (by decide)) _ _ z1 hz1) gEin0 (cwV 2 C.2.2.2.2.1 gX2_times_X2_addProduct rfl rfl rfl (by decide +kernel) ⟨Nat.le_of_ble_eq_true rfl, Nat.le_of_ble_eq_true rfl⟩) (L6 hL (by decide) (by decide)) (by decide) rfl rfl rfl (Nat.le_of_ble_eq_true rfl) ⟨Nat.le_of_ble_eq_true rfl, Nat.le_of_ble_eq_true rfl⟩ ?_
  refine g_aload_n C dX2_times_6 rfl rfl ?_
  obtain ⟨z2, hz2, hf⟩ := gbind hf ho
  refine g_callV C dX2_times_7 (m_X2_folded l X N _ _ _  (gLay.sub hL (by decide) (by decide))  z2.1 z2.2 hz2) gEin0 (cwV 0 C.2.2.2.2.1 gX2_times_X2_folded rfl rfl rfl (by decide +kernel) ⟨Nat.le_of_ble_eq_true rfl, Nat.le_of_ble_eq_true rfl⟩) (L6 hL (by decide) (by decide)) (by decide) rfl rfl rfl (Nat.le_of_ble_eq_true rfl) ⟨Nat.le_of_ble_eq_true rfl, Nat.le_of_ble_eq_true rfl⟩ ?_
  obtain ⟨rfl, rfl⟩ := gs2 hf
  exact g_iret C dX2_times_10 hr hlk
set_option maxRecDepth 100000 in
set_option maxHeartbeats 8000000 in
theorem m_X2_power (l : Launch) (X : gX) (N : Nat) (I : gI) (R : gR) (S : gS) (hL : gLay 6 17 R S) (a0 : Int32) (a1 : Int32) (v : Int32) (J : gI) (hf : f_X2_power N I R S a0 a1 = some (v, J)) : gM l yX2_power wsX2_power { frames := 2, cells := 0, slots := 0, locals := 49 } X gE0 [.ref (X.1 + 6), .int a0, .int a1] I R S (some (.int v)) J R S 0 0 := by
  unfold f_X2_power at hf
  refine gM_of (cc := cX2_power) (own := RX2) (maxL := 6) (ret := (some .int)) (by decide) rfl rfl (Nat.le_of_ble_eq_true rfl) ?_
  intro p e s m args below meth c C hr hlk hnm hE
  have ho : (some (v, J)) ≠ none := fun h => by cases h
  refine g_iconst (v := 1) C dX2_power_0 (by decide) ?_
  refine g_istore_n C dX2_power_1 rfl (Nat.le_of_ble_eq_true rfl) rfl rfl ?_
  refine g_iload_n C dX2_power_2 rfl rfl ?_
  refine g_istore C dX2_power_3 (Nat.le_of_ble_eq_true rfl) rfl rfl ?_
  refine g_iload_n C dX2_power_5 rfl rfl ?_
  refine g_istore C dX2_power_6 (Nat.le_of_ble_eq_true rfl) rfl rfl ?_
  refine g_loop (fun z1 => [(0, .ref (X.1 + 6)), (3, .int z1.1), (4, .int z1.2.1), (5, .int z1.2.2.1)]) (fun z1 => z1.2.2.2) (fun r2 => [(3, .int r2.1)]) (fun r2 => r2.2) 54 hf ho (And.intro rfl (And.intro rfl (And.intro rfl (And.intro rfl trivial)))) rfl (fun r2 hf => ?_) (fun z1 o1 hf ho hkz1 hez1 => ?_)
  · refine g_iload_n C dX2_power_54 rfl rfl ?_
    obtain ⟨rfl, rfl⟩ := gs2 hf
    exact g_iret C dX2_power_55 hr hlk
  · refine g_iload C dX2_power_8 rfl ?_
    refine g_if_le (tgt := 54) C dX2_power_10 (by decide) hf (fun hf => ?_) (fun hf => ?_)
    · have hx := hez1 _ hf.symm
      refine g_sub ?_ hx
      exact (And.intro rfl trivial)
    · refine g_iload C dX2_power_13 rfl ?_
      refine g_iconst (v := 2) C dX2_power_15 (by decide) ?_
      refine g_irem C dX2_power_16 ho hf (fun hf => ?_)
      refine g_iconst (v := 1) C dX2_power_17 (by decide) ?_
      refine g_join (fun z3 => [(0, .ref (X.1 + 6)), (3, .int z3.1), (4, .int z1.2.1), (5, .int z1.2.2.1)]) (fun z3 => []) (fun z3 => z3.2) 29 hf ho (fun z3 hf => ?_) (fun o1 hf ho hkz3 => ?_)
      · refine g_iload C dX2_power_29 rfl ?_
        refine g_iconst (v := 1) C dX2_power_31 (by decide) ?_
        refine g_icmp_le (tgt := 45) C dX2_power_32 (by decide) hf (fun hf => ?_) (fun hf => ?_)
        · refine g_iload C dX2_power_45 rfl ?_
          refine g_iconst (v := 2) C dX2_power_47 (by decide) ?_
          refine g_idiv C dX2_power_48 ho hf (fun hf => ?_)
          refine g_istore C dX2_power_49 (Nat.le_of_ble_eq_true rfl) rfl rfl ?_
          refine g_goto (tgt := 8) C dX2_power_51 (by decide) ?_
          have hx := hkz1 _ hf.symm
          refine g_sub ?_ hx
          exact (And.intro rfl (And.intro rfl (And.intro rfl (And.intro rfl trivial))))
        · refine g_aload_n C dX2_power_35 rfl rfl ?_
          refine g_iload C dX2_power_36 rfl ?_
          refine g_iload C dX2_power_38 rfl ?_
          obtain ⟨z5, hz5, hf⟩ := gbind hf ho
          refine g_callV C dX2_power_40 (m_X2_times l X N _ _ _  (gLay.sub hL (by decide) (by decide)) _ _ z5.1 z5.2 hz5) gEin0 (cwV 2 C.2.2.2.2.1 gX2_power_X2_times rfl rfl rfl (by decide +kernel) ⟨Nat.le_of_ble_eq_true rfl, Nat.le_of_ble_eq_true rfl⟩) (L6 hL (by decide) (by decide)) (by decide) rfl rfl rfl (Nat.le_of_ble_eq_true rfl) ⟨Nat.le_of_ble_eq_true rfl, Nat.le_of_ble_eq_true rfl⟩ ?_
          refine g_istore C dX2_power_43 (Nat.le_of_ble_eq_true rfl) rfl rfl ?_
          refine g_iload C dX2_power_45 rfl ?_
          refine g_iconst (v := 2) C dX2_power_47 (by decide) ?_
          refine g_idiv C dX2_power_48 ho hf (fun hf => ?_)
          refine g_istore C dX2_power_49 (Nat.le_of_ble_eq_true rfl) rfl rfl ?_
          refine g_goto (tgt := 8) C dX2_power_51 (by decide) ?_
          have hx := hkz1 _ hf.symm
          refine g_sub ?_ hx
          exact (And.intro rfl (And.intro rfl (And.intro rfl (And.intro rfl trivial))))
      · refine g_icmp_ne (tgt := 29) C dX2_power_18 (by decide) hf (fun hf => ?_) (fun hf => ?_)
        · have hx := hkz3 _ hf.symm
          refine g_sub ?_ hx
          exact (And.intro rfl (And.intro rfl (And.intro rfl (And.intro rfl trivial))))
        · refine g_aload_n C dX2_power_21 rfl rfl ?_
          refine g_iload_n C dX2_power_22 rfl rfl ?_
          refine g_iload C dX2_power_23 rfl ?_
          obtain ⟨z4, hz4, hf⟩ := gbind hf ho
          refine g_callV C dX2_power_25 (m_X2_times l X N _ _ _  (gLay.sub hL (by decide) (by decide)) _ _ z4.1 z4.2 hz4) gEin0 (cwV 2 C.2.2.2.2.1 gX2_power_X2_times rfl rfl rfl (by decide +kernel) ⟨Nat.le_of_ble_eq_true rfl, Nat.le_of_ble_eq_true rfl⟩) (L6 hL (by decide) (by decide)) (by decide) rfl rfl rfl (Nat.le_of_ble_eq_true rfl) ⟨Nat.le_of_ble_eq_true rfl, Nat.le_of_ble_eq_true rfl⟩ ?_
          refine g_istore_n C dX2_power_28 rfl (Nat.le_of_ble_eq_true rfl) rfl rfl ?_
          have hx := hkz3 _ hf.symm
          refine g_sub ?_ hx
          exact (And.intro rfl (And.intro rfl (And.intro rfl (And.intro rfl trivial))))
set_option maxRecDepth 100000 in
set_option maxHeartbeats 8000000 in
theorem m_X2_init (l : Launch) (X : gX) (N : Nat) (I : gI) (R : gR) (S : gS) (tm : Nat) (a0 : Int32) (a1 : Int32) (J : gI) (P : gR) (T : gS) (hf : f_X2_init N I R S a0 a1 = some (J, P, T)) : gM l yX2_init wsX2_init { frames := 3, cells := 10, slots := 68, locals := 74 } X (gEC X tm) [.ref (X.1 + 6), .int a0, .int a1] I R S none J P T 10 68 := by
  unfold f_X2_init at hf
  refine gM_of (cc := cX2_init) (own := RX2) (maxL := 6) (ret := none) (by decide) rfl rfl (Nat.le_of_ble_eq_true rfl) ?_
  intro p e s m args below meth c C hr hlk hnm hE
  have ho : (some (J, P, T)) ≠ none := fun h => by cases h
  have hZm := hE.2.2.2.1
  have hTm := hE.2.2.2.2.1
  have m3 := C.2.2.2.2.1 (.methodLink RX2 3 objectInit) (by decide +kernel)
  have oi := C.2.2.2.2.1 (.instanceMethod objectInit) (by decide +kernel)
  have oc := C.2.2.2.2.1 (.code objectInit ⟨#[0xb1]⟩ 1 none) (by first | exact List.mem_cons_of_mem _ (List.mem_append_left _ (List.mem_of_getElem? (i := 2) rfl)) | decide +kernel)
  have ai := C.2.2.2.2.1 (.arrayClass .int) (by decide +kernel)
  have f9 := C.2.2.2.2.1 (.fieldLink RX2 9 "TimesByPowers$Field" "place" "[I") (by decide +kernel)
  have c2 : gCl wsX2_init 2 RX2 TX2 8 := ⟨by decide, rfl, rfl, by decide +kernel⟩
  have f15 := C.2.2.2.2.1 (.fieldLink RX2 15 "TimesByPowers$Field" "fold" "[I") (by decide +kernel)
  have cl18 := C.2.2.2.2.1 (.classLink RX2 18 "[[I") (by decide +kernel)
  have f20 := C.2.2.2.2.1 (.fieldLink RX2 20 "TimesByPowers$Field" "raisedX" "[[I") (by decide +kernel)
  have f23 := C.2.2.2.2.1 (.fieldLink RX2 23 "TimesByPowers$Field" "total" "[I") (by decide +kernel)
  have f26 := C.2.2.2.2.1 (.fieldLink RX2 26 "TimesByPowers$Field" "p" "I") (by decide +kernel)
  have f30 := C.2.2.2.2.1 (.fieldLink RX2 30 "TimesByPowers$Field" "n" "I") (by decide +kernel)
  have f33 := C.2.2.2.2.1 (.fieldLink RX2 33 "TimesByPowers$Field" "size" "I") (by decide +kernel)
  have f36 := C.2.2.2.2.1 (.fieldLink RX2 36 "TimesByPowers$Field" "MODULI" "[I") (by decide +kernel)
  have f39 := C.2.2.2.2.1 (.fieldLink RX2 39 "TimesByPowers$Field" "modulus" "I") (by decide +kernel)
  refine g_aload_n C dX2_init_0 rfl rfl ?_
  refine g_objInit C dX2_init_1 m3 oi oc (Nat.le_of_ble_eq_true rfl) (Nat.le_of_ble_eq_true rfl) ?_
  refine g_aload_n C dX2_init_4 rfl rfl ?_
  refine g_bipush (v := 8) C dX2_init_5 (by decide) ?_
  obtain ⟨hq1, hf⟩ := gcase hf ho
  refine g_newa (q := 7) (N' := 8) C dX2_init_7 ai (by decide) (by decide) (by decide) ⟨Nat.le_of_ble_eq_true rfl, Nat.le_of_ble_eq_true rfl⟩ hq1 ?_
  obtain ⟨hs2, hf⟩ := gcase hf ho
  refine g_putR (i := 4) (j := 4) C dX2_init_9 hs2 c2 gy2 rfl (by decide) f9 (fun _ h9 => h9) (Or.inr ⟨rfl, hnm, rfl⟩) (fun _ => ⟨rfl, rfl⟩) ?_
  refine g_aload_n C dX2_init_12 rfl rfl ?_
  refine g_bipush (v := 6) C dX2_init_13 (by decide) ?_
  obtain ⟨hq3, hf⟩ := gcase hf ho
  refine g_newa (q := 8) (N' := 6) C dX2_init_15 ai (by decide) (by decide) (by decide) ⟨Nat.le_of_ble_eq_true rfl, Nat.le_of_ble_eq_true rfl⟩ hq3 ?_
  refine g_putR (i := 5) (j := 5) C dX2_init_17 (gS_app hs2) c2 gy2 rfl (by decide) f15 (fun _ h9 => h9) (Or.inr ⟨rfl, hnm, rfl⟩) (fun _ => ⟨rfl, rfl⟩) ?_
  refine g_aload_n C dX2_init_20 rfl rfl ?_
  refine g_bipush (v := 6) C dX2_init_21 (by decide) ?_
  refine g_bipush (v := 6) C dX2_init_23 (by decide) ?_
  obtain ⟨hq4, hf⟩ := gcase hf ho
  refine g_mna (q := 9) (N' := 6) (K' := 6) C dX2_init_25 cl18 hE.2.2.1 ai (by decide) (by decide) (by decide) (by decide) ⟨by decide, by decide⟩ ⟨Nat.le_of_ble_eq_true rfl, Nat.le_of_ble_eq_true rfl⟩ hq4 ?_
  refine g_putR (i := 6) (j := 6) C dX2_init_29 (gS_app (gS_app hs2)) c2 gy2 rfl (by decide) f20 (fun _ h9 => h9) (Or.inr ⟨rfl, hnm, rfl⟩) (fun _ => ⟨rfl, rfl⟩) ?_
  refine g_aload_n C dX2_init_32 rfl rfl ?_
  refine g_bipush (v := 12) C dX2_init_33 (by decide) ?_
  obtain ⟨hq5, hf⟩ := gcase hf ho
  refine g_newa (q := 16) (N' := 12) C dX2_init_35 ai (by decide) (by decide) (by decide) ⟨Nat.le_of_ble_eq_true rfl, Nat.le_of_ble_eq_true rfl⟩ hq5 ?_
  refine g_putR (i := 7) (j := 7) C dX2_init_37 (gS_app (gS_app (gS_app hs2))) c2 gy2 rfl (by decide) f23 (fun _ h9 => h9) (Or.inr ⟨rfl, hnm, rfl⟩) (fun _ => ⟨rfl, rfl⟩) ?_
  refine g_aload_n C dX2_init_40 rfl rfl ?_
  refine g_iload_n C dX2_init_41 rfl rfl ?_
  refine g_putI (i := 0) (j := 0) C dX2_init_42 (gS_app (gS_app (gS_app hs2))) c2 gy2 rfl f26 (fun _ h9 => h9) (Or.inr ⟨rfl, hnm, rfl⟩) rfl ?_
  refine g_aload_n C dX2_init_45 rfl rfl ?_
  refine g_iload_n C dX2_init_46 rfl rfl ?_
  refine g_putI (i := 1) (j := 1) C dX2_init_47 (gS_app (gS_app (gS_app hs2))) c2 gy2 rfl f30 (fun _ h9 => h9) (Or.inr ⟨rfl, hnm, rfl⟩) rfl ?_
  refine g_aload_n C dX2_init_50 rfl rfl ?_
  refine g_getR (i := 4) (j := 4) C dX2_init_51 (gS_app (gS_app (gS_app hs2))) c2 rfl (by decide) f9 (fun _ h9 => h9) rfl ?_
  refine g_iconst (v := 0) C dX2_init_54 (by decide) ?_
  refine g_iconst (v := 1) C dX2_init_55 (by decide) ?_
  refine g_iast C dX2_init_56 (gS_app (gS_app (gS_app (gS_last hq1)))) ho hf (fun hf => ?_)
  refine g_iconst (v := 1) C dX2_init_57 (by decide) ?_
  refine g_istore_n C dX2_init_58 rfl (Nat.le_of_ble_eq_true rfl) rfl rfl ?_
  refine g_loop (fun z6 => [(0, .ref (X.1 + 6)), (1, .int a0), (2, .int a1), (3, .int z6.1)]) (fun z6 => z6.2) (fun r7 => [(0, .ref (X.1 + 6)), (1, .int a0), (2, .int a1)]) (fun r7 => r7) 90 hf ho (And.intro rfl (And.intro rfl (And.intro rfl (And.intro rfl trivial)))) rfl (fun r7 hf => ?_) (fun z6 o1 hf ho hkz6 hez6 => ?_)
  · refine g_aload_n C dX2_init_90 rfl rfl ?_
    refine g_aload_n C dX2_init_91 rfl rfl ?_
    refine g_getR (i := 4) (j := 4) C dX2_init_92 (gS_app (gS_app (gS_app hs2))) c2 rfl (by decide) f9 (fun _ h9 => h9) rfl ?_
    refine g_iload_n C dX2_init_95 rfl rfl ?_
    refine g_iald C dX2_init_96 (gS_app (gS_app (gS_app (gS_last hq1)))) ho hf (fun hf => ?_)
    refine g_putI (i := 2) (j := 2) C dX2_init_97 (gS_app (gS_app (gS_app hs2))) c2 gy2 rfl f33 (fun _ h9 => h9) (Or.inr ⟨rfl, hnm, rfl⟩) rfl ?_
    refine g_aload_n C dX2_init_100 rfl rfl ?_
    refine g_getS C dX2_init_101 hZm f36 ?_
    refine g_iload_n C dX2_init_104 rfl rfl ?_
    refine g_iconst (v := 2) C dX2_init_105 (by decide) ?_
    refine g_join (fun z8 => [(0, .ref (X.1 + 6)), (1, .int a0), (2, .int a1)]) (fun z8 => [.int z8, .ref tm, .ref (X.1 + 6)]) (fun z8 => gU r7 6 2 (r7 7 a1.toNatClampNeg)) 125 hf ho (fun z8 hf => ?_) (fun o1 hf ho hkz8 => ?_)
    · refine g_iload_n C dX2_init_125 rfl rfl ?_
      refine g_iadd C dX2_init_126 ?_
      refine g_iconst (v := 1) C dX2_init_127 (by decide) ?_
      refine g_isub C dX2_init_128 ?_
      refine g_ialdS C dX2_init_129 hTm ho hf (fun hf => ?_)
      refine g_putI (i := 3) (j := 3) C dX2_init_130 (gS_app (gS_app (gS_app hs2))) c2 gy2 rfl f39 (fun _ h9 => h9) (Or.inr ⟨rfl, hnm, rfl⟩) rfl ?_
      refine g_iconst (v := 0) C dX2_init_133 (by decide) ?_
      refine g_istore_n C dX2_init_134 rfl (Nat.le_of_ble_eq_true rfl) rfl rfl ?_
      obtain ⟨hL9, hf⟩ := gcase hf ho
      have hL9 := gLayb_ok (by decide) hL9
      refine g_loop (fun z10 => [(0, .ref (X.1 + 6)), (1, .int a0), (2, .int a1), (3, .int z10.1)]) (fun z10 => z10.2) (fun r11 => [(0, .ref (X.1 + 6)), (1, .int a0), (2, .int a1)]) (fun r11 => r11) 165 hf ho (And.intro rfl (And.intro rfl (And.intro rfl (And.intro rfl trivial)))) rfl (fun r11 hf => ?_) (fun z10 o1 hf ho hkz10 hez10 => ?_)
      · refine g_iload_n C dX2_init_165 rfl rfl ?_
        refine g_iconst (v := 1) C dX2_init_166 (by decide) ?_
        refine g_join (fun z13 => [(0, .ref (X.1 + 6)), (2, .int a1)]) (fun z13 => [.int z13.1]) (fun z13 => z13.2) 185 hf ho (fun z13 hf => ?_) (fun o1 hf ho hkz13 => ?_)
        · refine g_istore_n C dX2_init_185 rfl (Nat.le_of_ble_eq_true rfl) rfl rfl ?_
          refine g_iconst (v := 1) C dX2_init_186 (by decide) ?_
          refine g_istore C dX2_init_187 (Nat.le_of_ble_eq_true rfl) rfl rfl ?_
          refine g_iconst (v := 0) C dX2_init_189 (by decide) ?_
          refine g_istore C dX2_init_190 (Nat.le_of_ble_eq_true rfl) rfl rfl ?_
          refine g_loop (fun z15 => [(0, .ref (X.1 + 6)), (2, .int a1), (3, .int z13.1), (4, .int z15.1), (5, .int z15.2.1)]) (fun z15 => z15.2.2) (fun r16 => []) (fun r16 => r16) 226 hf ho (And.intro rfl (And.intro rfl (And.intro rfl (And.intro rfl (And.intro rfl trivial))))) rfl (fun r16 hf => ?_) (fun z15 o1 hf ho hkz15 hez15 => ?_)
          · obtain ⟨rfl, rfl, rfl⟩ := gs3 hf
            refine g_widen (k := 10) (n := 68) (Nat.le_of_ble_eq_true rfl) (Nat.le_of_ble_eq_true rfl) ?_
            exact g_vret C dX2_init_226 hr hlk
          · refine g_iload C dX2_init_192 rfl ?_
            refine g_iload_n C dX2_init_194 rfl rfl ?_
            refine g_icmp_ge (tgt := 226) C dX2_init_195 (by decide) hf (fun hf => ?_) (fun hf => ?_)
            · have hx := hez15 _ hf.symm
              refine g_sub ?_ hx
              exact trivial
            · refine g_aload_n C dX2_init_198 rfl rfl ?_
              refine g_iload C dX2_init_199 rfl ?_
              refine g_aload_n C dX2_init_201 rfl rfl ?_
              refine g_getR (i := 6) (j := 6) C dX2_init_202 (gS_app (gS_app (gS_app hs2))) c2 rfl (by decide) f20 (fun _ h9 => h9) rfl ?_
              refine g_iload C dX2_init_205 rfl ?_
              refine g_aaldG 1 (fun j => 10 + j) C dX2_init_207 (by decide) (L9 hL9 (by decide) (by decide)) rfl rfl (fun j hj => LG9 hL9 (by decide) (by decide) hj) ho hf (fun hj17 hf => ?_)
              obtain ⟨z18, hz18, hf⟩ := gbind hf ho
              refine g_callV C dX2_init_208 (m_X2_split l X N _ _ _  (gLay.sub hL9 (by decide) (by decide)) _ _ z18 hz18) gEin0 (cwV 2 C.2.2.2.2.1 gX2_init_X2_split rfl rfl rfl (by decide +kernel) ⟨Nat.le_of_ble_eq_true rfl, Nat.le_of_ble_eq_true rfl⟩) (gS_app (gS_app (gS_app hs2))) (by decide) rfl rfl rfl (Nat.le_of_ble_eq_true rfl) ⟨Nat.le_of_ble_eq_true rfl, Nat.le_of_ble_eq_true rfl⟩ ?_
              refine g_aload_n C dX2_init_211 rfl rfl ?_
              refine g_iload C dX2_init_212 rfl ?_
              refine g_iload_n C dX2_init_214 rfl rfl ?_
              obtain ⟨z19, hz19, hf⟩ := gbind hf ho
              refine g_callV C dX2_init_215 (m_X2_times l X N _ _ _  (gLay.sub hL9 (by decide) (by decide)) _ _ z19.1 z19.2 hz19) gEin0 (cwV 2 C.2.2.2.2.1 gX2_init_X2_times rfl rfl rfl (by decide +kernel) ⟨Nat.le_of_ble_eq_true rfl, Nat.le_of_ble_eq_true rfl⟩) (gS_app (gS_app (gS_app hs2))) (by decide) rfl rfl rfl (Nat.le_of_ble_eq_true rfl) ⟨Nat.le_of_ble_eq_true rfl, Nat.le_of_ble_eq_true rfl⟩ ?_
              refine g_istore C dX2_init_218 (Nat.le_of_ble_eq_true rfl) rfl rfl ?_
              refine g_iinc (d := 1) C dX2_init_220 rfl (by decide) rfl (Nat.le_of_ble_eq_true rfl) rfl rfl ?_
              refine g_goto (tgt := 192) C dX2_init_223 (by decide) ?_
              have hx := hkz15 _ hf.symm
              refine g_sub ?_ hx
              exact (And.intro rfl (And.intro rfl (And.intro rfl (And.intro rfl (And.intro rfl trivial)))))
        · refine g_icmp_ne (tgt := 174) C dX2_init_167 (by decide) hf (fun hf => ?_) (fun hf => ?_)
          · refine g_aload_n C dX2_init_174 rfl rfl ?_
            refine g_aload_n C dX2_init_175 rfl rfl ?_
            refine g_getR (i := 4) (j := 4) C dX2_init_176 (gS_app (gS_app (gS_app hs2))) c2 rfl (by decide) f9 (fun _ h9 => h9) rfl ?_
            refine g_iconst (v := 1) C dX2_init_179 (by decide) ?_
            refine g_iald C dX2_init_180 (gS_app (gS_app (gS_app (gS_last hq1)))) ho hf (fun hf => ?_)
            refine g_iload_n C dX2_init_181 rfl rfl ?_
            obtain ⟨z14, hz14, hf⟩ := gbind hf ho
            refine g_callV C dX2_init_182 (m_X2_power l X N _ _ _  (gLay.sub hL9 (by decide) (by decide)) _ _ z14.1 z14.2 hz14) gEin0 (cwV 2 C.2.2.2.2.1 gX2_init_X2_power rfl rfl rfl (by decide +kernel) ⟨Nat.le_of_ble_eq_true rfl, Nat.le_of_ble_eq_true rfl⟩) (gS_app (gS_app (gS_app hs2))) (by decide) rfl rfl rfl (Nat.le_of_ble_eq_true rfl) ⟨Nat.le_of_ble_eq_true rfl, Nat.le_of_ble_eq_true rfl⟩ ?_
            have hx := hkz13 _ hf.symm
            refine g_sub ?_ hx
            exact (And.intro rfl (And.intro rfl trivial))
          · refine g_iconst (v := 1) C dX2_init_170 (by decide) ?_
            refine g_goto (tgt := 185) C dX2_init_171 (by decide) ?_
            have hx := hkz13 _ hf.symm
            refine g_sub ?_ hx
            exact (And.intro rfl (And.intro rfl trivial))
      · refine g_iload_n C dX2_init_135 rfl rfl ?_
        refine g_iload_n C dX2_init_136 rfl rfl ?_
        refine g_icmp_ge (tgt := 165) C dX2_init_137 (by decide) hf (fun hf => ?_) (fun hf => ?_)
        · have hx := hez10 _ hf.symm
          refine g_sub ?_ hx
          exact (And.intro rfl (And.intro rfl (And.intro rfl trivial)))
        · refine g_aload_n C dX2_init_140 rfl rfl ?_
          refine g_getR (i := 5) (j := 5) C dX2_init_141 (gS_app (gS_app (gS_app hs2))) c2 rfl (by decide) f15 (fun _ h9 => h9) rfl ?_
          refine g_iload_n C dX2_init_144 rfl rfl ?_
          refine g_iload_n C dX2_init_145 rfl rfl ?_
          refine g_aload_n C dX2_init_146 rfl rfl ?_
          refine g_aload_n C dX2_init_147 rfl rfl ?_
          refine g_getI (i := 3) (j := 3) C dX2_init_148 (gS_app (gS_app (gS_app hs2))) c2 rfl f39 (fun _ h9 => h9) ?_
          refine g_iload_n C dX2_init_151 rfl rfl ?_
          obtain ⟨z12, hz12, hf⟩ := gbind hf ho
          refine g_callV C dX2_init_152 (m_X2_numberAt l X N _ _ _  (gLay.sub hL9 (by decide) (by decide)) _ _ z12 hz12) gEin0 (cwV 2 C.2.2.2.2.1 gX2_init_X2_numberAt rfl rfl rfl (by decide +kernel) ⟨Nat.le_of_ble_eq_true rfl, Nat.le_of_ble_eq_true rfl⟩) (gS_app (gS_app (gS_app hs2))) (by decide) rfl rfl rfl (Nat.le_of_ble_eq_true rfl) ⟨Nat.le_of_ble_eq_true rfl, Nat.le_of_ble_eq_true rfl⟩ ?_
          refine g_isub C dX2_init_155 ?_
          refine g_iload_n C dX2_init_156 rfl rfl ?_
          refine g_irem C dX2_init_157 ho hf (fun hf => ?_)
          refine g_iast C dX2_init_158 (gS_app (gS_app (gS_last hq3))) ho hf (fun hf => ?_)
          refine g_iinc (d := 1) C dX2_init_159 rfl (by decide) rfl (Nat.le_of_ble_eq_true rfl) rfl rfl ?_
          refine g_goto (tgt := 135) C dX2_init_162 (by decide) ?_
          have hx := hkz10 _ hf.symm
          refine g_sub ?_ hx
          exact (And.intro rfl (And.intro rfl (And.intro rfl (And.intro rfl trivial))))
    · refine g_icmp_ne (tgt := 113) C dX2_init_106 (by decide) hf (fun hf => ?_) (fun hf => ?_)
      · refine g_iload_n C dX2_init_113 rfl rfl ?_
        refine g_iconst (v := 3) C dX2_init_114 (by decide) ?_
        refine g_icmp_ne (tgt := 123) C dX2_init_115 (by decide) hf (fun hf => ?_) (fun hf => ?_)
        · refine g_bipush (v := 12) C dX2_init_123 (by decide) ?_
          have hx := hkz8 _ hf.symm
          refine g_sub ?_ hx
          exact (And.intro rfl (And.intro rfl (And.intro rfl trivial)))
        · refine g_bipush (v := 6) C dX2_init_118 (by decide) ?_
          refine g_goto (tgt := 125) C dX2_init_120 (by decide) ?_
          have hx := hkz8 _ hf.symm
          refine g_sub ?_ hx
          exact (And.intro rfl (And.intro rfl (And.intro rfl trivial)))
      · refine g_iconst (v := 0) C dX2_init_109 (by decide) ?_
        refine g_goto (tgt := 125) C dX2_init_110 (by decide) ?_
        have hx := hkz8 _ hf.symm
        refine g_sub ?_ hx
        exact (And.intro rfl (And.intro rfl (And.intro rfl trivial)))
  · refine g_iload_n C dX2_init_59 rfl rfl ?_
    refine g_aload_n C dX2_init_60 rfl rfl ?_
    refine g_getR (i := 4) (j := 4) C dX2_init_61 (gS_app (gS_app (gS_app hs2))) c2 rfl (by decide) f9 (fun _ h9 => h9) rfl ?_
    refine g_alen (k := 0) 0 (v := 8) C dX2_init_64 (gS_app (gS_app (gS_app (gS_last hq1)))) rfl (by decide) ?_
    refine g_icmp_ge (tgt := 90) C dX2_init_65 (by decide) hf (fun hf => ?_) (fun hf => ?_)
    · have hx := hez6 _ hf.symm
      refine g_sub ?_ hx
      exact (And.intro rfl (And.intro rfl (And.intro rfl trivial)))
    · refine g_aload_n C dX2_init_68 rfl rfl ?_
      refine g_getR (i := 4) (j := 4) C dX2_init_69 (gS_app (gS_app (gS_app hs2))) c2 rfl (by decide) f9 (fun _ h9 => h9) rfl ?_
      refine g_iload_n C dX2_init_72 rfl rfl ?_
      refine g_aload_n C dX2_init_73 rfl rfl ?_
      refine g_getR (i := 4) (j := 4) C dX2_init_74 (gS_app (gS_app (gS_app hs2))) c2 rfl (by decide) f9 (fun _ h9 => h9) rfl ?_
      refine g_iload_n C dX2_init_77 rfl rfl ?_
      refine g_iconst (v := 1) C dX2_init_78 (by decide) ?_
      refine g_isub C dX2_init_79 ?_
      refine g_iald C dX2_init_80 (gS_app (gS_app (gS_app (gS_last hq1)))) ho hf (fun hf => ?_)
      refine g_iload_n C dX2_init_81 rfl rfl ?_
      refine g_imul C dX2_init_82 ?_
      refine g_iast C dX2_init_83 (gS_app (gS_app (gS_app (gS_last hq1)))) ho hf (fun hf => ?_)
      refine g_iinc (d := 1) C dX2_init_84 rfl (by decide) rfl (Nat.le_of_ble_eq_true rfl) rfl rfl ?_
      refine g_goto (tgt := 59) C dX2_init_87 (by decide) ?_
      have hx := hkz6 _ hf.symm
      refine g_sub ?_ hx
      exact (And.intro rfl (And.intro rfl (And.intro rfl (And.intro rfl trivial))))
set_option maxRecDepth 100000 in
set_option maxHeartbeats 8000000 in
theorem m_X2_has (l : Launch) (X : gX) (N : Nat) (I : gI) (R : gR) (S : gS) (hL : gLay 6 17 R S) (a0 : Int32) (v : Int32) (hf : f_X2_has N I R S a0 = some v) : gM l yX2_has wsX2_has { frames := 0, cells := 0, slots := 0, locals := 0 } X gE0 [.ref (X.1 + 6), .int a0] I R S (some (.int v)) I R S 0 0 := by
  unfold f_X2_has at hf
  refine gM_of (cc := cX2_has) (own := RX2) (maxL := 2) (ret := (some .boolean)) (by decide) rfl rfl (Nat.le_of_ble_eq_true rfl) ?_
  intro p e s m args below meth c C hr hlk hnm hE
  have ho : (some v) ≠ none := fun h => by cases h
  have f33 := C.2.2.2.2.1 (.fieldLink RX2 33 "TimesByPowers$Field" "size" "I") (by decide +kernel)
  have c2 : gCl wsX2_has 2 RX2 TX2 8 := ⟨by decide, rfl, rfl, by decide +kernel⟩
  refine g_iload_n C dX2_has_0 rfl rfl ?_
  refine g_if_lt (tgt := 16) C dX2_has_1 (by decide) hf (fun hf => ?_) (fun hf => ?_)
  · refine g_iconst (v := 0) C dX2_has_16 (by decide) ?_
    obtain rfl := gs1 hf
    exact g_zret C dX2_has_17 hr hlk (by decide)
  · refine g_iload_n C dX2_has_4 rfl rfl ?_
    refine g_aload_n C dX2_has_5 rfl rfl ?_
    refine g_getI (i := 2) (j := 2) C dX2_has_6 (L6 hL (by decide) (by decide)) c2 rfl f33 (fun _ h9 => h9) ?_
    refine g_icmp_ge (tgt := 16) C dX2_has_9 (by decide) hf (fun hf => ?_) (fun hf => ?_)
    · refine g_iconst (v := 0) C dX2_has_16 (by decide) ?_
      obtain rfl := gs1 hf
      exact g_zret C dX2_has_17 hr hlk (by decide)
    · refine g_iconst (v := 1) C dX2_has_12 (by decide) ?_
      refine g_goto (tgt := 17) C dX2_has_13 (by decide) ?_
      obtain rfl := gs1 hf
      exact g_zret C dX2_has_17 hr hlk (by decide)
set_option maxRecDepth 100000 in
set_option maxHeartbeats 8000000 in
theorem m_X2_hasPolynomial (l : Launch) (X : gX) (N : Nat) (I : gI) (R : gR) (S : gS) (hL : gLay 6 17 R S) (a0 : Int32) (v : Int32) (hf : f_X2_hasPolynomial N I R S a0 = some v) : gM l yX2_hasPolynomial wsX2_hasPolynomial { frames := 0, cells := 0, slots := 0, locals := 0 } X gE0 [.ref (X.1 + 6), .int a0] I R S (some (.int v)) I R S 0 0 := by
  unfold f_X2_hasPolynomial at hf
  refine gM_of (cc := cX2_hasPolynomial) (own := RX2) (maxL := 2) (ret := (some .boolean)) (by decide) rfl rfl (Nat.le_of_ble_eq_true rfl) ?_
  intro p e s m args below meth c C hr hlk hnm hE
  have ho : (some v) ≠ none := fun h => by cases h
  have f9 := C.2.2.2.2.1 (.fieldLink RX2 9 "TimesByPowers$Field" "place" "[I") (by decide +kernel)
  have c2 : gCl wsX2_hasPolynomial 2 RX2 TX2 8 := ⟨by decide, rfl, rfl, by decide +kernel⟩
  refine g_iload_n C dX2_hasPolynomial_0 rfl rfl ?_
  refine g_if_lt (tgt := 19) C dX2_hasPolynomial_1 (by decide) hf (fun hf => ?_) (fun hf => ?_)
  · refine g_iconst (v := 0) C dX2_hasPolynomial_19 (by decide) ?_
    obtain rfl := gs1 hf
    exact g_zret C dX2_hasPolynomial_20 hr hlk (by decide)
  · refine g_iload_n C dX2_hasPolynomial_4 rfl rfl ?_
    refine g_aload_n C dX2_hasPolynomial_5 rfl rfl ?_
    refine g_getR (i := 4) (j := 4) C dX2_hasPolynomial_6 (L6 hL (by decide) (by decide)) c2 rfl (by decide) f9 (fun _ h9 => h9) (LR6_4 hL (by decide) (by decide)) ?_
    refine g_bipush (v := 7) C dX2_hasPolynomial_9 (by decide) ?_
    refine g_iald C dX2_hasPolynomial_11 (L7 hL (by decide) (by decide)) ho hf (fun hf => ?_)
    refine g_icmp_ge (tgt := 19) C dX2_hasPolynomial_12 (by decide) hf (fun hf => ?_) (fun hf => ?_)
    · refine g_iconst (v := 0) C dX2_hasPolynomial_19 (by decide) ?_
      obtain rfl := gs1 hf
      exact g_zret C dX2_hasPolynomial_20 hr hlk (by decide)
    · refine g_iconst (v := 1) C dX2_hasPolynomial_15 (by decide) ?_
      refine g_goto (tgt := 20) C dX2_hasPolynomial_16 (by decide) ?_
      obtain rfl := gs1 hf
      exact g_zret C dX2_hasPolynomial_20 hr hlk (by decide)
set_option maxRecDepth 100000 in
set_option maxHeartbeats 8000000 in
theorem m_X2_negative (l : Launch) (X : gX) (N : Nat) (I : gI) (R : gR) (S : gS) (hL : gLay 6 17 R S) (a0 : Int32) (v : Int32) (J : gI) (hf : f_X2_negative N I R S a0 = some (v, J)) : gM l yX2_negative wsX2_negative { frames := 1, cells := 0, slots := 0, locals := 24 } X gE0 [.ref (X.1 + 6), .int a0] I R S (some (.int v)) J R S 0 0 := by
  unfold f_X2_negative at hf
  refine gM_of (cc := cX2_negative) (own := RX2) (maxL := 2) (ret := (some .int)) (by decide) rfl rfl (Nat.le_of_ble_eq_true rfl) ?_
  intro p e s m args below meth c C hr hlk hnm hE
  have ho : (some (v, J)) ≠ none := fun h => by cases h
  have f26 := C.2.2.2.2.1 (.fieldLink RX2 26 "TimesByPowers$Field" "p" "I") (by decide +kernel)
  have c2 : gCl wsX2_negative 2 RX2 TX2 8 := ⟨by decide, rfl, rfl, by decide +kernel⟩
  refine g_aload_n C dX2_negative_0 rfl rfl ?_
  refine g_iload_n C dX2_negative_1 rfl rfl ?_
  refine g_aload_n C dX2_negative_2 rfl rfl ?_
  refine g_getI (i := 0) (j := 0) C dX2_negative_3 (L6 hL (by decide) (by decide)) c2 rfl f26 (fun _ h9 => h9) ?_
  refine g_iconst (v := 1) C dX2_negative_6 (by decide) ?_
  refine g_isub C dX2_negative_7 ?_
  obtain ⟨z1, hz1, hf⟩ := gbind hf ho
  refine g_callV C dX2_negative_8 (m_X2_addTimes l X N _ _ _  (gLay.sub hL (by decide) (by decide)) _ _ z1 hz1) gEin0 (cwV 2 C.2.2.2.2.1 gX2_negative_X2_addTimes rfl rfl rfl (by decide +kernel) ⟨Nat.le_of_ble_eq_true rfl, Nat.le_of_ble_eq_true rfl⟩) (L6 hL (by decide) (by decide)) (by decide) rfl rfl rfl (Nat.le_of_ble_eq_true rfl) ⟨Nat.le_of_ble_eq_true rfl, Nat.le_of_ble_eq_true rfl⟩ ?_
  refine g_aload_n C dX2_negative_11 rfl rfl ?_
  obtain ⟨z2, hz2, hf⟩ := gbind hf ho
  refine g_callV C dX2_negative_12 (m_X2_folded l X N _ _ _  (gLay.sub hL (by decide) (by decide))  z2.1 z2.2 hz2) gEin0 (cwV 0 C.2.2.2.2.1 gX2_negative_X2_folded rfl rfl rfl (by decide +kernel) ⟨Nat.le_of_ble_eq_true rfl, Nat.le_of_ble_eq_true rfl⟩) (L6 hL (by decide) (by decide)) (by decide) rfl rfl rfl (Nat.le_of_ble_eq_true rfl) ⟨Nat.le_of_ble_eq_true rfl, Nat.le_of_ble_eq_true rfl⟩ ?_
  obtain ⟨rfl, rfl⟩ := gs2 hf
  exact g_iret C dX2_negative_15 hr hlk
set_option maxRecDepth 100000 in
set_option maxHeartbeats 8000000 in
theorem m_X2_inverse (l : Launch) (X : gX) (N : Nat) (I : gI) (R : gR) (S : gS) (hL : gLay 6 17 R S) (a0 : Int32) (v : Int32) (J : gI) (hf : f_X2_inverse N I R S a0 = some (v, J)) : gM l yX2_inverse wsX2_inverse { frames := 3, cells := 0, slots := 0, locals := 74 } X gE0 [.ref (X.1 + 6), .int a0] I R S (some (.int v)) J R S 0 0 := by
  unfold f_X2_inverse at hf
  refine gM_of (cc := cX2_inverse) (own := RX2) (maxL := 2) (ret := (some .int)) (by decide) rfl rfl (Nat.le_of_ble_eq_true rfl) ?_
  intro p e s m args below meth c C hr hlk hnm hE
  have ho : (some (v, J)) ≠ none := fun h => by cases h
  have f33 := C.2.2.2.2.1 (.fieldLink RX2 33 "TimesByPowers$Field" "size" "I") (by decide +kernel)
  have c2 : gCl wsX2_inverse 2 RX2 TX2 8 := ⟨by decide, rfl, rfl, by decide +kernel⟩
  refine g_aload_n C dX2_inverse_0 rfl rfl ?_
  refine g_iload_n C dX2_inverse_1 rfl rfl ?_
  refine g_aload_n C dX2_inverse_2 rfl rfl ?_
  refine g_getI (i := 2) (j := 2) C dX2_inverse_3 (L6 hL (by decide) (by decide)) c2 rfl f33 (fun _ h9 => h9) ?_
  refine g_iconst (v := 2) C dX2_inverse_6 (by decide) ?_
  refine g_isub C dX2_inverse_7 ?_
  obtain ⟨z1, hz1, hf⟩ := gbind hf ho
  refine g_callV C dX2_inverse_8 (m_X2_power l X N _ _ _  (gLay.sub hL (by decide) (by decide)) _ _ z1.1 z1.2 hz1) gEin0 (cwV 2 C.2.2.2.2.1 gX2_inverse_X2_power rfl rfl rfl (by decide +kernel) ⟨Nat.le_of_ble_eq_true rfl, Nat.le_of_ble_eq_true rfl⟩) (L6 hL (by decide) (by decide)) (by decide) rfl rfl rfl (Nat.le_of_ble_eq_true rfl) ⟨Nat.le_of_ble_eq_true rfl, Nat.le_of_ble_eq_true rfl⟩ ?_
  obtain ⟨rfl, rfl⟩ := gs2 hf
  exact g_iret C dX2_inverse_11 hr hlk
set_option maxRecDepth 100000 in
set_option maxHeartbeats 8000000 in
theorem m_X3_init (l : Launch) (X : gX) (N : Nat) (I : gI) (R : gR) (S : gS) (w : Nat) (a0 : Nat) (a1 : Int32) (a2 : Int32) (J : gI) (P : gR) (T : gS) (hf : f_X3_init N I R S w a0 a1 a2 = some (J, P, T)) : gM l yX3_init wsX3_init { frames := 2, cells := 0, slots := 0, locals := 44 } X gE0 [.ref (X.1 + w), .ref (X.1 + a0), .int a1, .int a2] I R S none J P T 0 0 := by
  unfold f_X3_init at hf
  refine gM_of (cc := cX3_init) (own := RX3) (maxL := 4) (ret := none) (by decide) rfl rfl (Nat.le_of_ble_eq_true rfl) ?_
  intro p e s m args below meth c C hr hlk hnm hE
  have ho : (some (J, P, T)) ≠ none := fun h => by cases h
  have niX10 := C.2.2.2.2.1 (.initialized RX10) (by decide +kernel)
  have imX10 := C.2.2.2.2.1 (.instanceMethod yX10_init) (by decide +kernel)
  have m1 := C.2.2.2.2.1 (.methodLink RX3 1 yX10_init) (by decide +kernel)
  obtain ⟨hk, hf⟩ := gcase hf ho
  refine g_aload_n C dX3_init_0 rfl rfl ?_
  refine g_aload_n C dX3_init_1 rfl rfl ?_
  refine g_iconst (v := 1) C dX3_init_2 (by decide) ?_
  refine g_iload_n C dX3_init_3 rfl rfl ?_
  refine g_iload_n C dX3_init_4 rfl rfl ?_
  obtain ⟨z1, hz1, hf⟩ := gbind hf ho
  refine g_callI C dX3_init_5 (m_X10_init l X N _ _ _   _ _ _ _ _ z1.1 z1.2.1 z1.2.2 hz1) gEin0 (cwI 4 C.2.2.2.2.1 gX3_init_X10_init rfl rfl rfl niX10 m1 imX10 rfl (by decide +kernel) ⟨Nat.le_of_ble_eq_true rfl, Nat.le_of_ble_eq_true rfl⟩) rfl rfl (Nat.le_of_ble_eq_true rfl) ⟨Nat.le_of_ble_eq_true rfl, Nat.le_of_ble_eq_true rfl⟩ ?_
  obtain ⟨rfl, rfl, rfl⟩ := gs3 hf
  exact g_vret C dX3_init_8 hr hlk
set_option maxRecDepth 100000 in
set_option maxHeartbeats 8000000 in
theorem m_X3_kindTold (l : Launch) (X : gX) (N : Nat) (I : gI) (R : gR) (S : gS) (w : Nat) (v : Int32) (hf : f_X3_kindTold N I R S w = some v) : gM l yX3_kindTold wsX3_kindTold { frames := 0, cells := 0, slots := 0, locals := 0 } X gE0 [.ref (X.1 + w)] I R S (some (.int v)) I R S 0 0 := by
  unfold f_X3_kindTold at hf
  refine gM_of (cc := cX3_kindTold) (own := RX3) (maxL := 1) (ret := (some .int)) (by decide) rfl rfl (Nat.le_of_ble_eq_true rfl) ?_
  intro p e s m args below meth c C hr hlk hnm hE
  have ho : (some v) ≠ none := fun h => by cases h
  obtain ⟨hk, hf⟩ := gcase hf ho
  refine g_iconst (v := 1) C dX3_kindTold_0 (by decide) ?_
  obtain rfl := gs1 hf
  exact g_iret C dX3_kindTold_1 hr hlk
set_option maxRecDepth 100000 in
set_option maxHeartbeats 8000000 in
theorem m_X4_init (l : Launch) (X : gX) (N : Nat) (I : gI) (R : gR) (S : gS) (w : Nat) (a0 : Nat) (a1 : Int32) (a2 : Int32) (a3 : Int32) (J : gI) (P : gR) (T : gS) (hf : f_X4_init N I R S w a0 a1 a2 a3 = some (J, P, T)) : gM l yX4_init wsX4_init { frames := 2, cells := 0, slots := 0, locals := 44 } X gE0 [.ref (X.1 + w), .ref (X.1 + a0), .int a1, .int a2, .int a3] I R S none J P T 0 0 := by
  unfold f_X4_init at hf
  refine gM_of (cc := cX4_init) (own := RX4) (maxL := 5) (ret := none) (by decide) rfl rfl (Nat.le_of_ble_eq_true rfl) ?_
  intro p e s m args below meth c C hr hlk hnm hE
  have ho : (some (J, P, T)) ≠ none := fun h => by cases h
  have niX10 := C.2.2.2.2.1 (.initialized RX10) (by decide +kernel)
  have imX10 := C.2.2.2.2.1 (.instanceMethod yX10_init) (by decide +kernel)
  have m1 := C.2.2.2.2.1 (.methodLink RX4 1 yX10_init) (by decide +kernel)
  have f7 := C.2.2.2.2.1 (.fieldLink RX4 7 "TimesByPowers$Pair" "mark" "I") (by decide +kernel)
  have c4 : gCl wsX4_init 4 RX4 TX4 5 := ⟨by decide, rfl, rfl, by decide +kernel⟩
  have c7 : gCl wsX4_init 7 RX7 TX7 5 := ⟨by decide, rfl, rfl, by decide +kernel⟩
  obtain ⟨hk, hf⟩ := gcase hf ho
  rcases hk with hk | hk
  · refine g_aload_n C dX4_init_0 rfl rfl ?_
    refine g_aload_n C dX4_init_1 rfl rfl ?_
    refine g_iconst (v := 2) C dX4_init_2 (by decide) ?_
    refine g_iload_n C dX4_init_3 rfl rfl ?_
    refine g_iload_n C dX4_init_4 rfl rfl ?_
    obtain ⟨z1, hz1, hf⟩ := gbind hf ho
    refine g_callI C dX4_init_5 (m_X10_init l X N _ _ _   _ _ _ _ _ z1.1 z1.2.1 z1.2.2 hz1) gEin0 (cwI 4 C.2.2.2.2.1 gX4_init_X10_init rfl rfl rfl niX10 m1 imX10 rfl (by decide +kernel) ⟨Nat.le_of_ble_eq_true rfl, Nat.le_of_ble_eq_true rfl⟩) rfl rfl (Nat.le_of_ble_eq_true rfl) ⟨Nat.le_of_ble_eq_true rfl, Nat.le_of_ble_eq_true rfl⟩ ?_
    refine g_aload_n C dX4_init_8 rfl rfl ?_
    refine g_iload C dX4_init_9 rfl ?_
    obtain ⟨hg2, hf⟩ := gcase hf ho
    refine g_putI (i := 4) (j := 4) C dX4_init_11 (hg2.trans hk) c4 gy4 rfl f7 (fun _ h9 => h9) (Or.inr ⟨rfl, hnm, rfl⟩) rfl ?_
    obtain ⟨rfl, rfl, rfl⟩ := gs3 hf
    exact g_vret C dX4_init_14 hr hlk
  · refine g_aload_n C dX4_init_0 rfl rfl ?_
    refine g_aload_n C dX4_init_1 rfl rfl ?_
    refine g_iconst (v := 2) C dX4_init_2 (by decide) ?_
    refine g_iload_n C dX4_init_3 rfl rfl ?_
    refine g_iload_n C dX4_init_4 rfl rfl ?_
    obtain ⟨z1, hz1, hf⟩ := gbind hf ho
    refine g_callI C dX4_init_5 (m_X10_init l X N _ _ _   _ _ _ _ _ z1.1 z1.2.1 z1.2.2 hz1) gEin0 (cwI 4 C.2.2.2.2.1 gX4_init_X10_init rfl rfl rfl niX10 m1 imX10 rfl (by decide +kernel) ⟨Nat.le_of_ble_eq_true rfl, Nat.le_of_ble_eq_true rfl⟩) rfl rfl (Nat.le_of_ble_eq_true rfl) ⟨Nat.le_of_ble_eq_true rfl, Nat.le_of_ble_eq_true rfl⟩ ?_
    refine g_aload_n C dX4_init_8 rfl rfl ?_
    refine g_iload C dX4_init_9 rfl ?_
    obtain ⟨hg2, hf⟩ := gcase hf ho
    refine g_putI (i := 0) (j := 4) C dX4_init_11 (hg2.trans hk) c7 gy7 rfl f7 (fun _ h9 => h9) (Or.inr ⟨rfl, hnm, rfl⟩) rfl ?_
    obtain ⟨rfl, rfl, rfl⟩ := gs3 hf
    exact g_vret C dX4_init_14 hr hlk
set_option maxRecDepth 100000 in
set_option maxHeartbeats 8000000 in
theorem m_X4_kindTold (l : Launch) (X : gX) (N : Nat) (I : gI) (R : gR) (S : gS) (w : Nat) (v : Int32) (hf : f_X4_kindTold N I R S w = some v) : gM l yX4_kindTold wsX4_kindTold { frames := 0, cells := 0, slots := 0, locals := 0 } X gE0 [.ref (X.1 + w)] I R S (some (.int v)) I R S 0 0 := by
  unfold f_X4_kindTold at hf
  refine gM_of (cc := cX4_kindTold) (own := RX4) (maxL := 1) (ret := (some .int)) (by decide) rfl rfl (Nat.le_of_ble_eq_true rfl) ?_
  intro p e s m args below meth c C hr hlk hnm hE
  have ho : (some v) ≠ none := fun h => by cases h
  obtain ⟨hk, hf⟩ := gcase hf ho
  rcases hk with hk | hk
  · refine g_iconst (v := 2) C dX4_kindTold_0 (by decide) ?_
    obtain rfl := gs1 hf
    exact g_iret C dX4_kindTold_1 hr hlk
  · refine g_iconst (v := 2) C dX4_kindTold_0 (by decide) ?_
    obtain rfl := gs1 hf
    exact g_iret C dX4_kindTold_1 hr hlk
set_option maxRecDepth 100000 in
set_option maxHeartbeats 8000000 in
theorem m_X5_init (l : Launch) (X : gX) (N : Nat) (I : gI) (R : gR) (S : gS) (q : Nat) (J : gI) (P : gR) (T : gS) (hf : f_X5_init N I R S q = some (J, P, T)) : gM l yX5_init wsX5_init { frames := 1, cells := 1, slots := 24, locals := 20 } X gE0 [.ref (X.1 + q)] I R S none J P T 1 24 := by
  unfold f_X5_init at hf
  refine gM_of (cc := cX5_init) (own := RX5) (maxL := 1) (ret := none) (by decide) rfl rfl (Nat.le_of_ble_eq_true rfl) ?_
  intro p e s m args below meth c C hr hlk hnm hE
  have ho : (some (J, P, T)) ≠ none := fun h => by cases h
  have m3 := C.2.2.2.2.1 (.methodLink RX5 3 objectInit) (by decide +kernel)
  have oi := C.2.2.2.2.1 (.instanceMethod objectInit) (by decide +kernel)
  have oc := C.2.2.2.2.1 (.code objectInit ⟨#[0xb1]⟩ 1 none) (by first | exact List.mem_cons_of_mem _ (List.mem_append_left _ (List.mem_of_getElem? (i := 2) rfl)) | decide +kernel)
  have ai := C.2.2.2.2.1 (.arrayClass .int) (by decide +kernel)
  have f9 := C.2.2.2.2.1 (.fieldLink RX5 9 "TimesByPowers$Row" "items" "[I") (by decide +kernel)
  have c5 : gCl wsX5_init 5 RX5 TX5 3 := ⟨by decide, rfl, rfl, by decide +kernel⟩
  have f15 := C.2.2.2.2.1 (.fieldLink RX5 15 "TimesByPowers$Row" "lane" "I") (by decide +kernel)
  have f19 := C.2.2.2.2.1 (.fieldLink RX5 19 "TimesByPowers$Row" "size" "I") (by decide +kernel)
  obtain ⟨hq0, hf⟩ := gcase hf ho
  refine g_aload_n C dX5_init_0 rfl rfl ?_
  refine g_objInit C dX5_init_1 m3 oi oc (Nat.le_of_ble_eq_true rfl) (Nat.le_of_ble_eq_true rfl) ?_
  refine g_aload_n C dX5_init_4 rfl rfl ?_
  refine g_bipush (v := 24) C dX5_init_5 (by decide) ?_
  obtain ⟨hq1, hf⟩ := gcase hf ho
  refine g_newa (q := (q + 1)) (N' := 24) C dX5_init_7 ai (by decide) (by decide) (by decide) ⟨Nat.le_of_ble_eq_true rfl, Nat.le_of_ble_eq_true rfl⟩ hq1 ?_
  refine g_putR (i := 0) (j := 0) C dX5_init_9 (gS_app hq0) c5 gy5 rfl (by decide) f9 (fun _ h9 => h9) (Or.inr ⟨rfl, hnm, rfl⟩) (fun _ => ⟨rfl, rfl⟩) ?_
  refine g_aload_n C dX5_init_12 rfl rfl ?_
  refine g_iconst (v := 0) C dX5_init_13 (by decide) ?_
  refine g_putI (i := 1) (j := 1) C dX5_init_14 (gS_app hq0) c5 gy5 rfl f15 (fun _ h9 => h9) (Or.inl rfl) rfl ?_
  refine g_aload_n C dX5_init_17 rfl rfl ?_
  refine g_iconst (v := -1) C dX5_init_18 (by decide) ?_
  refine g_putI (i := 2) (j := 2) C dX5_init_19 (gS_app hq0) c5 gy5 rfl f19 (fun _ h9 => h9) (Or.inl rfl) rfl ?_
  obtain ⟨rfl, rfl, rfl⟩ := gs3 hf
  refine g_widen (k := 1) (n := 24) (Nat.le_of_ble_eq_true rfl) (Nat.le_of_ble_eq_true rfl) ?_
  exact g_vret C dX5_init_22 hr hlk
set_option maxRecDepth 100000 in
set_option maxHeartbeats 8000000 in
theorem m_X5_isMissing (l : Launch) (X : gX) (N : Nat) (I : gI) (R : gR) (S : gS) (q : Nat) (hq : S[q]? = some (5, 3) ∧ R q 0 = some (q + 1) ∧ S[q + 1]? = some (12, 24)) (v : Int32) (hf : f_X5_isMissing N I R S q = some v) : gM l yX5_isMissing wsX5_isMissing { frames := 0, cells := 0, slots := 0, locals := 0 } X gE0 [.ref (X.1 + q)] I R S (some (.int v)) I R S 0 0 := by
  unfold f_X5_isMissing at hf
  refine gM_of (cc := cX5_isMissing) (own := RX5) (maxL := 1) (ret := (some .boolean)) (by decide) rfl rfl (Nat.le_of_ble_eq_true rfl) ?_
  intro p e s m args below meth c C hr hlk hnm hE
  have ho : (some v) ≠ none := fun h => by cases h
  have f19 := C.2.2.2.2.1 (.fieldLink RX5 19 "TimesByPowers$Row" "size" "I") (by decide +kernel)
  have c5 : gCl wsX5_isMissing 5 RX5 TX5 3 := ⟨by decide, rfl, rfl, by decide +kernel⟩
  refine g_aload_n C dX5_isMissing_0 rfl rfl ?_
  refine g_getI (i := 2) (j := 2) C dX5_isMissing_1 (hq).1 c5 rfl f19 (fun _ h9 => h9) ?_
  refine g_iconst (v := -1) C dX5_isMissing_4 (by decide) ?_
  refine g_icmp_ne (tgt := 12) C dX5_isMissing_5 (by decide) hf (fun hf => ?_) (fun hf => ?_)
  · refine g_iconst (v := 0) C dX5_isMissing_12 (by decide) ?_
    obtain rfl := gs1 hf
    exact g_zret C dX5_isMissing_13 hr hlk (by decide)
  · refine g_iconst (v := 1) C dX5_isMissing_8 (by decide) ?_
    refine g_goto (tgt := 13) C dX5_isMissing_9 (by decide) ?_
    obtain rfl := gs1 hf
    exact g_zret C dX5_isMissing_13 hr hlk (by decide)
set_option maxRecDepth 100000 in
set_option maxHeartbeats 8000000 in
theorem m_X5_hasItems (l : Launch) (X : gX) (N : Nat) (I : gI) (R : gR) (S : gS) (q : Nat) (a0 : Int32) (a1 : Int32) (hq : S[q]? = some (5, 3) ∧ R q 0 = some (q + 1) ∧ S[q + 1]? = some (12, 24)) (v : Int32) (hf : f_X5_hasItems N I R S q a0 a1 = some v) : gM l yX5_hasItems wsX5_hasItems { frames := 0, cells := 0, slots := 0, locals := 0 } X gE0 [.ref (X.1 + q), .int a0, .int a1] I R S (some (.int v)) I R S 0 0 := by
  unfold f_X5_hasItems at hf
  refine gM_of (cc := cX5_hasItems) (own := RX5) (maxL := 3) (ret := (some .boolean)) (by decide) rfl rfl (Nat.le_of_ble_eq_true rfl) ?_
  intro p e s m args below meth c C hr hlk hnm hE
  have ho : (some v) ≠ none := fun h => by cases h
  have f19 := C.2.2.2.2.1 (.fieldLink RX5 19 "TimesByPowers$Row" "size" "I") (by decide +kernel)
  have c5 : gCl wsX5_hasItems 5 RX5 TX5 3 := ⟨by decide, rfl, rfl, by decide +kernel⟩
  refine g_iload_n C dX5_hasItems_0 rfl rfl ?_
  refine g_if_lt (tgt := 30) C dX5_hasItems_1 (by decide) hf (fun hf => ?_) (fun hf => ?_)
  · refine g_iconst (v := 0) C dX5_hasItems_30 (by decide) ?_
    obtain rfl := gs1 hf
    exact g_zret C dX5_hasItems_31 hr hlk (by decide)
  · refine g_iload_n C dX5_hasItems_4 rfl rfl ?_
    refine g_if_lt (tgt := 30) C dX5_hasItems_5 (by decide) hf (fun hf => ?_) (fun hf => ?_)
    · refine g_iconst (v := 0) C dX5_hasItems_30 (by decide) ?_
      obtain rfl := gs1 hf
      exact g_zret C dX5_hasItems_31 hr hlk (by decide)
    · refine g_iload_n C dX5_hasItems_8 rfl rfl ?_
      refine g_aload_n C dX5_hasItems_9 rfl rfl ?_
      refine g_getI (i := 2) (j := 2) C dX5_hasItems_10 (hq).1 c5 rfl f19 (fun _ h9 => h9) ?_
      refine g_icmp_gt (tgt := 30) C dX5_hasItems_13 (by decide) hf (fun hf => ?_) (fun hf => ?_)
      · refine g_iconst (v := 0) C dX5_hasItems_30 (by decide) ?_
        obtain rfl := gs1 hf
        exact g_zret C dX5_hasItems_31 hr hlk (by decide)
      · refine g_iload_n C dX5_hasItems_16 rfl rfl ?_
        refine g_aload_n C dX5_hasItems_17 rfl rfl ?_
        refine g_getI (i := 2) (j := 2) C dX5_hasItems_18 (hq).1 c5 rfl f19 (fun _ h9 => h9) ?_
        refine g_iload_n C dX5_hasItems_21 rfl rfl ?_
        refine g_isub C dX5_hasItems_22 ?_
        refine g_icmp_gt (tgt := 30) C dX5_hasItems_23 (by decide) hf (fun hf => ?_) (fun hf => ?_)
        · refine g_iconst (v := 0) C dX5_hasItems_30 (by decide) ?_
          obtain rfl := gs1 hf
          exact g_zret C dX5_hasItems_31 hr hlk (by decide)
        · refine g_iconst (v := 1) C dX5_hasItems_26 (by decide) ?_
          refine g_goto (tgt := 31) C dX5_hasItems_27 (by decide) ?_
          obtain rfl := gs1 hf
          exact g_zret C dX5_hasItems_31 hr hlk (by decide)
set_option maxRecDepth 100000 in
set_option maxHeartbeats 8000000 in
theorem m_X5_begin (l : Launch) (X : gX) (N : Nat) (I : gI) (R : gR) (S : gS) (q : Nat) (a0 : Int32) (a1 : Int32) (hq : S[q]? = some (5, 3) ∧ R q 0 = some (q + 1) ∧ S[q + 1]? = some (12, 24)) (J : gI) (hf : f_X5_begin N I R S q a0 a1 = some J) : gM l yX5_begin wsX5_begin { frames := 1, cells := 0, slots := 0, locals := 23 } X gE0 [.ref (X.1 + q), .int a0, .int a1] I R S none J R S 0 0 := by
  unfold f_X5_begin at hf
  refine gM_of (cc := cX5_begin) (own := RX5) (maxL := 3) (ret := none) (by decide) rfl rfl (Nat.le_of_ble_eq_true rfl) ?_
  intro p e s m args below meth c C hr hlk hnm hE
  have ho : (some J) ≠ none := fun h => by cases h
  have f9 := C.2.2.2.2.1 (.fieldLink RX5 9 "TimesByPowers$Row" "items" "[I") (by decide +kernel)
  have c5 : gCl wsX5_begin 5 RX5 TX5 3 := ⟨by decide, rfl, rfl, by decide +kernel⟩
  have f15 := C.2.2.2.2.1 (.fieldLink RX5 15 "TimesByPowers$Row" "lane" "I") (by decide +kernel)
  have f19 := C.2.2.2.2.1 (.fieldLink RX5 19 "TimesByPowers$Row" "size" "I") (by decide +kernel)
  refine g_aload_n C dX5_begin_0 rfl rfl ?_
  refine g_getR (i := 0) (j := 0) C dX5_begin_1 (hq).1 c5 rfl (by decide) f9 (fun _ h9 => h9) (hq).2.1 ?_
  refine g_iconst (v := 0) C dX5_begin_4 (by decide) ?_
  obtain ⟨z1, hz1, hf⟩ := gbind hf ho
  refine g_callS C dX5_begin_5 (m_J7_fill_53178 l X N _ _ _   _ _ z1 hz1) gEin0 (va_cwS 2 C.2.2.2.2.1 gX5_begin_J7_fill_53178 rfl rfl rfl (by decide +kernel) ⟨Nat.le_of_ble_eq_true rfl, Nat.le_of_ble_eq_true rfl⟩) rfl rfl (Nat.le_of_ble_eq_true rfl) ⟨Nat.le_of_ble_eq_true rfl, Nat.le_of_ble_eq_true rfl⟩ ?_
  refine g_aload_n C dX5_begin_8 rfl rfl ?_
  refine g_iload_n C dX5_begin_9 rfl rfl ?_
  refine g_putI (i := 1) (j := 1) C dX5_begin_10 (hq).1 c5 gy5 rfl f15 (fun _ h9 => h9) (Or.inl rfl) rfl ?_
  refine g_aload_n C dX5_begin_13 rfl rfl ?_
  refine g_iload_n C dX5_begin_14 rfl rfl ?_
  refine g_putI (i := 2) (j := 2) C dX5_begin_15 (hq).1 c5 gy5 rfl f19 (fun _ h9 => h9) (Or.inl rfl) rfl ?_
  obtain rfl := gs1 hf
  exact g_vret C dX5_begin_18 hr hlk
set_option maxRecDepth 100000 in
set_option maxHeartbeats 8000000 in
theorem m_X5_put (l : Launch) (X : gX) (N : Nat) (I : gI) (R : gR) (S : gS) (q : Nat) (a0 : Int32) (a1 : Int32) (hq : S[q]? = some (5, 3) ∧ R q 0 = some (q + 1) ∧ S[q + 1]? = some (12, 24)) (v : Int32) (J : gI) (hf : f_X5_put N I R S q a0 a1 = some (v, J)) : gM l yX5_put wsX5_put { frames := 0, cells := 0, slots := 0, locals := 0 } X gE0 [.ref (X.1 + q), .int a0, .int a1] I R S (some (.int v)) J R S 0 0 := by
  unfold f_X5_put at hf
  refine gM_of (cc := cX5_put) (own := RX5) (maxL := 3) (ret := (some .int)) (by decide) rfl rfl (Nat.le_of_ble_eq_true rfl) ?_
  intro p e s m args below meth c C hr hlk hnm hE
  have ho : (some (v, J)) ≠ none := fun h => by cases h
  have f9 := C.2.2.2.2.1 (.fieldLink RX5 9 "TimesByPowers$Row" "items" "[I") (by decide +kernel)
  have c5 : gCl wsX5_put 5 RX5 TX5 3 := ⟨by decide, rfl, rfl, by decide +kernel⟩
  have f15 := C.2.2.2.2.1 (.fieldLink RX5 15 "TimesByPowers$Row" "lane" "I") (by decide +kernel)
  refine g_aload_n C dX5_put_0 rfl rfl ?_
  refine g_getR (i := 0) (j := 0) C dX5_put_1 (hq).1 c5 rfl (by decide) f9 (fun _ h9 => h9) (hq).2.1 ?_
  refine g_iload_n C dX5_put_4 rfl rfl ?_
  refine g_aload_n C dX5_put_5 rfl rfl ?_
  refine g_getI (i := 1) (j := 1) C dX5_put_6 (hq).1 c5 rfl f15 (fun _ h9 => h9) ?_
  refine g_if_ne (tgt := 17) C dX5_put_9 (by decide) hf (fun hf => ?_) (fun hf => ?_)
  · refine g_aload_n C dX5_put_17 rfl rfl ?_
    refine g_getI (i := 1) (j := 1) C dX5_put_18 (hq).1 c5 rfl f15 (fun _ h9 => h9) ?_
    refine g_iconst (v := 1) C dX5_put_21 (by decide) ?_
    refine g_icmp_ne (tgt := 30) C dX5_put_22 (by decide) hf (fun hf => ?_) (fun hf => ?_)
    · refine g_iload_n C dX5_put_30 rfl rfl ?_
      refine g_iast C dX5_put_31 (hq).2.2 ho hf (fun hf => ?_)
      refine g_aload_n C dX5_put_32 rfl rfl ?_
      refine g_getR (i := 0) (j := 0) C dX5_put_33 (hq).1 c5 rfl (by decide) f9 (fun _ h9 => h9) (hq).2.1 ?_
      refine g_iload_n C dX5_put_36 rfl rfl ?_
      refine g_iald C dX5_put_37 (hq).2.2 ho hf (fun hf => ?_)
      obtain ⟨rfl, rfl⟩ := gs2 hf
      exact g_iret C dX5_put_38 hr hlk
    · refine g_iload_n C dX5_put_25 rfl rfl ?_
      refine g_i2s C dX5_put_26 ?_
      refine g_goto (tgt := 31) C dX5_put_27 (by decide) ?_
      refine g_iast C dX5_put_31 (hq).2.2 ho hf (fun hf => ?_)
      refine g_aload_n C dX5_put_32 rfl rfl ?_
      refine g_getR (i := 0) (j := 0) C dX5_put_33 (hq).1 c5 rfl (by decide) f9 (fun _ h9 => h9) (hq).2.1 ?_
      refine g_iload_n C dX5_put_36 rfl rfl ?_
      refine g_iald C dX5_put_37 (hq).2.2 ho hf (fun hf => ?_)
      obtain ⟨rfl, rfl⟩ := gs2 hf
      exact g_iret C dX5_put_38 hr hlk
  · refine g_iload_n C dX5_put_12 rfl rfl ?_
    refine g_i2b C dX5_put_13 ?_
    refine g_goto (tgt := 31) C dX5_put_14 (by decide) ?_
    refine g_iast C dX5_put_31 (hq).2.2 ho hf (fun hf => ?_)
    refine g_aload_n C dX5_put_32 rfl rfl ?_
    refine g_getR (i := 0) (j := 0) C dX5_put_33 (hq).1 c5 rfl (by decide) f9 (fun _ h9 => h9) (hq).2.1 ?_
    refine g_iload_n C dX5_put_36 rfl rfl ?_
    refine g_iald C dX5_put_37 (hq).2.2 ho hf (fun hf => ?_)
    obtain ⟨rfl, rfl⟩ := gs2 hf
    exact g_iret C dX5_put_38 hr hlk
set_option maxRecDepth 100000 in
set_option maxHeartbeats 8000000 in
theorem m_X5_end (l : Launch) (X : gX) (N : Nat) (I : gI) (R : gR) (S : gS) (q : Nat) (hq : S[q]? = some (5, 3) ∧ R q 0 = some (q + 1) ∧ S[q + 1]? = some (12, 24)) (v : Int32) (J : gI) (hf : f_X5_end N I R S q = some (v, J)) : gM l yX5_end wsX5_end { frames := 0, cells := 0, slots := 0, locals := 0 } X gE0 [.ref (X.1 + q)] I R S (some (.int v)) J R S 0 0 := by
  unfold f_X5_end at hf
  refine gM_of (cc := cX5_end) (own := RX5) (maxL := 2) (ret := (some .int)) (by decide) rfl rfl (Nat.le_of_ble_eq_true rfl) ?_
  intro p e s m args below meth c C hr hlk hnm hE
  have ho : (some (v, J)) ≠ none := fun h => by cases h
  have f19 := C.2.2.2.2.1 (.fieldLink RX5 19 "TimesByPowers$Row" "size" "I") (by decide +kernel)
  have c5 : gCl wsX5_end 5 RX5 TX5 3 := ⟨by decide, rfl, rfl, by decide +kernel⟩
  refine g_aload_n C dX5_end_0 rfl rfl ?_
  refine g_getI (i := 2) (j := 2) C dX5_end_1 (hq).1 c5 rfl f19 (fun _ h9 => h9) ?_
  refine g_istore_n C dX5_end_4 rfl (Nat.le_of_ble_eq_true rfl) rfl rfl ?_
  refine g_aload_n C dX5_end_5 rfl rfl ?_
  refine g_iconst (v := -1) C dX5_end_6 (by decide) ?_
  refine g_putI (i := 2) (j := 2) C dX5_end_7 (hq).1 c5 gy5 rfl f19 (fun _ h9 => h9) (Or.inl rfl) rfl ?_
  refine g_iload_n C dX5_end_10 rfl rfl ?_
  obtain ⟨rfl, rfl⟩ := gs2 hf
  exact g_iret C dX5_end_11 hr hlk
set_option maxRecDepth 100000 in
set_option maxHeartbeats 8000000 in
theorem m_X6_init (l : Launch) (X : gX) (N : Nat) (I : gI) (R : gR) (S : gS) (tm : Nat)  (J : gI) (P : gR) (T : gS) (hf : f_X6_init N I R S  = some (J, P, T)) : gM l yX6_init wsX6_init { frames := 1, cells := 19, slots := 365, locals := 20 } X (gEC X tm) [.ref (X.1 + 17), .ref (X.1 + 6)] I R S none J P T 19 365 := by
  unfold f_X6_init at hf
  refine gM_of (cc := cX6_init) (own := RX6) (maxL := 2) (ret := none) (by decide) rfl rfl (Nat.le_of_ble_eq_true rfl) ?_
  intro p e s m args below meth c C hr hlk hnm hE
  have ho : (some (J, P, T)) ≠ none := fun h => by cases h
  have hZm := hE.2.2.2.1
  have hTm := hE.2.2.2.2.1
  have m3 := C.2.2.2.2.1 (.methodLink RX6 3 objectInit) (by decide +kernel)
  have oi := C.2.2.2.2.1 (.instanceMethod objectInit) (by decide +kernel)
  have oc := C.2.2.2.2.1 (.code objectInit ⟨#[0xb1]⟩ 1 none) (by first | exact List.mem_cons_of_mem _ (List.mem_append_left _ (List.mem_of_getElem? (i := 2) rfl)) | decide +kernel)
  have ai := C.2.2.2.2.1 (.arrayClass .int) (by decide +kernel)
  have f11 := C.2.2.2.2.1 (.fieldLink RX6 11 "TimesByPowers$Span" "vector" "[I") (by decide +kernel)
  have c6 : gCl wsX6_init 6 RX6 TX6 10 := ⟨by decide, rfl, rfl, by decide +kernel⟩
  have f15 := C.2.2.2.2.1 (.fieldLink RX6 15 "TimesByPowers$Span" "mix" "[I") (by decide +kernel)
  have cl18 := C.2.2.2.2.1 (.classLink RX6 18 "[[I") (by decide +kernel)
  have f20 := C.2.2.2.2.1 (.fieldLink RX6 20 "TimesByPowers$Span" "kept" "[[I") (by decide +kernel)
  have f23 := C.2.2.2.2.1 (.fieldLink RX6 23 "TimesByPowers$Span" "keptMix" "[[I") (by decide +kernel)
  have f26 := C.2.2.2.2.1 (.fieldLink RX6 26 "TimesByPowers$Span" "lead" "[I") (by decide +kernel)
  have f29 := C.2.2.2.2.1 (.fieldLink RX6 29 "TimesByPowers$Span" "width" "I") (by decide +kernel)
  have f33 := C.2.2.2.2.1 (.fieldLink RX6 33 "TimesByPowers$Span" "keptSize" "I") (by decide +kernel)
  have f36 := C.2.2.2.2.1 (.fieldLink RX6 36 "TimesByPowers$Span" "fed" "I") (by decide +kernel)
  have f39 := C.2.2.2.2.1 (.fieldLink RX6 39 "TimesByPowers$Span" "elements" "LTimesByPowers$Field;") (by decide +kernel)
  have f43 := C.2.2.2.2.1 (.fieldLink RX6 43 "TimesByPowers$Field" "p" "I") (by decide +kernel)
  have c2 : gCl wsX6_init 2 RX2 TX2 8 := ⟨by decide, rfl, rfl, by decide +kernel⟩
  have f48 := C.2.2.2.2.1 (.fieldLink RX6 48 "TimesByPowers$Span" "p" "I") (by decide +kernel)
  refine g_aload_n C dX6_init_0 rfl rfl ?_
  refine g_objInit C dX6_init_1 m3 oi oc (Nat.le_of_ble_eq_true rfl) (Nat.le_of_ble_eq_true rfl) ?_
  refine g_aload_n C dX6_init_4 rfl rfl ?_
  refine g_bipush (v := 36) C dX6_init_5 (by decide) ?_
  obtain ⟨hq1, hf⟩ := gcase hf ho
  refine g_newa (q := 18) (N' := 36) C dX6_init_7 ai (by decide) (by decide) (by decide) ⟨Nat.le_of_ble_eq_true rfl, Nat.le_of_ble_eq_true rfl⟩ hq1 ?_
  obtain ⟨hs2, hf⟩ := gcase hf ho
  refine g_putR (i := 2) (j := 2) C dX6_init_9 hs2 c6 gy6 rfl (by decide) f11 (fun _ h9 => h9) (Or.inr ⟨rfl, hnm, rfl⟩) (fun _ => ⟨rfl, rfl⟩) ?_
  refine g_aload_n C dX6_init_12 rfl rfl ?_
  refine g_bipush (v := 7) C dX6_init_13 (by decide) ?_
  obtain ⟨hq3, hf⟩ := gcase hf ho
  refine g_newa (q := 19) (N' := 7) C dX6_init_15 ai (by decide) (by decide) (by decide) ⟨Nat.le_of_ble_eq_true rfl, Nat.le_of_ble_eq_true rfl⟩ hq3 ?_
  refine g_putR (i := 3) (j := 3) C dX6_init_17 (gS_app hs2) c6 gy6 rfl (by decide) f15 (fun _ h9 => h9) (Or.inr ⟨rfl, hnm, rfl⟩) (fun _ => ⟨rfl, rfl⟩) ?_
  refine g_aload_n C dX6_init_20 rfl rfl ?_
  refine g_bipush (v := 7) C dX6_init_21 (by decide) ?_
  refine g_bipush (v := 36) C dX6_init_23 (by decide) ?_
  obtain ⟨hq4, hf⟩ := gcase hf ho
  refine g_mna (q := 20) (N' := 7) (K' := 36) C dX6_init_25 cl18 hE.2.2.1 ai (by decide) (by decide) (by decide) (by decide) ⟨by decide, by decide⟩ ⟨Nat.le_of_ble_eq_true rfl, Nat.le_of_ble_eq_true rfl⟩ hq4 ?_
  refine g_putR (i := 4) (j := 4) C dX6_init_29 (gS_app (gS_app hs2)) c6 gy6 rfl (by decide) f20 (fun _ h9 => h9) (Or.inr ⟨rfl, hnm, rfl⟩) (fun _ => ⟨rfl, rfl⟩) ?_
  refine g_aload_n C dX6_init_32 rfl rfl ?_
  refine g_bipush (v := 7) C dX6_init_33 (by decide) ?_
  refine g_bipush (v := 7) C dX6_init_35 (by decide) ?_
  obtain ⟨hq5, hf⟩ := gcase hf ho
  refine g_mna (q := 28) (N' := 7) (K' := 7) C dX6_init_37 cl18 hE.2.2.1 ai (by decide) (by decide) (by decide) (by decide) ⟨by decide, by decide⟩ ⟨Nat.le_of_ble_eq_true rfl, Nat.le_of_ble_eq_true rfl⟩ hq5 ?_
  refine g_putR (i := 5) (j := 5) C dX6_init_41 (gS_app (gS_app (gS_app hs2))) c6 gy6 rfl (by decide) f23 (fun _ h9 => h9) (Or.inr ⟨rfl, hnm, rfl⟩) (fun _ => ⟨rfl, rfl⟩) ?_
  refine g_aload_n C dX6_init_44 rfl rfl ?_
  refine g_bipush (v := 7) C dX6_init_45 (by decide) ?_
  obtain ⟨hq6, hf⟩ := gcase hf ho
  refine g_newa (q := 36) (N' := 7) C dX6_init_47 ai (by decide) (by decide) (by decide) ⟨Nat.le_of_ble_eq_true rfl, Nat.le_of_ble_eq_true rfl⟩ hq6 ?_
  refine g_putR (i := 6) (j := 6) C dX6_init_49 (gS_app (gS_app (gS_app (gS_app hs2)))) c6 gy6 rfl (by decide) f26 (fun _ h9 => h9) (Or.inr ⟨rfl, hnm, rfl⟩) (fun _ => ⟨rfl, rfl⟩) ?_
  refine g_aload_n C dX6_init_52 rfl rfl ?_
  refine g_iconst (v := 0) C dX6_init_53 (by decide) ?_
  refine g_putI (i := 7) (j := 7) C dX6_init_54 (gS_app (gS_app (gS_app (gS_app hs2)))) c6 gy6 rfl f29 (fun _ h9 => h9) (Or.inl rfl) rfl ?_
  refine g_aload_n C dX6_init_57 rfl rfl ?_
  refine g_iconst (v := 0) C dX6_init_58 (by decide) ?_
  refine g_putI (i := 8) (j := 8) C dX6_init_59 (gS_app (gS_app (gS_app (gS_app hs2)))) c6 gy6 rfl f33 (fun _ h9 => h9) (Or.inl rfl) rfl ?_
  refine g_aload_n C dX6_init_62 rfl rfl ?_
  refine g_iconst (v := 0) C dX6_init_63 (by decide) ?_
  refine g_putI (i := 9) (j := 9) C dX6_init_64 (gS_app (gS_app (gS_app (gS_app hs2)))) c6 gy6 rfl f36 (fun _ h9 => h9) (Or.inl rfl) rfl ?_
  refine g_aload_n C dX6_init_67 rfl rfl ?_
  refine g_aload_n C dX6_init_68 rfl rfl ?_
  refine g_putR (i := 0) (j := 0) C dX6_init_69 (gS_app (gS_app (gS_app (gS_app hs2)))) c6 gy6 rfl (by decide) f39 (fun _ h9 => h9) (Or.inr ⟨rfl, hnm, rfl⟩) (fun _ => ⟨rfl, rfl⟩) ?_
  refine g_aload_n C dX6_init_72 rfl rfl ?_
  refine g_aload_n C dX6_init_73 rfl rfl ?_
  obtain ⟨hs7, hf⟩ := gcase hf ho
  refine g_getI (i := 0) (j := 0) C dX6_init_74 hs7 c2 rfl f43 (fun _ h9 => h9) ?_
  refine g_putI (i := 1) (j := 1) C dX6_init_77 (gS_app (gS_app (gS_app (gS_app hs2)))) c6 gy6 rfl f48 (fun _ h9 => h9) (Or.inr ⟨rfl, hnm, rfl⟩) rfl ?_
  obtain ⟨rfl, rfl, rfl⟩ := gs3 hf
  refine g_widen (k := 19) (n := 365) (Nat.le_of_ble_eq_true rfl) (Nat.le_of_ble_eq_true rfl) ?_
  exact g_vret C dX6_init_80 hr hlk
set_option maxRecDepth 100000 in
set_option maxHeartbeats 8000000 in
theorem m_X6_putElement (l : Launch) (X : gX) (N : Nat) (I : gI) (R : gR) (S : gS) (hL : gLay 6 37 R S) (a0 : Int32) (a1 : Int32) (J : gI) (hf : f_X6_putElement N I R S a0 a1 = some J) : gM l yX6_putElement wsX6_putElement { frames := 1, cells := 0, slots := 0, locals := 22 } X gE0 [.ref (X.1 + 17), .int a0, .int a1] I R S none J R S 0 0 := by
  unfold f_X6_putElement at hf
  refine gM_of (cc := cX6_putElement) (own := RX6) (maxL := 5) (ret := none) (by decide) rfl rfl (Nat.le_of_ble_eq_true rfl) ?_
  intro p e s m args below meth c C hr hlk hnm hE
  have ho : (some J) ≠ none := fun h => by cases h
  have f39 := C.2.2.2.2.1 (.fieldLink RX6 39 "TimesByPowers$Span" "elements" "LTimesByPowers$Field;") (by decide +kernel)
  have c6 : gCl wsX6_putElement 6 RX6 TX6 10 := ⟨by decide, rfl, rfl, by decide +kernel⟩
  have f61 := C.2.2.2.2.1 (.fieldLink RX6 61 "TimesByPowers$Field" "n" "I") (by decide +kernel)
  have c2 : gCl wsX6_putElement 2 RX2 TX2 8 := ⟨by decide, rfl, rfl, by decide +kernel⟩
  have f48 := C.2.2.2.2.1 (.fieldLink RX6 48 "TimesByPowers$Span" "p" "I") (by decide +kernel)
  refine g_iload_n C dX6_putElement_0 rfl rfl ?_
  refine g_istore_n C dX6_putElement_1 rfl (Nat.le_of_ble_eq_true rfl) rfl rfl ?_
  refine g_iconst (v := 0) C dX6_putElement_2 (by decide) ?_
  refine g_istore C dX6_putElement_3 (Nat.le_of_ble_eq_true rfl) rfl rfl ?_
  refine g_loop (fun z1 => [(0, .ref (X.1 + 17)), (1, .int a0), (3, .int z1.1), (4, .int z1.2.1)]) (fun z1 => z1.2.2) (fun r2 => []) (fun r2 => r2) 44 hf ho (And.intro rfl (And.intro rfl (And.intro rfl (And.intro rfl trivial)))) rfl (fun r2 hf => ?_) (fun z1 o1 hf ho hkz1 hez1 => ?_)
  · obtain rfl := gs1 hf
    exact g_vret C dX6_putElement_44 hr hlk
  · refine g_iload C dX6_putElement_5 rfl ?_
    refine g_aload_n C dX6_putElement_7 rfl rfl ?_
    refine g_getR (i := 0) (j := 0) C dX6_putElement_8 (L17 hL (by decide) (by decide)) c6 rfl (by decide) f39 (fun _ h9 => h9) (LR17_0 hL (by decide) (by decide)) ?_
    refine g_getI (i := 1) (j := 1) C dX6_putElement_11 (L6 hL (by decide) (by decide)) c2 rfl f61 (fun _ h9 => h9) ?_
    refine g_icmp_ge (tgt := 44) C dX6_putElement_14 (by decide) hf (fun hf => ?_) (fun hf => ?_)
    · have hx := hez1 _ hf.symm
      refine g_sub ?_ hx
      exact trivial
    · refine g_aload_n C dX6_putElement_17 rfl rfl ?_
      refine g_iload_n C dX6_putElement_18 rfl rfl ?_
      refine g_iload C dX6_putElement_19 rfl ?_
      refine g_iadd C dX6_putElement_21 ?_
      refine g_iload_n C dX6_putElement_22 rfl rfl ?_
      refine g_aload_n C dX6_putElement_23 rfl rfl ?_
      refine g_getI (i := 1) (j := 1) C dX6_putElement_24 (L17 hL (by decide) (by decide)) c6 rfl f48 (fun _ h9 => h9) ?_
      refine g_irem C dX6_putElement_27 ho hf (fun hf => ?_)
      obtain ⟨z3, hz3, hf⟩ := gbind hf ho
      refine g_callV C dX6_putElement_28 (m_X6_put l X N _ _ _  (gLay.sub hL (by decide) (by decide)) _ _ z3 hz3) gEin0 (cwV 2 C.2.2.2.2.1 gX6_putElement_X6_put rfl rfl rfl (by decide +kernel) ⟨Nat.le_of_ble_eq_true rfl, Nat.le_of_ble_eq_true rfl⟩) (L17 hL (by decide) (by decide)) (by decide) rfl rfl rfl (Nat.le_of_ble_eq_true rfl) ⟨Nat.le_of_ble_eq_true rfl, Nat.le_of_ble_eq_true rfl⟩ ?_
      refine g_iload_n C dX6_putElement_31 rfl rfl ?_
      refine g_aload_n C dX6_putElement_32 rfl rfl ?_
      refine g_getI (i := 1) (j := 1) C dX6_putElement_33 (L17 hL (by decide) (by decide)) c6 rfl f48 (fun _ h9 => h9) ?_
      refine g_idiv C dX6_putElement_36 ho hf (fun hf => ?_)
      refine g_istore_n C dX6_putElement_37 rfl (Nat.le_of_ble_eq_true rfl) rfl rfl ?_
      refine g_iinc (d := 1) C dX6_putElement_38 rfl (by decide) rfl (Nat.le_of_ble_eq_true rfl) rfl rfl ?_
      refine g_goto (tgt := 5) C dX6_putElement_41 (by decide) ?_
      have hx := hkz1 _ hf.symm
      refine g_sub ?_ hx
      exact (And.intro rfl (And.intro rfl (And.intro rfl (And.intro rfl trivial))))
set_option maxRecDepth 100000 in
set_option maxHeartbeats 8000000 in
theorem m_X7_init (l : Launch) (X : gX) (N : Nat) (I : gI) (R : gR) (S : gS) (w : Nat) (a0 : Nat) (J : gI) (P : gR) (T : gS) (hf : f_X7_init N I R S w a0 = some (J, P, T)) : gM l yX7_init wsX7_init { frames := 3, cells := 0, slots := 0, locals := 68 } X gE0 [.ref (X.1 + w), .ref (X.1 + a0)] I R S none J P T 0 0 := by
  unfold f_X7_init at hf
  refine gM_of (cc := cX7_init) (own := RX7) (maxL := 2) (ret := none) (by decide) rfl rfl (Nat.le_of_ble_eq_true rfl) ?_
  intro p e s m args below meth c C hr hlk hnm hE
  have ho : (some (J, P, T)) ≠ none := fun h => by cases h
  have f1 := C.2.2.2.2.1 (.fieldLink RX7 1 "TimesByPowers$Pair" "t" "[I") (by decide +kernel)
  have c4 : gCl wsX7_init 4 RX4 TX4 5 := ⟨by decide, rfl, rfl, by decide +kernel⟩
  have sf1 := C.2.2.2.2.1 (.sameField "TimesByPowers$Pair" "TimesByPowers$World" "t" "[I") (by decide +kernel)
  have f7 := C.2.2.2.2.1 (.fieldLink RX7 7 "TimesByPowers$Pair" "own" "I") (by decide +kernel)
  have sf7 := C.2.2.2.2.1 (.sameField "TimesByPowers$Pair" "TimesByPowers$World" "own" "I") (by decide +kernel)
  have f11 := C.2.2.2.2.1 (.fieldLink RX7 11 "TimesByPowers$Pair" "d" "I") (by decide +kernel)
  have sf11 := C.2.2.2.2.1 (.sameField "TimesByPowers$Pair" "TimesByPowers$World" "d" "I") (by decide +kernel)
  have f14 := C.2.2.2.2.1 (.fieldLink RX7 14 "TimesByPowers$Pair" "mark" "I") (by decide +kernel)
  have niX4 := C.2.2.2.2.1 (.initialized RX4) (by decide +kernel)
  have imX4 := C.2.2.2.2.1 (.instanceMethod yX4_init) (by decide +kernel)
  have m17 := C.2.2.2.2.1 (.methodLink RX7 17 yX4_init) (by decide +kernel)
  obtain ⟨hpa0, hf⟩ := gcase hf ho
  obtain ⟨hk, hf⟩ := gcase hf ho
  refine g_aload_n C dX7_init_0 rfl rfl ?_
  refine g_aload_n C dX7_init_1 rfl rfl ?_
  obtain ⟨hw1, hf⟩ := gcase hf ho
  refine g_getR (i := 0) (j := 0) C dX7_init_2 hpa0 c4 rfl (by decide) f1 (g_same sf1) (gWb_t hw1).1 ?_
  refine g_aload_n C dX7_init_5 rfl rfl ?_
  refine g_getI (i := 2) (j := 2) C dX7_init_6 hpa0 c4 rfl f7 (g_same sf7) ?_
  refine g_aload_n C dX7_init_9 rfl rfl ?_
  refine g_getI (i := 3) (j := 3) C dX7_init_10 hpa0 c4 rfl f11 (g_same sf11) ?_
  refine g_aload_n C dX7_init_13 rfl rfl ?_
  refine g_getI (i := 4) (j := 4) C dX7_init_14 hpa0 c4 rfl f14 (fun _ h9 => h9) ?_
  obtain ⟨z2, hz2, hf⟩ := gbind hf ho
  refine g_callI C dX7_init_17 (m_X4_init l X N _ _ _   _ _ _ _ _ z2.1 z2.2.1 z2.2.2 hz2) gEin0 (cwI 4 C.2.2.2.2.1 gX7_init_X4_init rfl rfl rfl niX4 m17 imX4 rfl (by decide +kernel) ⟨Nat.le_of_ble_eq_true rfl, Nat.le_of_ble_eq_true rfl⟩) rfl rfl (Nat.le_of_ble_eq_true rfl) ⟨Nat.le_of_ble_eq_true rfl, Nat.le_of_ble_eq_true rfl⟩ ?_
  obtain ⟨rfl, rfl, rfl⟩ := gs3 hf
  exact g_vret C dX7_init_20 hr hlk
set_option maxRecDepth 100000 in
set_option maxHeartbeats 8000000 in
theorem m_X7_kindTold (l : Launch) (X : gX) (N : Nat) (I : gI) (R : gR) (S : gS) (w : Nat) (v : Int32) (hf : f_X7_kindTold N I R S w = some v) : gM l yX7_kindTold wsX7_kindTold { frames := 0, cells := 0, slots := 0, locals := 0 } X gE0 [.ref (X.1 + w)] I R S (some (.int v)) I R S 0 0 := by
  unfold f_X7_kindTold at hf
  refine gM_of (cc := cX7_kindTold) (own := RX7) (maxL := 1) (ret := (some .int)) (by decide) rfl rfl (Nat.le_of_ble_eq_true rfl) ?_
  intro p e s m args below meth c C hr hlk hnm hE
  have ho : (some v) ≠ none := fun h => by cases h
  obtain ⟨hk, hf⟩ := gcase hf ho
  refine g_iconst (v := 3) C dX7_kindTold_0 (by decide) ?_
  obtain rfl := gs1 hf
  exact g_iret C dX7_kindTold_1 hr hlk
set_option maxRecDepth 100000 in
set_option maxHeartbeats 8000000 in
theorem m_X8_init (l : Launch) (X : gX) (N : Nat) (I : gI) (R : gR) (S : gS) (tm : Nat)  (J : gI) (P : gR) (T : gS) (hf : f_X8_init N I R S  = some (J, P, T)) : gM l yX8_init wsX8_init { frames := 1, cells := 18, slots := 239, locals := 20 } X (gEC X tm) [.ref (X.1 + 37), .ref (X.1 + 6), .ref (X.1 + 17)] I R S none J P T 18 239 := by
  unfold f_X8_init at hf
  refine gM_of (cc := cX8_init) (own := RX8) (maxL := 3) (ret := none) (by decide) rfl rfl (Nat.le_of_ble_eq_true rfl) ?_
  intro p e s m args below meth c C hr hlk hnm hE
  have ho : (some (J, P, T)) ≠ none := fun h => by cases h
  have hZm := hE.2.2.2.1
  have hTm := hE.2.2.2.2.1
  have m3 := C.2.2.2.2.1 (.methodLink RX8 3 objectInit) (by decide +kernel)
  have oi := C.2.2.2.2.1 (.instanceMethod objectInit) (by decide +kernel)
  have oc := C.2.2.2.2.1 (.code objectInit ⟨#[0xb1]⟩ 1 none) (by first | exact List.mem_cons_of_mem _ (List.mem_append_left _ (List.mem_of_getElem? (i := 2) rfl)) | decide +kernel)
  have cl11 := C.2.2.2.2.1 (.classLink RX8 11 "[[I") (by decide +kernel)
  have ai := C.2.2.2.2.1 (.arrayClass .int) (by decide +kernel)
  have f13 := C.2.2.2.2.1 (.fieldLink RX8 13 "TimesByPowers$Sums" "powers" "[[I") (by decide +kernel)
  have c8 : gCl wsX8_init 8 RX8 TX8 10 := ⟨by decide, rfl, rfl, by decide +kernel⟩
  have f16 := C.2.2.2.2.1 (.fieldLink RX8 16 "TimesByPowers$Sums" "poweredWorld" "LTimesByPowers$World;") (by decide +kernel)
  have f20 := C.2.2.2.2.1 (.fieldLink RX8 20 "TimesByPowers$Sums" "highestPower" "I") (by decide +kernel)
  have f24 := C.2.2.2.2.1 (.fieldLink RX8 24 "TimesByPowers$Sums" "raisedSum" "[I") (by decide +kernel)
  have f28 := C.2.2.2.2.1 (.fieldLink RX8 28 "TimesByPowers$Sums" "divisor" "[[I") (by decide +kernel)
  have f31 := C.2.2.2.2.1 (.fieldLink RX8 31 "TimesByPowers$Sums" "remainder" "[I") (by decide +kernel)
  have f34 := C.2.2.2.2.1 (.fieldLink RX8 34 "TimesByPowers$Sums" "quotient" "[I") (by decide +kernel)
  have f37 := C.2.2.2.2.1 (.fieldLink RX8 37 "TimesByPowers$Sums" "elements" "LTimesByPowers$Field;") (by decide +kernel)
  have f41 := C.2.2.2.2.1 (.fieldLink RX8 41 "TimesByPowers$Sums" "span" "LTimesByPowers$Span;") (by decide +kernel)
  have f45 := C.2.2.2.2.1 (.fieldLink RX8 45 "TimesByPowers$Field" "n" "I") (by decide +kernel)
  have c2 : gCl wsX8_init 2 RX2 TX2 8 := ⟨by decide, rfl, rfl, by decide +kernel⟩
  have f50 := C.2.2.2.2.1 (.fieldLink RX8 50 "TimesByPowers$Sums" "n" "I") (by decide +kernel)
  refine g_aload_n C dX8_init_0 rfl rfl ?_
  refine g_objInit C dX8_init_1 m3 oi oc (Nat.le_of_ble_eq_true rfl) (Nat.le_of_ble_eq_true rfl) ?_
  refine g_aload_n C dX8_init_4 rfl rfl ?_
  refine g_bipush (v := 7) C dX8_init_5 (by decide) ?_
  refine g_bipush (v := 19) C dX8_init_7 (by decide) ?_
  obtain ⟨hq1, hf⟩ := gcase hf ho
  refine g_mna (q := 38) (N' := 7) (K' := 19) C dX8_init_9 cl11 hE.2.2.1 ai (by decide) (by decide) (by decide) (by decide) ⟨by decide, by decide⟩ ⟨Nat.le_of_ble_eq_true rfl, Nat.le_of_ble_eq_true rfl⟩ hq1 ?_
  obtain ⟨hs2, hf⟩ := gcase hf ho
  refine g_putR (i := 3) (j := 3) C dX8_init_13 hs2 c8 gy8 rfl (by decide) f13 (fun _ h9 => h9) (Or.inr ⟨rfl, hnm, rfl⟩) (fun _ => ⟨rfl, rfl⟩) ?_
  refine g_aload_n C dX8_init_16 rfl rfl ?_
  refine g_null C dX8_init_17 ?_
  refine g_putEN (i := 4) (j := 4) C dX8_init_18 hs2 c8 gy8 rfl f16 (fun _ h9 => h9) (Or.inl rfl) ⟨rfl, rfl⟩ ?_
  refine g_aload_n C dX8_init_21 rfl rfl ?_
  refine g_iconst (v := 0) C dX8_init_22 (by decide) ?_
  refine g_putI (i := 5) (j := 5) C dX8_init_23 hs2 c8 gy8 rfl f20 (fun _ h9 => h9) (Or.inl rfl) rfl ?_
  refine g_aload_n C dX8_init_26 rfl rfl ?_
  refine g_bipush (v := 19) C dX8_init_27 (by decide) ?_
  obtain ⟨hq3, hf⟩ := gcase hf ho
  refine g_newa (q := 46) (N' := 19) C dX8_init_29 ai (by decide) (by decide) (by decide) ⟨Nat.le_of_ble_eq_true rfl, Nat.le_of_ble_eq_true rfl⟩ hq3 ?_
  refine g_putR (i := 6) (j := 6) C dX8_init_31 (gS_app hs2) c8 gy8 rfl (by decide) f24 (fun _ h9 => h9) (Or.inr ⟨rfl, hnm, rfl⟩) (fun _ => ⟨rfl, rfl⟩) ?_
  refine g_aload_n C dX8_init_34 rfl rfl ?_
  refine g_bipush (v := 6) C dX8_init_35 (by decide) ?_
  refine g_bipush (v := 6) C dX8_init_37 (by decide) ?_
  obtain ⟨hq4, hf⟩ := gcase hf ho
  refine g_mna (q := 47) (N' := 6) (K' := 6) C dX8_init_39 cl11 hE.2.2.1 ai (by decide) (by decide) (by decide) (by decide) ⟨by decide, by decide⟩ ⟨Nat.le_of_ble_eq_true rfl, Nat.le_of_ble_eq_true rfl⟩ hq4 ?_
  refine g_putR (i := 7) (j := 7) C dX8_init_43 (gS_app (gS_app hs2)) c8 gy8 rfl (by decide) f28 (fun _ h9 => h9) (Or.inr ⟨rfl, hnm, rfl⟩) (fun _ => ⟨rfl, rfl⟩) ?_
  refine g_aload_n C dX8_init_46 rfl rfl ?_
  refine g_bipush (v := 19) C dX8_init_47 (by decide) ?_
  obtain ⟨hq5, hf⟩ := gcase hf ho
  refine g_newa (q := 54) (N' := 19) C dX8_init_49 ai (by decide) (by decide) (by decide) ⟨Nat.le_of_ble_eq_true rfl, Nat.le_of_ble_eq_true rfl⟩ hq5 ?_
  refine g_putR (i := 8) (j := 8) C dX8_init_51 (gS_app (gS_app (gS_app hs2))) c8 gy8 rfl (by decide) f31 (fun _ h9 => h9) (Or.inr ⟨rfl, hnm, rfl⟩) (fun _ => ⟨rfl, rfl⟩) ?_
  refine g_aload_n C dX8_init_54 rfl rfl ?_
  refine g_bipush (v := 19) C dX8_init_55 (by decide) ?_
  obtain ⟨hq6, hf⟩ := gcase hf ho
  refine g_newa (q := 55) (N' := 19) C dX8_init_57 ai (by decide) (by decide) (by decide) ⟨Nat.le_of_ble_eq_true rfl, Nat.le_of_ble_eq_true rfl⟩ hq6 ?_
  refine g_putR (i := 9) (j := 9) C dX8_init_59 (gS_app (gS_app (gS_app (gS_app hs2)))) c8 gy8 rfl (by decide) f34 (fun _ h9 => h9) (Or.inr ⟨rfl, hnm, rfl⟩) (fun _ => ⟨rfl, rfl⟩) ?_
  refine g_aload_n C dX8_init_62 rfl rfl ?_
  refine g_aload_n C dX8_init_63 rfl rfl ?_
  refine g_putR (i := 0) (j := 0) C dX8_init_64 (gS_app (gS_app (gS_app (gS_app hs2)))) c8 gy8 rfl (by decide) f37 (fun _ h9 => h9) (Or.inr ⟨rfl, hnm, rfl⟩) (fun _ => ⟨rfl, rfl⟩) ?_
  refine g_aload_n C dX8_init_67 rfl rfl ?_
  refine g_aload_n C dX8_init_68 rfl rfl ?_
  refine g_putR (i := 1) (j := 1) C dX8_init_69 (gS_app (gS_app (gS_app (gS_app hs2)))) c8 gy8 rfl (by decide) f41 (fun _ h9 => h9) (Or.inr ⟨rfl, hnm, rfl⟩) (fun _ => ⟨rfl, rfl⟩) ?_
  refine g_aload_n C dX8_init_72 rfl rfl ?_
  refine g_aload_n C dX8_init_73 rfl rfl ?_
  obtain ⟨hs7, hf⟩ := gcase hf ho
  refine g_getI (i := 1) (j := 1) C dX8_init_74 hs7 c2 rfl f45 (fun _ h9 => h9) ?_
  refine g_putI (i := 2) (j := 2) C dX8_init_77 (gS_app (gS_app (gS_app (gS_app hs2)))) c8 gy8 rfl f50 (fun _ h9 => h9) (Or.inr ⟨rfl, hnm, rfl⟩) rfl ?_
  obtain ⟨rfl, rfl, rfl⟩ := gs3 hf
  refine g_widen (k := 18) (n := 239) (Nat.le_of_ble_eq_true rfl) (Nat.le_of_ble_eq_true rfl) ?_
  exact g_vret C dX8_init_80 hr hlk
set_option maxRecDepth 100000 in
set_option maxHeartbeats 8000000 in
theorem m_X8_ownOf (l : Launch) (X : gX) (N : Nat) (I : gI) (R : gR) (S : gS) (hL : gLay 6 56 R S) (a0 : Int32) (v : Int32) (J : gI) (hf : f_X8_ownOf N I R S a0 = some (v, J)) : gM l yX8_ownOf wsX8_ownOf { frames := 3, cells := 0, slots := 0, locals := 66 } X gE0 [.ref (X.1 + 37), .int a0] I R S (some (.int v)) J R S 0 0 := by
  unfold f_X8_ownOf at hf
  refine gM_of (cc := cX8_ownOf) (own := RX8) (maxL := 5) (ret := (some .int)) (by decide) rfl rfl (Nat.le_of_ble_eq_true rfl) ?_
  intro p e s m args below meth c C hr hlk hnm hE
  have ho : (some (v, J)) ≠ none := fun h => by cases h
  have f41 := C.2.2.2.2.1 (.fieldLink RX8 41 "TimesByPowers$Sums" "span" "LTimesByPowers$Span;") (by decide +kernel)
  have c8 : gCl wsX8_ownOf 8 RX8 TX8 10 := ⟨by decide, rfl, rfl, by decide +kernel⟩
  have f50 := C.2.2.2.2.1 (.fieldLink RX8 50 "TimesByPowers$Sums" "n" "I") (by decide +kernel)
  have f37 := C.2.2.2.2.1 (.fieldLink RX8 37 "TimesByPowers$Sums" "elements" "LTimesByPowers$Field;") (by decide +kernel)
  refine g_aload_n C dX8_ownOf_0 rfl rfl ?_
  refine g_getR (i := 1) (j := 1) C dX8_ownOf_1 (L37 hL (by decide) (by decide)) c8 rfl (by decide) f41 (fun _ h9 => h9) (LR37_1 hL (by decide) (by decide)) ?_
  refine g_aload_n C dX8_ownOf_4 rfl rfl ?_
  refine g_getI (i := 2) (j := 2) C dX8_ownOf_5 (L37 hL (by decide) (by decide)) c8 rfl f50 (fun _ h9 => h9) ?_
  obtain ⟨z1, hz1, hf⟩ := gbind hf ho
  refine g_callV C dX8_ownOf_8 (m_X6_begin l X N _ _ _  (gLay.sub hL (by decide) (by decide)) _ z1 hz1) gEin0 (cwV 1 C.2.2.2.2.1 gX8_ownOf_X6_begin rfl rfl rfl (by decide +kernel) ⟨Nat.le_of_ble_eq_true rfl, Nat.le_of_ble_eq_true rfl⟩) (L17 hL (by decide) (by decide)) (by decide) rfl rfl rfl (Nat.le_of_ble_eq_true rfl) ⟨Nat.le_of_ble_eq_true rfl, Nat.le_of_ble_eq_true rfl⟩ ?_
  refine g_iconst (v := 0) C dX8_ownOf_11 (by decide) ?_
  refine g_istore_n C dX8_ownOf_12 rfl (Nat.le_of_ble_eq_true rfl) rfl rfl ?_
  refine g_iconst (v := 1) C dX8_ownOf_13 (by decide) ?_
  refine g_istore_n C dX8_ownOf_14 rfl (Nat.le_of_ble_eq_true rfl) rfl rfl ?_
  refine g_iconst (v := 0) C dX8_ownOf_15 (by decide) ?_
  refine g_istore C dX8_ownOf_16 (Nat.le_of_ble_eq_true rfl) rfl rfl ?_
  refine g_loop (fun z2 => [(0, .ref (X.1 + 37)), (1, .int a0), (2, .int z2.1), (3, .int z2.2.1), (4, .int z2.2.2.1)]) (fun z2 => z2.2.2.2) (fun r3 => [(2, .int r3.1)]) (fun r3 => r3.2) 64 hf ho (And.intro rfl (And.intro rfl (And.intro rfl (And.intro rfl (And.intro rfl trivial))))) rfl (fun r3 hf => ?_) (fun z2 o1 hf ho hkz2 hez2 => ?_)
  · refine g_iload_n C dX8_ownOf_64 rfl rfl ?_
    obtain ⟨rfl, rfl⟩ := gs2 hf
    exact g_iret C dX8_ownOf_65 hr hlk
  · refine g_iload C dX8_ownOf_18 rfl ?_
    refine g_aload_n C dX8_ownOf_20 rfl rfl ?_
    refine g_getI (i := 2) (j := 2) C dX8_ownOf_21 (L37 hL (by decide) (by decide)) c8 rfl f50 (fun _ h9 => h9) ?_
    refine g_icmp_gt (tgt := 64) C dX8_ownOf_24 (by decide) hf (fun hf => ?_) (fun hf => ?_)
    · have hx := hez2 _ hf.symm
      refine g_sub ?_ hx
      exact (And.intro rfl trivial)
    · refine g_iload_n C dX8_ownOf_27 rfl rfl ?_
      refine g_if_ne (tgt := 64) C dX8_ownOf_28 (by decide) hf (fun hf => ?_) (fun hf => ?_)
      · have hx := hez2 _ hf.symm
        refine g_sub ?_ hx
        exact (And.intro rfl trivial)
      · refine g_aload_n C dX8_ownOf_31 rfl rfl ?_
        refine g_getR (i := 1) (j := 1) C dX8_ownOf_32 (L37 hL (by decide) (by decide)) c8 rfl (by decide) f41 (fun _ h9 => h9) (LR37_1 hL (by decide) (by decide)) ?_
        refine g_iconst (v := 0) C dX8_ownOf_35 (by decide) ?_
        refine g_iload_n C dX8_ownOf_36 rfl rfl ?_
        obtain ⟨z4, hz4, hf⟩ := gbind hf ho
        refine g_callV C dX8_ownOf_37 (m_X6_putElement l X N _ _ _  (gLay.sub hL (by decide) (by decide)) _ _ z4 hz4) gEin0 (cwV 2 C.2.2.2.2.1 gX8_ownOf_X6_putElement rfl rfl rfl (by decide +kernel) ⟨Nat.le_of_ble_eq_true rfl, Nat.le_of_ble_eq_true rfl⟩) (L17 hL (by decide) (by decide)) (by decide) rfl rfl rfl (Nat.le_of_ble_eq_true rfl) ⟨Nat.le_of_ble_eq_true rfl, Nat.le_of_ble_eq_true rfl⟩ ?_
        refine g_aload_n C dX8_ownOf_40 rfl rfl ?_
        refine g_getR (i := 1) (j := 1) C dX8_ownOf_41 (L37 hL (by decide) (by decide)) c8 rfl (by decide) f41 (fun _ h9 => h9) (LR37_1 hL (by decide) (by decide)) ?_
        obtain ⟨z5, hz5, hf⟩ := gbind hf ho
        refine g_callV C dX8_ownOf_44 (m_X6_feed l X N _ _ _  (gLay.sub hL (by decide) (by decide))  z5.1 z5.2 hz5) gEin0 (cwV 0 C.2.2.2.2.1 gX8_ownOf_X6_feed rfl rfl rfl (by decide +kernel) ⟨Nat.le_of_ble_eq_true rfl, Nat.le_of_ble_eq_true rfl⟩) (L17 hL (by decide) (by decide)) (by decide) rfl rfl rfl (Nat.le_of_ble_eq_true rfl) ⟨Nat.le_of_ble_eq_true rfl, Nat.le_of_ble_eq_true rfl⟩ ?_
        refine g_istore_n C dX8_ownOf_47 rfl (Nat.le_of_ble_eq_true rfl) rfl rfl ?_
        refine g_aload_n C dX8_ownOf_48 rfl rfl ?_
        refine g_getR (i := 0) (j := 0) C dX8_ownOf_49 (L37 hL (by decide) (by decide)) c8 rfl (by decide) f37 (fun _ h9 => h9) (LR37_0 hL (by decide) (by decide)) ?_
        refine g_iload_n C dX8_ownOf_52 rfl rfl ?_
        refine g_iload_n C dX8_ownOf_53 rfl rfl ?_
        obtain ⟨z6, hz6, hf⟩ := gbind hf ho
        refine g_callV C dX8_ownOf_54 (m_X2_times l X N _ _ _  (gLay.sub hL (by decide) (by decide)) _ _ z6.1 z6.2 hz6) gEin0 (cwV 2 C.2.2.2.2.1 gX8_ownOf_X2_times rfl rfl rfl (by decide +kernel) ⟨Nat.le_of_ble_eq_true rfl, Nat.le_of_ble_eq_true rfl⟩) (L6 hL (by decide) (by decide)) (by decide) rfl rfl rfl (Nat.le_of_ble_eq_true rfl) ⟨Nat.le_of_ble_eq_true rfl, Nat.le_of_ble_eq_true rfl⟩ ?_
        refine g_istore_n C dX8_ownOf_57 rfl (Nat.le_of_ble_eq_true rfl) rfl rfl ?_
        refine g_iinc (d := 1) C dX8_ownOf_58 rfl (by decide) rfl (Nat.le_of_ble_eq_true rfl) rfl rfl ?_
        refine g_goto (tgt := 18) C dX8_ownOf_61 (by decide) ?_
        have hx := hkz2 _ hf.symm
        refine g_sub ?_ hx
        exact (And.intro rfl (And.intro rfl (And.intro rfl (And.intro rfl (And.intro rfl trivial)))))
set_option maxRecDepth 100000 in
set_option maxHeartbeats 8000000 in
theorem m_X8_lengthOf (l : Launch) (X : gX) (N : Nat) (I : gI) (R : gR) (S : gS) (hL : gLay 6 56 R S) (a0 : Nat) (a1 : Int32) (v : Int32) (hf : f_X8_lengthOf N I R S a0 a1 = some v) : gM l yX8_lengthOf wsX8_lengthOf { frames := 1, cells := 0, slots := 0, locals := 23 } X gE0 [.ref (X.1 + 37), .ref (X.1 + a0), .int a1] I R S (some (.int v)) I R S 0 0 := by
  unfold f_X8_lengthOf at hf
  refine gM_of (cc := cX8_lengthOf) (own := RX8) (maxL := 4) (ret := (some .int)) (by decide) rfl rfl (Nat.le_of_ble_eq_true rfl) ?_
  intro p e s m args below meth c C hr hlk hnm hE
  have ho : (some v) ≠ none := fun h => by cases h
  have f37 := C.2.2.2.2.1 (.fieldLink RX8 37 "TimesByPowers$Sums" "elements" "LTimesByPowers$Field;") (by decide +kernel)
  have c8 : gCl wsX8_lengthOf 8 RX8 TX8 10 := ⟨by decide, rfl, rfl, by decide +kernel⟩
  have f126 := C.2.2.2.2.1 (.fieldLink RX8 126 "TimesByPowers$World" "\x72" "I") (by decide +kernel)
  have cw : gWc wsX8_lengthOf := ⟨⟨by decide, rfl, rfl, by decide +kernel⟩, ⟨by decide, rfl, rfl, by decide +kernel⟩, ⟨by decide, rfl, rfl, by decide +kernel⟩, ⟨by decide, rfl, rfl, by decide +kernel⟩⟩
  obtain ⟨hwa0, hf⟩ := gcase hf ho
  refine g_aload_n C dX8_lengthOf_0 rfl rfl ?_
  refine g_getR (i := 0) (j := 0) C dX8_lengthOf_1 (L37 hL (by decide) (by decide)) c8 rfl (by decide) f37 (fun _ h9 => h9) (LR37_0 hL (by decide) (by decide)) ?_
  refine g_iload_n C dX8_lengthOf_4 rfl rfl ?_
  obtain ⟨z1, hz1, hf⟩ := gbind hf ho
  refine g_callV C dX8_lengthOf_5 (m_X2_degreeOf l X N _ _ _  (gLay.sub hL (by decide) (by decide)) _ z1 hz1) gEin0 (cwV 1 C.2.2.2.2.1 gX8_lengthOf_X2_degreeOf rfl rfl rfl (by decide +kernel) ⟨Nat.le_of_ble_eq_true rfl, Nat.le_of_ble_eq_true rfl⟩) (L6 hL (by decide) (by decide)) (by decide) rfl rfl rfl (Nat.le_of_ble_eq_true rfl) ⟨Nat.le_of_ble_eq_true rfl, Nat.le_of_ble_eq_true rfl⟩ ?_
  refine g_istore_n C dX8_lengthOf_8 rfl (Nat.le_of_ble_eq_true rfl) rfl rfl ?_
  refine g_iload_n C dX8_lengthOf_9 rfl rfl ?_
  refine g_if_ge (tgt := 17) C dX8_lengthOf_10 (by decide) hf (fun hf => ?_) (fun hf => ?_)
  · refine g_iload_n C dX8_lengthOf_17 rfl rfl ?_
    refine g_aload_n C dX8_lengthOf_18 rfl rfl ?_
    refine g_getWI 1 C dX8_lengthOf_19 hwa0 cw ⟨rfl, rfl, rfl, rfl⟩ f126 ⟨rfl, rfl, rfl, rfl⟩ ?_
    refine g_imul C dX8_lengthOf_22 ?_
    obtain rfl := gs1 hf
    exact g_iret C dX8_lengthOf_23 hr hlk
  · refine g_iconst (v := -1) C dX8_lengthOf_13 (by decide) ?_
    refine g_goto (tgt := 23) C dX8_lengthOf_14 (by decide) ?_
    obtain rfl := gs1 hf
    exact g_iret C dX8_lengthOf_23 hr hlk
set_option maxRecDepth 100000 in
set_option maxHeartbeats 8000000 in
theorem m_X8_putBehind (l : Launch) (X : gX) (N : Nat) (I : gI) (R : gR) (S : gS) (hL : gLay 6 56 R S) (a0 : Nat) (a1 : Int32) (a2 : Nat) (a3 : Int32) (a4 : Nat) (J : gI) (hf : f_X8_putBehind N I R S a0 a1 a2 a3 a4 = some J) : gM l yX8_putBehind wsX8_putBehind { frames := 2, cells := 0, slots := 0, locals := 50 } X gE0 [.ref (X.1 + 37), .ref (X.1 + a0), .int a1, .ref (X.1 + a2), .int a3, .ref (X.1 + a4)] I R S none J R S 0 0 := by
  unfold f_X8_putBehind at hf
  refine gM_of (cc := cX8_putBehind) (own := RX8) (maxL := 8) (ret := none) (by decide) rfl rfl (Nat.le_of_ble_eq_true rfl) ?_
  intro p e s m args below meth c C hr hlk hnm hE
  have ho : (some J) ≠ none := fun h => by cases h
  have f24 := C.2.2.2.2.1 (.fieldLink RX8 24 "TimesByPowers$Sums" "raisedSum" "[I") (by decide +kernel)
  have c8 : gCl wsX8_putBehind 8 RX8 TX8 10 := ⟨by decide, rfl, rfl, by decide +kernel⟩
  have m151 := C.2.2.2.2.1 (.methodLink RX8 151 arraycopyName) (by decide +kernel)
  have hacw : gAcw s args := ⟨C.2.2.2.2.1 (.native arraycopyName) (by decide +kernel), C.2.2.2.2.1 (.static arraycopyName) (by decide +kernel), C.2.2.2.2.1 (.initialized "java/lang/System") (by decide +kernel)⟩
  have f37 := C.2.2.2.2.1 (.fieldLink RX8 37 "TimesByPowers$Sums" "elements" "LTimesByPowers$Field;") (by decide +kernel)
  refine g_aload C dX8_putBehind_0 rfl ?_
  refine g_iconst (v := 0) C dX8_putBehind_2 (by decide) ?_
  obtain ⟨z1, hz1, hf⟩ := gbind hf ho
  refine g_callS C dX8_putBehind_3 (m_J7_fill_53178 l X N _ _ _   _ _ z1 hz1) gEin0 (va_cwS 2 C.2.2.2.2.1 gX8_putBehind_J7_fill_53178 rfl rfl rfl (by decide +kernel) ⟨Nat.le_of_ble_eq_true rfl, Nat.le_of_ble_eq_true rfl⟩) rfl rfl (Nat.le_of_ble_eq_true rfl) ⟨Nat.le_of_ble_eq_true rfl, Nat.le_of_ble_eq_true rfl⟩ ?_
  refine g_aload_n C dX8_putBehind_6 rfl rfl ?_
  refine g_iconst (v := 0) C dX8_putBehind_7 (by decide) ?_
  refine g_aload_n C dX8_putBehind_8 rfl rfl ?_
  refine g_getR (i := 6) (j := 6) C dX8_putBehind_9 (L37 hL (by decide) (by decide)) c8 rfl (by decide) f24 (fun _ h9 => h9) (LR37_6 hL (by decide) (by decide)) ?_
  refine g_iconst (v := 0) C dX8_putBehind_12 (by decide) ?_
  refine g_iload C dX8_putBehind_13 rfl ?_
  refine g_iconst (v := 1) C dX8_putBehind_15 (by decide) ?_
  refine g_iadd C dX8_putBehind_16 ?_
  obtain ⟨ha2, hf⟩ := gcaseF hf ho
  refine g_copy C dX8_putBehind_17 m151 hacw (gAr_at ha2) (L46 hL (by decide) (by decide)) ho hf (Nat.le_of_ble_eq_true rfl) (Nat.le_of_ble_eq_true rfl) (fun hf => ?_)
  refine g_iconst (v := 0) C dX8_putBehind_20 (by decide) ?_
  refine g_istore C dX8_putBehind_21 (Nat.le_of_ble_eq_true rfl) rfl rfl ?_
  refine g_loop (fun z3 => [(0, .ref (X.1 + 37)), (1, .ref (X.1 + a0)), (2, .int a1), (4, .int a3), (5, .ref (X.1 + a4)), (6, .int z3.1)]) (fun z3 => z3.2) (fun r4 => []) (fun r4 => r4) 106 hf ho (And.intro rfl (And.intro rfl (And.intro rfl (And.intro rfl (And.intro rfl (And.intro rfl trivial)))))) rfl (fun r4 hf => ?_) (fun z3 o1 hf ho hkz3 hez3 => ?_)
  · obtain rfl := gs1 hf
    exact g_vret C dX8_putBehind_106 hr hlk
  · refine g_iload C dX8_putBehind_23 rfl ?_
    refine g_iload_n C dX8_putBehind_25 rfl rfl ?_
    refine g_icmp_gt (tgt := 106) C dX8_putBehind_26 (by decide) hf (fun hf => ?_) (fun hf => ?_)
    · have hx := hez3 _ hf.symm
      refine g_sub ?_ hx
      exact trivial
    · refine g_iconst (v := 0) C dX8_putBehind_29 (by decide) ?_
      refine g_istore C dX8_putBehind_30 (Nat.le_of_ble_eq_true rfl) rfl rfl ?_
      refine g_loop (fun z5 => [(0, .ref (X.1 + 37)), (1, .ref (X.1 + a0)), (2, .int a1), (4, .int a3), (5, .ref (X.1 + a4)), (6, .int z3.1), (7, .int z5.1)]) (fun z5 => z5.2) (fun r6 => [(0, .ref (X.1 + 37)), (1, .ref (X.1 + a0)), (2, .int a1), (4, .int a3), (5, .ref (X.1 + a4)), (6, .int z3.1)]) (fun r6 => r6) 100 hf ho (And.intro rfl (And.intro rfl (And.intro rfl (And.intro rfl (And.intro rfl (And.intro rfl (And.intro rfl trivial))))))) rfl (fun r6 hf => ?_) (fun z5 o1 hf ho hkz5 hez5 => ?_)
      · refine g_iinc (d := 1) C dX8_putBehind_100 rfl (by decide) rfl (Nat.le_of_ble_eq_true rfl) rfl rfl ?_
        refine g_goto (tgt := 23) C dX8_putBehind_103 (by decide) ?_
        have hx := hkz3 _ hf.symm
        refine g_sub ?_ hx
        exact (And.intro rfl (And.intro rfl (And.intro rfl (And.intro rfl (And.intro rfl (And.intro rfl trivial))))))
      · refine g_iload C dX8_putBehind_32 rfl ?_
        refine g_iload C dX8_putBehind_34 rfl ?_
        refine g_icmp_gt (tgt := 100) C dX8_putBehind_36 (by decide) hf (fun hf => ?_) (fun hf => ?_)
        · have hx := hez5 _ hf.symm
          refine g_sub ?_ hx
          exact (And.intro rfl (And.intro rfl (And.intro rfl (And.intro rfl (And.intro rfl (And.intro rfl trivial))))))
        · refine g_aload C dX8_putBehind_39 rfl ?_
          refine g_iload C dX8_putBehind_41 rfl ?_
          refine g_iload C dX8_putBehind_43 rfl ?_
          refine g_iadd C dX8_putBehind_45 ?_
          refine g_aload_n C dX8_putBehind_46 rfl rfl ?_
          refine g_getR (i := 0) (j := 0) C dX8_putBehind_47 (L37 hL (by decide) (by decide)) c8 rfl (by decide) f37 (fun _ h9 => h9) (LR37_0 hL (by decide) (by decide)) ?_
          refine g_aload C dX8_putBehind_50 rfl ?_
          refine g_iload C dX8_putBehind_52 rfl ?_
          refine g_iload C dX8_putBehind_54 rfl ?_
          refine g_iadd C dX8_putBehind_56 ?_
          refine g_ialdD C dX8_putBehind_57 ho hf (fun hf => ?_)
          refine g_aload_n C dX8_putBehind_58 rfl rfl ?_
          refine g_iload C dX8_putBehind_59 rfl ?_
          refine g_ialdD C dX8_putBehind_61 ho hf (fun hf => ?_)
          refine g_aload_n C dX8_putBehind_62 rfl rfl ?_
          refine g_getR (i := 6) (j := 6) C dX8_putBehind_63 (L37 hL (by decide) (by decide)) c8 rfl (by decide) f24 (fun _ h9 => h9) (LR37_6 hL (by decide) (by decide)) ?_
          refine g_iload C dX8_putBehind_66 rfl ?_
          refine g_iald C dX8_putBehind_68 (L46 hL (by decide) (by decide)) ho hf (fun hf => ?_)
          obtain ⟨z7, hz7, hf⟩ := gbind hf ho
          refine g_callV C dX8_putBehind_69 (m_X2_plusTimes l X N _ _ _  (gLay.sub hL (by decide) (by decide)) _ _ _ z7.1 z7.2 hz7) gEin0 (cwV 3 C.2.2.2.2.1 gX8_putBehind_X2_plusTimes rfl rfl rfl (by decide +kernel) ⟨Nat.le_of_ble_eq_true rfl, Nat.le_of_ble_eq_true rfl⟩) (L6 hL (by decide) (by decide)) (by decide) rfl rfl rfl (Nat.le_of_ble_eq_true rfl) ⟨Nat.le_of_ble_eq_true rfl, Nat.le_of_ble_eq_true rfl⟩ ?_
          refine g_iastD C dX8_putBehind_72 ho hf (fun hf => ?_)
          refine g_aload_n C dX8_putBehind_73 rfl rfl ?_
          refine g_getR (i := 6) (j := 6) C dX8_putBehind_74 (L37 hL (by decide) (by decide)) c8 rfl (by decide) f24 (fun _ h9 => h9) (LR37_6 hL (by decide) (by decide)) ?_
          refine g_iload C dX8_putBehind_77 rfl ?_
          refine g_aload_n C dX8_putBehind_79 rfl rfl ?_
          refine g_getR (i := 0) (j := 0) C dX8_putBehind_80 (L37 hL (by decide) (by decide)) c8 rfl (by decide) f37 (fun _ h9 => h9) (LR37_0 hL (by decide) (by decide)) ?_
          refine g_aload_n C dX8_putBehind_83 rfl rfl ?_
          refine g_getR (i := 6) (j := 6) C dX8_putBehind_84 (L37 hL (by decide) (by decide)) c8 rfl (by decide) f24 (fun _ h9 => h9) (LR37_6 hL (by decide) (by decide)) ?_
          refine g_iload C dX8_putBehind_87 rfl ?_
          refine g_iald C dX8_putBehind_89 (L46 hL (by decide) (by decide)) ho hf (fun hf => ?_)
          obtain ⟨z8, hz8, hf⟩ := gbind hf ho
          refine g_callV C dX8_putBehind_90 (m_X2_raised l X N _ _ _  (gLay.sub hL (by decide) (by decide)) _ z8.1 z8.2 hz8) gEin0 (cwV 1 C.2.2.2.2.1 gX8_putBehind_X2_raised rfl rfl rfl (by decide +kernel) ⟨Nat.le_of_ble_eq_true rfl, Nat.le_of_ble_eq_true rfl⟩) (L6 hL (by decide) (by decide)) (by decide) rfl rfl rfl (Nat.le_of_ble_eq_true rfl) ⟨Nat.le_of_ble_eq_true rfl, Nat.le_of_ble_eq_true rfl⟩ ?_
          refine g_iast C dX8_putBehind_93 (L46 hL (by decide) (by decide)) ho hf (fun hf => ?_)
          refine g_iinc (d := 1) C dX8_putBehind_94 rfl (by decide) rfl (Nat.le_of_ble_eq_true rfl) rfl rfl ?_
          refine g_goto (tgt := 32) C dX8_putBehind_97 (by decide) ?_
          have hx := hkz5 _ hf.symm
          refine g_sub ?_ hx
          exact (And.intro rfl (And.intro rfl (And.intro rfl (And.intro rfl (And.intro rfl (And.intro rfl (And.intro rfl trivial)))))))

