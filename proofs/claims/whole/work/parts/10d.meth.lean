def f_X8_mixed (N : Nat) (I : gI) (R : gR) (S : gS) (a0 : Int32) (a1 : Int32) : Option (Int32 × gI) :=
  ((iter (σ := Int32 × gI) (ρ := gI) (fun z1 => (if (z1.2 37 5) < z1.1 then some (.inr z1.2) else if z1.1 < 0 ∨ 7 ≤ z1.1.toNatClampNeg then none else if a1 < 0 ∨ 19 ≤ a1.toNatClampNeg then none else ((f_X2_numberAt N z1.2 R S a0 z1.1).bind (fun z4 => ((f_X2_addTimes N z1.2 R S (z1.2 (39 + z1.1.toNatClampNeg) a1.toNatClampNeg) z4).bind (fun z5 => some (.inl (z1.1 + 1, z5)))))))) N ((0 : Int32), I)).bind (fun r2 => ((f_X2_folded N r2 R S).bind (fun z6 => some (z6.1, z6.2)))))
set_option maxRecDepth 100000 in
set_option maxHeartbeats 8000000 in
theorem m_X8_mixed (l : Launch) (X : gX) (N : Nat) (I : gI) (R : gR) (S : gS) (hL : gLay 6 56 R S) (a0 : Int32) (a1 : Int32) (v : Int32) (J : gI) (hf : f_X8_mixed N I R S a0 a1 = some (v, J)) : gM l yX8_mixed wsX8_mixed { frames := 1, cells := 0, slots := 0, locals := 24 } X gE0 [.ref (X.1 + 37), .int a0, .int a1] I R S (some (.int v)) J R S 0 0 := by
  unfold f_X8_mixed at hf
  refine gM_of (cc := cX8_mixed) (own := RX8) (maxL := 4) (ret := (some .int)) (by decide) rfl rfl (Nat.le_of_ble_eq_true rfl) ?_
  intro p e s m args below meth c C hr hlk hnm hE
  have ho : (some (v, J)) ≠ none := fun h => by cases h
  have f20 := C.2.2.2.2.1 (.fieldLink RX8 20 "TimesByPowers$Sums" "highestPower" "I") (by decide +kernel)
  have c8 : gCl wsX8_mixed 8 RX8 TX8 10 := ⟨by decide, rfl, rfl, by decide +kernel⟩
  have f37 := C.2.2.2.2.1 (.fieldLink RX8 37 "TimesByPowers$Sums" "elements" "LTimesByPowers$Field;") (by decide +kernel)
  have f13 := C.2.2.2.2.1 (.fieldLink RX8 13 "TimesByPowers$Sums" "powers" "[[I") (by decide +kernel)
  refine g_iconst (v := 0) C dX8_mixed_0 (by decide) ?_
  refine g_istore_n C dX8_mixed_1 rfl (Nat.le_of_ble_eq_true rfl) rfl rfl ?_
  refine g_loop (fun z1 => [(0, .ref (X.1 + 37)), (1, .int a0), (2, .int a1), (3, .int z1.1)]) (fun z1 => z1.2) (fun r2 => [(0, .ref (X.1 + 37))]) (fun r2 => r2) 40 hf ho ⟨rfl, rfl, rfl, rfl, trivial⟩ rfl (fun r2 hf => ?_) (fun z1 o1 hf ho hkz1 hez1 => ?_)
  · refine g_aload_n C dX8_mixed_40 rfl rfl ?_
    refine g_getR (i := 0) (j := 0) C dX8_mixed_41 (L37 hL (by decide) (by decide)) c8 rfl (by decide) f37 (fun _ h9 => h9) (LR37_0 hL (by decide) (by decide)) ?_
    obtain ⟨z6, hz6, hf⟩ := gbind hf ho
    refine g_callV C dX8_mixed_44 (m_X2_folded l X N _ _ _  (gLay.sub hL (by decide) (by decide))  z6.1 z6.2 hz6) gEin0 (cwV 0 C.2.2.2.2.1 gX8_mixed_X2_folded rfl rfl rfl (by decide +kernel) ⟨Nat.le_of_ble_eq_true rfl, Nat.le_of_ble_eq_true rfl⟩) (L6 hL (by decide) (by decide)) (by decide) rfl rfl rfl (Nat.le_of_ble_eq_true rfl) ⟨Nat.le_of_ble_eq_true rfl, Nat.le_of_ble_eq_true rfl⟩ ?_
    cases hf
    exact g_iret C dX8_mixed_47 hr hlk
  · refine g_iload_n C dX8_mixed_2 rfl rfl ?_
    refine g_aload_n C dX8_mixed_3 rfl rfl ?_
    refine g_getI (i := 5) (j := 5) C dX8_mixed_4 (L37 hL (by decide) (by decide)) c8 rfl f20 (fun _ h9 => h9) ?_
    refine g_icmp_gt (tgt := 40) C dX8_mixed_7 (by decide) hf (fun hf => ?_) (fun hf => ?_)
    · exact g_sub ⟨rfl, trivial⟩ (hez1 _ hf.symm)
    · refine g_aload_n C dX8_mixed_10 rfl rfl ?_
      refine g_getR (i := 0) (j := 0) C dX8_mixed_11 (L37 hL (by decide) (by decide)) c8 rfl (by decide) f37 (fun _ h9 => h9) (LR37_0 hL (by decide) (by decide)) ?_
      refine g_aload_n C dX8_mixed_14 rfl rfl ?_
      refine g_getR (i := 3) (j := 3) C dX8_mixed_15 (L37 hL (by decide) (by decide)) c8 rfl (by decide) f13 (fun _ h9 => h9) (LR37_3 hL (by decide) (by decide)) ?_
      refine g_iload_n C dX8_mixed_18 rfl rfl ?_
      refine g_aaldG 1 (fun j => 39 + j) C dX8_mixed_19 (by decide) (L38 hL (by decide) (by decide)) rfl rfl (fun j hj => LG38 hL (by decide) (by decide) hj) ho hf (fun hj3 hf => ?_)
      refine g_iload_n C dX8_mixed_20 rfl rfl ?_
      refine g_iald C dX8_mixed_21 (LH38 hL (by decide) (by decide) hj3) ho hf (fun hf => ?_)
      refine g_aload_n C dX8_mixed_22 rfl rfl ?_
      refine g_getR (i := 0) (j := 0) C dX8_mixed_23 (L37 hL (by decide) (by decide)) c8 rfl (by decide) f37 (fun _ h9 => h9) (LR37_0 hL (by decide) (by decide)) ?_
      refine g_iload_n C dX8_mixed_26 rfl rfl ?_
      refine g_iload_n C dX8_mixed_27 rfl rfl ?_
      obtain ⟨z4, hz4, hf⟩ := gbind hf ho
      refine g_callV C dX8_mixed_28 (m_X2_numberAt l X N _ _ _  (gLay.sub hL (by decide) (by decide)) _ _ z4 hz4) gEin0 (cwV 2 C.2.2.2.2.1 gX8_mixed_X2_numberAt rfl rfl rfl (by decide +kernel) ⟨Nat.le_of_ble_eq_true rfl, Nat.le_of_ble_eq_true rfl⟩) (L6 hL (by decide) (by decide)) (by decide) rfl rfl rfl (Nat.le_of_ble_eq_true rfl) ⟨Nat.le_of_ble_eq_true rfl, Nat.le_of_ble_eq_true rfl⟩ ?_
      obtain ⟨z5, hz5, hf⟩ := gbind hf ho
      refine g_callV C dX8_mixed_31 (m_X2_addTimes l X N _ _ _  (gLay.sub hL (by decide) (by decide)) _ _ z5 hz5) gEin0 (cwV 2 C.2.2.2.2.1 gX8_mixed_X2_addTimes rfl rfl rfl (by decide +kernel) ⟨Nat.le_of_ble_eq_true rfl, Nat.le_of_ble_eq_true rfl⟩) (L6 hL (by decide) (by decide)) (by decide) rfl rfl rfl (Nat.le_of_ble_eq_true rfl) ⟨Nat.le_of_ble_eq_true rfl, Nat.le_of_ble_eq_true rfl⟩ ?_
      refine g_iinc (d := 1) C dX8_mixed_34 rfl (by decide) rfl (Nat.le_of_ble_eq_true rfl) rfl rfl ?_
      refine g_goto (tgt := 2) C dX8_mixed_37 (by decide) ?_
      exact g_sub ⟨rfl, rfl, rfl, rfl, trivial⟩ (hkz1 _ hf.symm)
def f_X8_heightOf (N : Nat) (I : gI) (R : gR) (S : gS) (a0 : Nat) : Option (Int32 × gI) :=
  if gWb R S a0 = true then ((f_X8_lengthOf N I R S a0 (I a0 2)).bind (fun z1 => ((f_X8_raisePowers N I R S a0 (I a0 3)).bind (fun z2 => ((iter (σ := Int32 × gI) (ρ := Int32 × gI) (fun z3 => (if z1 ≤ z3.1 then some (.inr (z3.1, z3.2)) else ((f_X8_mixed N z3.2 R S (z3.2 a0 2) z3.1).bind (fun z5 => (if z5.1 = 0 then some (.inl (z3.1 + 1, z5.2)) else some (.inr (z3.1, z5.2))))))) N ((0 : Int32), z2)).bind (fun r4 => (if (r4.2 a0 3) ≤ 0 then some ((0 : Int32), r4.2) else if (r4.2 a0 3) = 0 then none else some (r4.1 / (r4.2 a0 3), r4.2)))))))) else none
set_option maxRecDepth 100000 in
set_option maxHeartbeats 8000000 in
theorem m_X8_heightOf (l : Launch) (X : gX) (N : Nat) (I : gI) (R : gR) (S : gS) (hL : gLay 6 56 R S) (a0 : Nat) (v : Int32) (J : gI) (hf : f_X8_heightOf N I R S a0 = some (v, J)) : gM l yX8_heightOf wsX8_heightOf { frames := 4, cells := 0, slots := 0, locals := 100 } X gE0 [.ref (X.1 + 37), .ref (X.1 + a0)] I R S (some (.int v)) J R S 0 0 := by
  unfold f_X8_heightOf at hf
  refine gM_of (cc := cX8_heightOf) (own := RX8) (maxL := 4) (ret := (some .int)) (by decide) rfl rfl (Nat.le_of_ble_eq_true rfl) ?_
  intro p e s m args below meth c C hr hlk hnm hE
  have ho : (some (v, J)) ≠ none := fun h => by cases h
  have f107 := C.2.2.2.2.1 (.fieldLink RX8 107 "TimesByPowers$World" "own" "I") (by decide +kernel)
  have cw : gWc wsX8_heightOf := ⟨⟨by decide, rfl, rfl, by decide +kernel⟩, ⟨by decide, rfl, rfl, by decide +kernel⟩, ⟨by decide, rfl, rfl, by decide +kernel⟩, ⟨by decide, rfl, rfl, by decide +kernel⟩⟩
  have f116 := C.2.2.2.2.1 (.fieldLink RX8 116 "TimesByPowers$World" "d" "I") (by decide +kernel)
  obtain ⟨hwa0, hf⟩ := gcase hf ho
  refine g_aload_n C dX8_heightOf_0 rfl rfl ?_
  refine g_aload_n C dX8_heightOf_1 rfl rfl ?_
  refine g_aload_n C dX8_heightOf_2 rfl rfl ?_
  refine g_getWI 2 C dX8_heightOf_3 hwa0 cw ⟨rfl, rfl, rfl, rfl⟩ f107 ⟨rfl, rfl, rfl, rfl⟩ ?_
  obtain ⟨z1, hz1, hf⟩ := gbind hf ho
  refine g_callV C dX8_heightOf_6 (m_X8_lengthOf l X N _ _ _  (gLay.sub hL (by decide) (by decide)) _ _ z1 hz1) gEin0 (cwV 2 C.2.2.2.2.1 gX8_heightOf_X8_lengthOf rfl rfl rfl (by decide +kernel) ⟨Nat.le_of_ble_eq_true rfl, Nat.le_of_ble_eq_true rfl⟩) (L37 hL (by decide) (by decide)) (by decide) rfl rfl rfl (Nat.le_of_ble_eq_true rfl) ⟨Nat.le_of_ble_eq_true rfl, Nat.le_of_ble_eq_true rfl⟩ ?_
  refine g_istore_n C dX8_heightOf_9 rfl (Nat.le_of_ble_eq_true rfl) rfl rfl ?_
  refine g_iconst (v := 0) C dX8_heightOf_10 (by decide) ?_
  refine g_istore_n C dX8_heightOf_11 rfl (Nat.le_of_ble_eq_true rfl) rfl rfl ?_
  refine g_aload_n C dX8_heightOf_12 rfl rfl ?_
  refine g_aload_n C dX8_heightOf_13 rfl rfl ?_
  refine g_aload_n C dX8_heightOf_14 rfl rfl ?_
  refine g_getWI 3 C dX8_heightOf_15 hwa0 cw ⟨rfl, rfl, rfl, rfl⟩ f116 ⟨rfl, rfl, rfl, rfl⟩ ?_
  obtain ⟨z2, hz2, hf⟩ := gbind hf ho
  refine g_callV C dX8_heightOf_18 (m_X8_raisePowers l X N _ _ _  (gLay.sub hL (by decide) (by decide)) _ _ z2 hz2) gEin0 (cwV 2 C.2.2.2.2.1 gX8_heightOf_X8_raisePowers rfl rfl rfl (by decide +kernel) ⟨Nat.le_of_ble_eq_true rfl, Nat.le_of_ble_eq_true rfl⟩) (L37 hL (by decide) (by decide)) (by decide) rfl rfl rfl (Nat.le_of_ble_eq_true rfl) ⟨Nat.le_of_ble_eq_true rfl, Nat.le_of_ble_eq_true rfl⟩ ?_
  refine g_loop (fun z3 => [(0, .ref (X.1 + 37)), (1, .ref (X.1 + a0)), (2, .int z1), (3, .int z3.1)]) (fun z3 => z3.2) (fun r4 => [(1, .ref (X.1 + a0)), (3, .int r4.1)]) (fun r4 => r4.2) 44 hf ho ⟨rfl, rfl, rfl, rfl, trivial⟩ rfl (fun r4 hf => ?_) (fun z3 o1 hf ho hkz3 hez3 => ?_)
  · refine g_aload_n C dX8_heightOf_44 rfl rfl ?_
    refine g_getWI 3 C dX8_heightOf_45 hwa0 cw ⟨rfl, rfl, rfl, rfl⟩ f116 ⟨rfl, rfl, rfl, rfl⟩ ?_
    refine g_if_le (tgt := 60) C dX8_heightOf_48 (by decide) hf (fun hf => ?_) (fun hf => ?_)
    · refine g_iconst (v := 0) C dX8_heightOf_60 (by decide) ?_
      cases hf
      exact g_iret C dX8_heightOf_61 hr hlk
    · refine g_iload_n C dX8_heightOf_51 rfl rfl ?_
      refine g_aload_n C dX8_heightOf_52 rfl rfl ?_
      refine g_getWI 3 C dX8_heightOf_53 hwa0 cw ⟨rfl, rfl, rfl, rfl⟩ f116 ⟨rfl, rfl, rfl, rfl⟩ ?_
      refine g_idiv C dX8_heightOf_56 ho hf (fun hf => ?_)
      refine g_goto (tgt := 61) C dX8_heightOf_57 (by decide) ?_
      cases hf
      exact g_iret C dX8_heightOf_61 hr hlk
  · refine g_iload_n C dX8_heightOf_21 rfl rfl ?_
    refine g_iload_n C dX8_heightOf_22 rfl rfl ?_
    refine g_icmp_ge (tgt := 44) C dX8_heightOf_23 (by decide) hf (fun hf => ?_) (fun hf => ?_)
    · exact g_sub ⟨rfl, rfl, trivial⟩ (hez3 _ hf.symm)
    · refine g_aload_n C dX8_heightOf_26 rfl rfl ?_
      refine g_aload_n C dX8_heightOf_27 rfl rfl ?_
      refine g_getWI 2 C dX8_heightOf_28 hwa0 cw ⟨rfl, rfl, rfl, rfl⟩ f107 ⟨rfl, rfl, rfl, rfl⟩ ?_
      refine g_iload_n C dX8_heightOf_31 rfl rfl ?_
      obtain ⟨z5, hz5, hf⟩ := gbind hf ho
      refine g_callV C dX8_heightOf_32 (m_X8_mixed l X N _ _ _  (gLay.sub hL (by decide) (by decide)) _ _ z5.1 z5.2 hz5) gEin0 (cwV 2 C.2.2.2.2.1 gX8_heightOf_X8_mixed rfl rfl rfl (by decide +kernel) ⟨Nat.le_of_ble_eq_true rfl, Nat.le_of_ble_eq_true rfl⟩) (L37 hL (by decide) (by decide)) (by decide) rfl rfl rfl (Nat.le_of_ble_eq_true rfl) ⟨Nat.le_of_ble_eq_true rfl, Nat.le_of_ble_eq_true rfl⟩ ?_
      refine g_if_ne (tgt := 44) C dX8_heightOf_35 (by decide) hf (fun hf => ?_) (fun hf => ?_)
      · exact g_sub ⟨rfl, rfl, trivial⟩ (hez3 _ hf.symm)
      · refine g_iinc (d := 1) C dX8_heightOf_38 rfl (by decide) rfl (Nat.le_of_ble_eq_true rfl) rfl rfl ?_
        refine g_goto (tgt := 21) C dX8_heightOf_41 (by decide) ?_
        exact g_sub ⟨rfl, rfl, rfl, rfl, trivial⟩ (hkz3 _ hf.symm)
def f_X8_worldOf (N : Nat) (I : gI) (R : gR) (S : gS) (a0 : Nat) (a1 : Int32) : Option (Nat × gI × gR × gS) :=
  if (0 : Int32) < 0 ∨ gLn S a0 ≤ (0 : Int32).toNatClampNeg then none else ((f_X8_ownOf N I R S (I a0 (0 : Int32).toNatClampNeg)).bind (fun z1 => ((f_X2_degreeOf N z1.2 R S z1.1).bind (fun z2 => (if a1 = (1 : Int32) then ((f_X3_init N (gZ z1.2 S.length) (gZn R S.length) (S ++ [(3, 4)]) S.length a0 z1.1 z2).bind (fun z11 => some (S.length, z11.1, z11.2.1, z11.2.2))) else (if a1 = (3 : Int32) then ((f_X1_init N (gZ z1.2 S.length) (gZn R S.length) (S ++ [(1, 4)]) S.length a0 z1.1 z2).bind (fun z10 => some (S.length, z10.1, z10.2.1, z10.2.2))) else if (1 : Int32) < 0 ∨ gLn S a0 ≤ (1 : Int32).toNatClampNeg then none else ((f_X2_power N z1.2 R S (z1.2 a0 (1 : Int32).toNatClampNeg) ((z1.2 6 0) + (1 : Int32))).bind (fun z3 => if (2 : Int32) < 0 ∨ gLn S a0 ≤ (2 : Int32).toNatClampNeg then none else ((f_X2_inverse N z3.2 R S (z3.2 a0 (2 : Int32).toNatClampNeg)).bind (fun z4 => ((f_X2_times N z4.2 R S z3.1 z4.1).bind (fun z5 => ((f_X4_init N (gZ z5.2 S.length) (gZn R S.length) (S ++ [(4, 5)]) S.length a0 z1.1 z2 z5.1).bind (fun z6 => if gLayb 6 56 z6.2.1 z6.2.2 = true then ((f_X8_heightOf N z6.1 z6.2.1 z6.2.2 S.length).bind (fun z7 => (if z7.1 = (2 : Int32) then ((f_X7_init N (gZ z7.2 z6.2.2.length) (gZn z6.2.1 z6.2.2.length) (z6.2.2 ++ [(7, 5)]) z6.2.2.length S.length).bind (fun z9 => some (z6.2.2.length, z9.1, z9.2.1, z9.2.2))) else some (S.length, z7.2, z6.2.1, z6.2.2)))) else none))))))))))))))
set_option maxRecDepth 100000 in
set_option maxHeartbeats 8000000 in
theorem m_X8_worldOf (l : Launch) (X : gX) (N : Nat) (I : gI) (R : gR) (S : gS) (hL : gLay 6 56 R S) (a0 : Nat) (a1 : Int32) (v : Nat) (J : gI) (P : gR) (T : gS) (hf : f_X8_worldOf N I R S a0 a1 = some (v, J, P, T)) : gM l yX8_worldOf wsX8_worldOf { frames := 5, cells := 2, slots := 10, locals := 123 } X gE0 [.ref (X.1 + 37), .ref (X.1 + a0), .int a1] I R S (some (.ref (X.1 + v))) J P T 2 10 := by
  unfold f_X8_worldOf at hf
  refine gM_of (cc := cX8_worldOf) (own := RX8) (maxL := 7) (ret := (some (.object "TimesByPowers$World"))) (by decide) rfl rfl (Nat.le_of_ble_eq_true rfl) ?_
  intro p e s m args below meth c C hr hlk hnm hE
  have ho : (some (v, J, P, T)) ≠ none := fun h => by cases h
  have f37 := C.2.2.2.2.1 (.fieldLink RX8 37 "TimesByPowers$Sums" "elements" "LTimesByPowers$Field;") (by decide +kernel)
  have c8 : gCl wsX8_worldOf 8 RX8 TX8 10 := ⟨by decide, rfl, rfl, by decide +kernel⟩
  have f66 := C.2.2.2.2.1 (.fieldLink RX8 66 "TimesByPowers$Field" "p" "I") (by decide +kernel)
  have c2 : gCl wsX8_worldOf 2 RX2 TX2 8 := ⟨by decide, rfl, rfl, by decide +kernel⟩
  have c4 : gCl wsX8_worldOf 4 RX4 TX4 5 := ⟨by decide, rfl, rfl, by decide +kernel⟩
  have cl79 := C.2.2.2.2.1 (.classLink RX8 79 RX4) (by decide +kernel)
  have inX4 := C.2.2.2.2.1 (.instantiable RX4 5) (by decide +kernel)
  have niX4 := C.2.2.2.2.1 (.initialized RX4) (by decide +kernel)
  have imX4 := C.2.2.2.2.1 (.instanceMethod yX4_init) (by decide +kernel)
  have m81 := C.2.2.2.2.1 (.methodLink RX8 81 yX4_init) (by decide +kernel)
  have c7 : gCl wsX8_worldOf 7 RX7 TX7 5 := ⟨by decide, rfl, rfl, by decide +kernel⟩
  have cl88 := C.2.2.2.2.1 (.classLink RX8 88 RX7) (by decide +kernel)
  have inX7 := C.2.2.2.2.1 (.instantiable RX7 5) (by decide +kernel)
  have niX7 := C.2.2.2.2.1 (.initialized RX7) (by decide +kernel)
  have imX7 := C.2.2.2.2.1 (.instanceMethod yX7_init) (by decide +kernel)
  have m90 := C.2.2.2.2.1 (.methodLink RX8 90 yX7_init) (by decide +kernel)
  have c1 : gCl wsX8_worldOf 1 RX1 TX1 4 := ⟨by decide, rfl, rfl, by decide +kernel⟩
  have cl63 := C.2.2.2.2.1 (.classLink RX8 63 RX1) (by decide +kernel)
  have inX1 := C.2.2.2.2.1 (.instantiable RX1 4) (by decide +kernel)
  have niX1 := C.2.2.2.2.1 (.initialized RX1) (by decide +kernel)
  have imX1 := C.2.2.2.2.1 (.instanceMethod yX1_init) (by decide +kernel)
  have m65 := C.2.2.2.2.1 (.methodLink RX8 65 yX1_init) (by decide +kernel)
  have c3 : gCl wsX8_worldOf 3 RX3 TX3 4 := ⟨by decide, rfl, rfl, by decide +kernel⟩
  have cl58 := C.2.2.2.2.1 (.classLink RX8 58 RX3) (by decide +kernel)
  have inX3 := C.2.2.2.2.1 (.instantiable RX3 4) (by decide +kernel)
  have niX3 := C.2.2.2.2.1 (.initialized RX3) (by decide +kernel)
  have imX3 := C.2.2.2.2.1 (.instanceMethod yX3_init) (by decide +kernel)
  have m60 := C.2.2.2.2.1 (.methodLink RX8 60 yX3_init) (by decide +kernel)
  refine g_aload_n C dX8_worldOf_0 rfl rfl ?_
  refine g_aload_n C dX8_worldOf_1 rfl rfl ?_
  refine g_iconst (v := 0) C dX8_worldOf_2 (by decide) ?_
  refine g_ialdD C dX8_worldOf_3 ho hf (fun hf => ?_)
  obtain ⟨z1, hz1, hf⟩ := gbind hf ho
  refine g_callV C dX8_worldOf_4 (m_X8_ownOf l X N _ _ _  (gLay.sub hL (by decide) (by decide)) _ z1.1 z1.2 hz1) gEin0 (cwV 1 C.2.2.2.2.1 gX8_worldOf_X8_ownOf rfl rfl rfl (by decide +kernel) ⟨Nat.le_of_ble_eq_true rfl, Nat.le_of_ble_eq_true rfl⟩) (L37 hL (by decide) (by decide)) (by decide) rfl rfl rfl (Nat.le_of_ble_eq_true rfl) ⟨Nat.le_of_ble_eq_true rfl, Nat.le_of_ble_eq_true rfl⟩ ?_
  refine g_istore_n C dX8_worldOf_7 rfl (Nat.le_of_ble_eq_true rfl) rfl rfl ?_
  refine g_aload_n C dX8_worldOf_8 rfl rfl ?_
  refine g_getR (i := 0) (j := 0) C dX8_worldOf_9 (L37 hL (by decide) (by decide)) c8 rfl (by decide) f37 (fun _ h9 => h9) (LR37_0 hL (by decide) (by decide)) ?_
  refine g_iload_n C dX8_worldOf_12 rfl rfl ?_
  obtain ⟨z2, hz2, hf⟩ := gbind hf ho
  refine g_callV C dX8_worldOf_13 (m_X2_degreeOf l X N _ _ _  (gLay.sub hL (by decide) (by decide)) _ z2 hz2) gEin0 (cwV 1 C.2.2.2.2.1 gX8_worldOf_X2_degreeOf rfl rfl rfl (by decide +kernel) ⟨Nat.le_of_ble_eq_true rfl, Nat.le_of_ble_eq_true rfl⟩) (L6 hL (by decide) (by decide)) (by decide) rfl rfl rfl (Nat.le_of_ble_eq_true rfl) ⟨Nat.le_of_ble_eq_true rfl, Nat.le_of_ble_eq_true rfl⟩ ?_
  refine g_istore C dX8_worldOf_16 (Nat.le_of_ble_eq_true rfl) rfl rfl ?_
  refine g_iload_n C dX8_worldOf_18 rfl rfl ?_
  refine g_iconst (v := 1) C dX8_worldOf_19 (by decide) ?_
  refine g_icmp_ne (tgt := 35) C dX8_worldOf_20 (by decide) hf (fun hf => ?_) (fun hf => ?_)
  · refine g_iload_n C dX8_worldOf_35 rfl rfl ?_
    refine g_iconst (v := 3) C dX8_worldOf_36 (by decide) ?_
    refine g_icmp_ne (tgt := 52) C dX8_worldOf_37 (by decide) hf (fun hf => ?_) (fun hf => ?_)
    · refine g_aload_n C dX8_worldOf_52 rfl rfl ?_
      refine g_getR (i := 0) (j := 0) C dX8_worldOf_53 (L37 hL (by decide) (by decide)) c8 rfl (by decide) f37 (fun _ h9 => h9) (LR37_0 hL (by decide) (by decide)) ?_
      refine g_aload_n C dX8_worldOf_56 rfl rfl ?_
      refine g_getR (i := 0) (j := 0) C dX8_worldOf_57 (L37 hL (by decide) (by decide)) c8 rfl (by decide) f37 (fun _ h9 => h9) (LR37_0 hL (by decide) (by decide)) ?_
      refine g_aload_n C dX8_worldOf_60 rfl rfl ?_
      refine g_iconst (v := 1) C dX8_worldOf_61 (by decide) ?_
      refine g_ialdD C dX8_worldOf_62 ho hf (fun hf => ?_)
      refine g_aload_n C dX8_worldOf_63 rfl rfl ?_
      refine g_getR (i := 0) (j := 0) C dX8_worldOf_64 (L37 hL (by decide) (by decide)) c8 rfl (by decide) f37 (fun _ h9 => h9) (LR37_0 hL (by decide) (by decide)) ?_
      refine g_getI (i := 0) (j := 0) C dX8_worldOf_67 (L6 hL (by decide) (by decide)) c2 rfl f66 (fun _ h9 => h9) ?_
      refine g_iconst (v := 1) C dX8_worldOf_70 (by decide) ?_
      refine g_iadd C dX8_worldOf_71 ?_
      obtain ⟨z3, hz3, hf⟩ := gbind hf ho
      refine g_callV C dX8_worldOf_72 (m_X2_power l X N _ _ _  (gLay.sub hL (by decide) (by decide)) _ _ z3.1 z3.2 hz3) gEin0 (cwV 2 C.2.2.2.2.1 gX8_worldOf_X2_power rfl rfl rfl (by decide +kernel) ⟨Nat.le_of_ble_eq_true rfl, Nat.le_of_ble_eq_true rfl⟩) (L6 hL (by decide) (by decide)) (by decide) rfl rfl rfl (Nat.le_of_ble_eq_true rfl) ⟨Nat.le_of_ble_eq_true rfl, Nat.le_of_ble_eq_true rfl⟩ ?_
      refine g_aload_n C dX8_worldOf_75 rfl rfl ?_
      refine g_getR (i := 0) (j := 0) C dX8_worldOf_76 (L37 hL (by decide) (by decide)) c8 rfl (by decide) f37 (fun _ h9 => h9) (LR37_0 hL (by decide) (by decide)) ?_
      refine g_aload_n C dX8_worldOf_79 rfl rfl ?_
      refine g_iconst (v := 2) C dX8_worldOf_80 (by decide) ?_
      refine g_ialdD C dX8_worldOf_81 ho hf (fun hf => ?_)
      obtain ⟨z4, hz4, hf⟩ := gbind hf ho
      refine g_callV C dX8_worldOf_82 (m_X2_inverse l X N _ _ _  (gLay.sub hL (by decide) (by decide)) _ z4.1 z4.2 hz4) gEin0 (cwV 1 C.2.2.2.2.1 gX8_worldOf_X2_inverse rfl rfl rfl (by decide +kernel) ⟨Nat.le_of_ble_eq_true rfl, Nat.le_of_ble_eq_true rfl⟩) (L6 hL (by decide) (by decide)) (by decide) rfl rfl rfl (Nat.le_of_ble_eq_true rfl) ⟨Nat.le_of_ble_eq_true rfl, Nat.le_of_ble_eq_true rfl⟩ ?_
      obtain ⟨z5, hz5, hf⟩ := gbind hf ho
      refine g_callV C dX8_worldOf_85 (m_X2_times l X N _ _ _  (gLay.sub hL (by decide) (by decide)) _ _ z5.1 z5.2 hz5) gEin0 (cwV 2 C.2.2.2.2.1 gX8_worldOf_X2_times rfl rfl rfl (by decide +kernel) ⟨Nat.le_of_ble_eq_true rfl, Nat.le_of_ble_eq_true rfl⟩) (L6 hL (by decide) (by decide)) (by decide) rfl rfl rfl (Nat.le_of_ble_eq_true rfl) ⟨Nat.le_of_ble_eq_true rfl, Nat.le_of_ble_eq_true rfl⟩ ?_
      refine g_istore C dX8_worldOf_88 (Nat.le_of_ble_eq_true rfl) rfl rfl ?_
      refine g_new (q := S.length) C dX8_worldOf_90 c4 gy4 cl79 inX4 niX4 gd4 ⟨Nat.le_of_ble_eq_true rfl, Nat.le_of_ble_eq_true rfl⟩ rfl ?_
      refine g_dup C dX8_worldOf_93 rfl ?_
      refine g_aload_n C dX8_worldOf_94 rfl rfl ?_
      refine g_iload_n C dX8_worldOf_95 rfl rfl ?_
      refine g_iload C dX8_worldOf_96 rfl ?_
      refine g_iload C dX8_worldOf_98 rfl ?_
      obtain ⟨z6, hz6, hf⟩ := gbind hf ho
      refine g_callI C dX8_worldOf_100 (m_X4_init l X N _ _ _   _ _ _ _ _ z6.1 z6.2.1 z6.2.2 hz6) gEin0 (cwI 4 C.2.2.2.2.1 gX8_worldOf_X4_init rfl rfl rfl niX4 m81 imX4 rfl (by decide +kernel) ⟨Nat.le_of_ble_eq_true rfl, Nat.le_of_ble_eq_true rfl⟩) rfl rfl (Nat.le_of_ble_eq_true rfl) ⟨Nat.le_of_ble_eq_true rfl, Nat.le_of_ble_eq_true rfl⟩ ?_
      refine g_astore C dX8_worldOf_103 (Nat.le_of_ble_eq_true rfl) rfl rfl ?_
      refine g_aload_n C dX8_worldOf_105 rfl rfl ?_
      refine g_aload C dX8_worldOf_106 rfl ?_
      obtain ⟨hL8, hf⟩ := gcase hf ho
      have hL8 := gLayb_ok (by decide) hL8
      obtain ⟨z7, hz7, hf⟩ := gbind hf ho
      refine g_callV C dX8_worldOf_108 (m_X8_heightOf l X N _ _ _  (gLay.sub hL8 (by decide) (by decide)) _ z7.1 z7.2 hz7) gEin0 (cwV 1 C.2.2.2.2.1 gX8_worldOf_X8_heightOf rfl rfl rfl (by decide +kernel) ⟨Nat.le_of_ble_eq_true rfl, Nat.le_of_ble_eq_true rfl⟩) (L37 hL8 (by decide) (by decide)) (by decide) rfl rfl rfl (Nat.le_of_ble_eq_true rfl) ⟨Nat.le_of_ble_eq_true rfl, Nat.le_of_ble_eq_true rfl⟩ ?_
      refine g_iconst (v := 2) C dX8_worldOf_111 (by decide) ?_
      refine g_icmp_ne (tgt := 127) C dX8_worldOf_112 (by decide) hf (fun hf => ?_) (fun hf => ?_)
      · refine g_aload C dX8_worldOf_127 rfl ?_
        cases hf
        refine g_widen (k := 2) (n := 10) (Nat.le_of_ble_eq_true rfl) (Nat.le_of_ble_eq_true rfl) ?_
        exact g_aret C dX8_worldOf_129 hr (by first | exact Or.inl ⟨_, rfl⟩ | exact Or.inr ⟨_, rfl⟩) hlk
      · refine g_new (q := z6.2.2.length) C dX8_worldOf_115 c7 gy7 cl88 inX7 niX7 gd7 ⟨Nat.le_of_ble_eq_true rfl, Nat.le_of_ble_eq_true rfl⟩ rfl ?_
        refine g_dup C dX8_worldOf_118 rfl ?_
        refine g_aload C dX8_worldOf_119 rfl ?_
        obtain ⟨z9, hz9, hf⟩ := gbind hf ho
        refine g_callI C dX8_worldOf_121 (m_X7_init l X N _ _ _   _ _ z9.1 z9.2.1 z9.2.2 hz9) gEin0 (cwI 1 C.2.2.2.2.1 gX8_worldOf_X7_init rfl rfl rfl niX7 m90 imX7 rfl (by decide +kernel) ⟨Nat.le_of_ble_eq_true rfl, Nat.le_of_ble_eq_true rfl⟩) rfl rfl (Nat.le_of_ble_eq_true rfl) ⟨Nat.le_of_ble_eq_true rfl, Nat.le_of_ble_eq_true rfl⟩ ?_
        refine g_goto (tgt := 129) C dX8_worldOf_124 (by decide) ?_
        cases hf
        refine g_widen (k := 2) (n := 10) (Nat.le_of_ble_eq_true rfl) (Nat.le_of_ble_eq_true rfl) ?_
        exact g_aret C dX8_worldOf_129 hr (by first | exact Or.inl ⟨_, rfl⟩ | exact Or.inr ⟨_, rfl⟩) hlk
    · refine g_new (q := S.length) C dX8_worldOf_40 c1 gy1 cl63 inX1 niX1 gd1 ⟨Nat.le_of_ble_eq_true rfl, Nat.le_of_ble_eq_true rfl⟩ rfl ?_
      refine g_dup C dX8_worldOf_43 rfl ?_
      refine g_aload_n C dX8_worldOf_44 rfl rfl ?_
      refine g_iload_n C dX8_worldOf_45 rfl rfl ?_
      refine g_iload C dX8_worldOf_46 rfl ?_
      obtain ⟨z10, hz10, hf⟩ := gbind hf ho
      refine g_callI C dX8_worldOf_48 (m_X1_init l X N _ _ _   _ _ _ _ z10.1 z10.2.1 z10.2.2 hz10) gEin0 (cwI 3 C.2.2.2.2.1 gX8_worldOf_X1_init rfl rfl rfl niX1 m65 imX1 rfl (by decide +kernel) ⟨Nat.le_of_ble_eq_true rfl, Nat.le_of_ble_eq_true rfl⟩) rfl rfl (Nat.le_of_ble_eq_true rfl) ⟨Nat.le_of_ble_eq_true rfl, Nat.le_of_ble_eq_true rfl⟩ ?_
      cases hf
      refine g_widen (k := 2) (n := 10) (Nat.le_of_ble_eq_true rfl) (Nat.le_of_ble_eq_true rfl) ?_
      exact g_aret C dX8_worldOf_51 hr (by first | exact Or.inl ⟨_, rfl⟩ | exact Or.inr ⟨_, rfl⟩) hlk
  · refine g_new (q := S.length) C dX8_worldOf_23 c3 gy3 cl58 inX3 niX3 gd3 ⟨Nat.le_of_ble_eq_true rfl, Nat.le_of_ble_eq_true rfl⟩ rfl ?_
    refine g_dup C dX8_worldOf_26 rfl ?_
    refine g_aload_n C dX8_worldOf_27 rfl rfl ?_
    refine g_iload_n C dX8_worldOf_28 rfl rfl ?_
    refine g_iload C dX8_worldOf_29 rfl ?_
    obtain ⟨z11, hz11, hf⟩ := gbind hf ho
    refine g_callI C dX8_worldOf_31 (m_X3_init l X N _ _ _   _ _ _ _ z11.1 z11.2.1 z11.2.2 hz11) gEin0 (cwI 3 C.2.2.2.2.1 gX8_worldOf_X3_init rfl rfl rfl niX3 m60 imX3 rfl (by decide +kernel) ⟨Nat.le_of_ble_eq_true rfl, Nat.le_of_ble_eq_true rfl⟩) rfl rfl (Nat.le_of_ble_eq_true rfl) ⟨Nat.le_of_ble_eq_true rfl, Nat.le_of_ble_eq_true rfl⟩ ?_
    cases hf
    refine g_widen (k := 2) (n := 10) (Nat.le_of_ble_eq_true rfl) (Nat.le_of_ble_eq_true rfl) ?_
    exact g_aret C dX8_worldOf_34 hr (by first | exact Or.inl ⟨_, rfl⟩ | exact Or.inr ⟨_, rfl⟩) hlk
def f_X8_numberOf (N : Nat) (I : gI) (R : gR) (S : gS) (a0 : Nat) (a1 : Int32) (a2 : Int32) : Option (Int32 × gI) :=
  if gWb R S a0 = true then ((f_X2_degreeOf N I R S a1).bind (fun z1 => ((f_X8_raisePowers N I R S a0 z1).bind (fun z2 => ((f_X8_mixed N z2 R S a1 a2).bind (fun z3 => some (z3.1, z3.2))))))) else none
set_option maxRecDepth 100000 in
set_option maxHeartbeats 8000000 in
theorem m_X8_numberOf (l : Launch) (X : gX) (N : Nat) (I : gI) (R : gR) (S : gS) (hL : gLay 6 56 R S) (a0 : Nat) (a1 : Int32) (a2 : Int32) (v : Int32) (J : gI) (hf : f_X8_numberOf N I R S a0 a1 a2 = some (v, J)) : gM l yX8_numberOf wsX8_numberOf { frames := 4, cells := 0, slots := 0, locals := 100 } X gE0 [.ref (X.1 + 37), .ref (X.1 + a0), .int a1, .int a2] I R S (some (.int v)) J R S 0 0 := by
  unfold f_X8_numberOf at hf
  refine gM_of (cc := cX8_numberOf) (own := RX8) (maxL := 4) (ret := (some .int)) (by decide) rfl rfl (Nat.le_of_ble_eq_true rfl) ?_
  intro p e s m args below meth c C hr hlk hnm hE
  have ho : (some (v, J)) ≠ none := fun h => by cases h
  have f37 := C.2.2.2.2.1 (.fieldLink RX8 37 "TimesByPowers$Sums" "elements" "LTimesByPowers$Field;") (by decide +kernel)
  have c8 : gCl wsX8_numberOf 8 RX8 TX8 10 := ⟨by decide, rfl, rfl, by decide +kernel⟩
  obtain ⟨hwa0, hf⟩ := gcase hf ho
  refine g_aload_n C dX8_numberOf_0 rfl rfl ?_
  refine g_aload_n C dX8_numberOf_1 rfl rfl ?_
  refine g_aload_n C dX8_numberOf_2 rfl rfl ?_
  refine g_getR (i := 0) (j := 0) C dX8_numberOf_3 (L37 hL (by decide) (by decide)) c8 rfl (by decide) f37 (fun _ h9 => h9) (LR37_0 hL (by decide) (by decide)) ?_
  refine g_iload_n C dX8_numberOf_6 rfl rfl ?_
  obtain ⟨z1, hz1, hf⟩ := gbind hf ho
  refine g_callV C dX8_numberOf_7 (m_X2_degreeOf l X N _ _ _  (gLay.sub hL (by decide) (by decide)) _ z1 hz1) gEin0 (cwV 1 C.2.2.2.2.1 gX8_numberOf_X2_degreeOf rfl rfl rfl (by decide +kernel) ⟨Nat.le_of_ble_eq_true rfl, Nat.le_of_ble_eq_true rfl⟩) (L6 hL (by decide) (by decide)) (by decide) rfl rfl rfl (Nat.le_of_ble_eq_true rfl) ⟨Nat.le_of_ble_eq_true rfl, Nat.le_of_ble_eq_true rfl⟩ ?_
  obtain ⟨z2, hz2, hf⟩ := gbind hf ho
  refine g_callV C dX8_numberOf_10 (m_X8_raisePowers l X N _ _ _  (gLay.sub hL (by decide) (by decide)) _ _ z2 hz2) gEin0 (cwV 2 C.2.2.2.2.1 gX8_numberOf_X8_raisePowers rfl rfl rfl (by decide +kernel) ⟨Nat.le_of_ble_eq_true rfl, Nat.le_of_ble_eq_true rfl⟩) (L37 hL (by decide) (by decide)) (by decide) rfl rfl rfl (Nat.le_of_ble_eq_true rfl) ⟨Nat.le_of_ble_eq_true rfl, Nat.le_of_ble_eq_true rfl⟩ ?_
  refine g_aload_n C dX8_numberOf_13 rfl rfl ?_
  refine g_iload_n C dX8_numberOf_14 rfl rfl ?_
  refine g_iload_n C dX8_numberOf_15 rfl rfl ?_
  obtain ⟨z3, hz3, hf⟩ := gbind hf ho
  refine g_callV C dX8_numberOf_16 (m_X8_mixed l X N _ _ _  (gLay.sub hL (by decide) (by decide)) _ _ z3.1 z3.2 hz3) gEin0 (cwV 2 C.2.2.2.2.1 gX8_numberOf_X8_mixed rfl rfl rfl (by decide +kernel) ⟨Nat.le_of_ble_eq_true rfl, Nat.le_of_ble_eq_true rfl⟩) (L37 hL (by decide) (by decide)) (by decide) rfl rfl rfl (Nat.le_of_ble_eq_true rfl) ⟨Nat.le_of_ble_eq_true rfl, Nat.le_of_ble_eq_true rfl⟩ ?_
  cases hf
  exact g_iret C dX8_numberOf_19 hr hlk
def f_X8_divideBy (N : Nat) (I : gI) (R : gR) (S : gS) (a0 : Nat) (a1 : Int32) : Option (gI) :=
  if (0 : Int32) < 0 ∨ 6 ≤ (0 : Int32).toNatClampNeg then none else if gAr S a0 = false then none else if ((0 : Int32) < 0 ∨ (0 : Int32) < 0 ∨ (a1 + (1 : Int32)) < 0) ∨ (gLn S a0) < (0 : Int32).toNatClampNeg + (a1 + (1 : Int32)).toNatClampNeg ∨ 6 < (0 : Int32).toNatClampNeg + (a1 + (1 : Int32)).toNatClampNeg then none else if (0 : Int32) < 0 ∨ 6 ≤ (0 : Int32).toNatClampNeg then none else if a1 < 0 ∨ gLn S a0 ≤ a1.toNatClampNeg then none else ((f_X2_inverse N (gCopy I a0 (48 + (0 : Int32).toNatClampNeg) (0 : Int32).toNatClampNeg (0 : Int32).toNatClampNeg (a1 + (1 : Int32)).toNatClampNeg) R S ((gCopy I a0 (48 + (0 : Int32).toNatClampNeg) (0 : Int32).toNatClampNeg (0 : Int32).toNatClampNeg (a1 + (1 : Int32)).toNatClampNeg) a0 a1.toNatClampNeg)).bind (fun z4 => if (5 : Int32) < 0 ∨ 6 ≤ (5 : Int32).toNatClampNeg then none else ((iter (σ := Int32 × gI) (ρ := gI) (fun z5 => (if (z5.2 37 2) ≤ z5.1 then some (.inr z5.2) else ((iter (σ := Int32 × gI) (ρ := gI) (fun z7 => (if a1 < z7.1 then some (.inr z7.2) else if z5.1 < 0 ∨ 6 ≤ z5.1.toNatClampNeg then none else if (z5.1 - (1 : Int32)) < 0 ∨ 6 ≤ (z5.1 - (1 : Int32)).toNatClampNeg then none else if z7.1 < 0 ∨ 6 ≤ z7.1.toNatClampNeg then none else ((f_X2_raised N z7.2 R S (z7.2 (48 + (z5.1 - (1 : Int32)).toNatClampNeg) z7.1.toNatClampNeg)).bind (fun z11 => if z7.1 < 0 ∨ 6 ≤ z7.1.toNatClampNeg then none else some (.inl (z7.1 + 1, gU z11.2 (48 + z5.1.toNatClampNeg) z7.1.toNatClampNeg z11.1)))))) N ((0 : Int32), z5.2)).bind (fun r8 => if z5.1 < 0 ∨ 6 ≤ z5.1.toNatClampNeg then none else if (z5.1 - (1 : Int32)) < 0 ∨ 6 ≤ (z5.1 - (1 : Int32)).toNatClampNeg then none else if (5 : Int32) < 0 ∨ 6 ≤ (5 : Int32).toNatClampNeg then none else ((f_X2_raised N r8 R S (r8 (48 + (z5.1 - (1 : Int32)).toNatClampNeg) (5 : Int32).toNatClampNeg)).bind (fun z14 => if (5 : Int32) < 0 ∨ 6 ≤ (5 : Int32).toNatClampNeg then none else some (.inl (z5.1 + 1, gU z14.2 (48 + z5.1.toNatClampNeg) (5 : Int32).toNatClampNeg z14.1)))))))) N ((1 : Int32), gU z4.2 (48 + (0 : Int32).toNatClampNeg) (5 : Int32).toNatClampNeg z4.1)).bind (fun r6 => some r6))))
set_option maxRecDepth 100000 in
set_option maxHeartbeats 8000000 in
theorem m_X8_divideBy (l : Launch) (X : gX) (N : Nat) (I : gI) (R : gR) (S : gS) (hL : gLay 6 56 R S) (a0 : Nat) (a1 : Int32) (J : gI) (hf : f_X8_divideBy N I R S a0 a1 = some J) : gM l yX8_divideBy wsX8_divideBy { frames := 4, cells := 0, slots := 0, locals := 95 } X gE0 [.ref (X.1 + 37), .ref (X.1 + a0), .int a1] I R S none J R S 0 0 := by
  unfold f_X8_divideBy at hf
  refine gM_of (cc := cX8_divideBy) (own := RX8) (maxL := 5) (ret := none) (by decide) rfl rfl (Nat.le_of_ble_eq_true rfl) ?_
  intro p e s m args below meth c C hr hlk hnm hE
  have ho : (some J) ≠ none := fun h => by cases h
  have f28 := C.2.2.2.2.1 (.fieldLink RX8 28 "TimesByPowers$Sums" "divisor" "[[I") (by decide +kernel)
  have c8 : gCl wsX8_divideBy 8 RX8 TX8 10 := ⟨by decide, rfl, rfl, by decide +kernel⟩
  have m151 := C.2.2.2.2.1 (.methodLink RX8 151 arraycopyName) (by decide +kernel)
  have hacw : gAcw s args := ⟨C.2.2.2.2.1 (.native arraycopyName) (by decide +kernel), C.2.2.2.2.1 (.static arraycopyName) (by decide +kernel), C.2.2.2.2.1 (.initialized "java/lang/System") (by decide +kernel)⟩
  have f37 := C.2.2.2.2.1 (.fieldLink RX8 37 "TimesByPowers$Sums" "elements" "LTimesByPowers$Field;") (by decide +kernel)
  have f50 := C.2.2.2.2.1 (.fieldLink RX8 50 "TimesByPowers$Sums" "n" "I") (by decide +kernel)
  refine g_aload_n C dX8_divideBy_0 rfl rfl ?_
  refine g_iconst (v := 0) C dX8_divideBy_1 (by decide) ?_
  refine g_aload_n C dX8_divideBy_2 rfl rfl ?_
  refine g_getR (i := 7) (j := 7) C dX8_divideBy_3 (L37 hL (by decide) (by decide)) c8 rfl (by decide) f28 (fun _ h9 => h9) (LR37_7 hL (by decide) (by decide)) ?_
  refine g_iconst (v := 0) C dX8_divideBy_6 (by decide) ?_
  refine g_aaldG 1 (fun j => 48 + j) C dX8_divideBy_7 (by decide) (L47 hL (by decide) (by decide)) rfl rfl (fun j hj => LG47 hL (by decide) (by decide) hj) ho hf (fun hj1 hf => ?_)
  refine g_iconst (v := 0) C dX8_divideBy_8 (by decide) ?_
  refine g_iload_n C dX8_divideBy_9 rfl rfl ?_
  refine g_iconst (v := 1) C dX8_divideBy_10 (by decide) ?_
  refine g_iadd C dX8_divideBy_11 ?_
  obtain ⟨ha2, hf⟩ := gcaseF hf ho
  refine g_copy C dX8_divideBy_12 m151 hacw (gAr_at ha2) (LH47 hL (by decide) (by decide) hj1) ho hf (Nat.le_of_ble_eq_true rfl) (Nat.le_of_ble_eq_true rfl) (fun hf => ?_)
  refine g_aload_n C dX8_divideBy_15 rfl rfl ?_
  refine g_getR (i := 7) (j := 7) C dX8_divideBy_16 (L37 hL (by decide) (by decide)) c8 rfl (by decide) f28 (fun _ h9 => h9) (LR37_7 hL (by decide) (by decide)) ?_
  refine g_iconst (v := 0) C dX8_divideBy_19 (by decide) ?_
  refine g_aaldG 1 (fun j => 48 + j) C dX8_divideBy_20 (by decide) (L47 hL (by decide) (by decide)) rfl rfl (fun j hj => LG47 hL (by decide) (by decide) hj) ho hf (fun hj3 hf => ?_)
  refine g_iconst (v := 5) C dX8_divideBy_21 (by decide) ?_
  refine g_aload_n C dX8_divideBy_22 rfl rfl ?_
  refine g_getR (i := 0) (j := 0) C dX8_divideBy_23 (L37 hL (by decide) (by decide)) c8 rfl (by decide) f37 (fun _ h9 => h9) (LR37_0 hL (by decide) (by decide)) ?_
  refine g_aload_n C dX8_divideBy_26 rfl rfl ?_
  refine g_iload_n C dX8_divideBy_27 rfl rfl ?_
  refine g_ialdD C dX8_divideBy_28 ho hf (fun hf => ?_)
  obtain ⟨z4, hz4, hf⟩ := gbind hf ho
  refine g_callV C dX8_divideBy_29 (m_X2_inverse l X N _ _ _  (gLay.sub hL (by decide) (by decide)) _ z4.1 z4.2 hz4) gEin0 (cwV 1 C.2.2.2.2.1 gX8_divideBy_X2_inverse rfl rfl rfl (by decide +kernel) ⟨Nat.le_of_ble_eq_true rfl, Nat.le_of_ble_eq_true rfl⟩) (L6 hL (by decide) (by decide)) (by decide) rfl rfl rfl (Nat.le_of_ble_eq_true rfl) ⟨Nat.le_of_ble_eq_true rfl, Nat.le_of_ble_eq_true rfl⟩ ?_
  refine g_iast C dX8_divideBy_32 (LH47 hL (by decide) (by decide) hj3) ho hf (fun hf => ?_)
  refine g_iconst (v := 1) C dX8_divideBy_33 (by decide) ?_
  refine g_istore_n C dX8_divideBy_34 rfl (Nat.le_of_ble_eq_true rfl) rfl rfl ?_
  refine g_loop (fun z5 => [(0, .ref (X.1 + 37)), (2, .int a1), (3, .int z5.1)]) (fun z5 => z5.2) (fun r6 => []) (fun r6 => r6) 116 hf ho ⟨rfl, rfl, rfl, trivial⟩ rfl (fun r6 hf => ?_) (fun z5 o1 hf ho hkz5 hez5 => ?_)
  · cases hf
    exact g_vret C dX8_divideBy_116 hr hlk
  · refine g_iload_n C dX8_divideBy_35 rfl rfl ?_
    refine g_aload_n C dX8_divideBy_36 rfl rfl ?_
    refine g_getI (i := 2) (j := 2) C dX8_divideBy_37 (L37 hL (by decide) (by decide)) c8 rfl f50 (fun _ h9 => h9) ?_
    refine g_icmp_ge (tgt := 116) C dX8_divideBy_40 (by decide) hf (fun hf => ?_) (fun hf => ?_)
    · exact g_sub ⟨trivial⟩ (hez5 _ hf.symm)
    · refine g_iconst (v := 0) C dX8_divideBy_43 (by decide) ?_
      refine g_istore C dX8_divideBy_44 (Nat.le_of_ble_eq_true rfl) rfl rfl ?_
      refine g_loop (fun z7 => [(0, .ref (X.1 + 37)), (2, .int a1), (3, .int z5.1), (4, .int z7.1)]) (fun z7 => z7.2) (fun r8 => [(0, .ref (X.1 + 37)), (2, .int a1), (3, .int z5.1)]) (fun r8 => r8) 85 hf ho ⟨rfl, rfl, rfl, rfl, trivial⟩ rfl (fun r8 hf => ?_) (fun z7 o1 hf ho hkz7 hez7 => ?_)
      · refine g_aload_n C dX8_divideBy_85 rfl rfl ?_
        refine g_getR (i := 7) (j := 7) C dX8_divideBy_86 (L37 hL (by decide) (by decide)) c8 rfl (by decide) f28 (fun _ h9 => h9) (LR37_7 hL (by decide) (by decide)) ?_
        refine g_iload_n C dX8_divideBy_89 rfl rfl ?_
        refine g_aaldG 1 (fun j => 48 + j) C dX8_divideBy_90 (by decide) (L47 hL (by decide) (by decide)) rfl rfl (fun j hj => LG47 hL (by decide) (by decide) hj) ho hf (fun hj12 hf => ?_)
        refine g_iconst (v := 5) C dX8_divideBy_91 (by decide) ?_
        refine g_aload_n C dX8_divideBy_92 rfl rfl ?_
        refine g_getR (i := 0) (j := 0) C dX8_divideBy_93 (L37 hL (by decide) (by decide)) c8 rfl (by decide) f37 (fun _ h9 => h9) (LR37_0 hL (by decide) (by decide)) ?_
        refine g_aload_n C dX8_divideBy_96 rfl rfl ?_
        refine g_getR (i := 7) (j := 7) C dX8_divideBy_97 (L37 hL (by decide) (by decide)) c8 rfl (by decide) f28 (fun _ h9 => h9) (LR37_7 hL (by decide) (by decide)) ?_
        refine g_iload_n C dX8_divideBy_100 rfl rfl ?_
        refine g_iconst (v := 1) C dX8_divideBy_101 (by decide) ?_
        refine g_isub C dX8_divideBy_102 ?_
        refine g_aaldG 1 (fun j => 48 + j) C dX8_divideBy_103 (by decide) (L47 hL (by decide) (by decide)) rfl rfl (fun j hj => LG47 hL (by decide) (by decide) hj) ho hf (fun hj13 hf => ?_)
        refine g_iconst (v := 5) C dX8_divideBy_104 (by decide) ?_
        refine g_iald C dX8_divideBy_105 (LH47 hL (by decide) (by decide) hj13) ho hf (fun hf => ?_)
        obtain ⟨z14, hz14, hf⟩ := gbind hf ho
        refine g_callV C dX8_divideBy_106 (m_X2_raised l X N _ _ _  (gLay.sub hL (by decide) (by decide)) _ z14.1 z14.2 hz14) gEin0 (cwV 1 C.2.2.2.2.1 gX8_divideBy_X2_raised rfl rfl rfl (by decide +kernel) ⟨Nat.le_of_ble_eq_true rfl, Nat.le_of_ble_eq_true rfl⟩) (L6 hL (by decide) (by decide)) (by decide) rfl rfl rfl (Nat.le_of_ble_eq_true rfl) ⟨Nat.le_of_ble_eq_true rfl, Nat.le_of_ble_eq_true rfl⟩ ?_
        refine g_iast C dX8_divideBy_109 (LH47 hL (by decide) (by decide) hj12) ho hf (fun hf => ?_)
        refine g_iinc (d := 1) C dX8_divideBy_110 rfl (by decide) rfl (Nat.le_of_ble_eq_true rfl) rfl rfl ?_
        refine g_goto (tgt := 35) C dX8_divideBy_113 (by decide) ?_
        exact g_sub ⟨rfl, rfl, rfl, trivial⟩ (hkz5 _ hf.symm)
      · refine g_iload C dX8_divideBy_46 rfl ?_
        refine g_iload_n C dX8_divideBy_48 rfl rfl ?_
        refine g_icmp_gt (tgt := 85) C dX8_divideBy_49 (by decide) hf (fun hf => ?_) (fun hf => ?_)
        · exact g_sub ⟨rfl, rfl, rfl, trivial⟩ (hez7 _ hf.symm)
        · refine g_aload_n C dX8_divideBy_52 rfl rfl ?_
          refine g_getR (i := 7) (j := 7) C dX8_divideBy_53 (L37 hL (by decide) (by decide)) c8 rfl (by decide) f28 (fun _ h9 => h9) (LR37_7 hL (by decide) (by decide)) ?_
          refine g_iload_n C dX8_divideBy_56 rfl rfl ?_
          refine g_aaldG 1 (fun j => 48 + j) C dX8_divideBy_57 (by decide) (L47 hL (by decide) (by decide)) rfl rfl (fun j hj => LG47 hL (by decide) (by decide) hj) ho hf (fun hj9 hf => ?_)
          refine g_iload C dX8_divideBy_58 rfl ?_
          refine g_aload_n C dX8_divideBy_60 rfl rfl ?_
          refine g_getR (i := 0) (j := 0) C dX8_divideBy_61 (L37 hL (by decide) (by decide)) c8 rfl (by decide) f37 (fun _ h9 => h9) (LR37_0 hL (by decide) (by decide)) ?_
          refine g_aload_n C dX8_divideBy_64 rfl rfl ?_
          refine g_getR (i := 7) (j := 7) C dX8_divideBy_65 (L37 hL (by decide) (by decide)) c8 rfl (by decide) f28 (fun _ h9 => h9) (LR37_7 hL (by decide) (by decide)) ?_
          refine g_iload_n C dX8_divideBy_68 rfl rfl ?_
          refine g_iconst (v := 1) C dX8_divideBy_69 (by decide) ?_
          refine g_isub C dX8_divideBy_70 ?_
          refine g_aaldG 1 (fun j => 48 + j) C dX8_divideBy_71 (by decide) (L47 hL (by decide) (by decide)) rfl rfl (fun j hj => LG47 hL (by decide) (by decide) hj) ho hf (fun hj10 hf => ?_)
          refine g_iload C dX8_divideBy_72 rfl ?_
          refine g_iald C dX8_divideBy_74 (LH47 hL (by decide) (by decide) hj10) ho hf (fun hf => ?_)
          obtain ⟨z11, hz11, hf⟩ := gbind hf ho
          refine g_callV C dX8_divideBy_75 (m_X2_raised l X N _ _ _  (gLay.sub hL (by decide) (by decide)) _ z11.1 z11.2 hz11) gEin0 (cwV 1 C.2.2.2.2.1 gX8_divideBy_X2_raised rfl rfl rfl (by decide +kernel) ⟨Nat.le_of_ble_eq_true rfl, Nat.le_of_ble_eq_true rfl⟩) (L6 hL (by decide) (by decide)) (by decide) rfl rfl rfl (Nat.le_of_ble_eq_true rfl) ⟨Nat.le_of_ble_eq_true rfl, Nat.le_of_ble_eq_true rfl⟩ ?_
          refine g_iast C dX8_divideBy_78 (LH47 hL (by decide) (by decide) hj9) ho hf (fun hf => ?_)
          refine g_iinc (d := 1) C dX8_divideBy_79 rfl (by decide) rfl (Nat.le_of_ble_eq_true rfl) rfl rfl ?_
          refine g_goto (tgt := 46) C dX8_divideBy_82 (by decide) ?_
          exact g_sub ⟨rfl, rfl, rfl, rfl, trivial⟩ (hkz7 _ hf.symm)
def f_X8_divide (N : Nat) (I : gI) (R : gR) (S : gS) (a0 : Int32) (a1 : Int32) : Option (gI) :=
  ((f_J7_fill_53178 N I R S 55 (0 : Int32)).bind (fun z1 => ((iter (σ := Int32 × gI) (ρ := gI) (fun z2 => (if z2.1 < 0 then some (.inr z2.2) else if (z2.2 37 2) = 0 then none else if (z2.1 - z2.1 / (z2.2 37 2) * (z2.2 37 2)) < 0 ∨ 6 ≤ (z2.1 - z2.1 / (z2.2 37 2) * (z2.2 37 2)).toNatClampNeg then none else if (z2.1 + a1) < 0 ∨ 19 ≤ (z2.1 + a1).toNatClampNeg then none else if (5 : Int32) < 0 ∨ 6 ≤ (5 : Int32).toNatClampNeg then none else ((f_X2_times N z2.2 R S (z2.2 54 (z2.1 + a1).toNatClampNeg) (z2.2 (48 + (z2.1 - z2.1 / (z2.2 37 2) * (z2.2 37 2)).toNatClampNeg) (5 : Int32).toNatClampNeg)).bind (fun z5 => if z2.1 < 0 ∨ 19 ≤ z2.1.toNatClampNeg then none else if z2.1 < 0 ∨ 19 ≤ z2.1.toNatClampNeg then none else ((f_X2_negative N (gU z5.2 55 z2.1.toNatClampNeg z5.1) R S ((gU z5.2 55 z2.1.toNatClampNeg z5.1) 55 z2.1.toNatClampNeg)).bind (fun z6 => ((iter (σ := Int32 × gI) (ρ := gI) (fun z7 => (if a1 < z7.1 then some (.inr z7.2) else if (z2.1 + z7.1) < 0 ∨ 19 ≤ (z2.1 + z7.1).toNatClampNeg then none else if z7.1 < 0 ∨ 6 ≤ z7.1.toNatClampNeg then none else ((f_X2_plusTimes N z7.2 R S (z7.2 54 (z2.1 + z7.1).toNatClampNeg) z6.1 (z7.2 (48 + (z2.1 - z2.1 / (z2.2 37 2) * (z2.2 37 2)).toNatClampNeg) z7.1.toNatClampNeg)).bind (fun z9 => if (z2.1 + z7.1) < 0 ∨ 19 ≤ (z2.1 + z7.1).toNatClampNeg then none else some (.inl (z7.1 + 1, gU z9.2 54 (z2.1 + z7.1).toNatClampNeg z9.1)))))) N ((0 : Int32), z6.2)).bind (fun r8 => some (.inl (z2.1 + (-1), r8)))))))))) N (a0 - a1, z1)).bind (fun r3 => some r3))))
set_option maxRecDepth 100000 in
set_option maxHeartbeats 8000000 in
theorem m_X8_divide (l : Launch) (X : gX) (N : Nat) (I : gI) (R : gR) (S : gS) (hL : gLay 6 56 R S) (a0 : Int32) (a1 : Int32) (J : gI) (hf : f_X8_divide N I R S a0 a1 = some J) : gM l yX8_divide wsX8_divide { frames := 2, cells := 0, slots := 0, locals := 50 } X gE0 [.ref (X.1 + 37), .int a0, .int a1] I R S none J R S 0 0 := by
  unfold f_X8_divide at hf
  refine gM_of (cc := cX8_divide) (own := RX8) (maxL := 7) (ret := none) (by decide) rfl rfl (Nat.le_of_ble_eq_true rfl) ?_
  intro p e s m args below meth c C hr hlk hnm hE
  have ho : (some J) ≠ none := fun h => by cases h
  have f34 := C.2.2.2.2.1 (.fieldLink RX8 34 "TimesByPowers$Sums" "quotient" "[I") (by decide +kernel)
  have c8 : gCl wsX8_divide 8 RX8 TX8 10 := ⟨by decide, rfl, rfl, by decide +kernel⟩
  have f28 := C.2.2.2.2.1 (.fieldLink RX8 28 "TimesByPowers$Sums" "divisor" "[[I") (by decide +kernel)
  have f50 := C.2.2.2.2.1 (.fieldLink RX8 50 "TimesByPowers$Sums" "n" "I") (by decide +kernel)
  have f37 := C.2.2.2.2.1 (.fieldLink RX8 37 "TimesByPowers$Sums" "elements" "LTimesByPowers$Field;") (by decide +kernel)
  have f31 := C.2.2.2.2.1 (.fieldLink RX8 31 "TimesByPowers$Sums" "remainder" "[I") (by decide +kernel)
  refine g_aload_n C dX8_divide_0 rfl rfl ?_
  refine g_getR (i := 9) (j := 9) C dX8_divide_1 (L37 hL (by decide) (by decide)) c8 rfl (by decide) f34 (fun _ h9 => h9) (LR37_9 hL (by decide) (by decide)) ?_
  refine g_iconst (v := 0) C dX8_divide_4 (by decide) ?_
  obtain ⟨z1, hz1, hf⟩ := gbind hf ho
  refine g_callS C dX8_divide_5 (m_J7_fill_53178 l X N _ _ _   _ _ z1 hz1) gEin0 (va_cwS 2 C.2.2.2.2.1 gX8_divide_J7_fill_53178 rfl rfl rfl (by decide +kernel) ⟨Nat.le_of_ble_eq_true rfl, Nat.le_of_ble_eq_true rfl⟩) rfl rfl (Nat.le_of_ble_eq_true rfl) ⟨Nat.le_of_ble_eq_true rfl, Nat.le_of_ble_eq_true rfl⟩ ?_
  refine g_iload_n C dX8_divide_8 rfl rfl ?_
  refine g_iload_n C dX8_divide_9 rfl rfl ?_
  refine g_isub C dX8_divide_10 ?_
  refine g_istore_n C dX8_divide_11 rfl (Nat.le_of_ble_eq_true rfl) rfl rfl ?_
  refine g_loop (fun z2 => [(0, .ref (X.1 + 37)), (2, .int a1), (3, .int z2.1)]) (fun z2 => z2.2) (fun r3 => []) (fun r3 => r3) 122 hf ho ⟨rfl, rfl, rfl, trivial⟩ rfl (fun r3 hf => ?_) (fun z2 o1 hf ho hkz2 hez2 => ?_)
  · cases hf
    exact g_vret C dX8_divide_122 hr hlk
  · refine g_iload_n C dX8_divide_12 rfl rfl ?_
    refine g_if_lt (tgt := 122) C dX8_divide_13 (by decide) hf (fun hf => ?_) (fun hf => ?_)
    · exact g_sub ⟨trivial⟩ (hez2 _ hf.symm)
    · refine g_aload_n C dX8_divide_16 rfl rfl ?_
      refine g_getR (i := 7) (j := 7) C dX8_divide_17 (L37 hL (by decide) (by decide)) c8 rfl (by decide) f28 (fun _ h9 => h9) (LR37_7 hL (by decide) (by decide)) ?_
      refine g_iload_n C dX8_divide_20 rfl rfl ?_
      refine g_aload_n C dX8_divide_21 rfl rfl ?_
      refine g_getI (i := 2) (j := 2) C dX8_divide_22 (L37 hL (by decide) (by decide)) c8 rfl f50 (fun _ h9 => h9) ?_
      refine g_irem C dX8_divide_25 ho hf (fun hf => ?_)
      refine g_aaldG 1 (fun j => 48 + j) C dX8_divide_26 (by decide) (L47 hL (by decide) (by decide)) rfl rfl (fun j hj => LG47 hL (by decide) (by decide) hj) ho hf (fun hj4 hf => ?_)
      refine g_astore C dX8_divide_27 (Nat.le_of_ble_eq_true rfl) rfl rfl ?_
      refine g_aload_n C dX8_divide_29 rfl rfl ?_
      refine g_getR (i := 9) (j := 9) C dX8_divide_30 (L37 hL (by decide) (by decide)) c8 rfl (by decide) f34 (fun _ h9 => h9) (LR37_9 hL (by decide) (by decide)) ?_
      refine g_iload_n C dX8_divide_33 rfl rfl ?_
      refine g_aload_n C dX8_divide_34 rfl rfl ?_
      refine g_getR (i := 0) (j := 0) C dX8_divide_35 (L37 hL (by decide) (by decide)) c8 rfl (by decide) f37 (fun _ h9 => h9) (LR37_0 hL (by decide) (by decide)) ?_
      refine g_aload_n C dX8_divide_38 rfl rfl ?_
      refine g_getR (i := 8) (j := 8) C dX8_divide_39 (L37 hL (by decide) (by decide)) c8 rfl (by decide) f31 (fun _ h9 => h9) (LR37_8 hL (by decide) (by decide)) ?_
      refine g_iload_n C dX8_divide_42 rfl rfl ?_
      refine g_iload_n C dX8_divide_43 rfl rfl ?_
      refine g_iadd C dX8_divide_44 ?_
      refine g_iald C dX8_divide_45 (L54 hL (by decide) (by decide)) ho hf (fun hf => ?_)
      refine g_aload C dX8_divide_46 rfl ?_
      refine g_iconst (v := 5) C dX8_divide_48 (by decide) ?_
      refine g_iald C dX8_divide_49 (LH47 hL (by decide) (by decide) hj4) ho hf (fun hf => ?_)
      obtain ⟨z5, hz5, hf⟩ := gbind hf ho
      refine g_callV C dX8_divide_50 (m_X2_times l X N _ _ _  (gLay.sub hL (by decide) (by decide)) _ _ z5.1 z5.2 hz5) gEin0 (cwV 2 C.2.2.2.2.1 gX8_divide_X2_times rfl rfl rfl (by decide +kernel) ⟨Nat.le_of_ble_eq_true rfl, Nat.le_of_ble_eq_true rfl⟩) (L6 hL (by decide) (by decide)) (by decide) rfl rfl rfl (Nat.le_of_ble_eq_true rfl) ⟨Nat.le_of_ble_eq_true rfl, Nat.le_of_ble_eq_true rfl⟩ ?_
      refine g_iast C dX8_divide_53 (L55 hL (by decide) (by decide)) ho hf (fun hf => ?_)
      refine g_aload_n C dX8_divide_54 rfl rfl ?_
      refine g_getR (i := 0) (j := 0) C dX8_divide_55 (L37 hL (by decide) (by decide)) c8 rfl (by decide) f37 (fun _ h9 => h9) (LR37_0 hL (by decide) (by decide)) ?_
      refine g_aload_n C dX8_divide_58 rfl rfl ?_
      refine g_getR (i := 9) (j := 9) C dX8_divide_59 (L37 hL (by decide) (by decide)) c8 rfl (by decide) f34 (fun _ h9 => h9) (LR37_9 hL (by decide) (by decide)) ?_
      refine g_iload_n C dX8_divide_62 rfl rfl ?_
      refine g_iald C dX8_divide_63 (L55 hL (by decide) (by decide)) ho hf (fun hf => ?_)
      obtain ⟨z6, hz6, hf⟩ := gbind hf ho
      refine g_callV C dX8_divide_64 (m_X2_negative l X N _ _ _  (gLay.sub hL (by decide) (by decide)) _ z6.1 z6.2 hz6) gEin0 (cwV 1 C.2.2.2.2.1 gX8_divide_X2_negative rfl rfl rfl (by decide +kernel) ⟨Nat.le_of_ble_eq_true rfl, Nat.le_of_ble_eq_true rfl⟩) (L6 hL (by decide) (by decide)) (by decide) rfl rfl rfl (Nat.le_of_ble_eq_true rfl) ⟨Nat.le_of_ble_eq_true rfl, Nat.le_of_ble_eq_true rfl⟩ ?_
      refine g_istore C dX8_divide_67 (Nat.le_of_ble_eq_true rfl) rfl rfl ?_
      refine g_iconst (v := 0) C dX8_divide_69 (by decide) ?_
      refine g_istore C dX8_divide_70 (Nat.le_of_ble_eq_true rfl) rfl rfl ?_
      refine g_loop (fun z7 => [(0, .ref (X.1 + 37)), (2, .int a1), (3, .int z2.1), (4, .ref (X.1 + (48 + (z2.1 - z2.1 / (z2.2 37 2) * (z2.2 37 2)).toNatClampNeg))), (5, .int z6.1), (6, .int z7.1)]) (fun z7 => z7.2) (fun r8 => [(0, .ref (X.1 + 37)), (2, .int a1), (3, .int z2.1)]) (fun r8 => r8) 116 hf ho ⟨rfl, rfl, rfl, rfl, rfl, rfl, trivial⟩ rfl (fun r8 hf => ?_) (fun z7 o1 hf ho hkz7 hez7 => ?_)
      · refine g_iinc (d := -1) C dX8_divide_116 rfl (by decide) rfl (Nat.le_of_ble_eq_true rfl) rfl rfl ?_
        refine g_goto (tgt := 12) C dX8_divide_119 (by decide) ?_
        exact g_sub ⟨rfl, rfl, rfl, trivial⟩ (hkz2 _ hf.symm)
      · refine g_iload C dX8_divide_72 rfl ?_
        refine g_iload_n C dX8_divide_74 rfl rfl ?_
        refine g_icmp_gt (tgt := 116) C dX8_divide_75 (by decide) hf (fun hf => ?_) (fun hf => ?_)
        · exact g_sub ⟨rfl, rfl, rfl, trivial⟩ (hez7 _ hf.symm)
        · refine g_aload_n C dX8_divide_78 rfl rfl ?_
          refine g_getR (i := 8) (j := 8) C dX8_divide_79 (L37 hL (by decide) (by decide)) c8 rfl (by decide) f31 (fun _ h9 => h9) (LR37_8 hL (by decide) (by decide)) ?_
          refine g_iload_n C dX8_divide_82 rfl rfl ?_
          refine g_iload C dX8_divide_83 rfl ?_
          refine g_iadd C dX8_divide_85 ?_
          refine g_aload_n C dX8_divide_86 rfl rfl ?_
          refine g_getR (i := 0) (j := 0) C dX8_divide_87 (L37 hL (by decide) (by decide)) c8 rfl (by decide) f37 (fun _ h9 => h9) (LR37_0 hL (by decide) (by decide)) ?_
          refine g_aload_n C dX8_divide_90 rfl rfl ?_
          refine g_getR (i := 8) (j := 8) C dX8_divide_91 (L37 hL (by decide) (by decide)) c8 rfl (by decide) f31 (fun _ h9 => h9) (LR37_8 hL (by decide) (by decide)) ?_
          refine g_iload_n C dX8_divide_94 rfl rfl ?_
          refine g_iload C dX8_divide_95 rfl ?_
          refine g_iadd C dX8_divide_97 ?_
          refine g_iald C dX8_divide_98 (L54 hL (by decide) (by decide)) ho hf (fun hf => ?_)
          refine g_iload C dX8_divide_99 rfl ?_
          refine g_aload C dX8_divide_101 rfl ?_
          refine g_iload C dX8_divide_103 rfl ?_
          refine g_iald C dX8_divide_105 (LH47 hL (by decide) (by decide) hj4) ho hf (fun hf => ?_)
          obtain ⟨z9, hz9, hf⟩ := gbind hf ho
          refine g_callV C dX8_divide_106 (m_X2_plusTimes l X N _ _ _  (gLay.sub hL (by decide) (by decide)) _ _ _ z9.1 z9.2 hz9) gEin0 (cwV 3 C.2.2.2.2.1 gX8_divide_X2_plusTimes rfl rfl rfl (by decide +kernel) ⟨Nat.le_of_ble_eq_true rfl, Nat.le_of_ble_eq_true rfl⟩) (L6 hL (by decide) (by decide)) (by decide) rfl rfl rfl (Nat.le_of_ble_eq_true rfl) ⟨Nat.le_of_ble_eq_true rfl, Nat.le_of_ble_eq_true rfl⟩ ?_
          refine g_iast C dX8_divide_109 (L54 hL (by decide) (by decide)) ho hf (fun hf => ?_)
          refine g_iinc (d := 1) C dX8_divide_110 rfl (by decide) rfl (Nat.le_of_ble_eq_true rfl) rfl rfl ?_
          refine g_goto (tgt := 72) C dX8_divide_113 (by decide) ?_
          exact g_sub ⟨rfl, rfl, rfl, rfl, rfl, rfl, trivial⟩ (hkz7 _ hf.symm)
def f_X8_leads (N : Nat) (I : gI) (R : gR) (S : gS) (a0 : Nat) (a1 : Nat) (a2 : Int32) : Option (Int32 × gI) :=
  if gWb R S a0 = true then ((f_X8_putBehind N I R S a1 a2 (gt R a0) (I a0 1) 54).bind (fun z1 => ((f_X8_divideBy N z1 R S a1 a2).bind (fun z2 => ((f_X8_divide N z2 R S (a2 + (z2 a0 1)) a2).bind (fun z3 => ((iter (σ := Int32) (ρ := (Unit) ⊕ (Int32 × gI)) (fun z4 => (if a2 ≤ z4 then some (.inr (.inl ())) else if z4 < 0 ∨ 19 ≤ z4.toNatClampNeg then none else (if (z3 54 z4.toNatClampNeg) = 0 then some (.inl (z4 + 1)) else some (.inr (.inr ((0 : Int32), z3)))))) N (0 : Int32)).bind (fun y7 => Sum.elim (fun r5 => some ((1 : Int32), z3)) (fun x6 => some x6) y7)))))))) else none
set_option maxRecDepth 100000 in
set_option maxHeartbeats 8000000 in
theorem m_X8_leads (l : Launch) (X : gX) (N : Nat) (I : gI) (R : gR) (S : gS) (hL : gLay 6 56 R S) (a0 : Nat) (a1 : Nat) (a2 : Int32) (v : Int32) (J : gI) (hf : f_X8_leads N I R S a0 a1 a2 = some (v, J)) : gM l yX8_leads wsX8_leads { frames := 5, cells := 0, slots := 0, locals := 119 } X gE0 [.ref (X.1 + 37), .ref (X.1 + a0), .ref (X.1 + a1), .int a2] I R S (some (.int v)) J R S 0 0 := by
  unfold f_X8_leads at hf
  refine gM_of (cc := cX8_leads) (own := RX8) (maxL := 5) (ret := (some .boolean)) (by decide) rfl rfl (Nat.le_of_ble_eq_true rfl) ?_
  intro p e s m args below meth c C hr hlk hnm hE
  have ho : (some (v, J)) ≠ none := fun h => by cases h
  have f144 := C.2.2.2.2.1 (.fieldLink RX8 144 "TimesByPowers$World" "t" "[I") (by decide +kernel)
  have cw : gWc wsX8_leads := ⟨⟨by decide, rfl, rfl, by decide +kernel⟩, ⟨by decide, rfl, rfl, by decide +kernel⟩, ⟨by decide, rfl, rfl, by decide +kernel⟩, ⟨by decide, rfl, rfl, by decide +kernel⟩⟩
  have f126 := C.2.2.2.2.1 (.fieldLink RX8 126 "TimesByPowers$World" "\x72" "I") (by decide +kernel)
  have f31 := C.2.2.2.2.1 (.fieldLink RX8 31 "TimesByPowers$Sums" "remainder" "[I") (by decide +kernel)
  have c8 : gCl wsX8_leads 8 RX8 TX8 10 := ⟨by decide, rfl, rfl, by decide +kernel⟩
  obtain ⟨hwa0, hf⟩ := gcase hf ho
  refine g_aload_n C dX8_leads_0 rfl rfl ?_
  refine g_aload_n C dX8_leads_1 rfl rfl ?_
  refine g_iload_n C dX8_leads_2 rfl rfl ?_
  refine g_aload_n C dX8_leads_3 rfl rfl ?_
  refine g_getWt C dX8_leads_4 hwa0 cw f144 ⟨rfl, rfl, rfl, rfl⟩ ?_
  refine g_aload_n C dX8_leads_7 rfl rfl ?_
  refine g_getWI 1 C dX8_leads_8 hwa0 cw ⟨rfl, rfl, rfl, rfl⟩ f126 ⟨rfl, rfl, rfl, rfl⟩ ?_
  refine g_aload_n C dX8_leads_11 rfl rfl ?_
  refine g_getR (i := 8) (j := 8) C dX8_leads_12 (L37 hL (by decide) (by decide)) c8 rfl (by decide) f31 (fun _ h9 => h9) (LR37_8 hL (by decide) (by decide)) ?_
  obtain ⟨z1, hz1, hf⟩ := gbind hf ho
  refine g_callV C dX8_leads_15 (m_X8_putBehind l X N _ _ _  (gLay.sub hL (by decide) (by decide)) _ _ _ _ _ z1 hz1) gEin0 (cwV 5 C.2.2.2.2.1 gX8_leads_X8_putBehind rfl rfl rfl (by decide +kernel) ⟨Nat.le_of_ble_eq_true rfl, Nat.le_of_ble_eq_true rfl⟩) (L37 hL (by decide) (by decide)) (by decide) rfl rfl rfl (Nat.le_of_ble_eq_true rfl) ⟨Nat.le_of_ble_eq_true rfl, Nat.le_of_ble_eq_true rfl⟩ ?_
  refine g_aload_n C dX8_leads_18 rfl rfl ?_
  refine g_aload_n C dX8_leads_19 rfl rfl ?_
  refine g_iload_n C dX8_leads_20 rfl rfl ?_
  obtain ⟨z2, hz2, hf⟩ := gbind hf ho
  refine g_callV C dX8_leads_21 (m_X8_divideBy l X N _ _ _  (gLay.sub hL (by decide) (by decide)) _ _ z2 hz2) gEin0 (cwV 2 C.2.2.2.2.1 gX8_leads_X8_divideBy rfl rfl rfl (by decide +kernel) ⟨Nat.le_of_ble_eq_true rfl, Nat.le_of_ble_eq_true rfl⟩) (L37 hL (by decide) (by decide)) (by decide) rfl rfl rfl (Nat.le_of_ble_eq_true rfl) ⟨Nat.le_of_ble_eq_true rfl, Nat.le_of_ble_eq_true rfl⟩ ?_
  refine g_aload_n C dX8_leads_24 rfl rfl ?_
  refine g_iload_n C dX8_leads_25 rfl rfl ?_
  refine g_aload_n C dX8_leads_26 rfl rfl ?_
  refine g_getWI 1 C dX8_leads_27 hwa0 cw ⟨rfl, rfl, rfl, rfl⟩ f126 ⟨rfl, rfl, rfl, rfl⟩ ?_
  refine g_iadd C dX8_leads_30 ?_
  refine g_iload_n C dX8_leads_31 rfl rfl ?_
  obtain ⟨z3, hz3, hf⟩ := gbind hf ho
  refine g_callV C dX8_leads_32 (m_X8_divide l X N _ _ _  (gLay.sub hL (by decide) (by decide)) _ _ z3 hz3) gEin0 (cwV 2 C.2.2.2.2.1 gX8_leads_X8_divide rfl rfl rfl (by decide +kernel) ⟨Nat.le_of_ble_eq_true rfl, Nat.le_of_ble_eq_true rfl⟩) (L37 hL (by decide) (by decide)) (by decide) rfl rfl rfl (Nat.le_of_ble_eq_true rfl) ⟨Nat.le_of_ble_eq_true rfl, Nat.le_of_ble_eq_true rfl⟩ ?_
  refine g_iconst (v := 0) C dX8_leads_35 (by decide) ?_
  refine g_istore C dX8_leads_36 (Nat.le_of_ble_eq_true rfl) rfl rfl ?_
  refine g_loopR (fun z4 => [(0, .ref (X.1 + 37)), (3, .int a2), (4, .int z4)]) (fun z4 => z3) (fun r5 => []) (fun r5 => z3) 62 hf ho ⟨rfl, rfl, rfl, trivial⟩ rfl (fun r5 hf => ?_) (fun z4 o1 hf ho hkz4 hez4 hrz4 => ?_)
  · refine g_iconst (v := 1) C dX8_leads_62 (by decide) ?_
    cases hf
    exact g_zret C dX8_leads_63 hr hlk (by decide)
  · refine g_iload C dX8_leads_38 rfl ?_
    refine g_iload_n C dX8_leads_40 rfl rfl ?_
    refine g_icmp_ge (tgt := 62) C dX8_leads_41 (by decide) hf (fun hf => ?_) (fun hf => ?_)
    · exact g_sub ⟨trivial⟩ (hez4 _ hf.symm)
    · refine g_aload_n C dX8_leads_44 rfl rfl ?_
      refine g_getR (i := 8) (j := 8) C dX8_leads_45 (L37 hL (by decide) (by decide)) c8 rfl (by decide) f31 (fun _ h9 => h9) (LR37_8 hL (by decide) (by decide)) ?_
      refine g_iload C dX8_leads_48 rfl ?_
      refine g_iald C dX8_leads_50 (L54 hL (by decide) (by decide)) ho hf (fun hf => ?_)
      refine g_if_eq (tgt := 56) C dX8_leads_51 (by decide) hf (fun hf => ?_) (fun hf => ?_)
      · refine g_iinc (d := 1) C dX8_leads_56 rfl (by decide) rfl (Nat.le_of_ble_eq_true rfl) rfl rfl ?_
        refine g_goto (tgt := 38) C dX8_leads_59 (by decide) ?_
        exact g_sub ⟨rfl, rfl, rfl, trivial⟩ (hkz4 _ hf.symm)
      · refine g_iconst (v := 0) C dX8_leads_54 (by decide) ?_
        replace hf := hrz4 _ hf.symm
        dsimp only [Sum.elim_inr] at hf
        cases hf
        exact g_zret C dX8_leads_55 hr hlk (by decide)
def f_X8_divideSumOf (N : Nat) (I : gI) (R : gR) (S : gS) (a0 : Nat) (a1 : Int32) (a2 : Int32) : Option (gI) :=
  if gWb R S a0 = true then ((f_X8_lengthOf N I R S a0 a1).bind (fun z1 => ((f_X2_degreeOf N I R S a1).bind (fun z2 => ((f_X8_raisePowers N I R S a0 z2).bind (fun z3 => ((f_J7_fill_53178 N z3 R S 54 (0 : Int32)).bind (fun z4 => ((iter (σ := Int32 × gI) (ρ := gI) (fun z5 => (if z1 < z5.1 then some (.inr z5.2) else ((f_X8_mixed N z5.2 R S a1 z5.1).bind (fun z7 => if z5.1 < 0 ∨ 19 ≤ z5.1.toNatClampNeg then none else some (.inl (z5.1 + 1, gU z7.2 54 z5.1.toNatClampNeg z7.1)))))) N ((0 : Int32), z4)).bind (fun r6 => ((f_X8_divide N r6 R S z1 a2).bind (fun z8 => some z8)))))))))))) else none
set_option maxRecDepth 100000 in
set_option maxHeartbeats 8000000 in
theorem m_X8_divideSumOf (l : Launch) (X : gX) (N : Nat) (I : gI) (R : gR) (S : gS) (hL : gLay 6 56 R S) (a0 : Nat) (a1 : Int32) (a2 : Int32) (J : gI) (hf : f_X8_divideSumOf N I R S a0 a1 a2 = some J) : gM l yX8_divideSumOf wsX8_divideSumOf { frames := 4, cells := 0, slots := 0, locals := 100 } X gE0 [.ref (X.1 + 37), .ref (X.1 + a0), .int a1, .int a2] I R S none J R S 0 0 := by
  unfold f_X8_divideSumOf at hf
  refine gM_of (cc := cX8_divideSumOf) (own := RX8) (maxL := 6) (ret := none) (by decide) rfl rfl (Nat.le_of_ble_eq_true rfl) ?_
  intro p e s m args below meth c C hr hlk hnm hE
  have ho : (some J) ≠ none := fun h => by cases h
  have f37 := C.2.2.2.2.1 (.fieldLink RX8 37 "TimesByPowers$Sums" "elements" "LTimesByPowers$Field;") (by decide +kernel)
  have c8 : gCl wsX8_divideSumOf 8 RX8 TX8 10 := ⟨by decide, rfl, rfl, by decide +kernel⟩
  have f31 := C.2.2.2.2.1 (.fieldLink RX8 31 "TimesByPowers$Sums" "remainder" "[I") (by decide +kernel)
  obtain ⟨hwa0, hf⟩ := gcase hf ho
  refine g_aload_n C dX8_divideSumOf_0 rfl rfl ?_
  refine g_aload_n C dX8_divideSumOf_1 rfl rfl ?_
  refine g_iload_n C dX8_divideSumOf_2 rfl rfl ?_
  obtain ⟨z1, hz1, hf⟩ := gbind hf ho
  refine g_callV C dX8_divideSumOf_3 (m_X8_lengthOf l X N _ _ _  (gLay.sub hL (by decide) (by decide)) _ _ z1 hz1) gEin0 (cwV 2 C.2.2.2.2.1 gX8_divideSumOf_X8_lengthOf rfl rfl rfl (by decide +kernel) ⟨Nat.le_of_ble_eq_true rfl, Nat.le_of_ble_eq_true rfl⟩) (L37 hL (by decide) (by decide)) (by decide) rfl rfl rfl (Nat.le_of_ble_eq_true rfl) ⟨Nat.le_of_ble_eq_true rfl, Nat.le_of_ble_eq_true rfl⟩ ?_
  refine g_istore C dX8_divideSumOf_6 (Nat.le_of_ble_eq_true rfl) rfl rfl ?_
  refine g_aload_n C dX8_divideSumOf_8 rfl rfl ?_
  refine g_aload_n C dX8_divideSumOf_9 rfl rfl ?_
  refine g_aload_n C dX8_divideSumOf_10 rfl rfl ?_
  refine g_getR (i := 0) (j := 0) C dX8_divideSumOf_11 (L37 hL (by decide) (by decide)) c8 rfl (by decide) f37 (fun _ h9 => h9) (LR37_0 hL (by decide) (by decide)) ?_
  refine g_iload_n C dX8_divideSumOf_14 rfl rfl ?_
  obtain ⟨z2, hz2, hf⟩ := gbind hf ho
  refine g_callV C dX8_divideSumOf_15 (m_X2_degreeOf l X N _ _ _  (gLay.sub hL (by decide) (by decide)) _ z2 hz2) gEin0 (cwV 1 C.2.2.2.2.1 gX8_divideSumOf_X2_degreeOf rfl rfl rfl (by decide +kernel) ⟨Nat.le_of_ble_eq_true rfl, Nat.le_of_ble_eq_true rfl⟩) (L6 hL (by decide) (by decide)) (by decide) rfl rfl rfl (Nat.le_of_ble_eq_true rfl) ⟨Nat.le_of_ble_eq_true rfl, Nat.le_of_ble_eq_true rfl⟩ ?_
  obtain ⟨z3, hz3, hf⟩ := gbind hf ho
  refine g_callV C dX8_divideSumOf_18 (m_X8_raisePowers l X N _ _ _  (gLay.sub hL (by decide) (by decide)) _ _ z3 hz3) gEin0 (cwV 2 C.2.2.2.2.1 gX8_divideSumOf_X8_raisePowers rfl rfl rfl (by decide +kernel) ⟨Nat.le_of_ble_eq_true rfl, Nat.le_of_ble_eq_true rfl⟩) (L37 hL (by decide) (by decide)) (by decide) rfl rfl rfl (Nat.le_of_ble_eq_true rfl) ⟨Nat.le_of_ble_eq_true rfl, Nat.le_of_ble_eq_true rfl⟩ ?_
  refine g_aload_n C dX8_divideSumOf_21 rfl rfl ?_
  refine g_getR (i := 8) (j := 8) C dX8_divideSumOf_22 (L37 hL (by decide) (by decide)) c8 rfl (by decide) f31 (fun _ h9 => h9) (LR37_8 hL (by decide) (by decide)) ?_
  refine g_iconst (v := 0) C dX8_divideSumOf_25 (by decide) ?_
  obtain ⟨z4, hz4, hf⟩ := gbind hf ho
  refine g_callS C dX8_divideSumOf_26 (m_J7_fill_53178 l X N _ _ _   _ _ z4 hz4) gEin0 (va_cwS 2 C.2.2.2.2.1 gX8_divideSumOf_J7_fill_53178 rfl rfl rfl (by decide +kernel) ⟨Nat.le_of_ble_eq_true rfl, Nat.le_of_ble_eq_true rfl⟩) rfl rfl (Nat.le_of_ble_eq_true rfl) ⟨Nat.le_of_ble_eq_true rfl, Nat.le_of_ble_eq_true rfl⟩ ?_
  refine g_iconst (v := 0) C dX8_divideSumOf_29 (by decide) ?_
  refine g_istore C dX8_divideSumOf_30 (Nat.le_of_ble_eq_true rfl) rfl rfl ?_
  refine g_loop (fun z5 => [(0, .ref (X.1 + 37)), (2, .int a1), (3, .int a2), (4, .int z1), (5, .int z5.1)]) (fun z5 => z5.2) (fun r6 => [(0, .ref (X.1 + 37)), (3, .int a2), (4, .int z1)]) (fun r6 => r6) 59 hf ho ⟨rfl, rfl, rfl, rfl, rfl, trivial⟩ rfl (fun r6 hf => ?_) (fun z5 o1 hf ho hkz5 hez5 => ?_)
  · refine g_aload_n C dX8_divideSumOf_59 rfl rfl ?_
    refine g_iload C dX8_divideSumOf_60 rfl ?_
    refine g_iload_n C dX8_divideSumOf_62 rfl rfl ?_
    obtain ⟨z8, hz8, hf⟩ := gbind hf ho
    refine g_callV C dX8_divideSumOf_63 (m_X8_divide l X N _ _ _  (gLay.sub hL (by decide) (by decide)) _ _ z8 hz8) gEin0 (cwV 2 C.2.2.2.2.1 gX8_divideSumOf_X8_divide rfl rfl rfl (by decide +kernel) ⟨Nat.le_of_ble_eq_true rfl, Nat.le_of_ble_eq_true rfl⟩) (L37 hL (by decide) (by decide)) (by decide) rfl rfl rfl (Nat.le_of_ble_eq_true rfl) ⟨Nat.le_of_ble_eq_true rfl, Nat.le_of_ble_eq_true rfl⟩ ?_
    cases hf
    exact g_vret C dX8_divideSumOf_66 hr hlk
  · refine g_iload C dX8_divideSumOf_32 rfl ?_
    refine g_iload C dX8_divideSumOf_34 rfl ?_
    refine g_icmp_gt (tgt := 59) C dX8_divideSumOf_36 (by decide) hf (fun hf => ?_) (fun hf => ?_)
    · exact g_sub ⟨rfl, rfl, rfl, trivial⟩ (hez5 _ hf.symm)
    · refine g_aload_n C dX8_divideSumOf_39 rfl rfl ?_
      refine g_getR (i := 8) (j := 8) C dX8_divideSumOf_40 (L37 hL (by decide) (by decide)) c8 rfl (by decide) f31 (fun _ h9 => h9) (LR37_8 hL (by decide) (by decide)) ?_
      refine g_iload C dX8_divideSumOf_43 rfl ?_
      refine g_aload_n C dX8_divideSumOf_45 rfl rfl ?_
      refine g_iload_n C dX8_divideSumOf_46 rfl rfl ?_
      refine g_iload C dX8_divideSumOf_47 rfl ?_
      obtain ⟨z7, hz7, hf⟩ := gbind hf ho
      refine g_callV C dX8_divideSumOf_49 (m_X8_mixed l X N _ _ _  (gLay.sub hL (by decide) (by decide)) _ _ z7.1 z7.2 hz7) gEin0 (cwV 2 C.2.2.2.2.1 gX8_divideSumOf_X8_mixed rfl rfl rfl (by decide +kernel) ⟨Nat.le_of_ble_eq_true rfl, Nat.le_of_ble_eq_true rfl⟩) (L37 hL (by decide) (by decide)) (by decide) rfl rfl rfl (Nat.le_of_ble_eq_true rfl) ⟨Nat.le_of_ble_eq_true rfl, Nat.le_of_ble_eq_true rfl⟩ ?_
      refine g_iast C dX8_divideSumOf_52 (L54 hL (by decide) (by decide)) ho hf (fun hf => ?_)
      refine g_iinc (d := 1) C dX8_divideSumOf_53 rfl (by decide) rfl (Nat.le_of_ble_eq_true rfl) rfl rfl ?_
      refine g_goto (tgt := 32) C dX8_divideSumOf_56 (by decide) ?_
      exact g_sub ⟨rfl, rfl, rfl, rfl, rfl, trivial⟩ (hkz5 _ hf.symm)
def f_X8_wayBack (N : Nat) (I : gI) (R : gR) (S : gS) (a0 : Nat) (a1 : Nat) (a2 : Int32) : Option (Int32 × gI) :=
  if gWb R S a0 = true then ((f_X8_divideBy N I R S a1 a2).bind (fun z1 => ((f_X6_begin N z1 R S (a2 * (z1 37 2))).bind (fun z2 => ((iter (σ := Int32 × Int32 × gI) (ρ := Int32 × gI) (fun z3 => (if (4 : Int32) < z3.2.1 then some (.inr (z3.1, z3.2.2)) else (if z3.1 = 0 then if z3.2.1 < 0 ∨ 8 ≤ z3.2.1.toNatClampNeg then none else ((f_X8_divideSumOf N z3.2.2 R S a0 (z3.2.2 7 z3.2.1.toNatClampNeg) a2).bind (fun z5 => ((iter (σ := Int32 × gI) (ρ := gI) (fun z6 => (if a2 ≤ z6.1 then some (.inr z6.2) else if z6.1 < 0 ∨ 19 ≤ z6.1.toNatClampNeg then none else ((f_X6_putElement N z6.2 R S (z6.1 * (z6.2 37 2)) (z6.2 54 z6.1.toNatClampNeg)).bind (fun z8 => some (.inl (z6.1 + 1, z8)))))) N ((0 : Int32), z5)).bind (fun r7 => ((f_X6_feed N r7 R S).bind (fun z9 => some (.inl (z9.1, z3.2.1 + 1, z9.2)))))))) else some (.inr (z3.1, z3.2.2))))) N ((0 : Int32), (0 : Int32), z2)).bind (fun r4 => (if r4.1 = 0 then some (r4.1, r4.2) else ((f_X8_divideSumOf N r4.2 R S a0 r4.1 a2).bind (fun z10 => some (r4.1, z10)))))))))) else none
set_option maxRecDepth 100000 in
set_option maxHeartbeats 8000000 in
theorem m_X8_wayBack (l : Launch) (X : gX) (N : Nat) (I : gI) (R : gR) (S : gS) (hL : gLay 6 56 R S) (a0 : Nat) (a1 : Nat) (a2 : Int32) (v : Int32) (J : gI) (hf : f_X8_wayBack N I R S a0 a1 a2 = some (v, J)) : gM l yX8_wayBack wsX8_wayBack { frames := 5, cells := 0, slots := 0, locals := 125 } X gE0 [.ref (X.1 + 37), .ref (X.1 + a0), .ref (X.1 + a1), .int a2] I R S (some (.int v)) J R S 0 0 := by
  unfold f_X8_wayBack at hf
  refine gM_of (cc := cX8_wayBack) (own := RX8) (maxL := 7) (ret := (some .int)) (by decide) rfl rfl (Nat.le_of_ble_eq_true rfl) ?_
  intro p e s m args below meth c C hr hlk hnm hE
  have ho : (some (v, J)) ≠ none := fun h => by cases h
  have f41 := C.2.2.2.2.1 (.fieldLink RX8 41 "TimesByPowers$Sums" "span" "LTimesByPowers$Span;") (by decide +kernel)
  have c8 : gCl wsX8_wayBack 8 RX8 TX8 10 := ⟨by decide, rfl, rfl, by decide +kernel⟩
  have f50 := C.2.2.2.2.1 (.fieldLink RX8 50 "TimesByPowers$Sums" "n" "I") (by decide +kernel)
  have f37 := C.2.2.2.2.1 (.fieldLink RX8 37 "TimesByPowers$Sums" "elements" "LTimesByPowers$Field;") (by decide +kernel)
  have f173 := C.2.2.2.2.1 (.fieldLink RX8 173 "TimesByPowers$Field" "place" "[I") (by decide +kernel)
  have c2 : gCl wsX8_wayBack 2 RX2 TX2 8 := ⟨by decide, rfl, rfl, by decide +kernel⟩
  have f31 := C.2.2.2.2.1 (.fieldLink RX8 31 "TimesByPowers$Sums" "remainder" "[I") (by decide +kernel)
  obtain ⟨hwa0, hf⟩ := gcase hf ho
  refine g_aload_n C dX8_wayBack_0 rfl rfl ?_
  refine g_aload_n C dX8_wayBack_1 rfl rfl ?_
  refine g_iload_n C dX8_wayBack_2 rfl rfl ?_
  obtain ⟨z1, hz1, hf⟩ := gbind hf ho
  refine g_callV C dX8_wayBack_3 (m_X8_divideBy l X N _ _ _  (gLay.sub hL (by decide) (by decide)) _ _ z1 hz1) gEin0 (cwV 2 C.2.2.2.2.1 gX8_wayBack_X8_divideBy rfl rfl rfl (by decide +kernel) ⟨Nat.le_of_ble_eq_true rfl, Nat.le_of_ble_eq_true rfl⟩) (L37 hL (by decide) (by decide)) (by decide) rfl rfl rfl (Nat.le_of_ble_eq_true rfl) ⟨Nat.le_of_ble_eq_true rfl, Nat.le_of_ble_eq_true rfl⟩ ?_
  refine g_aload_n C dX8_wayBack_6 rfl rfl ?_
  refine g_getR (i := 1) (j := 1) C dX8_wayBack_7 (L37 hL (by decide) (by decide)) c8 rfl (by decide) f41 (fun _ h9 => h9) (LR37_1 hL (by decide) (by decide)) ?_
  refine g_iload_n C dX8_wayBack_10 rfl rfl ?_
  refine g_aload_n C dX8_wayBack_11 rfl rfl ?_
  refine g_getI (i := 2) (j := 2) C dX8_wayBack_12 (L37 hL (by decide) (by decide)) c8 rfl f50 (fun _ h9 => h9) ?_
  refine g_imul C dX8_wayBack_15 ?_
  obtain ⟨z2, hz2, hf⟩ := gbind hf ho
  refine g_callV C dX8_wayBack_16 (m_X6_begin l X N _ _ _  (gLay.sub hL (by decide) (by decide)) _ z2 hz2) gEin0 (cwV 1 C.2.2.2.2.1 gX8_wayBack_X6_begin rfl rfl rfl (by decide +kernel) ⟨Nat.le_of_ble_eq_true rfl, Nat.le_of_ble_eq_true rfl⟩) (L17 hL (by decide) (by decide)) (by decide) rfl rfl rfl (Nat.le_of_ble_eq_true rfl) ⟨Nat.le_of_ble_eq_true rfl, Nat.le_of_ble_eq_true rfl⟩ ?_
  refine g_iconst (v := 0) C dX8_wayBack_19 (by decide) ?_
  refine g_istore C dX8_wayBack_20 (Nat.le_of_ble_eq_true rfl) rfl rfl ?_
  refine g_iconst (v := 0) C dX8_wayBack_22 (by decide) ?_
  refine g_istore C dX8_wayBack_23 (Nat.le_of_ble_eq_true rfl) rfl rfl ?_
  refine g_loop (fun z3 => [(0, .ref (X.1 + 37)), (1, .ref (X.1 + a0)), (3, .int a2), (4, .int z3.1), (5, .int z3.2.1)]) (fun z3 => z3.2.2) (fun r4 => [(0, .ref (X.1 + 37)), (1, .ref (X.1 + a0)), (3, .int a2), (4, .int r4.1)]) (fun r4 => r4.2) 103 hf ho ⟨rfl, rfl, rfl, rfl, rfl, trivial⟩ rfl (fun r4 hf => ?_) (fun z3 o1 hf ho hkz3 hez3 => ?_)
  · refine g_iload C dX8_wayBack_103 rfl ?_
    refine g_if_eq (tgt := 116) C dX8_wayBack_105 (by decide) hf (fun hf => ?_) (fun hf => ?_)
    · refine g_iload C dX8_wayBack_116 rfl ?_
      cases hf
      exact g_iret C dX8_wayBack_118 hr hlk
    · refine g_aload_n C dX8_wayBack_108 rfl rfl ?_
      refine g_aload_n C dX8_wayBack_109 rfl rfl ?_
      refine g_iload C dX8_wayBack_110 rfl ?_
      refine g_iload_n C dX8_wayBack_112 rfl rfl ?_
      obtain ⟨z10, hz10, hf⟩ := gbind hf ho
      refine g_callV C dX8_wayBack_113 (m_X8_divideSumOf l X N _ _ _  (gLay.sub hL (by decide) (by decide)) _ _ _ z10 hz10) gEin0 (cwV 3 C.2.2.2.2.1 gX8_wayBack_X8_divideSumOf rfl rfl rfl (by decide +kernel) ⟨Nat.le_of_ble_eq_true rfl, Nat.le_of_ble_eq_true rfl⟩) (L37 hL (by decide) (by decide)) (by decide) rfl rfl rfl (Nat.le_of_ble_eq_true rfl) ⟨Nat.le_of_ble_eq_true rfl, Nat.le_of_ble_eq_true rfl⟩ ?_
      refine g_iload C dX8_wayBack_116 rfl ?_
      cases hf
      exact g_iret C dX8_wayBack_118 hr hlk
  · refine g_iload C dX8_wayBack_25 rfl ?_
    refine g_iconst (v := 4) C dX8_wayBack_27 (by decide) ?_
    refine g_icmp_gt (tgt := 103) C dX8_wayBack_28 (by decide) hf (fun hf => ?_) (fun hf => ?_)
    · exact g_sub ⟨rfl, rfl, rfl, rfl, trivial⟩ (hez3 _ hf.symm)
    · refine g_iload C dX8_wayBack_31 rfl ?_
      refine g_if_ne (tgt := 103) C dX8_wayBack_33 (by decide) hf (fun hf => ?_) (fun hf => ?_)
      · exact g_sub ⟨rfl, rfl, rfl, rfl, trivial⟩ (hez3 _ hf.symm)
      · refine g_aload_n C dX8_wayBack_36 rfl rfl ?_
        refine g_aload_n C dX8_wayBack_37 rfl rfl ?_
        refine g_aload_n C dX8_wayBack_38 rfl rfl ?_
        refine g_getR (i := 0) (j := 0) C dX8_wayBack_39 (L37 hL (by decide) (by decide)) c8 rfl (by decide) f37 (fun _ h9 => h9) (LR37_0 hL (by decide) (by decide)) ?_
        refine g_getR (i := 4) (j := 4) C dX8_wayBack_42 (L6 hL (by decide) (by decide)) c2 rfl (by decide) f173 (fun _ h9 => h9) (LR6_4 hL (by decide) (by decide)) ?_
        refine g_iload C dX8_wayBack_45 rfl ?_
        refine g_iald C dX8_wayBack_47 (L7 hL (by decide) (by decide)) ho hf (fun hf => ?_)
        refine g_iload_n C dX8_wayBack_48 rfl rfl ?_
        obtain ⟨z5, hz5, hf⟩ := gbind hf ho
        refine g_callV C dX8_wayBack_49 (m_X8_divideSumOf l X N _ _ _  (gLay.sub hL (by decide) (by decide)) _ _ _ z5 hz5) gEin0 (cwV 3 C.2.2.2.2.1 gX8_wayBack_X8_divideSumOf rfl rfl rfl (by decide +kernel) ⟨Nat.le_of_ble_eq_true rfl, Nat.le_of_ble_eq_true rfl⟩) (L37 hL (by decide) (by decide)) (by decide) rfl rfl rfl (Nat.le_of_ble_eq_true rfl) ⟨Nat.le_of_ble_eq_true rfl, Nat.le_of_ble_eq_true rfl⟩ ?_
        refine g_iconst (v := 0) C dX8_wayBack_52 (by decide) ?_
        refine g_istore C dX8_wayBack_53 (Nat.le_of_ble_eq_true rfl) rfl rfl ?_
        refine g_loop (fun z6 => [(0, .ref (X.1 + 37)), (1, .ref (X.1 + a0)), (3, .int a2), (5, .int z3.2.1), (6, .int z6.1)]) (fun z6 => z6.2) (fun r7 => [(0, .ref (X.1 + 37)), (1, .ref (X.1 + a0)), (3, .int a2), (5, .int z3.2.1)]) (fun r7 => r7) 88 hf ho ⟨rfl, rfl, rfl, rfl, rfl, trivial⟩ rfl (fun r7 hf => ?_) (fun z6 o1 hf ho hkz6 hez6 => ?_)
        · refine g_aload_n C dX8_wayBack_88 rfl rfl ?_
          refine g_getR (i := 1) (j := 1) C dX8_wayBack_89 (L37 hL (by decide) (by decide)) c8 rfl (by decide) f41 (fun _ h9 => h9) (LR37_1 hL (by decide) (by decide)) ?_
          obtain ⟨z9, hz9, hf⟩ := gbind hf ho
          refine g_callV C dX8_wayBack_92 (m_X6_feed l X N _ _ _  (gLay.sub hL (by decide) (by decide))  z9.1 z9.2 hz9) gEin0 (cwV 0 C.2.2.2.2.1 gX8_wayBack_X6_feed rfl rfl rfl (by decide +kernel) ⟨Nat.le_of_ble_eq_true rfl, Nat.le_of_ble_eq_true rfl⟩) (L17 hL (by decide) (by decide)) (by decide) rfl rfl rfl (Nat.le_of_ble_eq_true rfl) ⟨Nat.le_of_ble_eq_true rfl, Nat.le_of_ble_eq_true rfl⟩ ?_
          refine g_istore C dX8_wayBack_95 (Nat.le_of_ble_eq_true rfl) rfl rfl ?_
          refine g_iinc (d := 1) C dX8_wayBack_97 rfl (by decide) rfl (Nat.le_of_ble_eq_true rfl) rfl rfl ?_
          refine g_goto (tgt := 25) C dX8_wayBack_100 (by decide) ?_
          exact g_sub ⟨rfl, rfl, rfl, rfl, rfl, trivial⟩ (hkz3 _ hf.symm)
        · refine g_iload C dX8_wayBack_55 rfl ?_
          refine g_iload_n C dX8_wayBack_57 rfl rfl ?_
          refine g_icmp_ge (tgt := 88) C dX8_wayBack_58 (by decide) hf (fun hf => ?_) (fun hf => ?_)
          · exact g_sub ⟨rfl, rfl, rfl, rfl, trivial⟩ (hez6 _ hf.symm)
          · refine g_aload_n C dX8_wayBack_61 rfl rfl ?_
            refine g_getR (i := 1) (j := 1) C dX8_wayBack_62 (L37 hL (by decide) (by decide)) c8 rfl (by decide) f41 (fun _ h9 => h9) (LR37_1 hL (by decide) (by decide)) ?_
            refine g_iload C dX8_wayBack_65 rfl ?_
            refine g_aload_n C dX8_wayBack_67 rfl rfl ?_
            refine g_getI (i := 2) (j := 2) C dX8_wayBack_68 (L37 hL (by decide) (by decide)) c8 rfl f50 (fun _ h9 => h9) ?_
            refine g_imul C dX8_wayBack_71 ?_
            refine g_aload_n C dX8_wayBack_72 rfl rfl ?_
            refine g_getR (i := 8) (j := 8) C dX8_wayBack_73 (L37 hL (by decide) (by decide)) c8 rfl (by decide) f31 (fun _ h9 => h9) (LR37_8 hL (by decide) (by decide)) ?_
            refine g_iload C dX8_wayBack_76 rfl ?_
            refine g_iald C dX8_wayBack_78 (L54 hL (by decide) (by decide)) ho hf (fun hf => ?_)
            obtain ⟨z8, hz8, hf⟩ := gbind hf ho
            refine g_callV C dX8_wayBack_79 (m_X6_putElement l X N _ _ _  (gLay.sub hL (by decide) (by decide)) _ _ z8 hz8) gEin0 (cwV 2 C.2.2.2.2.1 gX8_wayBack_X6_putElement rfl rfl rfl (by decide +kernel) ⟨Nat.le_of_ble_eq_true rfl, Nat.le_of_ble_eq_true rfl⟩) (L17 hL (by decide) (by decide)) (by decide) rfl rfl rfl (Nat.le_of_ble_eq_true rfl) ⟨Nat.le_of_ble_eq_true rfl, Nat.le_of_ble_eq_true rfl⟩ ?_
            refine g_iinc (d := 1) C dX8_wayBack_82 rfl (by decide) rfl (Nat.le_of_ble_eq_true rfl) rfl rfl ?_
            refine g_goto (tgt := 55) C dX8_wayBack_85 (by decide) ?_
            exact g_sub ⟨rfl, rfl, rfl, rfl, rfl, trivial⟩ (hkz6 _ hf.symm)
def f_X8_turned (N : Nat) (I : gI) (R : gR) (S : gS) (a0 : Nat) (a1 : Int32) : Option (Nat × gI × gR × gS) :=
  if gWb R S a0 = true then ((f_X2_inverse N (gZ I S.length) R (S ++ [(12, 4)]) a1).bind (fun z1 => ((iter (σ := Int32 × Int32 × gI) (ρ := gI) (fun z2 => if gWb R (S ++ [(12, 4)]) a0 = true then (if (z2.2.2 a0 1) < z2.2.1 then some (.inr z2.2.2) else if z2.2.1 < 0 ∨ 4 ≤ z2.2.1.toNatClampNeg then none else ((f_X2_times N z2.2.2 R (S ++ [(12, 4)]) z2.1 z1.1).bind (fun z5 => ((f_X2_times N z5.2 R (S ++ [(12, 4)]) (z2.2.2 (gt R a0) z2.2.1.toNatClampNeg) z5.1).bind (fun z6 => if z2.2.1 < 0 ∨ gLn (S ++ [(12, 4)]) S.length ≤ z2.2.1.toNatClampNeg then none else ((f_X2_raised N (gU z6.2 S.length z2.2.1.toNatClampNeg z6.1) R (S ++ [(12, 4)]) z2.1).bind (fun z7 => some (.inl (z7.1, z2.2.1 + 1, z7.2))))))))) else none) N (a1, (0 : Int32), z1.2)).bind (fun r3 => some (S.length, r3, R, S ++ [(12, 4)]))))) else none
set_option maxRecDepth 100000 in
set_option maxHeartbeats 8000000 in
theorem m_X8_turned (l : Launch) (X : gX) (N : Nat) (I : gI) (R : gR) (S : gS) (hL : gLay 6 56 R S) (a0 : Nat) (a1 : Int32) (v : Nat) (J : gI) (P : gR) (T : gS) (hf : f_X8_turned N I R S a0 a1 = some (v, J, P, T)) : gM l yX8_turned wsX8_turned { frames := 4, cells := 1, slots := 4, locals := 95 } X gE0 [.ref (X.1 + 37), .ref (X.1 + a0), .int a1] I R S (some (.ref (X.1 + v))) J P T 1 4 := by
  unfold f_X8_turned at hf
  refine gM_of (cc := cX8_turned) (own := RX8) (maxL := 7) (ret := (some (.array .int))) (by decide) rfl rfl (Nat.le_of_ble_eq_true rfl) ?_
  intro p e s m args below meth c C hr hlk hnm hE
  have ho : (some (v, J, P, T)) ≠ none := fun h => by cases h
  have ai := C.2.2.2.2.1 (.arrayClass .int) (by decide +kernel)
  have f37 := C.2.2.2.2.1 (.fieldLink RX8 37 "TimesByPowers$Sums" "elements" "LTimesByPowers$Field;") (by decide +kernel)
  have c8 : gCl wsX8_turned 8 RX8 TX8 10 := ⟨by decide, rfl, rfl, by decide +kernel⟩
  have f126 := C.2.2.2.2.1 (.fieldLink RX8 126 "TimesByPowers$World" "\x72" "I") (by decide +kernel)
  have cw : gWc wsX8_turned := ⟨⟨by decide, rfl, rfl, by decide +kernel⟩, ⟨by decide, rfl, rfl, by decide +kernel⟩, ⟨by decide, rfl, rfl, by decide +kernel⟩, ⟨by decide, rfl, rfl, by decide +kernel⟩⟩
  have f144 := C.2.2.2.2.1 (.fieldLink RX8 144 "TimesByPowers$World" "t" "[I") (by decide +kernel)
  obtain ⟨hwa0, hf⟩ := gcase hf ho
  refine g_iconst (v := 4) C dX8_turned_0 (by decide) ?_
  refine g_newa (q := S.length) C dX8_turned_1 ai (by decide) (by decide) (by decide) ⟨Nat.le_of_ble_eq_true rfl, Nat.le_of_ble_eq_true rfl⟩ rfl ?_
  have hL := gLay.app hL (T := [(12, 4)]) (by decide)
  refine g_astore_n C dX8_turned_3 rfl (Nat.le_of_ble_eq_true rfl) rfl rfl ?_
  refine g_aload_n C dX8_turned_4 rfl rfl ?_
  refine g_getR (i := 0) (j := 0) C dX8_turned_5 (L37 hL (by decide) (by decide)) c8 rfl (by decide) f37 (fun _ h9 => h9) (LR37_0 hL (by decide) (by decide)) ?_
  refine g_iload_n C dX8_turned_8 rfl rfl ?_
  obtain ⟨z1, hz1, hf⟩ := gbind hf ho
  refine g_callV C dX8_turned_9 (m_X2_inverse l X N _ _ _  (gLay.sub hL (by decide) (by decide)) _ z1.1 z1.2 hz1) gEin0 (cwV 1 C.2.2.2.2.1 gX8_turned_X2_inverse rfl rfl rfl (by decide +kernel) ⟨Nat.le_of_ble_eq_true rfl, Nat.le_of_ble_eq_true rfl⟩) (L6 hL (by decide) (by decide)) (by decide) rfl rfl rfl (Nat.le_of_ble_eq_true rfl) ⟨Nat.le_of_ble_eq_true rfl, Nat.le_of_ble_eq_true rfl⟩ ?_
  refine g_istore C dX8_turned_12 (Nat.le_of_ble_eq_true rfl) rfl rfl ?_
  refine g_iload_n C dX8_turned_14 rfl rfl ?_
  refine g_istore C dX8_turned_15 (Nat.le_of_ble_eq_true rfl) rfl rfl ?_
  refine g_iconst (v := 0) C dX8_turned_17 (by decide) ?_
  refine g_istore C dX8_turned_18 (Nat.le_of_ble_eq_true rfl) rfl rfl ?_
  refine g_loop (fun z2 => [(0, .ref (X.1 + 37)), (1, .ref (X.1 + a0)), (3, .ref (X.1 + S.length)), (4, .int z1.1), (5, .int z2.1), (6, .int z2.2.1)]) (fun z2 => z2.2.2) (fun r3 => [(3, .ref (X.1 + S.length))]) (fun r3 => r3) 75 hf ho ⟨rfl, rfl, rfl, rfl, rfl, rfl, trivial⟩ rfl (fun r3 hf => ?_) (fun z2 o1 hf ho hkz2 hez2 => ?_)
  · refine g_aload_n C dX8_turned_75 rfl rfl ?_
    cases hf
    refine g_widen (k := 1) (n := 4) (Nat.le_of_ble_eq_true rfl) (Nat.le_of_ble_eq_true rfl) ?_
    exact g_aret C dX8_turned_76 hr (by first | exact Or.inl ⟨_, rfl⟩ | exact Or.inr ⟨_, rfl⟩) hlk
  · refine g_iload C dX8_turned_20 rfl ?_
    refine g_aload_n C dX8_turned_22 rfl rfl ?_
    obtain ⟨hw4, hf⟩ := gcase hf ho
    refine g_getWI 1 C dX8_turned_23 hw4 cw ⟨rfl, rfl, rfl, rfl⟩ f126 ⟨rfl, rfl, rfl, rfl⟩ ?_
    refine g_icmp_gt (tgt := 75) C dX8_turned_26 (by decide) hf (fun hf => ?_) (fun hf => ?_)
    · exact g_sub ⟨rfl, trivial⟩ (hez2 _ hf.symm)
    · refine g_aload_n C dX8_turned_29 rfl rfl ?_
      refine g_iload C dX8_turned_30 rfl ?_
      refine g_aload_n C dX8_turned_32 rfl rfl ?_
      refine g_getR (i := 0) (j := 0) C dX8_turned_33 (L37 hL (by decide) (by decide)) c8 rfl (by decide) f37 (fun _ h9 => h9) (LR37_0 hL (by decide) (by decide)) ?_
      refine g_aload_n C dX8_turned_36 rfl rfl ?_
      refine g_getWt C dX8_turned_37 hw4 cw f144 ⟨rfl, rfl, rfl, rfl⟩ ?_
      refine g_iload C dX8_turned_40 rfl ?_
      refine g_iald C dX8_turned_42 (gWb_t hw4).2 ho hf (fun hf => ?_)
      refine g_aload_n C dX8_turned_43 rfl rfl ?_
      refine g_getR (i := 0) (j := 0) C dX8_turned_44 (L37 hL (by decide) (by decide)) c8 rfl (by decide) f37 (fun _ h9 => h9) (LR37_0 hL (by decide) (by decide)) ?_
      refine g_iload C dX8_turned_47 rfl ?_
      refine g_iload C dX8_turned_49 rfl ?_
      obtain ⟨z5, hz5, hf⟩ := gbind hf ho
      refine g_callV C dX8_turned_51 (m_X2_times l X N _ _ _  (gLay.sub hL (by decide) (by decide)) _ _ z5.1 z5.2 hz5) gEin0 (cwV 2 C.2.2.2.2.1 gX8_turned_X2_times rfl rfl rfl (by decide +kernel) ⟨Nat.le_of_ble_eq_true rfl, Nat.le_of_ble_eq_true rfl⟩) (L6 hL (by decide) (by decide)) (by decide) rfl rfl rfl (Nat.le_of_ble_eq_true rfl) ⟨Nat.le_of_ble_eq_true rfl, Nat.le_of_ble_eq_true rfl⟩ ?_
      obtain ⟨z6, hz6, hf⟩ := gbind hf ho
      refine g_callV C dX8_turned_54 (m_X2_times l X N _ _ _  (gLay.sub hL (by decide) (by decide)) _ _ z6.1 z6.2 hz6) gEin0 (cwV 2 C.2.2.2.2.1 gX8_turned_X2_times rfl rfl rfl (by decide +kernel) ⟨Nat.le_of_ble_eq_true rfl, Nat.le_of_ble_eq_true rfl⟩) (L6 hL (by decide) (by decide)) (by decide) rfl rfl rfl (Nat.le_of_ble_eq_true rfl) ⟨Nat.le_of_ble_eq_true rfl, Nat.le_of_ble_eq_true rfl⟩ ?_
      refine g_iastD C dX8_turned_57 ho hf (fun hf => ?_)
      refine g_aload_n C dX8_turned_58 rfl rfl ?_
      refine g_getR (i := 0) (j := 0) C dX8_turned_59 (L37 hL (by decide) (by decide)) c8 rfl (by decide) f37 (fun _ h9 => h9) (LR37_0 hL (by decide) (by decide)) ?_
      refine g_iload C dX8_turned_62 rfl ?_
      obtain ⟨z7, hz7, hf⟩ := gbind hf ho
      refine g_callV C dX8_turned_64 (m_X2_raised l X N _ _ _  (gLay.sub hL (by decide) (by decide)) _ z7.1 z7.2 hz7) gEin0 (cwV 1 C.2.2.2.2.1 gX8_turned_X2_raised rfl rfl rfl (by decide +kernel) ⟨Nat.le_of_ble_eq_true rfl, Nat.le_of_ble_eq_true rfl⟩) (L6 hL (by decide) (by decide)) (by decide) rfl rfl rfl (Nat.le_of_ble_eq_true rfl) ⟨Nat.le_of_ble_eq_true rfl, Nat.le_of_ble_eq_true rfl⟩ ?_
      refine g_istore C dX8_turned_67 (Nat.le_of_ble_eq_true rfl) rfl rfl ?_
      refine g_iinc (d := 1) C dX8_turned_69 rfl (by decide) rfl (Nat.le_of_ble_eq_true rfl) rfl rfl ?_
      refine g_goto (tgt := 20) C dX8_turned_72 (by decide) ?_
      exact g_sub ⟨rfl, rfl, rfl, rfl, rfl, rfl, trivial⟩ (hkz2 _ hf.symm)
def f_X8_putTurning (N : Nat) (I : gI) (R : gR) (S : gS) (a0 : Nat) (a1 : Nat) (a2 : Int32) : Option (gI) :=
  if gWb R S a0 = true then if gWb R S a1 = true then ((iter (σ := Int32 × Int32 × gI) (ρ := gI) (fun z1 => (if (z1.2.2 a0 1) < z1.2.1 then some (.inr z1.2.2) else if z1.2.1 < 0 ∨ 4 ≤ z1.2.1.toNatClampNeg then none else ((f_X2_times N z1.2.2 R S (z1.2.2 (gt R a0) z1.2.1.toNatClampNeg) z1.1).bind (fun z3 => ((f_X2_negative N z3.2 R S z3.1).bind (fun z4 => if z1.2.1 < 0 ∨ 4 ≤ z1.2.1.toNatClampNeg then none else ((f_X2_plusTimes N z4.2 R S z4.1 (z4.2 (gt R a1) z1.2.1.toNatClampNeg) a2).bind (fun z5 => ((f_X6_putElement N z5.2 R S (z1.2.1 * (z4.2 37 2)) z5.1).bind (fun z6 => ((f_X2_raised N z6 R S z1.1).bind (fun z7 => some (.inl (z7.1, z1.2.1 + 1, z7.2)))))))))))))) N (a2, (0 : Int32), I)).bind (fun r2 => some r2)) else none else none
set_option maxRecDepth 100000 in
set_option maxHeartbeats 8000000 in
theorem m_X8_putTurning (l : Launch) (X : gX) (N : Nat) (I : gI) (R : gR) (S : gS) (hL : gLay 6 56 R S) (a0 : Nat) (a1 : Nat) (a2 : Int32) (J : gI) (hf : f_X8_putTurning N I R S a0 a1 a2 = some J) : gM l yX8_putTurning wsX8_putTurning { frames := 2, cells := 0, slots := 0, locals := 50 } X gE0 [.ref (X.1 + 37), .ref (X.1 + a0), .ref (X.1 + a1), .int a2] I R S none J R S 0 0 := by
  unfold f_X8_putTurning at hf
  refine gM_of (cc := cX8_putTurning) (own := RX8) (maxL := 7) (ret := none) (by decide) rfl rfl (Nat.le_of_ble_eq_true rfl) ?_
  intro p e s m args below meth c C hr hlk hnm hE
  have ho : (some J) ≠ none := fun h => by cases h
  have f126 := C.2.2.2.2.1 (.fieldLink RX8 126 "TimesByPowers$World" "\x72" "I") (by decide +kernel)
  have cw : gWc wsX8_putTurning := ⟨⟨by decide, rfl, rfl, by decide +kernel⟩, ⟨by decide, rfl, rfl, by decide +kernel⟩, ⟨by decide, rfl, rfl, by decide +kernel⟩, ⟨by decide, rfl, rfl, by decide +kernel⟩⟩
  have f37 := C.2.2.2.2.1 (.fieldLink RX8 37 "TimesByPowers$Sums" "elements" "LTimesByPowers$Field;") (by decide +kernel)
  have c8 : gCl wsX8_putTurning 8 RX8 TX8 10 := ⟨by decide, rfl, rfl, by decide +kernel⟩
  have f144 := C.2.2.2.2.1 (.fieldLink RX8 144 "TimesByPowers$World" "t" "[I") (by decide +kernel)
  have f41 := C.2.2.2.2.1 (.fieldLink RX8 41 "TimesByPowers$Sums" "span" "LTimesByPowers$Span;") (by decide +kernel)
  have f50 := C.2.2.2.2.1 (.fieldLink RX8 50 "TimesByPowers$Sums" "n" "I") (by decide +kernel)
  obtain ⟨hwa0, hf⟩ := gcase hf ho
  obtain ⟨hwa1, hf⟩ := gcase hf ho
  refine g_iload_n C dX8_putTurning_0 rfl rfl ?_
  refine g_istore C dX8_putTurning_1 (Nat.le_of_ble_eq_true rfl) rfl rfl ?_
  refine g_iconst (v := 0) C dX8_putTurning_3 (by decide) ?_
  refine g_istore C dX8_putTurning_4 (Nat.le_of_ble_eq_true rfl) rfl rfl ?_
  refine g_loop (fun z1 => [(0, .ref (X.1 + 37)), (1, .ref (X.1 + a0)), (2, .ref (X.1 + a1)), (3, .int a2), (4, .int z1.1), (5, .int z1.2.1)]) (fun z1 => z1.2.2) (fun r2 => []) (fun r2 => r2) 88 hf ho ⟨rfl, rfl, rfl, rfl, rfl, rfl, trivial⟩ rfl (fun r2 hf => ?_) (fun z1 o1 hf ho hkz1 hez1 => ?_)
  · cases hf
    exact g_vret C dX8_putTurning_88 hr hlk
  · refine g_iload C dX8_putTurning_6 rfl ?_
    refine g_aload_n C dX8_putTurning_8 rfl rfl ?_
    refine g_getWI 1 C dX8_putTurning_9 hwa0 cw ⟨rfl, rfl, rfl, rfl⟩ f126 ⟨rfl, rfl, rfl, rfl⟩ ?_
    refine g_icmp_gt (tgt := 88) C dX8_putTurning_12 (by decide) hf (fun hf => ?_) (fun hf => ?_)
    · exact g_sub ⟨trivial⟩ (hez1 _ hf.symm)
    · refine g_aload_n C dX8_putTurning_15 rfl rfl ?_
      refine g_getR (i := 0) (j := 0) C dX8_putTurning_16 (L37 hL (by decide) (by decide)) c8 rfl (by decide) f37 (fun _ h9 => h9) (LR37_0 hL (by decide) (by decide)) ?_
      refine g_aload_n C dX8_putTurning_19 rfl rfl ?_
      refine g_getR (i := 0) (j := 0) C dX8_putTurning_20 (L37 hL (by decide) (by decide)) c8 rfl (by decide) f37 (fun _ h9 => h9) (LR37_0 hL (by decide) (by decide)) ?_
      refine g_aload_n C dX8_putTurning_23 rfl rfl ?_
      refine g_getWt C dX8_putTurning_24 hwa0 cw f144 ⟨rfl, rfl, rfl, rfl⟩ ?_
      refine g_iload C dX8_putTurning_27 rfl ?_
      refine g_iald C dX8_putTurning_29 (gWb_t hwa0).2 ho hf (fun hf => ?_)
      refine g_iload C dX8_putTurning_30 rfl ?_
      obtain ⟨z3, hz3, hf⟩ := gbind hf ho
      refine g_callV C dX8_putTurning_32 (m_X2_times l X N _ _ _  (gLay.sub hL (by decide) (by decide)) _ _ z3.1 z3.2 hz3) gEin0 (cwV 2 C.2.2.2.2.1 gX8_putTurning_X2_times rfl rfl rfl (by decide +kernel) ⟨Nat.le_of_ble_eq_true rfl, Nat.le_of_ble_eq_true rfl⟩) (L6 hL (by decide) (by decide)) (by decide) rfl rfl rfl (Nat.le_of_ble_eq_true rfl) ⟨Nat.le_of_ble_eq_true rfl, Nat.le_of_ble_eq_true rfl⟩ ?_
      obtain ⟨z4, hz4, hf⟩ := gbind hf ho
      refine g_callV C dX8_putTurning_35 (m_X2_negative l X N _ _ _  (gLay.sub hL (by decide) (by decide)) _ z4.1 z4.2 hz4) gEin0 (cwV 1 C.2.2.2.2.1 gX8_putTurning_X2_negative rfl rfl rfl (by decide +kernel) ⟨Nat.le_of_ble_eq_true rfl, Nat.le_of_ble_eq_true rfl⟩) (L6 hL (by decide) (by decide)) (by decide) rfl rfl rfl (Nat.le_of_ble_eq_true rfl) ⟨Nat.le_of_ble_eq_true rfl, Nat.le_of_ble_eq_true rfl⟩ ?_
      refine g_istore C dX8_putTurning_38 (Nat.le_of_ble_eq_true rfl) rfl rfl ?_
      refine g_aload_n C dX8_putTurning_40 rfl rfl ?_
      refine g_getR (i := 1) (j := 1) C dX8_putTurning_41 (L37 hL (by decide) (by decide)) c8 rfl (by decide) f41 (fun _ h9 => h9) (LR37_1 hL (by decide) (by decide)) ?_
      refine g_iload C dX8_putTurning_44 rfl ?_
      refine g_aload_n C dX8_putTurning_46 rfl rfl ?_
      refine g_getI (i := 2) (j := 2) C dX8_putTurning_47 (L37 hL (by decide) (by decide)) c8 rfl f50 (fun _ h9 => h9) ?_
      refine g_imul C dX8_putTurning_50 ?_
      refine g_aload_n C dX8_putTurning_51 rfl rfl ?_
      refine g_getR (i := 0) (j := 0) C dX8_putTurning_52 (L37 hL (by decide) (by decide)) c8 rfl (by decide) f37 (fun _ h9 => h9) (LR37_0 hL (by decide) (by decide)) ?_
      refine g_iload C dX8_putTurning_55 rfl ?_
      refine g_aload_n C dX8_putTurning_57 rfl rfl ?_
      refine g_getWt C dX8_putTurning_58 hwa1 cw f144 ⟨rfl, rfl, rfl, rfl⟩ ?_
      refine g_iload C dX8_putTurning_61 rfl ?_
      refine g_iald C dX8_putTurning_63 (gWb_t hwa1).2 ho hf (fun hf => ?_)
      refine g_iload_n C dX8_putTurning_64 rfl rfl ?_
      obtain ⟨z5, hz5, hf⟩ := gbind hf ho
      refine g_callV C dX8_putTurning_65 (m_X2_plusTimes l X N _ _ _  (gLay.sub hL (by decide) (by decide)) _ _ _ z5.1 z5.2 hz5) gEin0 (cwV 3 C.2.2.2.2.1 gX8_putTurning_X2_plusTimes rfl rfl rfl (by decide +kernel) ⟨Nat.le_of_ble_eq_true rfl, Nat.le_of_ble_eq_true rfl⟩) (L6 hL (by decide) (by decide)) (by decide) rfl rfl rfl (Nat.le_of_ble_eq_true rfl) ⟨Nat.le_of_ble_eq_true rfl, Nat.le_of_ble_eq_true rfl⟩ ?_
      obtain ⟨z6, hz6, hf⟩ := gbind hf ho
      refine g_callV C dX8_putTurning_68 (m_X6_putElement l X N _ _ _  (gLay.sub hL (by decide) (by decide)) _ _ z6 hz6) gEin0 (cwV 2 C.2.2.2.2.1 gX8_putTurning_X6_putElement rfl rfl rfl (by decide +kernel) ⟨Nat.le_of_ble_eq_true rfl, Nat.le_of_ble_eq_true rfl⟩) (L17 hL (by decide) (by decide)) (by decide) rfl rfl rfl (Nat.le_of_ble_eq_true rfl) ⟨Nat.le_of_ble_eq_true rfl, Nat.le_of_ble_eq_true rfl⟩ ?_
      refine g_aload_n C dX8_putTurning_71 rfl rfl ?_
      refine g_getR (i := 0) (j := 0) C dX8_putTurning_72 (L37 hL (by decide) (by decide)) c8 rfl (by decide) f37 (fun _ h9 => h9) (LR37_0 hL (by decide) (by decide)) ?_
      refine g_iload C dX8_putTurning_75 rfl ?_
      obtain ⟨z7, hz7, hf⟩ := gbind hf ho
      refine g_callV C dX8_putTurning_77 (m_X2_raised l X N _ _ _  (gLay.sub hL (by decide) (by decide)) _ z7.1 z7.2 hz7) gEin0 (cwV 1 C.2.2.2.2.1 gX8_putTurning_X2_raised rfl rfl rfl (by decide +kernel) ⟨Nat.le_of_ble_eq_true rfl, Nat.le_of_ble_eq_true rfl⟩) (L6 hL (by decide) (by decide)) (by decide) rfl rfl rfl (Nat.le_of_ble_eq_true rfl) ⟨Nat.le_of_ble_eq_true rfl, Nat.le_of_ble_eq_true rfl⟩ ?_
      refine g_istore C dX8_putTurning_80 (Nat.le_of_ble_eq_true rfl) rfl rfl ?_
      refine g_iinc (d := 1) C dX8_putTurning_82 rfl (by decide) rfl (Nat.le_of_ble_eq_true rfl) rfl rfl ?_
      refine g_goto (tgt := 6) C dX8_putTurning_85 (by decide) ?_
      exact g_sub ⟨rfl, rfl, rfl, rfl, rfl, rfl, trivial⟩ (hkz1 _ hf.symm)
def f_X8_turnsFromTo (N : Nat) (I : gI) (R : gR) (S : gS) (a0 : Nat) (a1 : Nat) : Option (Int32 × gI) :=
  if gWb R S a0 = true then if gWb R S a1 = true then (if (I a0 1) = (I a1 1) then ((f_X6_begin N I R S (((I a0 1) + (1 : Int32)) * (I 37 2))).bind (fun z1 => ((iter (σ := Int32 × Int32 × gI) (ρ := Int32 × gI) (fun z2 => (if (z2.2.2 37 2) ≤ z2.2.1 then some (.inr (z2.1, z2.2.2)) else if z2.2.1 < 0 ∨ 8 ≤ z2.2.1.toNatClampNeg then none else ((f_X8_putTurning N z2.2.2 R S a0 a1 (z2.2.2 7 z2.2.1.toNatClampNeg)).bind (fun z4 => ((f_X6_feed N z4 R S).bind (fun z5 => (if z5.1 = 0 then some (.inl (z2.1, z2.2.1 + 1, z5.2)) else some (.inl (z2.1 + 1, z2.2.1 + 1, z5.2))))))))) N ((0 : Int32), (0 : Int32), z1)).bind (fun r3 => if r3.1 < 0 ∨ 8 ≤ r3.1.toNatClampNeg then none else some ((r3.2 7 r3.1.toNatClampNeg) - (1 : Int32), r3.2))))) else some ((0 : Int32), I)) else none else none
set_option maxRecDepth 100000 in
set_option maxHeartbeats 8000000 in
theorem m_X8_turnsFromTo (l : Launch) (X : gX) (N : Nat) (I : gI) (R : gR) (S : gS) (hL : gLay 6 56 R S) (a0 : Nat) (a1 : Nat) (v : Int32) (J : gI) (hf : f_X8_turnsFromTo N I R S a0 a1 = some (v, J)) : gM l yX8_turnsFromTo wsX8_turnsFromTo { frames := 3, cells := 0, slots := 0, locals := 76 } X gE0 [.ref (X.1 + 37), .ref (X.1 + a0), .ref (X.1 + a1)] I R S (some (.int v)) J R S 0 0 := by
  unfold f_X8_turnsFromTo at hf
  refine gM_of (cc := cX8_turnsFromTo) (own := RX8) (maxL := 5) (ret := (some .int)) (by decide) rfl rfl (Nat.le_of_ble_eq_true rfl) ?_
  intro p e s m args below meth c C hr hlk hnm hE
  have ho : (some (v, J)) ≠ none := fun h => by cases h
  have f126 := C.2.2.2.2.1 (.fieldLink RX8 126 "TimesByPowers$World" "\x72" "I") (by decide +kernel)
  have cw : gWc wsX8_turnsFromTo := ⟨⟨by decide, rfl, rfl, by decide +kernel⟩, ⟨by decide, rfl, rfl, by decide +kernel⟩, ⟨by decide, rfl, rfl, by decide +kernel⟩, ⟨by decide, rfl, rfl, by decide +kernel⟩⟩
  have f41 := C.2.2.2.2.1 (.fieldLink RX8 41 "TimesByPowers$Sums" "span" "LTimesByPowers$Span;") (by decide +kernel)
  have c8 : gCl wsX8_turnsFromTo 8 RX8 TX8 10 := ⟨by decide, rfl, rfl, by decide +kernel⟩
  have f50 := C.2.2.2.2.1 (.fieldLink RX8 50 "TimesByPowers$Sums" "n" "I") (by decide +kernel)
  have f37 := C.2.2.2.2.1 (.fieldLink RX8 37 "TimesByPowers$Sums" "elements" "LTimesByPowers$Field;") (by decide +kernel)
  have f173 := C.2.2.2.2.1 (.fieldLink RX8 173 "TimesByPowers$Field" "place" "[I") (by decide +kernel)
  have c2 : gCl wsX8_turnsFromTo 2 RX2 TX2 8 := ⟨by decide, rfl, rfl, by decide +kernel⟩
  obtain ⟨hwa0, hf⟩ := gcase hf ho
  obtain ⟨hwa1, hf⟩ := gcase hf ho
  refine g_aload_n C dX8_turnsFromTo_0 rfl rfl ?_
  refine g_getWI 1 C dX8_turnsFromTo_1 hwa0 cw ⟨rfl, rfl, rfl, rfl⟩ f126 ⟨rfl, rfl, rfl, rfl⟩ ?_
  refine g_aload_n C dX8_turnsFromTo_4 rfl rfl ?_
  refine g_getWI 1 C dX8_turnsFromTo_5 hwa1 cw ⟨rfl, rfl, rfl, rfl⟩ f126 ⟨rfl, rfl, rfl, rfl⟩ ?_
  refine g_icmp_eq (tgt := 13) C dX8_turnsFromTo_8 (by decide) hf (fun hf => ?_) (fun hf => ?_)
  · refine g_aload_n C dX8_turnsFromTo_13 rfl rfl ?_
    refine g_getR (i := 1) (j := 1) C dX8_turnsFromTo_14 (L37 hL (by decide) (by decide)) c8 rfl (by decide) f41 (fun _ h9 => h9) (LR37_1 hL (by decide) (by decide)) ?_
    refine g_aload_n C dX8_turnsFromTo_17 rfl rfl ?_
    refine g_getWI 1 C dX8_turnsFromTo_18 hwa0 cw ⟨rfl, rfl, rfl, rfl⟩ f126 ⟨rfl, rfl, rfl, rfl⟩ ?_
    refine g_iconst (v := 1) C dX8_turnsFromTo_21 (by decide) ?_
    refine g_iadd C dX8_turnsFromTo_22 ?_
    refine g_aload_n C dX8_turnsFromTo_23 rfl rfl ?_
    refine g_getI (i := 2) (j := 2) C dX8_turnsFromTo_24 (L37 hL (by decide) (by decide)) c8 rfl f50 (fun _ h9 => h9) ?_
    refine g_imul C dX8_turnsFromTo_27 ?_
    obtain ⟨z1, hz1, hf⟩ := gbind hf ho
    refine g_callV C dX8_turnsFromTo_28 (m_X6_begin l X N _ _ _  (gLay.sub hL (by decide) (by decide)) _ z1 hz1) gEin0 (cwV 1 C.2.2.2.2.1 gX8_turnsFromTo_X6_begin rfl rfl rfl (by decide +kernel) ⟨Nat.le_of_ble_eq_true rfl, Nat.le_of_ble_eq_true rfl⟩) (L17 hL (by decide) (by decide)) (by decide) rfl rfl rfl (Nat.le_of_ble_eq_true rfl) ⟨Nat.le_of_ble_eq_true rfl, Nat.le_of_ble_eq_true rfl⟩ ?_
    refine g_iconst (v := 0) C dX8_turnsFromTo_31 (by decide) ?_
    refine g_istore_n C dX8_turnsFromTo_32 rfl (Nat.le_of_ble_eq_true rfl) rfl rfl ?_
    refine g_iconst (v := 0) C dX8_turnsFromTo_33 (by decide) ?_
    refine g_istore C dX8_turnsFromTo_34 (Nat.le_of_ble_eq_true rfl) rfl rfl ?_
    refine g_loop (fun z2 => [(0, .ref (X.1 + 37)), (1, .ref (X.1 + a0)), (2, .ref (X.1 + a1)), (3, .int z2.1), (4, .int z2.2.1)]) (fun z2 => z2.2.2) (fun r3 => [(0, .ref (X.1 + 37)), (3, .int r3.1)]) (fun r3 => r3.2) 80 hf ho ⟨rfl, rfl, rfl, rfl, rfl, trivial⟩ rfl (fun r3 hf => ?_) (fun z2 o1 hf ho hkz2 hez2 => ?_)
    · refine g_aload_n C dX8_turnsFromTo_80 rfl rfl ?_
      refine g_getR (i := 0) (j := 0) C dX8_turnsFromTo_81 (L37 hL (by decide) (by decide)) c8 rfl (by decide) f37 (fun _ h9 => h9) (LR37_0 hL (by decide) (by decide)) ?_
      refine g_getR (i := 4) (j := 4) C dX8_turnsFromTo_84 (L6 hL (by decide) (by decide)) c2 rfl (by decide) f173 (fun _ h9 => h9) (LR6_4 hL (by decide) (by decide)) ?_
      refine g_iload_n C dX8_turnsFromTo_87 rfl rfl ?_
      refine g_iald C dX8_turnsFromTo_88 (L7 hL (by decide) (by decide)) ho hf (fun hf => ?_)
      refine g_iconst (v := 1) C dX8_turnsFromTo_89 (by decide) ?_
      refine g_isub C dX8_turnsFromTo_90 ?_
      cases hf
      exact g_iret C dX8_turnsFromTo_91 hr hlk
    · refine g_iload C dX8_turnsFromTo_36 rfl ?_
      refine g_aload_n C dX8_turnsFromTo_38 rfl rfl ?_
      refine g_getI (i := 2) (j := 2) C dX8_turnsFromTo_39 (L37 hL (by decide) (by decide)) c8 rfl f50 (fun _ h9 => h9) ?_
      refine g_icmp_ge (tgt := 80) C dX8_turnsFromTo_42 (by decide) hf (fun hf => ?_) (fun hf => ?_)
      · exact g_sub ⟨rfl, rfl, trivial⟩ (hez2 _ hf.symm)
      · refine g_aload_n C dX8_turnsFromTo_45 rfl rfl ?_
        refine g_aload_n C dX8_turnsFromTo_46 rfl rfl ?_
        refine g_aload_n C dX8_turnsFromTo_47 rfl rfl ?_
        refine g_aload_n C dX8_turnsFromTo_48 rfl rfl ?_
        refine g_getR (i := 0) (j := 0) C dX8_turnsFromTo_49 (L37 hL (by decide) (by decide)) c8 rfl (by decide) f37 (fun _ h9 => h9) (LR37_0 hL (by decide) (by decide)) ?_
        refine g_getR (i := 4) (j := 4) C dX8_turnsFromTo_52 (L6 hL (by decide) (by decide)) c2 rfl (by decide) f173 (fun _ h9 => h9) (LR6_4 hL (by decide) (by decide)) ?_
        refine g_iload C dX8_turnsFromTo_55 rfl ?_
        refine g_iald C dX8_turnsFromTo_57 (L7 hL (by decide) (by decide)) ho hf (fun hf => ?_)
        obtain ⟨z4, hz4, hf⟩ := gbind hf ho
        refine g_callV C dX8_turnsFromTo_58 (m_X8_putTurning l X N _ _ _  (gLay.sub hL (by decide) (by decide)) _ _ _ z4 hz4) gEin0 (cwV 3 C.2.2.2.2.1 gX8_turnsFromTo_X8_putTurning rfl rfl rfl (by decide +kernel) ⟨Nat.le_of_ble_eq_true rfl, Nat.le_of_ble_eq_true rfl⟩) (L37 hL (by decide) (by decide)) (by decide) rfl rfl rfl (Nat.le_of_ble_eq_true rfl) ⟨Nat.le_of_ble_eq_true rfl, Nat.le_of_ble_eq_true rfl⟩ ?_
        refine g_aload_n C dX8_turnsFromTo_61 rfl rfl ?_
        refine g_getR (i := 1) (j := 1) C dX8_turnsFromTo_62 (L37 hL (by decide) (by decide)) c8 rfl (by decide) f41 (fun _ h9 => h9) (LR37_1 hL (by decide) (by decide)) ?_
        obtain ⟨z5, hz5, hf⟩ := gbind hf ho
        refine g_callV C dX8_turnsFromTo_65 (m_X6_feed l X N _ _ _  (gLay.sub hL (by decide) (by decide))  z5.1 z5.2 hz5) gEin0 (cwV 0 C.2.2.2.2.1 gX8_turnsFromTo_X6_feed rfl rfl rfl (by decide +kernel) ⟨Nat.le_of_ble_eq_true rfl, Nat.le_of_ble_eq_true rfl⟩) (L17 hL (by decide) (by decide)) (by decide) rfl rfl rfl (Nat.le_of_ble_eq_true rfl) ⟨Nat.le_of_ble_eq_true rfl, Nat.le_of_ble_eq_true rfl⟩ ?_
        refine g_if_eq (tgt := 74) C dX8_turnsFromTo_68 (by decide) hf (fun hf => ?_) (fun hf => ?_)
        · refine g_iinc (d := 1) C dX8_turnsFromTo_74 rfl (by decide) rfl (Nat.le_of_ble_eq_true rfl) rfl rfl ?_
          refine g_goto (tgt := 36) C dX8_turnsFromTo_77 (by decide) ?_
          exact g_sub ⟨rfl, rfl, rfl, rfl, rfl, trivial⟩ (hkz2 _ hf.symm)
        · refine g_iinc (d := 1) C dX8_turnsFromTo_71 rfl (by decide) rfl (Nat.le_of_ble_eq_true rfl) rfl rfl ?_
          refine g_iinc (d := 1) C dX8_turnsFromTo_74 rfl (by decide) rfl (Nat.le_of_ble_eq_true rfl) rfl rfl ?_
          refine g_goto (tgt := 36) C dX8_turnsFromTo_77 (by decide) ?_
          exact g_sub ⟨rfl, rfl, rfl, rfl, rfl, trivial⟩ (hkz2 _ hf.symm)
  · refine g_iconst (v := 0) C dX8_turnsFromTo_11 (by decide) ?_
    cases hf
    exact g_iret C dX8_turnsFromTo_12 hr hlk
def f_X9_init (N : Nat) (I : gI) (R : gR) (S : gS)  : Option (gI × gR × gS) :=
  if S.length = 4 then if (S ++ [(12, 16)])[3]? = some (9, 2) then some (gU (gZ I 4) 3 1 (0 : Int32), gU R 3 0 (some 4), S ++ [(12, 16)]) else none else none
set_option maxRecDepth 100000 in
set_option maxHeartbeats 8000000 in
theorem m_X9_init (l : Launch) (X : gX) (N : Nat) (I : gI) (R : gR) (S : gS)  (J : gI) (P : gR) (T : gS) (hf : f_X9_init N I R S  = some (J, P, T)) : gM l yX9_init wsX9_init { frames := 1, cells := 1, slots := 16, locals := 20 } X gE0 [.ref (X.1 + 3)] I R S none J P T 1 16 := by
  unfold f_X9_init at hf
  refine gM_of (cc := cX9_init) (own := RX9) (maxL := 1) (ret := none) (by decide) rfl rfl (Nat.le_of_ble_eq_true rfl) ?_
  intro p e s m args below meth c C hr hlk hnm hE
  have ho : (some (J, P, T)) ≠ none := fun h => by cases h
  have m1 := C.2.2.2.2.1 (.methodLink RX9 1 objectInit) (by decide +kernel)
  have oi := C.2.2.2.2.1 (.instanceMethod objectInit) (by decide +kernel)
  have oc := C.2.2.2.2.1 (.code objectInit ⟨#[0xb1]⟩ 1 none) (by first | exact List.mem_cons_of_mem _ (List.mem_append_left _ (List.mem_of_getElem? (i := 2) rfl)) | decide +kernel)
  have ai := C.2.2.2.2.1 (.arrayClass .int) (by decide +kernel)
  have f9 := C.2.2.2.2.1 (.fieldLink RX9 9 "TimesByPowers$Trace" "numbers" "[I") (by decide +kernel)
  have c9 : gCl wsX9_init 9 RX9 TX9 2 := ⟨by decide, rfl, rfl, by decide +kernel⟩
  have f13 := C.2.2.2.2.1 (.fieldLink RX9 13 "TimesByPowers$Trace" "left" "I") (by decide +kernel)
  refine g_aload_n C dX9_init_0 rfl rfl ?_
  refine g_objInit C dX9_init_1 m1 oi oc (Nat.le_of_ble_eq_true rfl) (Nat.le_of_ble_eq_true rfl) ?_
  refine g_aload_n C dX9_init_4 rfl rfl ?_
  refine g_bipush (v := 16) C dX9_init_5 (by decide) ?_
  obtain ⟨hq1, hf⟩ := gcase hf ho
  refine g_newa (q := 4) C dX9_init_7 ai (by decide) (by decide) (by decide) ⟨Nat.le_of_ble_eq_true rfl, Nat.le_of_ble_eq_true rfl⟩ hq1 ?_
  obtain ⟨hs2, hf⟩ := gcase hf ho
  refine g_putR (i := 0) (j := 0) C dX9_init_9 hs2 c9 gy9 rfl (by decide) f9 (fun _ h9 => h9) (Or.inr ⟨rfl, hnm, rfl⟩) (fun _ => ⟨rfl, rfl⟩) ?_
  refine g_aload_n C dX9_init_12 rfl rfl ?_
  refine g_iconst (v := 0) C dX9_init_13 (by decide) ?_
  refine g_putI (i := 1) (j := 1) C dX9_init_14 hs2 c9 gy9 rfl f13 (fun _ h9 => h9) (Or.inl rfl) rfl ?_
  cases hf
  refine g_widen (k := 1) (n := 16) (Nat.le_of_ble_eq_true rfl) (Nat.le_of_ble_eq_true rfl) ?_
  exact g_vret C dX9_init_17 hr hlk
def f_X9_empty (N : Nat) (I : gI) (R : gR) (S : gS)  : Option (gI) :=
  some (gU I 3 1 (0 : Int32))
set_option maxRecDepth 100000 in
set_option maxHeartbeats 8000000 in
theorem m_X9_empty (l : Launch) (X : gX) (N : Nat) (I : gI) (R : gR) (S : gS) (hL : gLay 3 5 R S)  (J : gI) (hf : f_X9_empty N I R S  = some J) : gM l yX9_empty wsX9_empty { frames := 0, cells := 0, slots := 0, locals := 0 } X gE0 [.ref (X.1 + 3)] I R S none J R S 0 0 := by
  unfold f_X9_empty at hf
  refine gM_of (cc := cX9_empty) (own := RX9) (maxL := 1) (ret := none) (by decide) rfl rfl (Nat.le_of_ble_eq_true rfl) ?_
  intro p e s m args below meth c C hr hlk hnm hE
  have ho : (some J) ≠ none := fun h => by cases h
  have f13 := C.2.2.2.2.1 (.fieldLink RX9 13 "TimesByPowers$Trace" "left" "I") (by decide +kernel)
  have c9 : gCl wsX9_empty 9 RX9 TX9 2 := ⟨by decide, rfl, rfl, by decide +kernel⟩
  refine g_aload_n C dX9_empty_0 rfl rfl ?_
  refine g_iconst (v := 0) C dX9_empty_1 (by decide) ?_
  refine g_putI (i := 1) (j := 1) C dX9_empty_2 (L3 hL (by decide) (by decide)) c9 gy9 rfl f13 (fun _ h9 => h9) (Or.inl rfl) rfl ?_
  cases hf
  exact g_vret C dX9_empty_5 hr hlk
def f_X9_has (N : Nat) (I : gI) (R : gR) (S : gS) (a0 : Int32) : Option (Int32) :=
  (if a0 < 0 then some (0 : Int32) else (if (I 3 1) ≤ a0 then some (0 : Int32) else some (1 : Int32)))
set_option maxRecDepth 100000 in
set_option maxHeartbeats 8000000 in
theorem m_X9_has (l : Launch) (X : gX) (N : Nat) (I : gI) (R : gR) (S : gS) (hL : gLay 3 5 R S) (a0 : Int32) (v : Int32) (hf : f_X9_has N I R S a0 = some v) : gM l yX9_has wsX9_has { frames := 0, cells := 0, slots := 0, locals := 0 } X gE0 [.ref (X.1 + 3), .int a0] I R S (some (.int v)) I R S 0 0 := by
  unfold f_X9_has at hf
  refine gM_of (cc := cX9_has) (own := RX9) (maxL := 2) (ret := (some .boolean)) (by decide) rfl rfl (Nat.le_of_ble_eq_true rfl) ?_
  intro p e s m args below meth c C hr hlk hnm hE
  have ho : (some v) ≠ none := fun h => by cases h
  have f13 := C.2.2.2.2.1 (.fieldLink RX9 13 "TimesByPowers$Trace" "left" "I") (by decide +kernel)
  have c9 : gCl wsX9_has 9 RX9 TX9 2 := ⟨by decide, rfl, rfl, by decide +kernel⟩
  refine g_iload_n C dX9_has_0 rfl rfl ?_
  refine g_if_lt (tgt := 16) C dX9_has_1 (by decide) hf (fun hf => ?_) (fun hf => ?_)
  · refine g_iconst (v := 0) C dX9_has_16 (by decide) ?_
    cases hf
    exact g_zret C dX9_has_17 hr hlk (by decide)
  · refine g_iload_n C dX9_has_4 rfl rfl ?_
    refine g_aload_n C dX9_has_5 rfl rfl ?_
    refine g_getI (i := 1) (j := 1) C dX9_has_6 (L3 hL (by decide) (by decide)) c9 rfl f13 (fun _ h9 => h9) ?_
    refine g_icmp_ge (tgt := 16) C dX9_has_9 (by decide) hf (fun hf => ?_) (fun hf => ?_)
    · refine g_iconst (v := 0) C dX9_has_16 (by decide) ?_
      cases hf
      exact g_zret C dX9_has_17 hr hlk (by decide)
    · refine g_iconst (v := 1) C dX9_has_12 (by decide) ?_
      refine g_goto (tgt := 17) C dX9_has_13 (by decide) ?_
      cases hf
      exact g_zret C dX9_has_17 hr hlk (by decide)
def f_X11_init (N : Nat) (I : gI) (R : gR) (S : gS) (a0 : Int32) (a1 : Int32) : Option (gI × gR × gS) :=
  if S.length = 1 then if (S ++ [(14, 8)])[0]? = some (10, 8) then if (S ++ [(14, 8)]).length = 2 then if ((S ++ [(14, 8)]) ++ [(15, 10)]).length = 3 then ((f_X9_init N (gZ I 3) (gZn (gU (gZn (gU (gZn R 1) 0 3 (some 1)) 2) 0 4 (some 2)) 3) (((S ++ [(14, 8)]) ++ [(15, 10)]) ++ [(9, 2)])).bind (fun z5 => if z5.2.2[0]? = some (10, 8) then if z5.2.2.length = 5 then if (z5.2.2 ++ [(12, 5)]).length = 6 then (((if a0 = (3 : Int32) then some a0 else (if a0 = (5 : Int32) then some a0 else some (2 : Int32))) : Option (Int32)).bind (fun z9 => ((f_X2_init N (gZ (gU (gZ z5.1 5) 0 7 (0 : Int32)) 6) (gZn (gU (gU z5.2.1 0 5 (some 3)) 0 6 (some 5)) 6) ((z5.2.2 ++ [(12, 5)]) ++ [(2, 8)]) z9 (if (1 : Int32) < (if a1 < (6 : Int32) then a1 else (6 : Int32)) then (if a1 < (6 : Int32) then a1 else (6 : Int32)) else (1 : Int32))).bind (fun z10 => if z10.2.2[0]? = some (10, 8) then if z10.2.2.length = 17 then ((f_X6_init N (gZ z10.1 17) (gZn (gU z10.2.1 0 0 (some 6)) 17) (z10.2.2 ++ [(6, 10)])).bind (fun z13 => if z13.2.2.length = 37 then if (z13.2.2 ++ [(8, 10)])[0]? = some (10, 8) then if gLayb 0 91 (gZn z13.2.1 37) (z13.2.2 ++ [(8, 10)]) = true then ((f_X8_init N (gZ z13.1 37) (gZn z13.2.1 37) (z13.2.2 ++ [(8, 10)])).bind (fun z17 => if z17.2.2[0]? = some (10, 8) then if z17.2.2.length = 56 then if gLayb 0 91 (gZn (gU z17.2.1 0 1 (some 37)) 56) (z17.2.2 ++ [(0, 12)]) = true then ((f_X0_init N (gZ z17.1 56) (gZn (gU z17.2.1 0 1 (some 37)) 56) (z17.2.2 ++ [(0, 12)])).bind (fun z21 => if z21.2.2[0]? = some (10, 8) then if gLayb 0 91 (gU z21.2.1 0 2 (some 56)) z21.2.2 = true then if z21.2.2.length = 75 then ((f_X5_init N (gZ z21.1 75) (gZn (gU z21.2.1 0 2 (some 56)) 75) (z21.2.2 ++ [(5, 3)]) 75).bind (fun z25 => if z25.2.2[1]? = some (14, 8) then if (0 : Int32) < 0 ∨ 8 ≤ (0 : Int32).toNatClampNeg then none else if z25.2.2[75]? = some (5, 3) then if z25.2.2[0]? = some (10, 8) then if gLayb 0 91 (gU z25.2.1 1 (0 : Int32).toNatClampNeg (some 75)) z25.2.2 = true then if z25.2.2.length = 77 then ((f_X5_init N (gZ z25.1 77) (gZn (gU z25.2.1 1 (0 : Int32).toNatClampNeg (some 75)) 77) (z25.2.2 ++ [(5, 3)]) 77).bind (fun z31 => if z31.2.2[1]? = some (14, 8) then if (1 : Int32) < 0 ∨ 8 ≤ (1 : Int32).toNatClampNeg then none else if z31.2.2[77]? = some (5, 3) then if z31.2.2[0]? = some (10, 8) then if gLayb 0 91 (gU z31.2.1 1 (1 : Int32).toNatClampNeg (some 77)) z31.2.2 = true then if z31.2.2.length = 79 then ((f_X5_init N (gZ z31.1 79) (gZn (gU z31.2.1 1 (1 : Int32).toNatClampNeg (some 77)) 79) (z31.2.2 ++ [(5, 3)]) 79).bind (fun z37 => if z37.2.2[1]? = some (14, 8) then if (2 : Int32) < 0 ∨ 8 ≤ (2 : Int32).toNatClampNeg then none else if z37.2.2[79]? = some (5, 3) then if z37.2.2[0]? = some (10, 8) then if gLayb 0 91 (gU z37.2.1 1 (2 : Int32).toNatClampNeg (some 79)) z37.2.2 = true then if z37.2.2.length = 81 then ((f_X5_init N (gZ z37.1 81) (gZn (gU z37.2.1 1 (2 : Int32).toNatClampNeg (some 79)) 81) (z37.2.2 ++ [(5, 3)]) 81).bind (fun z43 => if z43.2.2[1]? = some (14, 8) then if (3 : Int32) < 0 ∨ 8 ≤ (3 : Int32).toNatClampNeg then none else if z43.2.2[81]? = some (5, 3) then if z43.2.2[0]? = some (10, 8) then if gLayb 0 91 (gU z43.2.1 1 (3 : Int32).toNatClampNeg (some 81)) z43.2.2 = true then if z43.2.2.length = 83 then ((f_X5_init N (gZ z43.1 83) (gZn (gU z43.2.1 1 (3 : Int32).toNatClampNeg (some 81)) 83) (z43.2.2 ++ [(5, 3)]) 83).bind (fun z49 => if z49.2.2[1]? = some (14, 8) then if (4 : Int32) < 0 ∨ 8 ≤ (4 : Int32).toNatClampNeg then none else if z49.2.2[83]? = some (5, 3) then if z49.2.2[0]? = some (10, 8) then if gLayb 0 91 (gU z49.2.1 1 (4 : Int32).toNatClampNeg (some 83)) z49.2.2 = true then if z49.2.2.length = 85 then ((f_X5_init N (gZ z49.1 85) (gZn (gU z49.2.1 1 (4 : Int32).toNatClampNeg (some 83)) 85) (z49.2.2 ++ [(5, 3)]) 85).bind (fun z55 => if z55.2.2[1]? = some (14, 8) then if (5 : Int32) < 0 ∨ 8 ≤ (5 : Int32).toNatClampNeg then none else if z55.2.2[85]? = some (5, 3) then if z55.2.2[0]? = some (10, 8) then if gLayb 0 91 (gU z55.2.1 1 (5 : Int32).toNatClampNeg (some 85)) z55.2.2 = true then if z55.2.2.length = 87 then ((f_X5_init N (gZ z55.1 87) (gZn (gU z55.2.1 1 (5 : Int32).toNatClampNeg (some 85)) 87) (z55.2.2 ++ [(5, 3)]) 87).bind (fun z61 => if z61.2.2[1]? = some (14, 8) then if (6 : Int32) < 0 ∨ 8 ≤ (6 : Int32).toNatClampNeg then none else if z61.2.2[87]? = some (5, 3) then if z61.2.2[0]? = some (10, 8) then if gLayb 0 91 (gU z61.2.1 1 (6 : Int32).toNatClampNeg (some 87)) z61.2.2 = true then if z61.2.2.length = 89 then ((f_X5_init N (gZ z61.1 89) (gZn (gU z61.2.1 1 (6 : Int32).toNatClampNeg (some 87)) 89) (z61.2.2 ++ [(5, 3)]) 89).bind (fun z67 => if z67.2.2[1]? = some (14, 8) then if (7 : Int32) < 0 ∨ 8 ≤ (7 : Int32).toNatClampNeg then none else if z67.2.2[89]? = some (5, 3) then some (z67.1, gU z67.2.1 1 (7 : Int32).toNatClampNeg (some 89), z67.2.2) else none else none)) else none else none else none else none else none)) else none else none else none else none else none)) else none else none else none else none else none)) else none else none else none else none else none)) else none else none else none else none else none)) else none else none else none else none else none)) else none else none else none else none else none)) else none else none else none)) else none else none else none)) else none else none else none)) else none else none)))) else none else none else none)) else none else none else none else none
set_option maxRecDepth 100000 in
set_option maxHeartbeats 8000000 in
theorem m_X11_init (l : Launch) (X : gX) (N : Nat) (I : gI) (R : gR) (S : gS) (tm : Nat) (a0 : Int32) (a1 : Int32) (J : gI) (P : gR) (T : gS) (hf : f_X11_init N I R S a0 a1 = some (J, P, T)) : gM l yX11_init wsX11_init { frames := 4, cells := 90, slots := 1077, locals := 99 } X (gEC X tm) [.ref (X.1 + 0), .int a0, .int a1] I R S none J P T 90 1077 := by
  unfold f_X11_init at hf
  refine gM_of (cc := cX11_init) (own := RX11) (maxL := 5) (ret := none) (by decide) rfl rfl (Nat.le_of_ble_eq_true rfl) ?_
  intro p e s m args below meth c C hr hlk hnm hE
  have ho : (some (J, P, T)) ≠ none := fun h => by cases h
  have hZm := hE.2.2.2.1
  have hTm := hE.2.2.2.2.1
  have m1 := C.2.2.2.2.1 (.methodLink RX11 1 objectInit) (by decide +kernel)
  have oi := C.2.2.2.2.1 (.instanceMethod objectInit) (by decide +kernel)
  have oc := C.2.2.2.2.1 (.code objectInit ⟨#[0xb1]⟩ 1 none) (by first | exact List.mem_cons_of_mem _ (List.mem_append_left _ (List.mem_of_getElem? (i := 2) rfl)) | decide +kernel)
  have cl9 := C.2.2.2.2.1 (.classLink RX11 9 RX5) (by decide +kernel)
  have f11 := C.2.2.2.2.1 (.fieldLink RX11 11 "TimesByPowers" "rows" "[LTimesByPowers$Row;") (by decide +kernel)
  have c10 : gCl wsX11_init 10 RX11 TX11 8 := ⟨by decide, rfl, rfl, by decide +kernel⟩
  have cl15 := C.2.2.2.2.1 (.classLink RX11 15 RX10) (by decide +kernel)
  have f17 := C.2.2.2.2.1 (.fieldLink RX11 17 "TimesByPowers" "shelf" "[LTimesByPowers$World;") (by decide +kernel)
  have c9 : gCl wsX11_init 9 RX9 TX9 2 := ⟨by decide, rfl, rfl, by decide +kernel⟩
  have cl21 := C.2.2.2.2.1 (.classLink RX11 21 RX9) (by decide +kernel)
  have inX9 := C.2.2.2.2.1 (.instantiable RX9 2) (by decide +kernel)
  have niX9 := C.2.2.2.2.1 (.initialized RX9) (by decide +kernel)
  have imX9 := C.2.2.2.2.1 (.instanceMethod yX9_init) (by decide +kernel)
  have f24 := C.2.2.2.2.1 (.fieldLink RX11 24 "TimesByPowers" "steps" "LTimesByPowers$Trace;") (by decide +kernel)
  have ai := C.2.2.2.2.1 (.arrayClass .int) (by decide +kernel)
  have f28 := C.2.2.2.2.1 (.fieldLink RX11 28 "TimesByPowers" "taken" "[I") (by decide +kernel)
  have f32 := C.2.2.2.2.1 (.fieldLink RX11 32 "TimesByPowers" "latest" "I") (by decide +kernel)
  have c2 : gCl wsX11_init 2 RX2 TX2 8 := ⟨by decide, rfl, rfl, by decide +kernel⟩
  have cl36 := C.2.2.2.2.1 (.classLink RX11 36 RX2) (by decide +kernel)
  have inX2 := C.2.2.2.2.1 (.instantiable RX2 8) (by decide +kernel)
  have niX2 := C.2.2.2.2.1 (.initialized RX2) (by decide +kernel)
  have m38 := C.2.2.2.2.1 (.methodLink RX11 38 Lib.Math.min.name) (by decide +kernel)
  have hmin : gMin s args := ⟨C.2.2.2.2.1 (.static Lib.Math.min.name) (by decide +kernel), C.2.2.2.2.1 (.initialized "java/lang/Math") (by decide +kernel), C.2.2.2.2.1 (.code Lib.Math.min.name Lib.Math.min.code 2 (some .int)) (by decide +kernel)⟩
  have m44 := C.2.2.2.2.1 (.methodLink RX11 44 Lib.Math.max.name) (by decide +kernel)
  have hmax : gMax s args := ⟨C.2.2.2.2.1 (.static Lib.Math.max.name) (by decide +kernel), C.2.2.2.2.1 (.initialized "java/lang/Math") (by decide +kernel), C.2.2.2.2.1 (.code Lib.Math.max.name Lib.Math.max.code 2 (some .int)) (by decide +kernel)⟩
  have imX2 := C.2.2.2.2.1 (.instanceMethod yX2_init) (by decide +kernel)
  have m47 := C.2.2.2.2.1 (.methodLink RX11 47 yX2_init) (by decide +kernel)
  have f50 := C.2.2.2.2.1 (.fieldLink RX11 50 "TimesByPowers" "elements" "LTimesByPowers$Field;") (by decide +kernel)
  have c6 : gCl wsX11_init 6 RX6 TX6 10 := ⟨by decide, rfl, rfl, by decide +kernel⟩
  have cl54 := C.2.2.2.2.1 (.classLink RX11 54 RX6) (by decide +kernel)
  have inX6 := C.2.2.2.2.1 (.instantiable RX6 10) (by decide +kernel)
  have niX6 := C.2.2.2.2.1 (.initialized RX6) (by decide +kernel)
  have imX6 := C.2.2.2.2.1 (.instanceMethod yX6_init) (by decide +kernel)
  have m56 := C.2.2.2.2.1 (.methodLink RX11 56 yX6_init) (by decide +kernel)
  have c8 : gCl wsX11_init 8 RX8 TX8 10 := ⟨by decide, rfl, rfl, by decide +kernel⟩
  have cl59 := C.2.2.2.2.1 (.classLink RX11 59 RX8) (by decide +kernel)
  have inX8 := C.2.2.2.2.1 (.instantiable RX8 10) (by decide +kernel)
  have niX8 := C.2.2.2.2.1 (.initialized RX8) (by decide +kernel)
  have imX8 := C.2.2.2.2.1 (.instanceMethod yX8_init) (by decide +kernel)
  have m61 := C.2.2.2.2.1 (.methodLink RX11 61 yX8_init) (by decide +kernel)
  have f64 := C.2.2.2.2.1 (.fieldLink RX11 64 "TimesByPowers" "sums" "LTimesByPowers$Sums;") (by decide +kernel)
  have c0 : gCl wsX11_init 0 RX0 TX0 12 := ⟨by decide, rfl, rfl, by decide +kernel⟩
  have cl68 := C.2.2.2.2.1 (.classLink RX11 68 RX0) (by decide +kernel)
  have inX0 := C.2.2.2.2.1 (.instantiable RX0 12) (by decide +kernel)
  have niX0 := C.2.2.2.2.1 (.initialized RX0) (by decide +kernel)
  have imX0 := C.2.2.2.2.1 (.instanceMethod yX0_init) (by decide +kernel)
  have m70 := C.2.2.2.2.1 (.methodLink RX11 70 yX0_init) (by decide +kernel)
  have f71 := C.2.2.2.2.1 (.fieldLink RX11 71 "TimesByPowers" "action" "LTimesByPowers$Action;") (by decide +kernel)
  have c5 : gCl wsX11_init 5 RX5 TX5 3 := ⟨by decide, rfl, rfl, by decide +kernel⟩
  have inX5 := C.2.2.2.2.1 (.instantiable RX5 3) (by decide +kernel)
  have niX5 := C.2.2.2.2.1 (.initialized RX5) (by decide +kernel)
  have imX5 := C.2.2.2.2.1 (.instanceMethod yX5_init) (by decide +kernel)
  refine g_aload_n C dX11_init_0 rfl rfl ?_
  refine g_objInit C dX11_init_1 m1 oi oc (Nat.le_of_ble_eq_true rfl) (Nat.le_of_ble_eq_true rfl) ?_
  refine g_aload_n C dX11_init_4 rfl rfl ?_
  refine g_bipush (v := 8) C dX11_init_5 (by decide) ?_
  obtain ⟨hq1, hf⟩ := gcase hf ho
  refine g_anewa (q := 1) 2 C dX11_init_7 cl9 hE.1 (by decide) rfl (by decide) (by decide) (by decide) ⟨Nat.le_of_ble_eq_true rfl, Nat.le_of_ble_eq_true rfl⟩ hq1 ?_
  obtain ⟨hs2, hf⟩ := gcase hf ho
  refine g_putR (i := 3) (j := 3) C dX11_init_10 hs2 c10 gy10 rfl (by decide) f11 (fun _ h9 => h9) (Or.inr ⟨rfl, hnm, rfl⟩) (fun _ => ⟨rfl, rfl⟩) ?_
  refine g_aload_n C dX11_init_13 rfl rfl ?_
  refine g_bipush (v := 10) C dX11_init_14 (by decide) ?_
  obtain ⟨hq3, hf⟩ := gcase hf ho
  refine g_anewa (q := 2) 3 C dX11_init_16 cl15 hE.2.1 (by decide) rfl (by decide) (by decide) (by decide) ⟨Nat.le_of_ble_eq_true rfl, Nat.le_of_ble_eq_true rfl⟩ hq3 ?_
  refine g_putR (i := 4) (j := 4) C dX11_init_19 (gS_app hs2) c10 gy10 rfl (by decide) f17 (fun _ h9 => h9) (Or.inr ⟨rfl, hnm, rfl⟩) (fun _ => ⟨rfl, rfl⟩) ?_
  refine g_aload_n C dX11_init_22 rfl rfl ?_
  obtain ⟨hq4, hf⟩ := gcase hf ho
  refine g_new (q := 3) C dX11_init_23 c9 gy9 cl21 inX9 niX9 gd9 ⟨Nat.le_of_ble_eq_true rfl, Nat.le_of_ble_eq_true rfl⟩ hq4 ?_
  refine g_dup C dX11_init_26 rfl ?_
  obtain ⟨z5, hz5, hf⟩ := gbind hf ho
  refine g_callIN C dX11_init_27 (m_X9_init l X N _ _ _    z5.1 z5.2.1 z5.2.2 hz5) gEin0 ⟨va_cnB 0 C.2.2.2.2.1 gX11_init_X9_init_n23 rfl rfl rfl hE.2.2.2.2.2.1 niX9 (by decide +kernel) ⟨Nat.le_of_ble_eq_true rfl, Nat.le_of_ble_eq_true rfl⟩, rfl, imX9⟩ rfl rfl (Nat.le_of_ble_eq_true rfl) ⟨Nat.le_of_ble_eq_true rfl, Nat.le_of_ble_eq_true rfl⟩ ?_
  obtain ⟨hs6, hf⟩ := gcase hf ho
  refine g_putR (i := 5) (j := 5) C dX11_init_30 hs6 c10 gy10 rfl (by decide) f24 (fun _ h9 => h9) (Or.inr ⟨rfl, hnm, rfl⟩) (fun _ => ⟨rfl, rfl⟩) ?_
  refine g_aload_n C dX11_init_33 rfl rfl ?_
  refine g_iconst (v := 5) C dX11_init_34 (by decide) ?_
  obtain ⟨hq7, hf⟩ := gcase hf ho
  refine g_newa (q := 5) C dX11_init_35 ai (by decide) (by decide) (by decide) ⟨Nat.le_of_ble_eq_true rfl, Nat.le_of_ble_eq_true rfl⟩ hq7 ?_
  refine g_putR (i := 6) (j := 6) C dX11_init_37 (gS_app hs6) c10 gy10 rfl (by decide) f28 (fun _ h9 => h9) (Or.inr ⟨rfl, hnm, rfl⟩) (fun _ => ⟨rfl, rfl⟩) ?_
  refine g_aload_n C dX11_init_40 rfl rfl ?_
  refine g_iconst (v := 0) C dX11_init_41 (by decide) ?_
  refine g_putI (i := 7) (j := 7) C dX11_init_42 (gS_app hs6) c10 gy10 rfl f32 (fun _ h9 => h9) (Or.inl rfl) rfl ?_
  refine g_aload_n C dX11_init_45 rfl rfl ?_
  obtain ⟨hq8, hf⟩ := gcase hf ho
  refine g_new (q := 6) C dX11_init_46 c2 gy2 cl36 inX2 niX2 gd2 ⟨Nat.le_of_ble_eq_true rfl, Nat.le_of_ble_eq_true rfl⟩ hq8 ?_
  refine g_dup C dX11_init_49 rfl ?_
  refine g_iload_n C dX11_init_50 rfl rfl ?_
  refine g_iconst (v := 3) C dX11_init_51 (by decide) ?_
  refine g_join (fun z9 => [(0, .ref (X.1 + 0)), (2, .int a1)]) (fun z9 => [.int z9, .ref (X.1 + 6), .ref (X.1 + 6), .ref (X.1 + 0)]) (fun z9 => gZ (gU (gZ z5.1 5) 0 7 (0 : Int32)) 6) 65 hf ho (fun z9 hf => ?_) (fun o1 hf ho hkz9 => ?_)
  · refine g_iconst (v := 1) C dX11_init_65 (by decide) ?_
    refine g_bipush (v := 6) C dX11_init_66 (by decide) ?_
    refine g_iload_n C dX11_init_68 rfl rfl ?_
    refine g_min C dX11_init_69 m38 hmin (Nat.le_of_ble_eq_true rfl) (Nat.le_of_ble_eq_true rfl) ⟨Nat.le_of_ble_eq_true rfl, Nat.le_of_ble_eq_true rfl⟩ ?_
    refine g_max C dX11_init_72 m44 hmax (Nat.le_of_ble_eq_true rfl) (Nat.le_of_ble_eq_true rfl) ⟨Nat.le_of_ble_eq_true rfl, Nat.le_of_ble_eq_true rfl⟩ ?_
    obtain ⟨z10, hz10, hf⟩ := gbind hf ho
    refine g_callI C dX11_init_75 (m_X2_init l X N _ _ _ tm   _ _ z10.1 z10.2.1 z10.2.2 hz10) (gEC_in hE) (cwI 2 C.2.2.2.2.1 gX11_init_X2_init rfl rfl rfl niX2 m47 imX2 rfl (by decide +kernel) ⟨Nat.le_of_ble_eq_true rfl, Nat.le_of_ble_eq_true rfl⟩) rfl rfl (Nat.le_of_ble_eq_true rfl) ⟨Nat.le_of_ble_eq_true rfl, Nat.le_of_ble_eq_true rfl⟩ ?_
    obtain ⟨hs11, hf⟩ := gcase hf ho
    refine g_putR (i := 0) (j := 0) C dX11_init_78 hs11 c10 gy10 rfl (by decide) f50 (fun _ h9 => h9) (Or.inr ⟨rfl, hnm, rfl⟩) (fun _ => ⟨rfl, rfl⟩) ?_
    obtain ⟨hq12, hf⟩ := gcase hf ho
    refine g_new (q := 17) C dX11_init_81 c6 gy6 cl54 inX6 niX6 gd6 ⟨Nat.le_of_ble_eq_true rfl, Nat.le_of_ble_eq_true rfl⟩ hq12 ?_
    refine g_dup C dX11_init_84 rfl ?_
    refine g_aload_n C dX11_init_85 rfl rfl ?_
    refine g_getR (i := 0) (j := 0) C dX11_init_86 (gS_app hs11) c10 rfl (by decide) f50 (fun _ h9 => h9) rfl ?_
    obtain ⟨z13, hz13, hf⟩ := gbind hf ho
    refine g_callI C dX11_init_89 (m_X6_init l X N _ _ _ tm    z13.1 z13.2.1 z13.2.2 hz13) (gEC_in hE) (cwI 1 C.2.2.2.2.1 gX11_init_X6_init rfl rfl rfl niX6 m56 imX6 rfl (by decide +kernel) ⟨Nat.le_of_ble_eq_true rfl, Nat.le_of_ble_eq_true rfl⟩) rfl rfl (Nat.le_of_ble_eq_true rfl) ⟨Nat.le_of_ble_eq_true rfl, Nat.le_of_ble_eq_true rfl⟩ ?_
    refine g_astore_n C dX11_init_92 rfl (Nat.le_of_ble_eq_true rfl) rfl rfl ?_
    refine g_aload_n C dX11_init_93 rfl rfl ?_
    obtain ⟨hq14, hf⟩ := gcase hf ho
    refine g_new (q := 37) C dX11_init_94 c8 gy8 cl59 inX8 niX8 gd8 ⟨Nat.le_of_ble_eq_true rfl, Nat.le_of_ble_eq_true rfl⟩ hq14 ?_
    refine g_dup C dX11_init_97 rfl ?_
    refine g_aload_n C dX11_init_98 rfl rfl ?_
    obtain ⟨hs15, hf⟩ := gcase hf ho
    obtain ⟨hL16, hf⟩ := gcase hf ho
    have hL16 := gLayb_ok (by decide) hL16
    refine g_getR (i := 0) (j := 0) C dX11_init_99 hs15 c10 rfl (by decide) f50 (fun _ h9 => h9) (LR0_0 hL16 (by decide) (by decide)) ?_
    refine g_aload_n C dX11_init_102 rfl rfl ?_
    obtain ⟨z17, hz17, hf⟩ := gbind hf ho
    refine g_callI C dX11_init_103 (m_X8_init l X N _ _ _ tm    z17.1 z17.2.1 z17.2.2 hz17) (gEC_in hE) (cwI 2 C.2.2.2.2.1 gX11_init_X8_init rfl rfl rfl niX8 m61 imX8 rfl (by decide +kernel) ⟨Nat.le_of_ble_eq_true rfl, Nat.le_of_ble_eq_true rfl⟩) rfl rfl (Nat.le_of_ble_eq_true rfl) ⟨Nat.le_of_ble_eq_true rfl, Nat.le_of_ble_eq_true rfl⟩ ?_
    obtain ⟨hs18, hf⟩ := gcase hf ho
    refine g_putR (i := 1) (j := 1) C dX11_init_106 hs18 c10 gy10 rfl (by decide) f64 (fun _ h9 => h9) (Or.inr ⟨rfl, hnm, rfl⟩) (fun _ => ⟨rfl, rfl⟩) ?_
    refine g_aload_n C dX11_init_109 rfl rfl ?_
    obtain ⟨hq19, hf⟩ := gcase hf ho
    refine g_new (q := 56) C dX11_init_110 c0 gy0 cl68 inX0 niX0 gd0 ⟨Nat.le_of_ble_eq_true rfl, Nat.le_of_ble_eq_true rfl⟩ hq19 ?_
    refine g_dup C dX11_init_113 rfl ?_
    refine g_aload_n C dX11_init_114 rfl rfl ?_
    obtain ⟨hL20, hf⟩ := gcase hf ho
    have hL20 := gLayb_ok (by decide) hL20
    refine g_getR (i := 0) (j := 0) C dX11_init_115 (gS_app hs18) c10 rfl (by decide) f50 (fun _ h9 => h9) (LR0_0 hL20 (by decide) (by decide)) ?_
    refine g_aload_n C dX11_init_118 rfl rfl ?_
    obtain ⟨z21, hz21, hf⟩ := gbind hf ho
    refine g_callI C dX11_init_119 (m_X0_init l X N _ _ _ tm    z21.1 z21.2.1 z21.2.2 hz21) (gEC_in hE) (cwI 2 C.2.2.2.2.1 gX11_init_X0_init rfl rfl rfl niX0 m70 imX0 rfl (by decide +kernel) ⟨Nat.le_of_ble_eq_true rfl, Nat.le_of_ble_eq_true rfl⟩) rfl rfl (Nat.le_of_ble_eq_true rfl) ⟨Nat.le_of_ble_eq_true rfl, Nat.le_of_ble_eq_true rfl⟩ ?_
    obtain ⟨hs22, hf⟩ := gcase hf ho
    refine g_putR (i := 2) (j := 2) C dX11_init_122 hs22 c10 gy10 rfl (by decide) f71 (fun _ h9 => h9) (Or.inr ⟨rfl, hnm, rfl⟩) (fun _ => ⟨rfl, rfl⟩) ?_
    refine g_iconst (v := 0) C dX11_init_125 (by decide) ?_
    refine g_istore C dX11_init_126 (Nat.le_of_ble_eq_true rfl) rfl rfl ?_
    refine g_iload C dX11_init_128 rfl ?_
    refine g_bipush (v := 8) C dX11_init_130 (by decide) ?_
    refine g_icmp_ge_f (tgt := 155) C dX11_init_132 (by decide) (by decide) ?_
    refine g_aload_n C dX11_init_135 rfl rfl ?_
    obtain ⟨hL23, hf⟩ := gcase hf ho
    have hL23 := gLayb_ok (by decide) hL23
    refine g_getR (i := 3) (j := 3) C dX11_init_136 hs22 c10 rfl (by decide) f11 (fun _ h9 => h9) (LR0_3 hL23 (by decide) (by decide)) ?_
    refine g_iload C dX11_init_139 rfl ?_
    obtain ⟨hq24, hf⟩ := gcase hf ho
    refine g_new (q := 75) C dX11_init_141 c5 gy5 cl9 inX5 niX5 gd5 ⟨Nat.le_of_ble_eq_true rfl, Nat.le_of_ble_eq_true rfl⟩ hq24 ?_
    refine g_dup C dX11_init_144 rfl ?_
    obtain ⟨z25, hz25, hf⟩ := gbind hf ho
    refine g_callIN C dX11_init_145 (m_X5_init l X N _ _ _   _ z25.1 z25.2.1 z25.2.2 hz25) gEin0 ⟨va_cnB 0 C.2.2.2.2.1 gX11_init_X5_init_n75 rfl rfl rfl hE.2.2.2.2.2.2 niX5 (by decide +kernel) ⟨Nat.le_of_ble_eq_true rfl, Nat.le_of_ble_eq_true rfl⟩, rfl, imX5⟩ rfl rfl (Nat.le_of_ble_eq_true rfl) ⟨Nat.le_of_ble_eq_true rfl, Nat.le_of_ble_eq_true rfl⟩ ?_
    obtain ⟨hs26, hf⟩ := gcase hf ho
    obtain ⟨hs27, hf⟩ := gcase hf ho
    refine g_aast 2 C dX11_init_148 (by decide) hs26 rfl hs27 (by decide) rfl (Or.inl rfl) ho hf (fun hf => ?_)
    refine g_iinc (d := 1) (v := (1 : Int32)) C dX11_init_149 rfl (by decide) (by decide) (Nat.le_of_ble_eq_true rfl) rfl rfl ?_
    refine g_goto (tgt := 128) C dX11_init_152 (by decide) ?_
    refine g_iload C dX11_init_128 rfl ?_
    refine g_bipush (v := 8) C dX11_init_130 (by decide) ?_
    refine g_icmp_ge_f (tgt := 155) C dX11_init_132 (by decide) (by decide) ?_
    refine g_aload_n C dX11_init_135 rfl rfl ?_
    obtain ⟨hs28, hf⟩ := gcase hf ho
    obtain ⟨hL29, hf⟩ := gcase hf ho
    have hL29 := gLayb_ok (by decide) hL29
    refine g_getR (i := 3) (j := 3) C dX11_init_136 hs28 c10 rfl (by decide) f11 (fun _ h9 => h9) (LR0_3 hL29 (by decide) (by decide)) ?_
    refine g_iload C dX11_init_139 rfl ?_
    obtain ⟨hq30, hf⟩ := gcase hf ho
    refine g_new (q := 77) C dX11_init_141 c5 gy5 cl9 inX5 niX5 gd5 ⟨Nat.le_of_ble_eq_true rfl, Nat.le_of_ble_eq_true rfl⟩ hq30 ?_
    refine g_dup C dX11_init_144 rfl ?_
    obtain ⟨z31, hz31, hf⟩ := gbind hf ho
    refine g_callIN C dX11_init_145 (m_X5_init l X N _ _ _   _ z31.1 z31.2.1 z31.2.2 hz31) gEin0 ⟨va_cnB 0 C.2.2.2.2.1 gX11_init_X5_init_n75 rfl rfl rfl hE.2.2.2.2.2.2 niX5 (by decide +kernel) ⟨Nat.le_of_ble_eq_true rfl, Nat.le_of_ble_eq_true rfl⟩, rfl, imX5⟩ rfl rfl (Nat.le_of_ble_eq_true rfl) ⟨Nat.le_of_ble_eq_true rfl, Nat.le_of_ble_eq_true rfl⟩ ?_
    obtain ⟨hs32, hf⟩ := gcase hf ho
    obtain ⟨hs33, hf⟩ := gcase hf ho
    refine g_aast 2 C dX11_init_148 (by decide) hs32 rfl hs33 (by decide) rfl (Or.inl rfl) ho hf (fun hf => ?_)
    refine g_iinc (d := 1) (v := (2 : Int32)) C dX11_init_149 rfl (by decide) (by decide) (Nat.le_of_ble_eq_true rfl) rfl rfl ?_
    refine g_goto (tgt := 128) C dX11_init_152 (by decide) ?_
    refine g_iload C dX11_init_128 rfl ?_
    refine g_bipush (v := 8) C dX11_init_130 (by decide) ?_
    refine g_icmp_ge_f (tgt := 155) C dX11_init_132 (by decide) (by decide) ?_
    refine g_aload_n C dX11_init_135 rfl rfl ?_
    obtain ⟨hs34, hf⟩ := gcase hf ho
    obtain ⟨hL35, hf⟩ := gcase hf ho
    have hL35 := gLayb_ok (by decide) hL35
    refine g_getR (i := 3) (j := 3) C dX11_init_136 hs34 c10 rfl (by decide) f11 (fun _ h9 => h9) (LR0_3 hL35 (by decide) (by decide)) ?_
    refine g_iload C dX11_init_139 rfl ?_
    obtain ⟨hq36, hf⟩ := gcase hf ho
    refine g_new (q := 79) C dX11_init_141 c5 gy5 cl9 inX5 niX5 gd5 ⟨Nat.le_of_ble_eq_true rfl, Nat.le_of_ble_eq_true rfl⟩ hq36 ?_
    refine g_dup C dX11_init_144 rfl ?_
    obtain ⟨z37, hz37, hf⟩ := gbind hf ho
    refine g_callIN C dX11_init_145 (m_X5_init l X N _ _ _   _ z37.1 z37.2.1 z37.2.2 hz37) gEin0 ⟨va_cnB 0 C.2.2.2.2.1 gX11_init_X5_init_n75 rfl rfl rfl hE.2.2.2.2.2.2 niX5 (by decide +kernel) ⟨Nat.le_of_ble_eq_true rfl, Nat.le_of_ble_eq_true rfl⟩, rfl, imX5⟩ rfl rfl (Nat.le_of_ble_eq_true rfl) ⟨Nat.le_of_ble_eq_true rfl, Nat.le_of_ble_eq_true rfl⟩ ?_
    obtain ⟨hs38, hf⟩ := gcase hf ho
    obtain ⟨hs39, hf⟩ := gcase hf ho
    refine g_aast 2 C dX11_init_148 (by decide) hs38 rfl hs39 (by decide) rfl (Or.inl rfl) ho hf (fun hf => ?_)
    refine g_iinc (d := 1) (v := (3 : Int32)) C dX11_init_149 rfl (by decide) (by decide) (Nat.le_of_ble_eq_true rfl) rfl rfl ?_
    refine g_goto (tgt := 128) C dX11_init_152 (by decide) ?_
    refine g_iload C dX11_init_128 rfl ?_
    refine g_bipush (v := 8) C dX11_init_130 (by decide) ?_
    refine g_icmp_ge_f (tgt := 155) C dX11_init_132 (by decide) (by decide) ?_
    refine g_aload_n C dX11_init_135 rfl rfl ?_
    obtain ⟨hs40, hf⟩ := gcase hf ho
    obtain ⟨hL41, hf⟩ := gcase hf ho
    have hL41 := gLayb_ok (by decide) hL41
    refine g_getR (i := 3) (j := 3) C dX11_init_136 hs40 c10 rfl (by decide) f11 (fun _ h9 => h9) (LR0_3 hL41 (by decide) (by decide)) ?_
    refine g_iload C dX11_init_139 rfl ?_
    obtain ⟨hq42, hf⟩ := gcase hf ho
    refine g_new (q := 81) C dX11_init_141 c5 gy5 cl9 inX5 niX5 gd5 ⟨Nat.le_of_ble_eq_true rfl, Nat.le_of_ble_eq_true rfl⟩ hq42 ?_
    refine g_dup C dX11_init_144 rfl ?_
    obtain ⟨z43, hz43, hf⟩ := gbind hf ho
    refine g_callIN C dX11_init_145 (m_X5_init l X N _ _ _   _ z43.1 z43.2.1 z43.2.2 hz43) gEin0 ⟨va_cnB 0 C.2.2.2.2.1 gX11_init_X5_init_n75 rfl rfl rfl hE.2.2.2.2.2.2 niX5 (by decide +kernel) ⟨Nat.le_of_ble_eq_true rfl, Nat.le_of_ble_eq_true rfl⟩, rfl, imX5⟩ rfl rfl (Nat.le_of_ble_eq_true rfl) ⟨Nat.le_of_ble_eq_true rfl, Nat.le_of_ble_eq_true rfl⟩ ?_
    obtain ⟨hs44, hf⟩ := gcase hf ho
    obtain ⟨hs45, hf⟩ := gcase hf ho
    refine g_aast 2 C dX11_init_148 (by decide) hs44 rfl hs45 (by decide) rfl (Or.inl rfl) ho hf (fun hf => ?_)
    refine g_iinc (d := 1) (v := (4 : Int32)) C dX11_init_149 rfl (by decide) (by decide) (Nat.le_of_ble_eq_true rfl) rfl rfl ?_
    refine g_goto (tgt := 128) C dX11_init_152 (by decide) ?_
    refine g_iload C dX11_init_128 rfl ?_
    refine g_bipush (v := 8) C dX11_init_130 (by decide) ?_
    refine g_icmp_ge_f (tgt := 155) C dX11_init_132 (by decide) (by decide) ?_
    refine g_aload_n C dX11_init_135 rfl rfl ?_
    obtain ⟨hs46, hf⟩ := gcase hf ho
    obtain ⟨hL47, hf⟩ := gcase hf ho
    have hL47 := gLayb_ok (by decide) hL47
    refine g_getR (i := 3) (j := 3) C dX11_init_136 hs46 c10 rfl (by decide) f11 (fun _ h9 => h9) (LR0_3 hL47 (by decide) (by decide)) ?_
    refine g_iload C dX11_init_139 rfl ?_
    obtain ⟨hq48, hf⟩ := gcase hf ho
    refine g_new (q := 83) C dX11_init_141 c5 gy5 cl9 inX5 niX5 gd5 ⟨Nat.le_of_ble_eq_true rfl, Nat.le_of_ble_eq_true rfl⟩ hq48 ?_
    refine g_dup C dX11_init_144 rfl ?_
    obtain ⟨z49, hz49, hf⟩ := gbind hf ho
    refine g_callIN C dX11_init_145 (m_X5_init l X N _ _ _   _ z49.1 z49.2.1 z49.2.2 hz49) gEin0 ⟨va_cnB 0 C.2.2.2.2.1 gX11_init_X5_init_n75 rfl rfl rfl hE.2.2.2.2.2.2 niX5 (by decide +kernel) ⟨Nat.le_of_ble_eq_true rfl, Nat.le_of_ble_eq_true rfl⟩, rfl, imX5⟩ rfl rfl (Nat.le_of_ble_eq_true rfl) ⟨Nat.le_of_ble_eq_true rfl, Nat.le_of_ble_eq_true rfl⟩ ?_
    obtain ⟨hs50, hf⟩ := gcase hf ho
    obtain ⟨hs51, hf⟩ := gcase hf ho
    refine g_aast 2 C dX11_init_148 (by decide) hs50 rfl hs51 (by decide) rfl (Or.inl rfl) ho hf (fun hf => ?_)
    refine g_iinc (d := 1) (v := (5 : Int32)) C dX11_init_149 rfl (by decide) (by decide) (Nat.le_of_ble_eq_true rfl) rfl rfl ?_
    refine g_goto (tgt := 128) C dX11_init_152 (by decide) ?_
    refine g_iload C dX11_init_128 rfl ?_
    refine g_bipush (v := 8) C dX11_init_130 (by decide) ?_
    refine g_icmp_ge_f (tgt := 155) C dX11_init_132 (by decide) (by decide) ?_
    refine g_aload_n C dX11_init_135 rfl rfl ?_
    obtain ⟨hs52, hf⟩ := gcase hf ho
    obtain ⟨hL53, hf⟩ := gcase hf ho
    have hL53 := gLayb_ok (by decide) hL53
    refine g_getR (i := 3) (j := 3) C dX11_init_136 hs52 c10 rfl (by decide) f11 (fun _ h9 => h9) (LR0_3 hL53 (by decide) (by decide)) ?_
    refine g_iload C dX11_init_139 rfl ?_
    obtain ⟨hq54, hf⟩ := gcase hf ho
    refine g_new (q := 85) C dX11_init_141 c5 gy5 cl9 inX5 niX5 gd5 ⟨Nat.le_of_ble_eq_true rfl, Nat.le_of_ble_eq_true rfl⟩ hq54 ?_
    refine g_dup C dX11_init_144 rfl ?_
    obtain ⟨z55, hz55, hf⟩ := gbind hf ho
    refine g_callIN C dX11_init_145 (m_X5_init l X N _ _ _   _ z55.1 z55.2.1 z55.2.2 hz55) gEin0 ⟨va_cnB 0 C.2.2.2.2.1 gX11_init_X5_init_n75 rfl rfl rfl hE.2.2.2.2.2.2 niX5 (by decide +kernel) ⟨Nat.le_of_ble_eq_true rfl, Nat.le_of_ble_eq_true rfl⟩, rfl, imX5⟩ rfl rfl (Nat.le_of_ble_eq_true rfl) ⟨Nat.le_of_ble_eq_true rfl, Nat.le_of_ble_eq_true rfl⟩ ?_
    obtain ⟨hs56, hf⟩ := gcase hf ho
    obtain ⟨hs57, hf⟩ := gcase hf ho
    refine g_aast 2 C dX11_init_148 (by decide) hs56 rfl hs57 (by decide) rfl (Or.inl rfl) ho hf (fun hf => ?_)
    refine g_iinc (d := 1) (v := (6 : Int32)) C dX11_init_149 rfl (by decide) (by decide) (Nat.le_of_ble_eq_true rfl) rfl rfl ?_
    refine g_goto (tgt := 128) C dX11_init_152 (by decide) ?_
    refine g_iload C dX11_init_128 rfl ?_
    refine g_bipush (v := 8) C dX11_init_130 (by decide) ?_
    refine g_icmp_ge_f (tgt := 155) C dX11_init_132 (by decide) (by decide) ?_
    refine g_aload_n C dX11_init_135 rfl rfl ?_
    obtain ⟨hs58, hf⟩ := gcase hf ho
    obtain ⟨hL59, hf⟩ := gcase hf ho
    have hL59 := gLayb_ok (by decide) hL59
    refine g_getR (i := 3) (j := 3) C dX11_init_136 hs58 c10 rfl (by decide) f11 (fun _ h9 => h9) (LR0_3 hL59 (by decide) (by decide)) ?_
    refine g_iload C dX11_init_139 rfl ?_
    obtain ⟨hq60, hf⟩ := gcase hf ho
    refine g_new (q := 87) C dX11_init_141 c5 gy5 cl9 inX5 niX5 gd5 ⟨Nat.le_of_ble_eq_true rfl, Nat.le_of_ble_eq_true rfl⟩ hq60 ?_
    refine g_dup C dX11_init_144 rfl ?_
    obtain ⟨z61, hz61, hf⟩ := gbind hf ho
    refine g_callIN C dX11_init_145 (m_X5_init l X N _ _ _   _ z61.1 z61.2.1 z61.2.2 hz61) gEin0 ⟨va_cnB 0 C.2.2.2.2.1 gX11_init_X5_init_n75 rfl rfl rfl hE.2.2.2.2.2.2 niX5 (by decide +kernel) ⟨Nat.le_of_ble_eq_true rfl, Nat.le_of_ble_eq_true rfl⟩, rfl, imX5⟩ rfl rfl (Nat.le_of_ble_eq_true rfl) ⟨Nat.le_of_ble_eq_true rfl, Nat.le_of_ble_eq_true rfl⟩ ?_
    obtain ⟨hs62, hf⟩ := gcase hf ho
    obtain ⟨hs63, hf⟩ := gcase hf ho
    refine g_aast 2 C dX11_init_148 (by decide) hs62 rfl hs63 (by decide) rfl (Or.inl rfl) ho hf (fun hf => ?_)
    refine g_iinc (d := 1) (v := (7 : Int32)) C dX11_init_149 rfl (by decide) (by decide) (Nat.le_of_ble_eq_true rfl) rfl rfl ?_
    refine g_goto (tgt := 128) C dX11_init_152 (by decide) ?_
    refine g_iload C dX11_init_128 rfl ?_
    refine g_bipush (v := 8) C dX11_init_130 (by decide) ?_
    refine g_icmp_ge_f (tgt := 155) C dX11_init_132 (by decide) (by decide) ?_
    refine g_aload_n C dX11_init_135 rfl rfl ?_
    obtain ⟨hs64, hf⟩ := gcase hf ho
    obtain ⟨hL65, hf⟩ := gcase hf ho
    have hL65 := gLayb_ok (by decide) hL65
    refine g_getR (i := 3) (j := 3) C dX11_init_136 hs64 c10 rfl (by decide) f11 (fun _ h9 => h9) (LR0_3 hL65 (by decide) (by decide)) ?_
    refine g_iload C dX11_init_139 rfl ?_
    obtain ⟨hq66, hf⟩ := gcase hf ho
    refine g_new (q := 89) C dX11_init_141 c5 gy5 cl9 inX5 niX5 gd5 ⟨Nat.le_of_ble_eq_true rfl, Nat.le_of_ble_eq_true rfl⟩ hq66 ?_
    refine g_dup C dX11_init_144 rfl ?_
    obtain ⟨z67, hz67, hf⟩ := gbind hf ho
    refine g_callIN C dX11_init_145 (m_X5_init l X N _ _ _   _ z67.1 z67.2.1 z67.2.2 hz67) gEin0 ⟨va_cnB 0 C.2.2.2.2.1 gX11_init_X5_init_n75 rfl rfl rfl hE.2.2.2.2.2.2 niX5 (by decide +kernel) ⟨Nat.le_of_ble_eq_true rfl, Nat.le_of_ble_eq_true rfl⟩, rfl, imX5⟩ rfl rfl (Nat.le_of_ble_eq_true rfl) ⟨Nat.le_of_ble_eq_true rfl, Nat.le_of_ble_eq_true rfl⟩ ?_
    obtain ⟨hs68, hf⟩ := gcase hf ho
    obtain ⟨hs69, hf⟩ := gcase hf ho
    refine g_aast 2 C dX11_init_148 (by decide) hs68 rfl hs69 (by decide) rfl (Or.inl rfl) ho hf (fun hf => ?_)
    refine g_iinc (d := 1) (v := (8 : Int32)) C dX11_init_149 rfl (by decide) (by decide) (Nat.le_of_ble_eq_true rfl) rfl rfl ?_
    refine g_goto (tgt := 128) C dX11_init_152 (by decide) ?_
    refine g_iload C dX11_init_128 rfl ?_
    refine g_bipush (v := 8) C dX11_init_130 (by decide) ?_
    refine g_icmp_ge_t (tgt := 155) C dX11_init_132 (by decide) (by decide) ?_
    cases hf
    refine g_widen (k := 90) (n := 1077) (Nat.le_of_ble_eq_true rfl) (Nat.le_of_ble_eq_true rfl) ?_
    exact g_vret C dX11_init_155 hr hlk
  · refine g_icmp_eq (tgt := 60) C dX11_init_52 (by decide) hf (fun hf => ?_) (fun hf => ?_)
    · refine g_iload_n C dX11_init_60 rfl rfl ?_
      refine g_goto (tgt := 65) C dX11_init_61 (by decide) ?_
      exact g_sub ⟨rfl, rfl, trivial⟩ (hkz9 _ hf.symm)
    · refine g_iload_n C dX11_init_55 rfl rfl ?_
      refine g_iconst (v := 5) C dX11_init_56 (by decide) ?_
      refine g_icmp_ne (tgt := 64) C dX11_init_57 (by decide) hf (fun hf => ?_) (fun hf => ?_)
      · refine g_iconst (v := 2) C dX11_init_64 (by decide) ?_
        exact g_sub ⟨rfl, rfl, trivial⟩ (hkz9 _ hf.symm)
      · refine g_iload_n C dX11_init_60 rfl rfl ?_
        refine g_goto (tgt := 65) C dX11_init_61 (by decide) ?_
        exact g_sub ⟨rfl, rfl, trivial⟩ (hkz9 _ hf.symm)
