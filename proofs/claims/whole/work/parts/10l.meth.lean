def f_X12_status (N : Nat) (I : gI) (R : gR) (S : gS)  : Option (Int32 × gI) :=
  some ((gU I 91 0 (0 : Int32)) 91 1, gU I 91 0 (0 : Int32))
set_option maxRecDepth 100000 in
set_option maxHeartbeats 8000000 in
theorem m_X12_status (l : Launch) (X : gX) (N : Nat) (I : gI) (R : gR) (S : gS) (hL : gLay 91 114 R S)  (v : Int32) (J : gI) (hf : f_X12_status N I R S  = some (v, J)) : gM l yX12_status wsX12_status { frames := 0, cells := 0, slots := 0, locals := 0 } X gE0 [.ref (X.1 + 91)] I R S (some (.int v)) J R S 0 0 := by
  unfold f_X12_status at hf
  refine gM_of (cc := cX12_status) (own := RX12) (maxL := 1) (ret := (some .int)) (by decide) rfl rfl (Nat.le_of_ble_eq_true rfl) ?_
  intro p e s m args below meth c C hr hlk hnm hE
  have ho : (some (v, J)) ≠ none := fun h => by cases h
  have f1 := C.2.2.2.2.1 (.fieldLink RX12 1 "TimesByPowersModel" "thrown" "I") (by decide +kernel)
  have c11 : gCl wsX12_status 11 RX12 TX12 29 := ⟨by decide, rfl, rfl, by decide +kernel⟩
  have f7 := C.2.2.2.2.1 (.fieldLink RX12 7 "TimesByPowersModel" "status" "I") (by decide +kernel)
  refine g_aload_n C dX12_status_0 rfl rfl ?_
  refine g_iconst (v := 0) C dX12_status_1 (by decide) ?_
  refine g_putI (i := 0) (j := 0) C dX12_status_2 (L91 hL (by decide) (by decide)) c11 gy11 rfl f1 (fun _ h9 => h9) (Or.inl rfl) rfl ?_
  refine g_aload_n C dX12_status_5 rfl rfl ?_
  refine g_getI (i := 1) (j := 1) C dX12_status_6 (L91 hL (by decide) (by decide)) c11 rfl f7 (fun _ h9 => h9) ?_
  cases hf
  exact g_iret C dX12_status_9 hr hlk
