section GL
variable {p : Program} {l : Launch} {e : Env} {s : State} {m : MethodId} {args : Array Value} {below : List Frame} {meth : Method} {c : Code} {X : gX} {Q : State → Prop} {cells slots : Nat} {I : gI} {R : gR} {S : gS} {pc : Nat} {lv : List (Nat × Value)} {st : List Value} {cc : ByteArray} {own : String} {Ts : List Cond} {nL : Nat} {Rm : Room}
theorem g_sld {b L : Nat} {xs : Nat → Int32} {i : Int32} (C : gC p s m args c cc nL own Ts X) (hd : decode cc pc = .ok (.iaload, 1)) (hX : va_X b L xs s s.heap) (hbl : b < s.heap.size) (hbA : ¬ X.1 ≤ b) (hin : vp_in i L) (k : gW p l e Rm s m args below meth c X nL Q cells slots I R S (pc + 1) lv (.int (xs i.toNatClampNeg) :: st)) : gW p l e Rm s m args below meth c X nL Q cells slots I R S pc lv (.int i :: .ref b :: st) :=
  fun H locs ls hR hS hl => va_sld C.1 C.2.1 hX hbl hbA hS hin hd (k H locs ls hR hS hl)
theorem g_slen {b L : Nat} {xs : Nat → Int32} (C : gC p s m args c cc nL own Ts X) (hd : decode cc pc = .ok (.arraylength, 1)) (hX : va_X b L xs s s.heap) (hbl : b < s.heap.size) (hbA : ¬ X.1 ≤ b) (k : gW p l e Rm s m args below meth c X nL Q cells slots I R S (pc + 1) lv (.int (Int32.ofNat L) :: st)) : gW p l e Rm s m args below meth c X nL Q cells slots I R S pc lv (.ref b :: st) :=
  fun H locs ls hR hS hl => va_slen C.1 C.2.1 hX hbl hbA hS hd (k H locs ls hR hS hl)
set_option maxRecDepth 100000 in
set_option maxHeartbeats 4000000 in
theorem law_row {b L : Nat} {xs : Nat → Int32} {x3 : Int32} (N : Nat) (C : gC p s m args c cL_law 4 RL lw_tbl X) (hX : va_X b L xs s s.heap) (hbl : b < s.heap.size) (hbA : ¬ X.1 ≤ b) (h1 : vp_in (x3 + 1) L) (h2 : vp_in (x3 + 2) L) (h3 : vp_in (x3 + 3) L) (hE : gEN s) (hL : gLay 0 114 R S) (J : gI) (P : gR) (T : gS) (hf : k_row N I R S (xs (x3 + 1).toNatClampNeg) (xs (x3 + 2).toNatClampNeg) (xs (x3 + 3).toNatClampNeg) = some (J, P, T)) (hc : cells + 3 ≤ 600000) (hs : slots + 14 ≤ 7302250) (kk : gW p l e room_1 s m args below meth c X 4 Q (cells + 3) (slots + 14) J P T 1056 [(0, .ref b), (1, .ref (X.1 + 0)), (2, .ref (X.1 + 91)), (3, .int x3)] []) : gW p l e room_1 s m args below meth c X 4 Q cells slots I R S 164 [(0, .ref b), (1, .ref (X.1 + 0)), (2, .ref (X.1 + 91)), (3, .int x3)] [] := by
  unfold k_row at hf
  have ho : (some (J, P, T)) ≠ none := fun h => by cases h
  refine g_aload_n C dL_law_164 rfl rfl ?_
  refine g_aload_n C dL_law_165 rfl rfl ?_
  refine g_iload_n C dL_law_166 rfl rfl ?_
  refine g_iconst (v := 1) C dL_law_167 (by decide) ?_
  refine g_iadd C dL_law_168 ?_
  refine g_sld C dL_law_169 hX hbl hbA h1 ?_
  refine g_aload_n C dL_law_170 rfl rfl ?_
  refine g_iload_n C dL_law_171 rfl rfl ?_
  refine g_iconst (v := 2) C dL_law_172 (by decide) ?_
  refine g_iadd C dL_law_173 ?_
  refine g_sld C dL_law_174 hX hbl hbA h2 ?_
  refine g_aload_n C dL_law_175 rfl rfl ?_
  refine g_iload_n C dL_law_176 rfl rfl ?_
  refine g_iconst (v := 3) C dL_law_177 (by decide) ?_
  refine g_iadd C dL_law_178 ?_
  refine g_sld C dL_law_179 hX hbl hbA h3 ?_
  obtain ⟨z, hz, hf⟩ := gbind hf ho
  refine g_callV C dL_law_180 (m_X11_row l X N _ _ _ (gLay.sub hL (by decide) (by decide)) _ _ _ z.1 z.2 hz) gEin0 (cwV 3 C.2.2.2.2.1 hL_law_X11_row rfl rfl rfl (by decide +kernel) ⟨Nat.le_of_ble_eq_true rfl, Nat.le_of_ble_eq_true rfl⟩) (L0 hL (by decide) (by decide)) (by decide) rfl rfl rfl (Nat.le_of_ble_eq_true rfl) ⟨by show cells + 0 ≤ 600000; omega, by show slots + 0 ≤ 7302250; omega⟩ ?_
  obtain ⟨hL2, hf⟩ := gcase hf ho
  have hL2 := gLayb_ok (by decide) hL2
  refine g_aload_n C dL_law_183 rfl rfl ?_
  refine g_aload_n C dL_law_184 rfl rfl ?_
  refine g_iload_n C dL_law_185 rfl rfl ?_
  refine g_iconst (v := 1) C dL_law_186 (by decide) ?_
  refine g_iadd C dL_law_187 ?_
  refine g_sld C dL_law_188 hX hbl hbA h1 ?_
  refine g_aload_n C dL_law_189 rfl rfl ?_
  refine g_iload_n C dL_law_190 rfl rfl ?_
  refine g_iconst (v := 2) C dL_law_191 (by decide) ?_
  refine g_iadd C dL_law_192 ?_
  refine g_sld C dL_law_193 hX hbl hbA h2 ?_
  refine g_aload_n C dL_law_194 rfl rfl ?_
  refine g_iload_n C dL_law_195 rfl rfl ?_
  refine g_iconst (v := 3) C dL_law_196 (by decide) ?_
  refine g_iadd C dL_law_197 ?_
  refine g_sld C dL_law_198 hX hbl hbA h3 ?_
  obtain ⟨y, hy, hf⟩ := gbind hf ho
  refine g_callV C dL_law_199 (m_X12_row l X N _ _ _ (gLay.sub hL2 (by decide) (by decide)) _ _ _ y.1 y.2 hy) gEin0 (cwV 3 C.2.2.2.2.1 hL_law_X12_row rfl rfl rfl (by decide +kernel) ⟨Nat.le_of_ble_eq_true rfl, Nat.le_of_ble_eq_true rfl⟩) (L91 hL2 (by decide) (by decide)) (by decide) rfl rfl rfl (Nat.le_of_ble_eq_true rfl) ⟨by show cells + 0 + 0 ≤ 600000; omega, by show slots + 0 + 0 ≤ 7302250; omega⟩ ?_
  obtain ⟨he, hf⟩ := gcase hf ho
  obtain ⟨rfl, rfl, rfl⟩ := gs3 hf
  refine g_icmp_eq_t (tgt := 1056) C dL_law_202 (by decide) he ?_
  exact g_widen (by omega) (by omega) kk
set_option maxRecDepth 100000 in
set_option maxHeartbeats 4000000 in
theorem law_set {b L : Nat} {xs : Nat → Int32} {x3 : Int32} (N : Nat) (C : gC p s m args c cL_law 4 RL lw_tbl X) (hX : va_X b L xs s s.heap) (hbl : b < s.heap.size) (hbA : ¬ X.1 ≤ b) (h1 : vp_in (x3 + 1) L) (h2 : vp_in (x3 + 2) L) (h3 : vp_in (x3 + 3) L) (hE : gEN s) (hL : gLay 0 114 R S) (J : gI) (P : gR) (T : gS) (hf : k_set N I R S (xs (x3 + 1).toNatClampNeg) (xs (x3 + 2).toNatClampNeg) (xs (x3 + 3).toNatClampNeg) = some (J, P, T)) (hc : cells + 3 ≤ 600000) (hs : slots + 14 ≤ 7302250) (kk : gW p l e room_1 s m args below meth c X 4 Q (cells + 3) (slots + 14) J P T 1056 [(0, .ref b), (1, .ref (X.1 + 0)), (2, .ref (X.1 + 91)), (3, .int x3)] []) : gW p l e room_1 s m args below meth c X 4 Q cells slots I R S 207 [(0, .ref b), (1, .ref (X.1 + 0)), (2, .ref (X.1 + 91)), (3, .int x3)] [] := by
  unfold k_set at hf
  have ho : (some (J, P, T)) ≠ none := fun h => by cases h
  refine g_aload_n C dL_law_207 rfl rfl ?_
  refine g_aload_n C dL_law_208 rfl rfl ?_
  refine g_iload_n C dL_law_209 rfl rfl ?_
  refine g_iconst (v := 1) C dL_law_210 (by decide) ?_
  refine g_iadd C dL_law_211 ?_
  refine g_sld C dL_law_212 hX hbl hbA h1 ?_
  refine g_aload_n C dL_law_213 rfl rfl ?_
  refine g_iload_n C dL_law_214 rfl rfl ?_
  refine g_iconst (v := 2) C dL_law_215 (by decide) ?_
  refine g_iadd C dL_law_216 ?_
  refine g_sld C dL_law_217 hX hbl hbA h2 ?_
  refine g_aload_n C dL_law_218 rfl rfl ?_
  refine g_iload_n C dL_law_219 rfl rfl ?_
  refine g_iconst (v := 3) C dL_law_220 (by decide) ?_
  refine g_iadd C dL_law_221 ?_
  refine g_sld C dL_law_222 hX hbl hbA h3 ?_
  obtain ⟨z, hz, hf⟩ := gbind hf ho
  refine g_callV C dL_law_223 (m_X11_set l X N _ _ _ (gLay.sub hL (by decide) (by decide)) _ _ _ z.1 z.2 hz) gEin0 (cwV 3 C.2.2.2.2.1 hL_law_X11_set rfl rfl rfl (by decide +kernel) ⟨Nat.le_of_ble_eq_true rfl, Nat.le_of_ble_eq_true rfl⟩) (L0 hL (by decide) (by decide)) (by decide) rfl rfl rfl (Nat.le_of_ble_eq_true rfl) ⟨by show cells + 0 ≤ 600000; omega, by show slots + 0 ≤ 7302250; omega⟩ ?_
  obtain ⟨hL2, hf⟩ := gcase hf ho
  have hL2 := gLayb_ok (by decide) hL2
  refine g_aload_n C dL_law_226 rfl rfl ?_
  refine g_aload_n C dL_law_227 rfl rfl ?_
  refine g_iload_n C dL_law_228 rfl rfl ?_
  refine g_iconst (v := 1) C dL_law_229 (by decide) ?_
  refine g_iadd C dL_law_230 ?_
  refine g_sld C dL_law_231 hX hbl hbA h1 ?_
  refine g_aload_n C dL_law_232 rfl rfl ?_
  refine g_iload_n C dL_law_233 rfl rfl ?_
  refine g_iconst (v := 2) C dL_law_234 (by decide) ?_
  refine g_iadd C dL_law_235 ?_
  refine g_sld C dL_law_236 hX hbl hbA h2 ?_
  refine g_aload_n C dL_law_237 rfl rfl ?_
  refine g_iload_n C dL_law_238 rfl rfl ?_
  refine g_iconst (v := 3) C dL_law_239 (by decide) ?_
  refine g_iadd C dL_law_240 ?_
  refine g_sld C dL_law_241 hX hbl hbA h3 ?_
  obtain ⟨y, hy, hf⟩ := gbind hf ho
  refine g_callV C dL_law_242 (m_X12_set l X N _ _ _ (gLay.sub hL2 (by decide) (by decide)) _ _ _ y.1 y.2 hy) gEin0 (cwV 3 C.2.2.2.2.1 hL_law_X12_set rfl rfl rfl (by decide +kernel) ⟨Nat.le_of_ble_eq_true rfl, Nat.le_of_ble_eq_true rfl⟩) (L91 hL2 (by decide) (by decide)) (by decide) rfl rfl rfl (Nat.le_of_ble_eq_true rfl) ⟨by show cells + 0 + 0 ≤ 600000; omega, by show slots + 0 + 0 ≤ 7302250; omega⟩ ?_
  obtain ⟨he, hf⟩ := gcase hf ho
  obtain ⟨rfl, rfl, rfl⟩ := gs3 hf
  refine g_icmp_eq_t (tgt := 1056) C dL_law_245 (by decide) he ?_
  exact g_widen (by omega) (by omega) kk
set_option maxRecDepth 100000 in
set_option maxHeartbeats 4000000 in
theorem law_copy {b L : Nat} {xs : Nat → Int32} {x3 : Int32} (N : Nat) (C : gC p s m args c cL_law 4 RL lw_tbl X) (hX : va_X b L xs s s.heap) (hbl : b < s.heap.size) (hbA : ¬ X.1 ≤ b) (h1 : vp_in (x3 + 1) L) (h2 : vp_in (x3 + 2) L) (h3 : vp_in (x3 + 3) L) (h4 : vp_in (x3 + 4) L) (h5 : vp_in (x3 + 5) L) (hE : gEN s) (hL : gLay 0 114 R S) (J : gI) (P : gR) (T : gS) (hf : k_copy N I R S (xs (x3 + 1).toNatClampNeg) (xs (x3 + 2).toNatClampNeg) (xs (x3 + 3).toNatClampNeg) (xs (x3 + 4).toNatClampNeg) (xs (x3 + 5).toNatClampNeg) = some (J, P, T)) (hc : cells + 3 ≤ 600000) (hs : slots + 14 ≤ 7302250) (kk : gW p l e room_1 s m args below meth c X 4 Q (cells + 3) (slots + 14) J P T 1056 [(0, .ref b), (1, .ref (X.1 + 0)), (2, .ref (X.1 + 91)), (3, .int x3)] []) : gW p l e room_1 s m args below meth c X 4 Q cells slots I R S 250 [(0, .ref b), (1, .ref (X.1 + 0)), (2, .ref (X.1 + 91)), (3, .int x3)] [] := by
  unfold k_copy at hf
  have ho : (some (J, P, T)) ≠ none := fun h => by cases h
  refine g_aload_n C dL_law_250 rfl rfl ?_
  refine g_aload_n C dL_law_251 rfl rfl ?_
  refine g_iload_n C dL_law_252 rfl rfl ?_
  refine g_iconst (v := 1) C dL_law_253 (by decide) ?_
  refine g_iadd C dL_law_254 ?_
  refine g_sld C dL_law_255 hX hbl hbA h1 ?_
  refine g_aload_n C dL_law_256 rfl rfl ?_
  refine g_iload_n C dL_law_257 rfl rfl ?_
  refine g_iconst (v := 2) C dL_law_258 (by decide) ?_
  refine g_iadd C dL_law_259 ?_
  refine g_sld C dL_law_260 hX hbl hbA h2 ?_
  refine g_aload_n C dL_law_261 rfl rfl ?_
  refine g_iload_n C dL_law_262 rfl rfl ?_
  refine g_iconst (v := 3) C dL_law_263 (by decide) ?_
  refine g_iadd C dL_law_264 ?_
  refine g_sld C dL_law_265 hX hbl hbA h3 ?_
  refine g_aload_n C dL_law_266 rfl rfl ?_
  refine g_iload_n C dL_law_267 rfl rfl ?_
  refine g_iconst (v := 4) C dL_law_268 (by decide) ?_
  refine g_iadd C dL_law_269 ?_
  refine g_sld C dL_law_270 hX hbl hbA h4 ?_
  refine g_aload_n C dL_law_271 rfl rfl ?_
  refine g_iload_n C dL_law_272 rfl rfl ?_
  refine g_iconst (v := 5) C dL_law_273 (by decide) ?_
  refine g_iadd C dL_law_274 ?_
  refine g_sld C dL_law_275 hX hbl hbA h5 ?_
  obtain ⟨z, hz, hf⟩ := gbind hf ho
  refine g_callV C dL_law_276 (m_X11_copy l X N _ _ _ (gLay.sub hL (by decide) (by decide)) _ _ _ _ _ z.1 z.2 hz) gEin0 (cwV 5 C.2.2.2.2.1 hL_law_X11_copy rfl rfl rfl (by decide +kernel) ⟨Nat.le_of_ble_eq_true rfl, Nat.le_of_ble_eq_true rfl⟩) (L0 hL (by decide) (by decide)) (by decide) rfl rfl rfl (Nat.le_of_ble_eq_true rfl) ⟨by show cells + 0 ≤ 600000; omega, by show slots + 0 ≤ 7302250; omega⟩ ?_
  obtain ⟨hL2, hf⟩ := gcase hf ho
  have hL2 := gLayb_ok (by decide) hL2
  refine g_aload_n C dL_law_279 rfl rfl ?_
  refine g_aload_n C dL_law_280 rfl rfl ?_
  refine g_iload_n C dL_law_281 rfl rfl ?_
  refine g_iconst (v := 1) C dL_law_282 (by decide) ?_
  refine g_iadd C dL_law_283 ?_
  refine g_sld C dL_law_284 hX hbl hbA h1 ?_
  refine g_aload_n C dL_law_285 rfl rfl ?_
  refine g_iload_n C dL_law_286 rfl rfl ?_
  refine g_iconst (v := 2) C dL_law_287 (by decide) ?_
  refine g_iadd C dL_law_288 ?_
  refine g_sld C dL_law_289 hX hbl hbA h2 ?_
  refine g_aload_n C dL_law_290 rfl rfl ?_
  refine g_iload_n C dL_law_291 rfl rfl ?_
  refine g_iconst (v := 3) C dL_law_292 (by decide) ?_
  refine g_iadd C dL_law_293 ?_
  refine g_sld C dL_law_294 hX hbl hbA h3 ?_
  refine g_aload_n C dL_law_295 rfl rfl ?_
  refine g_iload_n C dL_law_296 rfl rfl ?_
  refine g_iconst (v := 4) C dL_law_297 (by decide) ?_
  refine g_iadd C dL_law_298 ?_
  refine g_sld C dL_law_299 hX hbl hbA h4 ?_
  refine g_aload_n C dL_law_300 rfl rfl ?_
  refine g_iload_n C dL_law_301 rfl rfl ?_
  refine g_iconst (v := 5) C dL_law_302 (by decide) ?_
  refine g_iadd C dL_law_303 ?_
  refine g_sld C dL_law_304 hX hbl hbA h5 ?_
  obtain ⟨y, hy, hf⟩ := gbind hf ho
  refine g_callV C dL_law_305 (m_X12_copy l X N _ _ _ (gLay.sub hL2 (by decide) (by decide)) _ _ _ _ _ y.1 y.2 hy) gEin0 (cwV 5 C.2.2.2.2.1 hL_law_X12_copy rfl rfl rfl (by decide +kernel) ⟨Nat.le_of_ble_eq_true rfl, Nat.le_of_ble_eq_true rfl⟩) (L91 hL2 (by decide) (by decide)) (by decide) rfl rfl rfl (Nat.le_of_ble_eq_true rfl) ⟨by show cells + 0 + 0 ≤ 600000; omega, by show slots + 0 + 0 ≤ 7302250; omega⟩ ?_
  obtain ⟨he, hf⟩ := gcase hf ho
  obtain ⟨rfl, rfl, rfl⟩ := gs3 hf
  refine g_icmp_eq_t (tgt := 1056) C dL_law_308 (by decide) he ?_
  exact g_widen (by omega) (by omega) kk
set_option maxRecDepth 100000 in
set_option maxHeartbeats 4000000 in
theorem law_drop {b L : Nat} {xs : Nat → Int32} {x3 : Int32} (N : Nat) (C : gC p s m args c cL_law 4 RL lw_tbl X) (hX : va_X b L xs s s.heap) (hbl : b < s.heap.size) (hbA : ¬ X.1 ≤ b) (h1 : vp_in (x3 + 1) L) (hE : gEN s) (hL : gLay 0 114 R S) (J : gI) (P : gR) (T : gS) (hf : k_drop N I R S (xs (x3 + 1).toNatClampNeg) = some (J, P, T)) (hc : cells + 3 ≤ 600000) (hs : slots + 14 ≤ 7302250) (kk : gW p l e room_1 s m args below meth c X 4 Q (cells + 3) (slots + 14) J P T 1056 [(0, .ref b), (1, .ref (X.1 + 0)), (2, .ref (X.1 + 91)), (3, .int x3)] []) : gW p l e room_1 s m args below meth c X 4 Q cells slots I R S 313 [(0, .ref b), (1, .ref (X.1 + 0)), (2, .ref (X.1 + 91)), (3, .int x3)] [] := by
  unfold k_drop at hf
  have ho : (some (J, P, T)) ≠ none := fun h => by cases h
  refine g_aload_n C dL_law_313 rfl rfl ?_
  refine g_aload_n C dL_law_314 rfl rfl ?_
  refine g_iload_n C dL_law_315 rfl rfl ?_
  refine g_iconst (v := 1) C dL_law_316 (by decide) ?_
  refine g_iadd C dL_law_317 ?_
  refine g_sld C dL_law_318 hX hbl hbA h1 ?_
  obtain ⟨z, hz, hf⟩ := gbind hf ho
  refine g_callV C dL_law_319 (m_X11_drop l X N _ _ _ (gLay.sub hL (by decide) (by decide)) _ z.1 z.2 hz) gEin0 (cwV 1 C.2.2.2.2.1 hL_law_X11_drop rfl rfl rfl (by decide +kernel) ⟨Nat.le_of_ble_eq_true rfl, Nat.le_of_ble_eq_true rfl⟩) (L0 hL (by decide) (by decide)) (by decide) rfl rfl rfl (Nat.le_of_ble_eq_true rfl) ⟨by show cells + 0 ≤ 600000; omega, by show slots + 0 ≤ 7302250; omega⟩ ?_
  obtain ⟨hL2, hf⟩ := gcase hf ho
  have hL2 := gLayb_ok (by decide) hL2
  refine g_aload_n C dL_law_322 rfl rfl ?_
  refine g_aload_n C dL_law_323 rfl rfl ?_
  refine g_iload_n C dL_law_324 rfl rfl ?_
  refine g_iconst (v := 1) C dL_law_325 (by decide) ?_
  refine g_iadd C dL_law_326 ?_
  refine g_sld C dL_law_327 hX hbl hbA h1 ?_
  obtain ⟨y, hy, hf⟩ := gbind hf ho
  refine g_callV C dL_law_328 (m_X12_drop l X N _ _ _ (gLay.sub hL2 (by decide) (by decide)) _ y.1 y.2 hy) gEin0 (cwV 1 C.2.2.2.2.1 hL_law_X12_drop rfl rfl rfl (by decide +kernel) ⟨Nat.le_of_ble_eq_true rfl, Nat.le_of_ble_eq_true rfl⟩) (L91 hL2 (by decide) (by decide)) (by decide) rfl rfl rfl (Nat.le_of_ble_eq_true rfl) ⟨by show cells + 0 + 0 ≤ 600000; omega, by show slots + 0 + 0 ≤ 7302250; omega⟩ ?_
  obtain ⟨he, hf⟩ := gcase hf ho
  obtain ⟨rfl, rfl, rfl⟩ := gs3 hf
  refine g_icmp_eq_t (tgt := 1056) C dL_law_331 (by decide) he ?_
  exact g_widen (by omega) (by omega) kk
set_option maxRecDepth 100000 in
set_option maxHeartbeats 4000000 in
theorem law_field {b L : Nat} {xs : Nat → Int32} {x3 : Int32} (N : Nat) (C : gC p s m args c cL_law 4 RL lw_tbl X) (hX : va_X b L xs s s.heap) (hbl : b < s.heap.size) (hbA : ¬ X.1 ≤ b) (h1 : vp_in (x3 + 1) L) (h2 : vp_in (x3 + 2) L) (h3 : vp_in (x3 + 3) L) (hE : gEN s) (hL : gLay 0 114 R S) (J : gI) (P : gR) (T : gS) (hf : k_field N I R S (xs (x3 + 1).toNatClampNeg) (xs (x3 + 2).toNatClampNeg) (xs (x3 + 3).toNatClampNeg) = some (J, P, T)) (hc : cells + 3 ≤ 600000) (hs : slots + 14 ≤ 7302250) (kk : gW p l e room_1 s m args below meth c X 4 Q (cells + 3) (slots + 14) J P T 1056 [(0, .ref b), (1, .ref (X.1 + 0)), (2, .ref (X.1 + 91)), (3, .int x3)] []) : gW p l e room_1 s m args below meth c X 4 Q cells slots I R S 336 [(0, .ref b), (1, .ref (X.1 + 0)), (2, .ref (X.1 + 91)), (3, .int x3)] [] := by
  unfold k_field at hf
  have ho : (some (J, P, T)) ≠ none := fun h => by cases h
  refine g_aload_n C dL_law_336 rfl rfl ?_
  refine g_aload_n C dL_law_337 rfl rfl ?_
  refine g_iload_n C dL_law_338 rfl rfl ?_
  refine g_iconst (v := 1) C dL_law_339 (by decide) ?_
  refine g_iadd C dL_law_340 ?_
  refine g_sld C dL_law_341 hX hbl hbA h1 ?_
  refine g_aload_n C dL_law_342 rfl rfl ?_
  refine g_iload_n C dL_law_343 rfl rfl ?_
  refine g_iconst (v := 2) C dL_law_344 (by decide) ?_
  refine g_iadd C dL_law_345 ?_
  refine g_sld C dL_law_346 hX hbl hbA h2 ?_
  refine g_aload_n C dL_law_347 rfl rfl ?_
  refine g_iload_n C dL_law_348 rfl rfl ?_
  refine g_iconst (v := 3) C dL_law_349 (by decide) ?_
  refine g_iadd C dL_law_350 ?_
  refine g_sld C dL_law_351 hX hbl hbA h3 ?_
  obtain ⟨z, hz, hf⟩ := gbind hf ho
  refine g_callV C dL_law_352 (m_X11_field l X N _ _ _ (gLay.sub hL (by decide) (by decide)) _ _ _ z.1 z.2 hz) gEin0 (cwV 3 C.2.2.2.2.1 hL_law_X11_field rfl rfl rfl (by decide +kernel) ⟨Nat.le_of_ble_eq_true rfl, Nat.le_of_ble_eq_true rfl⟩) (L0 hL (by decide) (by decide)) (by decide) rfl rfl rfl (Nat.le_of_ble_eq_true rfl) ⟨by show cells + 0 ≤ 600000; omega, by show slots + 0 ≤ 7302250; omega⟩ ?_
  obtain ⟨hL2, hf⟩ := gcase hf ho
  have hL2 := gLayb_ok (by decide) hL2
  refine g_aload_n C dL_law_355 rfl rfl ?_
  refine g_aload_n C dL_law_356 rfl rfl ?_
  refine g_iload_n C dL_law_357 rfl rfl ?_
  refine g_iconst (v := 1) C dL_law_358 (by decide) ?_
  refine g_iadd C dL_law_359 ?_
  refine g_sld C dL_law_360 hX hbl hbA h1 ?_
  refine g_aload_n C dL_law_361 rfl rfl ?_
  refine g_iload_n C dL_law_362 rfl rfl ?_
  refine g_iconst (v := 2) C dL_law_363 (by decide) ?_
  refine g_iadd C dL_law_364 ?_
  refine g_sld C dL_law_365 hX hbl hbA h2 ?_
  refine g_aload_n C dL_law_366 rfl rfl ?_
  refine g_iload_n C dL_law_367 rfl rfl ?_
  refine g_iconst (v := 3) C dL_law_368 (by decide) ?_
  refine g_iadd C dL_law_369 ?_
  refine g_sld C dL_law_370 hX hbl hbA h3 ?_
  obtain ⟨y, hy, hf⟩ := gbind hf ho
  refine g_callV C dL_law_371 (m_X12_field l X N _ _ _ (gLay.sub hL2 (by decide) (by decide)) _ _ _ y.1 y.2 hy) gEin0 (cwV 3 C.2.2.2.2.1 hL_law_X12_field rfl rfl rfl (by decide +kernel) ⟨Nat.le_of_ble_eq_true rfl, Nat.le_of_ble_eq_true rfl⟩) (L91 hL2 (by decide) (by decide)) (by decide) rfl rfl rfl (Nat.le_of_ble_eq_true rfl) ⟨by show cells + 0 + 0 ≤ 600000; omega, by show slots + 0 + 0 ≤ 7302250; omega⟩ ?_
  obtain ⟨he, hf⟩ := gcase hf ho
  obtain ⟨rfl, rfl, rfl⟩ := gs3 hf
  refine g_icmp_eq_t (tgt := 1056) C dL_law_374 (by decide) he ?_
  exact g_widen (by omega) (by omega) kk
set_option maxRecDepth 100000 in
set_option maxHeartbeats 4000000 in
theorem law_world {b L : Nat} {xs : Nat → Int32} {x3 : Int32} (N : Nat) (C : gC p s m args c cL_law 4 RL lw_tbl X) (hX : va_X b L xs s s.heap) (hbl : b < s.heap.size) (hbA : ¬ X.1 ≤ b) (h1 : vp_in (x3 + 1) L) (h2 : vp_in (x3 + 2) L) (h3 : vp_in (x3 + 3) L) (h4 : vp_in (x3 + 4) L) (hE : gEN s) (hL : gLay 0 114 R S) (J : gI) (P : gR) (T : gS) (hf : k_world N I R S (xs (x3 + 1).toNatClampNeg) (xs (x3 + 2).toNatClampNeg) (xs (x3 + 3).toNatClampNeg) (xs (x3 + 4).toNatClampNeg) = some (J, P, T)) (hc : cells + 3 ≤ 600000) (hs : slots + 14 ≤ 7302250) (kk : gW p l e room_1 s m args below meth c X 4 Q (cells + 3) (slots + 14) J P T 1056 [(0, .ref b), (1, .ref (X.1 + 0)), (2, .ref (X.1 + 91)), (3, .int x3)] []) : gW p l e room_1 s m args below meth c X 4 Q cells slots I R S 379 [(0, .ref b), (1, .ref (X.1 + 0)), (2, .ref (X.1 + 91)), (3, .int x3)] [] := by
  unfold k_world at hf
  have ho : (some (J, P, T)) ≠ none := fun h => by cases h
  refine g_aload_n C dL_law_379 rfl rfl ?_
  refine g_aload_n C dL_law_380 rfl rfl ?_
  refine g_iload_n C dL_law_381 rfl rfl ?_
  refine g_iconst (v := 1) C dL_law_382 (by decide) ?_
  refine g_iadd C dL_law_383 ?_
  refine g_sld C dL_law_384 hX hbl hbA h1 ?_
  refine g_aload_n C dL_law_385 rfl rfl ?_
  refine g_iload_n C dL_law_386 rfl rfl ?_
  refine g_iconst (v := 2) C dL_law_387 (by decide) ?_
  refine g_iadd C dL_law_388 ?_
  refine g_sld C dL_law_389 hX hbl hbA h2 ?_
  refine g_aload_n C dL_law_390 rfl rfl ?_
  refine g_iload_n C dL_law_391 rfl rfl ?_
  refine g_iconst (v := 3) C dL_law_392 (by decide) ?_
  refine g_iadd C dL_law_393 ?_
  refine g_sld C dL_law_394 hX hbl hbA h3 ?_
  refine g_aload_n C dL_law_395 rfl rfl ?_
  refine g_iload_n C dL_law_396 rfl rfl ?_
  refine g_iconst (v := 4) C dL_law_397 (by decide) ?_
  refine g_iadd C dL_law_398 ?_
  refine g_sld C dL_law_399 hX hbl hbA h4 ?_
  obtain ⟨z, hz, hf⟩ := gbind hf ho
  refine g_callV C dL_law_400 (m_X11_world l X N _ _ _ (gLay.sub hL (by decide) (by decide)) _ _ _ _ z.1 z.2.1 z.2.2.1 z.2.2.2 hz) (gEN_in hE) (cwV 4 C.2.2.2.2.1 hL_law_X11_world rfl rfl rfl (by decide +kernel) ⟨Nat.le_of_ble_eq_true rfl, Nat.le_of_ble_eq_true rfl⟩) (L0 hL (by decide) (by decide)) (by decide) rfl rfl rfl (Nat.le_of_ble_eq_true rfl) ⟨by show cells + 3 ≤ 600000; omega, by show slots + 14 ≤ 7302250; omega⟩ ?_
  obtain ⟨hL2, hf⟩ := gcase hf ho
  have hL2 := gLayb_ok (by decide) hL2
  refine g_aload_n C dL_law_403 rfl rfl ?_
  refine g_aload_n C dL_law_404 rfl rfl ?_
  refine g_iload_n C dL_law_405 rfl rfl ?_
  refine g_iconst (v := 1) C dL_law_406 (by decide) ?_
  refine g_iadd C dL_law_407 ?_
  refine g_sld C dL_law_408 hX hbl hbA h1 ?_
  refine g_aload_n C dL_law_409 rfl rfl ?_
  refine g_iload_n C dL_law_410 rfl rfl ?_
  refine g_iconst (v := 2) C dL_law_411 (by decide) ?_
  refine g_iadd C dL_law_412 ?_
  refine g_sld C dL_law_413 hX hbl hbA h2 ?_
  refine g_aload_n C dL_law_414 rfl rfl ?_
  refine g_iload_n C dL_law_415 rfl rfl ?_
  refine g_iconst (v := 3) C dL_law_416 (by decide) ?_
  refine g_iadd C dL_law_417 ?_
  refine g_sld C dL_law_418 hX hbl hbA h3 ?_
  refine g_aload_n C dL_law_419 rfl rfl ?_
  refine g_iload_n C dL_law_420 rfl rfl ?_
  refine g_iconst (v := 4) C dL_law_421 (by decide) ?_
  refine g_iadd C dL_law_422 ?_
  refine g_sld C dL_law_423 hX hbl hbA h4 ?_
  obtain ⟨y, hy, hf⟩ := gbind hf ho
  refine g_callV C dL_law_424 (m_X12_world l X N _ _ _ (gLay.sub hL2 (by decide) (by decide)) _ _ _ _ y.1 y.2 hy) gEin0 (cwV 4 C.2.2.2.2.1 hL_law_X12_world rfl rfl rfl (by decide +kernel) ⟨Nat.le_of_ble_eq_true rfl, Nat.le_of_ble_eq_true rfl⟩) (L91 hL2 (by decide) (by decide)) (by decide) rfl rfl rfl (Nat.le_of_ble_eq_true rfl) ⟨by show cells + 3 + 0 ≤ 600000; omega, by show slots + 14 + 0 ≤ 7302250; omega⟩ ?_
  obtain ⟨he, hf⟩ := gcase hf ho
  obtain ⟨rfl, rfl, rfl⟩ := gs3 hf
  refine g_icmp_eq_t (tgt := 1056) C dL_law_427 (by decide) he ?_
  exact g_widen (by omega) (by omega) kk
set_option maxRecDepth 100000 in
set_option maxHeartbeats 4000000 in
theorem law_turn {b L : Nat} {xs : Nat → Int32} {x3 : Int32} (N : Nat) (C : gC p s m args c cL_law 4 RL lw_tbl X) (hX : va_X b L xs s s.heap) (hbl : b < s.heap.size) (hbA : ¬ X.1 ≤ b) (h1 : vp_in (x3 + 1) L) (h2 : vp_in (x3 + 2) L) (h3 : vp_in (x3 + 3) L) (hE : gEN s) (hL : gLay 0 114 R S) (J : gI) (P : gR) (T : gS) (hf : k_turn N I R S (xs (x3 + 1).toNatClampNeg) (xs (x3 + 2).toNatClampNeg) (xs (x3 + 3).toNatClampNeg) = some (J, P, T)) (hc : cells + 3 ≤ 600000) (hs : slots + 14 ≤ 7302250) (kk : gW p l e room_1 s m args below meth c X 4 Q (cells + 3) (slots + 14) J P T 1056 [(0, .ref b), (1, .ref (X.1 + 0)), (2, .ref (X.1 + 91)), (3, .int x3)] []) : gW p l e room_1 s m args below meth c X 4 Q cells slots I R S 432 [(0, .ref b), (1, .ref (X.1 + 0)), (2, .ref (X.1 + 91)), (3, .int x3)] [] := by
  unfold k_turn at hf
  have ho : (some (J, P, T)) ≠ none := fun h => by cases h
  refine g_aload_n C dL_law_432 rfl rfl ?_
  refine g_aload_n C dL_law_433 rfl rfl ?_
  refine g_iload_n C dL_law_434 rfl rfl ?_
  refine g_iconst (v := 1) C dL_law_435 (by decide) ?_
  refine g_iadd C dL_law_436 ?_
  refine g_sld C dL_law_437 hX hbl hbA h1 ?_
  refine g_aload_n C dL_law_438 rfl rfl ?_
  refine g_iload_n C dL_law_439 rfl rfl ?_
  refine g_iconst (v := 2) C dL_law_440 (by decide) ?_
  refine g_iadd C dL_law_441 ?_
  refine g_sld C dL_law_442 hX hbl hbA h2 ?_
  refine g_aload_n C dL_law_443 rfl rfl ?_
  refine g_iload_n C dL_law_444 rfl rfl ?_
  refine g_iconst (v := 3) C dL_law_445 (by decide) ?_
  refine g_iadd C dL_law_446 ?_
  refine g_sld C dL_law_447 hX hbl hbA h3 ?_
  obtain ⟨z, hz, hf⟩ := gbind hf ho
  refine g_callV C dL_law_448 (m_X11_turn l X N _ _ _ (gLay.sub hL (by decide) (by decide)) _ _ _ z.1 z.2.1 z.2.2.1 z.2.2.2 hz) (gEN_in hE) (cwV 3 C.2.2.2.2.1 hL_law_X11_turn rfl rfl rfl (by decide +kernel) ⟨Nat.le_of_ble_eq_true rfl, Nat.le_of_ble_eq_true rfl⟩) (L0 hL (by decide) (by decide)) (by decide) rfl rfl rfl (Nat.le_of_ble_eq_true rfl) ⟨by show cells + 3 ≤ 600000; omega, by show slots + 14 ≤ 7302250; omega⟩ ?_
  obtain ⟨hL2, hf⟩ := gcase hf ho
  have hL2 := gLayb_ok (by decide) hL2
  refine g_aload_n C dL_law_451 rfl rfl ?_
  refine g_aload_n C dL_law_452 rfl rfl ?_
  refine g_iload_n C dL_law_453 rfl rfl ?_
  refine g_iconst (v := 1) C dL_law_454 (by decide) ?_
  refine g_iadd C dL_law_455 ?_
  refine g_sld C dL_law_456 hX hbl hbA h1 ?_
  refine g_aload_n C dL_law_457 rfl rfl ?_
  refine g_iload_n C dL_law_458 rfl rfl ?_
  refine g_iconst (v := 2) C dL_law_459 (by decide) ?_
  refine g_iadd C dL_law_460 ?_
  refine g_sld C dL_law_461 hX hbl hbA h2 ?_
  refine g_aload_n C dL_law_462 rfl rfl ?_
  refine g_iload_n C dL_law_463 rfl rfl ?_
  refine g_iconst (v := 3) C dL_law_464 (by decide) ?_
  refine g_iadd C dL_law_465 ?_
  refine g_sld C dL_law_466 hX hbl hbA h3 ?_
  obtain ⟨y, hy, hf⟩ := gbind hf ho
  refine g_callV C dL_law_467 (m_X12_turn l X N _ _ _ (gLay.sub hL2 (by decide) (by decide)) _ _ _ y.1 y.2 hy) gEin0 (cwV 3 C.2.2.2.2.1 hL_law_X12_turn rfl rfl rfl (by decide +kernel) ⟨Nat.le_of_ble_eq_true rfl, Nat.le_of_ble_eq_true rfl⟩) (L91 hL2 (by decide) (by decide)) (by decide) rfl rfl rfl (Nat.le_of_ble_eq_true rfl) ⟨by show cells + 3 + 0 ≤ 600000; omega, by show slots + 14 + 0 ≤ 7302250; omega⟩ ?_
  obtain ⟨he, hf⟩ := gcase hf ho
  obtain ⟨rfl, rfl, rfl⟩ := gs3 hf
  refine g_icmp_eq_t (tgt := 1056) C dL_law_470 (by decide) he ?_
  exact g_widen (by omega) (by omega) kk
set_option maxRecDepth 100000 in
set_option maxHeartbeats 4000000 in
theorem law_map {b L : Nat} {xs : Nat → Int32} {x3 : Int32} (N : Nat) (C : gC p s m args c cL_law 4 RL lw_tbl X) (hX : va_X b L xs s s.heap) (hbl : b < s.heap.size) (hbA : ¬ X.1 ≤ b) (h1 : vp_in (x3 + 1) L) (h2 : vp_in (x3 + 2) L) (h3 : vp_in (x3 + 3) L) (h4 : vp_in (x3 + 4) L) (h5 : vp_in (x3 + 5) L) (hE : gEN s) (hL : gLay 0 114 R S) (J : gI) (P : gR) (T : gS) (hf : k_map N I R S (xs (x3 + 1).toNatClampNeg) (xs (x3 + 2).toNatClampNeg) (xs (x3 + 3).toNatClampNeg) (xs (x3 + 4).toNatClampNeg) (xs (x3 + 5).toNatClampNeg) = some (J, P, T)) (hc : cells + 3 ≤ 600000) (hs : slots + 14 ≤ 7302250) (kk : gW p l e room_1 s m args below meth c X 4 Q (cells + 3) (slots + 14) J P T 1056 [(0, .ref b), (1, .ref (X.1 + 0)), (2, .ref (X.1 + 91)), (3, .int x3)] []) : gW p l e room_1 s m args below meth c X 4 Q cells slots I R S 475 [(0, .ref b), (1, .ref (X.1 + 0)), (2, .ref (X.1 + 91)), (3, .int x3)] [] := by
  unfold k_map at hf
  have ho : (some (J, P, T)) ≠ none := fun h => by cases h
  refine g_aload_n C dL_law_475 rfl rfl ?_
  refine g_aload_n C dL_law_476 rfl rfl ?_
  refine g_iload_n C dL_law_477 rfl rfl ?_
  refine g_iconst (v := 1) C dL_law_478 (by decide) ?_
  refine g_iadd C dL_law_479 ?_
  refine g_sld C dL_law_480 hX hbl hbA h1 ?_
  refine g_aload_n C dL_law_481 rfl rfl ?_
  refine g_iload_n C dL_law_482 rfl rfl ?_
  refine g_iconst (v := 2) C dL_law_483 (by decide) ?_
  refine g_iadd C dL_law_484 ?_
  refine g_sld C dL_law_485 hX hbl hbA h2 ?_
  refine g_aload_n C dL_law_486 rfl rfl ?_
  refine g_iload_n C dL_law_487 rfl rfl ?_
  refine g_iconst (v := 3) C dL_law_488 (by decide) ?_
  refine g_iadd C dL_law_489 ?_
  refine g_sld C dL_law_490 hX hbl hbA h3 ?_
  refine g_aload_n C dL_law_491 rfl rfl ?_
  refine g_iload_n C dL_law_492 rfl rfl ?_
  refine g_iconst (v := 4) C dL_law_493 (by decide) ?_
  refine g_iadd C dL_law_494 ?_
  refine g_sld C dL_law_495 hX hbl hbA h4 ?_
  refine g_aload_n C dL_law_496 rfl rfl ?_
  refine g_iload_n C dL_law_497 rfl rfl ?_
  refine g_iconst (v := 5) C dL_law_498 (by decide) ?_
  refine g_iadd C dL_law_499 ?_
  refine g_sld C dL_law_500 hX hbl hbA h5 ?_
  obtain ⟨z, hz, hf⟩ := gbind hf ho
  refine g_callV C dL_law_501 (m_X11_map l X N _ _ _ (gLay.sub hL (by decide) (by decide)) _ _ _ _ _ z.1 z.2.1 z.2.2.1 z.2.2.2 hz) (gEN_in hE) (cwV 5 C.2.2.2.2.1 hL_law_X11_map rfl rfl rfl (by decide +kernel) ⟨Nat.le_of_ble_eq_true rfl, Nat.le_of_ble_eq_true rfl⟩) (L0 hL (by decide) (by decide)) (by decide) rfl rfl rfl (Nat.le_of_ble_eq_true rfl) ⟨by show cells + 3 ≤ 600000; omega, by show slots + 14 ≤ 7302250; omega⟩ ?_
  obtain ⟨hL2, hf⟩ := gcase hf ho
  have hL2 := gLayb_ok (by decide) hL2
  refine g_aload_n C dL_law_504 rfl rfl ?_
  refine g_aload_n C dL_law_505 rfl rfl ?_
  refine g_iload_n C dL_law_506 rfl rfl ?_
  refine g_iconst (v := 1) C dL_law_507 (by decide) ?_
  refine g_iadd C dL_law_508 ?_
  refine g_sld C dL_law_509 hX hbl hbA h1 ?_
  refine g_aload_n C dL_law_510 rfl rfl ?_
  refine g_iload_n C dL_law_511 rfl rfl ?_
  refine g_iconst (v := 2) C dL_law_512 (by decide) ?_
  refine g_iadd C dL_law_513 ?_
  refine g_sld C dL_law_514 hX hbl hbA h2 ?_
  refine g_aload_n C dL_law_515 rfl rfl ?_
  refine g_iload_n C dL_law_516 rfl rfl ?_
  refine g_iconst (v := 3) C dL_law_517 (by decide) ?_
  refine g_iadd C dL_law_518 ?_
  refine g_sld C dL_law_519 hX hbl hbA h3 ?_
  refine g_aload_n C dL_law_520 rfl rfl ?_
  refine g_iload_n C dL_law_521 rfl rfl ?_
  refine g_iconst (v := 4) C dL_law_522 (by decide) ?_
  refine g_iadd C dL_law_523 ?_
  refine g_sld C dL_law_524 hX hbl hbA h4 ?_
  refine g_aload_n C dL_law_525 rfl rfl ?_
  refine g_iload_n C dL_law_526 rfl rfl ?_
  refine g_iconst (v := 5) C dL_law_527 (by decide) ?_
  refine g_iadd C dL_law_528 ?_
  refine g_sld C dL_law_529 hX hbl hbA h5 ?_
  obtain ⟨y, hy, hf⟩ := gbind hf ho
  refine g_callV C dL_law_530 (m_X12_map l X N _ _ _ (gLay.sub hL2 (by decide) (by decide)) _ _ _ _ _ y.1 y.2 hy) gEin0 (cwV 5 C.2.2.2.2.1 hL_law_X12_map rfl rfl rfl (by decide +kernel) ⟨Nat.le_of_ble_eq_true rfl, Nat.le_of_ble_eq_true rfl⟩) (L91 hL2 (by decide) (by decide)) (by decide) rfl rfl rfl (Nat.le_of_ble_eq_true rfl) ⟨by show cells + 3 + 0 ≤ 600000; omega, by show slots + 14 + 0 ≤ 7302250; omega⟩ ?_
  obtain ⟨he, hf⟩ := gcase hf ho
  obtain ⟨rfl, rfl, rfl⟩ := gs3 hf
  refine g_icmp_eq_t (tgt := 1056) C dL_law_533 (by decide) he ?_
  exact g_widen (by omega) (by omega) kk
set_option maxRecDepth 100000 in
set_option maxHeartbeats 4000000 in
theorem law_clear {b L : Nat} {xs : Nat → Int32} {x3 : Int32} (N : Nat) (C : gC p s m args c cL_law 4 RL lw_tbl X) (hX : va_X b L xs s s.heap) (hbl : b < s.heap.size) (hbA : ¬ X.1 ≤ b) (h1 : vp_in (x3 + 1) L) (hE : gEN s) (hL : gLay 0 114 R S) (J : gI) (P : gR) (T : gS) (hf : k_clear N I R S (xs (x3 + 1).toNatClampNeg) = some (J, P, T)) (hc : cells + 3 ≤ 600000) (hs : slots + 14 ≤ 7302250) (kk : gW p l e room_1 s m args below meth c X 4 Q (cells + 3) (slots + 14) J P T 1056 [(0, .ref b), (1, .ref (X.1 + 0)), (2, .ref (X.1 + 91)), (3, .int x3)] []) : gW p l e room_1 s m args below meth c X 4 Q cells slots I R S 538 [(0, .ref b), (1, .ref (X.1 + 0)), (2, .ref (X.1 + 91)), (3, .int x3)] [] := by
  unfold k_clear at hf
  have ho : (some (J, P, T)) ≠ none := fun h => by cases h
  refine g_aload_n C dL_law_538 rfl rfl ?_
  refine g_aload_n C dL_law_539 rfl rfl ?_
  refine g_iload_n C dL_law_540 rfl rfl ?_
  refine g_iconst (v := 1) C dL_law_541 (by decide) ?_
  refine g_iadd C dL_law_542 ?_
  refine g_sld C dL_law_543 hX hbl hbA h1 ?_
  obtain ⟨z, hz, hf⟩ := gbind hf ho
  refine g_callV C dL_law_544 (m_X11_clear l X N _ _ _ (gLay.sub hL (by decide) (by decide)) _ z.1 z.2.1 z.2.2 hz) gEin0 (cwV 1 C.2.2.2.2.1 hL_law_X11_clear rfl rfl rfl (by decide +kernel) ⟨Nat.le_of_ble_eq_true rfl, Nat.le_of_ble_eq_true rfl⟩) (L0 hL (by decide) (by decide)) (by decide) rfl rfl rfl (Nat.le_of_ble_eq_true rfl) ⟨by show cells + 0 ≤ 600000; omega, by show slots + 0 ≤ 7302250; omega⟩ ?_
  obtain ⟨hL2, hf⟩ := gcase hf ho
  have hL2 := gLayb_ok (by decide) hL2
  refine g_aload_n C dL_law_547 rfl rfl ?_
  refine g_aload_n C dL_law_548 rfl rfl ?_
  refine g_iload_n C dL_law_549 rfl rfl ?_
  refine g_iconst (v := 1) C dL_law_550 (by decide) ?_
  refine g_iadd C dL_law_551 ?_
  refine g_sld C dL_law_552 hX hbl hbA h1 ?_
  obtain ⟨y, hy, hf⟩ := gbind hf ho
  refine g_callV C dL_law_553 (m_X12_clear l X N _ _ _ (gLay.sub hL2 (by decide) (by decide)) _ y.1 y.2 hy) gEin0 (cwV 1 C.2.2.2.2.1 hL_law_X12_clear rfl rfl rfl (by decide +kernel) ⟨Nat.le_of_ble_eq_true rfl, Nat.le_of_ble_eq_true rfl⟩) (L91 hL2 (by decide) (by decide)) (by decide) rfl rfl rfl (Nat.le_of_ble_eq_true rfl) ⟨by show cells + 0 + 0 ≤ 600000; omega, by show slots + 0 + 0 ≤ 7302250; omega⟩ ?_
  obtain ⟨he, hf⟩ := gcase hf ho
  obtain ⟨rfl, rfl, rfl⟩ := gs3 hf
  refine g_icmp_eq_t (tgt := 1056) C dL_law_556 (by decide) he ?_
  exact g_widen (by omega) (by omega) kk
set_option maxRecDepth 100000 in
set_option maxHeartbeats 4000000 in
theorem law_told {b L : Nat} {xs : Nat → Int32} {x3 : Int32} (N : Nat) (C : gC p s m args c cL_law 4 RL lw_tbl X) (hX : va_X b L xs s s.heap) (hbl : b < s.heap.size) (hbA : ¬ X.1 ≤ b) (h1 : vp_in (x3 + 1) L) (h2 : vp_in (x3 + 2) L) (hE : gEN s) (hL : gLay 0 114 R S) (J : gI) (P : gR) (T : gS) (hf : k_told N I R S (xs (x3 + 1).toNatClampNeg) (xs (x3 + 2).toNatClampNeg) = some (J, P, T)) (hc : cells + 3 ≤ 600000) (hs : slots + 14 ≤ 7302250) (kk : gW p l e room_1 s m args below meth c X 4 Q (cells + 3) (slots + 14) J P T 1056 [(0, .ref b), (1, .ref (X.1 + 0)), (2, .ref (X.1 + 91)), (3, .int x3)] []) : gW p l e room_1 s m args below meth c X 4 Q cells slots I R S 561 [(0, .ref b), (1, .ref (X.1 + 0)), (2, .ref (X.1 + 91)), (3, .int x3)] [] := by
  unfold k_told at hf
  have ho : (some (J, P, T)) ≠ none := fun h => by cases h
  refine g_aload_n C dL_law_561 rfl rfl ?_
  refine g_aload_n C dL_law_562 rfl rfl ?_
  refine g_iload_n C dL_law_563 rfl rfl ?_
  refine g_iconst (v := 1) C dL_law_564 (by decide) ?_
  refine g_iadd C dL_law_565 ?_
  refine g_sld C dL_law_566 hX hbl hbA h1 ?_
  refine g_aload_n C dL_law_567 rfl rfl ?_
  refine g_iload_n C dL_law_568 rfl rfl ?_
  refine g_iconst (v := 2) C dL_law_569 (by decide) ?_
  refine g_iadd C dL_law_570 ?_
  refine g_sld C dL_law_571 hX hbl hbA h2 ?_
  obtain ⟨z, hz, hf⟩ := gbind hf ho
  refine g_callV C dL_law_572 (m_X11_told l X N _ _ _ (gLay.sub hL (by decide) (by decide)) _ _ z.1 z.2 hz) (gEN_in hE) (cwV 2 C.2.2.2.2.1 hL_law_X11_told rfl rfl rfl (by decide +kernel) ⟨Nat.le_of_ble_eq_true rfl, Nat.le_of_ble_eq_true rfl⟩) (L0 hL (by decide) (by decide)) (by decide) rfl rfl rfl (Nat.le_of_ble_eq_true rfl) ⟨by show cells + 0 ≤ 600000; omega, by show slots + 0 ≤ 7302250; omega⟩ ?_
  obtain ⟨hL2, hf⟩ := gcase hf ho
  have hL2 := gLayb_ok (by decide) hL2
  refine g_aload_n C dL_law_575 rfl rfl ?_
  refine g_aload_n C dL_law_576 rfl rfl ?_
  refine g_iload_n C dL_law_577 rfl rfl ?_
  refine g_iconst (v := 1) C dL_law_578 (by decide) ?_
  refine g_iadd C dL_law_579 ?_
  refine g_sld C dL_law_580 hX hbl hbA h1 ?_
  refine g_aload_n C dL_law_581 rfl rfl ?_
  refine g_iload_n C dL_law_582 rfl rfl ?_
  refine g_iconst (v := 2) C dL_law_583 (by decide) ?_
  refine g_iadd C dL_law_584 ?_
  refine g_sld C dL_law_585 hX hbl hbA h2 ?_
  obtain ⟨y, hy, hf⟩ := gbind hf ho
  refine g_callV C dL_law_586 (m_X12_told l X N _ _ _ (gLay.sub hL2 (by decide) (by decide)) _ _ y.1 y.2 hy) gEin0 (cwV 2 C.2.2.2.2.1 hL_law_X12_told rfl rfl rfl (by decide +kernel) ⟨Nat.le_of_ble_eq_true rfl, Nat.le_of_ble_eq_true rfl⟩) (L91 hL2 (by decide) (by decide)) (by decide) rfl rfl rfl (Nat.le_of_ble_eq_true rfl) ⟨by show cells + 0 + 0 ≤ 600000; omega, by show slots + 0 + 0 ≤ 7302250; omega⟩ ?_
  obtain ⟨he, hf⟩ := gcase hf ho
  obtain ⟨rfl, rfl, rfl⟩ := gs3 hf
  refine g_icmp_eq_t (tgt := 1056) C dL_law_589 (by decide) he ?_
  exact g_widen (by omega) (by omega) kk
set_option maxRecDepth 100000 in
set_option maxHeartbeats 4000000 in
theorem law_acts {b L : Nat} {xs : Nat → Int32} {x3 : Int32} (N : Nat) (C : gC p s m args c cL_law 4 RL lw_tbl X) (hX : va_X b L xs s s.heap) (hbl : b < s.heap.size) (hbA : ¬ X.1 ≤ b) (h1 : vp_in (x3 + 1) L) (h2 : vp_in (x3 + 2) L) (h3 : vp_in (x3 + 3) L) (hE : gEN s) (hL : gLay 0 114 R S) (J : gI) (P : gR) (T : gS) (hf : k_acts N I R S (xs (x3 + 1).toNatClampNeg) (xs (x3 + 2).toNatClampNeg) (xs (x3 + 3).toNatClampNeg) = some (J, P, T)) (hc : cells + 3 ≤ 600000) (hs : slots + 14 ≤ 7302250) (kk : gW p l e room_1 s m args below meth c X 4 Q (cells + 3) (slots + 14) J P T 1056 [(0, .ref b), (1, .ref (X.1 + 0)), (2, .ref (X.1 + 91)), (3, .int x3)] []) : gW p l e room_1 s m args below meth c X 4 Q cells slots I R S 594 [(0, .ref b), (1, .ref (X.1 + 0)), (2, .ref (X.1 + 91)), (3, .int x3)] [] := by
  unfold k_acts at hf
  have ho : (some (J, P, T)) ≠ none := fun h => by cases h
  refine g_aload_n C dL_law_594 rfl rfl ?_
  refine g_aload_n C dL_law_595 rfl rfl ?_
  refine g_iload_n C dL_law_596 rfl rfl ?_
  refine g_iconst (v := 1) C dL_law_597 (by decide) ?_
  refine g_iadd C dL_law_598 ?_
  refine g_sld C dL_law_599 hX hbl hbA h1 ?_
  refine g_aload_n C dL_law_600 rfl rfl ?_
  refine g_iload_n C dL_law_601 rfl rfl ?_
  refine g_iconst (v := 2) C dL_law_602 (by decide) ?_
  refine g_iadd C dL_law_603 ?_
  refine g_sld C dL_law_604 hX hbl hbA h2 ?_
  refine g_aload_n C dL_law_605 rfl rfl ?_
  refine g_iload_n C dL_law_606 rfl rfl ?_
  refine g_iconst (v := 3) C dL_law_607 (by decide) ?_
  refine g_iadd C dL_law_608 ?_
  refine g_sld C dL_law_609 hX hbl hbA h3 ?_
  obtain ⟨z, hz, hf⟩ := gbind hf ho
  refine g_callV C dL_law_610 (m_X11_acts l X N _ _ _ (gLay.sub hL (by decide) (by decide)) _ _ _ z.1 z.2 hz) gEin0 (cwV 3 C.2.2.2.2.1 hL_law_X11_acts rfl rfl rfl (by decide +kernel) ⟨Nat.le_of_ble_eq_true rfl, Nat.le_of_ble_eq_true rfl⟩) (L0 hL (by decide) (by decide)) (by decide) rfl rfl rfl (Nat.le_of_ble_eq_true rfl) ⟨by show cells + 0 ≤ 600000; omega, by show slots + 0 ≤ 7302250; omega⟩ ?_
  obtain ⟨hL2, hf⟩ := gcase hf ho
  have hL2 := gLayb_ok (by decide) hL2
  refine g_aload_n C dL_law_613 rfl rfl ?_
  refine g_aload_n C dL_law_614 rfl rfl ?_
  refine g_iload_n C dL_law_615 rfl rfl ?_
  refine g_iconst (v := 1) C dL_law_616 (by decide) ?_
  refine g_iadd C dL_law_617 ?_
  refine g_sld C dL_law_618 hX hbl hbA h1 ?_
  refine g_aload_n C dL_law_619 rfl rfl ?_
  refine g_iload_n C dL_law_620 rfl rfl ?_
  refine g_iconst (v := 2) C dL_law_621 (by decide) ?_
  refine g_iadd C dL_law_622 ?_
  refine g_sld C dL_law_623 hX hbl hbA h2 ?_
  refine g_aload_n C dL_law_624 rfl rfl ?_
  refine g_iload_n C dL_law_625 rfl rfl ?_
  refine g_iconst (v := 3) C dL_law_626 (by decide) ?_
  refine g_iadd C dL_law_627 ?_
  refine g_sld C dL_law_628 hX hbl hbA h3 ?_
  obtain ⟨y, hy, hf⟩ := gbind hf ho
  refine g_callV C dL_law_629 (m_X12_acts l X N _ _ _ (gLay.sub hL2 (by decide) (by decide)) _ _ _ y.1 y.2 hy) gEin0 (cwV 3 C.2.2.2.2.1 hL_law_X12_acts rfl rfl rfl (by decide +kernel) ⟨Nat.le_of_ble_eq_true rfl, Nat.le_of_ble_eq_true rfl⟩) (L91 hL2 (by decide) (by decide)) (by decide) rfl rfl rfl (Nat.le_of_ble_eq_true rfl) ⟨by show cells + 0 + 0 ≤ 600000; omega, by show slots + 0 + 0 ≤ 7302250; omega⟩ ?_
  obtain ⟨he, hf⟩ := gcase hf ho
  obtain ⟨rfl, rfl, rfl⟩ := gs3 hf
  refine g_icmp_eq_t (tgt := 1056) C dL_law_632 (by decide) he ?_
  exact g_widen (by omega) (by omega) kk
set_option maxRecDepth 100000 in
set_option maxHeartbeats 4000000 in
theorem law_sum {b L : Nat} {xs : Nat → Int32} {x3 : Int32} (N : Nat) (C : gC p s m args c cL_law 4 RL lw_tbl X) (hX : va_X b L xs s s.heap) (hbl : b < s.heap.size) (hbA : ¬ X.1 ≤ b) (h1 : vp_in (x3 + 1) L) (h2 : vp_in (x3 + 2) L) (h3 : vp_in (x3 + 3) L) (hE : gEN s) (hL : gLay 0 114 R S) (J : gI) (P : gR) (T : gS) (hf : k_sum N I R S (xs (x3 + 1).toNatClampNeg) (xs (x3 + 2).toNatClampNeg) (xs (x3 + 3).toNatClampNeg) = some (J, P, T)) (hc : cells + 3 ≤ 600000) (hs : slots + 14 ≤ 7302250) (kk : gW p l e room_1 s m args below meth c X 4 Q (cells + 3) (slots + 14) J P T 1056 [(0, .ref b), (1, .ref (X.1 + 0)), (2, .ref (X.1 + 91)), (3, .int x3)] []) : gW p l e room_1 s m args below meth c X 4 Q cells slots I R S 637 [(0, .ref b), (1, .ref (X.1 + 0)), (2, .ref (X.1 + 91)), (3, .int x3)] [] := by
  unfold k_sum at hf
  have ho : (some (J, P, T)) ≠ none := fun h => by cases h
  refine g_aload_n C dL_law_637 rfl rfl ?_
  refine g_aload_n C dL_law_638 rfl rfl ?_
  refine g_iload_n C dL_law_639 rfl rfl ?_
  refine g_iconst (v := 1) C dL_law_640 (by decide) ?_
  refine g_iadd C dL_law_641 ?_
  refine g_sld C dL_law_642 hX hbl hbA h1 ?_
  refine g_aload_n C dL_law_643 rfl rfl ?_
  refine g_iload_n C dL_law_644 rfl rfl ?_
  refine g_iconst (v := 2) C dL_law_645 (by decide) ?_
  refine g_iadd C dL_law_646 ?_
  refine g_sld C dL_law_647 hX hbl hbA h2 ?_
  refine g_aload_n C dL_law_648 rfl rfl ?_
  refine g_iload_n C dL_law_649 rfl rfl ?_
  refine g_iconst (v := 3) C dL_law_650 (by decide) ?_
  refine g_iadd C dL_law_651 ?_
  refine g_sld C dL_law_652 hX hbl hbA h3 ?_
  obtain ⟨z, hz, hf⟩ := gbind hf ho
  refine g_callV C dL_law_653 (m_X11_sum l X N _ _ _ (gLay.sub hL (by decide) (by decide)) _ _ _ z.1 z.2 hz) gEin0 (cwV 3 C.2.2.2.2.1 hL_law_X11_sum rfl rfl rfl (by decide +kernel) ⟨Nat.le_of_ble_eq_true rfl, Nat.le_of_ble_eq_true rfl⟩) (L0 hL (by decide) (by decide)) (by decide) rfl rfl rfl (Nat.le_of_ble_eq_true rfl) ⟨by show cells + 0 ≤ 600000; omega, by show slots + 0 ≤ 7302250; omega⟩ ?_
  obtain ⟨hL2, hf⟩ := gcase hf ho
  have hL2 := gLayb_ok (by decide) hL2
  refine g_aload_n C dL_law_656 rfl rfl ?_
  refine g_aload_n C dL_law_657 rfl rfl ?_
  refine g_iload_n C dL_law_658 rfl rfl ?_
  refine g_iconst (v := 1) C dL_law_659 (by decide) ?_
  refine g_iadd C dL_law_660 ?_
  refine g_sld C dL_law_661 hX hbl hbA h1 ?_
  refine g_aload_n C dL_law_662 rfl rfl ?_
  refine g_iload_n C dL_law_663 rfl rfl ?_
  refine g_iconst (v := 2) C dL_law_664 (by decide) ?_
  refine g_iadd C dL_law_665 ?_
  refine g_sld C dL_law_666 hX hbl hbA h2 ?_
  refine g_aload_n C dL_law_667 rfl rfl ?_
  refine g_iload_n C dL_law_668 rfl rfl ?_
  refine g_iconst (v := 3) C dL_law_669 (by decide) ?_
  refine g_iadd C dL_law_670 ?_
  refine g_sld C dL_law_671 hX hbl hbA h3 ?_
  obtain ⟨y, hy, hf⟩ := gbind hf ho
  refine g_callV C dL_law_672 (m_X12_sum l X N _ _ _ (gLay.sub hL2 (by decide) (by decide)) _ _ _ y.1 y.2 hy) gEin0 (cwV 3 C.2.2.2.2.1 hL_law_X12_sum rfl rfl rfl (by decide +kernel) ⟨Nat.le_of_ble_eq_true rfl, Nat.le_of_ble_eq_true rfl⟩) (L91 hL2 (by decide) (by decide)) (by decide) rfl rfl rfl (Nat.le_of_ble_eq_true rfl) ⟨by show cells + 0 + 0 ≤ 600000; omega, by show slots + 0 + 0 ≤ 7302250; omega⟩ ?_
  obtain ⟨he, hf⟩ := gcase hf ho
  obtain ⟨rfl, rfl, rfl⟩ := gs3 hf
  refine g_icmp_eq_t (tgt := 1056) C dL_law_675 (by decide) he ?_
  exact g_widen (by omega) (by omega) kk
set_option maxRecDepth 100000 in
set_option maxHeartbeats 4000000 in
theorem law_order {b L : Nat} {xs : Nat → Int32} {x3 : Int32} (N : Nat) (C : gC p s m args c cL_law 4 RL lw_tbl X) (hX : va_X b L xs s s.heap) (hbl : b < s.heap.size) (hbA : ¬ X.1 ≤ b) (h1 : vp_in (x3 + 1) L) (h2 : vp_in (x3 + 2) L) (hE : gEN s) (hL : gLay 0 114 R S) (J : gI) (P : gR) (T : gS) (hf : k_order N I R S (xs (x3 + 1).toNatClampNeg) (xs (x3 + 2).toNatClampNeg) = some (J, P, T)) (hc : cells + 3 ≤ 600000) (hs : slots + 14 ≤ 7302250) (kk : gW p l e room_1 s m args below meth c X 4 Q (cells + 3) (slots + 14) J P T 1056 [(0, .ref b), (1, .ref (X.1 + 0)), (2, .ref (X.1 + 91)), (3, .int x3)] []) : gW p l e room_1 s m args below meth c X 4 Q cells slots I R S 680 [(0, .ref b), (1, .ref (X.1 + 0)), (2, .ref (X.1 + 91)), (3, .int x3)] [] := by
  unfold k_order at hf
  have ho : (some (J, P, T)) ≠ none := fun h => by cases h
  refine g_aload_n C dL_law_680 rfl rfl ?_
  refine g_aload_n C dL_law_681 rfl rfl ?_
  refine g_iload_n C dL_law_682 rfl rfl ?_
  refine g_iconst (v := 1) C dL_law_683 (by decide) ?_
  refine g_iadd C dL_law_684 ?_
  refine g_sld C dL_law_685 hX hbl hbA h1 ?_
  refine g_aload_n C dL_law_686 rfl rfl ?_
  refine g_iload_n C dL_law_687 rfl rfl ?_
  refine g_iconst (v := 2) C dL_law_688 (by decide) ?_
  refine g_iadd C dL_law_689 ?_
  refine g_sld C dL_law_690 hX hbl hbA h2 ?_
  obtain ⟨z, hz, hf⟩ := gbind hf ho
  refine g_callV C dL_law_691 (m_X11_order l X N _ _ _ (gLay.sub hL (by decide) (by decide)) _ _ z.1 z.2 hz) gEin0 (cwV 2 C.2.2.2.2.1 hL_law_X11_order rfl rfl rfl (by decide +kernel) ⟨Nat.le_of_ble_eq_true rfl, Nat.le_of_ble_eq_true rfl⟩) (L0 hL (by decide) (by decide)) (by decide) rfl rfl rfl (Nat.le_of_ble_eq_true rfl) ⟨by show cells + 0 ≤ 600000; omega, by show slots + 0 ≤ 7302250; omega⟩ ?_
  obtain ⟨hL2, hf⟩ := gcase hf ho
  have hL2 := gLayb_ok (by decide) hL2
  refine g_aload_n C dL_law_694 rfl rfl ?_
  refine g_aload_n C dL_law_695 rfl rfl ?_
  refine g_iload_n C dL_law_696 rfl rfl ?_
  refine g_iconst (v := 1) C dL_law_697 (by decide) ?_
  refine g_iadd C dL_law_698 ?_
  refine g_sld C dL_law_699 hX hbl hbA h1 ?_
  refine g_aload_n C dL_law_700 rfl rfl ?_
  refine g_iload_n C dL_law_701 rfl rfl ?_
  refine g_iconst (v := 2) C dL_law_702 (by decide) ?_
  refine g_iadd C dL_law_703 ?_
  refine g_sld C dL_law_704 hX hbl hbA h2 ?_
  obtain ⟨y, hy, hf⟩ := gbind hf ho
  refine g_callV C dL_law_705 (m_X12_order l X N _ _ _ (gLay.sub hL2 (by decide) (by decide)) _ _ y.1 y.2 hy) gEin0 (cwV 2 C.2.2.2.2.1 hL_law_X12_order rfl rfl rfl (by decide +kernel) ⟨Nat.le_of_ble_eq_true rfl, Nat.le_of_ble_eq_true rfl⟩) (L91 hL2 (by decide) (by decide)) (by decide) rfl rfl rfl (Nat.le_of_ble_eq_true rfl) ⟨by show cells + 0 + 0 ≤ 600000; omega, by show slots + 0 + 0 ≤ 7302250; omega⟩ ?_
  obtain ⟨he, hf⟩ := gcase hf ho
  obtain ⟨rfl, rfl, rfl⟩ := gs3 hf
  refine g_icmp_eq_t (tgt := 1056) C dL_law_708 (by decide) he ?_
  exact g_widen (by omega) (by omega) kk
set_option maxRecDepth 100000 in
set_option maxHeartbeats 4000000 in
theorem law_kernel {b L : Nat} {xs : Nat → Int32} {x3 : Int32} (N : Nat) (C : gC p s m args c cL_law 4 RL lw_tbl X) (hX : va_X b L xs s s.heap) (hbl : b < s.heap.size) (hbA : ¬ X.1 ≤ b) (h1 : vp_in (x3 + 1) L) (h2 : vp_in (x3 + 2) L) (h3 : vp_in (x3 + 3) L) (hE : gEN s) (hL : gLay 0 114 R S) (J : gI) (P : gR) (T : gS) (hf : k_kernel N I R S (xs (x3 + 1).toNatClampNeg) (xs (x3 + 2).toNatClampNeg) (xs (x3 + 3).toNatClampNeg) = some (J, P, T)) (hc : cells + 3 ≤ 600000) (hs : slots + 14 ≤ 7302250) (kk : gW p l e room_1 s m args below meth c X 4 Q (cells + 3) (slots + 14) J P T 1056 [(0, .ref b), (1, .ref (X.1 + 0)), (2, .ref (X.1 + 91)), (3, .int x3)] []) : gW p l e room_1 s m args below meth c X 4 Q cells slots I R S 713 [(0, .ref b), (1, .ref (X.1 + 0)), (2, .ref (X.1 + 91)), (3, .int x3)] [] := by
  unfold k_kernel at hf
  have ho : (some (J, P, T)) ≠ none := fun h => by cases h
  refine g_aload_n C dL_law_713 rfl rfl ?_
  refine g_aload_n C dL_law_714 rfl rfl ?_
  refine g_iload_n C dL_law_715 rfl rfl ?_
  refine g_iconst (v := 1) C dL_law_716 (by decide) ?_
  refine g_iadd C dL_law_717 ?_
  refine g_sld C dL_law_718 hX hbl hbA h1 ?_
  refine g_aload_n C dL_law_719 rfl rfl ?_
  refine g_iload_n C dL_law_720 rfl rfl ?_
  refine g_iconst (v := 2) C dL_law_721 (by decide) ?_
  refine g_iadd C dL_law_722 ?_
  refine g_sld C dL_law_723 hX hbl hbA h2 ?_
  refine g_aload_n C dL_law_724 rfl rfl ?_
  refine g_iload_n C dL_law_725 rfl rfl ?_
  refine g_iconst (v := 3) C dL_law_726 (by decide) ?_
  refine g_iadd C dL_law_727 ?_
  refine g_sld C dL_law_728 hX hbl hbA h3 ?_
  obtain ⟨z, hz, hf⟩ := gbind hf ho
  refine g_callV C dL_law_729 (m_X11_kernel l X N _ _ _ (gLay.sub hL (by decide) (by decide)) _ _ _ z.1 z.2 hz) gEin0 (cwV 3 C.2.2.2.2.1 hL_law_X11_kernel rfl rfl rfl (by decide +kernel) ⟨Nat.le_of_ble_eq_true rfl, Nat.le_of_ble_eq_true rfl⟩) (L0 hL (by decide) (by decide)) (by decide) rfl rfl rfl (Nat.le_of_ble_eq_true rfl) ⟨by show cells + 0 ≤ 600000; omega, by show slots + 0 ≤ 7302250; omega⟩ ?_
  obtain ⟨hL2, hf⟩ := gcase hf ho
  have hL2 := gLayb_ok (by decide) hL2
  refine g_aload_n C dL_law_732 rfl rfl ?_
  refine g_aload_n C dL_law_733 rfl rfl ?_
  refine g_iload_n C dL_law_734 rfl rfl ?_
  refine g_iconst (v := 1) C dL_law_735 (by decide) ?_
  refine g_iadd C dL_law_736 ?_
  refine g_sld C dL_law_737 hX hbl hbA h1 ?_
  refine g_aload_n C dL_law_738 rfl rfl ?_
  refine g_iload_n C dL_law_739 rfl rfl ?_
  refine g_iconst (v := 2) C dL_law_740 (by decide) ?_
  refine g_iadd C dL_law_741 ?_
  refine g_sld C dL_law_742 hX hbl hbA h2 ?_
  refine g_aload_n C dL_law_743 rfl rfl ?_
  refine g_iload_n C dL_law_744 rfl rfl ?_
  refine g_iconst (v := 3) C dL_law_745 (by decide) ?_
  refine g_iadd C dL_law_746 ?_
  refine g_sld C dL_law_747 hX hbl hbA h3 ?_
  obtain ⟨y, hy, hf⟩ := gbind hf ho
  refine g_callV C dL_law_748 (m_X12_kernel l X N _ _ _ (gLay.sub hL2 (by decide) (by decide)) _ _ _ y.1 y.2 hy) gEin0 (cwV 3 C.2.2.2.2.1 hL_law_X12_kernel rfl rfl rfl (by decide +kernel) ⟨Nat.le_of_ble_eq_true rfl, Nat.le_of_ble_eq_true rfl⟩) (L91 hL2 (by decide) (by decide)) (by decide) rfl rfl rfl (Nat.le_of_ble_eq_true rfl) ⟨by show cells + 0 + 0 ≤ 600000; omega, by show slots + 0 + 0 ≤ 7302250; omega⟩ ?_
  obtain ⟨he, hf⟩ := gcase hf ho
  obtain ⟨rfl, rfl, rfl⟩ := gs3 hf
  refine g_icmp_eq_t (tgt := 1056) C dL_law_751 (by decide) he ?_
  exact g_widen (by omega) (by omega) kk
set_option maxRecDepth 100000 in
set_option maxHeartbeats 4000000 in
theorem law_back {b L : Nat} {xs : Nat → Int32} {x3 : Int32} (N : Nat) (C : gC p s m args c cL_law 4 RL lw_tbl X) (hX : va_X b L xs s s.heap) (hbl : b < s.heap.size) (hbA : ¬ X.1 ≤ b) (h1 : vp_in (x3 + 1) L) (h2 : vp_in (x3 + 2) L) (h3 : vp_in (x3 + 3) L) (h4 : vp_in (x3 + 4) L) (h5 : vp_in (x3 + 5) L) (hE : gEN s) (hL : gLay 0 114 R S) (J : gI) (P : gR) (T : gS) (hf : k_back N I R S (xs (x3 + 1).toNatClampNeg) (xs (x3 + 2).toNatClampNeg) (xs (x3 + 3).toNatClampNeg) (xs (x3 + 4).toNatClampNeg) (xs (x3 + 5).toNatClampNeg) = some (J, P, T)) (hc : cells + 3 ≤ 600000) (hs : slots + 14 ≤ 7302250) (kk : gW p l e room_1 s m args below meth c X 4 Q (cells + 3) (slots + 14) J P T 1056 [(0, .ref b), (1, .ref (X.1 + 0)), (2, .ref (X.1 + 91)), (3, .int x3)] []) : gW p l e room_1 s m args below meth c X 4 Q cells slots I R S 756 [(0, .ref b), (1, .ref (X.1 + 0)), (2, .ref (X.1 + 91)), (3, .int x3)] [] := by
  unfold k_back at hf
  have ho : (some (J, P, T)) ≠ none := fun h => by cases h
  refine g_aload_n C dL_law_756 rfl rfl ?_
  refine g_aload_n C dL_law_757 rfl rfl ?_
  refine g_iload_n C dL_law_758 rfl rfl ?_
  refine g_iconst (v := 1) C dL_law_759 (by decide) ?_
  refine g_iadd C dL_law_760 ?_
  refine g_sld C dL_law_761 hX hbl hbA h1 ?_
  refine g_aload_n C dL_law_762 rfl rfl ?_
  refine g_iload_n C dL_law_763 rfl rfl ?_
  refine g_iconst (v := 2) C dL_law_764 (by decide) ?_
  refine g_iadd C dL_law_765 ?_
  refine g_sld C dL_law_766 hX hbl hbA h2 ?_
  refine g_aload_n C dL_law_767 rfl rfl ?_
  refine g_iload_n C dL_law_768 rfl rfl ?_
  refine g_iconst (v := 3) C dL_law_769 (by decide) ?_
  refine g_iadd C dL_law_770 ?_
  refine g_sld C dL_law_771 hX hbl hbA h3 ?_
  refine g_aload_n C dL_law_772 rfl rfl ?_
  refine g_iload_n C dL_law_773 rfl rfl ?_
  refine g_iconst (v := 4) C dL_law_774 (by decide) ?_
  refine g_iadd C dL_law_775 ?_
  refine g_sld C dL_law_776 hX hbl hbA h4 ?_
  refine g_aload_n C dL_law_777 rfl rfl ?_
  refine g_iload_n C dL_law_778 rfl rfl ?_
  refine g_iconst (v := 5) C dL_law_779 (by decide) ?_
  refine g_iadd C dL_law_780 ?_
  refine g_sld C dL_law_781 hX hbl hbA h5 ?_
  obtain ⟨z, hz, hf⟩ := gbind hf ho
  refine g_callV C dL_law_782 (m_X11_back l X N _ _ _ (gLay.sub hL (by decide) (by decide)) _ _ _ _ _ z.1 z.2 hz) gEin0 (cwV 5 C.2.2.2.2.1 hL_law_X11_back rfl rfl rfl (by decide +kernel) ⟨Nat.le_of_ble_eq_true rfl, Nat.le_of_ble_eq_true rfl⟩) (L0 hL (by decide) (by decide)) (by decide) rfl rfl rfl (Nat.le_of_ble_eq_true rfl) ⟨by show cells + 0 ≤ 600000; omega, by show slots + 0 ≤ 7302250; omega⟩ ?_
  obtain ⟨hL2, hf⟩ := gcase hf ho
  have hL2 := gLayb_ok (by decide) hL2
  refine g_aload_n C dL_law_785 rfl rfl ?_
  refine g_aload_n C dL_law_786 rfl rfl ?_
  refine g_iload_n C dL_law_787 rfl rfl ?_
  refine g_iconst (v := 1) C dL_law_788 (by decide) ?_
  refine g_iadd C dL_law_789 ?_
  refine g_sld C dL_law_790 hX hbl hbA h1 ?_
  refine g_aload_n C dL_law_791 rfl rfl ?_
  refine g_iload_n C dL_law_792 rfl rfl ?_
  refine g_iconst (v := 2) C dL_law_793 (by decide) ?_
  refine g_iadd C dL_law_794 ?_
  refine g_sld C dL_law_795 hX hbl hbA h2 ?_
  refine g_aload_n C dL_law_796 rfl rfl ?_
  refine g_iload_n C dL_law_797 rfl rfl ?_
  refine g_iconst (v := 3) C dL_law_798 (by decide) ?_
  refine g_iadd C dL_law_799 ?_
  refine g_sld C dL_law_800 hX hbl hbA h3 ?_
  refine g_aload_n C dL_law_801 rfl rfl ?_
  refine g_iload_n C dL_law_802 rfl rfl ?_
  refine g_iconst (v := 4) C dL_law_803 (by decide) ?_
  refine g_iadd C dL_law_804 ?_
  refine g_sld C dL_law_805 hX hbl hbA h4 ?_
  refine g_aload_n C dL_law_806 rfl rfl ?_
  refine g_iload_n C dL_law_807 rfl rfl ?_
  refine g_iconst (v := 5) C dL_law_808 (by decide) ?_
  refine g_iadd C dL_law_809 ?_
  refine g_sld C dL_law_810 hX hbl hbA h5 ?_
  obtain ⟨y, hy, hf⟩ := gbind hf ho
  refine g_callV C dL_law_811 (m_X12_back l X N _ _ _ (gLay.sub hL2 (by decide) (by decide)) _ _ _ _ _ y.1 y.2 hy) gEin0 (cwV 5 C.2.2.2.2.1 hL_law_X12_back rfl rfl rfl (by decide +kernel) ⟨Nat.le_of_ble_eq_true rfl, Nat.le_of_ble_eq_true rfl⟩) (L91 hL2 (by decide) (by decide)) (by decide) rfl rfl rfl (Nat.le_of_ble_eq_true rfl) ⟨by show cells + 0 + 0 ≤ 600000; omega, by show slots + 0 + 0 ≤ 7302250; omega⟩ ?_
  obtain ⟨he, hf⟩ := gcase hf ho
  obtain ⟨rfl, rfl, rfl⟩ := gs3 hf
  refine g_icmp_eq_t (tgt := 1056) C dL_law_814 (by decide) he ?_
  exact g_widen (by omega) (by omega) kk
set_option maxRecDepth 100000 in
set_option maxHeartbeats 4000000 in
theorem law_alike {b L : Nat} {xs : Nat → Int32} {x3 : Int32} (N : Nat) (C : gC p s m args c cL_law 4 RL lw_tbl X) (hX : va_X b L xs s s.heap) (hbl : b < s.heap.size) (hbA : ¬ X.1 ≤ b) (h1 : vp_in (x3 + 1) L) (h2 : vp_in (x3 + 2) L) (hE : gEN s) (hL : gLay 0 114 R S) (J : gI) (P : gR) (T : gS) (hf : k_alike N I R S (xs (x3 + 1).toNatClampNeg) (xs (x3 + 2).toNatClampNeg) = some (J, P, T)) (hc : cells + 3 ≤ 600000) (hs : slots + 14 ≤ 7302250) (kk : gW p l e room_1 s m args below meth c X 4 Q (cells + 3) (slots + 14) J P T 1056 [(0, .ref b), (1, .ref (X.1 + 0)), (2, .ref (X.1 + 91)), (3, .int x3)] []) : gW p l e room_1 s m args below meth c X 4 Q cells slots I R S 819 [(0, .ref b), (1, .ref (X.1 + 0)), (2, .ref (X.1 + 91)), (3, .int x3)] [] := by
  unfold k_alike at hf
  have ho : (some (J, P, T)) ≠ none := fun h => by cases h
  refine g_aload_n C dL_law_819 rfl rfl ?_
  refine g_aload_n C dL_law_820 rfl rfl ?_
  refine g_iload_n C dL_law_821 rfl rfl ?_
  refine g_iconst (v := 1) C dL_law_822 (by decide) ?_
  refine g_iadd C dL_law_823 ?_
  refine g_sld C dL_law_824 hX hbl hbA h1 ?_
  refine g_aload_n C dL_law_825 rfl rfl ?_
  refine g_iload_n C dL_law_826 rfl rfl ?_
  refine g_iconst (v := 2) C dL_law_827 (by decide) ?_
  refine g_iadd C dL_law_828 ?_
  refine g_sld C dL_law_829 hX hbl hbA h2 ?_
  obtain ⟨z, hz, hf⟩ := gbind hf ho
  refine g_callV C dL_law_830 (m_X11_alike l X N _ _ _ (gLay.sub hL (by decide) (by decide)) _ _ z.1 z.2 hz) gEin0 (cwV 2 C.2.2.2.2.1 hL_law_X11_alike rfl rfl rfl (by decide +kernel) ⟨Nat.le_of_ble_eq_true rfl, Nat.le_of_ble_eq_true rfl⟩) (L0 hL (by decide) (by decide)) (by decide) rfl rfl rfl (Nat.le_of_ble_eq_true rfl) ⟨by show cells + 0 ≤ 600000; omega, by show slots + 0 ≤ 7302250; omega⟩ ?_
  obtain ⟨hL2, hf⟩ := gcase hf ho
  have hL2 := gLayb_ok (by decide) hL2
  refine g_aload_n C dL_law_833 rfl rfl ?_
  refine g_aload_n C dL_law_834 rfl rfl ?_
  refine g_iload_n C dL_law_835 rfl rfl ?_
  refine g_iconst (v := 1) C dL_law_836 (by decide) ?_
  refine g_iadd C dL_law_837 ?_
  refine g_sld C dL_law_838 hX hbl hbA h1 ?_
  refine g_aload_n C dL_law_839 rfl rfl ?_
  refine g_iload_n C dL_law_840 rfl rfl ?_
  refine g_iconst (v := 2) C dL_law_841 (by decide) ?_
  refine g_iadd C dL_law_842 ?_
  refine g_sld C dL_law_843 hX hbl hbA h2 ?_
  obtain ⟨y, hy, hf⟩ := gbind hf ho
  refine g_callV C dL_law_844 (m_X12_alike l X N _ _ _ (gLay.sub hL2 (by decide) (by decide)) _ _ y.1 y.2 hy) gEin0 (cwV 2 C.2.2.2.2.1 hL_law_X12_alike rfl rfl rfl (by decide +kernel) ⟨Nat.le_of_ble_eq_true rfl, Nat.le_of_ble_eq_true rfl⟩) (L91 hL2 (by decide) (by decide)) (by decide) rfl rfl rfl (Nat.le_of_ble_eq_true rfl) ⟨by show cells + 0 + 0 ≤ 600000; omega, by show slots + 0 + 0 ≤ 7302250; omega⟩ ?_
  obtain ⟨he, hf⟩ := gcase hf ho
  obtain ⟨rfl, rfl, rfl⟩ := gs3 hf
  refine g_icmp_eq_t (tgt := 1056) C dL_law_847 (by decide) he ?_
  exact g_widen (by omega) (by omega) kk
set_option maxRecDepth 100000 in
set_option maxHeartbeats 4000000 in
theorem law_stays {b L : Nat} {xs : Nat → Int32} {x3 : Int32} (N : Nat) (C : gC p s m args c cL_law 4 RL lw_tbl X) (hX : va_X b L xs s s.heap) (hbl : b < s.heap.size) (hbA : ¬ X.1 ≤ b) (h1 : vp_in (x3 + 1) L) (hE : gEN s) (hL : gLay 0 114 R S) (J : gI) (P : gR) (T : gS) (hf : k_stays N I R S (xs (x3 + 1).toNatClampNeg) = some (J, P, T)) (hc : cells + 3 ≤ 600000) (hs : slots + 14 ≤ 7302250) (kk : gW p l e room_1 s m args below meth c X 4 Q (cells + 3) (slots + 14) J P T 1056 [(0, .ref b), (1, .ref (X.1 + 0)), (2, .ref (X.1 + 91)), (3, .int x3)] []) : gW p l e room_1 s m args below meth c X 4 Q cells slots I R S 852 [(0, .ref b), (1, .ref (X.1 + 0)), (2, .ref (X.1 + 91)), (3, .int x3)] [] := by
  unfold k_stays at hf
  have ho : (some (J, P, T)) ≠ none := fun h => by cases h
  refine g_aload_n C dL_law_852 rfl rfl ?_
  refine g_aload_n C dL_law_853 rfl rfl ?_
  refine g_iload_n C dL_law_854 rfl rfl ?_
  refine g_iconst (v := 1) C dL_law_855 (by decide) ?_
  refine g_iadd C dL_law_856 ?_
  refine g_sld C dL_law_857 hX hbl hbA h1 ?_
  obtain ⟨z, hz, hf⟩ := gbind hf ho
  refine g_callV C dL_law_858 (m_X11_stays l X N _ _ _ (gLay.sub hL (by decide) (by decide)) _ z.1 z.2 hz) gEin0 (cwV 1 C.2.2.2.2.1 hL_law_X11_stays rfl rfl rfl (by decide +kernel) ⟨Nat.le_of_ble_eq_true rfl, Nat.le_of_ble_eq_true rfl⟩) (L0 hL (by decide) (by decide)) (by decide) rfl rfl rfl (Nat.le_of_ble_eq_true rfl) ⟨by show cells + 0 ≤ 600000; omega, by show slots + 0 ≤ 7302250; omega⟩ ?_
  obtain ⟨hL2, hf⟩ := gcase hf ho
  have hL2 := gLayb_ok (by decide) hL2
  refine g_aload_n C dL_law_861 rfl rfl ?_
  refine g_aload_n C dL_law_862 rfl rfl ?_
  refine g_iload_n C dL_law_863 rfl rfl ?_
  refine g_iconst (v := 1) C dL_law_864 (by decide) ?_
  refine g_iadd C dL_law_865 ?_
  refine g_sld C dL_law_866 hX hbl hbA h1 ?_
  obtain ⟨y, hy, hf⟩ := gbind hf ho
  refine g_callV C dL_law_867 (m_X12_stays l X N _ _ _ (gLay.sub hL2 (by decide) (by decide)) _ y.1 y.2 hy) gEin0 (cwV 1 C.2.2.2.2.1 hL_law_X12_stays rfl rfl rfl (by decide +kernel) ⟨Nat.le_of_ble_eq_true rfl, Nat.le_of_ble_eq_true rfl⟩) (L91 hL2 (by decide) (by decide)) (by decide) rfl rfl rfl (Nat.le_of_ble_eq_true rfl) ⟨by show cells + 0 + 0 ≤ 600000; omega, by show slots + 0 + 0 ≤ 7302250; omega⟩ ?_
  obtain ⟨he, hf⟩ := gcase hf ho
  obtain ⟨rfl, rfl, rfl⟩ := gs3 hf
  refine g_icmp_eq_t (tgt := 1056) C dL_law_870 (by decide) he ?_
  exact g_widen (by omega) (by omega) kk
set_option maxRecDepth 100000 in
set_option maxHeartbeats 4000000 in
theorem law_kind {b L : Nat} {xs : Nat → Int32} {x3 : Int32} (N : Nat) (C : gC p s m args c cL_law 4 RL lw_tbl X) (hX : va_X b L xs s s.heap) (hbl : b < s.heap.size) (hbA : ¬ X.1 ≤ b) (h1 : vp_in (x3 + 1) L) (hE : gEN s) (hL : gLay 0 114 R S) (J : gI) (P : gR) (T : gS) (hf : k_kind N I R S (xs (x3 + 1).toNatClampNeg) = some (J, P, T)) (hc : cells + 3 ≤ 600000) (hs : slots + 14 ≤ 7302250) (kk : gW p l e room_1 s m args below meth c X 4 Q (cells + 3) (slots + 14) J P T 1056 [(0, .ref b), (1, .ref (X.1 + 0)), (2, .ref (X.1 + 91)), (3, .int x3)] []) : gW p l e room_1 s m args below meth c X 4 Q cells slots I R S 875 [(0, .ref b), (1, .ref (X.1 + 0)), (2, .ref (X.1 + 91)), (3, .int x3)] [] := by
  unfold k_kind at hf
  have ho : (some (J, P, T)) ≠ none := fun h => by cases h
  refine g_aload_n C dL_law_875 rfl rfl ?_
  refine g_aload_n C dL_law_876 rfl rfl ?_
  refine g_iload_n C dL_law_877 rfl rfl ?_
  refine g_iconst (v := 1) C dL_law_878 (by decide) ?_
  refine g_iadd C dL_law_879 ?_
  refine g_sld C dL_law_880 hX hbl hbA h1 ?_
  obtain ⟨z, hz, hf⟩ := gbind hf ho
  refine g_callV C dL_law_881 (m_X11_kind l X N _ _ _ (gLay.sub hL (by decide) (by decide)) _ z.1 z.2 hz) (gEN_in hE) (cwV 1 C.2.2.2.2.1 hL_law_X11_kind rfl rfl rfl (by decide +kernel) ⟨Nat.le_of_ble_eq_true rfl, Nat.le_of_ble_eq_true rfl⟩) (L0 hL (by decide) (by decide)) (by decide) rfl rfl rfl (Nat.le_of_ble_eq_true rfl) ⟨by show cells + 0 ≤ 600000; omega, by show slots + 0 ≤ 7302250; omega⟩ ?_
  obtain ⟨hL2, hf⟩ := gcase hf ho
  have hL2 := gLayb_ok (by decide) hL2
  refine g_aload_n C dL_law_884 rfl rfl ?_
  refine g_aload_n C dL_law_885 rfl rfl ?_
  refine g_iload_n C dL_law_886 rfl rfl ?_
  refine g_iconst (v := 1) C dL_law_887 (by decide) ?_
  refine g_iadd C dL_law_888 ?_
  refine g_sld C dL_law_889 hX hbl hbA h1 ?_
  obtain ⟨y, hy, hf⟩ := gbind hf ho
  refine g_callV C dL_law_890 (m_X12_kind l X N _ _ _ (gLay.sub hL2 (by decide) (by decide)) _ y.1 y.2 hy) gEin0 (cwV 1 C.2.2.2.2.1 hL_law_X12_kind rfl rfl rfl (by decide +kernel) ⟨Nat.le_of_ble_eq_true rfl, Nat.le_of_ble_eq_true rfl⟩) (L91 hL2 (by decide) (by decide)) (by decide) rfl rfl rfl (Nat.le_of_ble_eq_true rfl) ⟨by show cells + 0 + 0 ≤ 600000; omega, by show slots + 0 + 0 ≤ 7302250; omega⟩ ?_
  obtain ⟨he, hf⟩ := gcase hf ho
  obtain ⟨rfl, rfl, rfl⟩ := gs3 hf
  refine g_icmp_eq_t (tgt := 1056) C dL_law_893 (by decide) he ?_
  exact g_widen (by omega) (by omega) kk
set_option maxRecDepth 100000 in
set_option maxHeartbeats 4000000 in
theorem law_is {b L : Nat} {xs : Nat → Int32} {x3 : Int32} (N : Nat) (C : gC p s m args c cL_law 4 RL lw_tbl X) (hX : va_X b L xs s s.heap) (hbl : b < s.heap.size) (hbA : ¬ X.1 ≤ b) (h1 : vp_in (x3 + 1) L) (h2 : vp_in (x3 + 2) L) (hE : gEN s) (hL : gLay 0 114 R S) (J : gI) (P : gR) (T : gS) (hf : k_is N I R S (xs (x3 + 1).toNatClampNeg) (xs (x3 + 2).toNatClampNeg) = some (J, P, T)) (hc : cells + 3 ≤ 600000) (hs : slots + 14 ≤ 7302250) (kk : gW p l e room_1 s m args below meth c X 4 Q (cells + 3) (slots + 14) J P T 1056 [(0, .ref b), (1, .ref (X.1 + 0)), (2, .ref (X.1 + 91)), (3, .int x3)] []) : gW p l e room_1 s m args below meth c X 4 Q cells slots I R S 898 [(0, .ref b), (1, .ref (X.1 + 0)), (2, .ref (X.1 + 91)), (3, .int x3)] [] := by
  unfold k_is at hf
  have ho : (some (J, P, T)) ≠ none := fun h => by cases h
  refine g_aload_n C dL_law_898 rfl rfl ?_
  refine g_aload_n C dL_law_899 rfl rfl ?_
  refine g_iload_n C dL_law_900 rfl rfl ?_
  refine g_iconst (v := 1) C dL_law_901 (by decide) ?_
  refine g_iadd C dL_law_902 ?_
  refine g_sld C dL_law_903 hX hbl hbA h1 ?_
  refine g_aload_n C dL_law_904 rfl rfl ?_
  refine g_iload_n C dL_law_905 rfl rfl ?_
  refine g_iconst (v := 2) C dL_law_906 (by decide) ?_
  refine g_iadd C dL_law_907 ?_
  refine g_sld C dL_law_908 hX hbl hbA h2 ?_
  obtain ⟨z, hz, hf⟩ := gbind hf ho
  refine g_callV C dL_law_909 (m_X11_is l X N _ _ _ (gLay.sub hL (by decide) (by decide)) _ _ z hz) (gEN_in hE) (cwV 2 C.2.2.2.2.1 hL_law_X11_is rfl rfl rfl (by decide +kernel) ⟨Nat.le_of_ble_eq_true rfl, Nat.le_of_ble_eq_true rfl⟩) (L0 hL (by decide) (by decide)) (by decide) rfl rfl rfl (Nat.le_of_ble_eq_true rfl) ⟨by show cells + 0 ≤ 600000; omega, by show slots + 0 ≤ 7302250; omega⟩ ?_
  obtain ⟨hL2, hf⟩ := gcase hf ho
  have hL2 := gLayb_ok (by decide) hL2
  refine g_aload_n C dL_law_912 rfl rfl ?_
  refine g_aload_n C dL_law_913 rfl rfl ?_
  refine g_iload_n C dL_law_914 rfl rfl ?_
  refine g_iconst (v := 1) C dL_law_915 (by decide) ?_
  refine g_iadd C dL_law_916 ?_
  refine g_sld C dL_law_917 hX hbl hbA h1 ?_
  refine g_aload_n C dL_law_918 rfl rfl ?_
  refine g_iload_n C dL_law_919 rfl rfl ?_
  refine g_iconst (v := 2) C dL_law_920 (by decide) ?_
  refine g_iadd C dL_law_921 ?_
  refine g_sld C dL_law_922 hX hbl hbA h2 ?_
  obtain ⟨y, hy, hf⟩ := gbind hf ho
  refine g_callV C dL_law_923 (m_X12_is l X N _ _ _ (gLay.sub hL2 (by decide) (by decide)) _ _ y.1 y.2 hy) gEin0 (cwV 2 C.2.2.2.2.1 hL_law_X12_is rfl rfl rfl (by decide +kernel) ⟨Nat.le_of_ble_eq_true rfl, Nat.le_of_ble_eq_true rfl⟩) (L91 hL2 (by decide) (by decide)) (by decide) rfl rfl rfl (Nat.le_of_ble_eq_true rfl) ⟨by show cells + 0 + 0 ≤ 600000; omega, by show slots + 0 + 0 ≤ 7302250; omega⟩ ?_
  obtain ⟨he, hf⟩ := gcase hf ho
  obtain ⟨rfl, rfl, rfl⟩ := gs3 hf
  refine g_icmp_eq_t (tgt := 1056) C dL_law_926 (by decide) he ?_
  exact g_widen (by omega) (by omega) kk
set_option maxRecDepth 100000 in
set_option maxHeartbeats 4000000 in
theorem law_as {b L : Nat} {xs : Nat → Int32} {x3 : Int32} (N : Nat) (C : gC p s m args c cL_law 4 RL lw_tbl X) (hX : va_X b L xs s s.heap) (hbl : b < s.heap.size) (hbA : ¬ X.1 ≤ b) (h1 : vp_in (x3 + 1) L) (h2 : vp_in (x3 + 2) L) (hE : gEN s) (hL : gLay 0 114 R S) (J : gI) (P : gR) (T : gS) (hf : k_as N I R S (xs (x3 + 1).toNatClampNeg) (xs (x3 + 2).toNatClampNeg) = some (J, P, T)) (hc : cells + 3 ≤ 600000) (hs : slots + 14 ≤ 7302250) (kk : gW p l e room_1 s m args below meth c X 4 Q (cells + 3) (slots + 14) J P T 1056 [(0, .ref b), (1, .ref (X.1 + 0)), (2, .ref (X.1 + 91)), (3, .int x3)] []) : gW p l e room_1 s m args below meth c X 4 Q cells slots I R S 931 [(0, .ref b), (1, .ref (X.1 + 0)), (2, .ref (X.1 + 91)), (3, .int x3)] [] := by
  unfold k_as at hf
  have ho : (some (J, P, T)) ≠ none := fun h => by cases h
  refine g_aload_n C dL_law_931 rfl rfl ?_
  refine g_aload_n C dL_law_932 rfl rfl ?_
  refine g_iload_n C dL_law_933 rfl rfl ?_
  refine g_iconst (v := 1) C dL_law_934 (by decide) ?_
  refine g_iadd C dL_law_935 ?_
  refine g_sld C dL_law_936 hX hbl hbA h1 ?_
  refine g_aload_n C dL_law_937 rfl rfl ?_
  refine g_iload_n C dL_law_938 rfl rfl ?_
  refine g_iconst (v := 2) C dL_law_939 (by decide) ?_
  refine g_iadd C dL_law_940 ?_
  refine g_sld C dL_law_941 hX hbl hbA h2 ?_
  obtain ⟨z, hz, hf⟩ := gbind hf ho
  refine g_callV C dL_law_942 (m_X11_as l X N _ _ _ (gLay.sub hL (by decide) (by decide)) _ _ z.1 z.2 hz) (gEN_in hE) (cwV 2 C.2.2.2.2.1 hL_law_X11_as rfl rfl rfl (by decide +kernel) ⟨Nat.le_of_ble_eq_true rfl, Nat.le_of_ble_eq_true rfl⟩) (L0 hL (by decide) (by decide)) (by decide) rfl rfl rfl (Nat.le_of_ble_eq_true rfl) ⟨by show cells + 0 ≤ 600000; omega, by show slots + 0 ≤ 7302250; omega⟩ ?_
  obtain ⟨hL2, hf⟩ := gcase hf ho
  have hL2 := gLayb_ok (by decide) hL2
  refine g_aload_n C dL_law_945 rfl rfl ?_
  refine g_aload_n C dL_law_946 rfl rfl ?_
  refine g_iload_n C dL_law_947 rfl rfl ?_
  refine g_iconst (v := 1) C dL_law_948 (by decide) ?_
  refine g_iadd C dL_law_949 ?_
  refine g_sld C dL_law_950 hX hbl hbA h1 ?_
  refine g_aload_n C dL_law_951 rfl rfl ?_
  refine g_iload_n C dL_law_952 rfl rfl ?_
  refine g_iconst (v := 2) C dL_law_953 (by decide) ?_
  refine g_iadd C dL_law_954 ?_
  refine g_sld C dL_law_955 hX hbl hbA h2 ?_
  obtain ⟨y, hy, hf⟩ := gbind hf ho
  refine g_callV C dL_law_956 (m_X12_as l X N _ _ _ (gLay.sub hL2 (by decide) (by decide)) _ _ y.1 y.2 hy) gEin0 (cwV 2 C.2.2.2.2.1 hL_law_X12_as rfl rfl rfl (by decide +kernel) ⟨Nat.le_of_ble_eq_true rfl, Nat.le_of_ble_eq_true rfl⟩) (L91 hL2 (by decide) (by decide)) (by decide) rfl rfl rfl (Nat.le_of_ble_eq_true rfl) ⟨by show cells + 0 + 0 ≤ 600000; omega, by show slots + 0 + 0 ≤ 7302250; omega⟩ ?_
  obtain ⟨he, hf⟩ := gcase hf ho
  obtain ⟨rfl, rfl, rfl⟩ := gs3 hf
  refine g_icmp_eq_t (tgt := 1056) C dL_law_959 (by decide) he ?_
  exact g_widen (by omega) (by omega) kk
set_option maxRecDepth 100000 in
set_option maxHeartbeats 4000000 in
theorem law_ask {b L : Nat} {xs : Nat → Int32} {x3 : Int32} (N : Nat) (C : gC p s m args c cL_law 4 RL lw_tbl X) (hX : va_X b L xs s s.heap) (hbl : b < s.heap.size) (hbA : ¬ X.1 ≤ b) (h1 : vp_in (x3 + 1) L) (h2 : vp_in (x3 + 2) L) (hE : gEN s) (hL : gLay 0 114 R S) (J : gI) (P : gR) (T : gS) (hf : k_ask N I R S (xs (x3 + 1).toNatClampNeg) (xs (x3 + 2).toNatClampNeg) = some (J, P, T)) (hc : cells + 3 ≤ 600000) (hs : slots + 14 ≤ 7302250) (kk : gW p l e room_1 s m args below meth c X 4 Q (cells + 3) (slots + 14) J P T 1056 [(0, .ref b), (1, .ref (X.1 + 0)), (2, .ref (X.1 + 91)), (3, .int x3)] []) : gW p l e room_1 s m args below meth c X 4 Q cells slots I R S 964 [(0, .ref b), (1, .ref (X.1 + 0)), (2, .ref (X.1 + 91)), (3, .int x3)] [] := by
  unfold k_ask at hf
  have ho : (some (J, P, T)) ≠ none := fun h => by cases h
  refine g_aload_n C dL_law_964 rfl rfl ?_
  refine g_aload_n C dL_law_965 rfl rfl ?_
  refine g_iload_n C dL_law_966 rfl rfl ?_
  refine g_iconst (v := 1) C dL_law_967 (by decide) ?_
  refine g_iadd C dL_law_968 ?_
  refine g_sld C dL_law_969 hX hbl hbA h1 ?_
  refine g_aload_n C dL_law_970 rfl rfl ?_
  refine g_iload_n C dL_law_971 rfl rfl ?_
  refine g_iconst (v := 2) C dL_law_972 (by decide) ?_
  refine g_iadd C dL_law_973 ?_
  refine g_sld C dL_law_974 hX hbl hbA h2 ?_
  obtain ⟨z, hz, hf⟩ := gbind hf ho
  refine g_callV C dL_law_975 (m_X11_ask l X N _ _ _ (gLay.sub hL (by decide) (by decide)) _ _ z.1 z.2 hz) gEin0 (cwV 2 C.2.2.2.2.1 hL_law_X11_ask rfl rfl rfl (by decide +kernel) ⟨Nat.le_of_ble_eq_true rfl, Nat.le_of_ble_eq_true rfl⟩) (L0 hL (by decide) (by decide)) (by decide) rfl rfl rfl (Nat.le_of_ble_eq_true rfl) ⟨by show cells + 0 ≤ 600000; omega, by show slots + 0 ≤ 7302250; omega⟩ ?_
  obtain ⟨hL2, hf⟩ := gcase hf ho
  have hL2 := gLayb_ok (by decide) hL2
  refine g_aload_n C dL_law_978 rfl rfl ?_
  refine g_aload_n C dL_law_979 rfl rfl ?_
  refine g_iload_n C dL_law_980 rfl rfl ?_
  refine g_iconst (v := 1) C dL_law_981 (by decide) ?_
  refine g_iadd C dL_law_982 ?_
  refine g_sld C dL_law_983 hX hbl hbA h1 ?_
  refine g_aload_n C dL_law_984 rfl rfl ?_
  refine g_iload_n C dL_law_985 rfl rfl ?_
  refine g_iconst (v := 2) C dL_law_986 (by decide) ?_
  refine g_iadd C dL_law_987 ?_
  refine g_sld C dL_law_988 hX hbl hbA h2 ?_
  obtain ⟨y, hy, hf⟩ := gbind hf ho
  refine g_callV C dL_law_989 (m_X12_ask l X N _ _ _ (gLay.sub hL2 (by decide) (by decide)) _ _ y.1 y.2 hy) gEin0 (cwV 2 C.2.2.2.2.1 hL_law_X12_ask rfl rfl rfl (by decide +kernel) ⟨Nat.le_of_ble_eq_true rfl, Nat.le_of_ble_eq_true rfl⟩) (L91 hL2 (by decide) (by decide)) (by decide) rfl rfl rfl (Nat.le_of_ble_eq_true rfl) ⟨by show cells + 0 + 0 ≤ 600000; omega, by show slots + 0 + 0 ≤ 7302250; omega⟩ ?_
  obtain ⟨he, hf⟩ := gcase hf ho
  obtain ⟨rfl, rfl, rfl⟩ := gs3 hf
  refine g_icmp_eq_t (tgt := 1056) C dL_law_992 (by decide) he ?_
  exact g_widen (by omega) (by omega) kk
set_option maxRecDepth 100000 in
set_option maxHeartbeats 4000000 in
theorem law_trace {b L : Nat} {xs : Nat → Int32} {x3 : Int32} (N : Nat) (C : gC p s m args c cL_law 4 RL lw_tbl X) (hX : va_X b L xs s s.heap) (hbl : b < s.heap.size) (hbA : ¬ X.1 ≤ b) (h1 : vp_in (x3 + 1) L) (hE : gEN s) (hL : gLay 0 114 R S) (J : gI) (P : gR) (T : gS) (hf : k_trace N I R S (xs (x3 + 1).toNatClampNeg) = some (J, P, T)) (hc : cells + 3 ≤ 600000) (hs : slots + 14 ≤ 7302250) (kk : gW p l e room_1 s m args below meth c X 4 Q (cells + 3) (slots + 14) J P T 1056 [(0, .ref b), (1, .ref (X.1 + 0)), (2, .ref (X.1 + 91)), (3, .int x3)] []) : gW p l e room_1 s m args below meth c X 4 Q cells slots I R S 997 [(0, .ref b), (1, .ref (X.1 + 0)), (2, .ref (X.1 + 91)), (3, .int x3)] [] := by
  unfold k_trace at hf
  have ho : (some (J, P, T)) ≠ none := fun h => by cases h
  refine g_aload_n C dL_law_997 rfl rfl ?_
  refine g_aload_n C dL_law_998 rfl rfl ?_
  refine g_iload_n C dL_law_999 rfl rfl ?_
  refine g_iconst (v := 1) C dL_law_1000 (by decide) ?_
  refine g_iadd C dL_law_1001 ?_
  refine g_sld C dL_law_1002 hX hbl hbA h1 ?_
  obtain ⟨z, hz, hf⟩ := gbind hf ho
  refine g_callV C dL_law_1003 (m_X11_trace l X N _ _ _ (gLay.sub hL (by decide) (by decide)) _ z hz) gEin0 (cwV 1 C.2.2.2.2.1 hL_law_X11_trace rfl rfl rfl (by decide +kernel) ⟨Nat.le_of_ble_eq_true rfl, Nat.le_of_ble_eq_true rfl⟩) (L0 hL (by decide) (by decide)) (by decide) rfl rfl rfl (Nat.le_of_ble_eq_true rfl) ⟨by show cells + 0 ≤ 600000; omega, by show slots + 0 ≤ 7302250; omega⟩ ?_
  obtain ⟨hL2, hf⟩ := gcase hf ho
  have hL2 := gLayb_ok (by decide) hL2
  refine g_aload_n C dL_law_1006 rfl rfl ?_
  refine g_aload_n C dL_law_1007 rfl rfl ?_
  refine g_iload_n C dL_law_1008 rfl rfl ?_
  refine g_iconst (v := 1) C dL_law_1009 (by decide) ?_
  refine g_iadd C dL_law_1010 ?_
  refine g_sld C dL_law_1011 hX hbl hbA h1 ?_
  obtain ⟨y, hy, hf⟩ := gbind hf ho
  refine g_callV C dL_law_1012 (m_X12_trace l X N _ _ _ (gLay.sub hL2 (by decide) (by decide)) _ y.1 y.2 hy) gEin0 (cwV 1 C.2.2.2.2.1 hL_law_X12_trace rfl rfl rfl (by decide +kernel) ⟨Nat.le_of_ble_eq_true rfl, Nat.le_of_ble_eq_true rfl⟩) (L91 hL2 (by decide) (by decide)) (by decide) rfl rfl rfl (Nat.le_of_ble_eq_true rfl) ⟨by show cells + 0 + 0 ≤ 600000; omega, by show slots + 0 + 0 ≤ 7302250; omega⟩ ?_
  obtain ⟨he, hf⟩ := gcase hf ho
  obtain ⟨rfl, rfl, rfl⟩ := gs3 hf
  refine g_icmp_eq_t (tgt := 1056) C dL_law_1015 (by decide) he ?_
  exact g_widen (by omega) (by omega) kk
set_option maxRecDepth 100000 in
set_option maxHeartbeats 4000000 in
theorem law_count {b L : Nat} {xs : Nat → Int32} {x3 : Int32} (N : Nat) (C : gC p s m args c cL_law 4 RL lw_tbl X) (hX : va_X b L xs s s.heap) (hbl : b < s.heap.size) (hbA : ¬ X.1 ≤ b) (h1 : vp_in (x3 + 1) L) (hE : gEN s) (hL : gLay 0 114 R S) (J : gI) (P : gR) (T : gS) (hf : k_count N I R S (xs (x3 + 1).toNatClampNeg) = some (J, P, T)) (hc : cells + 3 ≤ 600000) (hs : slots + 14 ≤ 7302250) (kk : gW p l e room_1 s m args below meth c X 4 Q (cells + 3) (slots + 14) J P T 1056 [(0, .ref b), (1, .ref (X.1 + 0)), (2, .ref (X.1 + 91)), (3, .int x3)] []) : gW p l e room_1 s m args below meth c X 4 Q cells slots I R S 1020 [(0, .ref b), (1, .ref (X.1 + 0)), (2, .ref (X.1 + 91)), (3, .int x3)] [] := by
  unfold k_count at hf
  have ho : (some (J, P, T)) ≠ none := fun h => by cases h
  refine g_aload_n C dL_law_1020 rfl rfl ?_
  refine g_aload_n C dL_law_1021 rfl rfl ?_
  refine g_iload_n C dL_law_1022 rfl rfl ?_
  refine g_iconst (v := 1) C dL_law_1023 (by decide) ?_
  refine g_iadd C dL_law_1024 ?_
  refine g_sld C dL_law_1025 hX hbl hbA h1 ?_
  obtain ⟨z, hz, hf⟩ := gbind hf ho
  refine g_callV C dL_law_1026 (m_X11_count l X N _ _ _ (gLay.sub hL (by decide) (by decide)) _ z hz) (gEN_in hE) (cwV 1 C.2.2.2.2.1 hL_law_X11_count rfl rfl rfl (by decide +kernel) ⟨Nat.le_of_ble_eq_true rfl, Nat.le_of_ble_eq_true rfl⟩) (L0 hL (by decide) (by decide)) (by decide) rfl rfl rfl (Nat.le_of_ble_eq_true rfl) ⟨by show cells + 0 ≤ 600000; omega, by show slots + 0 ≤ 7302250; omega⟩ ?_
  obtain ⟨hL2, hf⟩ := gcase hf ho
  have hL2 := gLayb_ok (by decide) hL2
  refine g_aload_n C dL_law_1029 rfl rfl ?_
  refine g_aload_n C dL_law_1030 rfl rfl ?_
  refine g_iload_n C dL_law_1031 rfl rfl ?_
  refine g_iconst (v := 1) C dL_law_1032 (by decide) ?_
  refine g_iadd C dL_law_1033 ?_
  refine g_sld C dL_law_1034 hX hbl hbA h1 ?_
  obtain ⟨y, hy, hf⟩ := gbind hf ho
  refine g_callV C dL_law_1035 (m_X12_count l X N _ _ _ (gLay.sub hL2 (by decide) (by decide)) _ y.1 y.2 hy) gEin0 (cwV 1 C.2.2.2.2.1 hL_law_X12_count rfl rfl rfl (by decide +kernel) ⟨Nat.le_of_ble_eq_true rfl, Nat.le_of_ble_eq_true rfl⟩) (L91 hL2 (by decide) (by decide)) (by decide) rfl rfl rfl (Nat.le_of_ble_eq_true rfl) ⟨by show cells + 0 + 0 ≤ 600000; omega, by show slots + 0 + 0 ≤ 7302250; omega⟩ ?_
  obtain ⟨he, hf⟩ := gcase hf ho
  obtain ⟨rfl, rfl, rfl⟩ := gs3 hf
  refine g_icmp_eq_t (tgt := 1056) C dL_law_1038 (by decide) he ?_
  exact g_widen (by omega) (by omega) kk
set_option maxRecDepth 100000 in
set_option maxHeartbeats 4000000 in
theorem law_status {b L : Nat} {xs : Nat → Int32} {x3 : Int32} (N : Nat) (C : gC p s m args c cL_law 4 RL lw_tbl X) (hX : va_X b L xs s s.heap) (hbl : b < s.heap.size) (hbA : ¬ X.1 ≤ b) (hE : gEN s) (hL : gLay 0 114 R S) (J : gI) (P : gR) (T : gS) (hf : k_status N I R S  = some (J, P, T)) (hc : cells + 3 ≤ 600000) (hs : slots + 14 ≤ 7302250) (kk : gW p l e room_1 s m args below meth c X 4 Q (cells + 3) (slots + 14) J P T 1056 [(0, .ref b), (1, .ref (X.1 + 0)), (2, .ref (X.1 + 91)), (3, .int x3)] []) : gW p l e room_1 s m args below meth c X 4 Q cells slots I R S 1043 [(0, .ref b), (1, .ref (X.1 + 0)), (2, .ref (X.1 + 91)), (3, .int x3)] [] := by
  unfold k_status at hf
  have ho : (some (J, P, T)) ≠ none := fun h => by cases h
  refine g_aload_n C dL_law_1043 rfl rfl ?_
  obtain ⟨z, hz, hf⟩ := gbind hf ho
  refine g_callV C dL_law_1044 (m_X11_status l X N _ _ _ (gLay.sub hL (by decide) (by decide))  z hz) gEin0 (cwV 0 C.2.2.2.2.1 hL_law_X11_status rfl rfl rfl (by decide +kernel) ⟨Nat.le_of_ble_eq_true rfl, Nat.le_of_ble_eq_true rfl⟩) (L0 hL (by decide) (by decide)) (by decide) rfl rfl rfl (Nat.le_of_ble_eq_true rfl) ⟨by show cells + 0 ≤ 600000; omega, by show slots + 0 ≤ 7302250; omega⟩ ?_
  obtain ⟨hL2, hf⟩ := gcase hf ho
  have hL2 := gLayb_ok (by decide) hL2
  refine g_aload_n C dL_law_1047 rfl rfl ?_
  obtain ⟨y, hy, hf⟩ := gbind hf ho
  refine g_callV C dL_law_1048 (m_X12_status l X N _ _ _ (gLay.sub hL2 (by decide) (by decide))  y.1 y.2 hy) gEin0 (cwV 0 C.2.2.2.2.1 hL_law_X12_status rfl rfl rfl (by decide +kernel) ⟨Nat.le_of_ble_eq_true rfl, Nat.le_of_ble_eq_true rfl⟩) (L91 hL2 (by decide) (by decide)) (by decide) rfl rfl rfl (Nat.le_of_ble_eq_true rfl) ⟨by show cells + 0 + 0 ≤ 600000; omega, by show slots + 0 + 0 ≤ 7302250; omega⟩ ?_
  obtain ⟨he, hf⟩ := gcase hf ho
  obtain ⟨rfl, rfl, rfl⟩ := gs3 hf
  refine g_icmp_eq_t (tgt := 1056) C dL_law_1051 (by decide) he ?_
  exact g_widen (by omega) (by omega) kk
end GL

