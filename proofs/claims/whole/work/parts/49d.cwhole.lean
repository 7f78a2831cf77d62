/-! the class: WHOLE -/
section CWhole
theorem s_forget {p w m f : Nat} {kv km : Nat → Nat → Nat} {ld : Nat → Nat} {I : gI} {R : gR} {S : gS} {N : Nat} (hH : SPH p w m f kv km ld I) (hS : SPN p w m f kv km ld) (hSl : ∀ q, 6 ≤ q → q < 75 → S[q]? = layS[q]?) (hw6 : w ≤ 6) (hp : 0 < p) (hN : 50 ≤ N) :
    ∃ J, f_X6_forget N I R S = some J ∧ Fr 17 36 I J ∧ SPH p w m 0 kv (fun _ _ => 0) ld J ∧ SPN p w m 0 kv (fun _ _ => 0) ld := by
  have hmw := SPN_mw hS
  obtain ⟨h1, h2, h3, h4, h5, h6, h7⟩ := hH
  obtain ⟨s1, s2, s3, s4, s5, s6, s7⟩ := hS
  have hS29 : ∀ j, j < 7 → S[29 + j]? = some (12, 7) := fun j hj => by
    rw [hSl (29 + j) (by omega) (by omega)]
    rcases (show j = 0 ∨ j = 1 ∨ j = 2 ∨ j = 3 ∨ j = 4 ∨ j = 5 ∨ j = 6 by omega) with rfl | rfl | rfl | rfl | rfl | rfl | rfl <;> rfl
  have key : ∃ J, f_X6_forget N I R S = some J ∧ (∀ a, ¬ (a = 17 ∨ (29 ≤ a ∧ a ≤ 35)) → J a = I a) ∧ (∀ j, j ≠ 9 → J 17 j = I 17 j) ∧ J 17 9 = 0 ∧ ∀ k j, k < m → j < 7 → J (29 + k) j = 0 := by
    unfold f_X6_forget
    refine iter_wpe (fun i s => ∃ J, s = (nI i, J) ∧ (∀ a, ¬ (a = 17 ∨ (29 ≤ a ∧ a ≤ 35)) → J a = I a) ∧ (∀ j, j ≠ 9 → J 17 j = I 17 j) ∧ J 17 9 = 0 ∧ ∀ k j, k < i → j < 7 → J (29 + k) j = 0) m ⟨_, by rw [nI_0], fun a ha => gU_cell _ _ _ (fun e => ha (.inl e)), fun j hj => gU_slot _ _ _ hj, gU_at _ _ _ _, fun k j hk => by omega⟩ ?_ (by omega)
    rintro i _ hi ⟨J, rfl, c1, c2, c3, c4⟩
    have e8 : J 17 8 = nI m := by rw [c2 8 (by decide)]; exact h3
    dsimp only
    simp only [e8]
    by_cases him : i = m
    · subst him
      rw [gle_t (Nat.le_refl i) (by omega)]
      exact .inr ⟨J, rfl, J, rfl, c1, c2, c3, c4⟩
    · refine .inl ?_
      rw [gle_f (by omega) (by omega), nI_clamp (by omega), gin2 (by omega) (by omega), s_fill (hS29 i (by omega)) (by omega) (by omega), Option.bind_some, nI_1]
      refine ⟨_, rfl, by omega, _, rfl, fun a ha => ?_, fun j hj => ?_, ?_, fun k j hk hj => ?_⟩
      · rw [Aw_row (by omega)]; exact c1 a ha
      · rw [Aw_ne _ (by omega)]; exact c2 j hj
      · rw [Aw_ne _ (by omega)]; exact c3
      · by_cases e : k = i
        · rw [e, Aw_at hj]
        · rw [Aw_ne _ (by omega)]; exact c4 k j (by omega) hj
  obtain ⟨J, k1, k2, k3, k4, k5⟩ := key
  refine ⟨J, k1, fun a ha => k2 a (by omega), ⟨by rw [k3 _ (by decide)]; exact h1, by rw [k3 _ (by decide)]; exact h2, by rw [k3 _ (by decide)]; exact h3, by rw [k4]; exact nI_0.symm, fun k i hk hi => by rw [k2 (21 + k) (by omega)]; exact h5 k i hk hi, fun k j hk hj => by rw [k5 k j hk hj]; exact nI_0.symm, fun k hk => by rw [k2 36 (by omega)]; exact h7 k hk⟩, ⟨s1, .inr hw6, by omega, s4, fun _ _ => hp, s6, fun _ _ _ => rfl⟩⟩
theorem jn_le {p : Nat} (hp : 2 ≤ p) (hp5 : p ≤ 5) (a b e : Nat) : jn p a b e ≤ 16 * (e + 1) := ns_le (fun i => by
  have h1 := dig_lt (show 0 < p by omega) a i
  have h2 := dig_lt (show 0 < p by omega) b (e - i)
  exact Nat.le_trans (Nat.mul_le_mul (show _ ≤ 4 by omega) (show _ ≤ 4 by omega)) (by omega)) _
theorem s_joined {p : Nat} {I : gI} {R : gR} {S : gS} {N a b : Nat} (h0 : I 6 0 = nI p) (h7 : ∀ i, i < 8 → I 7 i = nI (p ^ i)) (hp : 2 ≤ p) (hp5 : p ≤ 5) (ha : a < 2147483648) (hb : b < 2147483648) (hN : 10 ≤ N) : f_X2_joined N I R S (nI a) (nI b) = some (nI (jo p a b)) := by
  unfold f_X2_joined
  refine iter_bind (fun k => (nI (enc p k (fun e => jn p a b e % p)), nI k)) 7 (nI (jo p a b)) ?_ ?_ ?_ (by omega) rfl
  · rw [enc, nI_0]
  · intro k hk
    dsimp only
    rw [show (6 : Int32) = nI 6 from rfl, glt_f (show k ≤ 6 by omega) (by omega)]
    refine iter_bind (fun i => (nI (ns (fun i => dig p a i * dig p b (k - i)) i), nI i)) (k + 1) (nI (jn p a b k)) ?_ ?_ ?_ (by omega) ?_
    · rw [ns, nI_0]
    · intro i hi
      dsimp only
      rw [glt_f (show i ≤ k by omega) (by omega), s_numberAt h0 h7 hp hp5 (by omega) ha, Option.bind_some, pk_sub (by omega), s_numberAt h0 h7 hp hp5 (by omega) hb, Option.bind_some, pk_mul, nI_add, nI_1]
      rfl
    · dsimp only
      rw [glt_t (by omega) (by omega)]
      rfl
    · have hj := jn_le hp hp5 a b k
      simp (disch := omega) only [h0, gnz, nI_clamp, gin2, h7, pk_div, pk_mul, pk_rem2, nI_add, nI_1]
      rfl
  · dsimp only
    rw [show (6 : Int32) = nI 6 from rfl, glt_t (by omega) (by omega)]
    rfl
theorem s_wholeOf {K : Type} [Lean.Grind.CommRing K] {L : Type} [Lean.Grind.CommRing L] {C : K → L} (hC : HM C) (tau : L) {p n : Nat} {X : K} {co : K → Nat} {I : gI} {R : gR} {S : gS} {N w r : Nat} {t : Nat → K} (hzL : nk (K := L) p = 0) (hR : RO K p n X co) (hF : FH p n X co I) (hW : CW co I R S w r t) (hV : WV r t) (hA : Ad p n X co I R S) (h17 : I 17 1 = nI p) (hp2 : I 56 2 = nI p) (hn : I 56 3 = nI n) (hS : ∀ q, 6 ≤ q → q < 75 → S[q]? = layS[q]?) (hw : w < 100000) (hws : w < S.length) (hN : 60 ≤ N) :
    ∃ J W, f_X0_wholeOf N I R S w = some (nI W, J) ∧ Fp pA I J ∧ (∀ j, j ≠ 5 → J 56 j = I 56 j) ∧ J 17 1 = nI p ∧ Ad p n X co J R S ∧ ∃ m y, WBI C p n X co (r + 1) t tau n m y W := by
  have hp := RO_p hR
  have hn1 := hR.2.1
  have hn6 := hR.2.2.1
  obtain ⟨J1, a1, a2, a3, a4, a5⟩ := s_actBy (N := N) hR hF hW hV hA hn hS hw hN
  have hJ1 : Fp pA I J1 := Fp_Fs a2 (fun a ha => by
    simp only [lA, List.mem_cons, List.mem_nil_iff, or_false] at ha
    unfold pA; omega)
  have hF1 : FH p n X co J1 := FH_of hF hn6 (fun a h1 h2 => hJ1 a (by unfold pA; omega))
  have hS71 : S[71]? = some (12, 6) := hS 71 (by omega) (by omega)
  obtain ⟨J2, c1, c2, kv0, km0, ld0, c3, c4, c5⟩ := s_begin (K := K) (N := N) (R := R) (S := S) (I := J1) (Z := Z0 (1 * n)) (V := fun _ _ => 0) (Rl := fun _ => False) (w := 1 * n) (show 0 < p by omega) (by rw [a2 17 (by decide)]; exact h17) (by omega)
  rw [Nat.one_mul] at c1
  have e56 : J1 56 3 = nI n := by rw [a3 _ (by decide)]; exact hn
  have key : ∃ y, (iter (σ := Int32 × Int32 × gI) (ρ := Int32 × gI) (fun z3 => (if (z3.2.2 56 3) ≤ z3.2.1 then some (.inr (z3.1, z3.2.2)) else if z3.2.1 < 0 ∨ 8 ≤ z3.2.1.toNatClampNeg then none else ((f_X2_split N z3.2.2 R S (z3.2.2 7 z3.2.1.toNatClampNeg) 71).bind (fun z5 => ((f_X6_forget N z5 R S).bind (fun z6 => ((f_X0_relationOfPoint N z6 R S).bind (fun z7 => ((f_X2_joined N z7.2 R S z3.1 z7.1).bind (fun z8 => some (.inl (z8, z3.2.1 + 1, z7.2)))))))))))) N ((1 : Int32), (0 : Int32), J2)) = some y ∧ ∃ J W m yy, y = (nI W, J) ∧ Fp pS J1 J ∧ J 17 1 = nI p ∧ WBI C p n X co (r + 1) t tau n m yy W := by
    refine iter_wp (fun i s => ∃ J W m y kv km ld f, s = (nI W, nI i, J) ∧ Fp pS J1 J ∧ SPH p (1 * n) m f kv km ld J ∧ SPN p (1 * n) m f kv km ld ∧ (∀ k, k < m → ∃ d : Nat → K, ∀ i, i < n → nk (kv k i) = sm m (fun l => d l * dk p co i (y l))) ∧ WBI C p n X co (r + 1) t tau i m y W) _ n ⟨J2, 1, 0, fun _ => 0, kv0, km0, ld0, 0, by rw [nI_0]; rfl, Fp_Fr c2 (fun a h1 h2 => by unfold pS; omega), c3, c4, fun k hk => by omega, WBI_0 C hR _ t tau⟩ ?_ (by omega)
    rintro i _ hi ⟨J, W, m, y, kv, km, ld, f, rfl, g1, g2, g3, g4, g5⟩
    have e3 : J 56 3 = nI n := by rw [g1 56 (by unfold pS; omega)]; exact e56
    dsimp only
    simp only [e3]
    by_cases hin : i = n
    · subst hin
      rw [gle_t (Nat.le_refl i) (by omega)]
      exact .inr ⟨_, rfl, J, W, m, y, rfl, g1, g2.1, g5⟩
    refine .inl ?_
    have hFJ : FH p n X co J := FH_of hF1 hn6 (fun a h1 h2 => g1 a (by unfold pS; omega))
    rw [gle_f (by omega) (by omega), nI_clamp (by omega), gin2 (by omega) (by omega), hFJ.2.2.2.1 i (by omega), ← co_X hR (show i < n by omega), s_split (p := p) (n := n) hFJ.1.1.1 hFJ.1.1.2.1 hp.1 hp.2 hn6 (by decide) (by rw [gLn_of hS71]; omega) (by rw [gLn_of hS71]; omega) (co_31 hR _) (by omega), Option.bind_some]
    have hmw := SPN_mw g3
    obtain ⟨J3, f1, f2, f3, f4⟩ := s_forget (N := N) (R := R) (S := S) (I := Aw J 71 n (fun j => nI (dig p (co (X ^ i)) j))) (SPH_of g2 (by omega) (fun a ha => Aw_row (by omega))) g3 hS (by omega) (show 0 < p by omega) (by omega)
    have hJ3 : Fp pS J1 J3 := g1.trans ((Fp_Aw (by unfold pS; omega)).trans (Fp_Fr f2 (fun a h1 h2 => by unfold pS; omega)))
    have hF3 : FH p n X co J3 := FH_of hF1 hn6 (fun a h1 h2 => hJ3 a (by unfold pS; omega))
    have hZc : Zc (K := K) (1 * n) (fun u => ∃ d : Nat → K, ∀ i, i < n → u i = sm m (fun l => d l * dk p co i (y l))) := by
      refine ⟨fun u hu => ⟨fun _ => 0, fun i hi => ?_⟩, fun u v hu hv => ?_, fun c u hu => ?_⟩
      · rw [hu i (by omega), sm_0 (fun l _ => by grind)]
      · obtain ⟨d, hd⟩ := hu
        obtain ⟨e, he⟩ := hv
        refine ⟨fun l => d l + e l, fun i hi => ?_⟩
        show u i + v i = _
        rw [hd i hi, he i hi, ← sm_add]
        exact sm_congr (fun l _ => by grind)
      · obtain ⟨d, hd⟩ := hu
        refine ⟨fun l => nk c * d l, fun i hi => ?_⟩
        show nk c * u i = _
        rw [hd i hi, ← sm_mulL]
        exact sm_congr (fun l _ => by grind)
    have hI3 : SPI p (1 * n) m 0 (fun u => ∃ d : Nat → K, ∀ i, i < n → u i = sm m (fun l => d l * dk p co i (y l))) (Wv p n co (fun j _ => itT p (r + 1) t j (X ^ i))) (fun _ => False) J3 := by
      refine ⟨kv, fun _ _ => 0, ld, f3, f4, fun k hk => ?_, fun j hj => by omega, fun k j _ hj => by omega, fun j hj => by omega⟩
      obtain ⟨d, hd⟩ := g4 k hk
      refine ⟨d, fun i hi => ?_⟩
      show nk (kv k i) - sm 0 _ = _
      rw [← hd i hi, sm_zero]; grind
    obtain ⟨J4, k, c, d1, d2, d3, d4, d5, d6, Rl, d7⟩ := s_relOf (N := N) (R := R) (S := S) hR hF3 (Im_of a5 hn6 (fun a h1 h2 => hJ3 a (by unfold pS; omega))) (by rw [hJ3 56 (by unfold pS; omega), a3 _ (by decide)]; exact hp2) (by rw [hJ3 56 (by unfold pS; omega)]; exact e56) hS hZc (X ^ i) (fun j hj => by rw [f2 71 (by omega), Aw_at hj]) hI3 hN
    have hJ4 : Fp pS J1 J4 := hJ3.trans d2
    have hF4 : FH p n X co J4 := FH_of hF1 hn6 (fun a h1 h2 => hJ4 a (by unfold pS; omega))
    have hW7 := g5.2.1
    have hp7 := pow_le7 (i := 7) hp.2 (by omega)
    rw [f1, Option.bind_some, d1, Option.bind_some]
    dsimp only
    rw [s_joined hF4.1.1.1 hF4.2.2.2.1 hp.1 hp.2 (by omega) (rel_31 hp.2 (by omega) d4) (by omega), Option.bind_some, nI_1]
    have hWv : ∀ j i', i' < n → Wv p n co (fun j _ => itT p (r + 1) t j (X ^ i)) j i' = dk p co i' (itT p (r + 1) t j (X ^ i)) := fun j i' hi' => by
      unfold Wv; rw [Nat.mod_eq_of_lt hi']
    obtain ⟨ee, he⟩ := d5
    have he2 : ∀ i', i' < n → dk p co i' (itT p (r + 1) t k (X ^ i)) + sm k (fun j => nk (c j) * dk p co i' (itT p (r + 1) t j (X ^ i))) = sm m (fun l => ee l * dk p co i' (y l)) := fun i' hi' => by
      rw [← he i' hi']
      dsimp only
      rw [hWv k i' hi']
      congr 1
      exact sm_congr (fun j _ => by rw [hWv j i' hi'])
    have hin' : InE p n co y m (itT p (r + 1) t k (X ^ i) + sm k (fun j => nk (c j) * itT p (r + 1) t j (X ^ i))) := ⟨ee, fun i' hi' => by rw [dk_add hR hi', dk_sm hR hi']; exact he2 i' hi'⟩
    obtain ⟨kv', km', ld', q1, q2, q3⟩ := d7
    refine ⟨_, rfl, by omega, J4, _, m + k, _, kv', km', ld', k + 1, rfl, hJ4, q1, q2, fun l hl => ?_, WBI_S hC hR hzL g5 d3 d4 hin'⟩
    obtain ⟨d, hd⟩ := q3.1 l hl
    refine ⟨fun b => if b < m then d b + nk (km' l k) * ee b else nk (km' l (b - m)) - nk (km' l k) * nk (c (b - m)), fun i' hi' => ?_⟩
    have hd' := hd i' hi'
    have he' := he2 i' hi'
    rw [sm_app]
    have s1 : ∀ b, b < m → (if b < m then d b + nk (km' l k) * ee b else nk (km' l (b - m)) - nk (km' l k) * nk (c (b - m))) * dk p co i' (if b < m then y b else itT p (r + 1) t (b - m) (X ^ i)) = d b * dk p co i' (y b) + nk (km' l k) * (ee b * dk p co i' (y b)) := fun b hb => by
      rw [if_pos hb, if_pos hb]; grind
    have s2 : ∀ j, j < k → (if m + j < m then d (m + j) + nk (km' l k) * ee (m + j) else nk (km' l (m + j - m)) - nk (km' l k) * nk (c (m + j - m))) * dk p co i' (if m + j < m then y (m + j) else itT p (r + 1) t (m + j - m) (X ^ i)) = nk (km' l j) * dk p co i' (itT p (r + 1) t j (X ^ i)) - nk (km' l k) * (nk (c j) * dk p co i' (itT p (r + 1) t j (X ^ i))) := fun j hj => by
      rw [if_neg (by omega), if_neg (by omega), Nat.add_sub_cancel_left]; grind
    have s3 : sm (k + 1) (fun j => nk (km' l j) * Wv p n co (fun j _ => itT p (r + 1) t j (X ^ i)) j i') = sm k (fun j => nk (km' l j) * dk p co i' (itT p (r + 1) t j (X ^ i))) + nk (km' l k) * dk p co i' (itT p (r + 1) t k (X ^ i)) := by
      rw [sm_succ, hWv k i' hi']
      congr 1
      exact sm_congr (fun j _ => by rw [hWv j i' hi'])
    have hd'' : nk (kv' l i') - sm (k + 1) (fun j => nk (km' l j) * Wv p n co (fun j _ => itT p (r + 1) t j (X ^ i)) j i') = sm m (fun l => d l * dk p co i' (y l)) := hd'
    rw [s3] at hd''
    rw [sm_congr s1, sm_congr s2, sm_add, sm_sub, sm_mulL, sm_mulL]
    generalize sm m (fun l => d l * dk p co i' (y l)) = u1 at *
    generalize sm m (fun l => ee l * dk p co i' (y l)) = u2 at *
    generalize sm k (fun j => nk (km' l j) * dk p co i' (itT p (r + 1) t j (X ^ i))) = u3 at *
    generalize sm k (fun j => nk (c j) * dk p co i' (itT p (r + 1) t j (X ^ i))) = u4 at *
    grind
  obtain ⟨y, k1, J, W, m, yy, k2, k3, k4, k5⟩ := key
  have hfr : Fp pA I J := hJ1.trans (k3.mono (fun a ha => by unfold pS at ha; unfold pA; omega))
  have f56 : J 56 = J1 56 := k3 56 (by unfold pS; omega)
  refine ⟨J, W, ?_, hfr, fun j hj => by rw [f56]; exact a3 j hj, k4, Ad_mk hR (CW_of hW (fun a ha => hfr a (by unfold pA; omega))) hV (by rw [f56]; exact a4) (Im_of a5 hn6 (fun a h1 h2 => k3 a (by unfold pS; omega))) hws, m, yy, k5⟩
  unfold f_X0_wholeOf
  rw [if_pos hW.1, a1, Option.bind_some, e56, c1, Option.bind_some, k1, Option.bind_some, k2]
end CWhole
