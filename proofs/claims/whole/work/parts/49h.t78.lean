/-! told: WHOLE and LEAST -/
section T78S
theorem phG {K : Type} [Lean.Grind.CommRing K] (c : K) {i j : Nat} (G : KT K 7) {k : Nat} (hk : k < 7) : ((lR K).mul ((lR K).sub (if j = i then kXe 7 (fun _ => 0) else @OfNat.ofNat (KT K 7) 0 ((lR K).ofNat 0)) (ktC 7 (by decide) c)) G).1 k = (if i = j ∧ 0 < k then G.1 (k - 1) else 0) - c * G.1 k := by
  letI := lR K
  have e : ((if j = i then kXe 7 (fun _ => 0) else (0 : KT K 7)) - ktC 7 (by decide) c) * G = (if j = i then kXe 7 (fun _ => 0) else (0 : KT K 7)) * G - ktC 7 (by decide) c * G := by grind
  refine (congrArg (fun z : KT K 7 => z.1 k) e).trans ?_
  show ((if j = i then kXe 7 (fun _ => 0) else (0 : KT K 7)) * G).1 k - (ktM 7 (fun _ => 0) (ktC 7 (by decide) c) G).1 k = _
  rw [ktC_M]
  congr 1
  by_cases h : j = i
  · rw [if_pos h]
    show kM 7 (fun _ => 0) (kX 7 (fun _ => 0) (kE 0)) G.1 k = _
    rw [kM_comm (fun _ => 0) (kX_in 7 (fun _ => 0) (kE 0)) G.2, ← kM_X, kM_E (fun _ => 0) G.2]
    unfold kX
    rw [if_pos hk]
    by_cases h0 : k = 0
    · rw [if_pos h0, if_neg (by omega)]; grind
    · rw [if_neg h0, if_pos ⟨h.symm, by omega⟩]; grind
  · rw [if_neg h, if_neg (fun z => h z.1.symm)]
    have e2 : (0 : KT K 7) * G = 0 := by grind
    refine (congrArg (fun z : KT K 7 => z.1 k) e2).trans ?_
    show (if k = 0 then nk 0 else 0) = (0 : K)
    rw [nk_0]; split <;> rfl
/-- the minors of tau less T -/
def mvL {K : Type} [Lean.Grind.CommRing K] (p n : Nat) (X : K) (co : K → Nat) (M : Nat) (t : Nat → K) (s k : Nat) : K := (@wp (KT K 7) (lR K) n (@phm K (KT K 7) _ (lR K) (ktC 7 (by decide)) p co X M t (kXe 7 (fun _ => 0))) (pcn s 6) s).1 k
theorem mvL_0 {K : Type} [Lean.Grind.CommRing K] (p n : Nat) (X : K) (co : K → Nat) (M : Nat) (t : Nat → K) (k : Nat) : mvL p n X co M t 0 k = if k = 0 then 1 else 0 := by
  show (if k = 0 then nk 1 else 0) = if k = 0 then (1 : K) else 0
  rw [nk_1]
theorem mvL_S {K : Type} [Lean.Grind.CommRing K] {p n : Nat} (hn : n ≤ 6) (X : K) (co : K → Nat) (M : Nat) (t : Nat → K) {s k : Nat} (hs0 : 0 < s) (hs : s < 2 ^ n) (hk : k < 7) : mvL p n X co M t s k = sm n (rcx (fun i j => dig p (co (ev p M t (X ^ i))) j) (mvL p n X co M t) s k) := by
  have h64 : (2 : Nat) ^ n ≤ 64 := Nat.pow_le_pow_right (by omega) hn
  obtain ⟨v1, v2, v3, v4⟩ := (bits_G hn).2 s (by omega)
  have hp0 := v2 hs0
  obtain ⟨m, hm⟩ : ∃ m, pcn s 6 = m + 1 := ⟨pcn s 6 - 1, by omega⟩
  unfold mvL
  rw [hm]
  refine (c_sm (by decide) (fun _ => 0) n (fun j => (lR K).mul (@phm K (KT K 7) _ (lR K) (ktC 7 (by decide)) p co X M t (kXe 7 (fun _ => 0)) m j) (@eo (KT K 7) (lR K) j (@wp (KT K 7) (lR K) n (@phm K (KT K 7) _ (lR K) (ktC 7 (by decide)) p co X M t (kXe 7 (fun _ => 0))) m) s)) k).trans ?_
  refine sm_congr (fun j hj => ?_)
  by_cases hb : bt s j = true
  · obtain ⟨n1, n2, n3, n4, n5⟩ := bits_B (show s < 64 by omega) (show j < 6 by omega) hb
    have hpm : pcn (s - 2 ^ j) 6 = m := by omega
    have hG := phG (K := K) (dk p co j (ev p M t (X ^ m))) (i := m) (j := j) (@wp (KT K 7) (lR K) n (@phm K (KT K 7) _ (lR K) (ktC 7 (by decide)) p co X M t (kXe 7 (fun _ => 0))) m (s - 2 ^ j)) hk
    unfold rcx
    rw [if_pos hb, hm, Nat.add_sub_cancel, @eo_yes (KT K 7) (lR K) j s _ (by omega) hb]
    dsimp only
    rw [hpm]
    by_cases ho : od s j = true
    · rw [if_pos ho, if_pos ho]
      refine Eq.trans ?_ (congrArg Neg.neg hG)
      letI := lR K
      have e : ∀ a b : KT K 7, a * (-b) = - (a * b) := fun a b => by grind
      exact congrArg (fun z : KT K 7 => z.1 k) (e _ _)
    · rw [if_neg ho, if_neg ho]; exact hG
  · rw [@eo_no (KT K 7) (lR K) j s _ (fun z => hb z.2)]
    refine Eq.trans ?_ (if_neg hb).symm
    letI := lR K
    have e : ∀ a : KT K 7, a * 0 = 0 := fun a => by grind
    refine (congrArg (fun z : KT K 7 => z.1 k) (e _)).trans ?_
    show (if k = 0 then nk 0 else 0) = (0 : K)
    rw [nk_0]; split <;> rfl
theorem t78 {K : Type} [Lean.Grind.CommRing K] {p n : Nat} {X : K} {co : K → Nat} {k N : Nat} {I : gI} {R : gR} {S : gS} (hR : RO K p n X co) (h : IV p n X co k I R S) (hk : k < 512) (hN : 16000 ≤ N) : T78 p n X co N I R S := by
  intro x1 w a r t d c f w1 e1 e2 e3 hx
  have hIV := h
  have hp' := RO_p hR
  have hn1 := hR.2.1
  have hn6 := hR.2.2.1
  obtain ⟨b1, b2, b3, b4, b5, b6, b7, b8, b9, b10⟩ := h
  obtain ⟨f1, f2, f3, f4, f5, f6, f7, f8, f9, f10, f11, f12⟩ := e2
  have hp : ∀ J : gI, f_X11_isPlace N J R S (nI w) = some 1 ∧ f_X12_isPlace N J R S (nI w) = some 1 := by
    rcases isP2 (N := N) (R := R) (S := S) (nI w) with hp | ⟨w', _, _, hp⟩
    · have h1 := (hp I I).1
      unfold f_X11_isPlace at h1
      rw [gn_f (by omega), show (10 : Int32) = nI 10 from rfl, gle_f w1 (by omega)] at h1
      cases h1
    · exact fun J => hp J J
  have hx9 : x1 ≤ (9 : Int32) ∧ ¬ x1 < 0 ∧ x1 ≠ 9 ∧ ∀ J : gI, f_X12_in N J R S x1.toInt64 (0 : Int64) (9 : Int64) = some 1 := by
    have hs := fun J : gI => s_in (N := N) (I := J) (R := R) (S := S) x1 0 9
    rcases hx with rfl | rfl
    · exact ⟨by decide, by decide, by decide, fun J => (hs J).trans (by rw [if_pos (by decide)])⟩
    · exact ⟨by decide, by decide, by decide, fun J => (hs J).trans (by rw [if_pos (by decide)])⟩
  obtain ⟨x9, x0, xn, hin⟩ := hx9
  have hC : ∀ v Jc, f_X11_tellOf N I R S a x1 = some (v, Jc) → f_X11_told N I R S (nI w) x1 = some (v, gU Jc 0 7 (0 : Int32)) := fun v Jc h2 => by
    unfold f_X11_told; rw [(hp I).1, Option.bind_some, if_neg (by decide), if_neg x0, if_pos x9, nI_clamp (n := w) (by omega), gin2 (by omega) (by omega), e1]
    dsimp only
    rw [if_pos f2.1, if_neg xn, h2]; rfl
  obtain ⟨Jc, W, s1, hfr, s3, s4, s5, m, y, hWB⟩ := @s_wholeOf K _ (KT K 7) (lR K) (ktC 7 (by decide)) lR_C (kXe 7 (fun _ => 0)) p n X co I R S N a r t (lR_z (RO_z hR)) hR b4 f2 f3 b6.2.2.2.2.2 b6.1 b6.2.2.1 b6.2.2.2.1 (lay6 b1 6 75 (by omega)) (by omega) f1 (by omega)
  obtain ⟨hchi, hdet⟩ := @WBI_end K (KT K 7) _ (lR K) (ktC 7 (by decide)) lR_C p n X co hR (r + 1) t (kXe 7 (fun _ => 0)) (lR_ne (RO_ne hR)) m W y hWB
  have hlk : ∀ J : gI, (∀ q, 75 ≤ q → J q = I q) → f_X12_look N (gU J 91 0 (0 : Int32)) R S (nI w) = some (0, m0 J) := fun J hJ => look_yes w1 (MW_of e3 (hJ 101 (by omega)) (hJ 102 (by omega))) f3.1 f3.2.1
  have hMJ : ∀ J : gI, (∀ q, 75 ≤ q → J q = I q) → MH p n X co (m0 J) ∧ MW co (m0 J) w r t := fun J hJ => ⟨m0_MH (MH_of b5 (fun o _ _ => by rw [hJ 91 (by omega)]) (hJ 96 (by omega)) (hJ 97 (by omega))), m0_MW (MW_of e3 (hJ 101 (by omega)) (hJ 102 (by omega)))⟩
  have hlay92 : S[92]? = some (12, 16) := lay6 b1 91 114 (by omega) 92 (by omega) (by omega)
  rcases hx with rfl | rfl
  · have hJ1n : ∀ q, 75 ≤ q → gU Jc 0 7 (0 : Int32) q = I q := fun q hq => by rw [gU_cell _ _ _ (by omega)]; exact hfr q (by unfold pA; omega)
    obtain ⟨hM1, hW1⟩ := hMJ _ hJ1n
    obtain ⟨yy, y1, J2, v, rfl, y3, y4⟩ := m_wholeOf (N := N) (R := R) (S := S) hR hM1 w1 hW1 f3.2.1 hlay92 (mv := mvL p n X co (r + 1) t) (fun k _ => mvL_0 p n X co (r + 1) t k) (fun s h0 h1 k hk => mvL_S hn6 X co (r + 1) t h0 h1 hk) (by omega)
    have hv : enc p 7 v = W := by
      rw [← enc_dig hWB.2.1]
      refine enc_congr (fun k hk => nk_inj hR (y4 k hk).1 (dig_lt (by omega) _ _) ?_)
      rw [(y4 k hk).2]
      unfold mvL
      rw [(bits_C hn6).2.2.1, hdet]
      exact c_el (by decide) (fun _ => 0) (dig p W) hk
    rw [hv] at y1
    refine ⟨nI W, gU Jc 0 7 (0 : Int32), J2, 0, hC _ _ ?_, CS_st hR (fun x hx => hfr x (pA_C hx)) (CST_A b6 hfr s4 (s3 2 (by decide)) (s3 3 (by decide)) s5) 0, ?_, MS_m0 y3 (by decide)⟩
    · unfold f_X11_tellOf; rw [if_pos f2.1, if_neg (by decide), if_neg (by decide), if_neg (by decide), if_neg (by decide), if_neg (by decide), if_neg (by decide), if_neg (by decide), if_pos (show nI 7 = (7 : Int32) from rfl), s1]; rfl
    · unfold f_X12_told; rw [(hp _).2, Option.bind_some, if_neg (by decide), hin, Option.bind_some, if_neg (by decide), hlk _ hJ1n, Option.bind_some, if_pos (show (0 : Int32) ≤ 0 by decide)]; dsimp only; rw [if_neg (by decide), if_neg (by decide), if_neg (by decide), if_neg (by decide), if_neg (by decide), if_neg (by decide), if_neg (by decide), if_pos (show nI 7 = (7 : Int32) from rfl), y1]; rfl
  · obtain ⟨Jl, kk, cc, l1, lfr, l3, l4, l5, l6, l7⟩ := s_leastOf (N := N) hR b4 f2 f3 b6.2.2.2.2.2 b6.1 b6.2.2.1 b6.2.2.2.1 (lay6 b1 6 75 (by omega)) (by omega) f1 hWB.1 hchi (by omega)
    have hJ1n : ∀ q, 75 ≤ q → gU Jl 0 7 (0 : Int32) q = I q := fun q hq => by rw [gU_cell _ _ _ (by omega)]; exact lfr q (by unfold pA; omega)
    obtain ⟨hM1, hW1⟩ := hMJ _ hJ1n
    have key : ∃ y, (iter (σ := Int32 × gI) (ρ := gI) (fun z8 => (if (z8.2 91 3) ≤ z8.1 then some (.inr z8.2) else ((f_X12_power N z8.2 R S (z8.2 91 2) z8.1).bind (fun z10 => ((f_X12_goOn N z8.2 R S (nI w) z8.1 z10).bind (fun z11 => some (.inl (z8.1 + 1, z11)))))))) N ((0 : Int32), m0 (gU Jl 0 7 (0 : Int32)))) = some y ∧ Fs [109] (m0 (gU Jl 0 7 (0 : Int32))) y ∧ ∀ e i, e < 7 → i < n → y 109 (7 * i + e) = nI (co (itT p (r + 1) t e (X ^ i))) := by
      refine iter_wp (fun i s => ∃ J, s = (nI i, J) ∧ Fs [109] (m0 (gU Jl 0 7 (0 : Int32))) J ∧ ∀ e l, e < 7 → l < i → J 109 (7 * l + e) = nI (co (itT p (r + 1) t e (X ^ l)))) _ n ⟨_, by rw [nI_0], Fs_refl _ _, fun e l _ hl => by omega⟩ ?_ (by omega)
      rintro i _ hi ⟨J, rfl, c1, c2⟩
      have hMi := MH_fs hM1 c1 (by decide) (by decide) (by decide)
      have q2 := hMi.1
      have q3 := hMi.2.1
      dsimp only
      simp only [q2, q3]
      by_cases hin' : i = n
      · subst hin'
        rw [gle_t (Nat.le_refl i) (by omega)]
        exact .inr ⟨J, rfl, c1, c2⟩
      · refine .inl ?_
        obtain ⟨J4, p1, p2, p3, p4⟩ := m_goOn (N := N) (R := R) (S := S) (k := i) hR hMi w1 (MW_of hW1 (c1 101 (by decide)) (c1 102 (by decide))) f3.2.1 (by omega) (X ^ i) (by omega)
        rw [gle_f (by omega) (by omega), m_power (by omega) (by omega), Option.bind_some, ← co_X hR (show i < n by omega), p1, Option.bind_some, nI_1]
        refine ⟨_, rfl, by omega, J4, rfl, c1.trans p2, fun e l he hl => ?_⟩
        by_cases e' : l = i
        · rw [e']; exact p3 e he
        · rw [p4 _ (by omega)]; exact c2 e l he (by omega)
    obtain ⟨J3, k1, k2, k3⟩ := key
    have hM3 := MH_fs hM1 k2 (by decide) (by decide) (by decide)
    obtain ⟨J4, o1, o2⟩ := m_leastOf (N := N) (R := R) (S := S) (M := n) hR hM3 hlay92 hn6 l7 l6 (fun e i he hi => k3 e i he hi) hN
    refine ⟨nI (enc p kk cc + p ^ kk), gU Jl 0 7 (0 : Int32), J4, 0, hC _ _ ?_, CS_st hR (fun x hx => lfr x (pA_C hx)) (CST_A b6 lfr l4 (l3 2 (by decide)) (l3 3 (by decide)) l5) 0, ?_, MS_m0 (l := [92, 109]) ((k2.mono (by decide)).trans (o2.mono (by decide))) (by decide)⟩
    · unfold f_X11_tellOf; rw [if_pos f2.1, if_neg (by decide), if_neg (by decide), if_neg (by decide), if_neg (by decide), if_neg (by decide), if_neg (by decide), if_neg (by decide), if_neg (by decide), if_pos (show nI 8 = (8 : Int32) from rfl), l1]; rfl
    · unfold f_X12_told; rw [(hp _).2, Option.bind_some, if_neg (by decide), hin, Option.bind_some, if_neg (by decide), hlk _ hJ1n, Option.bind_some, if_pos (show (0 : Int32) ≤ 0 by decide)]; dsimp only; rw [if_neg (by decide), if_neg (by decide), if_neg (by decide), if_neg (by decide), if_neg (by decide), if_neg (by decide), if_neg (by decide), if_neg (by decide), if_pos (show nI 8 = (8 : Int32) from rfl), k1, Option.bind_some, hM3.2.1, o1]; rfl
end T78S
