/-! the model: WHOLE, all of it; what its minors are -/
section MWhole2
theorem ch7 {P : Nat → Nat → Prop} (h : ∀ k, k < 7 → ∃ v, P k v) : ∃ v : Nat → Nat, ∀ k, k < 7 → P k (v k) :=
  ⟨fun k => if hk : k < 7 then (h k hk).choose else 0, fun k hk => by dsimp only; rw [dif_pos hk]; exact (h k hk).choose_spec⟩
theorem m_wholeOf {K : Type} [Lean.Grind.CommRing K] {p n : Nat} {X : K} {co : K → Nat} {I : gI} {R : gR} {S : gS} {N w r : Nat} {t : Nat → K} (hR : RO K p n X co) (hM : MH p n X co I) (hw : w < 10) (hW : MW co I w r t) (hr : r ≤ 3) (hS92 : S[92]? = some (12, 16)) {mv : Nat → Nat → K} (h0 : ∀ k, k < 7 → mv 0 k = if k = 0 then 1 else 0) (hmv : ∀ s, 0 < s → s < 2 ^ n → ∀ k, k < 7 → mv s k = sm n (rcx (fun i j => dig p (co (ev p (r + 1) t (X ^ i))) j) mv s k)) (hN : 600 ≤ N) :
    ∃ y, f_X12_wholeOf N I R S (nI w) = some y ∧ ∃ J, ∃ v : Nat → Nat, y = (nI (enc p 7 v), J) ∧ Fs [92, 110, 111] I J ∧ ∀ k, k < 7 → v k < p ∧ nk (v k) = mv (2 ^ n - 1) k := by
  have hp := RO_p hR
  have hn1 := hR.2.1
  have hn6 := hR.2.2.1
  have h64 : (2 : Nat) ^ n ≤ 64 := Nat.pow_le_pow_right (by omega) hn6
  have h2n := Nat.pow_pos (n := n) (show 0 < 2 by omega)
  have hent : ∀ (i j : Nat), dig p (co (ev p (r + 1) t (X ^ i))) j < p := fun i j => dig_lt (by omega) _ _
  unfold f_X12_wholeOf
  refine iter_bE (fun J => Fs [92, 111] I J ∧ ∀ i j, i < n → j < n → J 111 (6 * i + j) = nI (dig p (co (ev p (r + 1) t (X ^ i))) j)) ?_ ?_
  · refine iter_wp (fun i s => ∃ J, s = (nI i, J) ∧ Fs [92, 111] I J ∧ ∀ l j, l < i → j < n → J 111 (6 * l + j) = nI (dig p (co (ev p (r + 1) t (X ^ l))) j)) _ n ⟨I, by rw [nI_0], Fs_refl _ _, fun l j hl => by omega⟩ ?_ (by omega)
    rintro i _ hi ⟨J, rfl, c1, c2⟩
    have hMJ := MH_fs hM c1 (by decide) (by decide) (by decide)
    have hWJ : MW co J w r t := MW_of hW (c1 101 (by decide)) (c1 102 (by decide))
    have q2 := hMJ.1
    have q3 := hMJ.2.1
    dsimp only
    simp only [q2, q3]
    by_cases hin : i = n
    · subst hin
      rw [gle_t (Nat.le_refl i) (by omega)]
      exact .inr ⟨J, rfl, c1, c2⟩
    refine .inl ?_
    obtain ⟨D, hD1, hD2⟩ := Ln_some (p := p) (a := co (ev p (r + 1) t (X ^ i))) (M := n) (RO_lt hR _)
    rw [gle_f (by omega) (by omega), m_power (by omega) (by omega), Option.bind_some, ← co_X hR (show i < n by omega), m_step hR hMJ hw hWJ hr _ (by omega), Option.bind_some, m_figures hp.1 hp.2 q2 (by decide) hS92 (co_31 hR _) hD2 (by omega) (by omega), Option.bind_some]
    dsimp only
    refine ex_inl (iter_wpe (fun j s => ∃ J', s = (nI j, J') ∧ Fs [111] (Aw J 92 16 (fun j => nI (dig p (co (ev p (r + 1) t (X ^ i))) j))) J' ∧ (∀ l, l < j → J' 111 (6 * i + l) = nI (dig p (co (ev p (r + 1) t (X ^ i))) l)) ∧ ∀ q, ¬ (6 * i ≤ q ∧ q < 6 * i + n) → J' 111 q = J 111 q) n ⟨_, by rw [nI_0], Fs_refl _ _, fun l hl => by omega, fun q _ => Aw_ne _ (by decide)⟩ ?_ (by omega))
    rintro j _ hj ⟨J', rfl, d1, d2, d3⟩
    have q3' : J' 91 3 = nI n := by rw [d1 91 (by decide), Aw_ne _ (by decide)]; exact q3
    dsimp only
    simp only [q3']
    by_cases hjn : j = n
    · subst hjn
      refine .inr ⟨J', gle_t (Nat.le_refl j) (by omega), _, rfl, _, rfl, by omega, J', by rw [nI_1], ?_, ?_⟩
      · refine c1.trans ((Fs_Aw (by decide)).trans (d1.mono (fun a ha => ?_)))
        simp only [List.mem_cons, List.mem_nil_iff, or_false] at ha ⊢
        exact .inr ha
      · intro l j' hl hj'
        by_cases e : l = i
        · rw [e]; exact d2 j' hj'
        · rw [d3 _ (by omega)]; exact c2 l j' (by omega) hj'
    · refine .inl ?_
      have e92 : J' 92 j = nI (dig p (co (ev p (r + 1) t (X ^ i))) j) := by rw [d1 92 (by decide), Aw_at (by omega)]
      rw [show (6 : Int32) = nI 6 from rfl, gle_f (by omega) (by omega), pk_mul, nI_add, nI_clamp (show j < _ by omega), gin2 (by omega) (by omega), nI_clamp (by omega), gin2 (by omega) (by omega), e92, nI_1]
      refine ⟨_, rfl, by omega, _, rfl, d1.trans (Fs_gU (by decide)), fun l hl => ?_, fun q hq => ?_⟩
      · by_cases e : l = j
        · rw [e, gU_at]
        · rw [gU_slot _ _ _ (by omega)]; exact d2 l (by omega)
      · rw [gU_slot _ _ _ (by omega)]; exact d3 q hq
  rintro J1 ⟨a1, a2⟩
  refine iter_bE (fun J => Fs [110] J1 J ∧ ∀ q, q < 448 → J 110 q = if q = 0 then 1 else 0) ?_ ?_
  · refine iter_wp (fun i s => ∃ J, s = (nI i, J) ∧ Fs [110] J1 J ∧ ∀ q, q < i → J 110 q = if q = 0 then 1 else 0) _ 448 ⟨J1, by rw [nI_0], Fs_refl _ _, fun q hq => by omega⟩ ?_ (by omega)
    rintro i _ hi ⟨J, rfl, c1, c2⟩
    dsimp only
    rw [show (448 : Int32) = nI 448 from rfl]
    by_cases hin : i = 448
    · subst hin
      rw [gle_t (Nat.le_refl _) (by omega)]
      exact .inr ⟨J, rfl, c1, c2⟩
    · refine .inl ?_
      rw [gle_f (by omega) (by omega), nI_clamp (by omega)]
      by_cases h0' : i = 0
      · rw [g0_t h0', gin2 (by omega) (by omega), nI_1]
        refine ⟨_, rfl, by omega, _, rfl, c1.trans (Fs_gU (by decide)), fun q hq => ?_⟩
        rw [show q = i by omega, gU_at, if_pos h0']
      · rw [g0_f (by omega) (by omega), gin2 (by omega) (by omega), nI_1]
        refine ⟨_, rfl, by omega, _, rfl, c1.trans (Fs_gU (by decide)), fun q hq => ?_⟩
        by_cases e : q = i
        · rw [e, gU_at, if_neg h0']
        · rw [gU_slot _ _ _ e]; exact c2 q (by omega)
  rintro J2 ⟨b1, b2⟩
  have k2 : J2 91 2 = nI p := by rw [b1 91 (by decide), a1 91 (by decide)]; exact hM.1
  have k3 : J2 91 3 = nI n := by rw [b1 91 (by decide), a1 91 (by decide)]; exact hM.2.1
  obtain ⟨g1, g2⟩ := bits_G hn6
  refine iter_bE (fun J => Fs [110] J2 J ∧ ∀ s k, s < 2 ^ n → k < 7 → Hd p J (7 * s + k) (mv s k)) ?_ ?_
  · refine iter_wp (fun i s => ∃ J, s = (nI (i + 1), J) ∧ Fs [110] J2 J ∧ (∀ s k, s < i + 1 → k < 7 → Hd p J (7 * s + k) (mv s k)) ∧ ∀ s k, i + 1 ≤ s → s < 64 → k < 7 → J 110 (7 * s + k) = 0) _ (2 ^ n - 1) ⟨J2, rfl, Fs_refl _ _, fun s k hs hk => ?_, fun s k hs h1 hk => by rw [b2 _ (by omega), if_neg (by omega)]⟩ ?_ (by omega)
    · rw [show s = 0 by omega, h0 k hk]
      by_cases e : k = 0
      · exact ⟨1, by omega, by rw [b2 _ (by omega), if_pos (by omega)]; rfl, by rw [if_pos e, nk_1]⟩
      · exact ⟨0, by omega, by rw [b2 _ (by omega), if_neg (by omega)]; exact nI_0.symm, by rw [if_neg e, nk_0]⟩
    rintro i _ hi ⟨J, rfl, c1, c2, c3⟩
    have q2 : J 91 2 = nI p := by rw [c1 91 (by decide)]; exact k2
    have q3 : J 91 3 = nI n := by rw [c1 91 (by decide)]; exact k3
    dsimp only
    simp only [q3, g1]
    by_cases hin : i = 2 ^ n - 1
    · rw [gle_t (show 2 ^ n ≤ i + 1 by omega) (by omega)]
      exact .inr ⟨J, rfl, c1, fun s k hs hk => c2 s k (by omega) hk⟩
    refine .inl ?_
    rw [gle_f (show i + 1 < 2 ^ n by omega) (by omega)]
    obtain ⟨v1, v2, v3, v4⟩ := g2 (i + 1) (by omega)
    refine ex_inl (iter_bE (fun x => x = nI (pcn (i + 1) 6 - 1)) ?_ ?_)
    · refine iter_wp (fun j s => s = (nI (pcn (i + 1) j) - 1, nI j)) _ n (by rw [nI_0]; rfl) ?_ (by omega)
      rintro j _ hj rfl
      dsimp only
      by_cases hjn : j = n
      · subst hjn
        refine .inr ⟨_, gle_t (Nat.le_refl j) (by omega), ?_⟩
        rw [v1 (by omega), dn1 _ (v2 (by omega))]
      · refine .inl ⟨_, gle_f (by omega) (by omega), by omega, ?_⟩
        rw [(bits_F (s := i + 1) (j := j) (by omega) (by omega)).1, sub1_add, nI_1]; rfl
    · rintro _ rfl
      obtain ⟨J', w1, w2, w3, w4⟩ := m_minor (N := N) hR (J := J) (set := i + 1) (ent := fun i j => dig p (co (ev p (r + 1) t (X ^ i))) j) (mv := mv) hent q2 q3 (fun i j hi hj => by rw [c1 111 (by decide), b1 111 (by decide)]; exact a2 i j hi hj) (by omega) (by omega) c2 (fun k hk => c3 _ k (Nat.le_refl _) (by omega) hk) (fun k hk => hmv _ (by omega) (by omega) k hk) hN
      refine ⟨Sum.inl (nI (i + 1) + 1, J'), ?_, _, rfl, by omega, J', by rw [nI_1], c1.trans w2, fun s k hs hk => ?_, fun s k hs h1 hk => ?_⟩
      · rw [w1]; rfl
      · by_cases e : s = i + 1
        · rw [e]; exact w3 k hk
        · obtain ⟨v, u1, u2, u3⟩ := c2 s k (by omega) hk
          exact ⟨v, u1, by rw [w4 _ (by omega)]; exact u2, u3⟩
      · rw [w4 _ (by omega)]; exact c3 s k (by omega) h1 hk
  rintro J3 ⟨c1, c2⟩
  have q2 : J3 91 2 = nI p := by rw [c1 91 (by decide)]; exact k2
  have q3 : J3 91 3 = nI n := by rw [c1 91 (by decide)]; exact k3
  obtain ⟨v, hv⟩ := ch7 (fun k hk => c2 (2 ^ n - 1) k (by omega) hk)
  rw [q2, q3, g1, dn1 _ h2n]
  refine iter_bE (fun x => x = nI (enc p 7 v)) ?_ ?_
  · refine iter_wp (fun a s => s = (nI (enc p a (fun i => v (7 - a + i))), nI (7 - a) - 1)) _ 7 (by rw [enc, nI_0]; rfl) ?_ (by omega)
    rintro a _ ha rfl
    dsimp only
    by_cases h7 : a = 7
    · subst h7
      refine .inr ⟨_, dn0, ?_⟩
      congr 1
    · refine .inl ?_
      have hk := (hv (6 - a) (by omega)).2.1
      rw [dn1 _ (by omega), gn_f (by omega), show (7 : Int32) = nI 7 from rfl, pk_mul, nI_add, nI_clamp (by omega), gin2 (by omega) (by omega), show 7 * (2 ^ n - 1) + (7 - a - 1) = 7 * (2 ^ n - 1) + (6 - a) by omega, hk, pk_mul, nI_add]
      refine ⟨_, rfl, by omega, ?_⟩
      rw [dn2, show 7 - (a + 1) = 7 - a - 1 by omega, enc_first, show v (7 - a - 1 + 0) = v (6 - a) from by congr 1; omega]
      congr 2
      rw [Nat.add_comm, Nat.mul_comm]
      congr 2
      exact enc_congr (fun i _ => by congr 1; omega)
  · rintro _ rfl
    refine ⟨_, rfl, J3, v, rfl, ?_, fun k hk => ⟨(hv k hk).1, (hv k hk).2.2⟩⟩
    refine (a1.mono (fun a ha => ?_)).trans ((b1.mono (fun a ha => ?_)).trans (c1.mono (fun a ha => ?_)))
    all_goals
      simp only [List.mem_cons, List.mem_nil_iff, or_false] at ha ⊢
      omega
/-! truncated polynomials over the field, as a ring -/
def lR (K : Type) [Lean.Grind.CommRing K] : Lean.Grind.CommRing (KT K 7) := kRing 7 (by decide) (fun _ => 0)
theorem lR_C {K : Type} [Lean.Grind.CommRing K] : @HM K (KT K 7) _ (lR K) (ktC 7 (by decide)) := by
  refine ⟨KT_ext fun k => ?_, KT_ext fun k => ?_, fun a b => KT_ext fun k => ?_, fun a b => KT_ext fun k => ?_⟩
  · show (if k = 0 then (0 : K) else 0) = (if k = 0 then nk 0 else 0)
    rw [nk_0]
  · show (if k = 0 then (1 : K) else 0) = (if k = 0 then nk 1 else 0)
    rw [nk_1]
  · show (if k = 0 then a + b else 0) = (if k = 0 then a else 0) + (if k = 0 then b else 0)
    split <;> grind
  · refine Eq.trans ?_ (ktC_M (by decide) (fun _ => 0) a (ktC 7 (by decide) b) k).symm
    show (if k = 0 then a * b else 0) = a * (if k = 0 then b else 0)
    split <;> grind
theorem lR_z {K : Type} [Lean.Grind.CommRing K] {p : Nat} (hz : nk (K := K) p = 0) : @nk (KT K 7) (lR K) p = @OfNat.ofNat (KT K 7) 0 ((lR K).ofNat 0) := by
  have h : @nk (KT K 7) (lR K) p = ktC 7 (by decide) (nk p) := c_nk (by decide) (fun _ => 0) p
  rw [h, hz]
  exact KT_ext fun k => by
    show (if k = 0 then (0 : K) else 0) = (if k = 0 then nk 0 else 0)
    rw [nk_0]
theorem lR_ne {K : Type} [Lean.Grind.CommRing K] (h : (1 : K) ≠ 0) : @OfNat.ofNat (KT K 7) 1 ((lR K).ofNat 1) ≠ @OfNat.ofNat (KT K 7) 0 ((lR K).ofNat 0) := fun e => by
  have e1 : (if (0 : Nat) = 0 then nk 1 else 0 : K) = (if (0 : Nat) = 0 then nk 0 else 0) := congrFun (congrArg Subtype.val e) 0
  rw [if_pos rfl, if_pos rfl, nk_0, nk_1] at e1
  exact h e1
end MWhole2
