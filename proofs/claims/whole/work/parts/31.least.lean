/-! the model: the least relation, found by trying all -/
section MLeast
theorem iter_wpe2 {σ ρ α β : Type} {b : σ → Option (σ ⊕ ρ)} {K : ρ → Option (α × β)} {v : α} {Q : β → Prop} (P : Nat → σ → Prop) (k : Nat) {N : Nat} {s : σ} (h0 : P 0 s) (hs : ∀ i s, i ≤ k → P i s → (∃ s', b s = some (.inl s') ∧ i < k ∧ P (i + 1) s') ∨ (∃ r, b s = some (.inr r) ∧ ∃ J, K r = some (v, J) ∧ Q J)) (hN : k < N) : ∃ J, (iter b N s).bind K = some (v, J) ∧ Q J := by
  obtain ⟨r, h1, h2⟩ := iter_wp P (fun r => ∃ J, K r = some (v, J) ∧ Q J) k h0 hs hN
  rw [h1]; exact h2
theorem m_power {I : gI} {R : gR} {S : gS} {N b e : Nat} (he : e < 2147483648) (hN : e < N) : f_X12_power N I R S (nI b) (nI e) = some (nI (b ^ e)) := by
  unfold f_X12_power
  refine iter_bind (fun i => (nI (b ^ i), nI i)) e (nI (b ^ e)) (by rw [Nat.pow_zero, nI_0]; rfl) ?_ ?_ hN rfl
  · intro i hi
    simp (disch := omega) only [gle_f, pk_mul, nI_1, ← Nat.pow_succ]
  · simp (disch := omega) only [gle_t]
theorem m_goOn {K : Type} [Lean.Grind.CommRing K] {p n : Nat} {X : K} {co : K → Nat} {I : gI} {R : gR} {S : gS} {N w r k : Nat} {t : Nat → K} (hR : RO K p n X co) (hM : MH p n X co I) (hw : w < 10) (hW : MW co I w r t) (hr : r ≤ 3) (hk : k < 6) (z : K) (hN : 60 ≤ N) :
    ∃ J, f_X12_goOn N I R S (nI w) (nI k) (nI (co z)) = some J ∧ Fs [109] I J ∧ (∀ e, e < 7 → J 109 (7 * k + e) = nI (co (itT p (r + 1) t e z))) ∧ ∀ j, (j < 7 * k ∨ 7 * k + 7 ≤ j) → J 109 j = I 109 j := by
  unfold f_X12_goOn
  rw [show (7 : Int32) = nI 7 from rfl]
  simp (disch := omega) only [pk_mul, nI_clamp, gin2]
  refine iter_wpe (fun i s => ∃ J, s = (nI (i + 1), J) ∧ Fs [109] I J ∧ (∀ e, e < i + 1 → J 109 (7 * k + e) = nI (co (itT p (r + 1) t e z))) ∧ ∀ j, (j < 7 * k ∨ 7 * k + 7 ≤ j) → J 109 j = I 109 j) 6 ⟨_, rfl, Fs_gU (by decide), ?_, ?_⟩ ?_ (by omega)
  · intro e he
    rw [show e = 0 by omega, Nat.add_zero, gU_at]; rfl
  · intro j hj
    rw [gU_slot _ _ _ (by omega)]
  · rintro i _ hi ⟨J, rfl, c1, c2, c3⟩
    by_cases h6 : i = 6
    · subst h6
      exact .inr ⟨J, by rw [if_pos]; exact nI_le (by omega) (by omega), J, rfl, c1, c2, c3⟩
    · refine .inl ?_
      have hMJ := MH_fs hM c1 (by decide) (by decide) (by decide)
      have hWJ : MW co J w r t := MW_of hW (c1 101 (by decide)) (c1 102 (by decide))
      have h2 := c2 i (by omega)
      dsimp only
      rw [show (1 : Int32) = nI 1 from rfl]
      simp (disch := omega) only [gle_f, nI_add, pk_sub, nI_clamp, gin2]
      rw [show 7 * k + (i + 1) - 1 = 7 * k + i by omega, h2, m_step hR hMJ hw hWJ hr _ (by omega), Option.bind_some]
      refine ⟨_, rfl, by omega, _, rfl, c1.trans (Fs_gU (by decide)), ?_, ?_⟩
      · intro e he
        by_cases h : e = i + 1
        · rw [h, gU_at]; rfl
        · rw [gU_slot _ _ _ (by omega)]; exact c2 e (by omega)
      · intro j hj
        rw [gU_slot _ _ _ (by omega)]; exact c3 j hj
theorem m_leastOf {K : Type} [Lean.Grind.CommRing K] {p n : Nat} {X : K} {co : K → Nat} {I : gI} {R : gR} {S : gS} {N M k : Nat} {Y : Nat → Nat → K} {c : Nat → Nat} (hR : RO K p n X co) (hM : MH p n X co I) (hS : S[92]? = some (12, 16)) (hM6 : M ≤ 6) (hL : Lr p n co Y M k c) (hk : k ≤ n) (hway : ∀ e m, e < 7 → m < M → I 109 (7 * m + e) = nI (co (Y e m))) (hN : 16000 ≤ N) :
    ∃ J, f_X12_leastOf N I R S (nI M) = some (nI (enc p k c + p ^ k), J) ∧ Fs [92] I J := by
  have hp := RO_p hR
  have hn1 := hR.2.1
  have hn6 := hR.2.2.1
  have hpk : ∀ i, i ≤ 6 → p ^ i ≤ 15625 := fun i hi => Nat.le_trans (Nat.pow_le_pow_left hp.2 i) (Nat.le_trans (Nat.pow_le_pow_right (by omega) hi) (by decide))
  have hck := enc_lt (p := p) (n := k) (f := c) (fun i _ => hL.1 i)
  -- the flag for one code
  have flag : ∀ (J : gI) (i x : Nat), Fs [92] I J → i ≤ 6 → (∀ e, e < 16 → J 92 e = nI (dig p x e)) → ∃ y, (iter (σ := Int32 × Int32) (ρ := Int32) (fun z7 => (if nI M ≤ z7.2 then some (.inr z7.1) else (if z7.1 = 0 then some (.inr z7.1) else if (((7 : Int32) * z7.2) + nI i) < 0 ∨ 42 ≤ (((7 : Int32) * z7.2) + nI i).toNatClampNeg then none else ((iter (σ := Int32 × Int32) (ρ := Int32) (fun z9 => (if nI i ≤ z9.2 then some (.inr z9.1) else if z9.2 < 0 ∨ 16 ≤ z9.2.toNatClampNeg then none else if (((7 : Int32) * z7.2) + z9.2) < 0 ∨ 42 ≤ (((7 : Int32) * z7.2) + z9.2).toNatClampNeg then none else ((f_X12_times N J R S (J 92 z9.2.toNatClampNeg) (J 109 (((7 : Int32) * z7.2) + z9.2).toNatClampNeg)).bind (fun z11 => ((f_X12_add N J R S z9.1 z11).bind (fun z12 => some (.inl (z12, z9.2 + 1)))))))) N (J 109 (((7 : Int32) * z7.2) + nI i).toNatClampNeg, (0 : Int32))).bind (fun r10 => (if r10 = 0 then some (.inl ((1 : Int32), z7.2 + 1)) else some (.inl ((0 : Int32), z7.2 + 1)))))))) N ((1 : Int32), (0 : Int32))) = some y ∧ ((y = 1 ∧ ∀ m, m < M → Y i m + sm i (fun j => nk (dig p x j) * Y j m) = 0) ∨ (y = 0 ∧ ¬ ∀ m, m < M → Y i m + sm i (fun j => nk (dig p x j) * Y j m) = 0)) := by
    intro J i x hJ hi h92
    have hMJ := MH_fs hM hJ (by decide) (by decide) (by decide)
    have hwJ : ∀ e m, e < 7 → m < M → J 109 (7 * m + e) = nI (co (Y e m)) := fun e m he hm => by rw [hJ 109 (by decide)]; exact hway e m he hm
    refine iter_wp (fun l s => (s = (1, nI l) ∧ ∀ m, m < l → Y i m + sm i (fun j => nk (dig p x j) * Y j m) = 0) ∨ (s = (0, nI l) ∧ ¬ ∀ m, m < M → Y i m + sm i (fun j => nk (dig p x j) * Y j m) = 0)) _ M (.inl ⟨by rw [nI_0], fun m hm => by omega⟩) ?_ (by omega)
    rintro l _ hl (⟨rfl, h⟩ | ⟨rfl, h⟩)
    · dsimp only
      by_cases hlM : l = M
      · subst hlM
        exact .inr ⟨1, if_pos (nI_le (Nat.le_refl _) (by omega)), .inl ⟨rfl, h⟩⟩
      · refine .inl ?_
        rw [gle_f (by omega) (by omega), if_neg (by decide), show (7 : Int32) = nI 7 from rfl, pk_mul, nI_add, nI_clamp (by omega), gin2 (by omega) (by omega), hwJ i l (by omega) (by omega)]
        have e1 : (iter (σ := Int32 × Int32) (ρ := Int32) (fun z9 => (if nI i ≤ z9.2 then some (.inr z9.1) else if z9.2 < 0 ∨ 16 ≤ z9.2.toNatClampNeg then none else if (nI (7 * l) + z9.2) < 0 ∨ 42 ≤ (nI (7 * l) + z9.2).toNatClampNeg then none else ((f_X12_times N J R S (J 92 z9.2.toNatClampNeg) (J 109 (nI (7 * l) + z9.2).toNatClampNeg)).bind (fun z11 => ((f_X12_add N J R S z9.1 z11).bind (fun z12 => some (.inl (z12, z9.2 + 1)))))))) N (nI (co (Y i l)), (0 : Int32))) = some (nI (co (Y i l + sm i (fun j => nk (dig p x j) * Y j l)))) := by
          refine iter_cnt (fun e => (nI (co (Y i l + sm e (fun j => nk (dig p x j) * Y j l))), nI e)) i ?_ ?_ ?_ (by omega)
          · rw [nI_0, sm_zero, show Y i l + 0 = Y i l by grind]
          · intro e he
            have hd := RO_nk hR (c := dig p x e) (dig_lt (by omega) _ _)
            simp (disch := omega) only [gle_f, nI_add, nI_clamp, gin2, h92, hwJ]
            rw [← hd, m_times hR hMJ, Option.bind_some, m_add hR hMJ.1 _ _ (by omega), Option.bind_some, nI_1, sm_succ]
            congr 5; grind
          · simp (disch := omega) only [gle_t]
        rw [e1, Option.bind_some, nI_1]
        by_cases hz : Y i l + sm i (fun j => nk (dig p x j) * Y j l) = 0
        · refine ⟨_, if_pos ((co0_iff hR _).mpr hz), by omega, .inl ⟨rfl, fun m hm => ?_⟩⟩
          by_cases e : m = l
          · rw [e]; exact hz
          · exact h m (by omega)
        · exact ⟨_, if_neg (fun z => hz ((co0_iff hR _).mp z)), by omega, .inr ⟨rfl, fun z => hz (z l (by omega))⟩⟩
    · refine .inr ⟨0, ?_, .inr ⟨rfl, h⟩⟩
      dsimp only
      split
      · rfl
      · rfl
  unfold f_X12_leastOf
  refine iter_wpe2 (fun i s => ∃ J, s = (nI i, J) ∧ Fs [92] I J ∧ i ≤ k) k ⟨I, by rw [nI_0], Fs_refl _ _, Nat.zero_le _⟩ ?_ (by omega)
  rintro i _ hi ⟨J, rfl, hJ, hik⟩
  have hMJ := MH_fs hM hJ (by decide) (by decide) (by decide)
  have q2 := hMJ.1
  have q3 := hMJ.2.1
  have hpi := hpk i (by omega)
  dsimp only
  simp only [q2, q3]
  rw [glt_f (by omega) (by omega), m_power (by omega) (by omega), Option.bind_some]
  by_cases hlt : i = k
  · subst hlt
    refine .inr ?_
    have key : ∃ y, (iter (σ := Int32 × gI) (ρ := (gI) ⊕ (Int32 × gI)) (fun z4 => (if nI (p ^ i) ≤ z4.1 then some (.inr (.inl z4.2)) else ((f_X12_figures N z4.2 R S z4.1 92).bind (fun z6 => ((iter (σ := Int32 × Int32) (ρ := Int32) (fun z7 => (if nI M ≤ z7.2 then some (.inr z7.1) else (if z7.1 = 0 then some (.inr z7.1) else if (((7 : Int32) * z7.2) + nI i) < 0 ∨ 42 ≤ (((7 : Int32) * z7.2) + nI i).toNatClampNeg then none else ((iter (σ := Int32 × Int32) (ρ := Int32) (fun z9 => (if nI i ≤ z9.2 then some (.inr z9.1) else if z9.2 < 0 ∨ 16 ≤ z9.2.toNatClampNeg then none else if (((7 : Int32) * z7.2) + z9.2) < 0 ∨ 42 ≤ (((7 : Int32) * z7.2) + z9.2).toNatClampNeg then none else ((f_X12_times N z6.2 R S (z6.2 92 z9.2.toNatClampNeg) (z6.2 109 (((7 : Int32) * z7.2) + z9.2).toNatClampNeg)).bind (fun z11 => ((f_X12_add N z6.2 R S z9.1 z11).bind (fun z12 => some (.inl (z12, z9.2 + 1)))))))) N (z6.2 109 (((7 : Int32) * z7.2) + nI i).toNatClampNeg, (0 : Int32))).bind (fun r10 => (if r10 = 0 then some (.inl ((1 : Int32), z7.2 + 1)) else some (.inl ((0 : Int32), z7.2 + 1)))))))) N ((1 : Int32), (0 : Int32))).bind (fun r8 => (if r8 = 0 then some (.inl (z4.1 + 1, z6.2)) else some (.inr (.inr (nI (p ^ i) + z4.1, z6.2)))))))))) N ((0 : Int32), J)) = some y ∧ ∃ J2, y = .inr (nI (enc p i c + p ^ i), J2) ∧ Fs [92] I J2 := by
      refine iter_wp (fun x s => ∃ J, s = (nI x, J) ∧ Fs [92] I J ∧ x ≤ enc p i c) _ (enc p i c) ⟨J, by rw [nI_0], hJ, by omega⟩ ?_ (by omega)
      rintro x _ hx ⟨J1, rfl, hJ1, hxc⟩
      obtain ⟨D, hD1, hD2⟩ := Ln_some (p := p) (a := x) (M := i) (by omega)
      dsimp only
      rw [gle_f (by omega) (by omega), m_figures hp.1 hp.2 (MH_fs hM hJ1 (by decide) (by decide) (by decide)).1 (by decide) hS (by omega) hD2 (by omega) (by omega), Option.bind_some]
      have hJ2 : Fs [92] I (Aw J1 92 16 (fun j => nI (dig p x j))) := hJ1.trans (Fs_Aw (by decide))
      obtain ⟨y, y1, y2⟩ := flag _ i x hJ2 (by omega) (fun e he => Aw_at he)
      rw [y1, Option.bind_some]
      rcases y2 with ⟨rfl, h⟩ | ⟨rfl, h⟩
      · refine .inr ⟨_, if_neg (by decide), _, ?_, hJ2⟩
        have h2 := Lr_uniq hR hL (fun j _ => dig_lt (by omega) x j) h
        have h3 : enc p i c = x := by
          rw [← enc_congr h2]; exact enc_dig (by omega)
        rw [nI_add, h3, Nat.add_comm]
      · refine .inl ⟨_, if_pos rfl, ?_, _, by rw [nI_1], hJ2, ?_⟩
        all_goals
          have hne : x ≠ enc p i c := fun e => h (fun m hm => by
            rw [← hL.2.1 m hm]
            congr 1
            refine sm_congr (fun j hj => ?_)
            rw [e, dig_enc (fun l _ => hL.1 l) hj])
          omega
    obtain ⟨y, k1, J2, k2, k3⟩ := key
    rw [k1, k2, Option.bind_some]
    exact ⟨_, rfl, J2, rfl, k3⟩
  · refine .inl ?_
    have key : ∃ y, (iter (σ := Int32 × gI) (ρ := (gI) ⊕ (Int32 × gI)) (fun z4 => (if nI (p ^ i) ≤ z4.1 then some (.inr (.inl z4.2)) else ((f_X12_figures N z4.2 R S z4.1 92).bind (fun z6 => ((iter (σ := Int32 × Int32) (ρ := Int32) (fun z7 => (if nI M ≤ z7.2 then some (.inr z7.1) else (if z7.1 = 0 then some (.inr z7.1) else if (((7 : Int32) * z7.2) + nI i) < 0 ∨ 42 ≤ (((7 : Int32) * z7.2) + nI i).toNatClampNeg then none else ((iter (σ := Int32 × Int32) (ρ := Int32) (fun z9 => (if nI i ≤ z9.2 then some (.inr z9.1) else if z9.2 < 0 ∨ 16 ≤ z9.2.toNatClampNeg then none else if (((7 : Int32) * z7.2) + z9.2) < 0 ∨ 42 ≤ (((7 : Int32) * z7.2) + z9.2).toNatClampNeg then none else ((f_X12_times N z6.2 R S (z6.2 92 z9.2.toNatClampNeg) (z6.2 109 (((7 : Int32) * z7.2) + z9.2).toNatClampNeg)).bind (fun z11 => ((f_X12_add N z6.2 R S z9.1 z11).bind (fun z12 => some (.inl (z12, z9.2 + 1)))))))) N (z6.2 109 (((7 : Int32) * z7.2) + nI i).toNatClampNeg, (0 : Int32))).bind (fun r10 => (if r10 = 0 then some (.inl ((1 : Int32), z7.2 + 1)) else some (.inl ((0 : Int32), z7.2 + 1)))))))) N ((1 : Int32), (0 : Int32))).bind (fun r8 => (if r8 = 0 then some (.inl (z4.1 + 1, z6.2)) else some (.inr (.inr (nI (p ^ i) + z4.1, z6.2)))))))))) N ((0 : Int32), J)) = some y ∧ ∃ J2, y = .inl J2 ∧ Fs [92] I J2 := by
      refine iter_wp (fun x s => ∃ J, s = (nI x, J) ∧ Fs [92] I J ∧ x ≤ p ^ i) _ (p ^ i) ⟨J, by rw [nI_0], hJ, by omega⟩ ?_ (by omega)
      rintro x _ hx ⟨J1, rfl, hJ1, hxc⟩
      dsimp only
      by_cases hxp : x = p ^ i
      · rw [gle_t (by omega) (by omega)]
        exact .inr ⟨_, rfl, J1, rfl, hJ1⟩
      · obtain ⟨D, hD1, hD2⟩ := Ln_some (p := p) (a := x) (M := i) (by omega)
        rw [gle_f (by omega) (by omega), m_figures hp.1 hp.2 (MH_fs hM hJ1 (by decide) (by decide) (by decide)).1 (by decide) hS (by omega) hD2 (by omega) (by omega), Option.bind_some]
        have hJ2 : Fs [92] I (Aw J1 92 16 (fun j => nI (dig p x j))) := hJ1.trans (Fs_Aw (by decide))
        obtain ⟨y, y1, y2⟩ := flag _ i x hJ2 (by omega) (fun e he => Aw_at he)
        rw [y1, Option.bind_some]
        rcases y2 with ⟨rfl, h⟩ | ⟨rfl, h⟩
        · exact absurd h (Lr_min (c := c) hR hL.2.2 (by omega) _)
        · exact .inl ⟨_, if_pos rfl, by omega, _, by rw [nI_1], hJ2, by omega⟩
    obtain ⟨y, k1, J2, k2, k3⟩ := key
    rw [k1, k2, Option.bind_some]
    exact ⟨_, rfl, by omega, J2, by rw [nI_1], k3, by omega⟩
end MLeast
