/-! back: the way's length -/
section BackQ
theorem dig_own {p d : Nat} {c : Nat → Nat} (hp : 2 ≤ p) (hc : ∀ j, c j < p) : (∀ e, e < d → dig p (enc p d c + p ^ d) e = c e) ∧ dig p (enc p d c + p ^ d) d = 1 := by
  obtain ⟨m, hm⟩ : ∃ m : Nat → Nat, m = fun i => if i < d then c i else 1 := ⟨_, rfl⟩
  have hd : m d = 1 := by rw [hm]; exact if_neg (by omega)
  have hl : ∀ i, i < d → m i = c i := fun i hi => by rw [hm]; exact if_pos hi
  have hb : ∀ i, i < d + 1 → m i < p := fun i hi => by
    by_cases e : i < d
    · rw [hl i e]; exact hc i
    · rw [show i = d by omega, hd]; omega
  have he : enc p d c + p ^ d = enc p (d + 1) m := by rw [enc_top hd, enc_congr (f := m) (g := c) (fun i hi => hl i hi)]
  rw [he]
  exact ⟨fun e h => by rw [dig_enc hb (by omega), hl e h], by rw [dig_enc hb (by omega), hd]⟩
theorem bk_Y {K : Type} [Lean.Grind.CommRing K] {p n : Nat} {X : K} {co : K → Nat} (hR : RO K p n X co) {r l : Nat} {t u : Nat → K} (hV : WV r t) (hl1 : 1 ≤ l) (hul : u l ≠ 0) (hu0 : ∀ k, l < k → u k = 0) : ∃ Y : Nat → Nat → K, ∀ k, k ≤ 4 → ∃ q, Dv p l 24 u (tp p t k) q (Y k) := by
  have h : ∀ k, k ≤ 4 → ∃ q rm, Dv p l 24 u (tp p t k) q rm := fun k hk => Dv_ex hR hul hu0 24 (tp p t k) (fun j hj => tp_deg hR hV.2.2.2 k j (by
    have h1 := Nat.mul_le_mul hV.2.1 hk
    omega))
  refine ⟨fun k => if hk : k ≤ 4 then Classical.choose (Classical.choose_spec (h k hk)) else fun _ => 0, fun k hk => ⟨Classical.choose (h k hk), ?_⟩⟩
  dsimp only
  rw [dif_pos hk]
  exact Classical.choose_spec (Classical.choose_spec (h k hk))
theorem bk_top {K : Type} [Lean.Grind.CommRing K] {p n : Nat} {X : K} {co : K → Nat} (hR : RO K p n X co) {r l k : Nat} {t u q rm : Nat → K} {c : Nat → Nat} {Y : Nat → Nat → K} (hV : WV r t) (hul : u l ≠ 0) (hu0 : ∀ k, l < k → u k = 0) (hY : ∀ k, k ≤ 4 → ∃ q, Dv p l 24 u (tp p t k) q (Y k)) (hk1 : 1 ≤ k) (hk : k ≤ 4) (hL : Lr p n co Y l k c) (hD : Dv p l (r * k + 1 - l) u (ac p t (enc p k c + p ^ k) (k + 1)) q rm) : l ≤ r * k ∧ q (r * k - l) ≠ 0 := by
  have hp := RO_p hR
  obtain ⟨g1, g2⟩ := dig_own (d := k) hp.1 hL.1
  have hLn := Ln_own (d := k) hp.1 hL.1
  obtain ⟨cod, hcod⟩ : ∃ cod, cod = enc p k c + p ^ k := ⟨_, rfl⟩
  rw [← hcod] at g1 g2 hLn hD
  obtain ⟨a1, a2⟩ := ac_deg hR hV.2.2.2 hV.2.2.1 (by have := hV.1; omega) hLn
  have hQ : ∃ Q : Nat → Nat → K, ∀ e, e < k + 1 → Dv p l 24 u (tp p t e) (Q e) (Y e) := ⟨fun e => if he : e ≤ 4 then Classical.choose (hY e he) else fun _ => 0, fun e he => by
    dsimp only
    rw [dif_pos (show e ≤ 4 by omega)]
    exact Classical.choose_spec (hY e (by omega))⟩
  obtain ⟨Q, hQ⟩ := hQ
  have hS := Dv_sm (fun e => dig p cod e) hQ
  obtain ⟨_, hrm⟩ := Dv_uniq hR hul hu0 hD hS
  have hr0 : ∀ x, rm x = 0 := fun x => by
    by_cases e : x < l
    · rw [hrm]
      dsimp only
      rw [sm_succ, g2, nk_1, sm_congr (g := fun e => nk (c e) * Y e x) (fun i hi => by rw [g1 i hi])]
      have := hL.2.1 x e
      grind
    · exact hD.2.1 x (by omega)
  have hT := hD.1 (r * k)
  rw [hr0] at hT
  have hle : l ≤ r * k := by
    apply Classical.byContradiction
    intro hn
    refine a2 (hT.trans ?_)
    have : cmp p q u (r * k) = 0 := by
      unfold cmp
      refine sm_0 (fun i _ => ?_)
      rw [hD.2.2 i (by omega)]; grind
    rw [this]; grind
  refine ⟨hle, fun z => a2 (hT.trans ?_)⟩
  have := (cmp_deg hR (u := q) (v := u) (a := r * k - l) (b := l) (fun j hj => hD.2.2 j (by omega)) hu0).2
  rw [Nat.sub_add_cancel hle] at this
  rw [this, z]; grind
end BackQ
