/-! the model is made: its modulus -/
section MPrime
def dgc (p c : Nat) : Nat := if p ^ 3 ≤ c then 3 else if p ^ 2 ≤ c then 2 else 1
theorem dgc_Ln {p c : Nat} (hp : 2 ≤ p) (h1 : p ≤ c) (h4 : c < p ^ 4) : Ln p c (dgc p c + 1) ∧ 1 ≤ dgc p c ∧ dgc p c ≤ 3 := by
  unfold dgc
  by_cases h3 : p ^ 3 ≤ c
  · rw [if_pos h3]; exact ⟨⟨h4, fun _ => h3⟩, by omega, by omega⟩
  · rw [if_neg h3]
    by_cases h2 : p ^ 2 ≤ c
    · rw [if_pos h2]; exact ⟨⟨show c < p ^ 3 by omega, fun _ => h2⟩, by omega, by omega⟩
    · rw [if_neg h2]; exact ⟨⟨show c < p ^ 2 by omega, fun _ => by rw [show 1 + 1 - 1 = 1 by omega, Nat.pow_one]; exact h1⟩, by omega, by omega⟩
/-- c divides m -/
def dv (p n m c : Nat) : Bool := (dig p c (dgc p c) == 1) && (List.range (dgc p c)).all (fun k => rsI p (dig p c) (dgc p c) n (dig p m) (n + 1 - dgc p c) k == 0)
def prB (p n : Nat) : Bool := (List.range (mo p n - p ^ n)).all (fun i => (List.range (p ^ (n / 2 + 1))).any (fun c => decide (p ≤ c) && dv p n (p ^ n + i) c)) && (List.range (p ^ (n / 2 + 1))).all (fun c => decide (c < p) || !dv p n (mo p n) c)
theorem prB_ok {p n : Nat} (hp : p = 2 ∨ p = 3 ∨ p = 5) (h1 : 2 ≤ n) (h6 : n ≤ 6) : prB p n = true := by
  rcases hp with rfl | rfl | rfl <;> (rcases (show n = 2 ∨ n = 3 ∨ n = 4 ∨ n = 5 ∨ n = 6 by omega) with rfl | rfl | rfl | rfl | rfl) <;> decide +kernel
theorem m_isPrime {p n m : Nat} {I : gI} {R : gR} {S : gS} {N : Nat} (hp : 2 ≤ p) (hp5 : p ≤ 5) (hn2 : 2 ≤ n) (hn6 : n ≤ 6) (hm1 : p ^ n ≤ m) (hm2 : m < p ^ (n + 1)) (h2 : I 91 2 = nI p) (hS : ∀ q, 92 ≤ q → q ≤ 95 → S[q]? = some (12, 16)) (hN : 700 ≤ N) :
    ∃ y, f_X12_isPrime N I R S (nI m) (nI n) = some y ∧ ∃ v J, y = (v, J) ∧ Fs [92, 94] I J ∧ ((v = 0 ∧ ∃ c, p ≤ c ∧ c < p ^ (n / 2 + 1) ∧ dv p n m c = true) ∨ (v = 1 ∧ ∀ c, p ≤ c → c < p ^ (n / 2 + 1) → dv p n m c = false)) := by
  have hB4 : p ^ (n / 2 + 1) ≤ p ^ 4 := Nat.pow_le_pow_right (by omega) (by omega)
  have hB : p ^ 4 ≤ 625 := Nat.le_trans (Nat.pow_le_pow_left hp5 4) (by decide)
  have hBp : p ≤ p ^ (n / 2 + 1) := Nat.le_trans (by rw [Nat.pow_one]; exact Nat.le_refl p) (Nat.pow_le_pow_right (n := p) (i := 1) (by omega) (by omega))
  have hm31 : m < 2147483648 := Nat.lt_of_lt_of_le hm2 (Nat.le_trans (pow_le7 hp5 (by omega)) (by decide))
  unfold f_X12_isPrime
  rw [h2]
  refine iter_wpe (fun i s => ∃ J, s = (nI (p + i), J) ∧ Fs [92, 94] I J ∧ ∀ c, p ≤ c → c < p + i → dv p n m c = false) (p ^ (n / 2 + 1) - p) ⟨I, by rw [Nat.add_zero], Fs_refl _ _, fun c h1 h2 => by omega⟩ ?_ (by omega)
  rintro i _ hi ⟨J, rfl, d1, d2⟩
  have j2 : J 91 2 = nI p := by rw [d1 91 (by decide)]; exact h2
  dsimp only
  rw [if_neg (by decide), j2, show (2 : Int32) = nI 2 from rfl, pk_div (by omega) (by omega) (by omega), nI_1, m_power (by omega) (by omega), Option.bind_some]
  by_cases hie : i = p ^ (n / 2 + 1) - p
  · refine .inr ⟨_, gle_t (by omega) (by omega), _, rfl, 1, J, rfl, d1, .inr ⟨rfl, fun c h1 h2 => d2 c h1 (by omega)⟩⟩
  obtain ⟨c, hc⟩ : ∃ c, p + i = c := ⟨_, rfl⟩
  rw [hc]
  obtain ⟨l1, l2, l3⟩ := dgc_Ln hp (show p ≤ c by omega) (show c < p ^ 4 by omega)
  rw [gle_f (by omega) (by omega), m_figures hp hp5 j2 (by decide) (hS 94 (by omega) (by omega)) (by omega) l1 (by omega) (by omega), Option.bind_some]
  dsimp only
  rw [m_figures hp hp5 (by rw [Aw_ne _ (by decide)]; exact j2) (by decide) (hS 92 (by omega) (by omega)) hm31 (D := n + 1) ⟨hm2, fun _ => hm1⟩ (by omega) (by omega), Option.bind_some]
  dsimp only
  rw [dn1 _ (by omega), dn1 _ (by omega), Nat.add_sub_cancel, Nat.add_sub_cancel, show (1 : Int32) = nI 1 from rfl, glt_f (by omega) (by omega), nI_clamp (by omega), gin2 (by omega) (by omega)]
  obtain ⟨J1, hJ1⟩ : ∃ J1, J1 = Aw (Aw J 94 16 (fun j => nI (dig p c j))) 92 16 (fun j => nI (dig p m j)) := ⟨_, rfl⟩
  have q94 : ∀ k, k < 16 → J1 94 k = nI (dig p c k) := fun k hk => by rw [hJ1, Aw_ne _ (by decide), Aw_at hk]
  have q92 : ∀ k, k < 16 → J1 92 k = nI (dig p m k) := fun k hk => by rw [hJ1, Aw_at hk]
  have hJ1f : Fs [92, 94] I J1 := by rw [hJ1]; exact d1.trans ((Fs_Aw (by decide)).trans (Fs_Aw (by decide)))
  have q94d := q94 (dgc p c) (by omega)
  rw [← hJ1]
  simp only [q94d]
  have hdc := dig_lt (show 0 < p by omega) c (dgc p c)
  have next : dv p n m c = false → ∀ c', p ≤ c' → c' < p + (i + 1) → dv p n m c' = false := fun hf c' h1 h2 => by
    by_cases e : c' = c
    · rw [e]; exact hf
    · exact d2 c' h1 (by omega)
  by_cases h1 : dig p c (dgc p c) = 1
  · rw [geq_t h1]
    obtain ⟨J6, g1, g2, g3⟩ := m_restBy (N := N) (R := R) (S := S) (I := J1) (p := p) (D := n) (d := dgc p c) (a0 := 92) (a2 := 94) (f := dig p m) (g := dig p c) hp hp5 (by decide) (by decide) (by rw [hJ1f 91 (by decide)]; exact h2) (hS 92 (by omega) (by omega)) (hS 94 (by omega) (by omega)) q92 (fun k => dig_lt (by omega) _ _) q94 (fun k => dig_lt (by omega) _ _) l2 (by omega) (by omega) (by omega) (by omega)
    rw [g1, Option.bind_some]
    have hJ6 : Fs [92, 94] I J6 := hJ1f.trans (g2.mono (by decide))
    have hlt : ∀ k, rsI p (dig p c) (dgc p c) n (dig p m) (n + 1 - dgc p c) k < p := fun k => rsI_lt (by omega) (fun k => dig_lt (by omega) _ _) _ k
    have key : ∃ r, (iter (σ := Int32 × Int32) (ρ := Int32) (fun z7 => (if nI (dgc p c) ≤ z7.2 then some (.inr z7.1) else (if z7.1 = 0 then some (.inl ((0 : Int32), z7.2 + nI 1)) else if z7.2 < 0 ∨ 16 ≤ z7.2.toNatClampNeg then none else (if (J6 92 z7.2.toNatClampNeg) = 0 then some (.inl (nI 1, z7.2 + nI 1)) else some (.inl ((0 : Int32), z7.2 + nI 1)))))) N (nI 1, (0 : Int32))) = some r ∧ ((r = 1 ∧ ∀ l, l < dgc p c → rsI p (dig p c) (dgc p c) n (dig p m) (n + 1 - dgc p c) l = 0) ∨ (r = 0 ∧ ∃ l, l < dgc p c ∧ rsI p (dig p c) (dgc p c) n (dig p m) (n + 1 - dgc p c) l ≠ 0)) := by
      refine iter_wp (fun k s => (s = (1, nI k) ∧ ∀ l, l < k → rsI p (dig p c) (dgc p c) n (dig p m) (n + 1 - dgc p c) l = 0) ∨ (s = (0, nI k) ∧ ∃ l, l < k ∧ rsI p (dig p c) (dgc p c) n (dig p m) (n + 1 - dgc p c) l ≠ 0)) _ (dgc p c) (.inl ⟨by rw [nI_0]; rfl, fun l hl => by omega⟩) ?_ (by omega)
      rintro k _ hk (⟨rfl, a1⟩ | ⟨rfl, l, a1, a2⟩)
      · dsimp only
        by_cases hkd : k = dgc p c
        · rw [hkd, gle_t (Nat.le_refl _) (by omega)]
          exact .inr ⟨_, rfl, .inl ⟨rfl, fun l hl => a1 l (by omega)⟩⟩
        · refine .inl ?_
          have hb := hlt k
          rw [gle_f (by omega) (by omega), if_neg (by decide), nI_clamp (by omega), gin2 (by omega) (by omega), g3 k (by omega), nI_add]
          by_cases hz : rsI p (dig p c) (dgc p c) n (dig p m) (n + 1 - dgc p c) k = 0
          · rw [g0_t hz]
            refine ⟨_, rfl, by omega, .inl ⟨rfl, fun l hl => ?_⟩⟩
            by_cases e : l = k
            · rw [e]; exact hz
            · exact a1 l (by omega)
          · rw [g0_f (by omega) (by omega)]
            exact ⟨_, rfl, by omega, .inr ⟨rfl, k, by omega, hz⟩⟩
      · dsimp only
        by_cases hkd : k = dgc p c
        · rw [hkd, gle_t (Nat.le_refl _) (by omega)]
          exact .inr ⟨_, rfl, .inr ⟨rfl, l, by omega, a2⟩⟩
        · refine .inl ?_
          rw [gle_f (by omega) (by omega), if_pos rfl, nI_add]
          exact ⟨_, rfl, by omega, .inr ⟨rfl, l, by omega, a2⟩⟩
    obtain ⟨rr, k1, k2⟩ := key
    rw [k1, Option.bind_some]
    rcases k2 with ⟨rfl, k2⟩ | ⟨rfl, l, k2, k3⟩
    · have hdv : dv p n m c = true := by
        unfold dv
        rw [Bool.and_eq_true, List.all_eq_true]
        exact ⟨by rw [h1]; rfl, fun l hl => by rw [k2 l (List.mem_range.mp hl)]; rfl⟩
      refine .inr ⟨_, if_neg (by decide), _, rfl, 0, J6, rfl, hJ6, .inl ⟨rfl, c, by omega, by omega, hdv⟩⟩
    · have hdv : dv p n m c = false := by
        cases hq : dv p n m c with
        | false => rfl
        | true =>
          unfold dv at hq
          rw [Bool.and_eq_true, List.all_eq_true] at hq
          have := hq.2 l (List.mem_range.mpr k2)
          rw [beq_iff_eq] at this
          exact absurd this k3
      refine .inl ⟨_, if_pos rfl, by omega, J6, ?_, hJ6, next hdv⟩
      rw [nI_add, ← hc]; rfl
  · rw [geq_f h1 (by omega) (by omega), nI_add]
    have hdv : dv p n m c = false := by
      unfold dv
      rw [show (dig p c (dgc p c) == 1) = false from by simpa using h1]; rfl
    exact .inl ⟨_, rfl, by omega, J1, by rw [← hc]; rfl, hJ1f, next hdv⟩
theorem m_modulus {p n : Nat} {I : gI} {R : gR} {S : gS} {N : Nat} (hpp : p = 2 ∨ p = 3 ∨ p = 5) (hn1 : 1 ≤ n) (hn6 : n ≤ 6) (h2 : I 91 2 = nI p) (h3 : I 91 3 = nI n) (hS : ∀ q, 92 ≤ q → q ≤ 95 → S[q]? = some (12, 16)) (hN : 700 ≤ N) :
    ∃ r, (iter (σ := Int32 × gI) (ρ := Int32 × gI) (fun z28 => (if (z28.2 91 3) ≤ (1 : Int32) then some (.inr (z28.1, z28.2)) else ((f_X12_isPrime N z28.2 R S z28.1 (z28.2 91 3)).bind (fun z30 => (if z30.1 = 0 then some (.inl (z28.1 + 1, z30.2)) else some (.inr (z28.1, z30.2))))))) N (nI (p ^ n), I)) = some r ∧ ∃ J, r = (nI (mo p n), J) ∧ Fs [92, 94] I J := by
  have hp : 2 ≤ p ∧ p ≤ 5 := by omega
  obtain ⟨m1, m2, m3⟩ := mo_dig hpp hn1 hn6
  have hmp : mo p n - p ^ n ≤ 100 := by
    rcases hpp with rfl | rfl | rfl <;> (rcases (show n = 1 ∨ n = 2 ∨ n = 3 ∨ n = 4 ∨ n = 5 ∨ n = 6 by omega) with rfl | rfl | rfl | rfl | rfl | rfl) <;> decide
  refine iter_wp (fun i s => ∃ J, s = (nI (p ^ n + i), J) ∧ Fs [92, 94] I J) _ (mo p n - p ^ n) ⟨I, by rw [Nat.add_zero], Fs_refl _ _⟩ ?_ (by omega)
  rintro i _ hi ⟨J, rfl, d1⟩
  have j2 : J 91 2 = nI p := by rw [d1 91 (by decide)]; exact h2
  have j3 : J 91 3 = nI n := by rw [d1 91 (by decide)]; exact h3
  dsimp only
  simp only [j3]
  rw [show (1 : Int32) = nI 1 from rfl]
  by_cases hn : n = 1
  · rw [gle_t (by omega) (by omega)]
    refine .inr ⟨_, rfl, J, ?_, d1⟩
    have : p ^ n + i = mo p n := by
      subst hn
      have e : mo p 1 = p ^ 1 := by rcases hpp with rfl | rfl | rfl <;> decide
      omega
    rw [this]
  rw [gle_f (by omega) (by omega)]
  have hpr := prB_ok hpp (show 2 ≤ n by omega) hn6
  unfold prB at hpr
  rw [Bool.and_eq_true, List.all_eq_true, List.all_eq_true] at hpr
  obtain ⟨y, y1, v, J', rfl, y3, y4⟩ := m_isPrime (N := N) (R := R) (S := S) (I := J) (m := p ^ n + i) hp.1 hp.2 (show 2 ≤ n by omega) hn6 (by omega) (by omega) j2 hS hN
  rw [y1, Option.bind_some]
  dsimp only
  by_cases hie : i = mo p n - p ^ n
  · rcases y4 with ⟨rfl, c, c1, c2, c3⟩ | ⟨rfl, _⟩
    · have := hpr.2 c (List.mem_range.mpr c2)
      rw [Bool.or_eq_true, decide_eq_true_eq] at this
      rcases this with z | z
      · omega
      · rw [show p ^ n + i = mo p n by omega] at c3
        rw [c3] at z
        cases z
    · exact .inr ⟨_, if_neg (by decide), J', by rw [show p ^ n + i = mo p n by omega], d1.trans y3⟩
  · rcases y4 with ⟨rfl, _⟩ | ⟨rfl, hall⟩
    · exact .inl ⟨_, if_pos rfl, by omega, J', by rw [nI_add]; rfl, d1.trans y3⟩
    · have h9 := hpr.1 i (List.mem_range.mpr (by omega))
      rw [List.any_eq_true] at h9
      obtain ⟨c, c1, c2⟩ := h9
      rw [Bool.and_eq_true, decide_eq_true_eq] at c2
      have := hall c c2.1 (List.mem_range.mp c1)
      rw [this] at c2
      exact absurd c2.2 (by decide)
end MPrime
