/-! the model: WHOLE, by minors -/
section MWhole
theorem iter_bE {σ ρ τ : Type} {b : σ → Option (σ ⊕ ρ)} {K : ρ → Option τ} {Q : τ → Prop} {N : Nat} {s : σ} (P : ρ → Prop) (h1 : ∃ r, iter b N s = some r ∧ P r) (h2 : ∀ r, P r → ∃ y, K r = some y ∧ Q y) : ∃ y, (iter b N s).bind K = some y ∧ Q y := by
  obtain ⟨r, e, hr⟩ := h1
  rw [e]
  exact h2 r hr
theorem ex_inl {σ ρ : Type} {Z : Option (σ ⊕ ρ)} {Q : σ → Prop} (h : ∃ y, Z = some y ∧ ∃ s', y = Sum.inl s' ∧ Q s') : ∃ s', Z = some (Sum.inl s') ∧ Q s' := by
  obtain ⟨y, e, s', e2, hq⟩ := h
  exact ⟨s', by rw [e, e2], hq⟩
def ckF : Bool := (List.range 64).all (fun s => (List.range 6).all (fun j => decide ((nI s >>> (nI j &&& (31 : Int32))) &&& (1 : Int32) = nI (s / 2 ^ j % 2)) && (!bt s j || decide (nI s &&& (((1 : Int32) <<< (nI j &&& (31 : Int32))) ^^^ (-1 : Int32)) = nI (s - 2 ^ j)))))
def ckG : Bool := (List.range 7).all (fun n => decide ((1 : Int32) <<< (nI n &&& (31 : Int32)) = nI (2 ^ n)) && (List.range 64).all (fun s => decide (s < 2 ^ n → pcn s n = pcn s 6) && decide (0 < s → 0 < pcn s 6) && decide (pcn s 6 ≤ 6) && (List.range 6).all (fun j => decide ((pcn s 6 - pcn s (j + 1)) % 2 = if od s j then 1 else 0) && decide (pcn s (j + 1) ≤ pcn s 6) && decide (pcn s 6 - pcn s (j + 1) ≤ 6))))
theorem ckF_ok : ckF = true := by decide +kernel
theorem ckG_ok : ckG = true := by decide +kernel
theorem bits_F {s j : Nat} (hs : s < 64) (hj : j < 6) : (nI s >>> (nI j &&& (31 : Int32))) &&& (1 : Int32) = nI (s / 2 ^ j % 2) ∧ (bt s j = true → nI s &&& (((1 : Int32) <<< (nI j &&& (31 : Int32))) ^^^ (-1 : Int32)) = nI (s - 2 ^ j)) := by
  have h := List.all_eq_true.mp (List.all_eq_true.mp ckF_ok s (List.mem_range.mpr hs)) j (List.mem_range.mpr hj)
  simp only [Bool.and_eq_true, decide_eq_true_eq, Bool.or_eq_true, Bool.not_eq_true'] at h
  exact ⟨h.1, fun hb => h.2.resolve_left (by rw [hb]; decide)⟩
theorem bits_G {n : Nat} (hn : n ≤ 6) : (1 : Int32) <<< (nI n &&& (31 : Int32)) = nI (2 ^ n) ∧ ∀ s, s < 64 → (s < 2 ^ n → pcn s n = pcn s 6) ∧ (0 < s → 0 < pcn s 6) ∧ pcn s 6 ≤ 6 ∧ ∀ j, j < 6 → (pcn s 6 - pcn s (j + 1)) % 2 = (if od s j = true then 1 else 0) ∧ pcn s (j + 1) ≤ pcn s 6 ∧ pcn s 6 - pcn s (j + 1) ≤ 6 := by
  have h := List.all_eq_true.mp ckG_ok n (List.mem_range.mpr (by omega))
  simp only [Bool.and_eq_true, decide_eq_true_eq, List.all_eq_true, List.mem_range] at h
  refine ⟨h.1, fun s hs => ?_⟩
  obtain ⟨⟨⟨h1, h2⟩, h3⟩, h4⟩ := h.2 s hs
  exact ⟨h1, h2, h3, fun j hj => ⟨(h4 j hj).1.1, (h4 j hj).1.2, (h4 j hj).2⟩⟩
theorem sub1_add (a b : Nat) : nI a - 1 + nI b = nI (a + b) - 1 := by
  rw [← nI_add, Int32.sub_eq_add_neg, Int32.sub_eq_add_neg, Int32.add_assoc, Int32.add_assoc, Int32.add_comm (-1) (nI b)]
/-- what column j gives to a set's minor -/
def rcx {K : Type} [Lean.Grind.CommRing K] (ent : Nat → Nat → Nat) (mv : Nat → Nat → K) (s k j : Nat) : K := if bt s j = true then (if od s j = true then - ((if pcn s 6 - 1 = j ∧ 0 < k then mv (s - 2 ^ j) (k - 1) else 0) - nk (ent (pcn s 6 - 1) j) * mv (s - 2 ^ j) k) else ((if pcn s 6 - 1 = j ∧ 0 < k then mv (s - 2 ^ j) (k - 1) else 0) - nk (ent (pcn s 6 - 1) j) * mv (s - 2 ^ j) k)) else 0
/-- a number of the row of minors -/
def Hd {K : Type} [Lean.Grind.CommRing K] (p : Nat) (J : gI) (q : Nat) (x : K) : Prop := ∃ v, v < p ∧ J 110 q = nI v ∧ nk v = x
theorem m_minor {K : Type} [Lean.Grind.CommRing K] {p n : Nat} {X : K} {co : K → Nat} (hR : RO K p n X co) {J : gI} {N set : Nat} {ent : Nat → Nat → Nat} {mv : Nat → Nat → K} (hent : ∀ i j, ent i j < p) (h2 : J 91 2 = nI p) (h3 : J 91 3 = nI n) (h111 : ∀ i j, i < n → j < n → J 111 (6 * i + j) = nI (ent i j)) (hs0 : 0 < set) (hs : set < 2 ^ n) (hold : ∀ s k, s < set → k < 7 → Hd p J (7 * s + k) (mv s k)) (hnew : ∀ k, k < 7 → J 110 (7 * set + k) = 0) (hmv : ∀ k, k < 7 → mv set k = sm n (rcx ent mv set k)) (hN : 600 ≤ N) :
    ∃ J', (iter (σ := Int32 × Int32 × gI) (ρ := gI) (fun z14 => (if z14.2.1 < 0 then some (.inr z14.2.2) else (if ((nI set >>> (z14.2.1 &&& 31)) &&& (1 : Int32)) = (1 : Int32) then ((iter (σ := Int32 × gI) (ρ := gI) (fun z16 => (if (7 : Int32) ≤ z16.1 then some (.inr z16.2) else if (((6 : Int32) * nI (pcn set 6 - 1)) + z14.2.1) < 0 ∨ 36 ≤ (((6 : Int32) * nI (pcn set 6 - 1)) + z14.2.1).toNatClampNeg then none else if (((7 : Int32) * (nI set &&& (((1 : Int32) <<< (z14.2.1 &&& 31)) ^^^ (-1 : Int32)))) + z16.1) < 0 ∨ 448 ≤ (((7 : Int32) * (nI set &&& (((1 : Int32) <<< (z14.2.1 &&& 31)) ^^^ (-1 : Int32)))) + z16.1).toNatClampNeg then none else (((if nI (pcn set 6 - 1) = z14.2.1 then (if z16.1 ≤ 0 then some (0 : Int32) else if ((((7 : Int32) * (nI set &&& (((1 : Int32) <<< (z14.2.1 &&& 31)) ^^^ (-1 : Int32)))) + z16.1) - (1 : Int32)) < 0 ∨ 448 ≤ ((((7 : Int32) * (nI set &&& (((1 : Int32) <<< (z14.2.1 &&& 31)) ^^^ (-1 : Int32)))) + z16.1) - (1 : Int32)).toNatClampNeg then none else some (z16.2 110 ((((7 : Int32) * (nI set &&& (((1 : Int32) <<< (z14.2.1 &&& 31)) ^^^ (-1 : Int32)))) + z16.1) - (1 : Int32)).toNatClampNeg)) else some (0 : Int32)) : Option (Int32)).bind (fun z18 => if (((7 : Int32) * nI set) + z16.1) < 0 ∨ 448 ≤ (((7 : Int32) * nI set) + z16.1).toNatClampNeg then none else if (2 : Int32) = 0 then none else (if (z14.1 - z14.1 / (2 : Int32) * (2 : Int32)) = 0 then if (z16.2 91 2) = 0 then none else if (((7 : Int32) * nI set) + z16.1) < 0 ∨ 448 ≤ (((7 : Int32) * nI set) + z16.1).toNatClampNeg then none else some (.inl (z16.1 + 1, gU z16.2 110 (((7 : Int32) * nI set) + z16.1).toNatClampNeg (((z16.2 110 (((7 : Int32) * nI set) + z16.1).toNatClampNeg) + ((((z16.2 91 2) - (z16.2 111 (((6 : Int32) * nI (pcn set 6 - 1)) + z14.2.1).toNatClampNeg)) * (z16.2 110 (((7 : Int32) * (nI set &&& (((1 : Int32) <<< (z14.2.1 &&& 31)) ^^^ (-1 : Int32)))) + z16.1).toNatClampNeg)) + z18)) - ((z16.2 110 (((7 : Int32) * nI set) + z16.1).toNatClampNeg) + ((((z16.2 91 2) - (z16.2 111 (((6 : Int32) * nI (pcn set 6 - 1)) + z14.2.1).toNatClampNeg)) * (z16.2 110 (((7 : Int32) * (nI set &&& (((1 : Int32) <<< (z14.2.1 &&& 31)) ^^^ (-1 : Int32)))) + z16.1).toNatClampNeg)) + z18)) / (z16.2 91 2) * (z16.2 91 2)))) else if (z16.2 91 2) = 0 then none else if (((7 : Int32) * nI set) + z16.1) < 0 ∨ 448 ≤ (((7 : Int32) * nI set) + z16.1).toNatClampNeg then none else some (.inl (z16.1 + 1, gU z16.2 110 (((7 : Int32) * nI set) + z16.1).toNatClampNeg (((z16.2 110 (((7 : Int32) * nI set) + z16.1).toNatClampNeg) + (((z16.2 91 2) - (1 : Int32)) * ((((z16.2 91 2) - (z16.2 111 (((6 : Int32) * nI (pcn set 6 - 1)) + z14.2.1).toNatClampNeg)) * (z16.2 110 (((7 : Int32) * (nI set &&& (((1 : Int32) <<< (z14.2.1 &&& 31)) ^^^ (-1 : Int32)))) + z16.1).toNatClampNeg)) + z18))) - ((z16.2 110 (((7 : Int32) * nI set) + z16.1).toNatClampNeg) + (((z16.2 91 2) - (1 : Int32)) * ((((z16.2 91 2) - (z16.2 111 (((6 : Int32) * nI (pcn set 6 - 1)) + z14.2.1).toNatClampNeg)) * (z16.2 110 (((7 : Int32) * (nI set &&& (((1 : Int32) <<< (z14.2.1 &&& 31)) ^^^ (-1 : Int32)))) + z16.1).toNatClampNeg)) + z18))) / (z16.2 91 2) * (z16.2 91 2))))))))) N ((0 : Int32), z14.2.2)).bind (fun r17 => some (.inl (z14.1 + 1, z14.2.1 + (-1), r17)))) else some (.inl (z14.1, z14.2.1 + (-1), z14.2.2))))) N ((0 : Int32), nI n - (1 : Int32), J)) = some J' ∧ Fs [110] J J' ∧ (∀ k, k < 7 → Hd p J' (7 * set + k) (mv set k)) ∧ ∀ q, ¬ (7 * set ≤ q ∧ q < 7 * set + 7) → J' 110 q = J 110 q := by
  have hp := RO_p hR
  have hn1 := hR.2.1
  have hn6 := hR.2.2.1
  have h64 : (2 : Nat) ^ n ≤ 64 := Nat.pow_le_pow_right (by omega) hn6
  obtain ⟨g1, g2⟩ := bits_G hn6
  obtain ⟨g3, g4, g5, g6⟩ := g2 set (by omega)
  have hpn := g3 hs
  have hp0 := g4 hs0
  have hrow : ∀ i, pcn set i ≤ i := by
    intro i
    induction i with
    | zero => exact Nat.le_refl 0
    | succ i ih => have := Nat.mod_lt (set / 2 ^ i) (show 0 < 2 by omega); rw [pcn]; omega
  have hrown : pcn set 6 - 1 < n := by have := hrow n; omega
  refine iter_wp (fun a s => ∃ J', s = (nI (pcn set 6 - pcn set (n - a)), nI (n - a) - 1, J') ∧ Fs [110] J J' ∧ (∀ k, k < 7 → Hd p J' (7 * set + k) (sm a (fun b => rcx ent mv set k (n - 1 - b)))) ∧ ∀ q, ¬ (7 * set ≤ q ∧ q < 7 * set + 7) → J' 110 q = J 110 q) _ n ⟨J, ?_, Fs_refl _ _, fun k hk => ⟨0, by omega, by rw [hnew k hk, nI_0], by rw [sm_zero, nk_0]⟩, fun _ _ => rfl⟩ ?_ (by omega)
  · rw [Nat.sub_zero, hpn, Nat.sub_self, nI_0]
  rintro a _ ha ⟨J', rfl, c1, c2, c3⟩
  dsimp only
  by_cases han : a = n
  · subst han
    refine .inr ⟨J', ?_, c1, fun k hk => ?_, c3⟩
    · rw [Nat.sub_self]; exact dn0
    · have := c2 k hk
      rw [sm_rev] at this
      rw [hmv k hk]; exact this
  refine .inl ?_
  obtain ⟨j, hj⟩ : ∃ j, n - 1 - a = j := ⟨_, rfl⟩
  have hj6 : j < 6 := by omega
  have hjn : n - a = j + 1 := by omega
  obtain ⟨f1, f2⟩ := bits_F (s := set) (j := j) (by omega) hj6
  obtain ⟨m1, m2, m3⟩ := g6 j hj6
  rw [hjn, dn1 _ (by omega), Nat.add_sub_cancel, gn_f (by omega), f1]
  have hpc : pcn set (j + 1) = pcn set j + set / 2 ^ j % 2 := rfl
  have hna : n - (a + 1) = j := by omega
  have hsmS : ∀ k, sm (a + 1) (fun b => rcx ent mv set k (n - 1 - b)) = sm a (fun b => rcx ent mv set k (n - 1 - b)) + rcx ent mv set k j := fun k => by
    rw [sm_succ, hj]
  by_cases hb : bt set j = true
  · have hb1 : set / 2 ^ j % 2 = 1 := by unfold bt at hb; simpa using hb
    obtain ⟨n1, n2, n3, n4, n5⟩ := bits_B (show set < 64 by omega) hj6 hb
    have f2 := f2 hb
    rw [hb1, if_pos (show nI 1 = (1 : Int32) from rfl), f2]
    have hfr := Nat.pow_pos (n := j) (show 0 < 2 by omega)
    refine ex_inl (iter_wpe (fun k s => ∃ J2, s = (nI k, J2) ∧ Fs [110] J' J2 ∧ (∀ k', k' < 7 → Hd p J2 (7 * set + k') (sm a (fun b => rcx ent mv set k' (n - 1 - b)) + if k' < k then rcx ent mv set k' j else 0)) ∧ ∀ q, ¬ (7 * set ≤ q ∧ q < 7 * set + 7) → J2 110 q = J' 110 q) 7 ⟨J', by rw [nI_0], Fs_refl _ _, fun k' hk' => by rw [if_neg (by omega)]; obtain ⟨v, v1, v2, v3⟩ := c2 k' hk'; exact ⟨v, v1, v2, by rw [v3]; grind⟩, fun _ _ => rfl⟩ ?_ (by omega))
    rintro k _ hk ⟨J2, rfl, d1, d2, d3⟩
    have e2 : J2 91 2 = nI p := by rw [d1 91 (by decide), c1 91 (by decide)]; exact h2
    have e111 : J2 111 (6 * (pcn set 6 - 1) + j) = nI (ent (pcn set 6 - 1) j) := by rw [d1 111 (by decide), c1 111 (by decide)]; exact h111 _ _ hrown (by omega)
    dsimp only
    by_cases hk7 : k = 7
    · subst hk7
      refine .inr ⟨J2, if_pos (show (7 : Int32) ≤ nI 7 by decide), _, rfl, _, rfl, by omega, J2, ?_, c1.trans d1, fun k' hk' => ?_, fun q hq => by rw [d3 q hq]; exact c3 q hq⟩
      · rw [nI_1, dn2, hna]
        congr 2
        omega
      · have := d2 k' hk'
        rw [if_pos hk'] at this
        rw [hsmS]; exact this
    refine .inl ?_
    have hlo : 7 * (set - 2 ^ j) + k < 7 * set := by omega
    obtain ⟨mm, mm1, mm2, mm3⟩ := hold (set - 2 ^ j) k (by omega) (by omega)
    have em : J2 110 (7 * (set - 2 ^ j) + k) = nI mm := by rw [d3 _ (by omega), c3 _ (by omega)]; exact mm2
    obtain ⟨o, o1, o2, o3⟩ := d2 k (by omega)
    rw [if_neg (Nat.lt_irrefl k)] at o3
    have hz : ∃ z, z < p ∧ (nk z : K) = (if pcn set 6 - 1 = j ∧ 0 < k then mv (set - 2 ^ j) (k - 1) else 0) ∧ ((if nI (pcn set 6 - 1) = nI j then (if nI k ≤ 0 then some (0 : Int32) else if (nI (7 * (set - 2 ^ j) + k) - (1 : Int32)) < 0 ∨ 448 ≤ (nI (7 * (set - 2 ^ j) + k) - (1 : Int32)).toNatClampNeg then none else some (J2 110 (nI (7 * (set - 2 ^ j) + k) - (1 : Int32)).toNatClampNeg)) else some (0 : Int32)) : Option (Int32)) = some (nI z) := by
      by_cases q1 : pcn set 6 - 1 = j
      · rw [geq_t q1]
        by_cases q2 : k = 0
        · exact ⟨0, by omega, by rw [if_neg (by omega), nk_0], by rw [gle0_t q2, nI_0]⟩
        · obtain ⟨z, z1, z2, z3⟩ := hold (set - 2 ^ j) (k - 1) (by omega) (by omega)
          refine ⟨z, z1, by rw [if_pos ⟨q1, by omega⟩, z3], ?_⟩
          rw [gle0_f (by omega) (by omega), dn1 _ (by omega), nI_clamp (by omega), gin2 (by omega) (by omega), d3 _ (by omega), c3 _ (by omega), show 7 * (set - 2 ^ j) + k - 1 = 7 * (set - 2 ^ j) + (k - 1) by omega, z2]
      · exact ⟨0, by omega, by rw [if_neg (fun z => q1 z.1), nk_0], by rw [geq_f q1 (by omega) (by omega), nI_0]⟩
    obtain ⟨z, z1, z2, z3⟩ := hz
    have hE := hent (pcn set 6 - 1) j
    have hb1' : (p - ent (pcn set 6 - 1) j) * mm ≤ 25 := Nat.le_trans (Nat.mul_le_mul (show _ ≤ 5 by omega) (show _ ≤ 5 by omega)) (by omega)
    have hb2' : (p - 1) * ((p - ent (pcn set 6 - 1) j) * mm + z) ≤ 120 := Nat.le_trans (Nat.mul_le_mul (show _ ≤ 4 by omega) (show _ ≤ 30 by omega)) (by omega)
    rw [show (7 : Int32) = nI 7 from rfl, show (6 : Int32) = nI 6 from rfl, show (2 : Int32) = nI 2 from rfl]
    rw [gle_f (show k < 7 by omega) (by omega)]
    simp only [pk_mul, nI_add]
    rw [nI_clamp (show 6 * (pcn set 6 - 1) + j < _ by omega), gin2 (by omega) (by omega), nI_clamp (show 7 * (set - 2 ^ j) + k < _ by omega), gin2 (by omega) (by omega), z3, Option.bind_some, nI_clamp (show 7 * set + k < _ by omega), gin2 (by omega) (by omega), if_neg (show ¬ nI 2 = 0 by decide), pk_div (by omega) (by omega) (by omega), pk_mul, pk_rem2, m1]
    have hnkV : (nk ((p - ent (pcn set 6 - 1) j) * mm + z) : K) = (if pcn set 6 - 1 = j ∧ 0 < k then mv (set - 2 ^ j) (k - 1) else 0) - nk (ent (pcn set 6 - 1) j) * mv (set - 2 ^ j) k := by
      rw [nk_add, nk_mul, nk_fac (RO_z hR) (by omega), mm3, z2]; grind
    have hrx : rcx ent mv set k j = if od set j = true then - (nk ((p - ent (pcn set 6 - 1) j) * mm + z)) else nk ((p - ent (pcn set 6 - 1) j) * mm + z) := by
      unfold rcx
      rw [if_pos hb, hnkV]
    have fin : ∀ v, v < p → (nk v : K) = nk o + rcx ent mv set k j → ∃ J3, (nI k + 1, gU J2 110 (7 * set + k) (nI v)) = (nI (k + 1), J3) ∧ Fs [110] J' J3 ∧ (∀ k', k' < 7 → Hd p J3 (7 * set + k') (sm a (fun b => rcx ent mv set k' (n - 1 - b)) + if k' < k + 1 then rcx ent mv set k' j else 0)) ∧ ∀ q, ¬ (7 * set ≤ q ∧ q < 7 * set + 7) → J3 110 q = J' 110 q := fun v hv1 hv2 => by
      refine ⟨_, by rw [nI_1], d1.trans (Fs_gU (by decide)), fun k' hk' => ?_, fun q hq => by rw [gU_slot _ _ _ (by omega)]; exact d3 q hq⟩
      by_cases q1 : k' = k
      · subst q1
        refine ⟨v, hv1, gU_at _ _ _ _, ?_⟩
        rw [if_pos (by omega), hv2, o3]; grind
      · obtain ⟨u, u1, u2, u3⟩ := d2 k' hk'
        refine ⟨u, u1, by rw [gU_slot _ _ _ (by omega)]; exact u2, ?_⟩
        rw [u3]
        by_cases q2 : k' < k
        · rw [if_pos q2, if_pos (by omega)]
        · rw [if_neg q2, if_neg (by omega)]
    by_cases ho : od set j = true
    · rw [if_pos ho, if_neg (show ¬ nI 1 = 0 by decide), e2, gnz (by omega) (by omega), gin2 (by omega) (by omega), o2, e111, em, pk_sub (by omega), pk_mul, nI_add, dn1 _ (by omega), pk_mul, nI_add, pk_div (by omega) (by omega) (by omega), pk_mul, pk_rem2]
      rw [if_pos ho] at hrx
      obtain ⟨J3, w1, w2⟩ := fin ((o + (p - 1) * ((p - ent (pcn set 6 - 1) j) * mm + z)) % p) (Nat.mod_lt _ (by omega)) (by rw [nk_mod (RO_z hR), nk_add, nk_mul, nk_fac (RO_z hR) (by omega), nk_1, hrx]; grind)
      exact ⟨_, rfl, by omega, J3, w1, w2⟩
    · rw [if_neg ho, if_pos nI_0, e2, gnz (by omega) (by omega), gin2 (by omega) (by omega), o2, e111, em, pk_sub (by omega), pk_mul, nI_add, nI_add, pk_div (by omega) (by omega) (by omega), pk_mul, pk_rem2]
      rw [if_neg ho] at hrx
      obtain ⟨J3, w1, w2⟩ := fin ((o + ((p - ent (pcn set 6 - 1) j) * mm + z)) % p) (Nat.mod_lt _ (by omega)) (by rw [nk_mod (RO_z hR), nk_add, hrx])
      exact ⟨_, rfl, by omega, J3, w1, w2⟩
  · have hb0 : set / 2 ^ j % 2 = 0 := by
      have := Nat.mod_lt (set / 2 ^ j) (show 0 < 2 by omega)
      have h1 : ¬ set / 2 ^ j % 2 = 1 := fun z => hb (by unfold bt; simp [z])
      omega
    rw [hb0, if_neg (show ¬ nI 0 = (1 : Int32) by decide)]
    refine ⟨_, rfl, by omega, J', ?_, c1, fun k hk => ?_, c3⟩
    · rw [dn2, hna, hpc, hb0, Nat.add_zero]
    · rw [hsmS, show rcx ent mv set k j = 0 from if_neg hb]
      obtain ⟨v, v1, v2, v3⟩ := c2 k hk
      exact ⟨v, v1, v2, by rw [v3]; grind⟩
end MWhole
