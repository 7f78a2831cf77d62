/-! the ring of codes: it is there -/
section Made
theorem c_sm {F : Type} [Lean.Grind.CommRing F] {n : Nat} (hn : 0 < n) (fo : Nat → F) (m : Nat) (g : Nat → KT F n) (k : Nat) : (@sm (KT F n) (kRing n hn fo) m g).1 k = sm m (fun i => (g i).1 k) := by
  induction m with
  | zero =>
    show (if k = 0 then nk 0 else 0) = (0 : F)
    rw [nk_0]; split <;> rfl
  | succ m ih =>
    show (@sm (KT F n) (kRing n hn fo) m g).1 k + (g m).1 k = _
    rw [ih]; rfl
theorem c_nk {F : Type} [Lean.Grind.CommRing F] {n : Nat} (hn : 0 < n) (fo : Nat → F) (c : Nat) : @nk (KT F n) (kRing n hn fo) c = ktC n hn (nk c) := by
  induction c with
  | zero => rfl
  | succ c ih =>
    refine KT_ext fun k => ?_
    show (@nk (KT F n) (kRing n hn fo) c).1 k + (if k = 0 then nk 1 else 0) = (if k = 0 then nk (c + 1) else 0)
    rw [ih]
    show (if k = 0 then nk c else 0) + (if k = 0 then nk 1 else 0) = (if k = 0 then nk (c + 1) else 0)
    split
    · rw [nk_1]; rfl
    · grind
def kXe {F : Type} [Lean.Grind.CommRing F] (n : Nat) (fo : Nat → F) : KT F n := ⟨kX n fo (kE 0), kX_in n fo _⟩
theorem c_pow {F : Type} [Lean.Grind.CommRing F] {n : Nat} (hn : 0 < n) (fo : Nat → F) (i : Nat) : ((kRing n hn fo).npow.hPow (kXe n fo) i).1 = kXi n fo i (kE 0) := by
  induction i with
  | zero =>
    funext k
    show (if k = 0 then 1 else 0) = (if k = 0 then 1 else (0 : F))
    rfl
  | succ i ih =>
    show kM n fo ((kRing n hn fo).npow.hPow (kXe n fo) i).1 (kX n fo (kE 0)) = kX n fo (kXi n fo i (kE 0))
    rw [ih, ← kM_X, kM_E fo (kXi_sup n fo i (f := kE 0) (fun i h => if_neg (by omega)))]
theorem nk_fin {p : Nat} [NeZero p] (c : Nat) : (nk (K := Fin p) c).val = c % p := by
  induction c with
  | zero => simp [nk]
  | succ c ih =>
    show (nk (K := Fin p) c + 1).val = _
    rw [Fin.val_add, ih, show (1 : Fin p).val = 1 % p from rfl]
    simp
theorem c_el {F : Type} [Lean.Grind.CommRing F] {n : Nat} (hn : 0 < n) (fo : Nat → F) (d : Nat → Nat) {k : Nat} (hk : k < n) : (@sm (KT F n) (kRing n hn fo) n (fun i => (kRing n hn fo).mul (@nk (KT F n) (kRing n hn fo) (d i)) ((kRing n hn fo).npow.hPow (kXe n fo) i))).1 k = nk (d k) := by
  rw [c_sm]
  have : ∀ i, ((kRing n hn fo).mul (@nk (KT F n) (kRing n hn fo) (d i)) ((kRing n hn fo).npow.hPow (kXe n fo) i)).1 k = nk (d i) * kXi n fo i (kE 0) k := by
    intro i
    rw [c_nk]
    show (ktM n fo (ktC n hn (nk (d i))) _).1 k = _
    rw [ktC_M, c_pow]
  rw [sm_one hk (fun i hi hne => by rw [this, kXi_E fo hi, kE, if_neg (Ne.symm hne)]; grind), this, kXi_E fo hk, kE, if_pos rfl]; grind
theorem ring_made (p n : Nat) (hp : 2 ≤ p) (hn : 1 ≤ n) (fo : Nat → Nat) : ∃ (K : Type) (_ : Lean.Grind.CommRing K) (X : K) (co : K → Nat), nk (K := K) p = 0 ∧ X ^ n = sm n (fun i => nk (fo i) * X ^ i) ∧ (∀ k, co k < p ^ n) ∧ (∀ k, sm n (fun i => nk (dig p (co k) i) * X ^ i) = k) ∧ (∀ a, a < p ^ n → co (sm n (fun i => nk (dig p a i) * X ^ i)) = a) := by
  haveI : NeZero p := ⟨by omega⟩
  have hn0 : 0 < n := hn
  refine ⟨KT (Fin p) n, kRing n hn0 (fun i => nk (fo i)), kXe n (fun i => nk (fo i)), fun k => enc p n (fun i => (k.1 i).val), ?_, ?_, ?_, ?_, ?_⟩
  · rw [c_nk]
    refine KT_ext fun k => ?_
    show (if k = 0 then nk p else 0) = (if k = 0 then nk 0 else (0 : Fin p))
    split
    · apply Fin.ext; rw [nk_fin, nk_fin]; simp
    · rfl
  · refine KT_ext fun k => ?_
    by_cases hk : k < n
    · refine Eq.trans ?_ (c_el hn0 (fun i => nk (fo i)) fo hk).symm
      refine Eq.trans (congrFun (c_pow hn0 (fun i => nk (fo i)) n) k) ?_
      obtain ⟨m, rfl⟩ : ∃ m, n = m + 1 := ⟨n - 1, by omega⟩
      rw [kXi, kXi_E _ (by omega)]
      unfold kX kE
      rw [if_pos hk, if_pos (show m + 1 - 1 = m by omega)]
      by_cases h0 : k = 0
      · rw [if_pos h0]; grind
      · rw [if_neg h0, if_neg (show ¬ k - 1 = m by omega)]; grind
    · have := fun (a : KT (Fin p) n) => a.2 k (by omega)
      rw [this, this]
  · intro k
    exact enc_lt (fun i _ => (k.1 i).isLt)
  · intro k
    refine KT_ext fun j => ?_
    by_cases hj : j < n
    · refine (c_el hn0 (fun i => nk (fo i)) _ hj).trans ?_
      apply Fin.ext
      rw [nk_fin, dig_enc (fun i _ => (k.1 i).isLt) hj]
      exact Nat.mod_eq_of_lt (k.1 j).isLt
    · have := fun (a : KT (Fin p) n) => a.2 j (by omega)
      rw [this, this]
  · intro a ha
    refine Eq.trans (enc_congr (g := dig p a) (fun i hi => ?_)) (enc_dig ha)
    refine (congrArg Fin.val (c_el hn0 (fun i => nk (fo i)) (dig p a) hi)).trans ?_
    rw [nk_fin]
    exact Nat.mod_eq_of_lt (dig_lt (by omega) _ _)
end Made
