/-! WHOLE: the blocks that build up the field, and the polynomial that closes them -/
section Blocks
def HM {K L : Type} [Lean.Grind.CommRing K] [Lean.Grind.CommRing L] (C : K → L) : Prop := C 0 = 0 ∧ C 1 = 1 ∧ (∀ a b, C (a + b) = C a + C b) ∧ ∀ a b, C (a * b) = C a * C b
theorem HM_nk {K L : Type} [Lean.Grind.CommRing K] [Lean.Grind.CommRing L] {C : K → L} (h : HM C) (c : Nat) : C (nk c) = nk c := by
  induction c with
  | zero => exact h.1
  | succ c ih => show C (nk c + 1) = nk c + 1; rw [h.2.2.1, ih, h.2.1]
theorem HM_sm {K L : Type} [Lean.Grind.CommRing K] [Lean.Grind.CommRing L] {C : K → L} (h : HM C) (m : Nat) (f : Nat → K) : C (sm m f) = sm m (fun i => C (f i)) := by
  induction m with
  | zero => exact h.1
  | succ m ih => rw [sm_succ, h.2.2.1, ih]; rfl
theorem HM_neg {K L : Type} [Lean.Grind.CommRing K] [Lean.Grind.CommRing L] {C : K → L} (h : HM C) (a : K) : C (- a) = - C a := by
  have h1 := h.2.2.1 a (- a)
  rw [show a + -a = 0 by grind, h.1] at h1
  grind
theorem itT_ad {K : Type} [Lean.Grind.CommRing K] (p M : Nat) (t : Nat → K) (a b : Nat) (z : K) : itT p M t (a + b) z = itT p M t a (itT p M t b z) := by
  induction a with
  | zero => rw [Nat.zero_add]; rfl
  | succ a ih => rw [show a + 1 + b = a + b + 1 by omega, itT, ih]; rfl
theorem itT_li {K : Type} [Lean.Grind.CommRing K] {p n : Nat} {X : K} {co : K → Nat} (hR : RO K p n X co) (M : Nat) (t : Nat → K) (e m : Nat) (c : Nat → Nat) (y : Nat → K) : itT p M t e (sm m (fun j => nk (c j) * y j)) = sm m (fun j => nk (c j) * itT p M t e (y j)) := by
  induction e with
  | zero => rfl
  | succ e ih => rw [itT, ih, ev_sm hR]; rfl
theorem itT_z {K : Type} [Lean.Grind.CommRing K] {p n : Nat} {X : K} {co : K → Nat} (hR : RO K p n X co) (M : Nat) (t : Nat → K) (e : Nat) : itT p M t e 0 = 0 := itT_li hR M t e 0 (fun _ => 0) (fun _ => 0)
theorem fa_it {K : Type} [Lean.Grind.CommRing K] {p n : Nat} {X : K} {co : K → Nat} (hR : RO K p n X co) (M : Nat) (t : Nat → K) (a D j : Nat) (z : K) : fa p M t a D (itT p M t j z) = itT p M t j (fa p M t a D z) := by
  unfold fa
  rw [itT_li hR]
  exact sm_congr (fun e _ => by rw [← itT_ad, ← itT_ad, Nat.add_comm])
def ns (f : Nat → Nat) : Nat → Nat
  | 0 => 0
  | n + 1 => ns f n + f n
theorem ns_nk {K : Type} [Lean.Grind.CommRing K] (f : Nat → Nat) (n : Nat) : (nk (ns f n) : K) = sm n (fun i => nk (f i)) := by
  induction n with
  | zero => rfl
  | succ n ih => rw [ns, nk_add, ih]; rfl
theorem ns_le {f : Nat → Nat} {B : Nat} (h : ∀ i, f i ≤ B) (n : Nat) : ns f n ≤ B * n := by
  induction n with
  | zero => rw [ns]; omega
  | succ n ih => have := h n; rw [ns, Nat.mul_succ]; omega
/-- number e of the product of two polynomials -/
def jn (p a b e : Nat) : Nat := ns (fun i => dig p a i * dig p b (e - i)) (e + 1)
def jo (p a b : Nat) : Nat := enc p 7 (fun e => jn p a b e % p)
theorem jo_lt {p : Nat} (hp : 0 < p) (a b : Nat) : jo p a b < p ^ 7 := enc_lt (fun i _ => Nat.mod_lt _ hp)
theorem jo_dig {p : Nat} (hp : 0 < p) (a b : Nat) {e : Nat} (he : e < 7) : dig p (jo p a b) e = jn p a b e % p := dig_enc (fun i _ => Nat.mod_lt _ hp) he
theorem jo_nk {K : Type} [Lean.Grind.CommRing K] {p : Nat} (hp : 0 < p) (hz : nk (K := K) p = 0) (a b : Nat) {e : Nat} (he : e < 7) : (nk (dig p (jo p a b) e) : K) = sm (e + 1) (fun i => nk (dig p a i) * nk (dig p b (e - i))) := by
  rw [jo_dig hp a b he, nk_mod hz]
  unfold jn
  rw [ns_nk]
  exact sm_congr (fun i _ => nk_mul _ _)
theorem conv7 {M : Type} [Lean.Grind.CommRing M] {p m k a b : Nat} (hp : 0 < p) (hz : nk (K := M) p = 0) (ha : ∀ e, m < e → e < 7 → dig p a e = 0) (hb : ∀ e, k < e → e < 7 → dig p b e = 0) (hmk : m + k ≤ 6) (E : Nat → M) : sm 7 (fun e => nk (dig p (jo p a b) e) * E e) = sm 7 (fun i => sm 7 (fun j => nk (dig p a i) * nk (dig p b j) * E (i + j))) := by
  have e1 : ∀ e, e < 7 → nk (dig p (jo p a b) e) * E e = sm (e + 1) (fun i => (fun i j => nk (dig p a i) * nk (dig p b j) * E (i + j)) i (e - i)) := fun e he => by
    rw [jo_nk hp hz a b he, ← sm_mulR]
    refine sm_congr (fun i hi => ?_)
    show _ = nk (dig p a i) * nk (dig p b (e - i)) * E (i + (e - i))
    rw [show i + (e - i) = e by omega]
  rw [sm_congr e1, sm_tri 6 (fun i j => nk (dig p a i) * nk (dig p b j) * E (i + j))]
  refine sm_congr (fun i hi => ?_)
  refine (sm_ext (by omega) (fun j h1 h2 => ?_)).symm
  by_cases h : m < i
  · rw [ha i h hi, nk_0]; grind
  · rw [hb j (by omega) h2, nk_0]; grind
theorem rel_dig {p k : Nat} (hp : 2 ≤ p) (hk : k ≤ 6) {c : Nat → Nat} (hc : ∀ j, c j < p) {e : Nat} (he : e < 7) : dig p (enc p k c + p ^ k) e = if e < k then c e else if e = k then 1 else 0 := by
  have h1 : ∀ j, (if j < k then c j else if j = k then 1 else 0) < p := fun j => by
    split
    · exact hc j
    · split <;> omega
  have h2 : enc p 7 (fun j => if j < k then c j else if j = k then 1 else 0) = enc p k c + p ^ k := by
    rw [enc_ext (i := k + 1) (by omega) (fun j h1 _ => by rw [if_neg (by omega), if_neg (by omega)]), enc, if_neg (Nat.lt_irrefl k), if_pos rfl, Nat.one_mul]
    congr 1
    exact enc_congr (fun i hi => if_pos hi)
  rw [← h2]
  exact dig_enc (f := fun j => if j < k then c j else if j = k then 1 else 0) (fun i _ => h1 i) he
theorem rel_ev {M : Type} [Lean.Grind.CommRing M] {p k : Nat} (hp : 2 ≤ p) (hk : k ≤ 6) {c : Nat → Nat} (hc : ∀ j, c j < p) (E : Nat → M) : sm 7 (fun e => nk (dig p (enc p k c + p ^ k) e) * E e) = E k + sm k (fun j => nk (c j) * E j) := by
  rw [sm_ext (n := k + 1) (by omega) (fun i h1 h2 => by rw [rel_dig hp hk hc h2, if_neg (by omega), if_neg (by omega), nk_0]; grind), sm_succ, rel_dig hp hk hc (by omega), if_neg (Nat.lt_irrefl k), if_pos rfl, nk_1]
  have e : ∀ j, j < k → nk (dig p (enc p k c + p ^ k) j) * E j = nk (c j) * E j := fun j hj => by rw [rel_dig hp hk hc (by omega), if_pos hj]
  rw [sm_congr e]; grind
/-- an element whose figures are a sum of multiples of those of the first m of y -/
def InE {K : Type} [Lean.Grind.CommRing K] (p n : Nat) (co : K → Nat) (y : Nat → K) (m : Nat) (u : K) : Prop := ∃ d : Nat → K, ∀ i, i < n → dk p co i u = sm m (fun l => d l * dk p co i (y l))
theorem dk_lin {K : Type} [Lean.Grind.CommRing K] {p n : Nat} {X : K} {co : K → Nat} (hR : RO K p n X co) {Lm : K → K} (hL : ∀ c : Nat → Nat, Lm (sm n (fun j => nk (c j) * X ^ j)) = sm n (fun j => nk (c j) * Lm (X ^ j))) (u : K) {i : Nat} (hi : i < n) : dk p co i (Lm u) = sm n (fun j => dk p co j u * dk p co i (Lm (X ^ j))) := by
  have h1 : Lm u = sm n (fun j => nk (dig p (co u) j) * Lm (X ^ j)) := by
    rw [← hL]
    show _ = Lm (el p n X (co u))
    rw [RO_el hR]
  rw [h1, dk_sm hR hi]
  rfl
theorem InE_map {K : Type} [Lean.Grind.CommRing K] {p n : Nat} {X : K} {co : K → Nat} (hR : RO K p n X co) {Lm : K → K} (hL : ∀ c : Nat → Nat, Lm (sm n (fun j => nk (c j) * X ^ j)) = sm n (fun j => nk (c j) * Lm (X ^ j))) {y : Nat → K} {m : Nat} {u : K} (h : InE p n co y m u) (h0 : ∀ l, l < m → Lm (y l) = 0) : Lm u = 0 := by
  obtain ⟨d, hd⟩ := h
  refine dk_all hR (fun i hi => ?_)
  rw [dk_lin hR hL u hi]
  have e1 : ∀ j, j < n → dk p co j u * dk p co i (Lm (X ^ j)) = sm m (fun l => d l * (dk p co j (y l) * dk p co i (Lm (X ^ j)))) := fun j hj => by
    rw [hd j hj, ← sm_mulR]
    exact sm_congr (fun l _ => by grind)
  rw [sm_congr e1, sm_comm]
  refine sm_0 (fun l hl => ?_)
  rw [sm_mulL, ← dk_lin hR hL (y l) hi, h0 l hl, dk_0 hR]; grind
theorem fa_li {K : Type} [Lean.Grind.CommRing K] {p n : Nat} {X : K} {co : K → Nat} (hR : RO K p n X co) (M : Nat) (t : Nat → K) (a D : Nat) (c : Nat → Nat) : fa p M t a D (sm n (fun j => nk (c j) * X ^ j)) = sm n (fun j => nk (c j) * fa p M t a D (X ^ j)) := fa_lin hR M t a D n c (fun j => X ^ j)
theorem fa_jo {K : Type} [Lean.Grind.CommRing K] {p n : Nat} {X : K} {co : K → Nat} (hR : RO K p n X co) (M : Nat) (t : Nat → K) {m k a b : Nat} (ha : ∀ e, m < e → e < 7 → dig p a e = 0) (hb : ∀ e, k < e → e < 7 → dig p b e = 0) (hmk : m + k ≤ 6) (z : K) : fa p M t (jo p a b) 7 z = fa p M t a 7 (fa p M t b 7 z) := by
  have hp := RO_p hR
  unfold fa
  rw [conv7 (by omega) (RO_z hR) ha hb hmk (fun e => itT p M t e z)]
  refine sm_congr (fun i _ => ?_)
  rw [itT_li hR, ← sm_mulL]
  exact sm_congr (fun j _ => by rw [itT_ad]; grind)
/-- the matrix of tau less T -/
def phm {K L : Type} [Lean.Grind.CommRing K] [Lean.Grind.CommRing L] (C : K → L) (p : Nat) (co : K → Nat) (X : K) (M : Nat) (t : Nat → K) (tau : L) (j l : Nat) : L := (if l = j then tau else 0) - C (dk p co l (ev p M t (X ^ j)))
theorem phm_ok {K L : Type} [Lean.Grind.CommRing K] [Lean.Grind.CommRing L] {C : K → L} (hC : HM C) {p n : Nat} {X : K} {co : K → Nat} (hR : RO K p n X co) (M : Nat) (t : Nat → K) (tau : L) (z : K) {l : Nat} (hl : l < n) : sm n (fun j => C (dk p co j z) * phm C p co X M t tau j l) = tau * C (dk p co l z) - C (dk p co l (ev p M t z)) := by
  rw [dk_lin hR (Lm := ev p M t) (fun c => ev_sm hR M t n c (fun j => X ^ j)) z hl, HM_sm hC]
  have e : ∀ j, j < n → C (dk p co j z) * phm C p co X M t tau j l = C (dk p co j z) * (if l = j then tau else 0) - C (dk p co j z * dk p co l (ev p M t (X ^ j))) := fun j _ => by
    unfold phm
    rw [hC.2.2.2]; grind
  rw [sm_congr e, sm_sub, sm_one (k := l) hl (fun j _ hj => by rw [if_neg (Ne.symm hj)]; grind), if_pos rfl]; grind
/-- what stands once the first i powers of x have been led on -/
def WBI {K L : Type} [Lean.Grind.CommRing K] [Lean.Grind.CommRing L] (C : K → L) (p n : Nat) (X : K) (co : K → Nat) (M : Nat) (t : Nat → K) (tau : L) (i m : Nat) (y : Nat → K) (W : Nat) : Prop := m ≤ n ∧ W < p ^ 7 ∧ dig p W m = 1 ∧ (∀ e, m < e → e < 7 → dig p W e = 0) ∧ (∀ l, l < m → fa p M t W 7 (y l) = 0) ∧ (∀ x, wp n (fun a l => sm n (fun j => C (dk p co j (y a)) * phm C p co X M t tau j l)) m x = sm 7 (fun e => nk (dig p W e) * tau ^ e) * wp n (fun a j => C (dk p co j (y a))) m x) ∧ ∀ l, l < i → InE p n co y m (X ^ l)
theorem WBI_0 {K L : Type} [Lean.Grind.CommRing K] [Lean.Grind.CommRing L] (C : K → L) {p n : Nat} {X : K} {co : K → Nat} (hR : RO K p n X co) (M : Nat) (t : Nat → K) (tau : L) : WBI C p n X co M t tau 0 0 (fun _ => 0) 1 := by
  have hp := RO_p hR
  have hd : ∀ e, dig p 1 e = if e = 0 then 1 else 0 := fun e => dig_small (by omega) e
  refine ⟨by omega, Nat.one_lt_pow (by omega) (by omega), by rw [hd, if_pos rfl], fun e he _ => by rw [hd, if_neg (by omega)], fun l hl => by omega, fun x => ?_, fun l hl => by omega⟩
  rw [sm_one (k := 0) (by omega) (fun e _ he => by rw [hd, if_neg he, nk_0]; grind), hd, if_pos rfl, nk_1, Lean.Grind.Semiring.pow_zero]
  show wp n _ 0 x = 1 * 1 * wp n _ 0 x
  show (if x = 0 then 1 else 0 : L) = 1 * 1 * (if x = 0 then 1 else 0)
  split <;> grind
theorem WBI_S {K L : Type} [Lean.Grind.CommRing K] [Lean.Grind.CommRing L] {C : K → L} (hC : HM C) {p n : Nat} {X : K} {co : K → Nat} (hR : RO K p n X co) {M : Nat} {t : Nat → K} {tau : L} (hzL : nk (K := L) p = 0) {i m k W : Nat} {y : Nat → K} (h : WBI C p n X co M t tau i m y W) (hk : m + k ≤ n) {c : Nat → Nat} (hc : ∀ j, c j < p) (hZ : InE p n co y m (itT p M t k (X ^ i) + sm k (fun j => nk (c j) * itT p M t j (X ^ i)))) : WBI C p n X co M t tau (i + 1) (m + k) (fun l => if l < m then y l else itT p M t (l - m) (X ^ i)) (jo p W (enc p k c + p ^ k)) := by
  have hp := RO_p hR
  have hn6 := hR.2.2.1
  obtain ⟨h1, h2, h3, h4, h5, h6, h7⟩ := h
  have hrd : ∀ e, k < e → e < 7 → dig p (enc p k c + p ^ k) e = 0 := fun e h1 h2 => by rw [rel_dig hp.1 (by omega) hc h2, if_neg (by omega), if_neg (by omega)]
  obtain ⟨y', hy'⟩ : ∃ y' : Nat → K, y' = fun l => if l < m then y l else itT p M t (l - m) (X ^ i) := ⟨_, rfl⟩
  rw [← hy']
  have hyo : ∀ l, l < m → y' l = y l := fun l hl => by rw [hy']; exact if_pos hl
  have hyn : ∀ j, y' (m + j) = itT p M t j (X ^ i) := fun j => by
    rw [hy']
    show (if m + j < m then y (m + j) else itT p M t (m + j - m) (X ^ i)) = _
    rw [if_neg (by omega), Nat.add_sub_cancel_left]
  have hfz : fa p M t (enc p k c + p ^ k) 7 (X ^ i) = itT p M t k (X ^ i) + sm k (fun j => nk (c j) * itT p M t j (X ^ i)) := rel_ev hp.1 (by omega) hc (fun e => itT p M t e (X ^ i))
  have hW0 : fa p M t (jo p W (enc p k c + p ^ k)) 7 (X ^ i) = 0 := by
    rw [fa_jo hR M t h4 hrd (by omega), hfz]
    exact InE_map hR (fun c => fa_li hR M t W 7 c) hZ h5
  obtain ⟨d, hd⟩ := hZ
  refine ⟨hk, jo_lt (by omega) _ _, ?_, ?_, ?_, ?_, ?_⟩
  · rw [jo_dig (by omega) _ _ (by omega)]
    have hj := jo_nk (K := K) (show 0 < p by omega) (RO_z hR) W (enc p k c + p ^ k) (show m + k < 7 by omega)
    rw [sm_one (k := m) (by omega) (fun e he hne => by
      by_cases e1 : m < e
      · rw [h4 e e1 (by omega), nk_0]; grind
      · rw [hrd (m + k - e) (by omega) (by omega), nk_0]; grind), h3, Nat.add_sub_cancel_left, rel_dig hp.1 (by omega) hc (by omega), if_neg (Nat.lt_irrefl k), if_pos rfl, nk_1, jo_dig (by omega) _ _ (by omega)] at hj
    refine nk_inj hR (Nat.mod_lt _ (by omega)) (by omega) ?_
    rw [hj, nk_1]; grind
  · intro e he1 he2
    have hj := jo_nk (K := K) (show 0 < p by omega) (RO_z hR) W (enc p k c + p ^ k) he2
    rw [sm_0 (fun a ha => by
      by_cases e1 : m < a
      · rw [h4 a e1 (by omega), nk_0]; grind
      · rw [hrd (e - a) (by omega) (by omega), nk_0]; grind)] at hj
    exact nk_inj hR (dig_lt (by omega) _ _) (by omega) (by rw [hj, nk_0])
  · intro l hl
    by_cases e : l < m
    · rw [hyo l e, fa_jo hR M t h4 hrd (by omega)]
      have h8 := h5 l e
      show fa p M t W 7 (sm 7 (fun e => nk (dig p (enc p k c + p ^ k) e) * itT p M t e (y l))) = 0
      rw [fa_lin hR]
      exact sm_0 (fun e _ => by rw [fa_it hR, h8, itT_z hR]; grind)
    · obtain ⟨j, rfl⟩ : ∃ j, l = m + j := ⟨l - m, by omega⟩
      rw [hyn, fa_it hR, hW0, itT_z hR]
  · intro x
    have hb := blk (L := L) (n := n) (k := k) (s := m) hn6 (F := fun a l => sm n (fun j => C (dk p co j (y' a)) * phm C p co X M t tau j l)) (B := fun a j => C (dk p co j (y' a))) (tau := tau) (g := sm 7 (fun e => nk (dig p W e) * tau ^ e)) (c := fun j => nk (c j)) (d := fun l => C (d l)) ?_ ?_ ?_ x
    · rw [hb, conv7 (by omega) hzL h4 hrd (by omega : m + k ≤ 6) (fun e => tau ^ e)]
      have e1 : ∀ a, a < 7 → sm 7 (fun b => nk (dig p W a) * nk (dig p (enc p k c + p ^ k) b) * tau ^ (a + b)) = nk (dig p W a) * tau ^ a * sm 7 (fun b => nk (dig p (enc p k c + p ^ k) b) * tau ^ b) := fun a _ => by
        rw [← sm_mulL]
        exact sm_congr (fun b _ => by rw [Lean.Grind.Semiring.pow_add]; grind)
      rw [sm_congr e1, sm_mulR, rel_ev hp.1 (by omega) hc (fun e => tau ^ e)]
    · intro j hj l hl
      show sm n (fun j' => C (dk p co j' (y' (m + j))) * phm C p co X M t tau j' l) = tau * C (dk p co l (y' (m + j))) - C (dk p co l (y' (m + j + 1)))
      rw [phm_ok hC hR M t tau _ hl, Nat.add_assoc, hyn, hyn]; rfl
    · intro hk0 l hl
      show sm n (fun j' => C (dk p co j' (y' (m + (k - 1)))) * phm C p co X M t tau j' l) = tau * C (dk p co l (y' (m + (k - 1)))) + sm k (fun j => nk (c j) * C (dk p co l (y' (m + j)))) - sm m (fun a => C (d a) * C (dk p co l (y' a)))
      rw [phm_ok hC hR M t tau _ hl, hyn]
      have e1 : ev p M t (itT p M t (k - 1) (X ^ i)) = itT p M t k (X ^ i) := by
        rw [show k = k - 1 + 1 by omega, itT, Nat.add_sub_cancel]
      have e2 := hd l hl
      rw [dk_add hR hl, dk_sm hR hl] at e2
      have e3 := congrArg C e2
      rw [hC.2.2.1, HM_sm hC, HM_sm hC] at e3
      have e4 : ∀ j, j < k → nk (c j) * C (dk p co l (y' (m + j))) = C (nk (c j) * dk p co l (itT p M t j (X ^ i))) := fun j _ => by rw [hyn, hC.2.2.2, HM_nk hC]
      have e5 : ∀ a, a < m → C (d a) * C (dk p co l (y' a)) = C (d a * dk p co l (y a)) := fun a ha => by rw [hyo a ha, hC.2.2.2]
      rw [e1, sm_congr e4, sm_congr e5, ← e3]; grind
    · intro x
      have e1 : wp n (fun a l => sm n (fun j => C (dk p co j (y' a)) * phm C p co X M t tau j l)) m = wp n (fun a l => sm n (fun j => C (dk p co j (y a)) * phm C p co X M t tau j l)) m := wp_congr (fun a l ha hl => by rw [hyo a ha])
      have e2 : wp n (fun a j => C (dk p co j (y' a))) m = wp n (fun a j => C (dk p co j (y a))) m := wp_congr (fun a l ha hl => by rw [hyo a ha])
      rw [e1, e2]; exact h6 x
  · intro l hl
    by_cases e : l = i
    · subst e
      by_cases hk0 : k = 0
      · subst hk0
        refine ⟨d, fun a ha => ?_⟩
        have e2 := hd a ha
        rw [sm_zero, show itT p M t 0 (X ^ l) + 0 = X ^ l from by show X ^ l + 0 = X ^ l; grind] at e2
        rw [e2]
        exact sm_congr (fun b hb => by rw [hyo b hb])
      · refine ⟨fun b => if b = m then 1 else 0, fun a ha => ?_⟩
        dsimp only
        have e3 := hyn 0
        rw [Nat.add_zero] at e3
        rw [sm_one (k := m) (by omega) (fun b _ hb => by rw [if_neg hb]; grind), if_pos rfl, e3]
        show _ = 1 * dk p co a (X ^ l)
        grind
    · obtain ⟨d2, hd2⟩ := h7 l (by omega)
      refine ⟨fun b => if b < m then d2 b else 0, fun a ha => ?_⟩
      rw [hd2 a ha]
      refine Eq.trans ?_ (sm_ext (n := m) (m := m + k) (f := fun b => (if b < m then d2 b else 0) * dk p co a (y' b)) (by omega) (fun b h1 _ => by
        show (if b < m then d2 b else 0) * dk p co a (y' b) = 0
        rw [if_neg (by omega)]; grind)).symm
      exact sm_congr (fun b hb => by rw [if_pos hb, hyo b hb])
/-- all of it: the polynomial closes all, and is the determinant -/
theorem WBI_end {K L : Type} [Lean.Grind.CommRing K] [Lean.Grind.CommRing L] {C : K → L} (hC : HM C) {p n : Nat} {X : K} {co : K → Nat} (hR : RO K p n X co) {M : Nat} {t : Nat → K} {tau : L} (h10 : (1 : L) ≠ 0) {m W : Nat} {y : Nat → K} (h : WBI C p n X co M t tau n m y W) : (∀ i, i < n → itT p M t m (X ^ i) + sm m (fun j => nk (dig p W j) * itT p M t j (X ^ i)) = 0) ∧ wp n (phm C p co X M t tau) n (2 ^ n - 1) = sm 7 (fun e => nk (dig p W e) * tau ^ e) := by
  have hp := RO_p hR
  have hn6 := hR.2.2.1
  obtain ⟨h1, h2, h3, h4, h5, h6, h7⟩ := h
  constructor
  · intro i hi
    have e := InE_map hR (fun c => fa_li hR M t W 7 c) (h7 i hi) h5
    unfold fa at e
    rw [sm_ext (n := m + 1) (by omega) (fun j a1 a2 => by rw [h4 j (by omega) a2, nk_0]; grind), sm_succ, h3, nk_1] at e
    rw [← e]; grind
  · have h7' : ∀ i, ∃ d : Nat → K, i < n → ∀ a, a < n → dk p co a (X ^ i) = sm m (fun b => d b * dk p co a (y b)) := fun i => by
      by_cases hi : i < n
      · obtain ⟨d, hd⟩ := h7 i hi
        exact ⟨d, fun _ a ha => hd a ha⟩
      · exact ⟨fun _ => 0, fun z => absurd z hi⟩
    obtain ⟨v, hv⟩ := Classical.axiomOfChoice h7'
    refine (det_ok hn6 h1 (phm C p co X M t tau) (fun a j => C (dk p co j (y a))) (fun i a => C (v i a)) _ h10 h6 (fun i l hi hl => ?_)).2
    have e1 : dk p co l (X ^ i) = if l = i then 1 else 0 := by
      unfold dk
      rw [co_X hR hi, dig_pow hp.1]
      split
      · exact nk_1
      · exact nk_0
    have e2 := congrArg C (hv i hi l hl)
    rw [e1, HM_sm hC] at e2
    have e3 : ∀ b, b < m → C (v i b * dk p co l (y b)) = C (v i b) * C (dk p co l (y b)) := fun b _ => hC.2.2.2 _ _
    rw [← sm_congr e3, ← e2]
    split
    · exact hC.2.1.symm
    · exact hC.1.symm
end Blocks
