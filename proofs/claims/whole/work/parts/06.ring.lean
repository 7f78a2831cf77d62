/-! polynomials below x to the power n, modulo a monic one: a ring -/
section RingOf
def kX {F : Type} [Lean.Grind.CommRing F] (n : Nat) (fo : Nat → F) (f : Nat → F) : Nat → F := fun i => if i < n then (if i = 0 then 0 else f (i - 1)) + f (n - 1) * fo i else 0
def kXi {F : Type} [Lean.Grind.CommRing F] (n : Nat) (fo : Nat → F) : Nat → (Nat → F) → Nat → F
  | 0, f => f
  | i + 1, f => kX n fo (kXi n fo i f)
def kM {F : Type} [Lean.Grind.CommRing F] (n : Nat) (fo : Nat → F) (a b : Nat → F) : Nat → F := fun k => sm n (fun i => a i * kXi n fo i b k)
def kE {F : Type} [Lean.Grind.CommRing F] (j : Nat) : Nat → F := fun i => if i = j then 1 else 0
theorem kX_add {F : Type} [Lean.Grind.CommRing F] (n : Nat) (fo f g : Nat → F) : kX n fo (fun i => f i + g i) = fun i => kX n fo f i + kX n fo g i := by
  funext i
  unfold kX
  by_cases h : i < n <;> by_cases h0 : i = 0 <;> simp only [h, h0, if_true, if_false] <;> (try split) <;> grind
theorem kX_mul {F : Type} [Lean.Grind.CommRing F] (n : Nat) (fo : Nat → F) (c : F) (f : Nat → F) : kX n fo (fun i => c * f i) = fun i => c * kX n fo f i := by
  funext i
  unfold kX
  by_cases h : i < n <;> by_cases h0 : i = 0 <;> simp only [h, h0, if_true, if_false] <;> (try split) <;> grind
theorem kXi_add {F : Type} [Lean.Grind.CommRing F] (n : Nat) (fo : Nat → F) (j : Nat) (f g : Nat → F) : kXi n fo j (fun i => f i + g i) = fun i => kXi n fo j f i + kXi n fo j g i := by
  induction j with
  | zero => rfl
  | succ j ih => simp only [kXi]; rw [ih, kX_add]
theorem kXi_mul {F : Type} [Lean.Grind.CommRing F] (n : Nat) (fo : Nat → F) (j : Nat) (c : F) (f : Nat → F) : kXi n fo j (fun i => c * f i) = fun i => c * kXi n fo j f i := by
  induction j with
  | zero => rfl
  | succ j ih => simp only [kXi]; rw [ih, kX_mul]
theorem kXi_in {F : Type} [Lean.Grind.CommRing F] (n : Nat) (fo : Nat → F) (j : Nat) (f : Nat → F) : kXi n fo (j + 1) f = kXi n fo j (kX n fo f) := by
  induction j with
  | zero => rfl
  | succ j ih => rw [kXi, ih]; rfl
theorem kX_0 {F : Type} [Lean.Grind.CommRing F] (n : Nat) (fo : Nat → F) : kX n fo (fun _ => 0) = fun _ => 0 := by
  funext i
  unfold kX
  by_cases h : i < n <;> by_cases h0 : i = 0 <;> simp only [h, h0, if_true, if_false] <;> (try split) <;> grind
theorem kXi_0 {F : Type} [Lean.Grind.CommRing F] (n : Nat) (fo : Nat → F) (j : Nat) : kXi n fo j (fun _ => 0) = fun _ => 0 := by
  induction j with
  | zero => rfl
  | succ j ih => rw [kXi, ih, kX_0]
theorem kX_sm {F : Type} [Lean.Grind.CommRing F] (n : Nat) (fo : Nat → F) (m : Nat) (g : Nat → Nat → F) : kX n fo (fun k => sm m (fun i => g i k)) = fun k => sm m (fun i => kX n fo (g i) k) := by
  induction m with
  | zero => exact kX_0 n fo
  | succ m ih => simp only [sm_succ]; rw [kX_add, ih]
theorem kXi_sm {F : Type} [Lean.Grind.CommRing F] (n : Nat) (fo : Nat → F) (j m : Nat) (g : Nat → Nat → F) : kXi n fo j (fun k => sm m (fun i => g i k)) = fun k => sm m (fun i => kXi n fo j (g i) k) := by
  induction m with
  | zero => exact kXi_0 n fo j
  | succ m ih => simp only [sm_succ]; rw [kXi_add, ih]
theorem kM_X {F : Type} [Lean.Grind.CommRing F] (n : Nat) (fo a b : Nat → F) : kX n fo (kM n fo a b) = kM n fo a (kX n fo b) := by
  unfold kM
  rw [kX_sm]
  funext k
  refine sm_congr (fun i _ => ?_)
  rw [kX_mul, ← kXi_in]; rfl
theorem kM_Xi {F : Type} [Lean.Grind.CommRing F] (n : Nat) (fo : Nat → F) (j : Nat) (a b : Nat → F) : kXi n fo j (kM n fo a b) = kM n fo a (kXi n fo j b) := by
  induction j with
  | zero => rfl
  | succ j ih => rw [kXi, ih, kM_X, kXi]
theorem kM_add {F : Type} [Lean.Grind.CommRing F] (n : Nat) (fo a b c : Nat → F) : kM n fo a (fun k => b k + c k) = fun k => kM n fo a b k + kM n fo a c k := by
  funext k
  unfold kM
  rw [← sm_add]
  refine sm_congr (fun i _ => ?_)
  rw [kXi_add]; grind
theorem kM_mul {F : Type} [Lean.Grind.CommRing F] (n : Nat) (fo a : Nat → F) (c : F) (b : Nat → F) : kM n fo a (fun k => c * b k) = fun k => c * kM n fo a b k := by
  funext k
  unfold kM
  rw [← sm_mulL]
  refine sm_congr (fun i _ => ?_)
  rw [kXi_mul]; grind
theorem kM_0 {F : Type} [Lean.Grind.CommRing F] (n : Nat) (fo a : Nat → F) : kM n fo a (fun _ => 0) = fun _ => 0 := by
  funext k
  unfold kM
  refine sm_0 (fun i _ => ?_)
  rw [kXi_0]; grind
theorem kM_sm {F : Type} [Lean.Grind.CommRing F] (n : Nat) (fo a : Nat → F) (m : Nat) (g : Nat → Nat → F) : kM n fo a (fun k => sm m (fun i => g i k)) = fun k => sm m (fun i => kM n fo a (g i) k) := by
  induction m with
  | zero => exact kM_0 n fo a
  | succ m ih => simp only [sm_succ]; rw [kM_add, ih]
theorem kM_swap {F : Type} [Lean.Grind.CommRing F] (n : Nat) (fo a b c : Nat → F) : kM n fo c (kM n fo a b) = kM n fo a (kM n fo c b) := by
  have h : kM n fo a (kM n fo c b) = fun k => sm n (fun i => kM n fo a (fun k => c i * kXi n fo i b k) k) := kM_sm n fo a n (fun i k => c i * kXi n fo i b k)
  rw [h]
  funext k
  refine sm_congr (fun i _ => ?_)
  rw [kM_Xi, kM_mul]
theorem kXi_E {F : Type} [Lean.Grind.CommRing F] {n : Nat} (fo : Nat → F) {j : Nat} (hj : j < n) : kXi n fo j (kE 0) = kE j := by
  induction j with
  | zero => rfl
  | succ j ih =>
    rw [kXi, ih (by omega)]
    funext i
    unfold kX kE
    by_cases h : i < n
    · rw [if_pos h, if_neg (show ¬ n - 1 = j by omega)]
      by_cases h0 : i = 0
      · rw [if_pos h0, if_neg (by omega)]; grind
      · rw [if_neg h0]
        by_cases e : i = j + 1
        · rw [if_pos e, if_pos (by omega)]; grind
        · rw [if_neg e, if_neg (by omega)]; grind
    · rw [if_neg h, if_neg (by omega)]
theorem kM_E {F : Type} [Lean.Grind.CommRing F] {n : Nat} (fo : Nat → F) {a : Nat → F} (ha : ∀ i, n ≤ i → a i = 0) : kM n fo a (kE 0) = a := by
  funext k
  unfold kM
  by_cases h : k < n
  · rw [sm_one (k := k) h (fun i hi hne => by rw [kXi_E fo hi, kE, if_neg (Ne.symm hne)]; grind), kXi_E fo h, kE, if_pos rfl]; grind
  · rw [ha k (by omega)]
    exact sm_0 (fun i hi => by rw [kXi_E fo hi, kE, if_neg (by omega)]; grind)
theorem kX_in {F : Type} [Lean.Grind.CommRing F] (n : Nat) (fo : Nat → F) (f : Nat → F) (i : Nat) (h : n ≤ i) : kX n fo f i = 0 := if_neg (by omega)
theorem kXi_sup {F : Type} [Lean.Grind.CommRing F] (n : Nat) (fo : Nat → F) (j : Nat) {f : Nat → F} (hf : ∀ i, n ≤ i → f i = 0) (i : Nat) (h : n ≤ i) : kXi n fo j f i = 0 := by
  cases j with
  | zero => exact hf i h
  | succ j => exact kX_in n fo _ i h
theorem kM_sup {F : Type} [Lean.Grind.CommRing F] (n : Nat) (fo : Nat → F) (a : Nat → F) {f : Nat → F} (hf : ∀ i, n ≤ i → f i = 0) (i : Nat) (h : n ≤ i) : kM n fo a f i = 0 :=
  sm_0 (fun j _ => by rw [kXi_sup n fo j hf i h]; grind)
theorem kM_comm {F : Type} [Lean.Grind.CommRing F] {n : Nat} (fo : Nat → F) {a b : Nat → F} (ha : ∀ i, n ≤ i → a i = 0) (hb : ∀ i, n ≤ i → b i = 0) : kM n fo a b = kM n fo b a := by
  have h := kM_swap n fo b (kE 0) a
  rw [kM_E fo hb, kM_E fo ha] at h
  exact h
theorem kM_assoc {F : Type} [Lean.Grind.CommRing F] {n : Nat} (fo : Nat → F) {a b c : Nat → F} (ha : ∀ i, n ≤ i → a i = 0) (hb : ∀ i, n ≤ i → b i = 0) (hc : ∀ i, n ≤ i → c i = 0) : kM n fo (kM n fo a b) c = kM n fo a (kM n fo b c) := by
  rw [kM_comm fo (kM_sup n fo a hb) hc, kM_swap, kM_comm fo hc hb]
abbrev KT (F : Type) [Lean.Grind.CommRing F] (n : Nat) : Type := {f : Nat → F // ∀ i, n ≤ i → f i = 0}
theorem KT_ext {F : Type} [Lean.Grind.CommRing F] {n : Nat} {a b : KT F n} (h : ∀ k, a.1 k = b.1 k) : a = b := Subtype.ext (funext h)
def ktC {F : Type} [Lean.Grind.CommRing F] (n : Nat) (hn : 0 < n) (c : F) : KT F n := ⟨fun i => if i = 0 then c else 0, fun i h => if_neg (by omega)⟩
def ktM {F : Type} [Lean.Grind.CommRing F] (n : Nat) (fo : Nat → F) (a b : KT F n) : KT F n := ⟨kM n fo a.1 b.1, kM_sup n fo a.1 b.2⟩
def ktN {F : Type} [Lean.Grind.CommRing F] (n : Nat) (a : KT F n) : KT F n := ⟨fun i => - a.1 i, fun i h => by show - a.1 i = 0; rw [a.2 i h]; grind⟩
def ktP {F : Type} [Lean.Grind.CommRing F] (n : Nat) (hn : 0 < n) (fo : Nat → F) (a : KT F n) : Nat → KT F n
  | 0 => ktC n hn 1
  | k + 1 => ktM n fo (ktP n hn fo a k) a
theorem ktC_M {F : Type} [Lean.Grind.CommRing F] {n : Nat} (hn : 0 < n) (fo : Nat → F) (c : F) (a : KT F n) (k : Nat) : (ktM n fo (ktC n hn c) a).1 k = c * a.1 k := by
  show kM n fo (ktC n hn c).1 a.1 k = _
  rw [kM_comm fo (ktC n hn c).2 a.2]
  have : (ktC n hn c).1 = fun i => c * kE 0 i := by
    funext i
    show (if i = 0 then c else 0) = c * (if i = 0 then 1 else 0)
    split <;> grind
  rw [this, kM_mul, kM_E fo a.2]
def kRing {F : Type} [Lean.Grind.CommRing F] (n : Nat) (hn : 0 < n) (fo : Nat → F) : Lean.Grind.CommRing (KT F n) where
  add a b := ⟨fun i => a.1 i + b.1 i, fun i h => by show a.1 i + b.1 i = 0; rw [a.2 i h, b.2 i h]; grind⟩
  mul := ktM n fo
  natCast := ⟨fun c => ktC n hn (nk c)⟩
  ofNat c := ⟨ktC n hn (nk c)⟩
  nsmul := ⟨fun c a => ktM n fo (ktC n hn (nk c)) a⟩
  npow := ⟨ktP n hn fo⟩
  neg := ktN n
  sub a b := ⟨fun i => a.1 i - b.1 i, fun i h => by show a.1 i - b.1 i = 0; rw [a.2 i h, b.2 i h]; grind⟩
  intCast := ⟨fun z => match z with | .ofNat c => ktC n hn (nk c) | .negSucc c => ktN n (ktC n hn (nk (c + 1)))⟩
  zsmul := ⟨fun z a => match z with | .ofNat c => ktM n fo (ktC n hn (nk c)) a | .negSucc c => ktN n (ktM n fo (ktC n hn (nk (c + 1))) a)⟩
  add_zero a := KT_ext fun k => by
    show a.1 k + (if k = 0 then nk 0 else 0) = a.1 k
    rw [nk_0]; split <;> grind
  add_comm a b := KT_ext fun k => by
    show a.1 k + b.1 k = b.1 k + a.1 k; grind
  add_assoc a b c := KT_ext fun k => by
    show a.1 k + b.1 k + c.1 k = a.1 k + (b.1 k + c.1 k); grind
  mul_assoc a b c := Subtype.ext (kM_assoc fo a.2 b.2 c.2)
  mul_comm a b := Subtype.ext (kM_comm fo a.2 b.2)
  one_mul a := KT_ext fun k => by
    show (ktM n fo (ktC n hn (nk 1)) a).1 k = a.1 k
    rw [ktC_M, nk_1]; grind
  mul_one a := KT_ext fun k => by
    show (ktM n fo a (ktC n hn (nk 1))).1 k = a.1 k
    have : ktM n fo a (ktC n hn (nk 1)) = ktM n fo (ktC n hn (nk 1)) a := Subtype.ext (kM_comm fo a.2 (ktC n hn (nk 1)).2)
    rw [this, ktC_M, nk_1]; grind
  left_distrib a b c := Subtype.ext (kM_add n fo a.1 b.1 c.1)
  right_distrib a b c := Subtype.ext (by
    show kM n fo (fun i => a.1 i + b.1 i) c.1 = fun i => kM n fo a.1 c.1 i + kM n fo b.1 c.1 i
    rw [kM_comm fo (fun i h => by rw [a.2 i h, b.2 i h]; grind) c.2, kM_add, kM_comm fo a.2 c.2, kM_comm fo b.2 c.2])
  zero_mul a := KT_ext fun k => by
    show (ktM n fo (ktC n hn (nk 0)) a).1 k = (if k = 0 then nk 0 else 0)
    rw [ktC_M, nk_0]; split <;> grind
  mul_zero a := KT_ext fun k => by
    show (ktM n fo a (ktC n hn (nk 0))).1 k = (if k = 0 then nk 0 else 0)
    have : ktM n fo a (ktC n hn (nk 0)) = ktM n fo (ktC n hn (nk 0)) a := Subtype.ext (kM_comm fo a.2 (ktC n hn (nk 0)).2)
    rw [this, ktC_M, nk_0]; split <;> grind
  pow_zero a := KT_ext fun k => by
    show (if k = 0 then 1 else 0) = (if k = 0 then nk 1 else 0)
    rw [nk_1]
  pow_succ a k := rfl
  ofNat_succ c := KT_ext fun k => by
    show (if k = 0 then nk (c + 1) else 0) = (if k = 0 then nk c else 0) + (if k = 0 then nk 1 else 0)
    split
    · rw [nk_1]; rfl
    · grind
  neg_add_cancel a := KT_ext fun k => by
    show - a.1 k + a.1 k = (if k = 0 then nk 0 else 0)
    rw [nk_0]; split <;> grind
  sub_eq_add_neg a b := KT_ext fun k => by
    show a.1 k - b.1 k = a.1 k + - b.1 k; grind
  neg_zsmul z a := by
    rcases z with (_ | c) | c
    · refine KT_ext fun k => ?_
      show (ktM n fo (ktC n hn (nk 0)) a).1 k = - (ktM n fo (ktC n hn (nk 0)) a).1 k
      rw [ktC_M, nk_0]; grind
    · rfl
    · refine KT_ext fun k => ?_
      show (ktM n fo (ktC n hn (nk (c + 1))) a).1 k = - - (ktM n fo (ktC n hn (nk (c + 1))) a).1 k
      grind
  intCast_neg z := by
    rcases z with (_ | c) | c
    · refine KT_ext fun k => ?_
      show (if k = 0 then nk 0 else 0) = - (if k = 0 then nk 0 else (0 : F))
      rw [nk_0]; split <;> grind
    · rfl
    · refine KT_ext fun k => ?_
      show (if k = 0 then nk (c + 1) else 0) = - - (if k = 0 then nk (c + 1) else (0 : F))
      grind
end RingOf
