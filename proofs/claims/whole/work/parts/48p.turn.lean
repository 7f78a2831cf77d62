/-! turn -/
section Turn
theorem s_turned {K : Type} [Lean.Grind.CommRing K] {p n : Nat} {X : K} {co : K → Nat} {I : gI} {R : gR} {S : gS} {N a r : Nat} {t : Nat → K} (hR : RO K p n X co) (hS : 114 ≤ S.length) (hF : FH p n X co I) (ha : a < S.length) (hW : CW co I R S a r t) (hr : r ≤ 3) {c : K} (hc : c ≠ 0) (hN : 60 ≤ N) :
    f_X8_turned N I R S a (nI (co c)) = some (S.length, Wd (gZ I S.length) S.length 0 (r + 1) (fun j => nI (co (t j * c ^ (p ^ j - 1)))), R, S ++ [(12, 4)]) := by
  have hp := RO_p hR
  have hE0 : Ex R R S (S ++ [(12, 4)]) := ⟨fun _ _ => rfl, fun q hq => by rw [List.getElem?_append_left hq], by simp⟩
  obtain ⟨y1, y2, y3⟩ := gWb_ex hE0 ha hW.1
  have e12 : (S ++ [((12, 4) : Nat × Nat)])[S.length]? = some (12, 4) := gS_last rfl
  obtain ⟨G, hG⟩ : ∃ G, G = gZ I S.length := ⟨_, rfl⟩
  have hGn : ∀ q, q ≠ S.length → G q = I q := fun q hq => by rw [hG, gZ_ne hq]
  obtain ⟨g, hg⟩ : ∃ g : Nat → Int32, g = fun j => nI (co (t j * c ^ (p ^ j - 1))) := ⟨_, rfl⟩
  rw [← hg, ← hG]
  have hFG : FH p n X co G := FH_of hF hR.2.2.1 (fun q _ _ => hGn q (by omega))
  have hup : ∀ z, gU (Wd G S.length 0 z g) S.length z (g z) = Wd G S.length 0 (z + 1) g := fun z => by
    have := Wd_up (I := G) (q := S.length) (s := 0) (i := z) (F := g)
    rw [Nat.zero_add] at this; exact this
  have hFW : ∀ z, FH p n X co (Wd G S.length 0 z g) := fun z => FH_of hFG hR.2.2.1 (fun q _ _ => Wd_row (by omega))
  have hWa : ∀ z, Wd G S.length 0 z g a 1 = nI r := fun z => by rw [Wd_ne _ (by omega), hGn a (by omega)]; exact hW.2.2.2.2
  unfold f_X8_turned
  rw [if_pos hW.1, ← hG, s_inverse hR hFG c (by omega), Option.bind_some]
  dsimp only
  refine iter_bind (fun j => (nI (co (c ^ (p ^ j))), nI j, Wd G S.length 0 j g)) (r + 1) (Wd G S.length 0 (r + 1) g) (by rw [nI_0, Wd_0, Nat.pow_zero, Lean.Grind.Semiring.pow_one]) ?_ ?_ (by omega) rfl
  · intro j hj
    dsimp only
    rw [if_pos y1, if_neg (by rw [hWa]; exact nI_nlt (by omega) (by omega)), nI_clamp (by omega), gin2 (by omega) (by omega), s_times hR (hFW j).1 _ _ (by omega), Option.bind_some]
    dsimp only
    rw [Wd_ne _ (by omega), hGn _ (by omega), hW.2.2.2.1 j (by omega), s_times hR (hFW j).1 _ _ (by omega), Option.bind_some]
    dsimp only
    have e : t j * (c ^ (p ^ j) * c ^ (p ^ n - 2)) = t j * c ^ (p ^ j - 1) := by
      rw [pow_pred c (Nat.pow_pos (n := j) (show 0 < p by omega))]
      have h := inv_ok hR hc
      generalize c ^ (p ^ j - 1) = d
      generalize c ^ (p ^ n - 2) = e at h
      grind
    have eg : nI (co (t j * c ^ (p ^ j - 1))) = g j := by rw [hg]
    rw [e, eg, gLn_of e12, gin2 (by omega) (by omega), hup, s_raised hR (hFW (j + 1)) _ (by omega), Option.bind_some]
    dsimp only
    rw [← pw_mul, ← Nat.pow_succ, nI_1]
  · dsimp only
    rw [if_pos y1, if_pos (by rw [hWa]; exact nI_lt (by omega) (by omega))]
end Turn
