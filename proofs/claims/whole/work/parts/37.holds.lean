/-! what a pattern says of a call -/
/-- a condition holds of a value; sl: the stands' lines -/
def hF (sl : Nat → Int32) (c : Nat) (lo hi v : Int32) : Int32 := match c with
  | 1 => if v = lo then 1 else 0
  | 2 => inF v lo hi
  | 3 => if v = lo then 0 else 1
  | 4 => if v = -1 then 0 else if (sl v.toNatClampNeg).toNatClampNeg.testBit lo.toNatClampNeg = true then 1 else 0
  | 5 => if v = -1 then 1 else 0
  | _ => 1
theorem hF01 (sl : Nat → Int32) (c : Nat) (lo hi v : Int32) : hF sl c lo hi v = 0 ∨ hF sl c lo hi v = 1 := by
  unfold hF
  split
  · split <;> simp
  · exact inF01 _ _ _
  · split <;> simp
  · split
    · simp
    · split <;> simp
  · split <;> simp
  · simp
theorem m1_neg {ns : Nat} {v : Int32} (h : StV ns v) (hn : ns ≤ 24) : (v < 0 ↔ v = -1) := by
  rcases h with rfl | ⟨s, hs, rfl⟩
  · decide
  · constructor
    · intro q; exact absurd q (nI_pos (by omega))
    · intro q; exact absurd q.symm (neg1_nI (by omega))
set_option maxHeartbeats 4000000 in
theorem d_holds_15 (ρ : Nat × (Nat → Int32)) (σ : rd_Sg) {j c ns nf : Nat} {v : Int32} (hj : j < 240) (hc : c ≤ 6) (h1 : σ 19 j = nI c) (hns : ns ≤ 24) (hnf : nf ≤ 12) (h4 : c = 4 → StV ns v ∧ ∃ g, g < nf ∧ σ 20 j = nI g) (hsl : ∀ s, s < ns → ∃ b, b < 4096 ∧ σ 11 s = nI b) : rd_R ρ 64 0 [some (.ref 15), some (.int (nI j)), some (.int v)] [] σ = some (hF (σ 11) c (σ 20 j) (σ 21 j) v, σ) := by
  have hb : ∀ v : Int32, (v = 0 ∨ v = 1) → (if v = 0 then some ((0 : Int32), σ) else some ((1 : Int32), σ)) = some (v, σ) := by
    rintro v (rfl | rfl)
    · rfl
    · rfl
  have E := q_X5_holds_15 ρ σ (nI j) v
  rw [nI_clamp (by omega), h1] at E
  simp only [b_chk hj (show 240 < 2 ^ 31 by decide), b_some] at E
  have e2 : (if v < σ 20 j then (0 : Int32) else if σ 21 j < v then 0 else 1) = inF v (σ 20 j) (σ 21 j) := rfl
  rw [E]
  clear E
  generalize hx : nI c = y at h1
  rcases lit7 hx.symm (by omega) with ⟨rfl, rfl⟩ | ⟨rfl, rfl⟩ | ⟨rfl, rfl⟩ | ⟨rfl, rfl⟩ | ⟨rfl, rfl⟩ | ⟨rfl, rfl⟩ | ⟨rfl, rfl⟩
  · simp only [l_0_1, l_0_2, l_0_3, l_0_4, l_0_5, hF, if_false]
  · simp only [hF, if_true, if_false, e2]
  · simp only [l_2_1, hF, if_true, if_false, e2]
  · simp only [l_3_1, l_3_2, hF, if_true, if_false, e2]
  · simp only [l_4_1, l_4_2, l_4_3, hF, if_true, if_false]
    obtain ⟨w1, g, w2, w3⟩ := h4 rfl
    by_cases hv : v = -1
    · rw [if_pos hv, if_pos hv]
    · rw [if_neg hv, if_neg hv]
      rcases w1 with w1 | ⟨s, hs, rfl⟩
      · exact absurd w1 hv
      · obtain ⟨b, b1, b2⟩ := hsl s hs
        rw [w3, s_isOf ρ σ (by omega) (by omega) b1 b2, nI_clamp (show s < 2 ^ 31 by omega), b2, nI_clamp (show b < 2 ^ 31 by omega), nI_clamp (show g < 2 ^ 31 by omega)]
        simp only [Option.bind_some, b_01, b_some]
  · simp only [l_5_1, l_5_2, l_5_3, l_5_4, hF, if_true, if_false, e2]
  · simp only [l_6_1, l_6_2, l_6_3, l_6_4, l_6_5, hF, if_true, if_false, e2]
set_option maxHeartbeats 4000000 in
theorem d_holds_34 (ρ : Nat × (Nat → Int32)) (σ : rd_Sg) {j c ns nf : Nat} {v : Int32} (hj : j < 120) (hc : c ≤ 6) (h1 : σ 38 j = nI c) (hns : ns ≤ 24) (hnf : nf ≤ 12) (h4 : c = 4 → StV ns v ∧ ∃ g, g < nf ∧ σ 39 j = nI g) (hsl : ∀ s, s < ns → ∃ b, b < 4096 ∧ σ 11 s = nI b) : rd_R ρ 64 0 [some (.ref 34), some (.int (nI j)), some (.int v)] [] σ = some (hF (σ 11) c (σ 39 j) (σ 40 j) v, σ) := by
  have hb : ∀ v : Int32, (v = 0 ∨ v = 1) → (if v = 0 then some ((0 : Int32), σ) else some ((1 : Int32), σ)) = some (v, σ) := by
    rintro v (rfl | rfl)
    · rfl
    · rfl
  have E := q_X5_holds_34 ρ σ (nI j) v
  rw [nI_clamp (by omega), h1] at E
  simp only [b_chk hj (show 120 < 2 ^ 31 by decide), b_some] at E
  have e2 : (if v < σ 39 j then (0 : Int32) else if σ 40 j < v then 0 else 1) = inF v (σ 39 j) (σ 40 j) := rfl
  rw [E]
  clear E
  generalize hx : nI c = y at h1
  rcases lit7 hx.symm (by omega) with ⟨rfl, rfl⟩ | ⟨rfl, rfl⟩ | ⟨rfl, rfl⟩ | ⟨rfl, rfl⟩ | ⟨rfl, rfl⟩ | ⟨rfl, rfl⟩ | ⟨rfl, rfl⟩
  · simp only [l_0_1, l_0_2, l_0_3, l_0_4, l_0_5, hF, if_false]
  · simp only [hF, if_true, if_false, e2]
  · simp only [l_2_1, hF, if_true, if_false, e2]
  · simp only [l_3_1, l_3_2, hF, if_true, if_false, e2]
  · simp only [l_4_1, l_4_2, l_4_3, hF, if_true, if_false]
    obtain ⟨w1, g, w2, w3⟩ := h4 rfl
    by_cases hv : v = -1
    · rw [if_pos hv, if_pos hv]
    · rw [if_neg hv, if_neg hv]
      rcases w1 with w1 | ⟨s, hs, rfl⟩
      · exact absurd w1 hv
      · obtain ⟨b, b1, b2⟩ := hsl s hs
        rw [w3, s_isOf ρ σ (by omega) (by omega) b1 b2, nI_clamp (show s < 2 ^ 31 by omega), b2, nI_clamp (show b < 2 ^ 31 by omega), nI_clamp (show g < 2 ^ 31 by omega)]
        simp only [Option.bind_some, b_01, b_some]
  · simp only [l_5_1, l_5_2, l_5_3, l_5_4, hF, if_true, if_false, e2]
  · simp only [l_6_1, l_6_2, l_6_3, l_6_4, l_6_5, hF, if_true, if_false, e2]
set_option maxHeartbeats 4000000 in
theorem m_holds (ρ : Nat × (Nat → Int32)) (σ : rd_Sg) {j c ns nf : Nat} {v : Int32} {lin sl : Nat → Int32} (hj : j < 360) (hc : c ≤ 6) (h1 : σ 76 j = nI c) (hns : ns ≤ 24) (hnf : nf ≤ 12) (h4 : c = 4 → ∃ g, g < nf ∧ σ 77 j = nI g) (h45 : c = 4 ∨ c = 5 → StV ns v) (hbel : ∀ f, f < nf → σ 65 f = -1 ∨ ∃ g, g < f ∧ σ 65 f = nI g) (hL : JL nf (σ 65) lin) (hst : ∀ s, s < ns → ∃ f, f < nf ∧ σ 71 s = nI f ∧ sl s = lin f) : rd_R ρ 150 0 [some (.ref 64), some (.int (nI j)), some (.int v)] [] σ = some (hF sl c (σ 77 j) (σ 78 j) v, σ) := by
  have E := q_M_holds_64 ρ σ (nI j) v
  rw [nI_clamp (by omega), h1] at E
  have e9 : ∀ x lo hi : Int32, inF x lo hi &&& 1 = inF x lo hi := fun x lo hi => by
    rcases inF01 x lo hi with h | h <;> rw [h] <;> decide
  simp only [b_chk hj (show 360 < 2 ^ 31 by decide), b_some, m_inF, Option.bind_some, e9] at E
  rw [E]
  clear E
  generalize hx : nI c = y at h1
  rcases lit7 hx.symm (by omega) with ⟨rfl, rfl⟩ | ⟨rfl, rfl⟩ | ⟨rfl, rfl⟩ | ⟨rfl, rfl⟩ | ⟨rfl, rfl⟩ | ⟨rfl, rfl⟩ | ⟨rfl, rfl⟩
  · simp only [l_0_1, l_0_2, l_0_3, l_0_4, l_0_5, hF, if_false]
  · simp only [hF, if_true, if_false]
  · simp only [l_2_1, hF, if_true, if_false]
  · simp only [l_3_1, l_3_2, hF, if_true, if_false]
  · simp only [l_4_1, l_4_2, l_4_3, hF, if_true, if_false]
    obtain ⟨g, w2, w3⟩ := h4 rfl
    have w1 := h45 (Or.inl rfl)
    by_cases hv : v = -1
    · rw [if_pos ((m1_neg w1 hns).mpr hv), if_pos hv]
    · rw [if_neg (fun q => hv ((m1_neg w1 hns).mp q)), if_neg hv]
      rcases w1 with w1 | ⟨s, hs, rfl⟩
      · exact absurd w1 hv
      · obtain ⟨f, f1, f2, f3⟩ := hst s hs
        rw [b_chk (show s < 24 by omega) (by decide), nI_clamp (show s < 2 ^ 31 by omega), f2, w3, m_isBelow ρ σ hnf hbel hL f1 (by omega), f3, nI_clamp (show g < 2 ^ 31 by omega)]
        simp only [Option.bind_some, b_01, b_some]
  · simp only [l_5_1, l_5_2, l_5_3, l_5_4, hF, if_true, if_false, m1_neg (h45 (Or.inr rfl)) hns]
  · simp only [l_6_1, l_6_2, l_6_3, l_6_4, l_6_5, hF, if_true, if_false]
