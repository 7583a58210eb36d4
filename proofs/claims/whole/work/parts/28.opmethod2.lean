variable {B : Nat}
theorem JF.method {nf f m : Nat} {me pa sb gv fl bel : Nat → Int32} {x2 x3 x4 x5 : Int32} (h : JF nf me pa sb gv fl bel) (hf : f < nf) (hm : m < 8) (hme : me f = nI m) (hpk : PK x2 x3 x4 x5) : JF nf (upd me f (nI (m + 1))) (upd pa (8 * f + m) x2) (upd sb (8 * f + m) x3) (upd gv (8 * f + m) x4) (upd fl (8 * f + m) x5) bel := by
  obtain ⟨h1, h2, h3, h4⟩ := h
  refine ⟨h1, fun j hj => ?_, fun g hg => ?_, h4⟩
  · by_cases e : j = 8 * f + m
    · subst e; rw [b_ups, b_ups, b_ups, b_ups]; exact hpk
    · rw [b_upn e, b_upn e, b_upn e, b_upn e]; exact h2 j hj
  · by_cases e : g = f
    · subst e
      obtain ⟨m', a, b, c, d⟩ := h3 g hg
      have : m' = m := (nI_eq (by omega) (by omega)).mp (b.symm.trans hme)
      subst this
      refine ⟨m' + 1, by omega, b_ups, fun q => by omega, fun j hj1 hj2 => ?_⟩
      rw [b_upn (by omega), b_upn (by omega), b_upn (by omega), b_upn (by omega)]
      exact d j (by omega) hj2
    · obtain ⟨m', a, b, c, d⟩ := h3 g hg
      refine ⟨m', a, by rw [b_upn e]; exact b, c, fun j hj1 hj2 => ?_⟩
      rw [b_upn (by omega), b_upn (by omega), b_upn (by omega), b_upn (by omega)]
      exact d j hj1 hj2
set_option maxHeartbeats 4000000 in
theorem op_method (ρ : Nat × (Nat → Int32)) {σ : rd_Sg} (hI : Inv B σ) (x1 x2 x3 x4 x5 : Int32) : Both B (rd_R ρ 109 0 [some (.ref 0), some (.int x1), some (.int x2), some (.int x3), some (.int x4), some (.int x5)] []) (rd_R ρ 140 0 [some (.ref 64), some (.int x1), some (.int x2), some (.int x3), some (.int x4), some (.int x5), none, none] []) σ := by
  have hJ := hI
  obtain ⟨nf, ns, nr, ne, nl, nc, no, nt, nd, lo, ⟨⟨h10, h640, h91, h647⟩, ⟨e2, e5, e6, e7, e8, e10, e12, e13⟩, hJF, hJL, hJX, hJS⟩, ⟨hB1, hB2, hB3, hB4⟩, ⟨hC1, hC2, hC3, hC4⟩, ⟨hD1, hD2, hD3⟩, hE, hF, ⟨hG1, hG2⟩⟩ := hJ
  have hnf := hJF.1
  have hns := hJS.1
  have hb : ∀ m : Option (Int32 × rd_Sg), (m.bind fun q => some (q.1, q.2)) = m := fun m => by cases m <;> rfl
  have E1 := q_D_method_0 ρ σ x1 x2 x3 x4 x5
  rw [f_has ρ σ x1 h10] at E1
  simp only [Option.bind_some, hb] at E1
  have E2 : ∀ σ1 : rd_Sg, σ1 64 0 = nI nf → _ := fun σ1 (h : σ1 64 0 = nI nf) => by
    have := q_M_method_64 ρ σ1 x1 x2 x3 x4 x5
    rw [h, m_in0 ρ σ1 x1 (by omega)] at this
    simp only [Option.bind_some, q_M_in] at this
    exact this
  have E20 := E2 σ h640
  rcases hv_ix x1 (n := nf) (by omega) with h | ⟨f, hf, rfl⟩
  · exact Both.same (r := -1) hI (by rw [E1, if_pos h]) (by rw [E20, if_pos h])
  have hh := hv_in hf (show nf < 2 ^ 31 by omega)
  rw [hh, if_neg (by decide)] at E1 E20
  by_cases a1 : x2 < 0
  · exact Both.same (r := -1) hI (by rw [E1, if_pos a1]) (by rw [E20]; simp only [a1, if_true, Option.bind_some])
  by_cases a2 : 3 < x2
  · exact Both.same (r := -1) hI (by rw [E1, if_neg a1, if_pos a2]) (by rw [E20]; simp only [a1, a2, if_true, if_false, Option.bind_some])
  rw [if_neg a1, if_neg a2] at E1
  have hp : ∃ p, p < 4 ∧ x2 = nI p := by
    rcases pk_ix x2 (n := 4) (by decide) with q | q | q
    · exact absurd q a1
    · exact absurd q (Int32.not_le.mpr (Classical.not_not.mp fun w => a2 ((gt5 (n := 3) (by decide) (by decide) (by decide)).mpr (show ¬ x2 < 4 from fun v => w (by rw [show nI 4 = (4 : Int32) by decide]; exact v)))))
    · exact q
  obtain ⟨p, hp, rfl⟩ := hp
  rw [shl_nI (by omega)] at E1
  simp only [a1, a2, if_false, Option.bind_some, b10, shl_nI (show p < 31 by omega)] at E20
  have hpow : 2 ^ p ≤ 8 := by
    have : ∀ p, p < 4 → 2 ^ p ≤ 8 := by decide
    exact this p hp
  have hhi : ∀ x : Int32, nI (2 ^ p) - 1 < x ↔ ¬ x < nI (2 ^ p) := fun x => b_hi (by omega)
  by_cases a3 : x3 < 0
  · exact Both.same (r := -1) hI (by rw [E1, if_pos a3]) (by rw [E20]; simp only [a3, if_true, Option.bind_some])
  by_cases a4' : ¬ x3 < nI (2 ^ p)
  · have a4 := a4'
    exact Both.same (r := -1) hI (by rw [E1, if_neg a3, if_neg a4]) (by rw [E20]; simp only [a3, a4, hhi, not_false_eq_true, if_true, if_false, Option.bind_some])
  have a4 : x3 < nI (2 ^ p) := Classical.not_not.mp a4'
  rw [if_neg a3, if_pos a4] at E1
  simp only [a3, a4, hhi, not_true_eq_false, if_false, Option.bind_some, b10] at E20
  by_cases a5 : x4 < 0
  · exact Both.same (r := -1) hI (by rw [E1, if_pos a5]) (by rw [E20]; simp only [a5, if_true, Option.bind_some])
  by_cases a6 : 2 < x4
  · exact Both.same (r := -1) hI (by rw [E1, if_neg a5, if_pos a6]) (by rw [E20]; simp only [a5, a6, if_true, if_false, Option.bind_some])
  rw [if_neg a5, if_neg a6] at E1
  simp only [a5, a6, if_false, Option.bind_some, b10] at E20
  by_cases a7 : x5 < 0
  · exact Both.same (r := -1) hI (by rw [E1, if_pos a7]) (by rw [E20]; simp only [a7, if_true, Option.bind_some])
  by_cases a8 : 255 < x5
  · exact Both.same (r := -1) hI (by rw [E1, if_neg a7, if_pos a8]) (by rw [E20]; simp only [a7, a8, if_true, if_false, Option.bind_some])
  rw [if_neg a7, if_neg a8] at E1
  simp only [a7, a8, if_false, Option.bind_some, b10] at E20
  -- valid arguments
  have hpk : PK (nI p) x3 x4 x5 := by
    have c3 : ∃ j, j < 2 ^ p ∧ x3 = nI j := by
      rcases pk_ix x3 (n := 2 ^ p) (by omega) with q | q | q
      · exact absurd q a3
      · exact absurd a4 (Int32.not_lt.mpr q)
      · exact q
    have c4 : ∃ j, j < 3 ∧ x4 = nI j := by
      rcases pk_ix x4 (n := 3) (by decide) with q | q | q
      · exact absurd q a5
      · exact absurd ((gt5 (n := 2) (k' := 3) (by decide) (by decide) (by decide)).mpr (by rw [show (3 : Int32) = nI 3 by decide]; exact Int32.not_lt.mpr q)) a6
      · exact q
    have c5 : ∃ j, j < 256 ∧ x5 = nI j := by
      rcases pk_ix x5 (n := 256) (by decide) with q | q | q
      · exact absurd q a7
      · exact absurd ((gt5 (n := 255) (k' := 256) (by decide) (by decide) (by decide)).mpr (by rw [show (256 : Int32) = nI 256 by decide]; exact Int32.not_lt.mpr q)) a8
      · exact q
    obtain ⟨j3, k3, r3⟩ := c3
    obtain ⟨j4, k4, r4⟩ := c4
    obtain ⟨j5, k5, r5⟩ := c5
    exact ⟨p, j3, j4, j5, rfl, by omega, r3, k3, r4, by omega, r5, by omega⟩
  have hst : ∀ s, s < ns → ∃ f, f < nf ∧ σ 71 s = nI f := fun s hs => by
    obtain ⟨⟨g, k1, k2, -⟩, -⟩ := hJS.2.1 s hs
    exact ⟨g, k1, k2⟩
  obtain ⟨u1, hu1, hu1i, hr1⟩ := m_used1 ρ σ (f := f) hnf h640 (nI p) x3 x4 x5 nf 0 0 (by omega) (by omega)
  obtain ⟨u2, hu2, hu2i, hr2⟩ := m_used2 ρ σ hnf hf hns h647 hJF.2.2.2 hJL hst (nI p) x3 x4 x5 ns 0 u1 (by omega) hu1
  have hM : rd_R ρ 140 0 [some (.ref 64), some (.int (nI f)), some (.int (nI p)), some (.int x3), some (.int x4), some (.int x5), none, none] [] σ = mEnd σ f (nI p) x3 x4 x5 u2 := by
    rw [E20]
    exact hr1.trans hr2
  have hused : u2 = 1 ↔ ((∃ g, g < nf ∧ σ 65 g = nI f) ∨ ∃ s, s < ns ∧ σ 71 s = nI f) := by
    rw [hu2i, hu1i]
    constructor
    · rintro ((h | ⟨g, -, h1, h2⟩) | ⟨s, h, -, h2, h3, h4, h5⟩)
      · omega
      · exact Or.inl ⟨g, h1, h2⟩
      · rcases anc_child hJL hnf (h + 1) h (by omega) h3 h5 with e | e
        · exact Or.inr ⟨s, h2, by rw [e]; exact h4⟩
        · exact Or.inl e
    · rintro (⟨g, h1, h2⟩ | ⟨s, h1, h2⟩)
      · exact Or.inl (Or.inr ⟨g, Nat.zero_le _, h1, h2⟩)
      · obtain ⟨b, k1, k2, k3⟩ := hJL f hf
        exact Or.inr ⟨s, f, Nat.zero_le _, h1, hf, h2, by rw [k1, bt_nI (by omega)]; exact (k3 f).mpr (Or.inl rfl)⟩
  rw [q_X3_isFixed_1, b_chk (show f < 12 by omega) (by decide), nI_clamp (by omega)] at E1
  rcases hJX f (by omega) with ⟨hfix, hx⟩ | ⟨hfix, hx⟩
  · -- fixed
    refine Both.same (r := -2) hI ?_ ?_
    · rw [E1, hfix]
      simp only [Option.bind_some]
      rw [if_neg (by decide)]
    · rw [hM]
      unfold mEnd
      rw [hused.mpr hx, if_neg (by decide)]
  · have hu0 : u2 = 0 := by
      rcases Nat.eq_zero_or_pos u2 with q | q
      · exact q
      · exact absurd (hused.mp (by omega)) hx
    subst hu0
    obtain ⟨m, hm8, hme, -, -⟩ := hJF.2.2.1 f (by omega)
    rw [hfix] at E1
    simp only [Option.bind_some] at E1
    rw [if_pos (by decide), q_X3_addMethod_1, b_chk (show f < 12 by omega) (by decide), nI_clamp (by omega), e2, hme] at E1
    unfold mEnd at hM
    rw [if_pos (by decide), b_chk (show f < 12 by omega) (by decide), nI_clamp (by omega), hme] at hM
    have k8 : nI 8 = (8 : Int32) := by decide
    have p1 : nI f * 8 + nI m = nI (8 * f + m) := by rw [← k8, pk_mul, nI_add, Nat.mul_comm]
    have p2 : 8 * nI f + nI m = nI (8 * f + m) := by rw [← k8, pk_mul, nI_add]
    rcases Nat.lt_or_ge m 8 with hm | hm
    · rw [if_pos (lt_lit 8 8 (by decide) hm (by decide)), p1, nI_clamp (show 8 * f + m < 2 ^ 31 by omega)] at E1
      simp only [b_chk (show 8 * f + m < 96 by omega) (show 96 < 2 ^ 31 by decide), b_chk (show f < 12 by omega) (show 12 < 2 ^ 31 by decide), nI_1] at E1
      generalize hσ1 : rd_u (rd_u (rd_u (rd_u (rd_u σ 5 (8 * f + m) (nI p)) 6 (8 * f + m) x3) 7 (8 * f + m) x4) 8 (8 * f + m) x5) 2 f (nI (m + 1)) = σ1 at E1
      have c1 : ∀ c, 8 < c → σ1 c = σ c := fun c hc => by
        rw [← hσ1, b_une (by omega), b_une (by omega), b_une (by omega), b_une (by omega), b_une (by omega)]
      have c3 : σ1 3 = σ 3 := by rw [← hσ1, b_une (by omega), b_une (by omega), b_une (by omega), b_une (by omega), b_une (by omega)]
      obtain ⟨v1, hv1, hv1i, hs1⟩ := m_used1 ρ σ1 (f := f) hnf (by rw [c1 64 (by decide)]; exact h640) (nI p) x3 x4 x5 nf 0 0 (by omega) (by omega)
      obtain ⟨v2, hv2, hv2i, hs2⟩ := m_used2 ρ σ1 (f := f) hnf hf hns (by rw [c1 64 (by decide)]; exact h647) (by rw [c1 65 (by decide)]; exact hJF.2.2.2) (by rw [c1 65 (by decide), c3]; exact hJL) (by rw [c1 71 (by decide)]; exact hst) (nI p) x3 x4 x5 ns 0 v1 (by omega) hv1
      have hv : v2 = 0 := by
        rcases Nat.eq_zero_or_pos v2 with q | q
        · exact q
        · exfalso
          have q1 : v2 = 1 := by omega
          rw [hv2i, hv1i, c1 65 (by decide), c1 71 (by decide), c3, ← hu1i, ← hu2i] at q1
          omega
      subst hv
      have M1 := E2 σ1 (by rw [c1 64 (by decide)]; exact h640)
      rw [hh, if_neg (by decide)] at M1
      simp only [a1, a2, a3, a4, a5, a6, a7, a8, hhi, not_true_eq_false, if_false, Option.bind_some, b10, shl_nI (show p < 31 by omega)] at M1
      have M2 := M1.trans (hs1.trans hs2)
      unfold mEnd at M2
      rw [if_pos (by decide), b_chk (show f < 12 by omega) (by decide), nI_clamp (by omega), c1 66 (by decide), hme, if_neg (by intro e; have := (nI_eq (by omega) (by decide)).mp (e.trans k8.symm); omega), p2, nI_clamp (show 8 * f + m < 2 ^ 31 by omega), show nI m + 1 - 1 = nI m by rw [nI_1, nI_pred], nI_1] at M2
      simp only [b_chk (show 8 * f + m < 96 by omega) (show 96 < 2 ^ 31 by decide), b_chk (show f < 12 by omega) (show 12 < 2 ^ 31 by decide)] at M2
      refine ⟨_, _, _, E1, M2, ?_⟩
      subst hσ1
      have G : Grow ns ns nf nf (σ 71) (σ 71) (σ 66) (upd (σ 66) f (nI (m + 1))) (σ 67) (upd (σ 67) (8 * f + m) (nI p)) (σ 68) (upd (σ 68) (8 * f + m) x3) := by
        refine ⟨Nat.le_refl _, Nat.le_refl _, fun _ _ => rfl, fun s g hs hg hsg => ?_⟩
        have hne : g ≠ f := fun e => hx (Or.inr ⟨s, hs, by rw [← e]; exact hsg⟩)
        exact ⟨b_upn hne, fun i hi => ⟨b_upn (by omega), b_upn (by omega)⟩⟩
      refine ⟨nf, ns, nr, ne, nl, nc, no, nt, nd, lo, ?_⟩
      simp only [b_une, b_ueq, ne_eq, Nat.reduceEqDiff, not_false_eq_true, e2, e5, e6, e7, e8]
      exact ⟨⟨⟨h10, h640, h91, h647⟩, ⟨trivial, trivial, trivial, trivial, trivial, e10, e12, e13⟩, hJF.method hf hm hme hpk, hJL, hJX, hJS⟩, ⟨hB1, hB2, hB3.grow G, hB4.grow G hB3⟩, ⟨hC1, hC2, hC3.grow G, hC4⟩, ⟨hD1, hD2.grow G, hD3⟩, hE, hF, ⟨hG1, hG2.grow G⟩⟩
    · have : m = 8 := by omega
      subst this
      exact Both.same (r := -3) hI (by rw [E1, if_neg (by decide)]) (by rw [hM, if_pos (by decide)])
