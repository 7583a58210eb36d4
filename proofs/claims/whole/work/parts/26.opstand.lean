variable {B : Nat}
theorem gt5 {x : Int32} {k k' : Int32} {n : Nat} (hk : k = nI n) (hk' : k' = nI (n + 1)) (hn : n < 2 ^ 30) : k < x ↔ ¬ x < k' := by
  rw [hk, hk', Int32.lt_iff_toInt_lt, Int32.lt_iff_toInt_lt, nI_toInt (by omega), nI_toInt (by omega)]
  omega
theorem small_cases {x : Int32} {n : Nat} (h1 : ¬ x < -1) (h2 : x < nI n) (hn : n < 2 ^ 31) : x = -1 ∨ ∃ t, t < n ∧ x = nI t := by
  rcases pk_ix x hn with h | h | h
  · left
    apply Int32.toInt_inj.mp
    have e1 : (-1 : Int32).toInt = -1 := by decide
    have e0 : (0 : Int32).toInt = 0 := by decide
    rw [Int32.lt_iff_toInt_lt, e1] at h1
    rw [Int32.lt_iff_toInt_lt, e0] at h
    omega
  · exact absurd h2 (Int32.not_lt.mpr h)
  · exact Or.inr h
theorem d_stand_add (ρ : Nat × (Nat → Int32)) (σ : rd_Sg) {f n : Nat} {x : Int32} (h : σ 9 1 = nI n) (hn : n < 24) (hf : f < 12) : rd_R ρ 89 0 [some (.ref 9), some (.int (nI f)), some (.int x), none] [] σ = some (nI n, rd_u (rd_u (rd_u (rd_u (rd_u σ 10 n (nI f)) 11 n (σ 3 f)) 12 n x) 4 f 1) 9 1 (nI (n + 1))) := by
  have e : (1 : Int32) &&& 1 = 1 := by decide
  rw [q_X8_add_9, h, if_pos (lt_lit 24 24 (by decide) hn (by decide)), b_chk hn (by decide), nI_clamp (by omega), q_X3_lineage_1, b_chk hf (by decide), nI_clamp (by omega), rd_un (by decide)]
  simp only [Option.bind_some]
  rw [b_chk hn (by decide), b_chk hn (by decide), q_X3_fix_1, b_chk hf (by decide), nI_clamp (by omega), e]
  simp only [Option.bind_some, rd_un, ne_eq, Nat.reduceEqDiff, not_false_eq_true]
  rw [h, nI_1]
theorem JX.stand {nf ns f : Nat} {bel sf fix : Nat → Int32} (h : JX nf ns bel sf fix) (hf : f < 12) : JX nf (ns + 1) bel (upd sf ns (nI f)) (upd fix f 1) := by
  intro g hg
  by_cases e : g = f
  · subst e
    rw [b_ups]
    exact Or.inl ⟨rfl, Or.inr ⟨ns, by omega, b_ups⟩⟩
  · rw [b_upn e]
    have e2 : (∃ s, s < ns + 1 ∧ upd sf ns (nI f) s = nI g) ↔ ∃ s, s < ns ∧ sf s = nI g := by
      constructor
      · rintro ⟨s, h1, h2⟩
        by_cases q : s = ns
        · subst q; rw [b_ups] at h2; exact absurd ((nI_eq (by omega) (by omega)).mp h2).symm e
        · rw [b_upn q] at h2; exact ⟨s, by omega, h2⟩
      · rintro ⟨s, h1, h2⟩
        exact ⟨s, by omega, by rw [b_upn (by omega)]; exact h2⟩
    rw [e2]
    exact h g hg
theorem JS.stand {nf ns f : Nat} {sf st sl lin nb : Nat → Int32} {x : Int32} (h : JS nf ns sf st sl lin nb) (hn : ns < 24) (hf : f < nf) (hx : x = -1 ∨ ∃ t, t < 6 ∧ x = nI t) : JS nf (ns + 1) (upd sf ns (nI f)) (upd st ns x) (upd sl ns (lin f)) lin nb := by
  obtain ⟨h1, h2, h3⟩ := h
  refine ⟨by omega, fun s hs => ?_, h3⟩
  by_cases e : s = ns
  · subst e
    rw [b_ups, b_ups, b_ups]
    exact ⟨⟨f, hf, rfl, rfl⟩, hx⟩
  · rw [b_upn e, b_upn e, b_upn e]
    exact h2 s (by omega)
set_option maxHeartbeats 4000000 in
theorem op_stand (ρ : Nat × (Nat → Int32)) {σ : rd_Sg} (hI : Inv B σ) (x1 x2 : Int32) : Both B (rd_R ρ 110 0 [some (.ref 0), some (.int x1), some (.int x2)] []) (rd_R ρ 141 0 [some (.ref 64), some (.int x1), some (.int x2)] []) σ := by
  have hJ := hI
  obtain ⟨nf, ns, nr, ne, nl, nc, no, nt, nd, lo, ⟨⟨h10, h640, h91, h647⟩, ⟨e2, e5, e6, e7, e8, e10, e12, e13⟩, hJF, hJL, hJX, hJS⟩, ⟨hB1, hB2, hB3, hB4⟩, ⟨hC1, hC2, hC3, hC4⟩, ⟨hD1, hD2, hD3⟩, hE, hF, ⟨hG1, hG2⟩⟩ := hJ
  have hnf := hJF.1
  have hns := hJS.1
  have h5 : (5 : Int32) < x2 ↔ ¬ x2 < 6 := gt5 (n := 5) (by decide) (by decide) (by decide)
  have e1 : rd_R ρ 110 0 [some (.ref 0), some (.int x1), some (.int x2)] [] σ = if hv x1 nf = 0 then some (-1, σ) else if x2 < -1 then some (-1, σ) else if x2 < 6 then rd_R ρ 89 0 [some (.ref 9), some (.int x1), some (.int x2), none] [] σ else some (-1, σ) := by
    have hb : ∀ m : Option (Int32 × rd_Sg), (m.bind fun q => some (q.1, q.2)) = m := fun m => by cases m <;> rfl
    rw [q_D_stand_0, f_has ρ σ x1 h10]
    simp only [Option.bind_some, hb]
  have e2' : rd_R ρ 141 0 [some (.ref 64), some (.int x1), some (.int x2)] [] σ = if hv x1 nf = 0 then some (-1, σ) else if x2 < -1 then some (-1, σ) else if x2 < 6 then (if σ 64 7 = 24 then some (-3, σ) else rd_chk (σ 64 7) 24 (rd_chk (σ 64 7) 24 (some (σ 64 7 + 1 - 1, rd_u (rd_u (rd_u σ 71 (σ 64 7).toNatClampNeg x1) 72 (σ 64 7).toNatClampNeg x2) 64 7 (σ 64 7 + 1))))) else some (-1, σ) := by
    rw [q_M_stand_64, h640, m_in0 ρ σ x1 (by omega)]
    simp only [Option.bind_some, q_M_in]
    by_cases a : hv x1 nf = 0
    · simp only [a, if_true]
    · simp only [a, if_false]
      by_cases b : x2 < -1
      · simp only [b, if_true, Option.bind_some]
      · by_cases d : x2 < 6
        · simp only [b, d, h5, if_true, if_false, not_true_eq_false, Option.bind_some, b10]
        · simp only [b, d, h5, if_true, if_false, not_false_eq_true, Option.bind_some]
  rcases hv_ix x1 (n := nf) (by omega) with h | ⟨f, hf, rfl⟩
  · exact Both.same (r := -1) hI (by rw [e1, if_pos h]) (by rw [e2', if_pos h])
  · have hh := hv_in hf (show nf < 2 ^ 31 by omega)
    rw [hh, if_neg (by decide)] at e1 e2'
    by_cases b : x2 < -1
    · exact Both.same (r := -1) hI (by rw [e1, if_pos b]) (by rw [e2', if_pos b])
    · rw [if_neg b] at e1 e2'
      by_cases d : x2 < 6
      · rw [if_pos d] at e1 e2'
        rcases Nat.lt_or_ge ns 24 with hn | hn
        · rw [d_stand_add ρ σ h91 hn (by omega)] at e1
          have hx : x2 = -1 ∨ ∃ t, t < 6 ∧ x2 = nI t := small_cases b (by rw [show nI 6 = (6 : Int32) by decide]; exact d) (by decide)
          generalize hσ1 : rd_u (rd_u (rd_u (rd_u (rd_u σ 10 ns (nI f)) 11 ns (σ 3 f)) 12 ns x2) 4 f 1) 9 1 (nI (ns + 1)) = σ1 at e1
          have g640 : σ1 64 0 = nI nf := by rw [← hσ1]; simp only [rd_un, ne_eq, Nat.reduceEqDiff, not_false_eq_true]; exact h640
          have g647 : σ1 64 7 = nI ns := by rw [← hσ1]; simp only [rd_un, ne_eq, Nat.reduceEqDiff, not_false_eq_true]; exact h647
          have m2 : rd_R ρ 141 0 [some (.ref 64), some (.int (nI f)), some (.int x2)] [] σ1 = some (nI ns, rd_u (rd_u (rd_u σ1 71 ns (nI f)) 72 ns x2) 64 7 (nI (ns + 1))) := by
            rw [q_M_stand_64, g640, m_in0 ρ σ1 _ (by omega), hh]
            simp only [Option.bind_some, b10, if_false, q_M_in, b, h5, d, not_true_eq_false]
            rw [g647, if_neg (by intro e; have := (nI_eq (by omega) (by decide)).mp (e.trans (show (24 : Int32) = nI 24 by decide)); omega), b_chk hn (by decide), b_chk hn (by decide), nI_clamp (by omega), show nI ns + 1 - 1 = nI ns by rw [nI_1, nI_pred], nI_1]
          refine ⟨_, _, _, e1, m2, ?_⟩
          subst hσ1
          have G : Grow ns (ns + 1) nf nf (σ 71) (upd (σ 71) ns (nI f)) (σ 66) (σ 66) (σ 67) (σ 67) (σ 68) (σ 68) := ⟨by omega, Nat.le_refl _, fun s hs => b_upn (by omega), fun _ _ _ _ _ => ⟨rfl, fun _ _ => ⟨rfl, rfl⟩⟩⟩
          refine ⟨nf, ns + 1, nr, ne, nl, nc, no, nt, nd, lo, ?_⟩
          simp only [b_une, b_ueq, ne_eq, Nat.reduceEqDiff, not_false_eq_true, b_ups, b_upn, e10, e12]
          exact ⟨⟨⟨h10, h640, trivial, trivial⟩, ⟨e2, e5, e6, e7, e8, trivial, trivial, e13⟩, hJF, hJL, hJX.stand (by omega), hJS.stand hn hf hx⟩, ⟨hB1, hB2, hB3.grow G, hB4.grow G hB3⟩, ⟨hC1, hC2, hC3.grow G, hC4⟩, ⟨hD1, hD2.grow G, hD3⟩, hE, hF, ⟨hG1, hG2.grow G⟩⟩
        · have : ns = 24 := by omega
          subst this
          refine Both.same (r := -3) hI ?_ ?_
          · rw [e1, q_X8_add_9, h91, if_neg (by decide)]
          · rw [e2', h647, if_pos (by decide)]
      · exact Both.same (r := -1) hI (by rw [e1, if_neg d]) (by rw [e2', if_neg d])
