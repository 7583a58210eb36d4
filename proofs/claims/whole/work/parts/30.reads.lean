variable {B : Nat}
/-! came, recorded, wrong, told, desk, count, clear, beside, order -/
theorem hb_id (m : Option (Int32 × rd_Sg)) : (m.bind fun q => some (q.1, q.2)) = m := by cases m <;> rfl
theorem hv_ite {α : Type} {x : Int32} {n : Nat} {a b : α} : (if x < 0 then a else if x < nI n then b else a) = if hv x n = 0 then a else b := by
  unfold hv
  by_cases h : x < 0
  · simp only [h, if_true]
  · by_cases h2 : x < nI n
    · simp only [h, h2, if_true, if_false, b10]
    · simp only [h, h2, if_true, if_false]
theorem m_in (ρ : Nat × (Nat → Int32)) (σ : rd_Sg) (x lo hi : Int32) : rd_R ρ 137 0 [some (.int x), some (.int lo), some (.int hi)] [] σ = some (if x < lo then 0 else if hi < x then 0 else 1, σ) := by
  rw [q_M_in]
  by_cases h : x < lo
  · simp only [h, if_true]
  · by_cases h2 : hi < x
    · simp only [h, h2, if_true, if_false]
    · simp only [h, h2, if_false]
theorem op_came (ρ : Nat × (Nat → Int32)) {σ : rd_Sg} (hI : Inv B σ) (x1 : Int32) : Both B (rd_R ρ 119 0 [some (.ref 0), some (.int x1)] []) (rd_R ρ 166 0 [some (.ref 64), some (.int x1)] []) σ := by
  have hJ := hI
  obtain ⟨nf, ns, nr, ne, nl, nc, no, nt, nd, lo, -, -, -, ⟨⟨-, -, -, h2, h3, -, c0, c1, c2, c3, -⟩, -⟩, -⟩ := hJ
  have E1 := q_D_came_0 ρ σ x1
  rw [q_X4_hasLatest_28] at E1
  simp only [Option.bind_some] at E1
  have E2 := q_M_came_64 ρ σ x1
  rw [m_inc ρ σ x1 3 (n := 4) (by decide) (by decide), ← h3] at E2
  simp only [Option.bind_some] at E2
  rcases h2 with h | h
  · rw [h] at E1 E2
    exact Both.same (r := -1001) hI (by rw [E1, if_pos (by decide)]) (by rw [E2, if_pos rfl])
  · rw [h, if_neg (by decide)] at E1 E2
    rcases hv_ix x1 (n := 4) (by decide) with q | ⟨j, hj, rfl⟩
    · have hne : ∀ k : Nat, k < 4 → ¬ x1 = nI k := fun k hk e => by
        rw [e, hv_in hk (by decide)] at q; cases q
      refine Both.same (r := -1001) hI ?_ (by rw [E2, if_pos q])
      rw [E1, if_neg (fun e => hne 0 (by decide) (e.trans (by decide))), if_neg (fun e => hne 1 (by decide) (e.trans (by decide))), if_neg (fun e => hne 2 (by decide) (e.trans (by decide))), if_neg (fun e => hne 3 (by decide) (e.trans (by decide)))]
    · rw [hv_in hj (by decide), if_neg (by decide), b_chk hj (by decide), nI_clamp (by omega)] at E2
      match j, hj with
      | 0, _ => exact Both.same hI (by rw [E1, if_pos (by decide)]) (by rw [E2, c0])
      | 1, _ => exact Both.same hI (by rw [E1, if_neg (by decide), if_pos (by decide)]) (by rw [E2, c1])
      | 2, _ => exact Both.same hI (by rw [E1, if_neg (by decide), if_neg (by decide), if_pos (by decide)]) (by rw [E2, c2])
      | 3, _ => exact Both.same hI (by rw [E1, if_neg (by decide), if_neg (by decide), if_neg (by decide), if_pos (by decide)]) (by rw [E2, c3])
theorem ixl {k : Int32} {kk : Nat} (hk : k = nI kk) {a b : Nat} : k * nI a + nI b = nI (kk * a + b) := by rw [hk, pk_mul, nI_add]
theorem ixr {k : Int32} {kk : Nat} (hk : k = nI kk) {a b : Nat} : nI a * k + nI b = nI (kk * a + b) := by rw [hk, pk_mul, nI_add, Nat.mul_comm]
theorem op_recorded (ρ : Nat × (Nat → Int32)) {σ : rd_Sg} (hI : Inv B σ) (x1 x2 : Int32) : Both B (rd_R ρ 120 0 [some (.ref 0), some (.int x1), some (.int x2)] []) (rd_R ρ 167 0 [some (.ref 64), some (.int x1), some (.int x2)] []) σ := by
  have hJ := hI
  obtain ⟨nf, ns, nr, ne, nl, nc, no, nt, nd, lo, -, -, -, ⟨⟨h0, h1, -, -, -, h29, -⟩, hJG, -⟩, -⟩ := hJ
  have hnl := hJG.1
  have E1 := q_D_recorded_0 ρ σ x1 x2
  rw [q_X4_size_28] at E1
  simp only [Option.bind_some, h0, hb_id, show (9 : Int32) = nI 9 by decide] at E1
  simp only [hv_ite] at E1
  have E2 := q_M_recorded_64 ρ σ x1 x2
  rw [h1, m_in0 ρ σ x1 (by omega)] at E2
  simp only [Option.bind_some] at E2
  rw [m_inc ρ σ x2 8 (n := 9) (by decide) (by decide)] at E2
  simp only [Option.bind_some] at E2
  rcases hv_ix x1 (n := nl) (by omega) with q | ⟨i, hi, rfl⟩
  · exact Both.same (r := -1001) hI (by rw [E1, if_pos q]) (by rw [E2, if_pos q])
  rw [hv_in hi (by omega), if_neg (by decide)] at E1 E2
  rcases hv_ix x2 (n := 9) (by decide) with q | ⟨j, hj, rfl⟩
  · exact Both.same (r := -1001) hI (by rw [E1, if_pos q]) (by rw [E2, if_pos q])
  rw [hv_in hj (by omega), if_neg (by decide)] at E1 E2
  rw [ixl (kk := 9) (by decide), b_chk (by omega) (by decide), nI_clamp (by omega)] at E2
  rw [q_X4_column_28, ixr (kk := 9) (by decide), b_chk (by omega) (by decide), nI_clamp (by omega), h29] at E1
  exact Both.same hI E1 E2
theorem op_wrong (ρ : Nat × (Nat → Int32)) {σ : rd_Sg} (hI : Inv B σ) (x1 x2 : Int32) : Both B (rd_R ρ 127 0 [some (.ref 0), some (.int x1), some (.int x2)] []) (rd_R ρ 180 0 [some (.ref 64), some (.int x1), some (.int x2)] []) σ := by
  have hJ := hI
  obtain ⟨nf, ns, nr, ne, nl, nc, no, nt, nd, lo, -, -, -, -, ⟨⟨nw, hnw, h0, h1⟩, h50⟩, -⟩ := hJ
  have E1 := q_D_wrong_0 ρ σ x1 x2
  rw [q_X10_size_49] at E1
  simp only [Option.bind_some, h0, hb_id, show (3 : Int32) = nI 3 by decide] at E1
  simp only [hv_ite] at E1
  have E2 := q_M_wrong_64 ρ σ x1 x2
  rw [h1, m_in0 ρ σ x1 (by omega)] at E2
  simp only [Option.bind_some] at E2
  rw [m_inc ρ σ x2 2 (n := 3) (by decide) (by decide)] at E2
  simp only [Option.bind_some] at E2
  rcases hv_ix x1 (n := nw) (by omega) with q | ⟨i, hi, rfl⟩
  · exact Both.same (r := -1) hI (by rw [E1, if_pos q]) (by rw [E2, if_pos q])
  rw [hv_in hi (by omega), if_neg (by decide)] at E1 E2
  rcases hv_ix x2 (n := 3) (by decide) with q | ⟨j, hj, rfl⟩
  · exact Both.same (r := -1) hI (by rw [E1, if_pos q]) (by rw [E2, if_pos q])
  rw [hv_in hj (by omega), if_neg (by decide)] at E1 E2
  rw [ixl (kk := 3) (by decide), b_chk (by omega) (by decide), nI_clamp (by omega)] at E2
  rw [q_X10_part_49, ixr (kk := 3) (by decide), b_chk (by omega) (by decide), nI_clamp (by omega), h50] at E1
  exact Both.same hI E1 E2
theorem op_told (ρ : Nat × (Nat → Int32)) {σ : rd_Sg} (hI : Inv B σ) (x1 : Int32) : Both B (rd_R ρ 132 0 [some (.ref 0), some (.int x1)] []) (rd_R ρ 189 0 [some (.ref 64), some (.int x1)] []) σ := by
  have hJ := hI
  obtain ⟨nf, ns, nr, ne, nl, nc, no, nt, nd, lo, -, -, -, -, -, -, ⟨⟨-, h63, hnt, h0, h1, -⟩, -⟩⟩ := hJ
  have E1 := q_D_told_0 ρ σ x1
  rw [q_X0_toldSize_56] at E1
  simp only [Option.bind_some, h0, hb_id] at E1
  simp only [hv_ite] at E1
  have E2 := q_M_told_64 ρ σ x1
  rw [h1, m_in0 ρ σ x1 (by omega)] at E2
  simp only [Option.bind_some] at E2
  rcases hv_ix x1 (n := nt) (by omega) with q | ⟨i, hi, rfl⟩
  · exact Both.same (r := -1001) hI (by rw [E1, if_pos q]) (by rw [E2, if_pos q])
  rw [hv_in hi (by omega), if_neg (by decide)] at E1 E2
  rw [b_chk (by omega) (by decide), nI_clamp (by omega)] at E2
  rw [q_X0_toldNumber_56, b_chk (by omega) (by decide), nI_clamp (by omega), h63] at E1
  exact Both.same hI E1 E2
theorem neg_lt {x : Int32} (h : x < 0) (k : Int32) {n : Nat} (hk : k = nI n) (hn : n < 2 ^ 31) : x < k := by
  rw [hk, Int32.lt_iff_toInt_lt, nI_toInt hn]
  rw [Int32.lt_iff_toInt_lt] at h
  have e0 : (0 : Int32).toInt = 0 := by decide
  omega
theorem op_desk (ρ : Nat × (Nat → Int32)) {σ : rd_Sg} (hI : Inv B σ) (x1 : Int32) : Both B (rd_R ρ 131 0 [some (.ref 0), some (.int x1)] []) (rd_R ρ 188 0 [some (.ref 64), some (.int x1)] []) σ := by
  have hJ := hI
  obtain ⟨nf, ns, nr, ne, nl, nc, no, nt, nd, lo, -, -, -, -, -, -, ⟨⟨h61, -⟩, hJB⟩⟩ := hJ
  have E1 := q_D_desk_0 ρ σ x1
  simp only [show (12 : Int32) = nI 12 by decide, hv_ite] at E1
  have E2 := q_M_desk_64 ρ σ x1
  rw [m_inc ρ σ x1 7 (n := 8) (by decide) (by decide)] at E2
  simp only [Option.bind_some, m_in] at E2
  rcases hv_ix x1 (n := 12) (by decide) with q | ⟨j, hj, rfl⟩
  · have q8 : hv x1 8 = 0 := by
      rcases hv_ix x1 (n := 8) (by decide) with w | ⟨j, hj, rfl⟩
      · exact w
      · rw [hv_in (show j < 12 by omega) (by decide)] at q; cases q
    refine Both.same (r := -1001) hI (by rw [E1, if_pos q]) ?_
    rw [E2, if_pos q8]
    have : (if x1 < 8 then (0 : Int32) else if 11 < x1 then 0 else 1) = 0 := by
      by_cases a : x1 < 8
      · rw [if_pos a]
      · rw [if_neg a, if_pos]
        rcases hv_out q with w | ⟨-, w⟩
        · exact absurd (neg_lt w 8 (n := 8) (by decide) (by decide)) a
        · exact (gt5 (n := 11) (k' := 12) (by decide) (by decide) (by decide)).mpr (by rw [show (12 : Int32) = nI 12 by decide]; exact w)
    rw [if_pos this]
  · rw [hv_in hj (by decide), if_neg (by decide)] at E1
    rcases Nat.lt_or_ge j 8 with h | h
    · rw [if_pos (lt_lit 8 8 (by decide) h (by decide)), b_chk h (by decide), nI_clamp (by omega), h61] at E1
      rw [hv_in h (by decide), if_neg (by decide), b_chk h (by decide), nI_clamp (by omega)] at E2
      exact Both.same hI E1 E2
    · have hn : ¬ nI j < 8 := by rw [show (8 : Int32) = nI 8 by decide]; exact nI_nlt h (by omega)
      have hs : nI j - 8 = nI (j - 8) := by rw [show (8 : Int32) = nI 8 by decide]; exact pk_sub h
      have h11 : ¬ (11 : Int32) < nI j := by rw [show (11 : Int32) = nI 11 by decide]; exact nI_nlt (by omega) (by decide)
      have q8 : hv (nI j) 8 = 0 := hv_big (nI_le h (by omega))
      rw [if_neg hn, hs, b_chk (by omega) (by decide), nI_clamp (by omega)] at E1
      rw [if_pos q8, if_neg hn, if_neg h11, if_neg (by decide), hs, b_chk (by omega) (by decide), nI_clamp (by omega)] at E2
      obtain ⟨-, ⟨w1, w2, -⟩ | ⟨w1, w2⟩⟩ := hJB
      · rw [w1, if_neg (by decide)] at E2
        rw [w2 (j - 8) (by omega)] at E1
        exact Both.same hI E1 E2
      · rw [w1, if_pos rfl] at E2
        rw [w2] at E1
        exact Both.same hI E1 E2
theorem op_clear (ρ : Nat × (Nat → Int32)) {σ : rd_Sg} (hI : Inv B σ) : Both B (rd_R ρ 129 0 [some (.ref 0)] []) (rd_R ρ 182 0 [some (.ref 64), none] []) σ := by
  obtain ⟨nf, ns, nr, ne, nl, nc, no, nt, nd, lo, hA, hB, hC, hD, hE, ⟨⟨h0, h1, hF1⟩, hF2⟩, hG⟩ := hI
  have E1 := q_D_clear_0 ρ σ
  rw [q_X1_removeAll_51] at E1
  simp only [Option.bind_some] at E1
  refine ⟨_, _, _, E1, by rw [q_M_clear_64, rd_un (by decide), h1, h0], ?_⟩
  refine ⟨nf, ns, nr, ne, nl, 0, no, nt, nd, lo, ?_⟩
  simp only [b_une, b_ueq, ne_eq, Nat.reduceEqDiff, not_false_eq_true, b_ups, b_upn]
  exact ⟨hA, hB, hC, hD, hE, ⟨⟨by decide, by decide, hF1⟩, ⟨Nat.zero_le _, fun i hi => absurd hi (Nat.not_lt_zero i)⟩⟩, hG⟩
theorem op_count (ρ : Nat × (Nat → Int32)) {σ : rd_Sg} (hI : Inv B σ) (x1 : Int32) : Both B (rd_R ρ 133 0 [some (.ref 0), some (.int x1)] []) (rd_R ρ 190 0 [some (.ref 64), some (.int x1)] []) σ := by
  have hJ := hI
  obtain ⟨nf, ns, nr, ne, nl, nc, no, nt, nd, lo, ⟨⟨h10, h640, h91, h647⟩, ⟨e2, -⟩, hJF, -⟩, ⟨⟨-, hb1, hb2⟩, -⟩, ⟨⟨-, hc1, hc2, hc3, hc4, -⟩, -⟩, ⟨⟨hd1, hd2, hd3, -⟩, -⟩, -, ⟨⟨hf1, hf2, -⟩, -⟩, ⟨⟨-, -, -, hg1, hg2, -, hg3, hg4⟩, -⟩⟩ := hJ
  have hnf := hJF.1
  have E1 := q_D_count_0 ρ σ x1
  simp only [hb_id, q_X3_size_1, q_X8_size_9, q_X5_size_15, q_X4_size_28, q_X4_lost_28, q_X5_size_34, q_X2_orders_33, q_X1_size_51, q_X0_cuesDone_56, q_X0_toldSize_56, h10, h91, hb1, hd1, hd3, hc1, hc3, hf1, hg3, hg1] at E1
  have E2 := q_M_count_64 ρ σ x1
  simp only [h640, h647, hb2, hd2, hc2, hc4, hf2, hg4, hg2, m_in, Option.bind_some] at E2
  have key : ∃ r, rd_R ρ 134 0 [some (.ref 0), some (.int x1)] [] σ = some (r, σ) ∧ (if (if x1 < 10 then (0 : Int32) else if 9 + nI nf < x1 then 0 else 1) = 0 then some ((-1 : Int32), σ) else rd_chk (x1 - 10) 12 (some (σ 66 (x1 - 10).toNatClampNeg, σ))) = some (r, σ) := by
    rw [q_D_countMethods_0]
    by_cases a : x1 < 10
    · exact ⟨-1, by rw [if_pos a], by rw [if_pos a, if_pos rfl]⟩
    · have hj : ∃ j : Nat, j < 2 ^ 31 ∧ x1 = nI j := nI_of (fun h => a (neg_lt h 10 (n := 10) (by decide) (by decide)))
      obtain ⟨j, hj, rfl⟩ := hj
      have hj10 : 10 ≤ j := by
        rcases Nat.lt_or_ge j 10 with q | q
        · exact absurd (lt_lit 10 10 (by decide) q (by decide)) a
        · exact q
      have hs : nI j - 10 = nI (j - 10) := by rw [show (10 : Int32) = nI 10 by decide]; exact pk_sub hj10
      have h9 : 9 + nI nf = nI (9 + nf) := by rw [show (9 : Int32) = nI 9 by decide, nI_add]
      rw [if_neg a, if_neg a, hs, h9, f_has ρ σ _ h10]
      simp only [Option.bind_some, hb_id]
      rcases Nat.lt_or_ge (j - 10) nf with q | q
      · rw [hv_in q (by omega), if_neg (by decide), if_neg (nI_nlt (by omega) (by omega)), if_neg (by decide), q_X3_methods_1, b_chk (by omega) (by decide), b_chk (by omega) (by decide), nI_clamp (by omega), e2]
        exact ⟨_, rfl, rfl⟩
      · rw [hv_big (nI_le q (by omega)), if_pos rfl, if_pos (nI_lt (by omega) hj), if_pos rfl]
        exact ⟨_, rfl, rfl⟩
  obtain ⟨r, k1, k2⟩ := key
  rw [k1] at E1
  rw [k2] at E2
  simp only [b_some] at E1 E2
  exact ⟨_, σ, σ, E1, E2, hI⟩
theorem op_beside (ρ : Nat × (Nat → Int32)) {σ : rd_Sg} (hI : Inv B σ) (x1 x2 : Int32) : Both B (rd_R ρ 124 0 [some (.ref 0), some (.int x1), some (.int x2)] []) (rd_R ρ 172 0 [some (.ref 64), some (.int x1), some (.int x2), none] []) σ := by
  have hJ := hI
  obtain ⟨nf, ns, nr, ne, nl, nc, no, nt, nd, lo, ⟨⟨h10, h640, h91, h647⟩, ⟨e2, e5, e6, e7, e8, e10, e12, e13⟩, hJF, hJL, hJX, hJS⟩, hB, hC, hD, hE, hF, hG⟩ := hJ
  have hns := hJS.1
  have E1 := q_D_beside_0 ρ σ x1 x2
  rw [s_has ρ σ x1 h91] at E1
  simp only [Option.bind_some] at E1
  rcases hv_ix x1 (n := ns) (by omega) with q | ⟨s, hs, rfl⟩
  · refine Both.same (r := -1) hI (by rw [E1, if_pos q]) ?_
    rw [q_M_beside_64, m_isStand ρ σ x1 h647 (by omega), q]
    rfl
  · rw [hv_in hs (by omega), if_neg (by decide), q_X8_setNoneBeside_9, b_chk (by omega) (by decide), b_chk (by omega) (by decide), nI_clamp (by omega)] at E1
    simp only [Option.bind_some, e13] at E1
    have hand : ∀ v : Int32, (v = 0 ∨ v = 1) → (v &&& 1 = 0 ↔ v = 0) := by
      rintro v (rfl | rfl) <;> decide
    have hz := hJS.2.2 s
    have M : rd_R ρ 172 0 [some (.ref 64), some (.int (nI s)), some (.int x2), none] [] (rd_u σ 13 s (x2 &&& 1)) = if σ 91 s = 0 then some (0, rd_u (rd_u σ 13 s (x2 &&& 1)) 91 s (x2 &&& 1)) else some (1, rd_u (rd_u σ 13 s (x2 &&& 1)) 91 s (x2 &&& 1)) := by
      rw [q_M_beside_64, m_isStand ρ _ _ (n := ns) (by rw [rd_un (by decide)]; exact h647) (by omega), hv_in hs (by omega)]
      simp only [Option.bind_some, b10, if_false]
      rw [b_chk (by omega) (by decide), nI_clamp (by omega), rd_un (by decide), b_chk (by omega) (by decide), b_chk (by omega) (by decide)]
    have hI2 : Inv B (rd_u (rd_u σ 13 s (x2 &&& 1)) 91 s (x2 &&& 1)) := by
      refine ⟨nf, ns, nr, ne, nl, nc, no, nt, nd, lo, ?_⟩
      simp only [b_une, b_ueq, ne_eq, Nat.reduceEqDiff, not_false_eq_true, e13]
      refine ⟨⟨⟨h10, h640, h91, h647⟩, ⟨e2, e5, e6, e7, e8, e10, e12, trivial⟩, hJF, hJL, hJX, ⟨hJS.1, hJS.2.1, fun t => ?_⟩⟩, hB, hC, hD, hE, hF, hG⟩
      by_cases e : t = s
      · subst e
        rw [b_ups]
        obtain ⟨j, hj, he⟩ := pk_andE x2 (m := 1) 1 (by decide)
        rw [he]
        match j, hj with
        | 0, _ => exact Or.inl (by decide)
        | 1, _ => exact Or.inr (by decide)
      · rw [b_upn e]; exact hJS.2.2 t
    by_cases hc : σ 91 s = 0
    · rw [if_pos ((hand _ hz).mpr hc)] at E1
      rw [if_pos hc] at M
      exact ⟨_, _, _, E1, M, hI2⟩
    · rw [if_neg (fun w => hc ((hand _ hz).mp w))] at E1
      rw [if_neg hc] at M
      exact ⟨_, _, _, E1, M, hI2⟩
theorem e_has (ρ : Nat × (Nat → Int32)) (σ : rd_Sg) (x : Int32) {n : Nat} (h : σ 34 3 = nI n) : rd_R ρ 56 0 [some (.ref 34), some (.int x)] [] σ = some (hv x n, σ) := by
  rw [q_X5_has_34, h]
  unfold hv
  split
  · rfl
  · split <;> rfl
theorem r_has (ρ : Nat × (Nat → Int32)) (σ : rd_Sg) (x : Int32) {n : Nat} (h : σ 15 3 = nI n) : rd_R ρ 56 0 [some (.ref 15), some (.int x)] [] σ = some (hv x n, σ) := by
  rw [q_X5_has_15, h]
  unfold hv
  split
  · rfl
  · split <;> rfl
theorem m_isExp (ρ : Nat × (Nat → Int32)) (σ : rd_Sg) (x : Int32) {n : Nat} (h : σ 64 32 = nI n) (hn : n < 2 ^ 30) : rd_R ρ 168 0 [some (.ref 64), some (.int x)] [] σ = some (hv x n, σ) := by
  rw [q_M_isExpectation_64, h, m_in0 ρ σ x hn]
  show some (hv x n &&& 1, σ) = _
  rw [hv_and]
theorem m_isRule (ρ : Nat × (Nat → Int32)) (σ : rd_Sg) (x : Int32) {n : Nat} (h : σ 64 16 = nI n) (hn : n < 2 ^ 30) : rd_R ρ 152 0 [some (.ref 64), some (.int x)] [] σ = some (hv x n, σ) := by
  rw [q_M_isRule_64, h, m_in0 ρ σ x hn]
  show some (hv x n &&& 1, σ) = _
  rw [hv_and]
theorem op_order (ρ : Nat × (Nat → Int32)) {σ : rd_Sg} (hI : Inv B σ) (x1 x2 : Int32) : Both B (rd_R ρ 123 0 [some (.ref 0), some (.int x1), some (.int x2), none] []) (rd_R ρ 171 0 [some (.ref 64), some (.int x1), some (.int x2)] []) σ := by
  have hJ := hI
  obtain ⟨nf, ns, nr, ne, nl, nc, no, nt, nd, lo, hA, hB, ⟨⟨k0, k1, k2, k3, k4, k5⟩, ⟨c1, c2, c3, c4⟩, hC3, hC4⟩, hD, hE, hF, hG⟩ := hJ
  have hne := hC3.1
  have E1 := q_D_order_0 ρ σ x1 x2
  rw [e_has ρ σ x1 k1] at E1
  simp only [Option.bind_some] at E1
  rw [e_has ρ σ x2 k1] at E1
  simp only [Option.bind_some, hb_id] at E1
  have E2 : ∀ σ1 : rd_Sg, σ1 64 32 = nI ne → _ := fun σ1 (h : σ1 64 32 = nI ne) => by
    have := q_M_order_64 ρ σ1 x1 x2
    rw [m_isExp ρ σ1 x1 h (by omega)] at this
    simp only [Option.bind_some] at this
    rw [m_isExp ρ σ1 x2 h (by omega)] at this
    simp only [Option.bind_some] at this
    exact this
  have E20 := E2 σ k2
  rcases hv_ix x1 (n := ne) (by omega) with q | ⟨a, ha, rfl⟩
  · exact Both.same (r := -1) hI (by rw [E1, if_pos q]) (by rw [E20, if_pos q])
  rw [hv_in ha (by omega), if_neg (by decide)] at E1 E20
  rcases hv_ix x2 (n := ne) (by omega) with q | ⟨b, hb, rfl⟩
  · exact Both.same (r := -1) hI (by rw [E1, if_pos q]) (by rw [E20, if_pos q])
  rw [hv_in hb (by omega), if_neg (by decide)] at E1 E20
  by_cases e : nI a = nI b
  · exact Both.same (r := -1) hI (by rw [E1, if_pos e]) (by rw [E20, if_pos e])
  rw [if_neg e] at E1 E20
  rcases Nat.lt_or_ge no 40 with hn | hn
  · rw [q_X2_addOrder_33, k3, if_pos (lt_lit 40 40 (by decide) hn (by decide)), b_chk hn (by decide), b_chk hn (by decide), nI_clamp (by omega), nI_1] at E1
    have M := E2 (rd_u (rd_u (rd_u σ 43 no (nI a)) 44 no (nI b)) 33 3 (nI (no + 1))) (by simp only [rd_un, ne_eq, Nat.reduceEqDiff, not_false_eq_true]; exact k2)
    rw [hv_in ha (by omega), if_neg (by decide), hv_in hb (by omega), if_neg (by decide), if_neg e] at M
    simp only [rd_un, ne_eq, Nat.reduceEqDiff, not_false_eq_true, k4] at M
    rw [if_neg (by intro e; have := (nI_eq (by omega) (by decide)).mp (e.trans (show (40 : Int32) = nI 40 by decide)); omega), b_chk hn (by decide), b_chk hn (by decide), nI_clamp (by omega), nI_1] at M
    refine ⟨_, _, _, E1, M, ?_⟩
    refine ⟨nf, ns, nr, ne, nl, nc, no + 1, nt, nd, lo, ?_⟩
    simp only [b_une, b_ueq, ne_eq, Nat.reduceEqDiff, not_false_eq_true, b_ups, b_upn, c3, c4]
    refine ⟨hA, hB, ⟨⟨k0, k1, k2, trivial, trivial, by omega⟩, ⟨c1, c2, trivial, trivial⟩, hC3, fun o ho => ?_⟩, hD, hE, hF, hG⟩
    by_cases eo : o = no
    · subst eo; rw [b_ups, b_ups]; exact ⟨a, b, ha, hb, rfl, rfl⟩
    · rw [b_upn eo, b_upn eo]; exact hC4 o (by omega)
  · have : no = 40 := by omega
    subst this
    refine Both.same (r := -3) hI ?_ ?_
    · rw [E1, q_X2_addOrder_33, k3, if_neg (by decide)]
    · rw [E20, k4, if_pos (by decide)]
