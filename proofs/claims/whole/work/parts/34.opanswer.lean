variable {B : Nat}
/-! answer, caught -/
def avF (c : Nat) (x : Int32) (ns p : Nat) : Int32 := match c with
  | 0 => 1
  | 1 => if x = -1 then 1 else hv x ns
  | 2 => hv x 8
  | 3 => 1
  | 4 => hv x p
  | 5 => 1
  | _ => 0
theorem lit6 {x : Int32} {c : Nat} (h : x = nI c) (hc : c < 6) : (c = 0 ∧ x = 0) ∨ (c = 1 ∧ x = 1) ∨ (c = 2 ∧ x = 2) ∨ (c = 3 ∧ x = 3) ∨ (c = 4 ∧ x = 4) ∨ (c = 5 ∧ x = 5) := by
  rcases lit7 h (by omega) with h | h | h | h | h | h | h
  · exact Or.inl h
  · exact Or.inr (Or.inl h)
  · exact Or.inr (Or.inr (Or.inl h))
  · exact Or.inr (Or.inr (Or.inr (Or.inl h)))
  · exact Or.inr (Or.inr (Or.inr (Or.inr (Or.inl h))))
  · exact Or.inr (Or.inr (Or.inr (Or.inr (Or.inr h))))
  · omega
theorem hv8 (x : Int32) : (if x < 0 then (0 : Int32) else if 7 < x then 0 else 1) = hv x 8 := by
  have h7 : (7 : Int32) < x ↔ ¬ x < nI 8 := by
    rw [show nI 8 = (8 : Int32) by decide]
    exact gt5 (n := 7) (by decide) (by decide) (by decide)
  unfold hv
  by_cases h : x < 0
  · rw [if_pos h, if_pos h]
  · rw [if_neg h, if_neg h]
    by_cases h2 : x < nI 8
    · rw [if_neg (fun q => h7.mp q h2), if_pos h2]
    · rw [if_pos (h7.mpr h2), if_neg h2]
theorem d_isAns (ρ : Nat × (Nat → Int32)) (σ : rd_Sg) {r c ns p sg : Nat} {x : Int32} (hr : r < 80) (h18 : σ 18 r = nI sg) (hsg : sg < 96) (h5 : σ 5 sg = nI p) (h91 : σ 9 1 = nI ns) (hc : c < 6) : rd_R ρ 66 0 [some (.ref 14), some (.int (nI r)), some (.int (nI c)), some (.int x)] [] σ = some (avF c x ns p, σ) := by
  have hb : ∀ v : Int32, (v = 0 ∨ v = 1) → (if v = 0 then some ((0 : Int32), σ) else some ((1 : Int32), σ)) = some (v, σ) := by
    rintro v (rfl | rfl)
    · rfl
    · rfl
  have E := q_X6_isAnswer_14 ρ σ (nI r) (nI c) x
  rw [s_has ρ σ x h91, q_X5_signature_15, b_chk hr (by decide), nI_clamp (by omega), h18] at E
  simp only [Option.bind_some, hb _ (hv01 x ns)] at E
  rw [f_takes ρ σ hsg h5] at E
  simp only [Option.bind_some, hv_and, b_some, hv8] at E
  rw [E]
  clear E
  generalize hx : nI c = y
  rcases lit6 hx.symm hc with ⟨rfl, rfl⟩ | ⟨rfl, rfl⟩ | ⟨rfl, rfl⟩ | ⟨rfl, rfl⟩ | ⟨rfl, rfl⟩ | ⟨rfl, rfl⟩
  · simp only [avF, if_true, if_false]
  · simp only [l_1_0, avF, if_true, if_false]
  · simp only [l_2_0, l_2_1, avF, if_true, if_false]
  · simp only [l_3_0, l_3_1, l_3_2, avF, if_true, if_false]
  · simp only [l_4_0, l_4_1, l_4_2, l_4_3, avF, if_true, if_false]
  · simp only [l_5_0, l_5_1, l_5_2, l_5_3, l_5_4, avF, if_true, if_false]
theorem d_isAns_no (ρ : Nat × (Nat → Int32)) (σ : rd_Sg) {y x z : Int32} (h : hv y 6 = 0) : rd_R ρ 66 0 [some (.ref 14), some (.int z), some (.int y), some (.int x)] [] σ = some (0, σ) := by
  have hne : ∀ k : Nat, k < 6 → ¬ y = nI k := fun k hk e => by
    rw [e, hv_in hk (by decide)] at h; cases h
  rw [q_X6_isAnswer_14, if_neg (fun e => hne 0 (by decide) (e.trans (by decide))), if_neg (fun e => hne 1 (by decide) (e.trans (by decide))), if_neg (fun e => hne 2 (by decide) (e.trans (by decide))), if_neg (fun e => hne 3 (by decide) (e.trans (by decide))), if_neg (fun e => hne 4 (by decide) (e.trans (by decide))), if_neg (fun e => hne 5 (by decide) (e.trans (by decide)))]
theorem m_in_st (ρ : Nat × (Nat → Int32)) (σ : rd_Sg) {x : Int32} {n : Nat} (hn : n < 2 ^ 30) : rd_R ρ 137 0 [some (.int x), some (.int (-1)), some (.int (nI n - 1))] [] σ = some (if x = -1 then 1 else hv x n, σ) := by
  by_cases hx : x = -1
  · subst hx
    rw [m_in_m1 ρ σ hn, if_pos rfl]
  · rw [if_neg hx]
    rcases hv_ix x (n := n) (by omega) with q | ⟨j, hj, rfl⟩
    · rw [m_in_no ρ σ hx q hn, q]
    · rw [m_in_j ρ σ hj hn, hv_in hj (by omega)]
/-- the model's answer, its checks done -/
theorem m_ans (ρ : Nat × (Nat → Int32)) (σ : rd_Sg) {r s m f p ns nr : Nat} {x2 x : Int32} (hr : r < nr) (hnr : nr ≤ 80) (h16 : σ 64 16 = nI nr) (h74 : σ 74 r = nI s) (h75 : σ 75 r = nI m) (hs : s < 24) (hf : σ 71 s = nI f) (hfm : 8 * f + m < 96) (h67 : σ 67 (8 * f + m) = nI p) (hp : p ≤ 3) (h647 : σ 64 7 = nI ns) (hns : ns ≤ 24) :
    (hv x2 6 = 0 → rd_R ρ 155 0 [some (.ref 64), some (.int (nI r)), some (.int x2), some (.int x), none] [] σ = some (-1, σ)) ∧
    ∀ c, c < 6 → x2 = nI c → rd_R ρ 155 0 [some (.ref 64), some (.int (nI r)), some (.int x2), some (.int x), none] [] σ = if avF c x ns p = 0 then some (-1, σ) else rd_R ρ 155 56 [some (.ref 64), some (.int (nI r)), some (.int x2), some (.int x), some (.int (nI p))] [] σ := by
  have E := q_M_answer_64 ρ σ (nI r) x2 x
  rw [m_isRule ρ σ _ h16 (by omega), hv_in hr (by omega)] at E
  simp only [Option.bind_some, b10, if_false] at E
  rw [m_inc ρ σ x2 5 (n := 6) (by decide) (by decide)] at E
  simp only [Option.bind_some] at E
  rw [b_chk (by omega) (by decide), b_chk (by omega) (by decide), nI_clamp (by omega), h74, h75, m_methodAt ρ σ hs hf] at E
  simp only [Option.bind_some] at E
  rw [b_chk hfm (by decide), nI_clamp (by omega), h67, h647, m_in_st ρ σ (by omega)] at E
  simp only [Option.bind_some] at E
  constructor
  · intro h
    rw [E, if_pos h]
  · intro c hc e2
    have h6 : hv x2 6 = 1 := by rw [e2]; exact hv_in hc (by decide)
    rw [E, h6, if_neg (by decide), q_M_answer_64_at36, m_inc ρ σ x 7 (n := 8) (by decide) (by decide)]
    simp only [Option.bind_some]
    rw [q_M_answer_64_at44, m_in0 ρ σ x (by omega)]
    simp only [Option.bind_some]
    clear E
    rcases lit6 e2 hc with ⟨rfl, rfl⟩ | ⟨rfl, rfl⟩ | ⟨rfl, rfl⟩ | ⟨rfl, rfl⟩ | ⟨rfl, rfl⟩ | ⟨rfl, rfl⟩
    · simp only [l_0_1, l_0_2, l_0_4, avF, if_true, if_false, b10]
    · simp only [l_1_2, l_1_4, avF, if_true, if_false, b10]
    · simp only [l_2_1, l_2_4, avF, if_true, if_false, b10]
    · simp only [l_3_1, l_3_2, l_3_4, avF, if_true, if_false, b10]
    · simp only [l_4_1, l_4_2, avF, if_true, if_false, b10]
    · simp only [l_5_1, l_5_2, l_5_4, avF, if_true, if_false, b10]
theorem avF_1 {c : Nat} {x : Int32} {ns p : Nat} (h : ¬ avF c x ns p = 0) (hc : c = 1) (hn : ns < 2 ^ 31) : StV ns x := by
  subst hc
  unfold avF at h
  by_cases hx : x = -1
  · exact Or.inl hx
  · rw [if_neg hx] at h
    rcases hv_ix x hn with q | q
    · exact absurd q h
    · exact Or.inr q
theorem avF_4 {c : Nat} {x : Int32} {ns p : Nat} (h : ¬ avF c x ns p = 0) (hc : c = 4) (hp : p ≤ 3) : ∃ v, v < 3 ∧ x = nI v ∧ v < p := by
  subst hc
  unfold avF at h
  rcases hv_ix x (n := p) (by omega) with q | ⟨v, h1, h2⟩
  · exact absurd q h
  · exact ⟨v, by omega, h2, h1⟩
set_option maxHeartbeats 4000000 in
theorem op_answer (ρ : Nat × (Nat → Int32)) {σ : rd_Sg} (hI : Inv B σ) (x1 x2 x3 : Int32) : Both B (rd_R ρ 115 0 [some (.ref 0), some (.int x1), some (.int x2), some (.int x3)] []) (rd_R ρ 155 0 [some (.ref 64), some (.int x1), some (.int x2), some (.int x3), none] []) σ := by
  have hJ := hI
  obtain ⟨nf, ns, nr, ne, nl, nc, no, nt, nd, lo, ⟨⟨h10, h640, h91, h647⟩, ⟨e2, e5, e6, e7, e8, e10, e12, e13⟩, hJF, hJL, hJX, hJS⟩, ⟨⟨r0, r1, r2⟩, ⟨c1, c2, c3, c4, c5⟩, hB3, hB4⟩, hC, hD, hE, hF, hG⟩ := hJ
  have hns := hJS.1
  have hnr := hB3.1
  have E1 := q_D_answer_0 ρ σ x1 x2 x3
  rw [r_has ρ σ x1 r1] at E1
  simp only [Option.bind_some, hb_id] at E1
  rcases hv_ix x1 (n := nr) (by omega) with q | ⟨r, hr, rfl⟩
  · refine Both.same (r := -1) hI (by rw [E1, if_pos q]) ?_
    rw [q_M_answer_64, m_isRule ρ σ x1 r2 (by omega), q]; rfl
  rw [hv_in hr (by omega), if_neg (by decide)] at E1
  obtain ⟨s, m, sg, hsig, -, p2, -, p4, p5, -⟩ := hB3.2.1 r hr
  rw [Nat.zero_add] at p2 p4
  have hlt := hsig.lt
  obtain ⟨hs, f, cc, hf12, hsf, hme, hcc, hmc, hsg⟩ := id hsig
  obtain ⟨p, sb, -, -, w1, w2, -, -, -⟩ := hJF.2.1 sg hlt.1
  have MP : ∀ σ1 : rd_Sg, (∀ c, 63 < c → σ1 c = σ c) → _ := fun σ1 (co : ∀ c, 63 < c → σ1 c = σ c) => m_ans ρ σ1 (r := r) (s := s) (m := m) (f := f) (p := p) (ns := ns) (nr := nr) (x2 := x2) (x := x3) hr hnr (by rw [co 64 (by decide)]; exact r2) (by rw [co 74 (by decide)]; exact p2) (by rw [co 75 (by decide)]; exact p4) (by omega) (by rw [co 71 (by decide)]; exact hsf) (by omega) (by rw [co 67 (by decide), ← hsg]; exact w1) w2 (by rw [co 64 (by decide)]; exact h647) hns
  rcases hv_ix x2 (n := 6) (by decide) with q | ⟨c, hc, e2x⟩
  · exact Both.same (r := -1) hI (by rw [E1, d_isAns_no ρ σ q]; rfl) ((MP σ (fun _ _ => rfl)).1 q)
  have D : rd_R ρ 66 0 [some (.ref 14), some (.int (nI r)), some (.int x2), some (.int x3)] [] σ = some (avF c x3 ns p, σ) := by
    rw [e2x]
    exact d_isAns ρ σ (by omega) p5 hlt.1 (by rw [e5]; exact w1) h91 hc
  rw [D] at E1
  simp only [Option.bind_some] at E1
  have M0 := (MP σ (fun _ _ => rfl)).2 c hc e2x
  by_cases hav : avF c x3 ns p = 0
  · exact Both.same (r := -1) hI (by rw [E1, if_pos hav]) (by rw [M0, if_pos hav])
  rw [if_neg hav] at E1 M0
  obtain ⟨a, t, ha6, han, ht, htu, hca, hge, hk⟩ := hB4.1 r (by omega)
  rw [q_X6_addAnswer_14, b_chk (show r < 80 by omega) (by decide), nI_clamp (by omega), c1, han] at E1
  rw [q_M_answer_64_at56, b_chk (show r < 80 by omega) (by decide), nI_clamp (by omega), han] at M0
  rcases Nat.lt_or_ge a 6 with ha | ha
  · rw [if_pos (lt_lit 6 6 (by decide) ha (by decide)), ixr (kk := 6) (by decide), nI_clamp (by omega), nI_1] at E1
    simp only [b_chk (show 6 * r + a < 480 by omega) (show 480 < 2 ^ 31 by decide), b_chk (show r < 80 by omega) (show 80 < 2 ^ 31 by decide)] at E1
    generalize hσ1 : rd_u (rd_u (rd_u σ 23 (6 * r + a) x2) 24 (6 * r + a) x3) 22 r (nI (a + 1)) = σ1 at E1
    have co : ∀ c, 63 < c → σ1 c = σ c := fun c hc => by
      rw [← hσ1, b_une (by omega), b_une (by omega), b_une (by omega)]
    have M := (MP σ1 co).2 c hc e2x
    rw [if_neg hav, q_M_answer_64_at56, b_chk (show r < 80 by omega) (by decide), nI_clamp (by omega), co 79 (by decide), han, if_neg (by intro e; have := (nI_eq (by omega) (by decide)).mp (e.trans (show (6 : Int32) = nI 6 by decide)); omega), ixl (kk := 6) (by decide), nI_clamp (by omega), nI_1] at M
    simp only [b_chk (show 6 * r + a < 480 by omega) (show 480 < 2 ^ 31 by decide), b_chk (show r < 80 by omega) (show 80 < 2 ^ 31 by decide)] at M
    refine ⟨_, _, _, E1, M, ?_⟩
    subst hσ1
    refine ⟨nf, ns, nr, ne, nl, nc, no, nt, nd, lo, ?_⟩
    simp only [b_une, b_ueq, ne_eq, Nat.reduceEqDiff, not_false_eq_true, c1, c2, c3]
    refine ⟨⟨⟨h10, h640, h91, h647⟩, ⟨e2, e5, e6, e7, e8, e10, e12, e13⟩, hJF, hJL, hJX, hJS⟩, ⟨⟨r0, r1, r2⟩, ⟨trivial, trivial, trivial, c4, c5⟩, hB3, ?_⟩, hC, hD, hE, hF, hG⟩
    refine ⟨fun q hq => ?_, hB4.2⟩
    by_cases e : q = r
    · subst e
      refine ⟨a + 1, t, by omega, b_ups, ht, htu, hca, fun w => by omega, fun k hkk => ?_⟩
      by_cases e3 : k = a
      · subst e3
        rw [b_ups, b_ups]
        refine ⟨?_, ?_, ?_⟩
        · intro h1
          have : c = 1 := (nI_eq (by omega) (by decide)).mp (e2x.symm.trans (h1.trans (show (1 : Int32) = nI 1 by decide)))
          exact avF_1 hav this (by omega)
        · intro h1
          have : c = 4 := (nI_eq (by omega) (by decide)).mp (e2x.symm.trans (h1.trans (show (4 : Int32) = nI 4 by decide)))
          obtain ⟨v, v1, v2, v3⟩ := avF_4 hav this w2
          exact ⟨v, v1, v2, sg, hlt.1, p5, by rw [w1]; exact nI_lt v3 (by omega)⟩
        · intro h1
          have : c = 2 := (nI_eq (by omega) (by decide)).mp (e2x.symm.trans (h1.trans (show (2 : Int32) = nI 2 by decide)))
          subst this
          exact (hv_ix x3 (n := 8) (by decide)).resolve_left hav
      · rw [b_upn (by omega), b_upn (by omega)]
        exact hk k (by omega)
    · obtain ⟨a', t', g1, g2, g3, g4, g5, g6, g7⟩ := hB4.1 q hq
      refine ⟨a', t', g1, by rw [b_upn e]; exact g2, g3, g4, g5, g6, fun k hkk => ?_⟩
      rw [b_upn (by omega), b_upn (by omega)]
      exact g7 k hkk
  · have : a = 6 := by omega
    subst this
    exact Both.same (r := -3) hI (by rw [E1, if_neg (by decide)]) (by rw [M0, if_pos (by decide)])
theorem op_caught (ρ : Nat × (Nat → Int32)) {σ : rd_Sg} (hI : Inv B σ) (x1 x2 : Int32) : Both B (rd_R ρ 116 0 [some (.ref 0), some (.int x1), some (.int x2)] []) (rd_R ρ 156 0 [some (.ref 64), some (.int x1), some (.int x2)] []) σ := by
  have hJ := hI
  obtain ⟨nf, ns, nr, ne, nl, nc, no, nt, nd, lo, ⟨⟨h10, h640, h91, h647⟩, ⟨e2, e5, e6, e7, e8, e10, e12, e13⟩, hJF, hJL, hJX, hJS⟩, ⟨⟨r0, r1, r2⟩, ⟨c1, c2, c3, c4, c5⟩, hB3, hB4⟩, hC, hD, hE, hF, hG⟩ := hJ
  have hns := hJS.1
  have hnr := hB3.1
  have hb : ∀ v : Int32, (v = 0 ∨ v = 1) → (if v = 0 then some ((0 : Int32), σ) else some ((1 : Int32), σ)) = some (v, σ) := by
    rintro v (rfl | rfl)
    · rfl
    · rfl
  rcases hv_ix x1 (n := nr) (by omega) with q | ⟨r, hr, rfl⟩
  · refine Both.same (r := -1001) hI ?_ ?_
    · rw [q_D_caught_0, q_X5_hasParameter_15, r_has ρ σ x1 r1, q]; rfl
    · rw [q_M_caught_64, m_isRule ρ σ x1 r2 (by omega), q]; rfl
  obtain ⟨s, m, sg, hsig, -, p2, -, p4, p5, p6⟩ := hB3.2.1 r hr
  rw [Nat.zero_add] at p2 p4
  have hlt := hsig.lt
  obtain ⟨hs, f, cc, hf12, hsf, hme, hcc, hmc, hsg⟩ := id hsig
  obtain ⟨p, sb, -, -, w1, w2, -, -, -⟩ := hJF.2.1 sg hlt.1
  have E1 := q_D_caught_0 ρ σ (nI r) x2
  rw [q_X5_hasParameter_15, r_has ρ σ _ r1, hv_in hr (by omega)] at E1
  simp only [Option.bind_some, b10, if_false] at E1
  rw [b_chk (by omega) (by decide), nI_clamp (by omega), p5, f_takes ρ σ hlt.1 (by rw [e5]; exact w1)] at E1
  simp only [Option.bind_some, hb _ (hv01 x2 p), hb_id] at E1
  have E2 := q_M_caught_64 ρ σ (nI r) x2
  rw [m_isRule ρ σ _ r2 (by omega), hv_in hr (by omega)] at E2
  simp only [Option.bind_some, b10, if_false] at E2
  rw [b_chk (by omega) (by decide), b_chk (by omega) (by decide), nI_clamp (by omega), p2, p4, m_methodAt ρ σ (by omega) hsf] at E2
  simp only [Option.bind_some] at E2
  rw [← hsg, b_chk hlt.1 (by decide), nI_clamp (by omega), w1, m_in0 ρ σ x2 (by omega)] at E2
  simp only [Option.bind_some] at E2
  rcases hv_ix x2 (n := p) (by omega) with q | ⟨i, hi, rfl⟩
  · exact Both.same (r := -1001) hI (by rw [E1, if_pos q]) (by rw [E2, if_pos q])
  rw [hv_in hi (by omega), if_neg (by decide)] at E1 E2
  rw [q_X6_holdsCaught_14, ixr (kk := 3) (by decide), b_chk (by omega) (by decide), nI_clamp (by omega), c4] at E1
  simp only [Option.bind_some] at E1
  rw [ixl (kk := 3) (by decide), b_chk (by omega) (by decide), nI_clamp (by omega), b_chk (by omega) (by decide), b_chk (by omega) (by decide)] at E2
  rcases hB4.2.1 (3 * r + i) (by omega) with h | ⟨h, h6⟩
  · rw [h] at E1 E2
    rw [if_pos (by decide)] at E1
    refine Both.same (r := -1002) hI E1 ?_
    rw [E2]
    by_cases h6 : σ 76 (3 * r + i) = 6
    · rw [if_pos h6, if_pos rfl]
    · rw [if_neg h6]
  · rw [h, if_neg (by decide), q_X6_caughtValue_14, ixr (kk := 3) (by decide), b_chk (by omega) (by decide), nI_clamp (by omega), c5] at E1
    rw [h6, if_pos rfl, h, if_neg (by decide)] at E2
    exact Both.same hI E1 E2
