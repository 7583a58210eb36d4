variable {B : Nat}
/-! verify: both sides answer alike -/
set_option maxHeartbeats 4000000 in
theorem op_verify (ρ : Nat × (Nat → Int32)) {σ : rd_Sg} (hI : Inv B σ) : Both B (rd_R ρ 126 0 [some (.ref 0)] []) (rd_R ρ 179 0 [some (.ref 64), none, none] []) σ := by
  refine Both.pair (B := B) (fun σ τ hI => ?_) hI
  rw [Inv.two] at hI
  obtain ⟨nf, ns, nr, ne, nl, nc, no, nt, nd, lo, hA, hB, ⟨⟨c1, c2, c3, c4, c5, c6⟩, ⟨c7, c8, c9, c10⟩, hP, hO⟩, ⟨⟨d1, d2, d3, d4, d5, d6, d7, d8, d9, d10, d11⟩, hJG, hlo⟩, ⟨-, e50⟩, hF, hG⟩ := hI
  obtain ⟨a1, ⟨b1, b2, b3, b4, b5, b6, b7, b8⟩, hJF, hJL, hJX, hJS⟩ := id hA
  have hw : EW σ τ ns nf ne nl := EW.of hJF hJL hJS hP (by rw [d6]; exact hJG) d6.symm d1 d2
  have hne := hP.1
  have hnl := hJG.1
  have hns := hJS.1
  have hwV : ∀ w, EW σ (Vn τ w) ns nf ne nl := fun w => hw.congr (fun _ _ => rfl) (fun c h1 h2 => Vn_o (by omega) (by omega)) (Vn_64 (by decide))
  obtain ⟨ah, hah⟩ : ∃ ah : Nat → Int32, ah = fun o => ahF (fN (gF σ (τ 90 o).toNatClampNeg) nl) (lsN (gF σ (τ 89 o).toNatClampNeg) nl) := ⟨_, rfl⟩
  obtain ⟨ex, hex⟩ : ∃ ex : Nat → Int32, ex = fun c => exF (gF σ) c ne := ⟨_, rfl⟩
  obtain ⟨nb, hnb⟩ : ∃ nb : Nat → Int32, nb = fun c => τ 91 (τ 85 (9 * c)).toNatClampNeg := ⟨_, rfl⟩
  have hrow : ∀ c, c < nl → ∃ s, s < 24 ∧ τ 85 (9 * c) = nI s ∧ τ 91 s = nb c := fun c hc => by
    obtain ⟨s, m, sg, k1, k2, -⟩ := hJG.2 c hc
    have := k1.lt
    exact ⟨s, by omega, k2, by rw [hnb]; show _ = τ 91 (τ 85 (9 * c)).toNatClampNeg; rw [k2, nI_clamp (by omega)]⟩
  have sv := fun c (h : c < 45 ∨ 48 < c) => svF_o (σ := σ) (nl := nl) (k := ne) h
  -- the desk
  have DQ := q_D_verify_0 ρ σ
  rw [d_survey ρ hw c2] at DQ
  simp only [Option.bind_some] at DQ
  rw [q_X10_find_49_33_28_9, q_X10_findNumbers_49_33] at DQ
  have u0 : rd_u (svF σ nl ne) 49 1 0 = Wn (svF σ nl ne) (W1 (gF σ) nl (svF σ nl ne 41) (svF σ nl ne 42) (τ 92) 0) := by
    have e1 : svF σ nl ne 50 = τ 92 := (sv 50 (by omega)).trans e50
    show _ = rd_uc (rd_uc (svF σ nl ne) 49 (upd (svF σ nl ne 49) 1 (nI 0))) 50 (τ 92)
    rw [← e1, show nI 0 = (0 : Int32) by decide]
    generalize svF σ nl ne = S
    funext c j
    simp only [rd_u, rd_uc, upd]
    grind
  have N1 : rd_R ρ 104 2 [some (.ref 49), some (.ref 33), some (.int 0)] [] (Wn (svF σ nl ne) (W1 (gF σ) nl (svF σ nl ne 41) (svF σ nl ne 42) (τ 92) 0)) = _ := d_numbers ρ (σ := svF σ nl ne) (ne := ne) (nl := nl) (g := gF σ) (r0 := τ 92) hne (by rw [sv 34 (by omega)]; exact c2) (fun e he => by unfold svF; rw [Sv_45, rwF_lt _ _ _ _ he]) ne 0 (by omega)
  rw [u0, N1] at DQ
  simp only [Option.bind_some] at DQ
  rw [q_X10_findOrders_49_33] at DQ
  have w1 := W1_le (gF σ) nl (svF σ nl ne 41) (svF σ nl ne 42) (τ 92) ne
  generalize hW1 : W1 (gF σ) nl (svF σ nl ne 41) (svF σ nl ne 42) (τ 92) ne = V1 at DQ w1
  have N2 : rd_R ρ 105 2 [some (.ref 49), some (.ref 33), some (.int 0), none] [] (Wn (svF σ nl ne) V1) = _ := d_orders ρ (σ := svF σ nl ne) (ne := ne) (no := no) (w := V1) (ah := ah) w1 hne c6 (by rw [sv 33 (by omega)]; exact c4) (fun o ho => by
    obtain ⟨a, b, a2, b2, a3, b3⟩ := hO o ho
    refine ⟨a, b, a2, b2, by rw [sv 43 (by omega), c9]; exact a3, by rw [sv 44 (by omega), c10]; exact b3, ?_⟩
    unfold svF
    rw [Sv_46, Sv_47, rwF_lt _ _ _ _ a2, rwF_lt _ _ _ _ b2, hah]
    show ahF (fN (gF σ (τ 90 o).toNatClampNeg) nl) (lsN (gF σ (τ 89 o).toNatClampNeg) nl) = _
    rw [a3, b3, nI_clamp (by omega), nI_clamp (by omega)]) no 0 none (by omega)
  rw [N2] at DQ
  simp only [Option.bind_some] at DQ
  have w2 := W2_le ah V1 w1 no
  generalize hW2 : W2 ah V1 no = V2 at DQ w2
  have hsv29 : svF σ nl ne 29 = τ 85 := (sv 29 (by omega)).trans d6
  have N3 := d_calls ρ (σ := svF σ nl ne) (nl := nl) (w := V2) (ex := ex) (nb := nb) w2 hnl (by rw [sv 28 (by omega)]; exact d1) (fun c hc => by
    refine ⟨?_, by rw [hex]; exact exF01 _ _ _⟩
    unfold svF
    rw [Sv_48, exR_is _ _ _ hc, hex]) (fun c hc => by
    obtain ⟨s, s1, s2, s3⟩ := hrow c hc
    refine ⟨s, s1, by rw [hsv29]; exact s2, by rw [sv 13 (by omega), b8]; exact s3, ?_⟩
    rw [← s3]; exact hJS.2.2 s) nl 0 none none (by omega)
  rw [hsv29] at N3
  have N3' : rd_R ρ 103 11 [some (.ref 49), some (.ref 33), some (.ref 28), some (.ref 9), some (.int 0), none, none] [] (Wn (svF σ nl ne) V2) = _ := N3
  rw [N3'] at DQ
  simp only [Option.bind_some] at DQ
  have w3 := W3_le ex nb (fun c => τ 85 (9 * c + 5)) V2 w2 nl
  -- the model
  have MQ := q_M_verify_64 ρ τ
  have u1 : rd_u τ 64 39 0 = Vn τ (W1 (gF σ) nl (τ 87) (τ 88) (τ 92) 0) := by
    show _ = rd_uc (rd_uc τ 64 (upd (τ 64) 39 (nI 0))) 92 (τ 92)
    rw [show nI 0 = (0 : Int32) by decide]
    funext c j
    simp only [rd_u, rd_uc, upd]
    grind
  rw [u1] at MQ
  obtain ⟨o2, P1⟩ := m_numbers ρ (τ := τ) (ne := ne) (nl := nl) (g := gF σ) (r0 := τ 92) hne c3 (fun w e he => by rw [m_metBy ρ (hwV w) he, cnt_cN0]) ne 0 none (by omega)
  have eW1 : W1 (gF σ) nl (τ 87) (τ 88) (τ 92) ne = V1 := by
    rw [← hW1, sv 41 (by omega), sv 42 (by omega), c7, c8]
  rw [eW1] at P1
  have MQ2 := MQ.trans P1
  have hahI : ∀ o, o < no → ah o = -1 ∨ ∃ i, i < 500 ∧ ah o = nI i := fun o ho => by
    rw [hah]
    rcases ahF_is (h := gF σ (τ 90 o).toNatClampNeg) (l := lsN (gF σ (τ 89 o).toNatClampNeg) nl) (n := nl) (by omega) with q | ⟨i, i1, i2⟩
    · exact Or.inl q
    · exact Or.inr ⟨i, by omega, i2⟩
  obtain ⟨o3, P2⟩ := m_orders ρ (τ := τ) (no := no) (w := V1) (ah := ah) w1 c6 c5 (fun w o ho => by
    obtain ⟨a, b, a2, b2, a3, b3⟩ := hO o ho
    have := m_wrongOrder ρ (τ := Vn τ w) (nl := nl) (o := o) (a := a) (b := b) (ga := gF σ a) (gb := gF σ b) hnl (by rw [Vn_64 (by decide)]; exact d2) (by omega) (by rw [Vn_o (by decide) (by decide)]; exact a3) (by rw [Vn_o (by decide) (by decide)]; exact b3) (fun i hi => m_callMeets ρ (hwV w) a2 hi) (fun i hi => m_callMeets ρ (hwV w) b2 hi)
    rw [this, hah]
    show _ = some (ahF (fN (gF σ (τ 90 o).toNatClampNeg) nl) (lsN (gF σ (τ 89 o).toNatClampNeg) nl), _)
    rw [a3, b3, nI_clamp (by omega), nI_clamp (by omega)]) hahI no 0 o2 (by omega)
  rw [hW2] at P2
  have MQ3 := MQ2.trans P2
  have P3 := m_calls ρ (τ := τ) (nl := nl) (w := V2) (ex := ex) (nb := nb) w2 hnl d2 (fun w c hc => by
    rw [m_any ρ (τ := Vn τ w) (ne := ne) (c := c) (g := gF σ) hne (by rw [Vn_64 (by decide)]; exact c3) (fun e => gF01 σ e c) (fun e he => m_callMeets ρ (hwV w) he hc), hex]) hrow nl 0 o3 (by omega)
  have MQ4 := MQ3.trans P3
  generalize hW3 : W3 ex nb (fun c => τ 85 (9 * c + 5)) V2 nl = V3 at DQ MQ4 w3
  rw [q_X10_size_49] at DQ
  simp only [Option.bind_some] at DQ
  have e1 : Wn (svF σ nl ne) V3 49 1 = nI V3.1 := by unfold Wn; rw [b_ucne (by decide), b_uceq, b_ups]
  rw [e1] at DQ
  refine ⟨_, _, _, DQ, MQ4, fun c hc => by rw [Wn_o (by omega), sv c (by omega)], fun c hc => Vn_o (by omega) (by omega), ?_⟩
  rw [Inv.two]
  refine ⟨nf, ns, nr, ne, nl, nc, no, nt, nd, lo, ?_⟩
  have W := fun c (h : c < 45 ∨ 50 < c) => (Wn_o (σ := svF σ nl ne) (w := V3) (c := c) (by omega)).trans (sv c (by omega))
  simp only [W 1 (by omega), W 2 (by omega), W 3 (by omega), W 4 (by omega), W 5 (by omega), W 6 (by omega), W 7 (by omega), W 8 (by omega), W 9 (by omega), W 10 (by omega), W 11 (by omega), W 12 (by omega), W 13 (by omega), W 15 (by omega), W 16 (by omega), W 17 (by omega), W 18 (by omega), W 19 (by omega), W 20 (by omega), W 21 (by omega), W 22 (by omega), W 23 (by omega), W 24 (by omega), W 25 (by omega), W 26 (by omega), W 27 (by omega), W 28 (by omega), W 29 (by omega), W 30 (by omega), W 32 (by omega), W 33 (by omega), W 34 (by omega), W 35 (by omega), W 36 (by omega), W 37 (by omega), W 38 (by omega), W 39 (by omega), W 40 (by omega), W 41 (by omega), W 42 (by omega), W 43 (by omega), W 44 (by omega), W 51 (by omega), W 52 (by omega), W 53 (by omega), W 54 (by omega), W 55 (by omega), W 56 (by omega), W 61 (by omega), W 62 (by omega), W 63 (by omega), Vn_o (c := 65) (show 65 ≠ 64 by decide) (show 65 ≠ 92 by decide), Vn_o (c := 66) (show 66 ≠ 64 by decide) (show 66 ≠ 92 by decide), Vn_o (c := 67) (show 67 ≠ 64 by decide) (show 67 ≠ 92 by decide), Vn_o (c := 68) (show 68 ≠ 64 by decide) (show 68 ≠ 92 by decide), Vn_o (c := 69) (show 69 ≠ 64 by decide) (show 69 ≠ 92 by decide), Vn_o (c := 70) (show 70 ≠ 64 by decide) (show 70 ≠ 92 by decide), Vn_o (c := 71) (show 71 ≠ 64 by decide) (show 71 ≠ 92 by decide), Vn_o (c := 72) (show 72 ≠ 64 by decide) (show 72 ≠ 92 by decide), Vn_o (c := 73) (show 73 ≠ 64 by decide) (show 73 ≠ 92 by decide), Vn_o (c := 74) (show 74 ≠ 64 by decide) (show 74 ≠ 92 by decide), Vn_o (c := 75) (show 75 ≠ 64 by decide) (show 75 ≠ 92 by decide), Vn_o (c := 76) (show 76 ≠ 64 by decide) (show 76 ≠ 92 by decide), Vn_o (c := 77) (show 77 ≠ 64 by decide) (show 77 ≠ 92 by decide), Vn_o (c := 78) (show 78 ≠ 64 by decide) (show 78 ≠ 92 by decide), Vn_o (c := 79) (show 79 ≠ 64 by decide) (show 79 ≠ 92 by decide), Vn_o (c := 80) (show 80 ≠ 64 by decide) (show 80 ≠ 92 by decide), Vn_o (c := 81) (show 81 ≠ 64 by decide) (show 81 ≠ 92 by decide), Vn_o (c := 82) (show 82 ≠ 64 by decide) (show 82 ≠ 92 by decide), Vn_o (c := 83) (show 83 ≠ 64 by decide) (show 83 ≠ 92 by decide), Vn_o (c := 84) (show 84 ≠ 64 by decide) (show 84 ≠ 92 by decide), Vn_o (c := 85) (show 85 ≠ 64 by decide) (show 85 ≠ 92 by decide), Vn_o (c := 86) (show 86 ≠ 64 by decide) (show 86 ≠ 92 by decide), Vn_o (c := 87) (show 87 ≠ 64 by decide) (show 87 ≠ 92 by decide), Vn_o (c := 88) (show 88 ≠ 64 by decide) (show 88 ≠ 92 by decide), Vn_o (c := 89) (show 89 ≠ 64 by decide) (show 89 ≠ 92 by decide), Vn_o (c := 90) (show 90 ≠ 64 by decide) (show 90 ≠ 92 by decide), Vn_o (c := 91) (show 91 ≠ 64 by decide) (show 91 ≠ 92 by decide), Vn_o (c := 93) (show 93 ≠ 64 by decide) (show 93 ≠ 92 by decide), Vn_o (c := 94) (show 94 ≠ 64 by decide) (show 94 ≠ 92 by decide), Vn_o (c := 95) (show 95 ≠ 64 by decide) (show 95 ≠ 92 by decide), Vn_o (c := 96) (show 96 ≠ 64 by decide) (show 96 ≠ 92 by decide), Vn_o (c := 97) (show 97 ≠ 64 by decide) (show 97 ≠ 92 by decide), Vn_o (c := 98) (show 98 ≠ 64 by decide) (show 98 ≠ 92 by decide), Vn_o (c := 99) (show 99 ≠ 64 by decide) (show 99 ≠ 92 by decide), e1]
  simp only [Vn_64 (show 0 ≠ 39 by decide), Vn_64 (show 7 ≠ 39 by decide), Vn_64 (show 16 ≠ 39 by decide), Vn_64 (show 23 ≠ 39 by decide), Vn_64 (show 24 ≠ 39 by decide), Vn_64 (show 26 ≠ 39 by decide), Vn_64 (show 32 ≠ 39 by decide), Vn_64 (show 35 ≠ 39 by decide), Vn_64 (show 41 ≠ 39 by decide), Vn_64 (show 48 ≠ 39 by decide), Vn_64 (show 49 ≠ 39 by decide), Vn_64 (show 50 ≠ 39 by decide)]
  refine ⟨hA, hB, ⟨⟨c1, c2, c3, c4, c5, c6⟩, ⟨c7, c8, c9, c10⟩, hP, hO⟩, ⟨⟨d1, d2, d3, d4, d5, d6, d7, d8, d9, d10, d11⟩, hJG, hlo⟩, ⟨⟨V3.1, w3, rfl, ?_⟩, ?_⟩, hF, hG⟩
  · unfold Vn; rw [b_ucne (by decide), b_uceq, b_ups]
  · unfold Wn Vn; rw [b_uceq, b_uceq]
