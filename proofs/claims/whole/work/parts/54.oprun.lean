variable {B : Nat}
/-! run: the start -/
theorem m_run15 (ρ : Nat × (Nat → Int32)) (τ : rd_Sg) (x : Int32) : ∀ d j, j + d = 8 → rd_R ρ 187 15 [some (.ref 64), some (.int x), some (.int (nI j)), none] [] (rd_uc τ 97 (flf (τ 97) j 0)) = rd_R ρ 187 27 [some (.ref 64), some (.int x), some (.int 0), none] [] (rd_uc τ 97 (flf (τ 97) 8 0)) := by
  intro d
  induction d with
  | zero =>
    intro j hj
    have : j = 8 := by omega
    subst this
    rw [q_M_run_64_at15, if_neg (by decide)]
  | succ d ih =>
    intro j hj
    rw [q_M_run_64_at15, if_pos (lt_lit 8 8 (by decide) (by omega) (by decide)), b_chk (by omega) (by decide), nI_clamp (by omega), fl_step, nI_1]
    exact ih (j + 1) (by omega)
theorem m_run27 (ρ : Nat × (Nat → Int32)) (τ : rd_Sg) (x : Int32) : ∀ d j, j + d = 4 → rd_R ρ 187 27 [some (.ref 64), some (.int x), some (.int (nI j)), none] [] (rd_uc τ 98 (flf (τ 98) j (-1))) = rd_R ρ 187 47 [some (.ref 64), some (.int x), some (.int 0), some (.int 0)] [] (rd_u (rd_u (rd_uc τ 98 (flf (τ 98) 4 (-1))) 64 48 0) 64 52 0) := by
  intro d
  induction d with
  | zero =>
    intro j hj
    have : j = 4 := by omega
    subst this
    rw [q_M_run_64_at27, if_neg (by decide)]
  | succ d ih =>
    intro j hj
    rw [q_M_run_64_at27, if_pos (lt_lit 4 4 (by decide) (by omega) (by decide)), b_chk (by omega) (by decide), nI_clamp (by omega), fl_step, nI_1]
    exact ih (j + 1) (by omega)
set_option maxHeartbeats 4000000 in
theorem op_run (ρ : Nat × (Nat → Int32)) {σ : rd_Sg} (hI : Inv B σ) (hBB : B + 1000 < 2 ^ 29) (x1 : Int32) : Both (B + 1000) (rd_R ρ 130 0 [some (.ref 0), some (.int x1), none, none] []) (rd_R ρ 187 0 [some (.ref 64), some (.int x1), none, none] []) σ := by
  refine Both.pair (fun σ τ hI => ?_) hI
  have DQ := q_D_run_0 ρ σ x1
  have MQ := q_M_run_64 ρ τ x1
  rw [m_inF] at MQ
  simp only [Option.bind_some] at MQ
  unfold inF at MQ
  by_cases w1 : x1 < 1
  · rw [if_pos w1] at DQ
    rw [if_pos w1, if_pos rfl] at MQ
    exact Pair.same hI (by omega) DQ MQ
  rw [if_neg w1] at DQ MQ
  by_cases w2 : 1000 < x1
  · rw [if_pos w2] at DQ
    rw [if_pos w2, if_pos rfl] at MQ
    exact Pair.same hI (by omega) DQ MQ
  rw [if_neg w2] at DQ MQ
  rw [if_neg (by decide)] at MQ
  obtain ⟨n, hn, rfl⟩ : ∃ n, n ≤ 1000 ∧ x1 = nI n := by
    rcases hv_ix x1 (n := 1001) (by decide) with q | ⟨j, hj, e⟩
    · exfalso
      rcases hv_out q with q | ⟨q1, q2⟩
      · exact w1 (Int32.lt_trans q (by decide))
      · apply w2
        have q2 : ¬ x1 < (1001 : Int32) := q2
        rw [Int32.lt_iff_toInt_lt] at q2 ⊢
        have e1 : (1001 : Int32).toInt = 1001 := by decide
        have e2 : (1000 : Int32).toInt = 1000 := by decide
        omega
    · exact ⟨j, by omega, e⟩
  have hI0 := hI
  rw [Inv.two] at hI
  obtain ⟨nf, ns, nr, ne, nl, nc, no, nt, nd, lo, ⟨⟨a1, a2, a3, a4⟩, -, -, -, -, hJS⟩, -, -, -, -, ⟨⟨f1, f2, -⟩, hJC⟩, ⟨⟨g1, g2, g3, g4, g5, g6, g7, g8⟩, hst, hem⟩⟩ := hI
  rw [q_X0_isWornOut_56, g7] at DQ
  rw [g8] at MQ
  by_cases w3 : ¬ nd < 20000
  · have q : ¬ nI nd < (20000 : Int32) := fun q => w3 ((p_lt (k := 20000) (by decide) (by omega) (by decide)).mp q)
    rw [if_neg q] at DQ MQ
    simp only [Option.bind_some, b10, if_false] at DQ
    exact Pair.same hI0 (by omega) DQ MQ
  have w3 := Decidable.not_not.mp w3
  have q : nI nd < (20000 : Int32) := lt_lit 20000 20000 (by decide) w3 (by decide)
  rw [if_pos q] at DQ MQ
  simp only [Option.bind_some, if_true] at DQ
  rw [q_X0_begin_56, fill_61] at DQ
  simp only [Option.bind_some] at DQ
  rw [fill_62] at DQ
  simp only [Option.bind_some] at DQ
  rw [q_X9_closeAll_57] at DQ
  simp only [Option.bind_some] at DQ
  have M1 : rd_R ρ 187 15 [some (.ref 64), some (.int (nI n)), some (.int 0), none] [] (rd_uc τ 97 (flf (τ 97) 0 0)) = _ := m_run15 ρ τ (nI n) 8 0 rfl
  rw [fl_0] at M1
  have M2 : rd_R ρ 187 27 [some (.ref 64), some (.int (nI n)), some (.int 0), none] [] (rd_uc (rd_uc τ 97 (flf (τ 97) 8 0)) 98 (flf ((rd_uc τ 97 (flf (τ 97) 8 0)) 98) 0 (-1))) = _ := m_run27 ρ (rd_uc τ 97 (flf (τ 97) 8 0)) (nI n) 4 0 rfl
  rw [fl_0] at M2
  rw [M1, M2, b_ucne (by decide)] at MQ
  rw [b_ucne (by decide)] at DQ
  have e62 : flf (σ 62) 4 (-1) = flf (τ 98) 4 (-1) := by
    funext j
    unfold flf
    by_cases w : j < 4
    · rw [if_pos w, if_pos w]
    · rw [if_neg w, if_neg w]
      rcases hem with ⟨-, -, z⟩ | ⟨-, z⟩
      · exact z j (by omega)
      · rw [z]
  generalize hσs : rd_u (rd_u (rd_uc (rd_uc σ 61 (flf (σ 61) 8 0)) 62 (flf (σ 62) 4 (-1))) 57 0 0) 56 10 0 = σs at DQ
  generalize hτs : rd_u (rd_u (rd_uc (rd_uc τ 97 (flf (τ 97) 8 0)) 98 (flf (τ 98) 4 (-1))) 64 48 0) 64 52 0 = τs at MQ
  have s61 : σs 61 = flf (σ 61) 8 0 := by rw [← hσs, b_une (by decide), b_une (by decide), b_ucne (by decide), b_uceq]
  have s62 : σs 62 = flf (σ 62) 4 (-1) := by rw [← hσs, b_une (by decide), b_une (by decide), b_uceq]
  have s56 : σs 56 = upd (σ 56) 10 0 := by rw [← hσs, b_ueq, b_une (by decide), b_ucne (by decide), b_ucne (by decide)]
  have s57 : σs 57 0 = 0 := by rw [← hσs, b_une (by decide)]; exact rd_us
  have so : ∀ c, c < 56 ∨ 62 < c → σs c = σ c := fun c hc => by rw [← hσs, b_une (by omega), b_une (by omega), b_ucne (by omega), b_ucne (by omega)]
  have t97 : τs 97 = flf (τ 97) 8 0 := by rw [← hτs, b_une (by decide), b_une (by decide), b_ucne (by decide), b_uceq]
  have t98 : τs 98 = flf (τ 98) 4 (-1) := by rw [← hτs, b_une (by decide), b_une (by decide), b_uceq]
  have t64 : τs 64 = upd (upd (τ 64) 48 0) 52 0 := by rw [← hτs, b_ueq, b_ueq, b_ucne (by decide), b_ucne (by decide)]
  have to : ∀ c, c ≠ 64 → c < 97 ∨ 98 < c → τs c = τ c := fun c h1 hc => by rw [← hτs, b_une (by omega), b_une (by omega), b_ucne (by omega), b_ucne (by omega)]
  have tj : ∀ j, j ≠ 48 → j ≠ 52 → τs 64 j = τ 64 j := fun j h1 h2 => by rw [t64, b_upn h2, b_upn h1]
  have hst' : ∀ i, i < 4 → StV ns (σs 62 i) := fun i hi => by rw [s62]; unfold flf; rw [if_pos hi]; exact Or.inl rfl
  have h48 : τs 64 48 = 0 := by rw [t64, b_upn (by decide), b_ups]
  have h56 : ∀ j, j ≠ 10 → σs 56 j = σ 56 j := fun j hj => by rw [s56, b_upn hj]
  have hIs : Inv B (mix σs τs) := run_inv (ns := ns) (nt := nt) (nd := nd) hI0 (Nat.le_refl B) a3 hJS.1 (fun c hc => so c (by omega)) (fun c h1 h2 => to c h1 (by omega)) (fun j hj => tj j (by omega) (by omega)) (by rw [s61, t97, g1]) (by rw [so 63 (by decide), to 99 (by decide) (by decide)]; exact g2) (by rw [h56 8 (by decide), tj 50 (by decide) (by decide)]; exact ⟨g3, g4, g5⟩) (by rw [h56 9 (by decide), tj 49 (by decide) (by decide)]; exact ⟨g6, g7, g8⟩) hst' (by rw [s62, t98, e62]) h48
  have hcome : rd_R ρ 186 0 [some (.ref 64), some (.int (nI 0)), none, none] [] τs = some (0, rd_u τs 64 52 (nI 0)) := by
    rw [q_M_comeTo_64, q_M_comeTo_64_at4, t64, b_ups, if_neg (by decide)]
    rfl
  have hcs : rd_u τs 64 52 (nI 0) = τs := by
    funext c
    by_cases w : c = 64
    · subst w
      rw [b_ueq, t64]
      funext j
      by_cases v : j = 52
      · subst v; rw [b_ups, b_ups]; rfl
      · rw [b_upn v, b_upn v]
    · rw [b_une w]
  rw [hcs] at hcome
  have hH : HD ρ B nc ns nd 0 σ τ σs τs := ⟨hIs, fun c hc => so c (by omega), fun c hc => to c (by omega) (by omega), (tj 41 (by decide) (by decide)).trans f2, by omega, by rw [s56, b_ups]; rfl, 0, τs, hcome, hIs, ⟨h48, by rw [so 51 (by decide)]; exact f1, by rw [so 9 (by decide)]; exact a3, hJS.1, hJC.1⟩, ⟨g6, (h56 9 (by decide)).trans g7⟩, ⟨by omega, s57, by rw [t64, b_ups]; rfl, fun j hj => absurd hj (by omega)⟩, fun c hc => so c (by omega), fun c hc => to c (by omega) (by omega)⟩
  obtain ⟨r, σ3, τ3, r1, r2, r3, r4, r5⟩ := run_loop ρ hn n 0 B nd 0 σs τs none (by omega) (by omega) (by omega) hH
  exact ⟨r, σ3, τ3, DQ.trans r1, MQ.trans r2, r3, r4, r5.le (by omega)⟩
