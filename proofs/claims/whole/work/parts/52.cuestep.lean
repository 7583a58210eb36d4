variable {B : Nat}
/-! run: a cue is done -/
theorem BF.call (ρ : Nat × (Nat → Int32)) {nc ns nd k a n : Nat} {σ0 τ0 σ τ : rd_Sg} (h : BF B nc ns nd k σ0 τ0 σ τ) (hBB : B < 2 ^ 29) (ha : a < 4) (hn : n < 8) :
    ∃ kd σ1 τ1, rd_R ρ 6 0 [some (.ref 56), some (.int (σ 62 a)), some (.int (nI n)), none] [] σ = some (kd, σ1) ∧ rd_R ρ 184 0 [some (.ref 64), some (.int (nI a)), some (.int (nI n)), none, none, none, none, none] [] τ = some (kd, τ1) ∧ (kd = -1 ∨ ∃ q, q < 12 ∧ kd = nI q) ∧ BF (B + 1) nc ns nd k σ0 τ0 σ1 τ1 ∧ σ1 56 = σ 56 := by
  obtain ⟨kd, σ1, τ1, h1, h2, h3, h4, h5, h6, h7⟩ := cue_call ρ h.1 hBB h.2.1.1 ha hn
  obtain ⟨-, ⟨b1, b2, b3, b4, b5⟩, ⟨c1, c2⟩, hT, F1, F2⟩ := h
  have e : ∀ c, c = 9 ∨ 32 < c → c ≠ 61 → c ≠ 62 → σ1 c = σ c := h5
  refine ⟨kd, σ1, τ1, h1, h2, h3, ⟨h4, ⟨?_, ?_, ?_, b4, b5⟩, ⟨c1, ?_⟩, ?_, fun c hc => ?_, fun c hc => ?_⟩, e 56 (by decide) (by decide) (by decide)⟩
  · rw [h7 48 (by decide) (by decide) (by decide)]; exact b1
  · rw [e 51 (by decide) (by decide) (by decide)]; exact b2
  · rw [e 9 (by decide) (by decide) (by decide)]; exact b3
  · rw [e 56 (by decide) (by decide) (by decide)]; exact c2
  · exact hT.of (e 57 (by decide) (by decide) (by decide)) (e 58 (by decide) (by decide) (by decide)) (e 59 (by decide) (by decide) (by decide)) (e 60 (by decide) (by decide) (by decide)) (h7 52 (by decide) (by decide) (by decide)) (h6 100 (by decide)) (h6 101 (by decide)) (h6 102 (by decide))
  · rw [e c (by omega) (by omega) (by omega)]; exact F1 c hc
  · rw [h6 c (by omega)]; exact F2 c hc
set_option maxHeartbeats 4000000 in
theorem cue_step (ρ : Nat × (Nat → Int32)) {nc ns nd k p : Nat} {σ0 τ0 σ τ : rd_Sg} (h : BF B nc ns nd k σ0 τ0 σ τ) (hBB : B < 2 ^ 29) (hp : p < nc) (h10 : σ 56 10 = nI p) (hnd : nd + 1 < 30000) :
    ∃ kd p1 k1 σ1 τ1, rd_R ρ 5 0 [some (.ref 56), none, none, none, none] [] σ = some (kd, σ1) ∧ rd_R ρ 185 0 [some (.ref 64), some (.int (nI p)), none, none, none] [] (rd_u τ 64 49 (nI (nd + 1))) = some (nI p1, τ1) ∧ (kd = -1 ∨ ∃ q, q < 12 ∧ kd = nI q) ∧ τ1 64 58 = kd ∧ (kd = -1 → σ1 56 10 = nI p1) ∧ p1 ≤ 60 ∧ BF (B + 1) nc ns (nd + 1) k1 σ0 τ0 σ1 τ1 := by
  obtain ⟨nt, ⟨g1, g2, g3⟩, ⟨gt1, gt2, gt3⟩, ⟨gd1, gd2, gd3⟩, ⟨f1, f2⟩, hst, ⟨c1, c2, c3, c4⟩, hJC⟩ := h.out
  have hnc := h.2.1.2.2.2.2
  have h91 := h.2.1.2.2.1
  have hns := h.2.1.2.2.2.1
  have hC := hJC.2 p hp
  rw [← c1, ← c2, ← c3, ← c4] at hC
  have hT := h.2.2.2.1
  have h3 := ((h.w9 hnd).w10 (nI (p + 1))).w58 (-1)
  have DQ := q_X0_doCue_56 ρ σ
  have MQ := q_M_done_64 ρ (rd_u τ 64 49 (nI (nd + 1))) (nI p)
  have t97 : rd_u τ 64 49 (nI (nd + 1)) 97 = σ 61 := by rw [b_une (by decide)]; exact g1.symm
  have t98 : rd_u τ 64 49 (nI (nd + 1)) 98 = σ 62 := by rw [b_une (by decide)]; exact g2.symm
  have t93 : rd_u τ 64 49 (nI (nd + 1)) 93 = σ 52 := by rw [b_une (by decide)]; exact c1.symm
  have t94 : rd_u τ 64 49 (nI (nd + 1)) 94 = σ 53 := by rw [b_une (by decide)]; exact c2.symm
  have t95 : rd_u τ 64 49 (nI (nd + 1)) 95 = σ 54 := by rw [b_une (by decide)]; exact c3.symm
  have t96 : rd_u τ 64 49 (nI (nd + 1)) 96 = σ 55 := by rw [b_une (by decide)]; exact c4.symm
  have t52 : rd_u τ 64 49 (nI (nd + 1)) 64 52 = nI k := by rw [b_ueq, b_upn (by decide)]; exact hT.2.2.1
  have t50 : rd_u τ 64 49 (nI (nd + 1)) 64 50 = nI nt := by rw [b_ueq, b_upn (by decide)]; exact gt3
  have t58 : rd_u (rd_u τ 64 49 (nI (nd + 1))) 64 58 (-1) 64 58 = -1 := rd_us
  have t7 : rd_u (rd_u τ 64 49 (nI (nd + 1))) 64 58 (-1) 64 7 = nI ns := by rw [b_ueq, b_upn (by decide), b_ueq, b_upn (by decide)]; exact f2
  have s62 : rd_u (rd_u σ 56 9 (nI (nd + 1))) 56 10 (nI (p + 1)) 62 = σ 62 := by rw [b_une (by decide), b_une (by decide)]
  have s9 : rd_u (rd_u σ 56 9 (nI (nd + 1))) 56 10 (nI (p + 1)) 9 1 = nI ns := by rw [b_une (by decide), b_une (by decide)]; exact h91
  have s57 : rd_u (rd_u σ 56 9 (nI (nd + 1))) 56 10 (nI (p + 1)) 57 0 = nI k := by rw [b_une (by decide), b_une (by decide)]; exact hT.2.1
  have s8 : rd_u (rd_u σ 56 9 (nI (nd + 1))) 56 10 (nI (p + 1)) 56 8 = nI nt := by rw [b_ueq, b_upn (by decide), b_ueq, b_upn (by decide)]; exact gt2
  have s10 : rd_u (rd_u σ 56 9 (nI (nd + 1))) 56 10 (nI (p + 1)) 56 10 = nI (p + 1) := rd_us
  rw [h10, gd2, b_chk (show p < 60 by omega) (by decide), b_chk (show p < 60 by omega) (by decide), b_chk (show p < 60 by omega) (by decide), b_chk (show p < 60 by omega) (by decide), nI_clamp (by omega), nI_1, nI_1] at DQ
  rw [b_chk (show p < 60 by omega) (by decide), b_chk (show p < 60 by omega) (by decide), b_chk (show p < 60 by omega) (by decide), b_chk (show p < 60 by omega) (by decide), nI_clamp (by omega), nI_1, t97, t98, t93, t94, t95, t96, t52, t50] at MQ
  generalize rd_u (rd_u σ 56 9 (nI (nd + 1))) 56 10 (nI (p + 1)) = σb at h3 DQ s62 s9 s57 s8 s10
  generalize hτb : rd_u (rd_u τ 64 49 (nI (nd + 1))) 64 58 (-1) = τb at h3 MQ t58 t7
  generalize σ 53 p = ca at hC DQ MQ
  generalize σ 54 p = cb at hC DQ MQ
  generalize σ 55 p = cc at hC DQ MQ
  obtain ⟨kk, hk, ek, k09, k1, k2, k3, k4, k5, k6, k7, k8⟩ := hC
  rcases ltt10 ek hk with ⟨e, e'⟩ | ⟨e, e'⟩ | ⟨e, e'⟩ | ⟨e, e'⟩ | ⟨e, e'⟩ | ⟨e, e'⟩ | ⟨e, e'⟩ | ⟨e, e'⟩ | ⟨e, e'⟩ | ⟨e, e'⟩
  all_goals rw [e'] at DQ MQ
  · -- hold
    obtain ⟨a, ha, ea⟩ := k09 (Or.inl e)
    rw [if_pos rfl, ea, b_chk ha (by decide), nI_clamp (by omega)] at DQ MQ
    exact ⟨-1, p + 1, k, _, _, DQ, MQ, Or.inl rfl, by rw [b_une (by decide)]; exact t58, fun _ => by rw [b_une (by decide)]; exact s10, by omega, (h3.w61 a _).up⟩
  · -- add
    obtain ⟨⟨a, ha, ea⟩, b, hb, eb⟩ := k1 e
    rw [if_neg (by decide), if_pos rfl, ea, eb, b_chk ha (by decide), b_chk hb (by decide), b_chk ha (by decide), nI_clamp (by omega), nI_clamp (by omega)] at DQ MQ
    exact ⟨-1, p + 1, k, _, _, DQ, MQ, Or.inl rfl, by rw [b_une (by decide)]; exact t58, fun _ => by rw [b_une (by decide)]; exact s10, by omega, (h3.w61 a _).up⟩
  · -- take a stand
    obtain ⟨a, ha, ea⟩ := k2 e
    rw [if_neg (by decide), if_neg (by decide), if_pos rfl, ea, s_has ρ σb cb s9] at DQ
    rw [if_neg (by decide), if_neg (by decide), if_pos rfl, ea, m_isStand ρ τb cb t7 (by omega)] at MQ
    simp only [Option.bind_some, b_chk ha (show 4 < 2 ^ 31 by decide), nI_clamp (show a < 2 ^ 31 by omega)] at DQ MQ
    rcases hv_ix cb (n := ns) (by omega) with hh | ⟨s, hs, rfl⟩
    · rw [if_pos hh] at DQ MQ
      exact ⟨-1, p + 1, k, _, _, DQ, MQ, Or.inl rfl, by rw [b_une (by decide)]; exact t58, fun _ => by rw [b_une (by decide)]; exact s10, by omega, (h3.w62 a (Or.inl rfl)).up⟩
    · rw [hv_in hs (by omega), if_neg (by decide)] at DQ MQ
      exact ⟨-1, p + 1, k, _, _, DQ, MQ, Or.inl rfl, by rw [b_une (by decide)]; exact t58, fun _ => by rw [b_une (by decide)]; exact s10, by omega, (h3.w62 a (Or.inr ⟨s, hs, rfl⟩)).up⟩
  · -- call
    obtain ⟨⟨a, ha, ea⟩, b, hb, eb⟩ := k3 e
    obtain ⟨kd, σ1, τ1, d1, d2, d3, d4, d5⟩ := BF.call ρ h3 hBB ha hb
    rw [s62] at d1
    rw [if_neg (by decide), if_neg (by decide), if_neg (by decide), if_pos rfl, ea, eb, b_chk ha (by decide), nI_clamp (by omega), d1] at DQ
    rw [if_neg (by decide), if_neg (by decide), if_neg (by decide), if_pos rfl, ea, eb, d2] at MQ
    simp only [Option.bind_some] at DQ MQ
    exact ⟨kd, p + 1, k, _, _, DQ, MQ, d3, rd_us, fun _ => by rw [d5]; exact s10, by omega, d4.w58 kd⟩
  · -- go
    obtain ⟨a, ha, ea⟩ := k4 e
    rw [if_neg (by decide), if_neg (by decide), if_neg (by decide), if_neg (by decide), if_pos rfl, ea] at DQ MQ
    exact ⟨-1, a, k, _, _, DQ, MQ, Or.inl rfl, t58, fun _ => rd_us, ha, (h3.w10 _).up⟩
  · -- go if less
    obtain ⟨⟨a, ha, ea⟩, ⟨b, hb, eb⟩, c, hc, ec⟩ := k5 e
    rw [if_neg (by decide), if_neg (by decide), if_neg (by decide), if_neg (by decide), if_neg (by decide), if_pos rfl, ea, eb, ec, b_chk ha (by decide), b_chk hb (by decide), nI_clamp (by omega), nI_clamp (by omega)] at DQ MQ
    by_cases w : σ 61 a < σ 61 b
    · rw [if_pos w] at DQ MQ
      exact ⟨-1, c, k, _, _, DQ, MQ, Or.inl rfl, t58, fun _ => rd_us, hc, (h3.w10 _).up⟩
    · rw [if_neg w] at DQ MQ
      exact ⟨-1, p + 1, k, _, _, DQ, MQ, Or.inl rfl, t58, fun _ => rd_us, by omega, (h3.w10 _).up⟩
  · -- try
    obtain ⟨⟨a, -, ha, ea⟩, b, hb, eb⟩ := k6 e
    rw [if_neg (by decide), if_neg (by decide), if_neg (by decide), if_neg (by decide), if_neg (by decide), if_neg (by decide), if_pos rfl, ea, eb, q_X9_open_57, s57] at DQ
    rw [if_neg (by decide), if_neg (by decide), if_neg (by decide), if_neg (by decide), if_neg (by decide), if_neg (by decide), if_pos rfl, ea, eb] at MQ
    by_cases w : k = 10
    · subst w
      rw [if_neg (by decide)] at DQ
      rw [if_pos (by decide)] at MQ
      simp only [Option.bind_some, if_true] at DQ
      exact ⟨11, p + 1, 10, _, _, DQ, MQ, Or.inr ⟨11, by decide, by decide⟩, rd_us, fun q => absurd q (by decide), by omega, (h3.w58 11).up⟩
    · have w10 : k < 10 := by have := hT.1; omega
      rw [if_pos (lt_lit 10 10 (by decide) w10 (by decide)), b_chk w10 (by decide), b_chk w10 (by decide), b_chk w10 (by decide), nI_clamp (by omega), nI_1, nI_1] at DQ
      rw [if_neg (fun q => w ((nI_eq (by omega) (by decide)).mp (q.trans (show (10 : Int32) = nI 10 by decide)))), b_chk w10 (by decide), b_chk w10 (by decide), b_chk w10 (by decide), nI_clamp (by omega), nI_1] at MQ
      simp only [Option.bind_some, b10, if_false] at DQ
      exact ⟨-1, p + 1, k + 1, _, _, DQ, MQ, Or.inl rfl, by rw [b_ueq, b_upn (by decide), b_une (by decide), b_une (by decide), b_une (by decide)]; exact t58, fun _ => by rw [b_une (by decide), b_une (by decide), b_une (by decide), b_une (by decide)]; exact s10, by omega, (h3.wopen w10 _ _ hb).up⟩
  · -- fail
    obtain ⟨a, ha, ea⟩ := k7 e
    rw [if_neg (by decide), if_neg (by decide), if_neg (by decide), if_neg (by decide), if_neg (by decide), if_neg (by decide), if_neg (by decide), if_pos rfl, ea] at DQ MQ
    exact ⟨nI a, p + 1, k, _, _, DQ, MQ, Or.inr ⟨a, ha, rfl⟩, rd_us, fun _ => s10, by omega, (h3.w58 _).up⟩
  · -- same
    obtain ⟨⟨a, ha, ea⟩, ⟨b, hb, eb⟩, c, hc, ec⟩ := k8 e
    rw [if_neg (by decide), if_neg (by decide), if_neg (by decide), if_neg (by decide), if_neg (by decide), if_neg (by decide), if_neg (by decide), if_neg (by decide), if_pos rfl, ea, eb, ec, b_chk ha (by decide), b_chk hb (by decide), nI_clamp (by omega), nI_clamp (by omega), b_chk hc (by decide), b_chk hc (by decide), nI_clamp (by omega)] at DQ MQ
    by_cases w : σ 62 a = σ 62 b
    · rw [if_pos w] at DQ MQ
      exact ⟨-1, p + 1, k, _, _, DQ, MQ, Or.inl rfl, by rw [b_une (by decide)]; exact t58, fun _ => by rw [b_une (by decide)]; exact s10, by omega, (h3.w61 c _).up⟩
    · rw [if_neg w] at DQ MQ
      exact ⟨-1, p + 1, k, _, _, DQ, MQ, Or.inl rfl, by rw [b_une (by decide)]; exact t58, fun _ => by rw [b_une (by decide)]; exact s10, by omega, (h3.w61 c _).up⟩
  · -- tell
    obtain ⟨a, ha, ea⟩ := k09 (Or.inr e)
    rw [if_neg (by decide), if_neg (by decide), if_neg (by decide), if_neg (by decide), if_neg (by decide), if_neg (by decide), if_neg (by decide), if_neg (by decide), if_neg (by decide), ea, b_chk ha (by decide), nI_clamp (by omega), q_X0_tell_56, s8] at DQ
    rw [if_neg (by decide), if_neg (by decide), if_neg (by decide), if_neg (by decide), if_neg (by decide), if_neg (by decide), if_neg (by decide), if_neg (by decide), if_neg (by decide), ea, b_chk ha (by decide), nI_clamp (by omega)] at MQ
    by_cases w : nt < 100
    · rw [if_pos (lt_lit 100 100 (by decide) w (by decide)), b_chk w (by decide), nI_clamp (by omega), nI_1] at DQ MQ
      simp only [Option.bind_some] at DQ
      exact ⟨-1, p + 1, k, _, _, DQ, MQ, Or.inl rfl, by rw [b_ueq, b_upn (by decide), b_une (by decide)]; exact t58, fun _ => by rw [b_ueq, b_upn (by decide), b_une (by decide)]; exact s10, by omega, (h3.wtell s8 w _).up⟩
    · have q : ¬ nI nt < (100 : Int32) := fun q => w ((p_lt (k := 100) (by decide) (by omega) (by decide)).mp q)
      rw [if_neg q] at DQ MQ
      simp only [Option.bind_some] at DQ
      exact ⟨-1, p + 1, k, _, _, DQ, MQ, Or.inl rfl, t58, fun _ => s10, by omega, h3.up⟩
