variable {B : Nat}
/-! forget: rows are filled -/
def flf (f : Nat → Int32) (k : Nat) (x : Int32) : Nat → Int32 := fun j => if j < k then x else f j
theorem flf_step {f : Nat → Int32} {k : Nat} {x : Int32} : upd (flf f k x) k x = flf f (k + 1) x := by
  funext j
  unfold upd flf
  by_cases h : j = k
  · rw [if_pos h, if_pos (by omega)]
  · rw [if_neg h]
    by_cases h2 : j < k
    · rw [if_pos h2, if_pos (by omega)]
    · rw [if_neg h2, if_neg (by omega)]
theorem flf_0 {f : Nat → Int32} {x : Int32} : flf f 0 x = f := by
  funext j
  unfold flf
  rw [if_neg (by omega)]
theorem fl_step {σ : rd_Sg} {c k : Nat} {x : Int32} {f : Nat → Int32} : rd_u (rd_uc σ c (flf f k x)) c k x = rd_uc σ c (flf f (k + 1) x) := by
  funext q
  by_cases h : q = c
  · subst h; rw [b_ueq, b_uceq, b_uceq, flf_step]
  · rw [b_une h, b_ucne h, b_ucne h]
theorem fl_0 {σ : rd_Sg} {c : Nat} {x : Int32} : rd_uc σ c (flf (σ c) 0 x) = σ := by
  rw [flf_0]
  funext q
  by_cases h : q = c
  · subst h; rw [b_uceq]
  · rw [b_ucne h]
theorem fill_25 (ρ : Nat × (Nat → Int32)) (σ : rd_Sg) (x : Int32) : rd_R ρ 193 0 [some (.ref 25), some (.int x), none, none] [] σ = some (0, rd_uc σ 25 (flf (σ 25) 80 x)) := by
  have H : ∀ (d j : Nat), j + d = 80 → rd_R ρ 193 5 [some (.ref 25), some (.int x), some (.int (nI j)), some (.int 80)] [] (rd_uc σ 25 (flf (σ 25) j x)) = some (0, rd_uc σ 25 (flf (σ 25) 80 x)) := by
    intro d
    induction d with
    | zero =>
      intro j hj
      have : j = 80 := by omega
      subst this
      rw [q_J7_fill_53178_25_at5, if_neg (by decide)]
    | succ d ih =>
      intro j hj
      rw [q_J7_fill_53178_25_at5, if_pos (lt_lit 80 80 (by decide) (by omega) (by decide)), b_chk (by omega) (by decide), nI_clamp (by omega), fl_step, nI_1]
      exact ih (j + 1) (by omega)
  have h := H 80 0 (by omega)
  rw [fl_0] at h
  rw [q_J7_fill_53178_25]
  exact h
theorem fill_32 (ρ : Nat × (Nat → Int32)) (σ : rd_Sg) (x : Int32) : rd_R ρ 193 0 [some (.ref 32), some (.int x), none, none] [] σ = some (0, rd_uc σ 32 (flf (σ 32) 6 x)) := by
  have H : ∀ (d j : Nat), j + d = 6 → rd_R ρ 193 5 [some (.ref 32), some (.int x), some (.int (nI j)), some (.int 6)] [] (rd_uc σ 32 (flf (σ 32) j x)) = some (0, rd_uc σ 32 (flf (σ 32) 6 x)) := by
    intro d
    induction d with
    | zero =>
      intro j hj
      have : j = 6 := by omega
      subst this
      rw [q_J7_fill_53178_32_at5, if_neg (by decide)]
    | succ d ih =>
      intro j hj
      rw [q_J7_fill_53178_32_at5, if_pos (lt_lit 6 6 (by decide) (by omega) (by decide)), b_chk (by omega) (by decide), nI_clamp (by omega), fl_step, nI_1]
      exact ih (j + 1) (by omega)
  have h := H 6 0 (by omega)
  rw [fl_0] at h
  rw [q_J7_fill_53178_32]
  exact h
theorem fill_61 (ρ : Nat × (Nat → Int32)) (σ : rd_Sg) (x : Int32) : rd_R ρ 193 0 [some (.ref 61), some (.int x), none, none] [] σ = some (0, rd_uc σ 61 (flf (σ 61) 8 x)) := by
  have H : ∀ (d j : Nat), j + d = 8 → rd_R ρ 193 5 [some (.ref 61), some (.int x), some (.int (nI j)), some (.int 8)] [] (rd_uc σ 61 (flf (σ 61) j x)) = some (0, rd_uc σ 61 (flf (σ 61) 8 x)) := by
    intro d
    induction d with
    | zero =>
      intro j hj
      have : j = 8 := by omega
      subst this
      rw [q_J7_fill_53178_61_at5, if_neg (by decide)]
    | succ d ih =>
      intro j hj
      rw [q_J7_fill_53178_61_at5, if_pos (lt_lit 8 8 (by decide) (by omega) (by decide)), b_chk (by omega) (by decide), nI_clamp (by omega), fl_step, nI_1]
      exact ih (j + 1) (by omega)
  have h := H 8 0 (by omega)
  rw [fl_0] at h
  rw [q_J7_fill_53178_61]
  exact h
theorem fill_62 (ρ : Nat × (Nat → Int32)) (σ : rd_Sg) (x : Int32) : rd_R ρ 193 0 [some (.ref 62), some (.int x), none, none] [] σ = some (0, rd_uc σ 62 (flf (σ 62) 4 x)) := by
  have H : ∀ (d j : Nat), j + d = 4 → rd_R ρ 193 5 [some (.ref 62), some (.int x), some (.int (nI j)), some (.int 4)] [] (rd_uc σ 62 (flf (σ 62) j x)) = some (0, rd_uc σ 62 (flf (σ 62) 4 x)) := by
    intro d
    induction d with
    | zero =>
      intro j hj
      have : j = 4 := by omega
      subst this
      rw [q_J7_fill_53178_62_at5, if_neg (by decide)]
    | succ d ih =>
      intro j hj
      rw [q_J7_fill_53178_62_at5, if_pos (lt_lit 4 4 (by decide) (by omega) (by decide)), b_chk (by omega) (by decide), nI_clamp (by omega), fl_step, nI_1]
      exact ih (j + 1) (by omega)
  have h := H 4 0 (by omega)
  rw [fl_0] at h
  rw [q_J7_fill_53178_62]
  exact h
theorem d_startAgain (ρ : Nat × (Nat → Int32)) (σ : rd_Sg) : rd_R ρ 75 0 [some (.ref 14), none] [] σ = some (0, rd_uc (rd_uc σ 25 (flf (σ 25) 80 0)) 26 (flf (σ 26) 240 0)) := by
  have z : (0 : Int32) &&& 1 = 0 := by decide
  have H : ∀ (τ : rd_Sg) (d j : Nat), j + d = 240 → rd_R ρ 75 6 [some (.ref 14), some (.int (nI j))] [] (rd_uc τ 26 (flf (τ 26) j 0)) = some (0, rd_uc τ 26 (flf (τ 26) 240 0)) := by
    intro τ d
    induction d with
    | zero =>
      intro j hj
      have : j = 240 := by omega
      subst this
      rw [q_X6_startAgain_14_at6, if_neg (by decide)]
    | succ d ih =>
      intro j hj
      rw [q_X6_startAgain_14_at6, if_pos (lt_lit 240 240 (by decide) (by omega) (by decide)), b_chk (by omega) (by decide), nI_clamp (by omega), z, fl_step, nI_1]
      exact ih (j + 1) (by omega)
  have h := H (rd_uc σ 25 (flf (σ 25) 80 0)) 240 0 (by omega)
  rw [fl_0] at h
  rw [q_X6_startAgain_14, fill_25]
  simp only [Option.bind_some]
  rw [b_ucne (by decide)] at h
  exact h
theorem m_forget_14 (ρ : Nat × (Nat → Int32)) (τ : rd_Sg) (x : Int32) : rd_R ρ 191 14 [some (.ref 64), some (.int x), some (.int 0)] [] τ = rd_R ρ 191 26 [some (.ref 64), some (.int x), some (.int 0)] [] (rd_uc τ 83 (flf (τ 83) 240 0)) := by
  have z : (0 : Int32) &&& 1 = 0 := by decide
  have H : ∀ (d j : Nat), j + d = 240 → rd_R ρ 191 14 [some (.ref 64), some (.int x), some (.int (nI j))] [] (rd_uc τ 83 (flf (τ 83) j 0)) = rd_R ρ 191 26 [some (.ref 64), some (.int x), some (.int 0)] [] (rd_uc τ 83 (flf (τ 83) 240 0)) := by
    intro d
    induction d with
    | zero =>
      intro j hj
      have : j = 240 := by omega
      subst this
      rw [q_M_forget_64_at14, if_neg (by decide)]
    | succ d ih =>
      intro j hj
      rw [q_M_forget_64_at14, if_pos (lt_lit 240 240 (by decide) (by omega) (by decide)), b_chk (by omega) (by decide), nI_clamp (by omega), z, fl_step, nI_1]
      exact ih (j + 1) (by omega)
  have h := H 240 0 (by omega)
  rw [fl_0] at h
  exact h
theorem m_forget_26 (ρ : Nat × (Nat → Int32)) (τ : rd_Sg) (x : Int32) : rd_R ρ 191 26 [some (.ref 64), some (.int x), some (.int 0)] [] τ = rd_R ρ 191 38 [some (.ref 64), some (.int x), some (.int 0)] [] (rd_uc τ 82 (flf (τ 82) 80 0)) := by
  have z : (0 : Int32) &&& 1 = 0 := by decide
  have H : ∀ (d j : Nat), j + d = 80 → rd_R ρ 191 26 [some (.ref 64), some (.int x), some (.int (nI j))] [] (rd_uc τ 82 (flf (τ 82) j 0)) = rd_R ρ 191 38 [some (.ref 64), some (.int x), some (.int 0)] [] (rd_uc τ 82 (flf (τ 82) 80 0)) := by
    intro d
    induction d with
    | zero =>
      intro j hj
      have : j = 80 := by omega
      subst this
      rw [q_M_forget_64_at26, if_neg (by decide)]
    | succ d ih =>
      intro j hj
      rw [q_M_forget_64_at26, if_pos (lt_lit 80 80 (by decide) (by omega) (by decide)), b_chk (by omega) (by decide), nI_clamp (by omega), fl_step, nI_1]
      exact ih (j + 1) (by omega)
  have h := H 80 0 (by omega)
  rw [fl_0] at h
  exact h
theorem m_forget_38 (ρ : Nat × (Nat → Int32)) (τ : rd_Sg) (x : Int32) : rd_R ρ 191 38 [some (.ref 64), some (.int x), some (.int 0)] [] τ = some (x, rd_uc τ 73 (flf (τ 73) 6 0)) := by
  have z : (0 : Int32) &&& 1 = 0 := by decide
  have H : ∀ (d j : Nat), j + d = 6 → rd_R ρ 191 38 [some (.ref 64), some (.int x), some (.int (nI j))] [] (rd_uc τ 73 (flf (τ 73) j 0)) = some (x, rd_uc τ 73 (flf (τ 73) 6 0)) := by
    intro d
    induction d with
    | zero =>
      intro j hj
      have : j = 6 := by omega
      subst this
      rw [q_M_forget_64_at38, if_neg (by decide)]
    | succ d ih =>
      intro j hj
      rw [q_M_forget_64_at38, if_pos (lt_lit 6 6 (by decide) (by omega) (by decide)), b_chk (by omega) (by decide), nI_clamp (by omega), fl_step, nI_1]
      exact ih (j + 1) (by omega)
  have h := H 6 0 (by omega)
  rw [fl_0] at h
  exact h
theorem flf_lt {f : Nat → Int32} {k j : Nat} {x : Int32} (h : j < k) : flf f k x j = x := if_pos h
set_option maxHeartbeats 4000000 in
theorem op_forget (ρ : Nat × (Nat → Int32)) {σ : rd_Sg} (hI : Inv B σ) : Both B (rd_R ρ 135 0 [some (.ref 0), none] []) (rd_R ρ 191 0 [some (.ref 64), none, none] []) σ := by
  obtain ⟨nf, ns, nr, ne, nl, nc, no, nt, nd, lo, hA, ⟨hB1, ⟨c1, c2, c3, c4, c5⟩, hB3, hB4⟩, hC, ⟨⟨g0, g1, g2, g3, g4, g5, g6, g7, g8, g9, g10⟩, hD2, hD3, hD4⟩, hE, hF, ⟨⟨b1, b2', b3', b4, b5, b6, b7, b8⟩, hG2⟩⟩ := hI
  have E1 := q_D_forget_0 ρ σ
  rw [q_X4_size_28] at E1
  simp only [Option.bind_some, q_X4_empty_28, d_startAgain, q_X0_emptyTold_56, fill_32] at E1
  have M : ∀ τ : rd_Sg, rd_R ρ 191 0 [some (.ref 64), none, none] [] τ = _ := fun τ => (q_M_forget_64 ρ τ).trans ((m_forget_14 ρ _ _).trans ((m_forget_26 ρ _ _).trans (m_forget_38 ρ _ _)))
  generalize hσ1 : rd_uc (rd_u (rd_uc (rd_uc (rd_u (rd_u σ 28 3 0) 28 4 0) 25 (flf (rd_u (rd_u σ 28 3 0) 28 4 0 25) 80 0)) 26 (flf (rd_u (rd_u σ 28 3 0) 28 4 0 26) 240 0)) 56 8 0) 32 (flf (rd_u (rd_uc (rd_uc (rd_u (rd_u σ 28 3 0) 28 4 0) 25 (flf (rd_u (rd_u σ 28 3 0) 28 4 0 25) 80 0)) 26 (flf (rd_u (rd_u σ 28 3 0) 28 4 0 26) 240 0)) 56 8 0 32) 6 0) = σ1 at E1
  have M1 := M σ1
  have hr : σ1 64 23 = σ 28 3 := by
    rw [← hσ1]
    simp only [rd_un, rd_ucn, ne_eq, Nat.reduceEqDiff, not_false_eq_true]
    rw [g1, g0]
  rw [hr] at M1
  refine ⟨_, _, _, E1, M1, ?_⟩
  subst hσ1
  · refine ⟨nf, ns, nr, ne, 0, nc, no, 0, nd, 0, ?_⟩
    simp only [b_une, b_ucne, b_ueq, b_uceq, ne_eq, Nat.reduceEqDiff, not_false_eq_true, b_ups, b_upn, c4, g10]
    refine ⟨hA, ⟨hB1, ⟨c1, c2, c3, trivial, c5⟩, hB3, ?_⟩, hC, ⟨⟨by decide, by decide, trivial, g3, g4, g5, g6, g7, g8, g9, trivial⟩, ⟨by decide, fun i hi => absurd hi (Nat.not_lt_zero i)⟩, Nat.zero_le _, by decide⟩, hE, hF, ⟨⟨b1, b2', by decide, by decide, by decide, b6, b7, b8⟩, hG2⟩⟩
    obtain ⟨v1, v2, v3⟩ := hB4
    refine ⟨fun r hr => ?_, fun j hj => Or.inl (flf_lt hj), fun j hj1 hj2 => flf_lt hj2⟩
    obtain ⟨a, t, w1, w2, w3, w4, w5, w6, w7⟩ := v1 r hr
    exact ⟨a, 0, w1, w2, Nat.zero_le _, by rw [flf_lt hr]; decide, by rw [flf_lt hr]; decide, fun q => ⟨(w6 q).1, rfl⟩, w7⟩
