variable {B : Nat}
/-! run: the loop -/
def HD (ρ : Nat × (Nat → Int32)) (B nc ns nd p : Nat) (σ0 τ0 σ τ : rd_Sg) : Prop := Inv B (mix σ τ) ∧ (∀ c, 64 ≤ c → σ c = σ0 c) ∧ (∀ c, c < 64 → τ c = τ0 c) ∧ τ 64 41 = nI nc ∧ p ≤ 60 ∧ σ 56 10 = nI p ∧ ∃ k τf, rd_R ρ 186 0 [some (.ref 64), some (.int (nI p)), none, none] [] τ = some (0, τf) ∧ BF B nc ns nd k σ0 τ0 σ τf
theorem arr (ρ : Nat × (Nat → Int32)) {nc ns nd k p : Nat} {σ0 τ0 σ τ : rd_Sg} (h : BF B nc ns nd k σ0 τ0 σ τ) (hp : p ≤ 60) (h10 : σ 56 10 = nI p) : ∃ σ1, rd_R ρ 10 0 [some (.ref 56)] [] σ = some (0, σ1) ∧ HD ρ B nc ns nd p σ0 τ0 σ1 τ := by
  obtain ⟨nt, ⟨g1, g2, g3⟩, gt, gd, ⟨f1, f2⟩, hst, -⟩ := h.out
  obtain ⟨k', σ', τ', e1, e2, e3, e4, e5, e6⟩ := flt ρ (nI p) h.2.2.2.1
  have DQ := q_X0_arrive_56 ρ σ
  rw [h10, e1] at DQ
  simp only [Option.bind_some] at DQ
  refine ⟨σ', DQ, run_inv (ns := ns) (nt := nt) (nd := nd) h.1 (Nat.le_refl B) h.2.1.2.2.1 h.2.1.2.2.2.1 (fun c hc => e4 c (by omega)) (fun _ _ _ => rfl) (fun _ _ => rfl) (by rw [e4 61 (by decide)]; exact g1) (by rw [e4 63 (by decide)]; exact g3) (by rw [e4 56 (by decide)]; exact gt) (by rw [e4 56 (by decide)]; exact gd) (by rw [e4 62 (by decide)]; exact hst) (by rw [e4 62 (by decide)]; exact g2) h.2.1.1, fun c hc => (e4 c (by omega)).trans (h.2.2.2.2.1 c hc), h.2.2.2.2.2, f1, hp, by rw [e4 56 (by decide)]; exact h10, k', τ', e2, ?_⟩
  exact h.go (nt := nt) (nd' := nd) (fun c hc => e4 c (by omega)) (fun c hc => e4 c (by omega)) (fun c h1 h2 => e5 c h1 (by omega)) (fun j hj => e6 j (by omega)) (by rw [e4 61 (by decide), e5 97 (by decide) (by decide)]; exact g1) (by rw [e4 63 (by decide), e5 99 (by decide) (by decide)]; exact g3) (by rw [e4 56 (by decide), e6 50 (by decide)]; exact gt) (by rw [e4 56 (by decide), e6 49 (by decide)]; exact gd) (by rw [e4 62 (by decide)]; exact hst) (by rw [e4 62 (by decide), e5 98 (by decide) (by decide)]; exact g2) (by rw [e6 48 (by decide)]; exact h.2.1.1) e3
theorem d_at (ρ : Nat × (Nat → Int32)) {σ : rd_Sg} {p nc : Nat} (h10 : σ 56 10 = nI p) (h51 : σ 51 0 = nI nc) (hp : p ≤ 60) (hn : nc ≤ 60) : rd_R ρ 4 0 [some (.ref 56)] [] σ = some (if p < nc then 1 else 0, σ) := by
  rw [q_X0_isAtCue_56, q_X1_size_51, h10, h51]
  simp only [Option.bind_some]
  by_cases w : p < nc
  · rw [if_pos (nI_lt w (by omega)), if_pos w]
  · rw [if_neg (fun q => w ((p_lt rfl (by omega) (by omega)).mp q)), if_neg w]
set_option maxHeartbeats 4000000 in
theorem run_loop (ρ : Nat × (Nat → Int32)) {n nc ns : Nat} {σ0 τ0 : rd_Sg} (hn : n ≤ 1000) : ∀ (d i B nd p : Nat) (σ τ : rd_Sg) (o3 : Option Value), i + d = n → nd + d < 30000 → B + d < 2 ^ 29 → HD ρ B nc ns nd p σ0 τ0 σ τ →
    ∃ r σ1 τ1, rd_R ρ 130 19 [some (.ref 0), some (.int (nI n)), some (.int (nI i)), o3] [] σ = some (r, σ1) ∧ rd_R ρ 187 47 [some (.ref 64), some (.int (nI n)), some (.int (nI p)), some (.int (nI i))] [] τ = some (r, τ1) ∧ (∀ c, 64 ≤ c → σ1 c = σ0 c) ∧ (∀ c, c < 64 → τ1 c = τ0 c) ∧ Inv (B + d) (mix σ1 τ1) := by
  intro d
  induction d with
  | zero =>
    intro i B nd p σ τ o3 hi h1 h2 hH
    obtain ⟨hI, F1, F2, h41, hp, h10, k, τf, e1, hb⟩ := hH
    have hnc := hb.2.1.2.2.2.2
    have A := d_at ρ h10 hb.2.1.2.1 hp hnc
    have DQ := q_D_run_0_at19 ρ σ (nI n) (nI i) o3
    have MQ := q_M_run_64_at47 ρ τ (nI n) (nI p) (nI i)
    have hin : i = n := by omega
    subst hin
    rw [if_neg (fun q => absurd ((p_lt rfl (by omega) (by omega)).mp q) (by omega)), A] at DQ
    rw [h41] at MQ
    simp only [Option.bind_some] at DQ
    by_cases w : p < nc
    · rw [if_pos w, if_neg (by decide)] at DQ
      rw [if_pos (nI_lt w (by omega)), if_pos rfl] at MQ
      exact ⟨_, σ, τ, DQ, MQ, F1, F2, hI⟩
    · rw [if_neg w, if_pos rfl] at DQ
      rw [if_neg (fun q => w ((p_lt rfl (by omega) (by omega)).mp q))] at MQ
      exact ⟨_, σ, τ, DQ, MQ, F1, F2, hI⟩
  | succ d ih =>
    intro i B nd p σ τ o3 hi h1 h2 hH
    obtain ⟨hI, F1, F2, h41, hp, h10, k, τf, e1, hb⟩ := hH
    have hnc := hb.2.1.2.2.2.2
    have A := d_at ρ h10 hb.2.1.2.1 hp hnc
    have DQ := q_D_run_0_at19 ρ σ (nI n) (nI i) o3
    have MQ := q_M_run_64_at47 ρ τ (nI n) (nI p) (nI i)
    rw [if_pos (nI_lt (show i < n by omega) (by omega)), A] at DQ
    rw [h41] at MQ
    simp only [Option.bind_some] at DQ
    by_cases w : ¬ p < nc
    · rw [if_neg w, if_pos rfl, A] at DQ
      simp only [Option.bind_some] at DQ
      rw [if_neg w, if_pos rfl] at DQ
      rw [if_neg (fun q => w ((p_lt rfl (by omega) (by omega)).mp q))] at MQ
      exact ⟨_, σ, τ, DQ, MQ, F1, F2, hI.le (by omega)⟩
    have w := Decidable.not_not.mp w
    obtain ⟨kd, p1, k1, σ1, τ1, d1, d2, d3, d4, d5, d6, d7⟩ := cue_step ρ hb (by omega) w h10 (by omega)
    obtain ⟨-, -, -, gd, -⟩ := hb.out
    rw [if_pos w, if_neg (by decide), d1] at DQ
    rw [if_pos (nI_lt w (by omega)), if_neg (fun q => absurd ((nI_eq (by omega) (by omega)).mp q) (by omega)), e1] at MQ
    simp only [Option.bind_some] at DQ MQ
    rw [gd.2.2, nI_1, d2] at MQ
    simp only [Option.bind_some] at MQ
    rw [d4] at MQ
    rcases d3 with rfl | ⟨q, hq, rfl⟩
    · rw [if_pos rfl, q_D_run_0_at42] at DQ
      rw [if_pos (by decide), nI_1] at MQ
      obtain ⟨σ2, a1, a2⟩ := arr ρ d7 d6 (d5 rfl)
      rw [a1] at DQ
      simp only [Option.bind_some] at DQ
      rw [nI_1] at DQ
      obtain ⟨r, σ3, τ3, r1, r2, r3, r4, r5⟩ := ih (i + 1) (B + 1) (nd + 1) p1 σ2 τ1 _ (by omega) (by omega) (by omega) a2
      exact ⟨r, σ3, τ3, DQ.trans r1, MQ.trans r2, r3, r4, by rw [show B + (d + 1) = B + 1 + d by omega]; exact r5⟩
    · rw [if_neg (fun z => neg1_nI (n := q) (by omega) z.symm)] at DQ
      rw [if_neg (nI_pos (by omega))] at MQ
      obtain ⟨t1, t2, t3, t4⟩ := d7.2.2.2.1
      rw [q_X0_recover_56, q_X9_take_57, t2] at DQ
      rw [t3] at MQ
      cases k1 with
      | zero =>
        rw [if_pos (by decide)] at DQ MQ
        simp only [Option.bind_some, if_true] at DQ
        refine ⟨_, σ1, τ1, DQ, ?_, d7.2.2.2.2.1, d7.2.2.2.2.2, d7.1.le (by omega)⟩
        rw [MQ, Int32.add_comm]
      | succ j =>
        obtain ⟨u1, u2, u3, t, ht, u4⟩ := t4 j (by omega)
        have z : ¬ nI (j + 1) = (0 : Int32) := fun z => absurd ((nI_eq (by omega) (by decide)).mp (z.trans (show (0 : Int32) = nI 0 by decide))) (by omega)
        rw [if_neg z, nI_m1, b_chk (by omega) (by decide), nI_clamp (by omega), u3, u4] at DQ
        rw [if_neg z, nI_m1, b_chk (by omega) (by decide), nI_clamp (by omega), u4, nI_1] at MQ
        simp only [Option.bind_some] at DQ
        rw [if_neg (fun z => neg1_nI (n := t) (by omega) z.symm)] at DQ
        simp only [Option.bind_some, b10, if_false] at DQ
        rw [q_D_run_0_at42] at DQ
        have hb2 := ((d7.w52 (k' := j) (by omega)).w61 6 (nI q)).w10 (nI t)
        obtain ⟨σ2, a1, a2⟩ := arr ρ (p := t) hb2 ht rd_us
        rw [a1] at DQ
        simp only [Option.bind_some] at DQ
        rw [nI_1] at DQ
        obtain ⟨r, σ3, τ3, r1, r2, r3, r4, r5⟩ := ih (i + 1) (B + 1) (nd + 1) t σ2 _ _ (by omega) (by omega) (by omega) a2
        exact ⟨r, σ3, τ3, DQ.trans r1, MQ.trans r2, r3, r4, by rw [show B + (d + 1) = B + 1 + d by omega]; exact r5⟩
