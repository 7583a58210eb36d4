variable {B : Nat}
/-! call -/
theorem Inv.up {σ : rd_Sg} (h : Inv B σ) : Inv (B + 1) σ := by
  obtain ⟨nf, ns, nr, ne, nl, nc, no, nt, nd, lo, hA, ⟨hB1, hB2, hB3, hB4⟩, hC, ⟨hD1, hD2, hD3, hD4⟩, hE, hF, hG⟩ := h
  exact ⟨nf, ns, nr, ne, nl, nc, no, nt, nd, lo, hA, ⟨hB1, hB2, hB3, hB4.up⟩, hC, ⟨hD1, hD2, by omega, hD4⟩, hE, hF, hG⟩
theorem Inv.le {σ : rd_Sg} {B' : Nat} (h : Inv B σ) (hb : B ≤ B') : Inv B' σ := by
  induction B' with
  | zero => have : B = 0 := by omega
            subst this; exact h
  | succ n ih =>
    by_cases e : B = n + 1
    · subst e; exact h
    · exact (ih (by omega)).up
theorem Pair.same {B' : Nat} {D M : rd_Sg → Option (Int32 × rd_Sg)} {σ τ : rd_Sg} {r : Int32} (hI : Inv B (mix σ τ)) (hb : B ≤ B') (h1 : D σ = some (r, σ)) (h2 : M τ = some (r, τ)) : Pair B' D M σ τ := ⟨r, σ, τ, h1, h2, fun _ _ => rfl, fun _ _ => rfl, hI.le hb⟩
/-- whether a value may come -/
def cmF (b i ns : Nat) (v : Int32) : Int32 := if b.testBit i = true then (if v = -1 then 1 else hv v ns) else 1
theorem cmF_st {b i ns : Nat} {v : Int32} (h : ¬ cmF b i ns v = 0) (hb : b.testBit i = true) (hn : ns < 2 ^ 31) : StV ns v := by
  unfold cmF at h
  rw [if_pos hb] at h
  by_cases e : v = -1
  · exact Or.inl e
  · rw [if_neg e] at h
    rcases hv_ix v hn with q | q
    · exact absurd q h
    · exact Or.inr q
theorem d_can (ρ : Nat × (Nat → Int32)) (σ : rd_Sg) {sg p b g i ns : Nat} {F : Int32} (v : Int32) (h : SD (σ 5) (σ 6) (σ 7) (σ 8) sg p b g F) (hi : i < 3) (h91 : σ 9 1 = nI ns) : rd_R ρ 118 0 [some (.ref 0), some (.int (nI sg)), some (.int (nI i)), some (.int v)] [] σ = some (cmF b i ns v, σ) := by
  rw [q_D_canCome_0, d_ts ρ σ h hi]
  simp only [Option.bind_some]
  unfold cmF
  cases e : b.testBit i
  · rw [show b2 false = 0 from rfl, if_pos rfl, if_neg (by decide)]
  · rw [show b2 true = 1 from rfl, if_neg (by decide), if_pos rfl]
    by_cases q : v = -1
    · rw [if_pos q, if_pos q]
    · rw [if_neg q, if_neg q, s_has ρ σ v h91]
      simp only [Option.bind_some]
      rcases hv01 v ns with w | w
      · rw [if_pos w, w]
      · rw [w, if_neg (by decide)]
theorem m_may (ρ : Nat × (Nat → Int32)) (τ : rd_Sg) {s m f sg p b g i ns : Nat} {F : Int32} (v : Int32) (h : SD (τ 67) (τ 68) (τ 69) (τ 70) sg p b g F) (hs : s < 24) (hf : τ 71 s = nI f) (hsg : sg = 8 * f + m) (hi : i < 3) (h7 : τ 64 7 = nI ns) (hns : ns ≤ 24) : rd_R ρ 164 0 [some (.ref 64), some (.int (nI s)), some (.int (nI m)), some (.int (nI i)), some (.int v), none] [] τ = some (cmF b i ns v, τ) := by
  have hb8 := h.b8
  have hbit := fun q => h.bit (i := i) q
  obtain ⟨h1, h2, h3, h4, h5, h6, h77, h8⟩ := h
  rw [q_M_mayCome_64, m_methodAt ρ τ hs hf, ← hsg]
  simp only [Option.bind_some]
  rw [b_chk h1 (by decide), b_chk h1 (by decide), nI_clamp (by omega), h5, h6, h7, bit_ask (by omega) (by omega)]
  have ez : (nI ((b >>> i) % 2) = 0) ↔ ¬ b.testBit i = true := by
    rw [← bit_is (b := b) (g := i) (by omega) (by omega), bit_ask (by omega) (by omega), show (0 : Int32) = nI 0 by decide, show (1 : Int32) = nI 1 by decide, nI_eq (by omega) (by decide), nI_eq (by omega) (by decide)]
    omega
  unfold cmF
  by_cases c : i < p
  · rw [if_pos (nI_lt c (by omega))]
    by_cases e : b.testBit i = true
    · rw [if_neg (fun w => ez.mp w e), if_pos e]
      by_cases q : v = -1
      · subst q
        rw [m_in_m1 ρ τ (by omega), if_pos rfl]
        simp only [Option.bind_some, b10, if_false]
      · rw [if_neg q]
        rcases hv_ix v (n := ns) (by omega) with w | ⟨j, hj, rfl⟩
        · rw [m_in_no ρ τ q w (by omega), w]
          rfl
        · rw [m_in_j ρ τ hj (by omega), hv_in hj (by omega)]
          simp only [Option.bind_some, b10, if_false]
    · rw [if_pos (ez.mpr e), if_neg e]
  · rw [if_neg (fun w => c ((p_lt rfl (by omega) (by omega)).mp w)), if_neg (fun w => c (hbit w))]
theorem sd_of {nf f m cc : Nat} {me pa sb gv fl bel : Nat → Int32} (h : JF nf me pa sb gv fl bel) (hsg : 8 * f + m < 96) : ∃ p b g F, SD pa sb gv fl (8 * f + m) p b g F := by
  obtain ⟨p, b, g, fl', k1, k2, k3, k4, k5, k6, k7, k8⟩ := h.2.1 _ hsg
  exact ⟨p, b, g, nI fl', hsg, k2, k4, k6, k1, k3, k5, k7⟩
set_option maxHeartbeats 4000000 in
theorem op_call (ρ : Nat × (Nat → Int32)) {σ : rd_Sg} (hI : Inv B σ) (hBB : B < 2 ^ 29) (x1 x2 x3 x4 x5 : Int32) : Both (B + 1) (rd_R ρ 117 0 [some (.ref 0), some (.int x1), some (.int x2), some (.int x3), some (.int x4), some (.int x5), none] []) (rd_R ρ 165 0 [some (.ref 64), some (.int x1), some (.int x2), some (.int x3), some (.int x4), some (.int x5)] []) σ := by
  refine Both.pair (B := B) (fun σ τ hI => ?_) hI
  have hI0 := hI
  rw [Inv.two] at hI
  obtain ⟨nf, ns, nr, ne, nl, nc, no, nt, nd, lo, ⟨⟨a1, a2, a3, a4⟩, ⟨b1, b2, b3, b4, b5, b6, b7, b8⟩, hJF, hJL, hJX, hJS⟩, -⟩ := hI
  have hns := hJS.1
  have DQ := q_D_call_0 ρ σ x1 x2 x3 x4 x5
  have MQ := q_M_call_64 ρ τ x1 x2 x3 x4 x5
  rw [m_isStand ρ τ x1 a4 (by omega)] at MQ
  simp only [Option.bind_some] at MQ
  rcases hv_ix x1 (n := ns) (by omega) with q | ⟨s, hs, rfl⟩
  · rw [d_sig_out ρ σ a3 q] at DQ
    rw [q] at MQ
    exact Pair.same (r := -1) hI0 (by omega) DQ MQ
  rw [hv_in hs (by omega), if_neg (by decide)] at MQ
  obtain ⟨f, f1, f2, f3⟩ := (hJS.2.1 s hs).1
  have hf12 : f < 12 := by have := hJF.1; omega
  obtain ⟨cc, c1, c2, -⟩ := hJF.2.2.1 f hf12
  rw [d_sig ρ σ a3 hns hs hf12 (by rw [b6]; exact f2) (by rw [b1]; exact c2)] at DQ
  rw [m_isMethod ρ τ (by omega) hf12 c1 f2 c2] at MQ
  simp only [Option.bind_some] at MQ
  rcases hv_ix x2 (n := cc) (by omega) with q | ⟨m, hm, rfl⟩
  · rw [if_pos q] at DQ
    rw [if_pos q] at MQ
    exact Pair.same (r := -1) hI0 (by omega) DQ MQ
  have hh := hv_in hm (show cc < 2 ^ 31 by omega)
  rw [hh, if_neg (by decide), ixr (kk := 8) (by decide)] at DQ
  rw [hh, if_neg (by decide)] at MQ
  simp only [Option.bind_some] at DQ
  obtain ⟨p, b, g, F, hsd⟩ := sd_of (f := f) (m := m) (cc := cc) hJF (by omega)
  have hsig : SigOk ns (τ 71) (τ 66) s m (8 * f + m) := ⟨hs, f, cc, hf12, f2, c2, c1, hm, rfl⟩
  have hsdD : SD (σ 5) (σ 6) (σ 7) (σ 8) (8 * f + m) p b g F := by rw [b2, b3, b4, b5]; exact hsd
  rw [if_neg (fun w => neg1_nI (n := 8 * f + m) (by omega) w.symm)] at DQ
  have C0 : rd_R ρ 118 0 [some (.ref 0), some (.int (nI (8 * f + m))), some (.int 0), some (.int x3)] [] σ = some (cmF b 0 ns x3, σ) := d_can ρ σ (i := 0) x3 hsdD (by decide) a3
  have C1 : rd_R ρ 118 0 [some (.ref 0), some (.int (nI (8 * f + m))), some (.int 1), some (.int x4)] [] σ = some (cmF b 1 ns x4, σ) := d_can ρ σ (i := 1) x4 hsdD (by decide) a3
  have C2 : rd_R ρ 118 0 [some (.ref 0), some (.int (nI (8 * f + m))), some (.int 2), some (.int x5)] [] σ = some (cmF b 2 ns x5, σ) := d_can ρ σ (i := 2) x5 hsdD (by decide) a3
  have M0 : rd_R ρ 164 0 [some (.ref 64), some (.int (nI s)), some (.int (nI m)), some (.int 0), some (.int x3), none] [] τ = some (cmF b 0 ns x3, τ) := m_may ρ τ (i := 0) x3 hsd (by omega) f2 rfl (by decide) a4 hns
  have M1 : rd_R ρ 164 0 [some (.ref 64), some (.int (nI s)), some (.int (nI m)), some (.int 1), some (.int x4), none] [] τ = some (cmF b 1 ns x4, τ) := m_may ρ τ (i := 1) x4 hsd (by omega) f2 rfl (by decide) a4 hns
  have M2 : rd_R ρ 164 0 [some (.ref 64), some (.int (nI s)), some (.int (nI m)), some (.int 2), some (.int x5), none] [] τ = some (cmF b 2 ns x5, τ) := m_may ρ τ (i := 2) x5 hsd (by omega) f2 rfl (by decide) a4 hns
  rw [C0] at DQ
  rw [M0] at MQ
  simp only [Option.bind_some] at DQ MQ
  by_cases q0 : cmF b 0 ns x3 = 0
  · rw [if_pos q0] at DQ MQ
    exact Pair.same (r := -1) hI0 (by omega) DQ MQ
  rw [if_neg q0, C1] at DQ
  rw [if_neg q0, M1] at MQ
  simp only [Option.bind_some] at DQ MQ
  by_cases q1 : cmF b 1 ns x4 = 0
  · rw [if_pos q1] at DQ MQ
    exact Pair.same (r := -1) hI0 (by omega) DQ MQ
  rw [if_neg q1, C2] at DQ
  rw [if_neg q1, M2] at MQ
  simp only [Option.bind_some] at DQ MQ
  by_cases q2 : cmF b 2 ns x5 = 0
  · rw [if_pos q2] at DQ MQ
    exact Pair.same (r := -1) hI0 (by omega) DQ MQ
  rw [if_neg q2] at DQ MQ
  obtain ⟨x, hx⟩ : ∃ x : Nat → Int32, x = fun i => if i = 0 then x3 else if i = 1 then x4 else x5 := ⟨_, rfl⟩
  have e0 : x 0 = x3 := by rw [hx]; rfl
  have e1 : x 1 = x4 := by rw [hx]; rfl
  have e2 : x 2 = x5 := by rw [hx]; rfl
  have hxs : ∀ i, i < 3 → b.testBit i = true → StV ns (x i) := by
    intro i hi hb
    have : i = 0 ∨ i = 1 ∨ i = 2 := by omega
    rcases this with rfl | rfl | rfl
    · rw [e0]; exact cmF_st q0 hb (by omega)
    · rw [e1]; exact cmF_st q1 hb (by omega)
    · rw [e2]; exact cmF_st q2 hb (by omega)
  obtain ⟨σ1, τ1, h1, h2, hr⟩ := call_step ρ (x := x) hI0 hBB a3 hns hsig hsd hxs
  have RD := d_ready ρ σ (s := s) (m := m) x hsdD
  rw [e0, e1, e2, show nI 0 = (0 : Int32) by decide, show nI 1 = (1 : Int32) by decide, show nI 2 = (2 : Int32) by decide] at RD
  have RD2 := congrArg (fun o => Option.bind o fun q11 => (rd_R ρ 79 0 [some (.ref 31), none] [] q11.2).bind fun q12 => some (q12.2 30 5, q12.2)) RD
  simp only [Option.bind_assoc, Option.bind_some, h1] at RD2
  rw [e0, e1, e2] at h2
  rw [h2] at MQ
  simp only [Option.bind_some] at MQ
  obtain ⟨r1, r2, r3, r4, r5, r6, r7, r8, r9, r10⟩ := hr
  refine ⟨σ1 30 5, σ1, τ1, DQ.trans RD2, by rw [r6]; exact MQ, fun c hc => r2 c (by omega), fun c hc => r3 c (by omega), r1⟩
