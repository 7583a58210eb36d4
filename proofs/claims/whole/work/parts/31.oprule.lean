variable {B : Nat}
/-! rule, expect -/
theorem JP.add {off n cap ns nf s m sg : Nat} {sf me pa sb stD meD sgD cD lD hD stM meM cM cM' lM hM : Nat → Int32} (h : JP off n cap ns nf sf me pa sb stD meD sgD cD lD hD stM meM cM lM hM) (hn : n < cap) (hs : SigOk ns sf me s m sg) (hc0 : ∀ i, i < 3 → cM' (3 * (off + n) + i) = 0) (hco : ∀ j, (j < 3 * (off + n) ∨ 3 * (off + n) + 3 ≤ j) → cM' j = cM j) : JP off (n + 1) cap ns nf sf me pa sb (upd stD n (nI s)) (upd meD n (nI m)) (upd sgD n (nI sg)) cD lD hD (upd stM (off + n) (nI s)) (upd meM (off + n) (nI m)) cM' lM hM := by
  obtain ⟨h1, h2, h3, h4⟩ := h
  refine ⟨by omega, fun r hr => ?_, fun r hr1 hr2 i hi => h3 r (by omega) hr2 i hi, h4⟩
  by_cases e : r = n
  · subst e
    refine ⟨s, m, sg, hs, b_ups, b_ups, b_ups, b_ups, b_ups, fun i hi => ?_⟩
    refine ⟨0, by omega, by rw [hc0 i hi]; rfl, by rw [h3 r (Nat.le_refl _) hn i hi]; rfl, fun q => absurd rfl q, fun q => by omega, fun q => by omega⟩
  · obtain ⟨s', m', sg', k1, k2, k3, k4, k5, k6, k7⟩ := h2 r (by omega)
    refine ⟨s', m', sg', k1, by rw [b_upn e]; exact k2, by rw [b_upn (by omega)]; exact k3, by rw [b_upn e]; exact k4, by rw [b_upn (by omega)]; exact k5, by rw [b_upn e]; exact k6, fun i hi => ?_⟩
    obtain ⟨c, c1, c2, c3, c4, c5⟩ := k7 i hi
    exact ⟨c, c1, by rw [hco _ (by omega)]; exact c2, c3, c4, c5⟩
/-- the other kind's patterns don't move -/
theorem JP.agree {off n cap ns nf : Nat} {sf me pa sb stD meD sgD cD lD hD stM meM cM lM hM stM' meM' cM' lM' hM' : Nat → Int32} (h : JP off n cap ns nf sf me pa sb stD meD sgD cD lD hD stM meM cM lM hM) (e1 : ∀ r, r < cap → stM' (off + r) = stM (off + r)) (e2 : ∀ r, r < cap → meM' (off + r) = meM (off + r)) (e3 : ∀ j, j < 3 * cap → cM' (3 * off + j) = cM (3 * off + j) ∧ lM' (3 * off + j) = lM (3 * off + j) ∧ hM' (3 * off + j) = hM (3 * off + j)) : JP off n cap ns nf sf me pa sb stD meD sgD cD lD hD stM' meM' cM' lM' hM' := by
  obtain ⟨h1, h2, h3, h4⟩ := h
  refine ⟨h1, fun r hr => ?_, h3, fun j hj => ?_⟩
  · obtain ⟨s', m', sg', k1, k2, k3, k4, k5, k6, k7⟩ := h2 r hr
    refine ⟨s', m', sg', k1, k2, by rw [e1 r (by omega)]; exact k3, k4, by rw [e2 r (by omega)]; exact k5, k6, fun i hi => ?_⟩
    obtain ⟨c, c1, c2, c3, c4, c5⟩ := k7 i hi
    obtain ⟨q1, q2, q3⟩ := e3 (3 * r + i) (by omega)
    rw [show 3 * off + (3 * r + i) = 3 * (off + r) + i by omega] at q1 q2 q3
    exact ⟨c, c1, by rw [q1]; exact c2, c3, c4, c5.1, fun q => by rw [q2]; exact c5.2 q⟩
  · obtain ⟨q1, q2, q3⟩ := e3 j hj
    rw [q2, q3]
    exact h4 j hj
def b3 (σ : rd_Sg) (r : Nat) (x y : Int32) : rd_Sg := rd_u (rd_u (rd_u (rd_u (rd_u σ 74 r x) 75 r y) 76 (3 * r) 0) 76 (3 * r + 1) 0) 76 (3 * r + 2) 0
theorem m_begin (ρ : Nat × (Nat → Int32)) (σ : rd_Sg) {r : Nat} (hr : r < 120) (x y : Int32) : rd_R ρ 148 0 [some (.ref 64), some (.int (nI r)), some (.int x), some (.int y), none] [] σ = some (0, b3 σ r x y) := by
  have i0 : (3 : Int32) * nI r + 0 = nI (3 * r) := ixl (kk := 3) (b := 0) (by decide)
  have i1 : (3 : Int32) * nI r + (0 + 1) = nI (3 * r + 1) := ixl (kk := 3) (b := 1) (by decide)
  have i2 : (3 : Int32) * nI r + (0 + 1 + 1) = nI (3 * r + 2) := ixl (kk := 3) (b := 2) (by decide)
  rw [q_M_begin_64, b_chk hr (by decide), b_chk hr (by decide), nI_clamp (by omega), q_M_begin_64_at12, if_pos (by decide), i0, b_chk (by omega) (by decide), nI_clamp (by omega), q_M_begin_64_at12, if_pos (by decide), i1, b_chk (by omega) (by decide), nI_clamp (by omega), q_M_begin_64_at12, if_pos (by decide), i2, b_chk (by omega) (by decide), nI_clamp (by omega), q_M_begin_64_at12, if_neg (by decide)]
  rfl
/-- a stand's method, asked on both sides -/
theorem d_sig (ρ : Nat × (Nat → Int32)) (σ : rd_Sg) {ns s f c : Nat} {x : Int32} (h91 : σ 9 1 = nI ns) (hns : ns ≤ 24) (hs : s < ns) (hf : f < 12) (h10 : σ 10 s = nI f) (h2 : σ 2 f = nI c) : rd_R ρ 92 0 [some (.ref 9), some (.int (nI s)), some (.int x)] [] σ = if hv x c = 0 then some (-1, σ) else some (nI f * 8 + x, σ) := by
  rw [q_X8_signature_9, s_has ρ σ _ h91, hv_in hs (by omega)]
  simp only [Option.bind_some, b10, if_false, hb_id]
  rw [b_chk (by omega) (by decide), nI_clamp (by omega), h10, q_X3_signature_1, b_chk hf (by decide), nI_clamp (by omega), h2, hv_ite]
theorem m_isMethod (ρ : Nat × (Nat → Int32)) (σ : rd_Sg) {s f c : Nat} {x : Int32} (hs : s < 24) (hf : f < 12) (hc : c ≤ 8) (h71 : σ 71 s = nI f) (h66 : σ 66 f = nI c) : rd_R ρ 145 0 [some (.ref 64), some (.int (nI s)), some (.int x)] [] σ = some (hv x c, σ) := by
  rw [q_M_isMethod_64, b_chk hs (by decide), nI_clamp (by omega), h71, b_chk hf (by decide), nI_clamp (by omega), h66, m_in0 ρ σ x (by omega)]
  show some (hv x c &&& 1, σ) = _
  rw [hv_and]
theorem d_sig_out (ρ : Nat × (Nat → Int32)) (σ : rd_Sg) {ns : Nat} {x1 x2 : Int32} (h91 : σ 9 1 = nI ns) (h : hv x1 ns = 0) : rd_R ρ 92 0 [some (.ref 9), some (.int x1), some (.int x2)] [] σ = some (-1, σ) := by
  rw [q_X8_signature_9, s_has ρ σ _ h91, h]
  rfl
theorem JR.add {nr ns : Nat} {pa sgD sgD' an ak av ca tu hc cM cM' : Nat → Int32} (h : JR B nr ns pa sgD an ak av ca tu hc cM) (hn : nr < 80) (hs : ∀ r, r < nr → sgD' r = sgD r) (hco : ∀ j, (j < 3 * nr ∨ 3 * nr + 3 ≤ j) → cM' j = cM j) : JR B (nr + 1) ns pa sgD' an ak av ca tu hc cM' := by
  obtain ⟨h1, h2, h3⟩ := h
  refine ⟨fun r hr => ?_, fun j hj => ?_, fun j hj1 hj2 => h3 j (by omega) hj2⟩
  · obtain ⟨a, t, k1, k2, k3, k4, k5, k6, k7⟩ := h1 r hr
    refine ⟨a, t, k1, k2, k3, k4, k5, fun q => k6 (by omega), fun k hk => ?_⟩
    obtain ⟨d1, d2, d3⟩ := k7 k hk
    refine ⟨d1, fun e => ?_, d3⟩
    obtain ⟨v, v1, v2, sg, v3, v4, v5⟩ := d2 e
    have hrn : r < nr := Nat.not_le.mp fun q => by have := (k6 q).1; omega
    exact ⟨v, v1, v2, sg, v3, by rw [hs r hrn]; exact v4, v5⟩
  · by_cases q : 3 * nr ≤ j
    · exact Or.inl (h3 j q hj)
    · rw [hco j (by omega)]
      exact h2 j hj
theorem m_rule_loop (ρ : Nat × (Nat → Int32)) (σ : rd_Sg) {r : Nat} (hr : r < 80) (h : σ 64 16 = nI r) (o1 o2 : Option Value) : rd_R ρ 153 37 [some (.ref 64), o1, o2, some (.int 0)] [] σ = some (nI r, rd_u (rd_u (rd_u (rd_u σ 83 (3 * r) 0) 83 (3 * r + 1) 0) 83 (3 * r + 2) 0) 64 16 (nI (r + 1))) := by
  have i0 : (3 : Int32) * nI r + 0 = nI (3 * r) := ixl (kk := 3) (b := 0) (by decide)
  have i1 : (3 : Int32) * nI r + (0 + 1) = nI (3 * r + 1) := ixl (kk := 3) (b := 1) (by decide)
  have i2 : (3 : Int32) * nI r + (0 + 1 + 1) = nI (3 * r + 2) := ixl (kk := 3) (b := 2) (by decide)
  have z : (0 : Int32) &&& 1 = 0 := by decide
  rw [q_M_rule_64_at37, if_pos (by decide), h, i0, b_chk (by omega) (by decide), nI_clamp (by omega), z, q_M_rule_64_at37, if_pos (by decide), rd_un (by decide), h, i1, b_chk (by omega) (by decide), nI_clamp (by omega), z, q_M_rule_64_at37, if_pos (by decide), rd_un (by decide), rd_un (by decide), h, i2, b_chk (by omega) (by decide), nI_clamp (by omega), z, q_M_rule_64_at37, if_neg (by decide), rd_un (by decide), rd_un (by decide), rd_un (by decide), h, show nI r + 1 - 1 = nI r by rw [nI_1, nI_pred], nI_1]
theorem up3_0 {f : Nat → Int32} {k : Nat} (h : ∀ i, i < 3 → f (k + i) = 0) : upd (upd (upd f k 0) (k + 1) 0) (k + 2) 0 = f := by
  rw [up_id (f := f) (k := k) (x := 0) (h 0 (by decide)), up_id (f := f) (k := k + 1) (x := 0) (h 1 (by decide)), up_id (f := f) (k := k + 2) (x := 0) (h 2 (by decide))]
theorem up3_c {f : Nat → Int32} {k : Nat} : (∀ i, i < 3 → upd (upd (upd f k 0) (k + 1) 0) (k + 2) 0 (k + i) = 0) ∧ ∀ j, (j < k ∨ k + 3 ≤ j) → upd (upd (upd f k 0) (k + 1) 0) (k + 2) 0 j = f j := by
  constructor
  · intro i hi
    match i, hi with
    | 0, _ => rw [b_upn (by omega), b_upn (by omega)]; exact b_ups
    | 1, _ => rw [b_upn (by omega), b_ups]
    | 2, _ => rw [b_ups]
  · intro j hj
    rw [b_upn (by omega), b_upn (by omega), b_upn (by omega)]
set_option maxHeartbeats 4000000 in
theorem op_rule (ρ : Nat × (Nat → Int32)) {σ : rd_Sg} (hI : Inv B σ) (x1 x2 : Int32) : Both B (rd_R ρ 113 0 [some (.ref 0), some (.int x1), some (.int x2), none] []) (rd_R ρ 153 0 [some (.ref 64), some (.int x1), some (.int x2), none] []) σ := by
  have hJ := hI
  obtain ⟨nf, ns, nr, ne, nl, nc, no, nt, nd, lo, ⟨⟨h10, h640, h91, h647⟩, ⟨e2, e5, e6, e7, e8, e10, e12, e13⟩, hJF, hJL, hJX, hJS⟩, ⟨⟨k0, k1, k2⟩, ⟨c1, c2, c3, c4, c5⟩, hB3, hB4⟩, ⟨hC1, hC2, hC3, hC4⟩, hD, hE, hF, hG⟩ := hJ
  have hnf := hJF.1
  have hns := hJS.1
  have hnr := hB3.1
  rcases hv_ix x1 (n := ns) (by omega) with q | ⟨s, hs, rfl⟩
  · refine Both.same (r := -1) hI ?_ ?_
    · rw [q_D_rule_0, d_sig_out ρ σ h91 q]; rfl
    · rw [q_M_rule_64, m_isStand ρ σ x1 h647 (by omega), q]; rfl
  obtain ⟨⟨f, hf, hsf, -⟩, -⟩ := hJS.2.1 s hs
  obtain ⟨c, hc8, hme, -, -⟩ := hJF.2.2.1 f (by omega)
  have E1 := q_D_rule_0 ρ σ (nI s) x2
  rw [d_sig ρ σ (f := f) (c := c) h91 hns hs (by omega) (by rw [e10]; exact hsf) (by rw [e2]; exact hme)] at E1
  rcases hv_ix x2 (n := c) (by omega) with q | ⟨m, hm, rfl⟩
  · refine Both.same (r := -1) hI ?_ ?_
    · rw [E1, if_pos q]; rfl
    · rw [q_M_rule_64, m_isStand ρ σ _ h647 (by omega), hv_in hs (by omega)]
      simp only [Option.bind_some, b10, if_false]
      rw [m_isMethod ρ σ (by omega) (by omega) hc8 hsf hme, q]; rfl
  have hsg : SigOk ns (σ 71) (σ 66) s m (8 * f + m) := ⟨hs, f, c, by omega, hsf, hme, hc8, hm, rfl⟩
  rw [hv_in hm (by omega), if_neg (by decide), ixr (kk := 8) (by decide)] at E1
  simp only [Option.bind_some, hb_id] at E1
  rw [if_neg (fun e => neg1_nI (show 8 * f + m < 2 ^ 31 by omega) e.symm)] at E1
  have M0 : ∀ σ1 : rd_Sg, σ1 64 7 = nI ns → σ1 71 s = nI f → σ1 66 f = nI c → _ := fun σ1 (h1 : σ1 64 7 = nI ns) (h2 : σ1 71 s = nI f) (h3 : σ1 66 f = nI c) => by
    have := q_M_rule_64 ρ σ1 (nI s) (nI m)
    rw [m_isStand ρ σ1 _ h1 (by omega), hv_in hs (by omega)] at this
    simp only [Option.bind_some, b10, if_false] at this
    rw [m_isMethod ρ σ1 (by omega) (by omega) hc8 h2 h3, hv_in hm (by omega)] at this
    simp only [Option.bind_some, b10, if_false] at this
    exact this
  rcases Nat.lt_or_ge nr 80 with hn | hn
  · rw [q_X5_add_15, k1, k0, if_pos (lt_lit 80 80 (by decide) hn (by decide))] at E1
    simp only [b_chk hn (show 80 < 2 ^ 31 by decide)] at E1
    rw [nI_clamp (by omega), nI_1] at E1
    generalize hσ1 : rd_u (rd_u (rd_u (rd_u σ 16 nr (nI s)) 17 nr (nI m)) 18 nr (nI (8 * f + m))) 15 3 (nI (nr + 1)) = σ1 at E1
    have co : ∀ c, 18 < c → σ1 c = σ c := fun c hc => by
      rw [← hσ1, b_une (by omega), b_une (by omega), b_une (by omega), b_une (by omega)]
    have M := M0 σ1 (by rw [co 64 (by decide)]; exact h647) (by rw [co 71 (by decide)]; exact hsf) (by rw [co 66 (by decide)]; exact hme)
    have r16 : σ1 64 16 = nI nr := by rw [co 64 (by decide)]; exact k2
    rw [r16, if_neg (by intro e; have := (nI_eq (by omega) (by decide)).mp (e.trans (show (80 : Int32) = nI 80 by decide)); omega), m_begin ρ σ1 (by omega)] at M
    simp only [Option.bind_some] at M
    have b16 : b3 σ1 nr (nI s) (nI m) 64 16 = nI nr := by unfold b3; simp only [rd_un, ne_eq, Nat.reduceEqDiff, not_false_eq_true]; exact r16
    rw [b16, b_chk hn (by decide), b_chk hn (by decide), nI_clamp (by omega), m_rule_loop ρ _ hn (by rw [rd_un (by decide), rd_un (by decide)]; exact b16)] at M
    refine ⟨_, _, _, E1, M, ?_⟩
    subst hσ1
    obtain ⟨a0, t0, -, g2, -, g4, -, g6, -⟩ := hB4.1 nr hn
    have z79 : upd (σ 79) nr 0 = σ 79 := up_id (by rw [g2, (g6 (Nat.le_refl _)).1]; rfl)
    have z82 : upd (σ 82) nr 0 = σ 82 := up_id (by rw [g4, (g6 (Nat.le_refl _)).2]; rfl)
    have z83 : upd (upd (upd (σ 83) (3 * nr) 0) (3 * nr + 1) 0) (3 * nr + 2) 0 = σ 83 := up3_0 (fun i hi => hB4.2.2 _ (by omega) (by omega))
    obtain ⟨u1, u2⟩ := up3_c (f := σ 76) (k := 3 * nr)
    refine ⟨nf, ns, nr + 1, ne, nl, nc, no, nt, nd, lo, ?_⟩
    simp only [b3, b_une, b_ueq, ne_eq, Nat.reduceEqDiff, not_false_eq_true, b_ups, b_upn, z79, z82, z83]
    refine ⟨⟨⟨h10, h640, h91, h647⟩, ⟨e2, e5, e6, e7, e8, e10, e12, e13⟩, hJF, hJL, hJX, hJS⟩, ⟨⟨k0, trivial, trivial⟩, ⟨c1, c2, c3, c4, c5⟩, ?_, ?_⟩, ⟨hC1, hC2, ?_, hC4⟩, hD, hE, hF, hG⟩
    · have := hB3.add hn hsg (cM' := upd (upd (upd (σ 76) (3 * nr) 0) (3 * nr + 1) 0) (3 * nr + 2) 0) (by rw [Nat.zero_add]; exact u1) (by rw [Nat.zero_add]; exact u2)
      rw [Nat.zero_add] at this
      exact this
    · exact hB4.add hn (fun r hr => b_upn (by omega)) u2
    · exact hC3.agree (fun r hr => b_upn (by omega)) (fun r hr => b_upn (by omega)) (fun j hj => ⟨u2 _ (by omega), rfl, rfl⟩)
  · have : nr = 80 := by omega
    subst this
    refine Both.same (r := -3) hI ?_ ?_
    · rw [E1, q_X5_add_15, k1, k0, if_neg (by decide)]
    · rw [M0 σ h647 hsf hme, k2, if_pos (by decide)]
set_option maxHeartbeats 4000000 in
theorem op_expect (ρ : Nat × (Nat → Int32)) {σ : rd_Sg} (hI : Inv B σ) (x1 x2 x3 x4 : Int32) : Both B (rd_R ρ 121 0 [some (.ref 0), some (.int x1), some (.int x2), some (.int x3), some (.int x4), none] []) (rd_R ρ 169 0 [some (.ref 64), some (.int x1), some (.int x2), some (.int x3), some (.int x4)] []) σ := by
  have hJ := hI
  obtain ⟨nf, ns, nr, ne, nl, nc, no, nt, nd, lo, ⟨⟨h10, h640, h91, h647⟩, ⟨e2, e5, e6, e7, e8, e10, e12, e13⟩, hJF, hJL, hJX, hJS⟩, ⟨hB1, hB2, hB3, hB4⟩, ⟨⟨k0, k1, k2, k3, k4, k5⟩, ⟨c1, c2, c3, c4⟩, hC3, hC4⟩, hD, hE, hF, hG⟩ := hJ
  have hnf := hJF.1
  have hns := hJS.1
  have hne := hC3.1
  rcases hv_ix x1 (n := ns) (by omega) with q | ⟨s, hs, rfl⟩
  · refine Both.same (r := -1) hI ?_ ?_
    · rw [q_D_expect_0, d_sig_out ρ σ h91 q]; rfl
    · rw [q_M_expect_64, m_isStand ρ σ x1 h647 (by omega), q]; rfl
  obtain ⟨⟨f, hf, hsf, -⟩, -⟩ := hJS.2.1 s hs
  obtain ⟨c, hc8, hme, -, -⟩ := hJF.2.2.1 f (by omega)
  have E1 := q_D_expect_0 ρ σ (nI s) x2 x3 x4
  rw [d_sig ρ σ (f := f) (c := c) h91 hns hs (by omega) (by rw [e10]; exact hsf) (by rw [e2]; exact hme)] at E1
  rcases hv_ix x2 (n := c) (by omega) with q | ⟨m, hm, rfl⟩
  · refine Both.same (r := -1) hI ?_ ?_
    · rw [E1, if_pos q]; rfl
    · rw [q_M_expect_64, m_isStand ρ σ _ h647 (by omega), hv_in hs (by omega)]
      simp only [Option.bind_some, b10, if_false]
      rw [m_isMethod ρ σ (by omega) (by omega) hc8 hsf hme, q]; rfl
  have hsg : SigOk ns (σ 71) (σ 66) s m (8 * f + m) := ⟨hs, f, c, by omega, hsf, hme, hc8, hm, rfl⟩
  rw [hv_in hm (by omega), if_neg (by decide), ixr (kk := 8) (by decide)] at E1
  simp only [Option.bind_some, hb_id] at E1
  rw [if_neg (fun e => neg1_nI (show 8 * f + m < 2 ^ 31 by omega) e.symm)] at E1
  have M0 : ∀ σ1 : rd_Sg, σ1 64 7 = nI ns → σ1 71 s = nI f → σ1 66 f = nI c → _ := fun σ1 (h1 : σ1 64 7 = nI ns) (h2 : σ1 71 s = nI f) (h3 : σ1 66 f = nI c) => by
    have := q_M_expect_64 ρ σ1 (nI s) (nI m) x3 x4
    rw [m_isStand ρ σ1 _ h1 (by omega), hv_in hs (by omega)] at this
    simp only [Option.bind_some, b10, if_false] at this
    rw [m_isMethod ρ σ1 (by omega) (by omega) hc8 h2 h3, hv_in hm (by omega)] at this
    simp only [Option.bind_some, b10, if_false] at this
    exact this
  have M00 := M0 σ h647 hsf hme
  by_cases a1 : x3 < 0
  · exact Both.same (r := -1) hI (by rw [E1, if_pos a1]) (by rw [M00, if_pos a1])
  rw [if_neg a1] at E1 M00
  by_cases a2 : x4 < x3
  · exact Both.same (r := -1) hI (by rw [E1, if_pos a2]) (by rw [M00, if_pos a2])
  rw [if_neg a2] at E1 M00
  rw [q_X2_add_33] at E1
  rcases Nat.lt_or_ge ne 40 with hn | hn
  · rw [q_X5_add_34, k1, k0, if_pos (lt_lit 40 40 (by decide) hn (by decide))] at E1
    simp only [b_chk hn (show 40 < 2 ^ 31 by decide), Option.bind_some] at E1
    rw [if_neg (fun e => absurd (congrArg Int32.toInt e) (by rw [nI_toInt (by omega)]; have : (-3 : Int32).toInt = -3 := by decide
                                                             omega)), nI_clamp (by omega), nI_1] at E1
    generalize hσ1 : rd_u (rd_u (rd_u (rd_u (rd_u (rd_u σ 35 ne (nI s)) 36 ne (nI m)) 37 ne (nI (8 * f + m))) 34 3 (nI (ne + 1))) 41 ne x3) 42 ne x4 = σ1 at E1
    have co : ∀ c, 42 < c → σ1 c = σ c := fun c hc => by
      rw [← hσ1, b_une (by omega), b_une (by omega), b_une (by omega), b_une (by omega), b_une (by omega), b_une (by omega)]
    have M := M0 σ1 (by rw [co 64 (by decide)]; exact h647) (by rw [co 71 (by decide)]; exact hsf) (by rw [co 66 (by decide)]; exact hme)
    have r32 : σ1 64 32 = nI ne := by rw [co 64 (by decide)]; exact k2
    have i80 : (80 : Int32) + nI ne = nI (80 + ne) := by rw [show (80 : Int32) = nI 80 by decide, nI_add]
    rw [if_neg a1, if_neg a2, r32, if_neg (by intro e; have := (nI_eq (by omega) (by decide)).mp (e.trans (show (40 : Int32) = nI 40 by decide)); omega), i80, m_begin ρ σ1 (by omega)] at M
    simp only [Option.bind_some] at M
    have b32 : b3 σ1 (80 + ne) (nI s) (nI m) 64 32 = nI ne := by unfold b3; simp only [rd_un, ne_eq, Nat.reduceEqDiff, not_false_eq_true]; exact r32
    rw [b32, b_chk hn (by decide), b_chk hn (by decide), nI_clamp (by omega), show nI ne + 1 - 1 = nI ne by rw [nI_1, nI_pred], nI_1] at M
    refine ⟨_, _, _, E1, M, ?_⟩
    subst hσ1
    obtain ⟨u1, u2⟩ := up3_c (f := σ 76) (k := 3 * (80 + ne))
    refine ⟨nf, ns, nr, ne + 1, nl, nc, no, nt, nd, lo, ?_⟩
    simp only [b3, b_une, b_ueq, ne_eq, Nat.reduceEqDiff, not_false_eq_true, b_ups, b_upn, c1, c2]
    refine ⟨⟨⟨h10, h640, h91, h647⟩, ⟨e2, e5, e6, e7, e8, e10, e12, e13⟩, hJF, hJL, hJX, hJS⟩, ⟨hB1, hB2, ?_, ?_⟩, ⟨⟨k0, trivial, trivial, k3, k4, k5⟩, ⟨trivial, trivial, c3, c4⟩, hC3.add hn hsg u1 u2, fun o ho => ?_⟩, hD, hE, hF, hG⟩
    · exact hB3.agree (fun r hr => b_upn (by omega)) (fun r hr => b_upn (by omega)) (fun j hj => ⟨u2 _ (by omega), rfl, rfl⟩)
    · obtain ⟨w1, w2, w3⟩ := hB4
      exact ⟨w1, fun j hj => by rw [u2 j (by omega)]; exact w2 j hj, w3⟩
    · obtain ⟨a, b, ha, hb, q1, q2⟩ := hC4 o ho
      exact ⟨a, b, by omega, by omega, q1, q2⟩
  · have : ne = 40 := by omega
    subst this
    refine Both.same (r := -3) hI ?_ ?_
    · rw [E1, q_X5_add_34, k1, k0, if_neg (by decide)]
      rfl
    · rw [M00, k2, if_pos (by decide)]
