variable {B : Nat}
/-! on, with -/
theorem d_set_15 (ρ : Nat × (Nat → Int32)) (σ : rd_Sg) {n r sg p sb ns nf : Nat} {x2 x3 a b : Int32} (hn : n ≤ 80) (h3 : σ 15 3 = nI n) (hr : r < n) (hsg : σ 18 r = nI sg) (hs96 : sg < 96) (h5 : σ 5 sg = nI p) (hp : p ≤ 3) (h6 : σ 6 sg = nI sb) (hsb : sb < 2 ^ 31) (h91 : σ 9 1 = nI ns) (h10 : σ 1 0 = nI nf) :
    (hv x2 p = 0 ∨ hv x3 7 = 0 → rd_R ρ 61 0 [some (.ref 15), some (.int (nI r)), some (.int x2), some (.int x3), some (.int a), some (.int b), none] [] σ = some (-1, σ)) ∧
    ∀ i c, i < p → c < 7 → x2 = nI i → x3 = nI c → rd_R ρ 61 0 [some (.ref 15), some (.int (nI r)), some (.int x2), some (.int x3), some (.int a), some (.int b), none] [] σ = if cvF (sb.testBit i) c (hv a ns) (hv a nf) = 0 then some (-1, σ) else some (1, rd_u (rd_u (rd_u σ 19 (3 * r + i) x3) 20 (3 * r + i) a) 21 (3 * r + i) b) := by
  have E := q_X5_setCondition_15 ρ σ (nI r) x2 x3 a b
  have hb : ∀ v : Int32, (v = 0 ∨ v = 1) → (if v = 0 then some ((0 : Int32), σ) else some ((1 : Int32), σ)) = some (v, σ) := by
    rintro v (rfl | rfl)
    · rfl
    · rfl
  have hP : rd_R ρ 59 0 [some (.ref 15), some (.int (nI r)), some (.int x2)] [] σ = some (hv x2 p, σ) := by
    rw [q_X5_hasParameter_15, r_has ρ σ _ h3, hv_in hr (by omega)]
    simp only [Option.bind_some, b10, if_false]
    rw [b_chk (by omega) (by decide), nI_clamp (by omega), hsg, f_takes ρ σ hs96 h5]
    simp only [Option.bind_some]
    exact hb _ (hv01 x2 p)
  rw [hP] at E
  simp only [Option.bind_some] at E
  rw [b_chk (by omega) (by decide), nI_clamp (by omega), hsg] at E
  have key : ∀ i, i < p → x2 = nI i → rd_R ρ 61 0 [some (.ref 15), some (.int (nI r)), some (.int x2), some (.int x3), some (.int a), some (.int b), none] [] σ = (rd_R ρ 62 0 [some (.ref 15), some (.int (b2 (sb.testBit i))), some (.int x3), some (.int a)] [] σ).bind fun q3 => if q3.1 = 0 then some ((-1 : Int32), q3.2) else some ((1 : Int32), rd_u (rd_u (rd_u q3.2 19 (3 * r + i) x3) 20 (3 * r + i) a) 21 (3 * r + i) b) := by
    intro i hi e2
    subst e2
    rw [E, hv_in hi (by omega), if_neg (by decide), f_takesStand ρ σ hs96 h5 h6 hsb hi hp]
    simp only [Option.bind_some]
    rw [ixr (kk := 3) (by decide), nI_clamp (by omega)]
    simp only [b_chk (show 3 * r + i < 240 by omega) (show 240 < 2 ^ 31 by decide)]
  constructor
  · intro h
    rcases hv_ix x2 (n := p) (by omega) with q | ⟨i, hi, e2⟩
    · rw [E, if_pos q]
    · have h7 : hv x3 7 = 0 := by
        rcases h with h | h
        · rw [e2, hv_in hi (by omega)] at h; cases h
        · exact h
      rw [key i hi e2, d_isCond_no_15 ρ σ h7]
      rfl
  · intro i c hi hc e2 e3
    rw [key i hi e2, e3, d_isCond_15 ρ σ _ h91 h10 hc]
    rfl
theorem d_set_34 (ρ : Nat × (Nat → Int32)) (σ : rd_Sg) {n r sg p sb ns nf : Nat} {x2 x3 a b : Int32} (hn : n ≤ 40) (h3 : σ 34 3 = nI n) (hr : r < n) (hsg : σ 37 r = nI sg) (hs96 : sg < 96) (h5 : σ 5 sg = nI p) (hp : p ≤ 3) (h6 : σ 6 sg = nI sb) (hsb : sb < 2 ^ 31) (h91 : σ 9 1 = nI ns) (h10 : σ 1 0 = nI nf) :
    (hv x2 p = 0 ∨ hv x3 7 = 0 → rd_R ρ 61 0 [some (.ref 34), some (.int (nI r)), some (.int x2), some (.int x3), some (.int a), some (.int b), none] [] σ = some (-1, σ)) ∧
    ∀ i c, i < p → c < 7 → x2 = nI i → x3 = nI c → rd_R ρ 61 0 [some (.ref 34), some (.int (nI r)), some (.int x2), some (.int x3), some (.int a), some (.int b), none] [] σ = if cvF (sb.testBit i) c (hv a ns) (hv a nf) = 0 then some (-1, σ) else some (1, rd_u (rd_u (rd_u σ 38 (3 * r + i) x3) 39 (3 * r + i) a) 40 (3 * r + i) b) := by
  have E := q_X5_setCondition_34 ρ σ (nI r) x2 x3 a b
  have hb : ∀ v : Int32, (v = 0 ∨ v = 1) → (if v = 0 then some ((0 : Int32), σ) else some ((1 : Int32), σ)) = some (v, σ) := by
    rintro v (rfl | rfl)
    · rfl
    · rfl
  have hP : rd_R ρ 59 0 [some (.ref 34), some (.int (nI r)), some (.int x2)] [] σ = some (hv x2 p, σ) := by
    rw [q_X5_hasParameter_34, e_has ρ σ _ h3, hv_in hr (by omega)]
    simp only [Option.bind_some, b10, if_false]
    rw [b_chk (by omega) (by decide), nI_clamp (by omega), hsg, f_takes ρ σ hs96 h5]
    simp only [Option.bind_some]
    exact hb _ (hv01 x2 p)
  rw [hP] at E
  simp only [Option.bind_some] at E
  rw [b_chk (by omega) (by decide), nI_clamp (by omega), hsg] at E
  have key : ∀ i, i < p → x2 = nI i → rd_R ρ 61 0 [some (.ref 34), some (.int (nI r)), some (.int x2), some (.int x3), some (.int a), some (.int b), none] [] σ = (rd_R ρ 62 0 [some (.ref 34), some (.int (b2 (sb.testBit i))), some (.int x3), some (.int a)] [] σ).bind fun q3 => if q3.1 = 0 then some ((-1 : Int32), q3.2) else some ((1 : Int32), rd_u (rd_u (rd_u q3.2 38 (3 * r + i) x3) 39 (3 * r + i) a) 40 (3 * r + i) b) := by
    intro i hi e2
    subst e2
    rw [E, hv_in hi (by omega), if_neg (by decide), f_takesStand ρ σ hs96 h5 h6 hsb hi hp]
    simp only [Option.bind_some]
    rw [ixr (kk := 3) (by decide), nI_clamp (by omega)]
    simp only [b_chk (show 3 * r + i < 120 by omega) (show 120 < 2 ^ 31 by decide)]
  constructor
  · intro h
    rcases hv_ix x2 (n := p) (by omega) with q | ⟨i, hi, e2⟩
    · rw [E, if_pos q]
    · have h7 : hv x3 7 = 0 := by
        rcases h with h | h
        · rw [e2, hv_in hi (by omega)] at h; cases h
        · exact h
      rw [key i hi e2, d_isCond_no_34 ρ σ h7]
      rfl
  · intro i c hi hc e2 e3
    rw [key i hi e2, e3, d_isCond_34 ρ σ _ h91 h10 hc]
    rfl
theorem JP.set {off n cap ns nf r i c : Nat} {sf me pa sb stD meD sgD cD lD hD stM meM cM lM hM : Nat → Int32} {a b : Int32} (h : JP off n cap ns nf sf me pa sb stD meD sgD cD lD hD stM meM cM lM hM) (hr : r < n) (hi : i < 3) (hc : c ≤ 6) (hx : ∀ sg, sg < 96 → sgD r = nI sg → (c ≠ 0 → nI i < pa sg) ∧ (c = 4 ∨ c = 5 → bt (sb sg) i) ∧ (c = 4 → ∃ g, g < nf ∧ a = nI g)) : JP off n cap ns nf sf me pa sb stD meD sgD (upd cD (3 * r + i) (nI c)) (upd lD (3 * r + i) a) (upd hD (3 * r + i) b) stM meM (upd cM (3 * (off + r) + i) (nI c)) (upd lM (3 * (off + r) + i) a) (upd hM (3 * (off + r) + i) b) := by
  obtain ⟨h1, h2, h3, h4⟩ := h
  refine ⟨h1, fun q hq => ?_, fun q hq1 hq2 j hj => ?_, fun j hj => ?_⟩
  · obtain ⟨s', m', sg', k1, k2, k3, k4, k5, k6, k7⟩ := h2 q hq
    refine ⟨s', m', sg', k1, k2, k3, k4, k5, k6, fun j hj => ?_⟩
    by_cases e : 3 * q + j = 3 * r + i
    · have e1 : q = r := by omega
      have e2 : j = i := by omega
      subst e1; subst e2
      rw [b_ups, b_ups, b_ups]
      obtain ⟨w1, w2⟩ := hx sg' k1.lt.1 k6
      exact ⟨c, hc, rfl, rfl, w1, w2⟩
    · rw [b_upn e, b_upn (by omega), b_upn (by omega)]
      exact k7 j hj
  · rw [b_upn (by omega)]
    exact h3 q hq1 hq2 j hj
  · by_cases e : j = 3 * r + i
    · subst e
      rw [show 3 * off + (3 * r + i) = 3 * (off + r) + i by omega, b_ups, b_ups, b_ups, b_ups]
      exact ⟨rfl, rfl⟩
    · rw [b_upn e, b_upn e, b_upn (by omega), b_upn (by omega)]
      exact h4 j hj
theorem cvF_45 {S : Bool} {c : Nat} {ha hf : Int32} (h : ¬ cvF S c ha hf = 0) (hc : c = 4 ∨ c = 5) : S = true := by
  cases S
  · rcases hc with rfl | rfl <;> exact absurd rfl h
  · rfl
theorem cvF_4 {S : Bool} {c : Nat} {ha hf : Int32} (h : ¬ cvF S c ha hf = 0) (hc : c = 4) : S = true ∧ ¬ hf = 0 := by
  subst hc
  unfold cvF at h
  cases S
  · exact absurd rfl h
  · exact ⟨rfl, h⟩
set_option maxHeartbeats 4000000 in
theorem op_on (ρ : Nat × (Nat → Int32)) {σ : rd_Sg} (hI : Inv B σ) (x1 x2 x3 x4 x5 : Int32) : Both B (rd_R ρ 114 0 [some (.ref 0), some (.int x1), some (.int x2), some (.int x3), some (.int x4), some (.int x5), none] []) (rd_R ρ 154 0 [some (.ref 64), some (.int x1), some (.int x2), some (.int x3), some (.int x4), some (.int x5), none] []) σ := by
  have hJ := hI
  obtain ⟨nf, ns, nr, ne, nl, nc, no, nt, nd, lo, ⟨⟨h10, h640, h91, h647⟩, ⟨e2, e5, e6, e7, e8, e10, e12, e13⟩, hJF, hJL, hJX, hJS⟩, ⟨⟨r0, r1, r2⟩, ⟨c1, c2, c3, c4, c5⟩, hB3, hB4⟩, ⟨⟨k0, k1, k2, k3, k4, k5⟩, hC2, hC3, hC4⟩, hD, hE, hF, hG⟩ := hJ
  have hnf := hJF.1
  have hns := hJS.1
  have hnr := hB3.1
  have hne := hC3.1
  rcases hv_ix x1 (n := nr) (by omega) with q | ⟨r, hr, rfl⟩
  · refine Both.same (r := -1) hI ?_ ?_
    · rw [q_D_on_0, q_X5_setCondition_15, q_X5_hasParameter_15, r_has ρ σ _ r1, q]; rfl
    · rw [q_M_on_64, m_isRule ρ σ x1 r2 (by omega), q]; rfl
  obtain ⟨s, m, sg, hsig, -, p2, -, p4, p5, -⟩ := hB3.2.1 r hr
  have hlt := hsig.lt
  obtain ⟨hs, f, cc, hf12, hsf, hme, hcc, hmc, hsg⟩ := id hsig
  obtain ⟨p, sb, -, -, w1, w2, w3', w4, -⟩ := hJF.2.1 sg hlt.1
  have hpow : 2 ^ p ≤ 8 := by
    have : ∀ p, p < 4 → 2 ^ p ≤ 8 := by decide
    exact this p (by omega)
  obtain ⟨D1, D2⟩ := d_set_15 ρ σ (x2 := x2) (x3 := x3) (a := x4) (b := x5) (show nr ≤ 80 by omega) r1 hr p5 hlt.1 (by rw [e5]; exact w1) w2 (by rw [e6]; exact w3') (by omega) h91 h10
  have MP : ∀ σ1 : rd_Sg, (∀ c, 63 < c → σ1 c = σ c) → _ := fun σ1 (co : ∀ c, 63 < c → σ1 c = σ c) => m_put ρ σ1 (t := 0 + r) (s := s) (m := m) (f := f) (p := p) (sb := sb) (ns := ns) (nf := nf) (x2 := x2) (x3 := x3) (a := x4) (b := x5) (by omega) (by rw [co 74 (by decide)]; exact p2) (by rw [co 75 (by decide)]; exact p4) (by omega) (by rw [co 71 (by decide)]; exact hsf) (by omega) (by rw [co 67 (by decide), ← hsg]; exact w1) w2 (by rw [co 68 (by decide), ← hsg]; exact w3') (by omega) (by rw [co 64 (by decide)]; exact h647) hns (by rw [co 64 (by decide)]; exact h640) hnf
  have E1 := q_D_on_0 ρ σ (nI r) x2 x3 x4 x5
  have E2 : ∀ σ1 : rd_Sg, σ1 64 16 = nI nr → _ := fun σ1 (h : σ1 64 16 = nI nr) => by
    have := q_M_on_64 ρ σ1 (nI r) x2 x3 x4 x5
    rw [m_isRule ρ σ1 _ h (by omega), hv_in hr (by omega)] at this
    simp only [Option.bind_some, b10, if_false] at this
    exact this
  have bad : rd_R ρ 61 0 [some (.ref 15), some (.int (nI r)), some (.int x2), some (.int x3), some (.int x4), some (.int x5), none] [] σ = some (-1, σ) → rd_R ρ 149 0 [some (.ref 64), some (.int (nI (0 + r))), some (.int x2), some (.int x3), some (.int x4), some (.int x5), none, none] [] σ = some (-1, σ) → Both B (rd_R ρ 114 0 [some (.ref 0), some (.int (nI r)), some (.int x2), some (.int x3), some (.int x4), some (.int x5), none] []) (rd_R ρ 154 0 [some (.ref 64), some (.int (nI r)), some (.int x2), some (.int x3), some (.int x4), some (.int x5), none] []) σ := by
    intro b1 b2
    rw [Nat.zero_add] at b2
    refine Both.same (r := -1) hI ?_ ?_
    · rw [E1, b1]; rfl
    · rw [E2 σ r2, b2]; rfl
  rcases hv_ix x2 (n := p) (by omega) with q | ⟨i, hi, e2x⟩
  · exact bad (D1 (Or.inl q)) ((MP σ (fun _ _ => rfl)).1 (Or.inl q))
  rcases hv_ix x3 (n := 7) (by decide) with q | ⟨c, hc, e3x⟩
  · exact bad (D1 (Or.inr q)) ((MP σ (fun _ _ => rfl)).1 (Or.inr q))
  have D3 := D2 i c hi hc e2x e3x
  by_cases hcv : cvF (sb.testBit i) c (hv x4 ns) (hv x4 nf) = 0
  · have M3 := (MP σ (fun _ _ => rfl)).2 i c hi hc e2x e3x
    rw [if_pos hcv] at D3 M3
    exact bad D3 M3
  rw [if_neg hcv] at D3
  have hset : ∀ sg', sg' < 96 → σ 18 r = nI sg' → (c ≠ 0 → nI i < σ 67 sg') ∧ (c = 4 ∨ c = 5 → bt (σ 68 sg') i) ∧ (c = 4 → ∃ g, g < nf ∧ x4 = nI g) := by
    intro sg' h1 h2
    have e9 : sg' = sg := (nI_eq (by omega) (by omega)).mp (h2.symm.trans p5)
    subst e9
    refine ⟨fun _ => by rw [w1]; exact nI_lt hi (by omega), fun h4 => by rw [w3', bt_nI (by omega)]; exact cvF_45 hcv h4, fun h4 => ?_⟩
    obtain ⟨u1, u2⟩ := cvF_4 hcv h4
    rcases hv_ix x4 (n := nf) (by omega) with q | q
    · exact absurd q u2
    · exact q
  have z : (0 : Int32) &&& 1 = 0 := by decide
  subst e2x
  subst e3x
  rw [D3] at E1
  simp only [Option.bind_some] at E1
  rw [if_neg (by decide), q_X6_release_14, ixr (kk := 3) (by decide), b_chk (by omega) (by decide), nI_clamp (by omega), z] at E1
  simp only [Option.bind_some] at E1
  generalize hσ1 : rd_u (rd_u (rd_u (rd_u σ 19 (3 * r + i) (nI c)) 20 (3 * r + i) x4) 21 (3 * r + i) x5) 26 (3 * r + i) 0 = σ1 at E1
  have co : ∀ c, 63 < c → σ1 c = σ c := fun c hc => by
    rw [← hσ1, b_une (by omega), b_une (by omega), b_une (by omega), b_une (by omega)]
  have M3 := (MP σ1 co).2 i c hi hc rfl rfl
  rw [if_neg hcv, Nat.zero_add] at M3
  have M := E2 σ1 (by rw [co 64 (by decide)]; exact r2)
  rw [M3] at M
  simp only [Option.bind_some, if_true] at M
  rw [ixl (kk := 3) (by decide), b_chk (by omega) (by decide), nI_clamp (by omega), z] at M
  refine ⟨_, _, _, E1, M, ?_⟩
  subst hσ1
  refine ⟨nf, ns, nr, ne, nl, nc, no, nt, nd, lo, ?_⟩
  simp only [w3, b_une, b_ueq, ne_eq, Nat.reduceEqDiff, not_false_eq_true, c4]
  have hP := hB3.set (a := x4) (b := x5) hr (show i < 3 by omega) (show c ≤ 6 by omega) hset
  rw [Nat.zero_add] at hP
  refine ⟨⟨⟨h10, h640, h91, h647⟩, ⟨e2, e5, e6, e7, e8, e10, e12, e13⟩, hJF, hJL, hJX, hJS⟩, ⟨⟨r0, r1, r2⟩, ⟨c1, c2, c3, trivial, c5⟩, hP, ?_⟩, ⟨⟨k0, k1, k2, k3, k4, k5⟩, hC2, ?_, hC4⟩, hD, hE, hF, hG⟩
  · obtain ⟨v1, v2, v3⟩ := hB4
    refine ⟨v1, fun j hj => ?_, fun j hj1 hj2 => ?_⟩
    · by_cases e : j = 3 * r + i
      · subst e; exact Or.inl b_ups
      · rw [b_upn e, b_upn e]; exact v2 j hj
    · rw [b_upn (by omega)]; exact v3 j hj1 hj2
  · exact hC3.agree (fun _ _ => rfl) (fun _ _ => rfl) (fun j hj => ⟨b_upn (by omega), b_upn (by omega), b_upn (by omega)⟩)
set_option maxHeartbeats 4000000 in
theorem op_with (ρ : Nat × (Nat → Int32)) {σ : rd_Sg} (hI : Inv B σ) (x1 x2 x3 x4 x5 : Int32) : Both B (rd_R ρ 122 0 [some (.ref 0), some (.int x1), some (.int x2), some (.int x3), some (.int x4), some (.int x5)] []) (rd_R ρ 170 0 [some (.ref 64), some (.int x1), some (.int x2), some (.int x3), some (.int x4), some (.int x5)] []) σ := by
  have hJ := hI
  obtain ⟨nf, ns, nr, ne, nl, nc, no, nt, nd, lo, ⟨⟨h10, h640, h91, h647⟩, ⟨e2, e5, e6, e7, e8, e10, e12, e13⟩, hJF, hJL, hJX, hJS⟩, ⟨⟨r0, r1, r2⟩, ⟨c1, c2, c3, c4, c5⟩, hB3, hB4⟩, ⟨⟨k0, k1, k2, k3, k4, k5⟩, hC2, hC3, hC4⟩, hD, hE, hF, hG⟩ := hJ
  have hnf := hJF.1
  have hns := hJS.1
  have hnr := hB3.1
  have hne := hC3.1
  rcases hv_ix x1 (n := ne) (by omega) with q | ⟨r, hr, rfl⟩
  · refine Both.same (r := -1) hI ?_ ?_
    · rw [q_D_with_0, q_X5_setCondition_34, q_X5_hasParameter_34, e_has ρ σ _ k1, q]; rfl
    · rw [q_M_with_64, m_isExp ρ σ x1 k2 (by omega), q]; rfl
  obtain ⟨s, m, sg, hsig, -, p2, -, p4, p5, -⟩ := hC3.2.1 r hr
  have hlt := hsig.lt
  obtain ⟨hs, f, cc, hf12, hsf, hme, hcc, hmc, hsg⟩ := id hsig
  obtain ⟨p, sb, -, -, w1, w2, w3', w4, -⟩ := hJF.2.1 sg hlt.1
  have hpow : 2 ^ p ≤ 8 := by
    have : ∀ p, p < 4 → 2 ^ p ≤ 8 := by decide
    exact this p (by omega)
  obtain ⟨D1, D2⟩ := d_set_34 ρ σ (x2 := x2) (x3 := x3) (a := x4) (b := x5) (show ne ≤ 40 by omega) k1 hr p5 hlt.1 (by rw [e5]; exact w1) w2 (by rw [e6]; exact w3') (by omega) h91 h10
  have MP : ∀ σ1 : rd_Sg, (∀ c, 63 < c → σ1 c = σ c) → _ := fun σ1 (co : ∀ c, 63 < c → σ1 c = σ c) => m_put ρ σ1 (t := 80 + r) (s := s) (m := m) (f := f) (p := p) (sb := sb) (ns := ns) (nf := nf) (x2 := x2) (x3 := x3) (a := x4) (b := x5) (by omega) (by rw [co 74 (by decide)]; exact p2) (by rw [co 75 (by decide)]; exact p4) (by omega) (by rw [co 71 (by decide)]; exact hsf) (by omega) (by rw [co 67 (by decide), ← hsg]; exact w1) w2 (by rw [co 68 (by decide), ← hsg]; exact w3') (by omega) (by rw [co 64 (by decide)]; exact h647) hns (by rw [co 64 (by decide)]; exact h640) hnf
  have E1 := q_D_with_0 ρ σ (nI r) x2 x3 x4 x5
  simp only [hb_id] at E1
  have i80 : (80 : Int32) + nI r = nI (80 + r) := by rw [show (80 : Int32) = nI 80 by decide, nI_add]
  have E2 : ∀ σ1 : rd_Sg, σ1 64 32 = nI ne → _ := fun σ1 (h : σ1 64 32 = nI ne) => by
    have := q_M_with_64 ρ σ1 (nI r) x2 x3 x4 x5
    rw [m_isExp ρ σ1 _ h (by omega), hv_in hr (by omega)] at this
    simp only [Option.bind_some, b10, if_false, hb_id, i80] at this
    exact this
  have bad : rd_R ρ 61 0 [some (.ref 34), some (.int (nI r)), some (.int x2), some (.int x3), some (.int x4), some (.int x5), none] [] σ = some (-1, σ) → rd_R ρ 149 0 [some (.ref 64), some (.int (nI (80 + r))), some (.int x2), some (.int x3), some (.int x4), some (.int x5), none, none] [] σ = some (-1, σ) → Both B (rd_R ρ 122 0 [some (.ref 0), some (.int (nI r)), some (.int x2), some (.int x3), some (.int x4), some (.int x5)] []) (rd_R ρ 170 0 [some (.ref 64), some (.int (nI r)), some (.int x2), some (.int x3), some (.int x4), some (.int x5)] []) σ := by
    intro b1 b2
    exact Both.same (r := -1) hI (by rw [E1, b1]) (by rw [E2 σ k2, b2])
  rcases hv_ix x2 (n := p) (by omega) with q | ⟨i, hi, e2x⟩
  · exact bad (D1 (Or.inl q)) ((MP σ (fun _ _ => rfl)).1 (Or.inl q))
  rcases hv_ix x3 (n := 7) (by decide) with q | ⟨c, hc, e3x⟩
  · exact bad (D1 (Or.inr q)) ((MP σ (fun _ _ => rfl)).1 (Or.inr q))
  have D3 := D2 i c hi hc e2x e3x
  by_cases hcv : cvF (sb.testBit i) c (hv x4 ns) (hv x4 nf) = 0
  · have M3 := (MP σ (fun _ _ => rfl)).2 i c hi hc e2x e3x
    rw [if_pos hcv] at D3 M3
    exact bad D3 M3
  rw [if_neg hcv] at D3
  have hset : ∀ sg', sg' < 96 → σ 37 r = nI sg' → (c ≠ 0 → nI i < σ 67 sg') ∧ (c = 4 ∨ c = 5 → bt (σ 68 sg') i) ∧ (c = 4 → ∃ g, g < nf ∧ x4 = nI g) := by
    intro sg' h1 h2
    have e9 : sg' = sg := (nI_eq (by omega) (by omega)).mp (h2.symm.trans p5)
    subst e9
    refine ⟨fun _ => by rw [w1]; exact nI_lt hi (by omega), fun h4 => by rw [w3', bt_nI (by omega)]; exact cvF_45 hcv h4, fun h4 => ?_⟩
    obtain ⟨u1, u2⟩ := cvF_4 hcv h4
    rcases hv_ix x4 (n := nf) (by omega) with q | q
    · exact absurd q u2
    · exact q
  subst e2x
  subst e3x
  rw [D3] at E1
  generalize hσ1 : rd_u (rd_u (rd_u σ 38 (3 * r + i) (nI c)) 39 (3 * r + i) x4) 40 (3 * r + i) x5 = σ1 at E1
  have co : ∀ c, 63 < c → σ1 c = σ c := fun c hc => by
    rw [← hσ1, b_une (by omega), b_une (by omega), b_une (by omega)]
  have M3 := (MP σ1 co).2 i c hi hc rfl rfl
  rw [if_neg hcv] at M3
  have M := E2 σ1 (by rw [co 64 (by decide)]; exact k2)
  rw [M3] at M
  refine ⟨_, _, _, E1, M, ?_⟩
  subst hσ1
  refine ⟨nf, ns, nr, ne, nl, nc, no, nt, nd, lo, ?_⟩
  simp only [w3, b_une, b_ueq, ne_eq, Nat.reduceEqDiff, not_false_eq_true]
  have hP := hC3.set (a := x4) (b := x5) hr (show i < 3 by omega) (show c ≤ 6 by omega) hset
  refine ⟨⟨⟨h10, h640, h91, h647⟩, ⟨e2, e5, e6, e7, e8, e10, e12, e13⟩, hJF, hJL, hJX, hJS⟩, ⟨⟨r0, r1, r2⟩, ⟨c1, c2, c3, c4, c5⟩, ?_, ?_⟩, ⟨⟨k0, k1, k2, k3, k4, k5⟩, hC2, hP, hC4⟩, hD, hE, hF, hG⟩
  · exact hB3.agree (fun _ _ => rfl) (fun _ _ => rfl) (fun j hj => ⟨b_upn (by omega), b_upn (by omega), b_upn (by omega)⟩)
  · obtain ⟨v1, v2, v3⟩ := hB4
    exact ⟨v1, fun j hj => by rw [b_upn (by omega)]; exact v2 j hj, v3⟩
