variable {B : Nat}
/-! whether a call is as a pattern says; met -/
/-- the desk's cells of one, the model's of the other -/
def mix (σ τ : rd_Sg) : rd_Sg := fun c => if c < 64 then σ c else τ c
theorem mix_eq {σ τ : rd_Sg} (h : ∀ c, c < 64 → σ c = τ c) : mix σ τ = τ := by
  funext c
  unfold mix
  split
  · rename_i q; exact h c q
  · rfl
theorem mix_eq2 {σ τ : rd_Sg} (h : ∀ c, 64 ≤ c → τ c = σ c) : mix σ τ = σ := by
  funext c
  unfold mix
  split
  · rfl
  · rename_i q; exact h c (by omega)
theorem mix_self {σ : rd_Sg} : mix σ σ = σ := mix_eq fun _ _ => rfl
/-- two runs side by side give Both -/
def Pair (B : Nat) (D M : rd_Sg → Option (Int32 × rd_Sg)) (σ τ : rd_Sg) : Prop := ∃ r σ1 τ1, D σ = some (r, σ1) ∧ M τ = some (r, τ1) ∧ (∀ c, 64 ≤ c → σ1 c = σ c) ∧ (∀ c, c < 64 → τ1 c = τ c) ∧ Inv B (mix σ1 τ1)
theorem Both.pair {B' : Nat} {D M : rd_Sg → Option (Int32 × rd_Sg)} (h : ∀ σ τ, Inv B (mix σ τ) → Pair B' D M σ τ) {σ : rd_Sg} (hI : Inv B σ) : Both B' D M σ := by
  obtain ⟨r, σ1, τ1, a1, -, a3, -, -⟩ := h σ σ (by rw [mix_self]; exact hI)
  obtain ⟨r', σ2, τ2, b1, b2, -, b4, b5⟩ := h σ σ1 (by rw [mix_eq2 a3]; exact hI)
  rw [a1] at b1
  injection b1 with b1
  injection b1 with e1 e2
  subst e1 e2
  rw [mix_eq (fun c hc => (b4 c hc).symm)] at b5
  exact ⟨r, σ1, τ2, a1, b2, b5⟩
/-- a call, as a pattern's place says -/
def ftF (sl st me cD lD hD : Nat → Int32) (r : Nat) (s m : Int32) (x : Nat → Int32) : Int32 :=
  if st r = s then if me r = m then
    if hF sl (cD (3 * r + 0)).toNatClampNeg (lD (3 * r + 0)) (hD (3 * r + 0)) (x 0) = 0 then 0 else
    if hF sl (cD (3 * r + 1)).toNatClampNeg (lD (3 * r + 1)) (hD (3 * r + 1)) (x 1) = 0 then 0 else
    hF sl (cD (3 * r + 2)).toNatClampNeg (lD (3 * r + 2)) (hD (3 * r + 2)) (x 2)
  else 0 else 0
theorem ftF01 (sl st me cD lD hD : Nat → Int32) (r : Nat) (s m : Int32) (x : Nat → Int32) : ftF sl st me cD lD hD r s m x = 0 ∨ ftF sl st me cD lD hD r s m x = 1 := by
  unfold ftF
  split
  · split
    · split
      · exact Or.inl rfl
      · split
        · exact Or.inl rfl
        · exact hF01 _ _ _ _ _
    · exact Or.inl rfl
  · exact Or.inl rfl
def PatOk (ns nf off r s m : Nat) (p : Int32) (st me cD lD hD cM lM hM x : Nat → Int32) : Prop :=
  st r = nI s → me r = nI m → ∀ i, i < 3 → ∃ c, c ≤ 6 ∧ cD (3 * r + i) = nI c ∧ cM (3 * (off + r) + i) = nI c ∧ lM (3 * (off + r) + i) = lD (3 * r + i) ∧ hM (3 * (off + r) + i) = hD (3 * r + i) ∧
    (c ≠ 0 → nI i < p) ∧ (c = 4 ∨ c = 5 → StV ns (x i)) ∧ (c = 4 → ∃ g, g < nf ∧ lD (3 * r + i) = nI g)
theorem SigOk.same {ns s m sg sg' : Nat} {sf me : Nat → Int32} (h : SigOk ns sf me s m sg) (h' : SigOk ns sf me s m sg') : sg = sg' := by
  obtain ⟨-, f, c, h1, h2, -, -, -, h3⟩ := h
  obtain ⟨-, f', c', h1', h2', -, -, -, h3'⟩ := h'
  have : f = f' := (nI_eq (by omega) (by omega)).mp (h2.symm.trans h2')
  omega
theorem JP.pat {off n cap ns nf r s m sg : Nat} {sf me pa sb stD meD sgD cD lD hD stM meM cM lM hM x : Nat → Int32} (h : JP off n cap ns nf sf me pa sb stD meD sgD cD lD hD stM meM cM lM hM) (hr : r < n) (hs : SigOk ns sf me s m sg) (hns : ns ≤ 24) (hx : ∀ i, i < 3 → bt (sb sg) i → StV ns (x i)) : PatOk ns nf off r s m (pa sg) stD meD cD lD hD cM lM hM x := by
  intro e1 e2 i hi
  obtain ⟨hn, h2, -, h4⟩ := h
  obtain ⟨s', m', sg', k1, k2, k3, k4, k5, k6, k7⟩ := h2 r hr
  have hl := k1.lt
  have hl2 := hs.lt
  have a1 : s' = s := (nI_eq (by omega) (by omega)).mp (k2.symm.trans e1)
  have a2 : m' = m := (nI_eq (by omega) (by omega)).mp (k4.symm.trans e2)
  subst a1 a2
  have a3 := k1.same hs
  subst a3
  obtain ⟨c, c1, c2, c3, c4, c5, c6⟩ := k7 i hi
  obtain ⟨d1, d2⟩ := h4 (3 * r + i) (by omega)
  have e9 : 3 * off + (3 * r + i) = 3 * (off + r) + i := by omega
  rw [e9] at d1 d2
  exact ⟨c, c1, c3, c2, d1.symm, d2.symm, c4, fun q => hx i hi (c5 q), fun q => by rw [d1]; exact c6 q⟩
set_option maxHeartbeats 4000000 in
theorem d_fits_15 (ρ : Nat × (Nat → Int32)) (σ : rd_Sg) {k r s m ns nf off : Nat} {p : Int32} {cM lM hM : Nat → Int32} (hk : k + 9 ≤ 9) (hr : r < 80) (h0 : σ 30 k = nI s) (h1 : σ 30 (k + 1) = nI m) (hP : PatOk ns nf off r s m p (σ 16) (σ 17) (σ 19) (σ 20) (σ 21) cM lM hM (fun i => σ 30 (k + 2 + i))) (hns : ns ≤ 24) (hnf : nf ≤ 12) (hsl : ∀ s, s < ns → ∃ b, b < 4096 ∧ σ 11 s = nI b) : rd_R ρ 63 0 [some (.ref 15), some (.int (nI r)), some (.ref 30), some (.int (nI k)), none] [] σ = some (ftF (σ 11) (σ 16) (σ 17) (σ 19) (σ 20) (σ 21) r (nI s) (nI m) (fun i => σ 30 (k + 2 + i)), σ) := by
  have z0 : nI k + 0 = nI k := by rw [show (0 : Int32) = nI 0 by decide, nI_add, Nat.add_zero]
  have z1 : nI k + 1 = nI (k + 1) := nI_1 k
  have z2 : nI k + 2 = nI (k + 2) := by rw [show (2 : Int32) = nI 2 by decide, nI_add]
  rw [q_X5_fits_15_30, z0, z1, b_chk hr (by decide), b_chk (show k < 9 by omega) (by decide), nI_clamp (show r < 2 ^ 31 by omega), nI_clamp (show k < 2 ^ 31 by omega), h0, b_chk (show k + 1 < 9 by omega) (by decide), nI_clamp (show k + 1 < 2 ^ 31 by omega), h1]
  unfold ftF
  by_cases e1 : σ 16 r = nI s
  · rw [if_pos e1, if_pos e1, b_chk hr (by decide)]
    by_cases e2 : σ 17 r = nI m
    · rw [if_pos e2, if_pos e2]
      have H := hP e1 e2
      have ST : ∀ i, i < 3 → rd_R ρ 63 24 [some (.ref 15), some (.int (nI r)), some (.ref 30), some (.int (nI k)), some (.int (nI i))] [] σ = if hF (σ 11) (σ 19 (3 * r + i)).toNatClampNeg (σ 20 (3 * r + i)) (σ 21 (3 * r + i)) (σ 30 (k + 2 + i)) = 0 then some (0, σ) else rd_R ρ 63 24 [some (.ref 15), some (.int (nI r)), some (.ref 30), some (.int (nI k)), some (.int (nI (i + 1)))] [] σ := by
        intro i hi
        obtain ⟨c, c1, c2, c3, c4, c5, c6, c7, c8⟩ := H i hi
        rw [q_X5_fits_15_30_at24, if_pos (lt_lit 3 3 (by decide) hi (by decide)), z2, nI_add, b_chk (show k + 2 + i < 9 by omega) (by decide), nI_clamp (show k + 2 + i < 2 ^ 31 by omega), ixr (kk := 3) (by decide), d_holds_15 ρ σ (show 3 * r + i < 240 by omega) c1 c2 hns hnf (fun q => ⟨c7 (Or.inl q), c8 q⟩) hsl, c2, nI_clamp (show c < 2 ^ 31 by omega), nI_1]
        rfl
      have F0 := ST 0 (by decide)
      rw [show nI 0 = (0 : Int32) by decide] at F0
      rw [F0]
      show _ = some (if hF (σ 11) (σ 19 (3 * r + 0)).toNatClampNeg (σ 20 (3 * r + 0)) (σ 21 (3 * r + 0)) (σ 30 (k + 2 + 0)) = 0 then 0 else if hF (σ 11) (σ 19 (3 * r + 1)).toNatClampNeg (σ 20 (3 * r + 1)) (σ 21 (3 * r + 1)) (σ 30 (k + 2 + 1)) = 0 then 0 else hF (σ 11) (σ 19 (3 * r + 2)).toNatClampNeg (σ 20 (3 * r + 2)) (σ 21 (3 * r + 2)) (σ 30 (k + 2 + 2)), σ)
      rcases hF01 (σ 11) (σ 19 (3 * r + 0)).toNatClampNeg (σ 20 (3 * r + 0)) (σ 21 (3 * r + 0)) (σ 30 (k + 2 + 0)) with q0 | q0
      · rw [if_pos q0, if_pos q0]
      · rw [q0, if_neg (by decide), if_neg (by decide), ST 1 (by decide)]
        rcases hF01 (σ 11) (σ 19 (3 * r + 1)).toNatClampNeg (σ 20 (3 * r + 1)) (σ 21 (3 * r + 1)) (σ 30 (k + 2 + 1)) with q1 | q1
        · rw [if_pos q1, if_pos q1]
        · rw [q1, if_neg (by decide), if_neg (by decide), ST 2 (by decide)]
          rcases hF01 (σ 11) (σ 19 (3 * r + 2)).toNatClampNeg (σ 20 (3 * r + 2)) (σ 21 (3 * r + 2)) (σ 30 (k + 2 + 2)) with q2 | q2
          · rw [if_pos q2, q2]
          · rw [q2, if_neg (by decide), q_X5_fits_15_30_at24, if_neg (by decide)]
    · rw [if_neg e2, if_neg e2]
  · rw [if_neg e1, if_neg e1]
set_option maxHeartbeats 4000000 in
theorem d_fits_34 (ρ : Nat × (Nat → Int32)) (σ : rd_Sg) {k r s m ns nf off : Nat} {p : Int32} {cM lM hM : Nat → Int32} (hk : k + 9 ≤ 4500) (hr : r < 40) (h0 : σ 29 k = nI s) (h1 : σ 29 (k + 1) = nI m) (hP : PatOk ns nf off r s m p (σ 35) (σ 36) (σ 38) (σ 39) (σ 40) cM lM hM (fun i => σ 29 (k + 2 + i))) (hns : ns ≤ 24) (hnf : nf ≤ 12) (hsl : ∀ s, s < ns → ∃ b, b < 4096 ∧ σ 11 s = nI b) : rd_R ρ 63 0 [some (.ref 34), some (.int (nI r)), some (.ref 29), some (.int (nI k)), none] [] σ = some (ftF (σ 11) (σ 35) (σ 36) (σ 38) (σ 39) (σ 40) r (nI s) (nI m) (fun i => σ 29 (k + 2 + i)), σ) := by
  have z0 : nI k + 0 = nI k := by rw [show (0 : Int32) = nI 0 by decide, nI_add, Nat.add_zero]
  have z1 : nI k + 1 = nI (k + 1) := nI_1 k
  have z2 : nI k + 2 = nI (k + 2) := by rw [show (2 : Int32) = nI 2 by decide, nI_add]
  rw [q_X5_fits_34_29, z0, z1, b_chk hr (by decide), b_chk (show k < 4500 by omega) (by decide), nI_clamp (show r < 2 ^ 31 by omega), nI_clamp (show k < 2 ^ 31 by omega), h0, b_chk (show k + 1 < 4500 by omega) (by decide), nI_clamp (show k + 1 < 2 ^ 31 by omega), h1]
  unfold ftF
  by_cases e1 : σ 35 r = nI s
  · rw [if_pos e1, if_pos e1, b_chk hr (by decide)]
    by_cases e2 : σ 36 r = nI m
    · rw [if_pos e2, if_pos e2]
      have H := hP e1 e2
      have ST : ∀ i, i < 3 → rd_R ρ 63 24 [some (.ref 34), some (.int (nI r)), some (.ref 29), some (.int (nI k)), some (.int (nI i))] [] σ = if hF (σ 11) (σ 38 (3 * r + i)).toNatClampNeg (σ 39 (3 * r + i)) (σ 40 (3 * r + i)) (σ 29 (k + 2 + i)) = 0 then some (0, σ) else rd_R ρ 63 24 [some (.ref 34), some (.int (nI r)), some (.ref 29), some (.int (nI k)), some (.int (nI (i + 1)))] [] σ := by
        intro i hi
        obtain ⟨c, c1, c2, c3, c4, c5, c6, c7, c8⟩ := H i hi
        rw [q_X5_fits_34_29_at24, if_pos (lt_lit 3 3 (by decide) hi (by decide)), z2, nI_add, b_chk (show k + 2 + i < 4500 by omega) (by decide), nI_clamp (show k + 2 + i < 2 ^ 31 by omega), ixr (kk := 3) (by decide), d_holds_34 ρ σ (show 3 * r + i < 120 by omega) c1 c2 hns hnf (fun q => ⟨c7 (Or.inl q), c8 q⟩) hsl, c2, nI_clamp (show c < 2 ^ 31 by omega), nI_1]
        rfl
      have F0 := ST 0 (by decide)
      rw [show nI 0 = (0 : Int32) by decide] at F0
      rw [F0]
      show _ = some (if hF (σ 11) (σ 38 (3 * r + 0)).toNatClampNeg (σ 39 (3 * r + 0)) (σ 40 (3 * r + 0)) (σ 29 (k + 2 + 0)) = 0 then 0 else if hF (σ 11) (σ 38 (3 * r + 1)).toNatClampNeg (σ 39 (3 * r + 1)) (σ 40 (3 * r + 1)) (σ 29 (k + 2 + 1)) = 0 then 0 else hF (σ 11) (σ 38 (3 * r + 2)).toNatClampNeg (σ 39 (3 * r + 2)) (σ 40 (3 * r + 2)) (σ 29 (k + 2 + 2)), σ)
      rcases hF01 (σ 11) (σ 38 (3 * r + 0)).toNatClampNeg (σ 39 (3 * r + 0)) (σ 40 (3 * r + 0)) (σ 29 (k + 2 + 0)) with q0 | q0
      · rw [if_pos q0, if_pos q0]
      · rw [q0, if_neg (by decide), if_neg (by decide), ST 1 (by decide)]
        rcases hF01 (σ 11) (σ 38 (3 * r + 1)).toNatClampNeg (σ 39 (3 * r + 1)) (σ 40 (3 * r + 1)) (σ 29 (k + 2 + 1)) with q1 | q1
        · rw [if_pos q1, if_pos q1]
        · rw [q1, if_neg (by decide), if_neg (by decide), ST 2 (by decide)]
          rcases hF01 (σ 11) (σ 38 (3 * r + 2)).toNatClampNeg (σ 39 (3 * r + 2)) (σ 40 (3 * r + 2)) (σ 29 (k + 2 + 2)) with q2 | q2
          · rw [if_pos q2, q2]
          · rw [q2, if_neg (by decide), q_X5_fits_34_29_at24, if_neg (by decide)]
    · rw [if_neg e2, if_neg e2]
  · rw [if_neg e1, if_neg e1]
theorem p_lt {p k : Nat} {K : Int32} (hK : K = nI k) (hp : p < 2 ^ 31) (hk : k < 2 ^ 31) : (nI p < K) ↔ p < k := by
  constructor
  · intro h
    rcases Nat.lt_or_ge p k with q | q
    · exact q
    · exfalso
      rw [hK, Int32.lt_iff_toInt_lt, nI_toInt hp, nI_toInt hk] at h
      omega
  · intro h
    rw [hK]
    exact nI_lt h hk
set_option maxHeartbeats 4000000 in
theorem m_meets (ρ : Nat × (Nat → Int32)) (τ : rd_Sg) {off r s m f p ns nf : Nat} {st me cD lD hD lin sl x : Nat → Int32} (hr : off + r < 120) (h74 : τ 74 (off + r) = st r) (h75 : τ 75 (off + r) = me r) (hs : s < 24) (h71 : τ 71 s = nI f) (hf : 8 * f + m < 96) (h67 : τ 67 (8 * f + m) = nI p) (hp : p ≤ 3) (hP : PatOk ns nf off r s m (nI p) st me cD lD hD (τ 76) (τ 77) (τ 78) x) (hns : ns ≤ 24) (hnf : nf ≤ 12) (hbel : ∀ f, f < nf → τ 65 f = -1 ∨ ∃ g, g < f ∧ τ 65 f = nI g) (hL : JL nf (τ 65) lin) (hst : ∀ s, s < ns → ∃ f, f < nf ∧ τ 71 s = nI f ∧ sl s = lin f) : rd_R ρ 151 0 [some (.ref 64), some (.int (nI (off + r))), some (.int (nI s)), some (.int (nI m)), some (.int (x 0)), some (.int (x 1)), some (.int (x 2)), none] [] τ = some (ftF sl st me cD lD hD r (nI s) (nI m) x, τ) := by
  rw [q_M_meets_64, b_chk hr (by decide), nI_clamp (show off + r < 2 ^ 31 by omega), h74, h75]
  unfold ftF
  by_cases e1 : st r = nI s
  · rw [if_pos e1, if_pos e1, b_chk hr (by decide)]
    by_cases e2 : me r = nI m
    · rw [if_pos e2, if_pos e2, q_M_methodAt_64, b_chk hs (by decide), nI_clamp (by omega), h71, ixl (kk := 8) (by decide)]
      simp only [Option.bind_some]
      rw [b_chk hf (by decide), nI_clamp (by omega), h67]
      have H := hP e1 e2
      have X : ∀ i, i < 3 → rd_R ρ 150 0 [some (.ref 64), some (.int (nI (3 * (off + r) + i))), some (.int (x i))] [] τ = some (hF sl (cD (3 * r + i)).toNatClampNeg (lD (3 * r + i)) (hD (3 * r + i)) (x i), τ) := by
        intro i hi
        obtain ⟨c, c1, c2, c3, c4, c5, c6, c7, c8⟩ := H i hi
        rw [m_holds ρ τ (show 3 * (off + r) + i < 360 by omega) c1 c3 hns hnf (fun q => by rw [c4]; exact c8 q) c7 hbel hL hst, c4, c5, c2, nI_clamp (by omega)]
      have Z : ∀ i, i < 3 → p ≤ i → hF sl (cD (3 * r + i)).toNatClampNeg (lD (3 * r + i)) (hD (3 * r + i)) (x i) = 1 := by
        intro i hi hpi
        obtain ⟨c, c1, c2, c3, c4, c5, c6, c7, c8⟩ := H i hi
        by_cases hc : c = 0
        · rw [c2, hc]; rfl
        · exact absurd ((p_lt rfl (by omega) (by omega)).mp (c6 hc)) (by omega)
      have O : ∀ i, hF sl (cD (3 * r + i)).toNatClampNeg (lD (3 * r + i)) (hD (3 * r + i)) (x i) = 0 ∨ hF sl (cD (3 * r + i)).toNatClampNeg (lD (3 * r + i)) (hD (3 * r + i)) (x i) = 1 := fun i => hF01 _ _ _ _ _
      have X0 := X 0 (by decide)
      have X1 := X 1 (by decide)
      have X2 := X 2 (by decide)
      have Z0 := Z 0 (by decide)
      have Z1 := Z 1 (by decide)
      have Z2 := Z 2 (by decide)
      have O0 := O 0
      have O1 := O 1
      have O2 := O 2
      clear X Z O H
      generalize hF sl (cD (3 * r + 0)).toNatClampNeg (lD (3 * r + 0)) (hD (3 * r + 0)) (x 0) = a0 at *
      generalize hF sl (cD (3 * r + 1)).toNatClampNeg (lD (3 * r + 1)) (hD (3 * r + 1)) (x 1) = a1 at *
      generalize hF sl (cD (3 * r + 2)).toNatClampNeg (lD (3 * r + 2)) (hD (3 * r + 2)) (x 2) = a2 at *
      have y0 : 3 * nI (off + r) = nI (3 * (off + r) + 0) := by rw [show (3 : Int32) = nI 3 by decide, pk_mul, Nat.add_zero]
      have y1 : 3 * nI (off + r) + 1 = nI (3 * (off + r) + 1) := ixl (kk := 3) (b := 1) (by decide)
      have y2 : 3 * nI (off + r) + 2 = nI (3 * (off + r) + 2) := ixl (kk := 3) (b := 2) (by decide)
      have A44 : ∀ o2 o3 o4 o5, rd_R ρ 151 44 [some (.ref 64), some (.int (nI (off + r))), o2, o3, o4, o5, some (.int (x 2)), some (.int (nI p))] [] τ = some (a2, τ) := by
        intro o2 o3 o4 o5
        rw [q_M_meets_64_at44, y2, X2]
        by_cases q : p < 3
        · rw [if_pos ((p_lt (show (3 : Int32) = nI 3 by decide) (by omega) (by decide)).mpr q), Z2 (by omega)]
        · rw [if_neg (fun w => q ((p_lt (show (3 : Int32) = nI 3 by decide) (by omega) (by decide)).mp w))]
          rcases O2 with rfl | rfl <;> rfl
      have A32 : ∀ o2 o3 o4, rd_R ρ 151 32 [some (.ref 64), some (.int (nI (off + r))), o2, o3, o4, some (.int (x 1)), some (.int (x 2)), some (.int (nI p))] [] τ = some (if a1 = 0 then 0 else a2, τ) := by
        intro o2 o3 o4
        rw [q_M_meets_64_at32, y1, X1, A44]
        by_cases q : p < 2
        · rw [if_pos ((p_lt (show (2 : Int32) = nI 2 by decide) (by omega) (by decide)).mpr q), Z1 (by omega)]; rfl
        · rw [if_neg (fun w => q ((p_lt (show (2 : Int32) = nI 2 by decide) (by omega) (by decide)).mp w))]
          simp only [Option.bind_some, A44]
          rcases O1 with rfl | rfl <;> rfl
      rw [y0, X0, A32]
      by_cases q : p < 1
      · rw [if_pos ((p_lt (show (1 : Int32) = nI 1 by decide) (by omega) (by decide)).mpr q), Z0 (by omega)]; rfl
      · rw [if_neg (fun w => q ((p_lt (show (1 : Int32) = nI 1 by decide) (by omega) (by decide)).mp w))]
        simp only [Option.bind_some, A32]
        rcases O0 with rfl | rfl <;> rfl
    · rw [if_neg e2, if_neg e2]
  · rw [if_neg e1, if_neg e1]
