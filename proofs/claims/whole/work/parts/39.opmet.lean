variable {B : Nat}
/-! met -/
/-- what is needed to hold recorded calls against expectations -/
def EW (σ τ : rd_Sg) (ns nf ne nl : Nat) : Prop :=
  (ns ≤ 24 ∧ nf ≤ 12 ∧ (∀ f, f < nf → τ 65 f = -1 ∨ ∃ g, g < f ∧ τ 65 f = nI g) ∧ JL nf (τ 65) (σ 3) ∧ (∀ s, s < ns → ∃ f, f < nf ∧ τ 71 s = nI f ∧ σ 11 s = σ 3 f) ∧ (∀ j, j < 96 → ∃ p, p ≤ 3 ∧ τ 67 j = nI p)) ∧
  JP 80 ne 40 ns nf (τ 71) (τ 66) (τ 67) (τ 68) (σ 35) (σ 36) (σ 37) (σ 38) (σ 39) (σ 40) (τ 74) (τ 75) (τ 76) (τ 77) (τ 78) ∧ JG nl ns (τ 71) (τ 66) (τ 68) (σ 29) ∧ τ 85 = σ 29 ∧ σ 28 3 = nI nl ∧ τ 64 23 = nI nl
theorem EW.of {σ τ : rd_Sg} {nf ns ne nl : Nat} (hJF : JF nf (τ 66) (τ 67) (τ 68) (τ 69) (τ 70) (τ 65)) (hJL : JL nf (τ 65) (σ 3)) (hJS : JS nf ns (τ 71) (τ 72) (σ 11) (σ 3) (τ 91)) (hP : JP 80 ne 40 ns nf (τ 71) (τ 66) (τ 67) (τ 68) (σ 35) (σ 36) (σ 37) (σ 38) (σ 39) (σ 40) (τ 74) (τ 75) (τ 76) (τ 77) (τ 78)) (hG : JG nl ns (τ 71) (τ 66) (τ 68) (σ 29)) (h85 : τ 85 = σ 29) (h28 : σ 28 3 = nI nl) (h64 : τ 64 23 = nI nl) : EW σ τ ns nf ne nl := by
  refine ⟨⟨hJS.1, hJF.1, hJF.2.2.2, hJL, fun s hs => (hJS.2.1 s hs).1, fun j hj => ?_⟩, hP, hG, h85, h28, h64⟩
  obtain ⟨p, -, -, -, p1, p2, -⟩ := hJF.2.1 j hj
  exact ⟨p, p2, p1⟩
theorem EW.sl {σ τ : rd_Sg} {nf ns ne nl : Nat} (h : EW σ τ ns nf ne nl) : ∀ s, s < ns → ∃ b, b < 4096 ∧ σ 11 s = nI b := by
  intro s hs
  obtain ⟨f, h1, -, h3⟩ := h.1.2.2.2.2.1 s hs
  obtain ⟨b, b1, b2, -⟩ := h.1.2.2.2.1 f h1
  exact ⟨b, b2, h3.trans b1⟩
/-- whether call i is as expectation e says -/
def gF (σ : rd_Sg) (e i : Nat) : Int32 := ftF (σ 11) (σ 35) (σ 36) (σ 38) (σ 39) (σ 40) e (σ 29 (9 * i)) (σ 29 (9 * i + 1)) (fun j => σ 29 (9 * i + 2 + j))
theorem gF01 (σ : rd_Sg) (e i : Nat) : gF σ e i = 0 ∨ gF σ e i = 1 := ftF01 _ _ _ _ _ _ _ _ _ _
theorem gF_congr {σ σ' : rd_Sg} (h : ∀ c, c < 45 → σ' c = σ c) : gF σ' = gF σ := by
  funext e i
  unfold gF
  rw [h 11 (by decide), h 35 (by decide), h 36 (by decide), h 38 (by decide), h 39 (by decide), h 40 (by decide), h 29 (by decide)]
theorem EW.congr {σ σ' τ τ' : rd_Sg} {nf ns ne nl : Nat} (hw : EW σ τ ns nf ne nl) (h : ∀ c, c < 45 → σ' c = σ c) (h2 : ∀ c, 64 < c → c < 92 → τ' c = τ c) (h3 : τ' 64 23 = τ 64 23) : EW σ' τ' ns nf ne nl := by
  unfold EW at *
  rw [h 3 (by decide), h 11 (by decide), h 35 (by decide), h 36 (by decide), h 37 (by decide), h 38 (by decide), h 39 (by decide), h 40 (by decide), h 29 (by decide), h 28 (by decide), h2 65 (by decide) (by decide), h2 71 (by decide) (by decide), h2 67 (by decide) (by decide), h2 66 (by decide) (by decide), h2 68 (by decide) (by decide), h2 74 (by decide) (by decide), h2 75 (by decide) (by decide), h2 76 (by decide) (by decide), h2 77 (by decide) (by decide), h2 78 (by decide) (by decide), h2 85 (by decide) (by decide), h3]
  exact hw
theorem d_fitE (ρ : Nat × (Nat → Int32)) {σ τ : rd_Sg} {nf ns ne nl : Nat} (h : EW σ τ ns nf ne nl) {e i : Nat} (he : e < ne) (hi : i < nl) : rd_R ρ 63 0 [some (.ref 34), some (.int (nI e)), some (.ref 29), some (.int (nI i * 9)), none] [] σ = some (gF σ e i, σ) := by
  have hsl := h.sl
  obtain ⟨⟨hns, hnf, hbel, hL, hst, hpa⟩, hP, ⟨hnl, hG⟩, h85, h28, h64⟩ := h
  obtain ⟨s, m, sg, k1, k2, k3, k4⟩ := hG i hi
  have hn := hP.1
  rw [show nI i * 9 = nI (9 * i) by rw [show (9 : Int32) = nI 9 by decide, pk_mul, Nat.mul_comm]]
  rw [d_fits_34 ρ σ (by omega) (by omega) k2 k3 (hP.pat (x := fun j => σ 29 (9 * i + 2 + j)) he k1 hns k4) hns hnf hsl]
  unfold gF
  rw [k2, k3]
theorem a_lit {a k : Nat} {K : Int32} (h : K = nI k) : nI a + K = nI (a + k) := by rw [h, nI_add]
theorem m_callMeets (ρ : Nat × (Nat → Int32)) {σ τ : rd_Sg} {nf ns ne nl : Nat} (h : EW σ τ ns nf ne nl) {e i : Nat} (he : e < ne) (hi : i < nl) : rd_R ρ 173 0 [some (.ref 64), some (.int (nI i)), some (.int (nI e)), none] [] τ = some (gF σ e i, τ) := by
  have hsl := h.sl
  obtain ⟨⟨hns, hnf, hbel, hL, hst, hpa⟩, hP, ⟨hnl, hG⟩, h85, h28, h64⟩ := h
  obtain ⟨s, m, sg, k1, k2, k3, k4⟩ := hG i hi
  have hn := hP.1
  have hl := k1.lt
  obtain ⟨-, f, c, f1, f2, f3, f4, f5, f6⟩ := id k1
  obtain ⟨s', m', sg', -, p2, p3, p4, p5, -, -⟩ := hP.2.1 e he
  obtain ⟨p, p6, p7⟩ := hpa sg hl.1
  have y0 : 9 * nI i = nI (9 * i) := by rw [show (9 : Int32) = nI 9 by decide, pk_mul]
  have P := hP.pat (x := fun j => σ 29 (9 * i + 2 + j)) he k1 hns k4
  rw [p7] at P
  subst f6
  have M := m_meets ρ τ (off := 80) (r := e) (by omega) (p3.trans p2.symm) (p5.trans p4.symm) (by omega) f2 hl.1 p7 p6 P hns hnf hbel hL hst
  rw [q_M_callMeets_64, y0, a_lit (k := 1) (by decide), a_lit (k := 2) (by decide), a_lit (k := 3) (by decide), a_lit (k := 4) (by decide), b_chk (by omega) (by decide), b_chk (by omega) (by decide), b_chk (by omega) (by decide), b_chk (by omega) (by decide), b_chk (by omega) (by decide)]
  rw [nI_clamp (by omega), nI_clamp (by omega), nI_clamp (by omega), nI_clamp (by omega), nI_clamp (by omega), show (80 : Int32) = nI 80 by decide, nI_add, h85, k2, k3]
  have M' : rd_R ρ 151 0 [some (.ref 64), some (.int (nI (80 + e))), some (.int (nI s)), some (.int (nI m)), some (.int (σ 29 (9 * i + 2))), some (.int (σ 29 (9 * i + 3))), some (.int (σ 29 (9 * i + 4))), none] [] τ = some (gF σ e i, τ) := by
    unfold gF
    rw [k2, k3]
    exact M
  rw [M']
  simp only [Option.bind_some]
  rcases gF01 σ e i with q | q <;> rw [q] <;> rfl
/-- how many of n, from i on -/
def cntF (g : Nat → Int32) (i : Nat) : Nat → Nat
  | 0 => 0
  | n + 1 => (if g i = 0 then 0 else 1) + cntF g (i + 1) n
theorem cntF_le (g : Nat → Int32) : ∀ n i, cntF g i n ≤ n := by
  intro n
  induction n with
  | zero => intro i; exact Nat.le_refl 0
  | succ n ih =>
    intro i
    have := ih (i + 1)
    unfold cntF
    split <;> omega
theorem d_count (ρ : Nat × (Nat → Int32)) {σ τ : rd_Sg} {nf ns ne nl : Nat} (h : EW σ τ ns nf ne nl) {e : Nat} (he : e < ne) : ∀ d i k, i + d = nl → rd_R ρ 24 4 [some (.ref 33), some (.int (nI e)), some (.ref 28), some (.int (nI k)), some (.int (nI i))] [] σ = some (nI (k + cntF (gF σ e) i d), σ) := by
  have hnl := h.2.2.1.1
  have h28 := h.2.2.2.2.1
  intro d
  induction d with
  | zero =>
    intro i k hi
    rw [q_X2_countMeeting_33_28_at4, q_X4_size_28]
    simp only [Option.bind_some]
    rw [h28, if_neg (fun q => absurd ((p_lt rfl (by omega) (by omega)).mp q) (by omega))]
    rfl
  | succ d ih =>
    intro i k hi
    rw [q_X2_countMeeting_33_28_at4, q_X4_size_28]
    simp only [Option.bind_some]
    rw [h28, if_pos (nI_lt (show i < nl by omega) (by omega)), d_fitE ρ h he (show i < nl by omega)]
    simp only [Option.bind_some]
    unfold cntF
    rcases gF01 σ e i with q | q
    · rw [if_pos q, if_pos q, q_X2_countMeeting_33_28_at19, nI_1, ih (i + 1) k (by omega), Nat.zero_add]
    · rw [q, if_neg (by decide), if_neg (by decide), q_X2_countMeeting_33_28_at19, nI_1, nI_1, ih (i + 1) (k + 1) (by omega), Nat.add_assoc]
theorem m_count (ρ : Nat × (Nat → Int32)) {σ τ : rd_Sg} {nf ns ne nl : Nat} (h : EW σ τ ns nf ne nl) {e : Nat} (he : e < ne) : ∀ d i k, i + d = nl → rd_R ρ 174 4 [some (.ref 64), some (.int (nI e)), some (.int (nI k)), some (.int (nI i))] [] τ = some (nI (k + cntF (gF σ e) i d), τ) := by
  have hnl := h.2.2.1.1
  have h64 := h.2.2.2.2.2
  intro d
  induction d with
  | zero =>
    intro i k hi
    rw [q_M_metBy_64_at4, h64, if_neg (fun q => absurd ((p_lt rfl (by omega) (by omega)).mp q) (by omega))]
    rfl
  | succ d ih =>
    intro i k hi
    rw [q_M_metBy_64_at4, h64, if_pos (nI_lt (show i < nl by omega) (by omega)), m_callMeets ρ h he (show i < nl by omega)]
    simp only [Option.bind_some]
    unfold cntF
    rcases gF01 σ e i with q | q
    · rw [if_pos q, if_pos q, q_M_metBy_64_at17, nI_1, show (0 : Int32) = nI 0 by decide, nI_add, ih (i + 1) (k + 0) (by omega)]
      rw [Nat.add_zero, Nat.zero_add]
    · rw [q, if_neg (by decide), if_neg (by decide), q_M_metBy_64_at17, nI_1, nI_1, ih (i + 1) (k + 1) (by omega), Nat.add_assoc]
theorem m_metBy (ρ : Nat × (Nat → Int32)) {σ τ : rd_Sg} {nf ns ne nl : Nat} (h : EW σ τ ns nf ne nl) {e : Nat} (he : e < ne) : rd_R ρ 174 0 [some (.ref 64), some (.int (nI e)), none, none] [] τ = some (nI (cntF (gF σ e) 0 nl), τ) := by
  rw [q_M_metBy_64]
  have := m_count ρ h he nl 0 0 (by omega)
  rw [Nat.zero_add] at this
  exact this
theorem op_met (ρ : Nat × (Nat → Int32)) {σ : rd_Sg} (hI : Inv B σ) (x1 : Int32) : Both B (rd_R ρ 125 0 [some (.ref 0), some (.int x1)] []) (rd_R ρ 175 0 [some (.ref 64), some (.int x1)] []) σ := by
  have hJ := hI
  obtain ⟨nf, ns, nr, ne, nl, nc, no, nt, nd, lo, ⟨⟨h10, h640, h91, h647⟩, -, hJF, hJL, hJX, hJS⟩, -, ⟨⟨-, c1, c2, -⟩, -, hP, -⟩, ⟨⟨d1, d2, -, -, -, d6, -⟩, hG, -⟩, -⟩ := hJ
  have hw : EW σ σ ns nf ne nl := EW.of hJF hJL hJS hP (by rw [d6]; exact hG) d6.symm d1 d2
  have hn := hP.1
  rcases hv_ix x1 (n := ne) (by omega) with q | ⟨e, he, rfl⟩
  · exact Both.same (r := -1) hI (by rw [q_D_met_0, e_has ρ σ x1 c1, q]; rfl) (by rw [q_M_met_64, m_isExp ρ σ x1 c2 (by omega), q]; rfl)
  · have D := d_count ρ hw he nl 0 0 (by omega)
    rw [Nat.zero_add] at D
    refine Both.same (r := nI (cntF (gF σ e) 0 nl)) hI ?_ ?_
    · rw [q_D_met_0, e_has ρ σ _ c1, hv_in he (by omega)]
      simp only [Option.bind_some, b10, if_false, hb_id]
      rw [q_X2_countMeeting_33_28]
      exact D
    · rw [q_M_met_64, m_isExp ρ σ _ c2 (by omega), hv_in he (by omega)]
      simp only [Option.bind_some, b10, if_false, hb_id]
      exact m_metBy ρ hw he
