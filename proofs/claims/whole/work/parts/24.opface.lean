theorem lt_lit {n : Nat} (k : Int32) (kk : Nat) (h : k = nI kk) (hn : n < kk) (hk : kk < 2 ^ 31) : nI n < k := by rw [h]; exact nI_lt hn hk
theorem d_add_full (ρ : Nat × (Nat → Int32)) (σ : rd_Sg) (x : Int32) (h : σ 1 0 = nI 12) : rd_R ρ 35 0 [some (.ref 1), some (.int x), none] [] σ = some (-3, σ) := by
  rw [q_X3_add_1, h, if_neg (by decide)]
theorem d_add_root (ρ : Nat × (Nat → Int32)) (σ : rd_Sg) {n : Nat} (h : σ 1 0 = nI n) (hn : n < 12) : rd_R ρ 35 0 [some (.ref 1), some (.int (-1)), none] [] σ = some (nI n, rd_u (rd_u σ 3 n (nI (2 ^ n))) 1 0 (nI (n + 1))) := by
  rw [q_X3_add_1, h, if_pos (lt_lit 12 12 (by decide) hn (by decide)), b_chk hn (by decide), shl_nI (by omega), nI_clamp (by omega), f_has ρ _ (-1) (n := n) (by rw [rd_un (by decide)]; exact h), hv_neg (by decide)]
  simp only [Option.bind_some, if_true]
  rw [rd_un (by decide), h, nI_1]
theorem d_inherit (ρ : Nat × (Nat → Int32)) (σ : rd_Sg) {b n : Nat} (hb : b < 12) (hn : n < 12) : rd_R ρ 36 0 [some (.ref 1), some (.int (nI n)), some (.int (nI b)), none, none] [] σ = some (0, rd_u (rd_uc (rd_uc (rd_uc (rd_uc (rd_u (rd_u σ 3 n (σ 3 n ||| σ 3 b)) 2 n (σ 2 b)) 5 (va_cpy (σ 5) (σ 5) (8 * b) (8 * n) 8)) 6 (va_cpy (σ 6) (σ 6) (8 * b) (8 * n) 8)) 7 (va_cpy (σ 7) (σ 7) (8 * b) (8 * n) 8)) 8 (va_cpy (σ 8) (σ 8) (8 * b) (8 * n) 8)) 4 b 1) := by
  have c8 : (8 : Int32).toNatClampNeg = 8 := by decide
  have e : (1 : Int32) &&& 1 = 1 := by decide
  have k8 : nI 8 = (8 : Int32) := by decide
  have p1 : nI b * 8 = nI (8 * b) := by rw [← k8, pk_mul, Nat.mul_comm]
  have p2 : nI n * 8 = nI (8 * n) := by rw [← k8, pk_mul, Nat.mul_comm]
  have hc : ¬ (nI (8 * b) < 0 ∨ nI (8 * n) < 0 ∨ (8 : Int32) < 0 ∨ 96 < 8 * b + 8 ∨ 96 < 8 * n + 8) := by
    rintro (h | h | h | h | h)
    · exact nI_pos (by omega) h
    · exact nI_pos (by omega) h
    · exact absurd h (by decide)
    · omega
    · omega
  rw [q_X3_inherit_1, p1, p2, c8, nI_clamp (show 8 * b < 2 ^ 31 by omega), nI_clamp (show 8 * n < 2 ^ 31 by omega), nI_clamp (show b < 2 ^ 31 by omega), nI_clamp (show n < 2 ^ 31 by omega), e]
  simp only [b_chk hb (show 12 < 2 ^ 31 by decide), b_chk hn (show 12 < 2 ^ 31 by decide), if_neg hc]
theorem d_add_sub (ρ : Nat × (Nat → Int32)) (σ : rd_Sg) {b n : Nat} (h : σ 1 0 = nI n) (hb : b < n) (hn : n < 12) : rd_R ρ 35 0 [some (.ref 1), some (.int (nI b)), none] [] σ = some (nI n, rd_u (rd_u (rd_uc (rd_uc (rd_uc (rd_uc (rd_u (rd_u (rd_u σ 3 n (nI (2 ^ n))) 3 n (nI (2 ^ n) ||| σ 3 b)) 2 n (σ 2 b)) 5 (va_cpy (σ 5) (σ 5) (8 * b) (8 * n) 8)) 6 (va_cpy (σ 6) (σ 6) (8 * b) (8 * n) 8)) 7 (va_cpy (σ 7) (σ 7) (8 * b) (8 * n) 8)) 8 (va_cpy (σ 8) (σ 8) (8 * b) (8 * n) 8)) 4 b 1) 1 0 (nI (n + 1))) := by
  rw [q_X3_add_1, h, if_pos (lt_lit 12 12 (by decide) hn (by decide)), b_chk hn (by decide), shl_nI (by omega), nI_clamp (by omega), f_has ρ _ (nI b) (n := n) (by rw [rd_un (by decide)]; exact h), hv_in hb (by omega)]
  simp only [Option.bind_some, b10, if_false]
  rw [d_inherit ρ _ (by omega) hn]
  simp only [Option.bind_some]
  have r3 : rd_u σ 3 n (nI (2 ^ n)) 3 n = nI (2 ^ n) := rd_us
  have r3b : rd_u σ 3 n (nI (2 ^ n)) 3 b = σ 3 b := rd_uj (by omega)
  rw [r3, r3b]
  simp only [b_une, b_ucne, ne_eq, Nat.reduceEqDiff, not_false_eq_true]
  rw [h, nI_1]
theorem m_in_m1 (ρ : Nat × (Nat → Int32)) (σ : rd_Sg) {n : Nat} (hn : n < 2 ^ 30) : rd_R ρ 137 0 [some (.int (-1)), some (.int (-1)), some (.int (nI n - 1))] [] σ = some (1, σ) := by
  rw [q_M_in, if_neg (by decide), if_neg]
  rw [Int32.lt_iff_toInt_lt, b_pred hn]
  have : (-1 : Int32).toInt = -1 := by decide
  omega
theorem m_in_j (ρ : Nat × (Nat → Int32)) (σ : rd_Sg) {j n : Nat} (hj : j < n) (hn : n < 2 ^ 30) : rd_R ρ 137 0 [some (.int (nI j)), some (.int (-1)), some (.int (nI n - 1))] [] σ = some (1, σ) := by
  have e1 : (-1 : Int32).toInt = -1 := by decide
  rw [q_M_in, if_neg, if_neg]
  · rw [Int32.lt_iff_toInt_lt, b_pred hn, nI_toInt (by omega)]; omega
  · rw [Int32.lt_iff_toInt_lt, e1, nI_toInt (by omega)]; omega
theorem m_in_no (ρ : Nat × (Nat → Int32)) (σ : rd_Sg) {x : Int32} {n : Nat} (hx : ¬ x = -1) (h : hv x n = 0) (hn : n < 2 ^ 30) : rd_R ρ 137 0 [some (.int x), some (.int (-1)), some (.int (nI n - 1))] [] σ = some (0, σ) := by
  have e1 : (-1 : Int32).toInt = -1 := by decide
  have e0 : (0 : Int32).toInt = 0 := by decide
  rw [q_M_in]
  rcases hv_out h with h0 | ⟨h0, h1⟩
  · rw [if_pos]
    rw [Int32.lt_iff_toInt_lt, e0] at h0
    rw [Int32.lt_iff_toInt_lt, e1]
    have : x.toInt ≠ -1 := fun q => hx (Int32.toInt_inj.mp (by rw [q, e1]))
    omega
  · by_cases h2 : x < -1
    · rw [if_pos h2]
    · rw [if_neg h2, if_pos ((b_hi hn).mpr h1)]
/-- the model's new face -/
theorem m_face_root (ρ : Nat × (Nat → Int32)) (σ : rd_Sg) {n : Nat} (h : σ 64 0 = nI n) (hn : n < 12) : rd_R ρ 138 0 [some (.ref 64), some (.int (-1)), none, none, none] [] σ = some (nI n, rd_u (rd_u (rd_u σ 65 n (-1)) 66 n 0) 64 0 (nI (n + 1))) := by
  rw [q_M_face_64, h, m_in_m1 ρ σ (by omega)]
  simp only [Option.bind_some, b10, if_false]
  rw [h, if_neg (by intro e; have := (nI_eq (by omega) (by decide)).mp (e.trans (show (12 : Int32) = nI 12 by decide)); omega), b_chk hn (by decide), if_pos (by decide), q_M_face_64_at34, b_chk hn (by decide), nI_clamp (by omega), q_M_face_64_at37]
  have e64 : rd_u (rd_u σ 65 n (-1)) 66 n 0 64 0 = nI n := by rw [rd_un (by decide), rd_un (by decide)]; exact h
  rw [e64, b_chk hn (by decide), nI_clamp (by omega), rd_us, if_neg (by decide), show nI n + 1 - 1 = nI n by rw [nI_1, nI_pred], nI_1]
theorem m_face_sub (ρ : Nat × (Nat → Int32)) (σ : rd_Sg) {b n m : Nat} (h : σ 64 0 = nI n) (hb : b < n) (hn : n < 12) (hm : m ≤ 8) (h66 : σ 66 b = nI m) : rd_R ρ 138 0 [some (.ref 64), some (.int (nI b)), none, none, none] [] σ = some (nI n, rd_u (cp4 (rd_u (rd_u σ 65 n (nI b)) 66 n (nI m)) b n m) 64 0 (nI (n + 1))) := by
  rw [q_M_face_64, h, m_in_j ρ σ hb (by omega)]
  simp only [Option.bind_some, b10, if_false]
  rw [h, if_neg (by intro e; have := (nI_eq (by omega) (by decide)).mp (e.trans (show (12 : Int32) = nI 12 by decide)); omega), b_chk hn (by decide), if_neg (nI_pos (by omega)), b_chk (show b < 12 by omega) (by decide), q_M_face_64_at34, b_chk hn (by decide), nI_clamp (by omega), nI_clamp (show b < 2 ^ 31 by omega), h66]
  have h0 := m_face_loop ρ (rd_u (rd_u σ 65 n (nI b)) 66 n (nI m)) (m := m) hb hn hm (by rw [rd_un (by decide), rd_un (by decide)]; exact h) rd_us m 0 none none (by omega)
  rw [cp4_0] at h0
  exact h0
theorem m_face_full (ρ : Nat × (Nat → Int32)) (σ : rd_Sg) {x : Int32} (h : σ 64 0 = nI 12) (hx : rd_R ρ 137 0 [some (.int x), some (.int (-1)), some (.int (nI 12 - 1))] [] σ = some (1, σ)) : rd_R ρ 138 0 [some (.ref 64), some (.int x), none, none, none] [] σ = some (-3, σ) := by
  rw [q_M_face_64, h, hx]
  simp only [Option.bind_some, b10, if_false]
  rw [h, if_pos (by decide)]
