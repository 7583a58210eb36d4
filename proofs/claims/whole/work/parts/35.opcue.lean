variable {B : Nat}
/-! cue, forget -/
def inF (x lo hi : Int32) : Int32 := if x < lo then 0 else if hi < x then 0 else 1
theorem inF01 (x lo hi : Int32) : inF x lo hi = 0 ∨ inF x lo hi = 1 := by
  unfold inF
  split
  · exact Or.inl rfl
  · split
    · exact Or.inl rfl
    · exact Or.inr rfl
theorem inF_any (x : Int32) : inF x (-2147483648) 2147483647 = 1 := by
  unfold inF
  have h1 : ¬ x < -2147483648 := by
    rw [Int32.lt_iff_toInt_lt]
    have := Int32.le_toInt x
    have e : (-2147483648 : Int32).toInt = -2147483648 := by decide
    omega
  have h2 : ¬ 2147483647 < x := by
    rw [Int32.lt_iff_toInt_lt]
    have := Int32.toInt_lt x
    have e : (2147483647 : Int32).toInt = 2147483647 := by decide
    omega
  rw [if_neg h1, if_neg h2]
theorem inF_nz {x lo hi : Int32} {a b : Nat} (h : ¬ inF x lo hi = 0) (hlo : lo = nI a) (hhi : hi = nI b) (ha : a < 2 ^ 30) (hb : b < 2 ^ 30) : ∃ n, a ≤ n ∧ n ≤ b ∧ x = nI n := by
  unfold inF at h
  by_cases h1 : x < lo
  · rw [if_pos h1] at h; exact absurd rfl h
  · rw [if_neg h1] at h
    by_cases h2 : hi < x
    · rw [if_pos h2] at h; exact absurd rfl h
    · subst hlo; subst hhi
      rcases pk_ix x (n := b + 1) (by omega) with q | q | ⟨n, q1, q2⟩
      · refine absurd ?_ h1
        exact neg_lt q (nI a) rfl (by omega)
      · exact absurd (Int32.lt_iff_toInt_lt.mpr (by rw [nI_toInt (by omega)]; rw [Int32.le_iff_toInt_le, nI_toInt (by omega)] at q; omega)) h2
      · refine ⟨n, ?_, by omega, q2⟩
        rw [q2] at h1
        rcases Nat.lt_or_ge n a with w | w
        · exact absurd (nI_lt w (by omega)) h1
        · exact w
theorem d_within (ρ : Nat × (Nat → Int32)) (σ : rd_Sg) {j : Nat} {x : Int32} (hj : j < 59) : rd_R ρ 16 0 [some (.int x), some (.int (nI j))] [] σ = some (inF x (rd_lim j) (rd_lim (j + 1)), σ) := by
  rw [q_X1_isWithin, b_chk (by omega) (by decide), nI_clamp (by omega), nI_1, b_chk (by omega) (by decide), nI_clamp (by omega)]
  unfold inF
  simp only [b_some]
/-- a cue's numbers, by the row of limits -/
def cuD (k : Nat) (x y z : Int32) : Int32 := if inF x (rd_lim (6 * k)) (rd_lim (6 * k + 1)) = 0 then 0 else if inF y (rd_lim (6 * k + 2)) (rd_lim (6 * k + 3)) = 0 then 0 else inF z (rd_lim (6 * k + 4)) (rd_lim (6 * k + 5))
theorem d_isCue (ρ : Nat × (Nat → Int32)) (σ : rd_Sg) {k : Nat} {x y z : Int32} (hk : k < 10) : rd_R ρ 15 0 [some (.int (nI k)), some (.int x), some (.int y), some (.int z), none] [] σ = some (cuD k x y z, σ) := by
  have hb : ∀ v : Int32, (v = 0 ∨ v = 1) → (if v = 0 then some ((0 : Int32), σ) else some ((1 : Int32), σ)) = some (v, σ) := by
    rintro v (rfl | rfl)
    · rfl
    · rfl
  have p0 : nI k * 6 = nI (6 * k) := by rw [show (6 : Int32) = nI 6 by decide, pk_mul, Nat.mul_comm]
  have p2 : nI (6 * k) + 2 = nI (6 * k + 2) := by rw [show (2 : Int32) = nI 2 by decide, nI_add]
  have p4 : nI (6 * k) + 4 = nI (6 * k + 4) := by rw [show (4 : Int32) = nI 4 by decide, nI_add]
  rw [q_X1_isCue, if_neg (nI_pos (by omega)), if_neg (by rw [show (9 : Int32) = nI 9 by decide]; exact nI_nlt (by omega) (by decide)), p0, p2, p4, d_within ρ σ (by omega)]
  simp only [Option.bind_some]
  rw [d_within ρ σ (by omega)]
  simp only [Option.bind_some]
  rw [d_within ρ σ (by omega)]
  have hv' : ∀ v : Int32, (v = 0 ∨ v = 1) → (if v = 0 then (0 : Int32) else 1) = v := by
    rintro v (rfl | rfl)
    · rfl
    · rfl
  simp only [Option.bind_some, b_some, hv' _ (inF01 _ _ _)]
  rfl
theorem d_isCue_no (ρ : Nat × (Nat → Int32)) (σ : rd_Sg) {w x y z : Int32} (h : hv w 10 = 0) : rd_R ρ 15 0 [some (.int w), some (.int x), some (.int y), some (.int z), none] [] σ = some (0, σ) := by
  rw [q_X1_isCue]
  rcases hv_out h with h0 | ⟨h0, h1⟩
  · rw [if_pos h0]
  · rw [if_neg h0, if_pos ((gt5 (n := 9) (k' := 10) (by decide) (by decide) (by decide)).mpr (by rw [show (10 : Int32) = nI 10 by decide]; exact h1))]
theorem m_inF (ρ : Nat × (Nat → Int32)) (σ : rd_Sg) (x lo hi : Int32) : rd_R ρ 137 0 [some (.int x), some (.int lo), some (.int hi)] [] σ = some (inF x lo hi, σ) := m_in ρ σ x lo hi
theorem ltt10 {x : Int32} {c : Nat} (h : x = nI c) (hc : c < 10) : (c = 0 ∧ x = 0) ∨ (c = 1 ∧ x = 1) ∨ (c = 2 ∧ x = 2) ∨ (c = 3 ∧ x = 3) ∨ (c = 4 ∧ x = 4) ∨ (c = 5 ∧ x = 5) ∨ (c = 6 ∧ x = 6) ∨ (c = 7 ∧ x = 7) ∨ (c = 8 ∧ x = 8) ∨ (c = 9 ∧ x = 9) := by
  subst h
  match c, hc with
  | 0, _ => exact Or.inl ⟨rfl, by decide⟩
  | 1, _ => exact Or.inr (Or.inl ⟨rfl, by decide⟩)
  | 2, _ => exact Or.inr (Or.inr (Or.inl ⟨rfl, by decide⟩))
  | 3, _ => exact Or.inr (Or.inr (Or.inr (Or.inl ⟨rfl, by decide⟩)))
  | 4, _ => exact Or.inr (Or.inr (Or.inr (Or.inr (Or.inl ⟨rfl, by decide⟩))))
  | 5, _ => exact Or.inr (Or.inr (Or.inr (Or.inr (Or.inr (Or.inl ⟨rfl, by decide⟩)))))
  | 6, _ => exact Or.inr (Or.inr (Or.inr (Or.inr (Or.inr (Or.inr (Or.inl ⟨rfl, by decide⟩))))))
  | 7, _ => exact Or.inr (Or.inr (Or.inr (Or.inr (Or.inr (Or.inr (Or.inr (Or.inl ⟨rfl, by decide⟩)))))))
  | 8, _ => exact Or.inr (Or.inr (Or.inr (Or.inr (Or.inr (Or.inr (Or.inr (Or.inr (Or.inl ⟨rfl, by decide⟩))))))))
  | 9, _ => exact Or.inr (Or.inr (Or.inr (Or.inr (Or.inr (Or.inr (Or.inr (Or.inr (Or.inr (⟨rfl, by decide⟩)))))))))
theorem cuD_0 (x y z : Int32) : cuD 0 x y z = if inF x 0 7 = 0 then 0 else if inF y (-2147483648) 2147483647 = 0 then 0 else inF z (-2147483648) 2147483647 := by
  unfold cuD
  rw [show rd_lim (6 * 0) = 0 by decide, show rd_lim (6 * 0 + 1) = 7 by decide, show rd_lim (6 * 0 + 2) = (-2147483648) by decide, show rd_lim (6 * 0 + 3) = 2147483647 by decide, show rd_lim (6 * 0 + 4) = (-2147483648) by decide, show rd_lim (6 * 0 + 5) = 2147483647 by decide]
theorem cuD_1 (x y z : Int32) : cuD 1 x y z = if inF x 0 7 = 0 then 0 else if inF y 0 7 = 0 then 0 else inF z (-2147483648) 2147483647 := by
  unfold cuD
  rw [show rd_lim (6 * 1) = 0 by decide, show rd_lim (6 * 1 + 1) = 7 by decide, show rd_lim (6 * 1 + 2) = 0 by decide, show rd_lim (6 * 1 + 3) = 7 by decide, show rd_lim (6 * 1 + 4) = (-2147483648) by decide, show rd_lim (6 * 1 + 5) = 2147483647 by decide]
theorem cuD_2 (x y z : Int32) : cuD 2 x y z = if inF x 0 3 = 0 then 0 else if inF y (-1) 23 = 0 then 0 else inF z (-2147483648) 2147483647 := by
  unfold cuD
  rw [show rd_lim (6 * 2) = 0 by decide, show rd_lim (6 * 2 + 1) = 3 by decide, show rd_lim (6 * 2 + 2) = (-1) by decide, show rd_lim (6 * 2 + 3) = 23 by decide, show rd_lim (6 * 2 + 4) = (-2147483648) by decide, show rd_lim (6 * 2 + 5) = 2147483647 by decide]
theorem cuD_3 (x y z : Int32) : cuD 3 x y z = if inF x 0 3 = 0 then 0 else if inF y 0 7 = 0 then 0 else inF z (-2147483648) 2147483647 := by
  unfold cuD
  rw [show rd_lim (6 * 3) = 0 by decide, show rd_lim (6 * 3 + 1) = 3 by decide, show rd_lim (6 * 3 + 2) = 0 by decide, show rd_lim (6 * 3 + 3) = 7 by decide, show rd_lim (6 * 3 + 4) = (-2147483648) by decide, show rd_lim (6 * 3 + 5) = 2147483647 by decide]
theorem cuD_4 (x y z : Int32) : cuD 4 x y z = if inF x 0 60 = 0 then 0 else if inF y (-2147483648) 2147483647 = 0 then 0 else inF z (-2147483648) 2147483647 := by
  unfold cuD
  rw [show rd_lim (6 * 4) = 0 by decide, show rd_lim (6 * 4 + 1) = 60 by decide, show rd_lim (6 * 4 + 2) = (-2147483648) by decide, show rd_lim (6 * 4 + 3) = 2147483647 by decide, show rd_lim (6 * 4 + 4) = (-2147483648) by decide, show rd_lim (6 * 4 + 5) = 2147483647 by decide]
theorem cuD_5 (x y z : Int32) : cuD 5 x y z = if inF x 0 7 = 0 then 0 else if inF y 0 7 = 0 then 0 else inF z 0 60 := by
  unfold cuD
  rw [show rd_lim (6 * 5) = 0 by decide, show rd_lim (6 * 5 + 1) = 7 by decide, show rd_lim (6 * 5 + 2) = 0 by decide, show rd_lim (6 * 5 + 3) = 7 by decide, show rd_lim (6 * 5 + 4) = 0 by decide, show rd_lim (6 * 5 + 5) = 60 by decide]
theorem cuD_6 (x y z : Int32) : cuD 6 x y z = if inF x 1 59 = 0 then 0 else if inF y 0 60 = 0 then 0 else inF z (-2147483648) 2147483647 := by
  unfold cuD
  rw [show rd_lim (6 * 6) = 1 by decide, show rd_lim (6 * 6 + 1) = 59 by decide, show rd_lim (6 * 6 + 2) = 0 by decide, show rd_lim (6 * 6 + 3) = 60 by decide, show rd_lim (6 * 6 + 4) = (-2147483648) by decide, show rd_lim (6 * 6 + 5) = 2147483647 by decide]
theorem cuD_7 (x y z : Int32) : cuD 7 x y z = if inF x 0 11 = 0 then 0 else if inF y (-2147483648) 2147483647 = 0 then 0 else inF z (-2147483648) 2147483647 := by
  unfold cuD
  rw [show rd_lim (6 * 7) = 0 by decide, show rd_lim (6 * 7 + 1) = 11 by decide, show rd_lim (6 * 7 + 2) = (-2147483648) by decide, show rd_lim (6 * 7 + 3) = 2147483647 by decide, show rd_lim (6 * 7 + 4) = (-2147483648) by decide, show rd_lim (6 * 7 + 5) = 2147483647 by decide]
theorem cuD_8 (x y z : Int32) : cuD 8 x y z = if inF x 0 3 = 0 then 0 else if inF y 0 3 = 0 then 0 else inF z 0 7 := by
  unfold cuD
  rw [show rd_lim (6 * 8) = 0 by decide, show rd_lim (6 * 8 + 1) = 3 by decide, show rd_lim (6 * 8 + 2) = 0 by decide, show rd_lim (6 * 8 + 3) = 3 by decide, show rd_lim (6 * 8 + 4) = 0 by decide, show rd_lim (6 * 8 + 5) = 7 by decide]
theorem cuD_9 (x y z : Int32) : cuD 9 x y z = if inF x 0 7 = 0 then 0 else if inF y (-2147483648) 2147483647 = 0 then 0 else inF z (-2147483648) 2147483647 := by
  unfold cuD
  rw [show rd_lim (6 * 9) = 0 by decide, show rd_lim (6 * 9 + 1) = 7 by decide, show rd_lim (6 * 9 + 2) = (-2147483648) by decide, show rd_lim (6 * 9 + 3) = 2147483647 by decide, show rd_lim (6 * 9 + 4) = (-2147483648) by decide, show rd_lim (6 * 9 + 5) = 2147483647 by decide]
/-- the model lays a cue down -/
def mcu (σ : rd_Sg) (x1 x2 x3 x4 : Int32) : Option (Int32 × rd_Sg) := (if (σ 64 41) = 60 then some (((-3) : Int32), σ) else (rd_chk (σ 64 41) 60 ((rd_chk (σ 64 41) 60 ((rd_chk (σ 64 41) 60 ((rd_chk (σ 64 41) 60 (some ((((σ 64 41) + 1) - 1), (rd_u (rd_u (rd_u (rd_u (rd_u σ 93 (σ 64 41).toNatClampNeg x1) 94 (σ 64 41).toNatClampNeg x2) 95 (σ 64 41).toNatClampNeg x3) 96 (σ 64 41).toNatClampNeg x4) 64 41 ((σ 64 41) + 1))))))))))))
theorem m_cue_end (ρ : Nat × (Nat → Int32)) (σ : rd_Sg) (x1 x2 x3 x4 v : Int32) : rd_R ρ 181 125 [some (.ref 64), some (.int x1), some (.int x2), some (.int x3), some (.int x4), some (.int v)] [] σ = if v = 0 then some (-1, σ) else mcu σ x1 x2 x3 x4 := by
  rw [q_M_cue_64_at125]
  rfl
theorem if0 {α : Type} {P : Prop} [Decidable P] {v : Int32} {a b : α} : (if P then a else if v = 0 then a else b) = if (if P then (0 : Int32) else v) = 0 then a else b := by
  by_cases h : P
  · rw [if_pos h, if_pos h, if_pos rfl]
  · rw [if_neg h, if_neg h]
set_option maxHeartbeats 4000000 in
theorem m_cue (ρ : Nat × (Nat → Int32)) (σ : rd_Sg) {k : Nat} {w x y z : Int32} (hk : k < 10) (hw : w = nI k) : rd_R ρ 181 0 [some (.ref 64), some (.int w), some (.int x), some (.int y), some (.int z), none] [] σ = if cuD k x y z = 0 then some (-1, σ) else mcu σ w x y z := by
  have E := q_M_cue_64 ρ σ w x y z
  simp only [m_inF, Option.bind_some, q_M_cue_64_at25, q_M_cue_64_at26, q_M_cue_64_at40, q_M_cue_64_at41, q_M_cue_64_at55, q_M_cue_64_at56, q_M_cue_64_at81, q_M_cue_64_at82, q_M_cue_64_at96, q_M_cue_64_at97, q_M_cue_64_at122, q_M_cue_64_at123, m_cue_end, b10, if_true, if_false] at E
  rw [E]
  clear E
  rcases ltt10 hw hk with ⟨rfl, rfl⟩ | ⟨rfl, rfl⟩ | ⟨rfl, rfl⟩ | ⟨rfl, rfl⟩ | ⟨rfl, rfl⟩ | ⟨rfl, rfl⟩ | ⟨rfl, rfl⟩ | ⟨rfl, rfl⟩ | ⟨rfl, rfl⟩ | ⟨rfl, rfl⟩
  · simp only [l_0_1, l_0_2, l_0_3, l_0_4, l_0_5, l_0_6, l_0_7, l_0_8, l_0_9, if_true, if_false, cuD_0, inF_any, b10, if0]
    try (by_cases h1 : inF x 0 7 = 0 <;> by_cases h2 : inF y (-2147483648) 2147483647 = 0 <;> simp only [h1, h2, if_true, if_false, b10])
  · simp only [l_1_0, l_1_2, l_1_3, l_1_4, l_1_5, l_1_6, l_1_7, l_1_8, l_1_9, if_true, if_false, cuD_1, inF_any, b10, if0]
    try (by_cases h1 : inF x 0 7 = 0 <;> by_cases h2 : inF y 0 7 = 0 <;> simp only [h1, h2, if_true, if_false, b10])
  · simp only [l_2_0, l_2_1, l_2_3, l_2_4, l_2_5, l_2_6, l_2_7, l_2_8, l_2_9, if_true, if_false, cuD_2, inF_any, b10, if0]
    try (by_cases h1 : inF x 0 3 = 0 <;> by_cases h2 : inF y (-1) 23 = 0 <;> simp only [h1, h2, if_true, if_false, b10])
  · simp only [l_3_0, l_3_1, l_3_2, l_3_4, l_3_5, l_3_6, l_3_7, l_3_8, l_3_9, if_true, if_false, cuD_3, inF_any, b10, if0]
    try (by_cases h1 : inF x 0 3 = 0 <;> by_cases h2 : inF y 0 7 = 0 <;> simp only [h1, h2, if_true, if_false, b10])
  · simp only [l_4_0, l_4_1, l_4_2, l_4_3, l_4_5, l_4_6, l_4_7, l_4_8, l_4_9, if_true, if_false, cuD_4, inF_any, b10, if0]
    try (by_cases h1 : inF x 0 60 = 0 <;> by_cases h2 : inF y (-2147483648) 2147483647 = 0 <;> simp only [h1, h2, if_true, if_false, b10])
  · simp only [l_5_0, l_5_1, l_5_2, l_5_3, l_5_4, l_5_6, l_5_7, l_5_8, l_5_9, if_true, if_false, cuD_5, inF_any, b10, if0]
    try (by_cases h1 : inF x 0 7 = 0 <;> by_cases h2 : inF y 0 7 = 0 <;> simp only [h1, h2, if_true, if_false, b10])
  · simp only [l_6_0, l_6_1, l_6_2, l_6_3, l_6_4, l_6_5, l_6_7, l_6_8, l_6_9, if_true, if_false, cuD_6, inF_any, b10, if0]
    try (by_cases h1 : inF x 1 59 = 0 <;> by_cases h2 : inF y 0 60 = 0 <;> simp only [h1, h2, if_true, if_false, b10])
  · simp only [l_7_0, l_7_1, l_7_2, l_7_3, l_7_4, l_7_5, l_7_6, l_7_8, l_7_9, if_true, if_false, cuD_7, inF_any, b10, if0]
    try (by_cases h1 : inF x 0 11 = 0 <;> by_cases h2 : inF y (-2147483648) 2147483647 = 0 <;> simp only [h1, h2, if_true, if_false, b10])
  · simp only [l_8_0, l_8_1, l_8_2, l_8_3, l_8_4, l_8_5, l_8_6, l_8_7, l_8_9, if_true, if_false, cuD_8, inF_any, b10, if0]
    try (by_cases h1 : inF x 0 3 = 0 <;> by_cases h2 : inF y 0 3 = 0 <;> simp only [h1, h2, if_true, if_false, b10])
  · simp only [l_9_0, l_9_1, l_9_2, l_9_3, l_9_4, l_9_5, l_9_6, l_9_7, l_9_8, if_true, if_false, cuD_9, inF_any, b10, if0]
    try (by_cases h1 : inF x 0 7 = 0 <;> by_cases h2 : inF y (-2147483648) 2147483647 = 0 <;> simp only [h1, h2, if_true, if_false, b10])
theorem m_cue_no (ρ : Nat × (Nat → Int32)) (σ : rd_Sg) {w x y z : Int32} (h : hv w 10 = 0) : rd_R ρ 181 0 [some (.ref 64), some (.int w), some (.int x), some (.int y), some (.int z), none] [] σ = some (-1, σ) := by
  have hne : ∀ k : Nat, k < 10 → ¬ w = nI k := fun k hk e => by
    rw [e, hv_in hk (by decide)] at h; cases h
  rw [q_M_cue_64, m_inc ρ σ w 9 (n := 10) (by decide) (by decide), h]
  simp only [Option.bind_some]
  rw [if_neg (fun e => hne 0 (by decide) (e.trans (by decide))), if_neg (fun e => hne 1 (by decide) (e.trans (by decide))), if_neg (fun e => hne 2 (by decide) (e.trans (by decide))), if_neg (fun e => hne 3 (by decide) (e.trans (by decide))), if_neg (fun e => hne 4 (by decide) (e.trans (by decide))), if_neg (fun e => hne 5 (by decide) (e.trans (by decide))), if_neg (fun e => hne 6 (by decide) (e.trans (by decide))), if_neg (fun e => hne 7 (by decide) (e.trans (by decide))), if_neg (fun e => hne 8 (by decide) (e.trans (by decide))), if_neg (fun e => hne 9 (by decide) (e.trans (by decide))), m_cue_end, if_pos rfl]
theorem cuD_ok {k : Nat} {w x y z : Int32} (hk : k < 10) (hw : w = nI k) (h : ¬ cuD k x y z = 0) : CueOk w x y z := by
  have h1 : ¬ inF x (rd_lim (6 * k)) (rd_lim (6 * k + 1)) = 0 := fun q => h (by unfold cuD; rw [if_pos q])
  have h2 : ¬ inF y (rd_lim (6 * k + 2)) (rd_lim (6 * k + 3)) = 0 := fun q => h (by unfold cuD; rw [if_neg h1, if_pos q])
  have h3 : ¬ inF z (rd_lim (6 * k + 4)) (rd_lim (6 * k + 5)) = 0 := fun q => h (by unfold cuD; rw [if_neg h1, if_neg h2]; exact q)
  have up : ∀ {v lo hi : Int32} {b : Nat}, ¬ inF v lo hi = 0 → lo = nI 0 → hi = nI b → b < 2 ^ 30 → ∃ n, n < b + 1 ∧ v = nI n := by
    intro v lo hi b q e1 e2 hb
    obtain ⟨n, -, n2, n3⟩ := inF_nz q e1 e2 (by decide) hb
    exact ⟨n, by omega, n3⟩
  refine ⟨k, hk, hw, ?_, ?_, ?_, ?_, ?_, ?_, ?_, ?_, ?_⟩
  · rintro (rfl | rfl) <;> exact up h1 (by decide) (b := 7) (by decide) (by decide)
  · rintro rfl; exact ⟨up h1 (by decide) (b := 7) (by decide) (by decide), up h2 (by decide) (b := 7) (by decide) (by decide)⟩
  · rintro rfl; exact up h1 (by decide) (b := 3) (by decide) (by decide)
  · rintro rfl; exact ⟨up h1 (by decide) (b := 3) (by decide) (by decide), up h2 (by decide) (b := 7) (by decide) (by decide)⟩
  · rintro rfl
    obtain ⟨n, n1, n2⟩ := up h1 (by decide) (b := 60) (by decide) (by decide)
    exact ⟨n, by omega, n2⟩
  · rintro rfl
    obtain ⟨n, n1, n2⟩ := up h3 (by decide) (b := 60) (by decide) (by decide)
    exact ⟨up h1 (by decide) (b := 7) (by decide) (by decide), up h2 (by decide) (b := 7) (by decide) (by decide), n, by omega, n2⟩
  · rintro rfl
    obtain ⟨n, n0, n1, n2⟩ := inF_nz h1 (a := 1) (b := 59) (by decide) (by decide) (by decide) (by decide)
    obtain ⟨m, m1, m2⟩ := up h2 (by decide) (b := 60) (by decide) (by decide)
    exact ⟨⟨n, n0, by omega, n2⟩, m, by omega, m2⟩
  · rintro rfl; exact up h1 (by decide) (b := 11) (by decide) (by decide)
  · rintro rfl; exact ⟨up h1 (by decide) (b := 3) (by decide) (by decide), up h2 (by decide) (b := 3) (by decide) (by decide), up h3 (by decide) (b := 7) (by decide) (by decide)⟩
theorem op_cue (ρ : Nat × (Nat → Int32)) {σ : rd_Sg} (hI : Inv B σ) (x1 x2 x3 x4 : Int32) : Both B (rd_R ρ 128 0 [some (.ref 0), some (.int x1), some (.int x2), some (.int x3), some (.int x4)] []) (rd_R ρ 181 0 [some (.ref 64), some (.int x1), some (.int x2), some (.int x3), some (.int x4), none] []) σ := by
  have hJ := hI
  obtain ⟨nf, ns, nr, ne, nl, nc, no, nt, nd, lo, hA, hB, hC, hD, hE, ⟨⟨f0, f1, f2, f3, f4, f5⟩, hJC⟩, hG⟩ := hJ
  have hnc := hJC.1
  have E1 := q_D_cue_0 ρ σ x1 x2 x3 x4
  simp only [hb_id] at E1
  rcases hv_ix x1 (n := 10) (by decide) with q | ⟨k, hk, e1⟩
  · exact Both.same (r := -1) hI (by rw [E1, d_isCue_no ρ σ q]; rfl) (m_cue_no ρ σ q)
  have D : rd_R ρ 15 0 [some (.int x1), some (.int x2), some (.int x3), some (.int x4), none] [] σ = some (cuD k x2 x3 x4, σ) := by rw [e1]; exact d_isCue ρ σ hk
  rw [D] at E1
  simp only [Option.bind_some] at E1
  by_cases hc : cuD k x2 x3 x4 = 0
  · exact Both.same (r := -1) hI (by rw [E1, if_pos hc]) (by rw [m_cue ρ σ hk e1, if_pos hc])
  rw [if_neg hc, q_X1_add_51, f0] at E1
  rcases Nat.lt_or_ge nc 60 with hn | hn
  · rw [if_pos (lt_lit 60 60 (by decide) hn (by decide)), nI_clamp (by omega), nI_1] at E1
    simp only [b_chk hn (show 60 < 2 ^ 31 by decide)] at E1
    have M := m_cue ρ (rd_u (rd_u (rd_u (rd_u (rd_u σ 52 nc x1) 53 nc x2) 54 nc x3) 55 nc x4) 51 0 (nI (nc + 1))) (w := x1) (x := x2) (y := x3) (z := x4) hk e1
    rw [if_neg hc] at M
    unfold mcu at M
    simp only [rd_un, ne_eq, Nat.reduceEqDiff, not_false_eq_true, f1] at M
    rw [if_neg (by intro e; have := (nI_eq (by omega) (by decide)).mp (e.trans (show (60 : Int32) = nI 60 by decide)); omega), nI_clamp (by omega), show nI nc + 1 - 1 = nI nc by rw [nI_1, nI_pred], nI_1] at M
    simp only [b_chk hn (show 60 < 2 ^ 31 by decide)] at M
    refine ⟨_, _, _, E1, M, ?_⟩
    refine ⟨nf, ns, nr, ne, nl, nc + 1, no, nt, nd, lo, ?_⟩
    simp only [b_une, b_ueq, ne_eq, Nat.reduceEqDiff, not_false_eq_true, b_ups, b_upn, f2, f3, f4, f5]
    refine ⟨hA, hB, hC, hD, hE, ⟨⟨trivial, trivial, trivial, trivial, trivial, trivial⟩, ⟨by omega, fun i hi => ?_⟩⟩, hG⟩
    by_cases e : i = nc
    · subst e; rw [b_ups, b_ups, b_ups, b_ups]; exact cuD_ok hk e1 hc
    · rw [b_upn e, b_upn e, b_upn e, b_upn e]; exact hJC.2 i (by omega)
  · have : nc = 60 := by omega
    subst this
    refine Both.same (r := -3) hI (by rw [E1, if_neg (by decide)]) ?_
    rw [m_cue ρ σ hk e1, if_neg hc]
    unfold mcu
    rw [f1, if_pos (by decide)]
