/-! on, with: a condition is set  -/
theorem l_0_1 : ((0 : Int32) = 1) = False := by decide
theorem l_0_2 : ((0 : Int32) = 2) = False := by decide
theorem l_0_3 : ((0 : Int32) = 3) = False := by decide
theorem l_0_4 : ((0 : Int32) = 4) = False := by decide
theorem l_0_5 : ((0 : Int32) = 5) = False := by decide
theorem l_0_6 : ((0 : Int32) = 6) = False := by decide
theorem l_0_7 : ((0 : Int32) = 7) = False := by decide
theorem l_0_8 : ((0 : Int32) = 8) = False := by decide
theorem l_0_9 : ((0 : Int32) = 9) = False := by decide
theorem l_0_10 : ((0 : Int32) = 10) = False := by decide
theorem l_0_11 : ((0 : Int32) = 11) = False := by decide
theorem l_0_12 : ((0 : Int32) = 12) = False := by decide
theorem l_1_0 : ((1 : Int32) = 0) = False := by decide
theorem l_1_2 : ((1 : Int32) = 2) = False := by decide
theorem l_1_3 : ((1 : Int32) = 3) = False := by decide
theorem l_1_4 : ((1 : Int32) = 4) = False := by decide
theorem l_1_5 : ((1 : Int32) = 5) = False := by decide
theorem l_1_6 : ((1 : Int32) = 6) = False := by decide
theorem l_1_7 : ((1 : Int32) = 7) = False := by decide
theorem l_1_8 : ((1 : Int32) = 8) = False := by decide
theorem l_1_9 : ((1 : Int32) = 9) = False := by decide
theorem l_1_10 : ((1 : Int32) = 10) = False := by decide
theorem l_1_11 : ((1 : Int32) = 11) = False := by decide
theorem l_1_12 : ((1 : Int32) = 12) = False := by decide
theorem l_2_0 : ((2 : Int32) = 0) = False := by decide
theorem l_2_1 : ((2 : Int32) = 1) = False := by decide
theorem l_2_3 : ((2 : Int32) = 3) = False := by decide
theorem l_2_4 : ((2 : Int32) = 4) = False := by decide
theorem l_2_5 : ((2 : Int32) = 5) = False := by decide
theorem l_2_6 : ((2 : Int32) = 6) = False := by decide
theorem l_2_7 : ((2 : Int32) = 7) = False := by decide
theorem l_2_8 : ((2 : Int32) = 8) = False := by decide
theorem l_2_9 : ((2 : Int32) = 9) = False := by decide
theorem l_2_10 : ((2 : Int32) = 10) = False := by decide
theorem l_2_11 : ((2 : Int32) = 11) = False := by decide
theorem l_2_12 : ((2 : Int32) = 12) = False := by decide
theorem l_3_0 : ((3 : Int32) = 0) = False := by decide
theorem l_3_1 : ((3 : Int32) = 1) = False := by decide
theorem l_3_2 : ((3 : Int32) = 2) = False := by decide
theorem l_3_4 : ((3 : Int32) = 4) = False := by decide
theorem l_3_5 : ((3 : Int32) = 5) = False := by decide
theorem l_3_6 : ((3 : Int32) = 6) = False := by decide
theorem l_3_7 : ((3 : Int32) = 7) = False := by decide
theorem l_3_8 : ((3 : Int32) = 8) = False := by decide
theorem l_3_9 : ((3 : Int32) = 9) = False := by decide
theorem l_3_10 : ((3 : Int32) = 10) = False := by decide
theorem l_3_11 : ((3 : Int32) = 11) = False := by decide
theorem l_3_12 : ((3 : Int32) = 12) = False := by decide
theorem l_4_0 : ((4 : Int32) = 0) = False := by decide
theorem l_4_1 : ((4 : Int32) = 1) = False := by decide
theorem l_4_2 : ((4 : Int32) = 2) = False := by decide
theorem l_4_3 : ((4 : Int32) = 3) = False := by decide
theorem l_4_5 : ((4 : Int32) = 5) = False := by decide
theorem l_4_6 : ((4 : Int32) = 6) = False := by decide
theorem l_4_7 : ((4 : Int32) = 7) = False := by decide
theorem l_4_8 : ((4 : Int32) = 8) = False := by decide
theorem l_4_9 : ((4 : Int32) = 9) = False := by decide
theorem l_4_10 : ((4 : Int32) = 10) = False := by decide
theorem l_4_11 : ((4 : Int32) = 11) = False := by decide
theorem l_4_12 : ((4 : Int32) = 12) = False := by decide
theorem l_5_0 : ((5 : Int32) = 0) = False := by decide
theorem l_5_1 : ((5 : Int32) = 1) = False := by decide
theorem l_5_2 : ((5 : Int32) = 2) = False := by decide
theorem l_5_3 : ((5 : Int32) = 3) = False := by decide
theorem l_5_4 : ((5 : Int32) = 4) = False := by decide
theorem l_5_6 : ((5 : Int32) = 6) = False := by decide
theorem l_5_7 : ((5 : Int32) = 7) = False := by decide
theorem l_5_8 : ((5 : Int32) = 8) = False := by decide
theorem l_5_9 : ((5 : Int32) = 9) = False := by decide
theorem l_5_10 : ((5 : Int32) = 10) = False := by decide
theorem l_5_11 : ((5 : Int32) = 11) = False := by decide
theorem l_5_12 : ((5 : Int32) = 12) = False := by decide
theorem l_6_0 : ((6 : Int32) = 0) = False := by decide
theorem l_6_1 : ((6 : Int32) = 1) = False := by decide
theorem l_6_2 : ((6 : Int32) = 2) = False := by decide
theorem l_6_3 : ((6 : Int32) = 3) = False := by decide
theorem l_6_4 : ((6 : Int32) = 4) = False := by decide
theorem l_6_5 : ((6 : Int32) = 5) = False := by decide
theorem l_6_7 : ((6 : Int32) = 7) = False := by decide
theorem l_6_8 : ((6 : Int32) = 8) = False := by decide
theorem l_6_9 : ((6 : Int32) = 9) = False := by decide
theorem l_6_10 : ((6 : Int32) = 10) = False := by decide
theorem l_6_11 : ((6 : Int32) = 11) = False := by decide
theorem l_6_12 : ((6 : Int32) = 12) = False := by decide
theorem l_7_0 : ((7 : Int32) = 0) = False := by decide
theorem l_7_1 : ((7 : Int32) = 1) = False := by decide
theorem l_7_2 : ((7 : Int32) = 2) = False := by decide
theorem l_7_3 : ((7 : Int32) = 3) = False := by decide
theorem l_7_4 : ((7 : Int32) = 4) = False := by decide
theorem l_7_5 : ((7 : Int32) = 5) = False := by decide
theorem l_7_6 : ((7 : Int32) = 6) = False := by decide
theorem l_7_8 : ((7 : Int32) = 8) = False := by decide
theorem l_7_9 : ((7 : Int32) = 9) = False := by decide
theorem l_7_10 : ((7 : Int32) = 10) = False := by decide
theorem l_7_11 : ((7 : Int32) = 11) = False := by decide
theorem l_7_12 : ((7 : Int32) = 12) = False := by decide
theorem l_8_0 : ((8 : Int32) = 0) = False := by decide
theorem l_8_1 : ((8 : Int32) = 1) = False := by decide
theorem l_8_2 : ((8 : Int32) = 2) = False := by decide
theorem l_8_3 : ((8 : Int32) = 3) = False := by decide
theorem l_8_4 : ((8 : Int32) = 4) = False := by decide
theorem l_8_5 : ((8 : Int32) = 5) = False := by decide
theorem l_8_6 : ((8 : Int32) = 6) = False := by decide
theorem l_8_7 : ((8 : Int32) = 7) = False := by decide
theorem l_8_9 : ((8 : Int32) = 9) = False := by decide
theorem l_8_10 : ((8 : Int32) = 10) = False := by decide
theorem l_8_11 : ((8 : Int32) = 11) = False := by decide
theorem l_8_12 : ((8 : Int32) = 12) = False := by decide
theorem l_9_0 : ((9 : Int32) = 0) = False := by decide
theorem l_9_1 : ((9 : Int32) = 1) = False := by decide
theorem l_9_2 : ((9 : Int32) = 2) = False := by decide
theorem l_9_3 : ((9 : Int32) = 3) = False := by decide
theorem l_9_4 : ((9 : Int32) = 4) = False := by decide
theorem l_9_5 : ((9 : Int32) = 5) = False := by decide
theorem l_9_6 : ((9 : Int32) = 6) = False := by decide
theorem l_9_7 : ((9 : Int32) = 7) = False := by decide
theorem l_9_8 : ((9 : Int32) = 8) = False := by decide
theorem l_9_10 : ((9 : Int32) = 10) = False := by decide
theorem l_9_11 : ((9 : Int32) = 11) = False := by decide
theorem l_9_12 : ((9 : Int32) = 12) = False := by decide
theorem l_10_0 : ((10 : Int32) = 0) = False := by decide
theorem l_10_1 : ((10 : Int32) = 1) = False := by decide
theorem l_10_2 : ((10 : Int32) = 2) = False := by decide
theorem l_10_3 : ((10 : Int32) = 3) = False := by decide
theorem l_10_4 : ((10 : Int32) = 4) = False := by decide
theorem l_10_5 : ((10 : Int32) = 5) = False := by decide
theorem l_10_6 : ((10 : Int32) = 6) = False := by decide
theorem l_10_7 : ((10 : Int32) = 7) = False := by decide
theorem l_10_8 : ((10 : Int32) = 8) = False := by decide
theorem l_10_9 : ((10 : Int32) = 9) = False := by decide
theorem l_10_11 : ((10 : Int32) = 11) = False := by decide
theorem l_10_12 : ((10 : Int32) = 12) = False := by decide
theorem l_11_0 : ((11 : Int32) = 0) = False := by decide
theorem l_11_1 : ((11 : Int32) = 1) = False := by decide
theorem l_11_2 : ((11 : Int32) = 2) = False := by decide
theorem l_11_3 : ((11 : Int32) = 3) = False := by decide
theorem l_11_4 : ((11 : Int32) = 4) = False := by decide
theorem l_11_5 : ((11 : Int32) = 5) = False := by decide
theorem l_11_6 : ((11 : Int32) = 6) = False := by decide
theorem l_11_7 : ((11 : Int32) = 7) = False := by decide
theorem l_11_8 : ((11 : Int32) = 8) = False := by decide
theorem l_11_9 : ((11 : Int32) = 9) = False := by decide
theorem l_11_10 : ((11 : Int32) = 10) = False := by decide
theorem l_11_12 : ((11 : Int32) = 12) = False := by decide
theorem l_12_0 : ((12 : Int32) = 0) = False := by decide
theorem l_12_1 : ((12 : Int32) = 1) = False := by decide
theorem l_12_2 : ((12 : Int32) = 2) = False := by decide
theorem l_12_3 : ((12 : Int32) = 3) = False := by decide
theorem l_12_4 : ((12 : Int32) = 4) = False := by decide
theorem l_12_5 : ((12 : Int32) = 5) = False := by decide
theorem l_12_6 : ((12 : Int32) = 6) = False := by decide
theorem l_12_7 : ((12 : Int32) = 7) = False := by decide
theorem l_12_8 : ((12 : Int32) = 8) = False := by decide
theorem l_12_9 : ((12 : Int32) = 9) = False := by decide
theorem l_12_10 : ((12 : Int32) = 10) = False := by decide
theorem l_12_11 : ((12 : Int32) = 11) = False := by decide
theorem hv01 (x : Int32) (n : Nat) : hv x n = 0 ∨ hv x n = 1 := by
  unfold hv
  split
  · exact Or.inl rfl
  · split
    · exact Or.inr rfl
    · exact Or.inl rfl
def b2 (S : Bool) : Int32 := if S = true then 1 else 0
/-- whether a condition may be set: a stand's parameter or not, the condition, whether a is a stand, a face -/
def cvF (S : Bool) (c : Nat) (ha hf : Int32) : Int32 := match c with
  | 0 => 1
  | 1 => if S = true then ha else 1
  | 2 => if S = true then 0 else 1
  | 3 => if S = true then ha else 1
  | 4 => if S = true then hf else 0
  | 5 => if S = true then 1 else 0
  | 6 => 1
  | _ => 0
theorem f_takes (ρ : Nat × (Nat → Int32)) (σ : rd_Sg) {sg p : Nat} {x : Int32} (hs : sg < 96) (h : σ 5 sg = nI p) : rd_R ρ 43 0 [some (.ref 1), some (.int (nI sg)), some (.int x)] [] σ = some (hv x p, σ) := by
  rw [q_X3_takes_1, b_chk hs (by decide), nI_clamp (by omega), h]
  rw [hv_ite]
  rcases hv01 x p with h | h
  · rw [h, if_pos rfl]
  · rw [h, if_neg (by decide)]
theorem f_takesStand (ρ : Nat × (Nat → Int32)) (σ : rd_Sg) {sg p sb i : Nat} (hs : sg < 96) (h : σ 5 sg = nI p) (h6 : σ 6 sg = nI sb) (hsb : sb < 2 ^ 31) (hi : i < p) (hp : p ≤ 3) : rd_R ρ 44 0 [some (.ref 1), some (.int (nI sg)), some (.int (nI i))] [] σ = some (b2 (sb.testBit i), σ) := by
  rw [q_X3_takesStand_1, f_takes ρ σ hs h, hv_in hi (by omega)]
  simp only [Option.bind_some, b10, if_false]
  rw [b_chk hs (by decide), nI_clamp (by omega), h6]
  unfold b2
  by_cases hc : sb.testBit i = true
  · rw [if_pos ((bit_is hsb (by omega)).mpr hc), if_pos hc]
  · rw [if_neg (fun q => hc ((bit_is hsb (by omega)).mp q)), if_neg hc]
theorem lit7 {x : Int32} {c : Nat} (h : x = nI c) (hc : c < 7) : (c = 0 ∧ x = 0) ∨ (c = 1 ∧ x = 1) ∨ (c = 2 ∧ x = 2) ∨ (c = 3 ∧ x = 3) ∨ (c = 4 ∧ x = 4) ∨ (c = 5 ∧ x = 5) ∨ (c = 6 ∧ x = 6) := by
  subst h
  match c, hc with
  | 0, _ => exact Or.inl ⟨rfl, by decide⟩
  | 1, _ => exact Or.inr (Or.inl ⟨rfl, by decide⟩)
  | 2, _ => exact Or.inr (Or.inr (Or.inl ⟨rfl, by decide⟩))
  | 3, _ => exact Or.inr (Or.inr (Or.inr (Or.inl ⟨rfl, by decide⟩)))
  | 4, _ => exact Or.inr (Or.inr (Or.inr (Or.inr (Or.inl ⟨rfl, by decide⟩))))
  | 5, _ => exact Or.inr (Or.inr (Or.inr (Or.inr (Or.inr (Or.inl ⟨rfl, by decide⟩)))))
  | 6, _ => exact Or.inr (Or.inr (Or.inr (Or.inr (Or.inr (Or.inr (⟨rfl, by decide⟩))))))
theorem d_isCond_15 (ρ : Nat × (Nat → Int32)) (σ : rd_Sg) {ns nf c : Nat} (S : Bool) {a : Int32} (h91 : σ 9 1 = nI ns) (h10 : σ 1 0 = nI nf) (hc : c < 7) : rd_R ρ 62 0 [some (.ref 15), some (.int (b2 S)), some (.int (nI c)), some (.int a)] [] σ = some (cvF S c (hv a ns) (hv a nf), σ) := by
  have hb : ∀ v : Int32, (v = 0 ∨ v = 1) → (if v = 0 then some ((0 : Int32), σ) else some ((1 : Int32), σ)) = some (v, σ) := by
    rintro v (rfl | rfl)
    · rfl
    · rfl
  have E := q_X5_isCondition_15 ρ σ (b2 S) (nI c) a
  rw [s_has ρ σ a h91, f_has ρ σ a h10] at E
  simp only [Option.bind_some, hb _ (hv01 a ns), hb _ (hv01 a nf)] at E
  rw [E]
  clear E
  generalize hx : nI c = x
  rcases lit7 hx.symm hc with ⟨rfl, rfl⟩ | ⟨rfl, rfl⟩ | ⟨rfl, rfl⟩ | ⟨rfl, rfl⟩ | ⟨rfl, rfl⟩ | ⟨rfl, rfl⟩ | ⟨rfl, rfl⟩
  · simp only [cvF, if_true, if_false]
    try (cases S <;> rfl)
  · simp only [l_1_0, cvF, if_true, if_false]
    try (cases S <;> rfl)
  · simp only [l_2_0, l_2_1, cvF, if_true, if_false]
    try (cases S <;> rfl)
  · simp only [l_3_0, l_3_1, l_3_2, cvF, if_true, if_false]
    try (cases S <;> rfl)
  · simp only [l_4_0, l_4_1, l_4_2, l_4_3, cvF, if_true, if_false]
    try (cases S <;> rfl)
  · simp only [l_5_0, l_5_1, l_5_2, l_5_3, l_5_4, cvF, if_true, if_false]
    try (cases S <;> rfl)
  · simp only [l_6_0, l_6_1, l_6_2, l_6_3, l_6_4, l_6_5, cvF, if_true, if_false]
    try (cases S <;> rfl)
theorem d_isCond_no_15 (ρ : Nat × (Nat → Int32)) (σ : rd_Sg) {x y a : Int32} (h : hv x 7 = 0) : rd_R ρ 62 0 [some (.ref 15), some (.int y), some (.int x), some (.int a)] [] σ = some (0, σ) := by
  have hne : ∀ k : Nat, k < 7 → ¬ x = nI k := fun k hk e => by
    rw [e, hv_in hk (by decide)] at h; cases h
  rw [q_X5_isCondition_15, if_neg (fun e => hne 0 (by decide) (e.trans (by decide))), if_neg (fun e => hne 1 (by decide) (e.trans (by decide))), if_neg (fun e => hne 2 (by decide) (e.trans (by decide))), if_neg (fun e => hne 3 (by decide) (e.trans (by decide))), if_neg (fun e => hne 4 (by decide) (e.trans (by decide))), if_neg (fun e => hne 5 (by decide) (e.trans (by decide))), if_neg (fun e => hne 6 (by decide) (e.trans (by decide)))]
theorem d_isCond_34 (ρ : Nat × (Nat → Int32)) (σ : rd_Sg) {ns nf c : Nat} (S : Bool) {a : Int32} (h91 : σ 9 1 = nI ns) (h10 : σ 1 0 = nI nf) (hc : c < 7) : rd_R ρ 62 0 [some (.ref 34), some (.int (b2 S)), some (.int (nI c)), some (.int a)] [] σ = some (cvF S c (hv a ns) (hv a nf), σ) := by
  have hb : ∀ v : Int32, (v = 0 ∨ v = 1) → (if v = 0 then some ((0 : Int32), σ) else some ((1 : Int32), σ)) = some (v, σ) := by
    rintro v (rfl | rfl)
    · rfl
    · rfl
  have E := q_X5_isCondition_34 ρ σ (b2 S) (nI c) a
  rw [s_has ρ σ a h91, f_has ρ σ a h10] at E
  simp only [Option.bind_some, hb _ (hv01 a ns), hb _ (hv01 a nf)] at E
  rw [E]
  clear E
  generalize hx : nI c = x
  rcases lit7 hx.symm hc with ⟨rfl, rfl⟩ | ⟨rfl, rfl⟩ | ⟨rfl, rfl⟩ | ⟨rfl, rfl⟩ | ⟨rfl, rfl⟩ | ⟨rfl, rfl⟩ | ⟨rfl, rfl⟩
  · simp only [cvF, if_true, if_false]
    try (cases S <;> rfl)
  · simp only [l_1_0, cvF, if_true, if_false]
    try (cases S <;> rfl)
  · simp only [l_2_0, l_2_1, cvF, if_true, if_false]
    try (cases S <;> rfl)
  · simp only [l_3_0, l_3_1, l_3_2, cvF, if_true, if_false]
    try (cases S <;> rfl)
  · simp only [l_4_0, l_4_1, l_4_2, l_4_3, cvF, if_true, if_false]
    try (cases S <;> rfl)
  · simp only [l_5_0, l_5_1, l_5_2, l_5_3, l_5_4, cvF, if_true, if_false]
    try (cases S <;> rfl)
  · simp only [l_6_0, l_6_1, l_6_2, l_6_3, l_6_4, l_6_5, cvF, if_true, if_false]
    try (cases S <;> rfl)
theorem d_isCond_no_34 (ρ : Nat × (Nat → Int32)) (σ : rd_Sg) {x y a : Int32} (h : hv x 7 = 0) : rd_R ρ 62 0 [some (.ref 34), some (.int y), some (.int x), some (.int a)] [] σ = some (0, σ) := by
  have hne : ∀ k : Nat, k < 7 → ¬ x = nI k := fun k hk e => by
    rw [e, hv_in hk (by decide)] at h; cases h
  rw [q_X5_isCondition_34, if_neg (fun e => hne 0 (by decide) (e.trans (by decide))), if_neg (fun e => hne 1 (by decide) (e.trans (by decide))), if_neg (fun e => hne 2 (by decide) (e.trans (by decide))), if_neg (fun e => hne 3 (by decide) (e.trans (by decide))), if_neg (fun e => hne 4 (by decide) (e.trans (by decide))), if_neg (fun e => hne 5 (by decide) (e.trans (by decide))), if_neg (fun e => hne 6 (by decide) (e.trans (by decide)))]
theorem m_methodAt (ρ : Nat × (Nat → Int32)) (σ : rd_Sg) {s m f : Nat} (hs : s < 24) (hf : σ 71 s = nI f) : rd_R ρ 146 0 [some (.ref 64), some (.int (nI s)), some (.int (nI m))] [] σ = some (nI (8 * f + m), σ) := by
  rw [q_M_methodAt_64, b_chk hs (by decide), nI_clamp (by omega), hf, ixl (kk := 8) (by decide)]
theorem m_isSP (ρ : Nat × (Nat → Int32)) (σ : rd_Sg) {s m f sb i : Nat} (hs : s < 24) (hf : σ 71 s = nI f) (hfm : 8 * f + m < 96) (h68 : σ 68 (8 * f + m) = nI sb) (hsb : sb < 2 ^ 31) (hi : i < 31) : rd_R ρ 147 0 [some (.ref 64), some (.int (nI s)), some (.int (nI m)), some (.int (nI i))] [] σ = some (b2 (sb.testBit i), σ) := by
  rw [q_M_isStandParameter_64, m_methodAt ρ σ hs hf]
  simp only [Option.bind_some]
  rw [b_chk hfm (by decide), nI_clamp (by omega), h68]
  unfold b2
  by_cases hc : sb.testBit i = true
  · rw [if_pos ((bit_is hsb hi).mpr hc), if_pos hc]
  · rw [if_neg (fun q => hc ((bit_is hsb hi).mp q)), if_neg hc]
/-- the model sets a condition -/
def w3 (σ : rd_Sg) (j : Nat) (c a b : Int32) : rd_Sg := rd_u (rd_u (rd_u σ 76 j c) 77 j a) 78 j b
theorem m_put (ρ : Nat × (Nat → Int32)) (σ : rd_Sg) {t s m f p sb ns nf : Nat} {x2 x3 a b : Int32} (ht : t < 120) (h74 : σ 74 t = nI s) (h75 : σ 75 t = nI m) (hs : s < 24) (hf : σ 71 s = nI f) (hfm : 8 * f + m < 96) (h67 : σ 67 (8 * f + m) = nI p) (hp : p ≤ 3) (h68 : σ 68 (8 * f + m) = nI sb) (hsb : sb < 2 ^ 31) (h647 : σ 64 7 = nI ns) (hns : ns ≤ 24) (h640 : σ 64 0 = nI nf) (hnf : nf ≤ 12) :
    (hv x2 p = 0 ∨ hv x3 7 = 0 → rd_R ρ 149 0 [some (.ref 64), some (.int (nI t)), some (.int x2), some (.int x3), some (.int a), some (.int b), none, none] [] σ = some (-1, σ)) ∧
    ∀ i c, i < p → c < 7 → x2 = nI i → x3 = nI c → rd_R ρ 149 0 [some (.ref 64), some (.int (nI t)), some (.int x2), some (.int x3), some (.int a), some (.int b), none, none] [] σ = if cvF (sb.testBit i) c (hv a ns) (hv a nf) = 0 then some (-1, σ) else some (1, w3 σ (3 * t + i) x3 a b) := by
  have E := q_M_putCondition_64 ρ σ (nI t) x2 x3 a b
  rw [b_chk ht (by decide), b_chk ht (by decide), nI_clamp (by omega), h74, h75, m_methodAt ρ σ hs hf] at E
  simp only [Option.bind_some] at E
  rw [b_chk hfm (by decide), nI_clamp (by omega), h67, m_in0 ρ σ x2 (by omega)] at E
  simp only [Option.bind_some] at E
  rw [m_inc ρ σ x3 6 (n := 7) (by decide) (by decide)] at E
  simp only [Option.bind_some, h75] at E
  constructor
  · rintro (h | h)
    · rw [E, if_pos h]
    · rw [E]
      by_cases q : hv x2 p = 0
      · rw [if_pos q]
      · rw [if_neg q, if_pos h]
  · intro i c hi hc e2 e3
    subst e2
    rw [E, hv_in hi (by omega), if_neg (by decide)]
    have hc7 : hv x3 7 = 1 := by rw [e3]; exact hv_in hc (by decide)
    rw [hc7, if_neg (by decide), b_chk ht (by decide), m_isSP ρ σ hs hf hfm h68 hsb (by omega)]
    have E76 : ∀ o6 o7, rd_R ρ 149 76 [some (.ref 64), some (.int (nI t)), some (.int (nI i)), some (.int x3), some (.int a), some (.int b), o6, o7] [] σ = some (1, w3 σ (3 * t + i) x3 a b) := fun o6 o7 => by
      rw [q_M_putCondition_64_at76, ixl (kk := 3) (by decide), b_chk (by omega) (by decide), b_chk (by omega) (by decide), b_chk (by omega) (by decide), nI_clamp (by omega)]
      rfl
    have E63 : ∀ o6 o7, rd_R ρ 149 63 [some (.ref 64), some (.int (nI t)), some (.int (nI i)), some (.int x3), some (.int a), some (.int b), o6, o7] [] σ = if x3 = 4 then (if hv a nf = 0 then some (-1, σ) else some (1, w3 σ (3 * t + i) x3 a b)) else some (1, w3 σ (3 * t + i) x3 a b) := fun o6 o7 => by
      rw [q_M_putCondition_64_at63, h640, m_in0 ρ σ a (by omega)]
      simp only [Option.bind_some, E76]
    have E51 : ∀ o6 x7, rd_R ρ 149 51 [some (.ref 64), some (.int (nI t)), some (.int (nI i)), some (.int x3), some (.int a), some (.int b), o6, some (.int x7)] [] σ = if x7 = 0 then (if x3 = 4 then (if hv a nf = 0 then some (-1, σ) else some (1, w3 σ (3 * t + i) x3 a b)) else some (1, w3 σ (3 * t + i) x3 a b)) else if x3 = 1 then (if hv a ns = 0 then some (-1, σ) else (if x3 = 4 then (if hv a nf = 0 then some (-1, σ) else some (1, w3 σ (3 * t + i) x3 a b)) else some (1, w3 σ (3 * t + i) x3 a b))) else if x3 = 3 then (if hv a ns = 0 then some (-1, σ) else (if x3 = 4 then (if hv a nf = 0 then some (-1, σ) else some (1, w3 σ (3 * t + i) x3 a b)) else some (1, w3 σ (3 * t + i) x3 a b))) else (if x3 = 4 then (if hv a nf = 0 then some (-1, σ) else some (1, w3 σ (3 * t + i) x3 a b)) else some (1, w3 σ (3 * t + i) x3 a b)) := fun o6 x7 => by
      rw [q_M_putCondition_64_at51]
      simp only [E63, q_M_putCondition_64_at59, m_isStand ρ σ a h647 (show ns < 2 ^ 30 by omega), Option.bind_some]
    simp only [Option.bind_some, E51]
    clear E E76 E63 E51
    generalize hS : sb.testBit i = S
    rcases lit7 e3 hc with ⟨rfl, rfl⟩ | ⟨rfl, rfl⟩ | ⟨rfl, rfl⟩ | ⟨rfl, rfl⟩ | ⟨rfl, rfl⟩ | ⟨rfl, rfl⟩ | ⟨rfl, rfl⟩
    · simp only [l_0_1, l_0_2, l_0_3, l_0_4, l_0_5, cvF, if_true, if_false]
      try (cases S <;> simp only [b2, Bool.false_eq_true, if_true, if_false, b10])
    · simp only [l_1_2, l_1_3, l_1_4, l_1_5, cvF, if_true, if_false]
      try (cases S <;> simp only [b2, Bool.false_eq_true, if_true, if_false, b10])
    · simp only [l_2_1, l_2_3, l_2_4, l_2_5, cvF, if_true, if_false]
      try (cases S <;> simp only [b2, Bool.false_eq_true, if_true, if_false, b10])
    · simp only [l_3_1, l_3_2, l_3_4, l_3_5, cvF, if_true, if_false]
      try (cases S <;> simp only [b2, Bool.false_eq_true, if_true, if_false, b10])
    · simp only [l_4_1, l_4_2, l_4_3, l_4_5, cvF, if_true, if_false]
      try (cases S <;> simp only [b2, Bool.false_eq_true, if_true, if_false, b10])
    · simp only [l_5_1, l_5_2, l_5_3, l_5_4, cvF, if_true, if_false]
      try (cases S <;> simp only [b2, Bool.false_eq_true, if_true, if_false, b10])
    · simp only [l_6_1, l_6_2, l_6_3, l_6_4, l_6_5, cvF, if_true, if_false]
      try (cases S <;> simp only [b2, Bool.false_eq_true, if_true, if_false, b10])
