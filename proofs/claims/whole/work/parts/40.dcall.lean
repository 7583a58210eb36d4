variable {B : Nat}
/-! a call, the desk's side -/
/-- a method's numbers -/
def SD (pa sb gv fl : Nat → Int32) (sg p b g : Nat) (F : Int32) : Prop := sg < 96 ∧ p ≤ 3 ∧ b < 2 ^ p ∧ g ≤ 2 ∧ pa sg = nI p ∧ sb sg = nI b ∧ gv sg = nI g ∧ fl sg = F
theorem SD.b8 {pa sb gv fl : Nat → Int32} {sg p b g : Nat} {F : Int32} (h : SD pa sb gv fl sg p b g F) : b < 8 := Nat.lt_of_lt_of_le h.2.2.1 (Nat.pow_le_pow_right (n := 2) (by decide) h.2.1)
theorem SD.bit {pa sb gv fl : Nat → Int32} {sg p b g i : Nat} {F : Int32} (h : SD pa sb gv fl sg p b g F) (hi : b.testBit i = true) : i < p := by
  rcases Nat.lt_or_ge i p with q | q
  · exact q
  · rw [Nat.testBit_lt_two_pow (Nat.lt_of_lt_of_le h.2.2.1 (Nat.pow_le_pow_right (n := 2) (by decide) q))] at hi
    cases hi
theorem hv_nI {i p : Nat} (hi : i < 2 ^ 31) (hp : p < 2 ^ 31) : hv (nI i) p = if i < p then 1 else 0 := by
  unfold hv
  rw [if_neg (nI_pos hi)]
  by_cases h : i < p
  · rw [if_pos h, if_pos (nI_lt h hp)]
  · rw [if_neg h, if_neg (fun q => h ((p_lt rfl hi hp).mp q))]
theorem d_ts (ρ : Nat × (Nat → Int32)) (σ : rd_Sg) {sg p b g i : Nat} {F : Int32} (h : SD (σ 5) (σ 6) (σ 7) (σ 8) sg p b g F) (hi : i < 3) : rd_R ρ 44 0 [some (.ref 1), some (.int (nI sg)), some (.int (nI i))] [] σ = some (b2 (b.testBit i), σ) := by
  have hb := h.b8
  have hbit := fun q => h.bit (i := i) q
  obtain ⟨h1, h2, h3, h4, h5, h6, h7, h8⟩ := h
  by_cases q : i < p
  · exact f_takesStand ρ σ h1 h5 h6 (by omega) q h2
  · rw [q_X3_takesStand_1, f_takes ρ σ h1 h5, hv_nI (by omega) (by omega), if_neg q]
    have : b.testBit i = false := by
      cases e : b.testBit i
      · rfl
      · exact absurd (hbit e) q
    rw [this]
    rfl
/-- what a whole adds to the sum -/
def wF (p b i : Nat) (x : Int32) : Int32 := if i < p ∧ b.testBit i = false then x else 0
def smF (p b : Nat) (x : Nat → Int32) : Int32 := wF p b 0 (x 0) + wF p b 1 (x 1) + wF p b 2 (x 2)
theorem i_add0 (x : Int32) : x + 0 = x := by simp
theorem i_0add (x : Int32) : 0 + x = x := by simp
theorem d_bring (ρ : Nat × (Nat → Int32)) (σ : rd_Sg) {sg p b g i : Nat} {F : Int32} (x : Int32) (h : SD (σ 5) (σ 6) (σ 7) (σ 8) sg p b g F) (hi : i < 3) (h6 : σ 31 6 = nI sg) : rd_R ρ 78 0 [some (.ref 31), some (.int (nI i)), some (.int x)] [] σ = some (0, rd_uc (rd_uc σ 30 (if i < p then upd (σ 30) (2 + i) x else σ 30)) 31 (upd (σ 31) 7 (σ 31 7 + wF p b i x))) := by
  have h' := h
  obtain ⟨h1, h2, h3, h4, h5, hh6, h7, h8⟩ := h
  rw [q_X7_bring_31, h6, f_takes ρ σ h1 h5, hv_nI (by omega) (by omega)]
  simp only [Option.bind_some]
  by_cases q : i < p
  · rw [if_pos q, if_neg (by decide), if_pos q, show (2 : Int32) = nI 2 by decide, nI_add, b_chk (show 2 + i < 9 by omega) (by decide), nI_clamp (by omega), h6, d_ts ρ _ (p := p) (b := b) (g := g) (F := F) (by rw [b_une (by decide), b_une (by decide), b_une (by decide), b_une (by decide)]; exact h') hi]
    simp only [Option.bind_some]
    unfold wF
    cases e : b.testBit i
    · rw [show b2 false = 0 from rfl, if_pos rfl, if_pos ⟨q, rfl⟩]
      congr 2
      funext c j
      simp only [rd_u, rd_uc, upd]
      grind
    · rw [show b2 true = 1 from rfl, if_neg (by decide), if_neg (by simp), i_add0]
      congr 2
      funext c j
      simp only [rd_u, rd_uc, upd]
      grind
  · unfold wF
    rw [if_neg q, if_pos rfl, if_neg q, if_neg (fun w => q w.1), i_add0]
    congr 2
    funext c j
    simp only [rd_u, rd_uc, upd]
    grind
/-- the row of a call that has come -/
def rowF (f : Nat → Int32) (s m p : Nat) (x : Nat → Int32) : Nat → Int32 := fun j => if j = 0 then nI s else if j = 1 then nI m else if j < 5 then (if j - 2 < p then x (j - 2) else 0) else f j
def stF (f : Nat → Int32) (sg : Nat) (sm : Int32) : Nat → Int32 := fun j => if j = 6 then nI sg else if j = 7 then sm else f j
theorem d_begin (ρ : Nat × (Nat → Int32)) (σ : rd_Sg) {s m sg : Nat} : rd_R ρ 77 0 [some (.ref 31), some (.int (nI s)), some (.int (nI m)), some (.int (nI sg)), none] [] σ = some (0, rd_uc (rd_uc σ 30 (rowF (σ 30) s m 0 (σ 30))) 31 (stF (σ 31) sg 0)) := by
  have c0 : (2 : Int32) + 0 = nI 2 := by decide
  have c1 : (2 : Int32) + (0 + 1) = nI 3 := by decide
  have c2 : (2 : Int32) + (0 + 1 + 1) = nI 4 := by decide
  rw [q_X7_begin_31, q_X7_begin_31_at18, if_pos (by decide), c0, b_chk (by decide) (by decide), q_X7_begin_31_at18, if_pos (by decide), c1, b_chk (by decide) (by decide), q_X7_begin_31_at18, if_pos (by decide), c2, b_chk (by decide) (by decide), q_X7_begin_31_at18, if_neg (by decide)]
  rw [nI_clamp (by decide), nI_clamp (by decide), nI_clamp (by decide)]
  congr 2
  funext c j
  simp only [rd_u, rd_uc, upd, rowF, stF]
  grind (splits := 40)
/-- all that comes has come -/
def rdyF (σ : rd_Sg) (s m sg p b : Nat) (x : Nat → Int32) : rd_Sg := rd_uc (rd_uc σ 30 (rowF (σ 30) s m p x)) 31 (stF (σ 31) sg (smF p b x))
theorem d_b1 (ρ : Nat × (Nat → Int32)) (σ : rd_Sg) {s m sg p b g i : Nat} {F : Int32} {q : Nat} {x y : Nat → Int32} {sm : Int32} (h : SD (σ 5) (σ 6) (σ 7) (σ 8) sg p b g F) (hi : i < 3) (hq : q = min i p) (hy : ∀ j, j < i → x j = y j) :
    rd_R ρ 78 0 [some (.ref 31), some (.int (nI i)), some (.int (x i))] [] (rd_uc (rd_uc σ 30 (rowF (σ 30) s m q y)) 31 (stF (σ 31) sg sm)) = some (0, rd_uc (rd_uc σ 30 (rowF (σ 30) s m (min (i + 1) p) x)) 31 (stF (σ 31) sg (sm + wF p b i (x i)))) := by
  rw [d_bring ρ _ (p := p) (b := b) (g := g) (F := F) (sg := sg) (x i) (by rw [b_ucne (by decide), b_ucne (by decide), b_ucne (by decide), b_ucne (by decide), b_ucne (by decide), b_ucne (by decide), b_ucne (by decide), b_ucne (by decide)]; exact h) hi (by rw [b_uceq]; rfl)]
  have hy2 : ∀ j, j - 2 < i → x (j - 2) = y (j - 2) := fun j z => hy _ z
  congr 2
  by_cases w : i < p
  · rw [if_pos w]
    funext c j
    have := hy2 j
    simp only [rd_uc, upd, rowF, stF, hq]
    grind (splits := 40)
  · rw [if_neg w]
    funext c j
    have := hy2 j
    simp only [rd_uc, upd, rowF, stF, hq]
    grind (splits := 40)
theorem d_ready (ρ : Nat × (Nat → Int32)) (σ : rd_Sg) {s m sg p b g : Nat} {F : Int32} (x : Nat → Int32) (h : SD (σ 5) (σ 6) (σ 7) (σ 8) sg p b g F) :
    (((rd_R ρ 77 0 [some (.ref 31), some (.int (nI s)), some (.int (nI m)), some (.int (nI sg)), none] [] σ).bind fun q8 => (rd_R ρ 78 0 [some (.ref 31), some (.int (nI 0)), some (.int (x 0))] [] q8.2).bind fun q9 => (rd_R ρ 78 0 [some (.ref 31), some (.int (nI 1)), some (.int (x 1))] [] q9.2).bind fun q10 => rd_R ρ 78 0 [some (.ref 31), some (.int (nI 2)), some (.int (x 2))] [] q10.2)) = some (0, rdyF σ s m sg p b x) := by
  have hp := h.2.1
  rw [d_begin ρ σ]
  simp only [Option.bind_some]
  rw [d_b1 ρ σ (x := x) h (i := 0) (by decide) (by omega) (fun j hj => absurd hj (by omega))]
  simp only [Option.bind_some]
  rw [d_b1 ρ σ (x := x) h (i := 1) (by decide) (by omega) (fun j hj => rfl)]
  simp only [Option.bind_some]
  rw [d_b1 ρ σ (x := x) h (i := 2) (by decide) (by omega) (fun j hj => rfl)]
  unfold rdyF smF
  rw [i_0add, show min (2 + 1) p = p by omega]
