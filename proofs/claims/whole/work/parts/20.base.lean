/-! Layer 3, base: reading changed numbers; ranges; the smallest methods. -/
theorem b_chk {α : Type} {m n : Nat} {x : Option α} (hm : m < n) (hn : n < 2 ^ 31) : rd_chk (nI m) n x = x := rd_chk_in rfl hm hn
theorem b_une {σ : rd_Sg} {c j : Nat} {x : Int32} {c' : Nat} (h : c' ≠ c) : rd_u σ c j x c' = σ c' := rd_u_o c' h
theorem b_ueq {σ : rd_Sg} {c j : Nat} {x : Int32} : rd_u σ c j x c = upd (σ c) j x := rd_u_c
theorem b_ucne {σ : rd_Sg} {c : Nat} {f : Nat → Int32} {c' : Nat} (h : c' ≠ c) : rd_uc σ c f c' = σ c' := rd_uc_o c' h
theorem b_uceq {σ : rd_Sg} {c : Nat} {f : Nat → Int32} : rd_uc σ c f c = f := rd_uc_c
theorem b_ups {f : Nat → Int32} {k : Nat} {x : Int32} : upd f k x k = x := pk_us
theorem b_upn {f : Nat → Int32} {k j : Nat} {x : Int32} (h : j ≠ k) : upd f k x j = f j := pk_un h
/-- whether x is one of 0 .. n - 1 -/
def hv (x : Int32) (n : Nat) : Int32 := if x < 0 then 0 else if x < nI n then 1 else 0
theorem hv_neg {x : Int32} {n : Nat} (h : x < 0) : hv x n = 0 := if_pos h
theorem hv_big {x : Int32} {n : Nat} (h : nI n ≤ x) : hv x n = 0 := by
  unfold hv
  split
  · rfl
  · rw [if_neg (Int32.not_lt.mpr h)]
theorem hv_in {j n : Nat} (h : j < n) (hn : n < 2 ^ 31) : hv (nI j) n = 1 := by
  unfold hv
  rw [if_neg (nI_pos (by omega)), if_pos (nI_lt h hn)]
theorem hv_and (x : Int32) (n : Nat) : hv x n &&& 1 = hv x n := by
  unfold hv
  split
  · decide
  · split <;> decide
/-- x is one of 0 .. n - 1, or not -/
theorem hv_ix (x : Int32) {n : Nat} (hn : n < 2 ^ 31) : hv x n = 0 ∨ ∃ j : Nat, j < n ∧ x = nI j := by
  rcases pk_ix x hn with h | h | h
  · exact Or.inl (hv_neg h)
  · exact Or.inl (hv_big h)
  · exact Or.inr h
theorem b_pred {n : Nat} (hn : n < 2 ^ 30) : (nI n - 1).toInt = (n : Int) - 1 := by
  have h := pk_sub_toInt (a := n) (b := 1) hn (by decide)
  rw [show nI 1 = (1 : Int32) by decide] at h
  rw [h]
  rfl
theorem b_hi {x : Int32} {n : Nat} (hn : n < 2 ^ 30) : nI n - 1 < x ↔ ¬ x < nI n := by
  rw [Int32.lt_iff_toInt_lt, Int32.lt_iff_toInt_lt, b_pred hn, nI_toInt (by omega)]
  omega
theorem m_in0 (ρ : Nat × (Nat → Int32)) (σ : rd_Sg) (x : Int32) {n : Nat} (hn : n < 2 ^ 30) : rd_R ρ 137 0 [some (.int x), some (.int 0), some (.int (nI n - 1))] [] σ = some (hv x n, σ) := by
  rw [q_M_in]
  unfold hv
  by_cases h : x < 0
  · rw [if_pos h, if_pos h]
  · rw [if_neg h, if_neg h]
    by_cases h2 : x < nI n
    · rw [if_neg (fun q => (b_hi hn).mp q h2), if_pos h2]
    · rw [if_pos ((b_hi hn).mpr h2), if_neg h2]
/-- in(x, lo, hi) for small numbers -/
theorem m_inc (ρ : Nat × (Nat → Int32)) (σ : rd_Sg) (x h : Int32) {n : Nat} (hh : h = nI n - 1) (hn : n < 2 ^ 30) : rd_R ρ 137 0 [some (.int x), some (.int 0), some (.int h)] [] σ = some (hv x n, σ) := by
  rw [hh]; exact m_in0 ρ σ x hn
theorem f_has (ρ : Nat × (Nat → Int32)) (σ : rd_Sg) (x : Int32) {n : Nat} (h : σ 1 0 = nI n) : rd_R ρ 34 0 [some (.ref 1), some (.int x)] [] σ = some (hv x n, σ) := by
  rw [q_X3_has_1, h]
  unfold hv
  split
  · rfl
  · split <;> rfl
theorem s_has (ρ : Nat × (Nat → Int32)) (σ : rd_Sg) (x : Int32) {n : Nat} (h : σ 9 1 = nI n) : rd_R ρ 88 0 [some (.ref 9), some (.int x)] [] σ = some (hv x n, σ) := by
  rw [q_X8_has_9, h]
  unfold hv
  split
  · rfl
  · split <;> rfl
theorem m_isStand (ρ : Nat × (Nat → Int32)) (σ : rd_Sg) (x : Int32) {n : Nat} (h : σ 64 7 = nI n) (hn : n < 2 ^ 30) : rd_R ρ 142 0 [some (.ref 64), some (.int x)] [] σ = some (hv x n, σ) := by
  rw [q_M_isStand_64, h, m_in0 ρ σ x hn]
  show some (hv x n &&& 1, σ) = _
  rw [hv_and]
/-! the invariant, group by group -/
def PK (a b c d : Int32) : Prop := ∃ p sb g fl : Nat, a = nI p ∧ p ≤ 3 ∧ b = nI sb ∧ sb < 2 ^ p ∧ c = nI g ∧ g ≤ 2 ∧ d = nI fl ∧ fl ≤ 255
/-- faces: methods me, their parts pa sb gv fl, what each is below bel -/
def JF (nf : Nat) (me pa sb gv fl bel : Nat → Int32) : Prop :=
  nf ≤ 12 ∧ (∀ j, j < 96 → PK (pa j) (sb j) (gv j) (fl j)) ∧
  (∀ f, f < 12 → ∃ m, m ≤ 8 ∧ me f = nI m ∧ (nf ≤ f → m = 0) ∧ ∀ j, m ≤ j → j < 8 → pa (8 * f + j) = 0 ∧ sb (8 * f + j) = 0 ∧ gv (8 * f + j) = 0 ∧ fl (8 * f + j) = 0) ∧
  (∀ f, f < nf → bel f = -1 ∨ ∃ g, g < f ∧ bel f = nI g)
def bt (x : Int32) (g : Nat) : Prop := x.toNatClampNeg.testBit g = true
def JL (nf : Nat) (bel lin : Nat → Int32) : Prop := ∀ f, f < nf → ∃ b, lin f = nI b ∧ b < 4096 ∧ ∀ g, b.testBit g = true ↔ (g = f ∨ ∃ p, p < f ∧ bel f = nI p ∧ bt (lin p) g)
def JX (nf ns : Nat) (bel sf fix : Nat → Int32) : Prop := ∀ f, f < 12 → (fix f = 1 ∧ ((∃ g, g < nf ∧ bel g = nI f) ∨ ∃ s, s < ns ∧ sf s = nI f)) ∨ (fix f = 0 ∧ ¬ ((∃ g, g < nf ∧ bel g = nI f) ∨ ∃ s, s < ns ∧ sf s = nI f))
def JS (nf ns : Nat) (sf st sl lin nb : Nat → Int32) : Prop :=
  ns ≤ 24 ∧ (∀ s, s < ns → (∃ f, f < nf ∧ sf s = nI f ∧ sl s = lin f) ∧ (st s = -1 ∨ ∃ t, t < 6 ∧ st s = nI t)) ∧ ∀ s, nb s = 0 ∨ nb s = 1
