/-- whoever has f above it: f itself, or f has a face below it -/
theorem anc_child {nf : Nat} {bel lin : Nat → Int32} (hL : JL nf bel lin) (hnf : nf ≤ 12) {f : Nat} : ∀ (n h : Nat), h < n → h < nf → bt (lin h) f → f = h ∨ ∃ g, g < nf ∧ bel g = nI f := by
  intro n
  induction n with
  | zero => intro h h1; omega
  | succ n ih =>
    intro h h1 h2 h3
    obtain ⟨b, k1, k2, k3⟩ := hL h h2
    rw [k1, bt_nI (by omega)] at h3
    rcases (k3 f).mp h3 with e | ⟨p, hp, e1, e2⟩
    · exact Or.inl e
    · right
      rcases ih p (by omega) (by omega) e2 with e | e
      · exact ⟨h, h2, by rw [e]; exact e1⟩
      · exact e
theorem m_used1 (ρ : Nat × (Nat → Int32)) (σ : rd_Sg) {nf f : Nat} (hnf : nf ≤ 12) (h0 : σ 64 0 = nI nf) (x2 x3 x4 x5 : Int32) : ∀ (d j u : Nat), j + d = nf → u ≤ 1 → ∃ u' : Nat, u' ≤ 1 ∧ (u' = 1 ↔ u = 1 ∨ ∃ g, j ≤ g ∧ g < nf ∧ σ 65 g = nI f) ∧
    rd_R ρ 140 38 [some (.ref 64), some (.int (nI f)), some (.int x2), some (.int x3), some (.int x4), some (.int x5), some (.int (nI u)), some (.int (nI j))] [] σ = rd_R ρ 140 58 [some (.ref 64), some (.int (nI f)), some (.int x2), some (.int x3), some (.int x4), some (.int x5), some (.int (nI u')), some (.int 0)] [] σ := by
  intro d
  induction d with
  | zero =>
    intro j u hj hu
    refine ⟨u, hu, ⟨fun h => Or.inl h, ?_⟩, ?_⟩
    · rintro (h | ⟨g, h1, h2, -⟩)
      · exact h
      · omega
    · rw [q_M_method_64_at38, h0, if_neg (nI_nlt (by omega) (by omega))]
  | succ d ih =>
    intro j u hj hu
    rw [q_M_method_64_at38, h0, if_pos (nI_lt (by omega) (by omega))]
    have step : ∀ w : Nat, w ≤ 1 → (w = 1 ↔ u = 1 ∨ σ 65 j = nI f) → ∃ u' : Nat, u' ≤ 1 ∧ (u' = 1 ↔ u = 1 ∨ ∃ g, j ≤ g ∧ g < nf ∧ σ 65 g = nI f) ∧ rd_R ρ 140 38 [some (.ref 64), some (.int (nI f)), some (.int x2), some (.int x3), some (.int x4), some (.int x5), some (.int (nI w)), some (.int (nI (j + 1)))] [] σ = rd_R ρ 140 58 [some (.ref 64), some (.int (nI f)), some (.int x2), some (.int x3), some (.int x4), some (.int x5), some (.int (nI u')), some (.int 0)] [] σ := by
      intro w hw hwi
      obtain ⟨u', k1, k2, k3⟩ := ih (j + 1) w (by omega) hw
      refine ⟨u', k1, ?_, k3⟩
      rw [k2, hwi]
      constructor
      · rintro ((h | h) | ⟨g, h1, h2, h3⟩)
        · exact Or.inl h
        · exact Or.inr ⟨j, Nat.le_refl _, by omega, h⟩
        · exact Or.inr ⟨g, by omega, h2, h3⟩
      · rintro (h | ⟨g, h1, h2, h3⟩)
        · exact Or.inl (Or.inl h)
        · by_cases e : g = j
          · subst e; exact Or.inl (Or.inr h3)
          · exact Or.inr ⟨g, by omega, h2, h3⟩
    by_cases hu0 : u = 0
    · subst hu0
      rw [if_pos (show nI 0 = 0 from by decide), b_chk (by omega) (by decide), nI_clamp (by omega)]
      by_cases hc : σ 65 j = nI f
      · rw [if_pos hc, q_M_method_64_at50, q_M_method_64_at53, nI_1]
        exact step 1 (by omega) (by simp [hc])
      · rw [if_neg hc, q_M_method_64_at53, nI_1]
        exact step 0 (by omega) (by simp [hc])
    · have : u = 1 := by omega
      subst this
      rw [if_neg (show ¬ nI 1 = 0 from by decide), q_M_method_64_at50, q_M_method_64_at53, nI_1]
      exact step 1 (by omega) (by simp)
/-- behind both loops -/
noncomputable def mEnd (σ : rd_Sg) (f : Nat) (x2 x3 x4 x5 : Int32) (u : Nat) : Option (Int32 × rd_Sg) :=
  if nI u = 0 then (rd_chk (nI f) 12 (if (σ 66 (nI f).toNatClampNeg) = 8 then some (((-3) : Int32), σ) else (rd_chk (nI f) 12 (rd_chk ((8 * nI f) + (σ 66 (nI f).toNatClampNeg)) 96 (rd_chk ((8 * nI f) + (σ 66 (nI f).toNatClampNeg)) 96 (rd_chk ((8 * nI f) + (σ 66 (nI f).toNatClampNeg)) 96 (rd_chk ((8 * nI f) + (σ 66 (nI f).toNatClampNeg)) 96 (rd_chk (nI f) 12 (rd_chk (nI f) 12 (rd_chk (nI f) 12 (some ((((σ 66 (nI f).toNatClampNeg) + 1) - 1), (rd_u (rd_u (rd_u (rd_u (rd_u σ 67 ((8 * nI f) + (σ 66 (nI f).toNatClampNeg)).toNatClampNeg x2) 68 ((8 * nI f) + (σ 66 (nI f).toNatClampNeg)).toNatClampNeg x3) 69 ((8 * nI f) + (σ 66 (nI f).toNatClampNeg)).toNatClampNeg x4) 70 ((8 * nI f) + (σ 66 (nI f).toNatClampNeg)).toNatClampNeg x5) 66 (nI f).toNatClampNeg ((σ 66 (nI f).toNatClampNeg) + 1)))))))))))))) else some (((-2) : Int32), σ)
theorem m_used2 (ρ : Nat × (Nat → Int32)) (σ : rd_Sg) {nf ns f : Nat} (hnf : nf ≤ 12) (hf : f < nf) (hns : ns ≤ 24) (h7 : σ 64 7 = nI ns) (hb : ∀ f, f < nf → σ 65 f = -1 ∨ ∃ g, g < f ∧ σ 65 f = nI g) (hL : JL nf (σ 65) (σ 3)) (hst : ∀ s, s < ns → ∃ f, f < nf ∧ σ 71 s = nI f) (x2 x3 x4 x5 : Int32) : ∀ (d j u : Nat), j + d = ns → u ≤ 1 → ∃ u' : Nat, u' ≤ 1 ∧ (u' = 1 ↔ u = 1 ∨ ∃ s h, j ≤ s ∧ s < ns ∧ h < nf ∧ σ 71 s = nI h ∧ bt (σ 3 h) f) ∧
    rd_R ρ 140 58 [some (.ref 64), some (.int (nI f)), some (.int x2), some (.int x3), some (.int x4), some (.int x5), some (.int (nI u)), some (.int (nI j))] [] σ = mEnd σ f x2 x3 x4 x5 u' := by
  intro d
  induction d with
  | zero =>
    intro j u hj hu
    refine ⟨u, hu, ⟨fun h => Or.inl h, ?_⟩, ?_⟩
    · rintro (h | ⟨s, h, h1, h2, -⟩)
      · exact h
      · omega
    · rw [q_M_method_64_at58, h7, if_neg (nI_nlt (by omega) (by omega))]
      rfl
  | succ d ih =>
    intro j u hj hu
    rw [q_M_method_64_at58, h7, if_pos (nI_lt (by omega) (by omega))]
    obtain ⟨h, hh, hsf⟩ := hst j (by omega)
    have step : ∀ w : Nat, w ≤ 1 → (w = 1 ↔ u = 1 ∨ bt (σ 3 h) f) → ∃ u' : Nat, u' ≤ 1 ∧ (u' = 1 ↔ u = 1 ∨ ∃ s h, j ≤ s ∧ s < ns ∧ h < nf ∧ σ 71 s = nI h ∧ bt (σ 3 h) f) ∧ rd_R ρ 140 58 [some (.ref 64), some (.int (nI f)), some (.int x2), some (.int x3), some (.int x4), some (.int x5), some (.int (nI w)), some (.int (nI (j + 1)))] [] σ = mEnd σ f x2 x3 x4 x5 u' := by
      intro w hw hwi
      obtain ⟨u', k1, k2, k3⟩ := ih (j + 1) w (by omega) hw
      refine ⟨u', k1, ?_, k3⟩
      rw [k2, hwi]
      constructor
      · rintro ((h1 | h1) | ⟨s, g, h1, h2, h3⟩)
        · exact Or.inl h1
        · exact Or.inr ⟨j, h, Nat.le_refl _, by omega, hh, hsf, h1⟩
        · exact Or.inr ⟨s, g, by omega, h2, h3⟩
      · rintro (h1 | ⟨s, g, h1, h2, h3, h4, h5⟩)
        · exact Or.inl (Or.inl h1)
        · by_cases e : s = j
          · subst e
            have : h = g := (nI_eq (by omega) (by omega)).mp (hsf.symm.trans h4)
            subst this
            exact Or.inl (Or.inr h5)
          · exact Or.inr ⟨s, g, by omega, h2, h3, h4, h5⟩
    by_cases hu0 : u = 0
    · subst hu0
      rw [if_pos (show nI 0 = 0 from by decide), b_chk (by omega) (by decide), nI_clamp (by omega), hsf, m_isBelow ρ σ hnf hb hL hh (by omega)]
      simp only [Option.bind_some, b_01]
      by_cases hc : (σ 3 h).toNatClampNeg.testBit f = true
      · rw [if_pos hc, q_M_method_64_at72, q_M_method_64_at75, nI_1]
        exact step 1 (by omega) (by simp [bt, hc])
      · rw [if_neg hc, q_M_method_64_at75, nI_1]
        exact step 0 (by omega) (by simp [bt, hc])
    · have : u = 1 := by omega
      subst this
      rw [if_neg (show ¬ nI 1 = 0 from by decide), q_M_method_64_at72, q_M_method_64_at75, nI_1]
      exact step 1 (by omega) (by simp)
