/-! faces and stands -/
theorem bt_nI {b g : Nat} (hb : b < 2 ^ 31) : bt (nI b) g ↔ b.testBit g = true := by
  unfold bt
  rw [nI_clamp hb]
/-- the machine's way to ask for a bit -/
theorem bit_ask {b g : Nat} (hb : b < 2 ^ 31) (hg : g < 31) : ((nI b >>> (nI g &&& 31)) &&& 1) = nI ((b >>> g) % 2) := by
  have h1 : nI g &&& 31 = nI g := by
    rw [pk_andN (n := g) (by omega) (m := 31) 5 (by decide), Nat.mod_eq_of_lt (by omega)]
  rw [h1, pk_shrN hb (nI g) g (by
    rw [show (nI g).toBitVec = BitVec.ofNat 32 g from rfl]
    have : ∀ g < 31, ((BitVec.ofNat 32 g).smod 32).toNat = g := by decide +kernel
    exact this g hg)]
  rw [pk_andN (n := b / 2 ^ g) (by have := Nat.div_le_self b (2 ^ g); omega) (m := 1) 1 (by decide), Nat.shiftRight_eq_div_pow]
theorem bit_is {b g : Nat} (hb : b < 2 ^ 31) (hg : g < 31) : (((nI b >>> (nI g &&& 31)) &&& 1) = 1) ↔ b.testBit g = true := by
  rw [bit_ask hb hg, Nat.testBit, Nat.and_comm, Nat.and_one_is_mod]
  rw [show (1 : Int32) = nI 1 by decide, nI_eq (by omega) (by decide)]
  rcases Nat.mod_two_eq_zero_or_one (b >>> g) with h | h <;> simp [h]
/-- isBelow -/
theorem m_isBelow2 (ρ : Nat × (Nat → Int32)) (σ : rd_Sg) {nf : Nat} {lin : Nat → Int32} (hnf : nf ≤ 12) (hb : ∀ f, f < nf → σ 65 f = -1 ∨ ∃ g, g < f ∧ σ 65 f = nI g) (hL : JL nf (σ 65) lin) (g : Nat) (hg : g < 2 ^ 31) (o1 : Option Value) :
    ∀ (n f : Nat), f < n → f < nf → rd_R ρ 139 2 [some (.ref 64), o1, some (.int (nI g)), some (.int (nI f))] [] σ = some (if (lin f).toNatClampNeg.testBit g = true then 1 else 0, σ) := by
  intro n
  induction n with
  | zero =>
    intro f hn hf
    exact absurd hn (by omega)
  | succ n ih =>
    intro f hn hf
    rw [q_M_isBelow_64_at2]
    obtain ⟨b, h1, h2, h3⟩ := hL f hf
    rw [if_neg (nI_pos (by omega)), if_neg (nI_pos (by omega))]
    by_cases hgf : nI f = nI g
    · rw [if_pos hgf]
      have : f = g := (nI_eq (by omega) hg).mp hgf
      rw [h1, nI_clamp (by omega), if_pos ((h3 g).mpr (Or.inl this.symm))]
    · rw [if_neg hgf, b_chk (by omega) (by decide), nI_clamp (by omega)]
      have hne : g ≠ f := fun h => hgf (by rw [h])
      rcases hb f hf with h | ⟨q, hq, h⟩
      · rw [h, q_M_isBelow_64_at2, if_pos (by decide), if_pos (by decide), h1, nI_clamp (by omega), if_neg]
        intro hh
        rcases (h3 g).mp hh with h5 | ⟨p, hp, h5, -⟩
        · exact hne h5
        · rw [h] at h5
          exact absurd h5 (by
            intro e
            have e2 := congrArg Int32.toInt e
            rw [nI_toInt (by omega)] at e2
            have : (-1 : Int32).toInt = -1 := by decide
            omega)
      · rw [h, ih q (by omega) (by omega)]
        rw [h1, nI_clamp (by omega)]
        have : (b.testBit g = true) ↔ ((lin q).toNatClampNeg.testBit g = true) := by
          rw [h3 g]
          constructor
          · rintro (h5 | ⟨p, hp, h5, h6⟩)
            · exact absurd h5 hne
            · have : q = p := (nI_eq (by omega) (by omega)).mp (h.symm.trans h5)
              rw [this]
              exact h6
          · intro h5
            exact Or.inr ⟨q, hq, h, h5⟩
        by_cases hc : b.testBit g = true
        · rw [if_pos hc, if_pos (this.mp hc)]
        · rw [if_neg hc, if_neg (fun q => hc (this.mpr q))]
theorem m_isBelow (ρ : Nat × (Nat → Int32)) (σ : rd_Sg) {nf : Nat} {lin : Nat → Int32} (hnf : nf ≤ 12) (hb : ∀ f, f < nf → σ 65 f = -1 ∨ ∃ g, g < f ∧ σ 65 f = nI g) (hL : JL nf (σ 65) lin) {f g : Nat} (hf : f < nf) (hg : g < 2 ^ 31) :
    rd_R ρ 139 0 [some (.ref 64), some (.int (nI f)), some (.int (nI g)), none] [] σ = some (if (lin f).toNatClampNeg.testBit g = true then 1 else 0, σ) := by
  rw [q_M_isBelow_64]
  exact m_isBelow2 ρ σ hnf hb hL g hg _ (f + 1) f (Nat.lt_succ_self f) hf
