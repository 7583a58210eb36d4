/-! the invariant -/
variable {B : Nat}
/-- a stand's method, and its place among all methods -/
def SigOk (ns : Nat) (sf me : Nat → Int32) (s m sg : Nat) : Prop := s < ns ∧ ∃ f c, f < 12 ∧ sf s = nI f ∧ me f = nI c ∧ c ≤ 8 ∧ m < c ∧ sg = 8 * f + m
/-- a stand's number, or none -/
def StV (ns : Nat) (v : Int32) : Prop := v = -1 ∨ ∃ s, s < ns ∧ v = nI s
/-- patterns: the desk's cells, and the model's from place off on -/
def JP (off n cap ns nf : Nat) (sf me pa sb stD meD sgD cD lD hD stM meM cM lM hM : Nat → Int32) : Prop :=
  n ≤ cap ∧
  (∀ r, r < n → ∃ s m sg, SigOk ns sf me s m sg ∧ stD r = nI s ∧ stM (off + r) = nI s ∧ meD r = nI m ∧ meM (off + r) = nI m ∧ sgD r = nI sg ∧
    ∀ i, i < 3 → ∃ c, c ≤ 6 ∧ cM (3 * (off + r) + i) = nI c ∧ cD (3 * r + i) = nI c ∧ (c ≠ 0 → nI i < pa sg) ∧ (c = 4 ∨ c = 5 → bt (sb sg) i) ∧ (c = 4 → ∃ g, g < nf ∧ lM (3 * (off + r) + i) = nI g)) ∧
  (∀ r, n ≤ r → r < cap → ∀ i, i < 3 → cD (3 * r + i) = 0) ∧
  (∀ j, j < 3 * cap → lD j = lM (3 * off + j) ∧ hD j = hM (3 * off + j))
/-- rules: answers, turns, what was caught -/
def JR (B nr ns : Nat) (pa sgD an ak av ca tu hc cM : Nat → Int32) : Prop :=
  (∀ r, r < 80 → ∃ a t, a ≤ 6 ∧ an r = nI a ∧ t ≤ B ∧ tu r = nI t ∧ ca r = nI (min t 6) ∧ (nr ≤ r → a = 0 ∧ t = 0) ∧
    ∀ k, k < a → (ak (6 * r + k) = 1 → StV ns (av (6 * r + k))) ∧ (ak (6 * r + k) = 4 → ∃ v, v < 3 ∧ av (6 * r + k) = nI v ∧ ∃ sg, sg < 96 ∧ sgD r = nI sg ∧ nI v < pa sg) ∧ (ak (6 * r + k) = 2 → ∃ v, v < 8 ∧ av (6 * r + k) = nI v)) ∧
  (∀ j, j < 240 → hc j = 0 ∨ (hc j = 1 ∧ cM j = 6)) ∧ (∀ j, 3 * nr ≤ j → j < 240 → hc j = 0)
/-- a recorded call -/
def RowOk (ns : Nat) (sf me sb : Nat → Int32) (rw : Nat → Int32) (k : Nat) : Prop :=
  ∃ s m sg, SigOk ns sf me s m sg ∧ rw k = nI s ∧ rw (k + 1) = nI m ∧ ∀ i, i < 3 → bt (sb sg) i → StV ns (rw (k + 2 + i))
def JG (nl ns : Nat) (sf me sb rw : Nat → Int32) : Prop := nl ≤ 500 ∧ ∀ i, i < nl → RowOk ns sf me sb rw (9 * i)
/-- a cue's numbers lie within its kind's limits -/
def CueOk (k a b c : Int32) : Prop := ∃ kk, kk < 10 ∧ k = nI kk ∧
  (kk = 0 ∨ kk = 9 → ∃ n, n < 8 ∧ a = nI n) ∧ (kk = 1 → (∃ n, n < 8 ∧ a = nI n) ∧ ∃ n, n < 8 ∧ b = nI n) ∧ (kk = 2 → (∃ n, n < 4 ∧ a = nI n)) ∧
  (kk = 3 → (∃ n, n < 4 ∧ a = nI n) ∧ ∃ n, n < 8 ∧ b = nI n) ∧ (kk = 4 → ∃ n, n ≤ 60 ∧ a = nI n) ∧ (kk = 5 → (∃ n, n < 8 ∧ a = nI n) ∧ (∃ n, n < 8 ∧ b = nI n) ∧ ∃ n, n ≤ 60 ∧ c = nI n) ∧
  (kk = 6 → (∃ n, 1 ≤ n ∧ n < 60 ∧ a = nI n) ∧ ∃ n, n ≤ 60 ∧ b = nI n) ∧ (kk = 7 → ∃ n, n < 12 ∧ a = nI n) ∧ (kk = 8 → (∃ n, n < 4 ∧ a = nI n) ∧ (∃ n, n < 4 ∧ b = nI n) ∧ ∃ n, n < 8 ∧ c = nI n)
def JC (nc : Nat) (ck ca cb cc : Nat → Int32) : Prop := nc ≤ 60 ∧ ∀ i, i < nc → CueOk (ck i) (ca i) (cb i) (cc i)
def JB (ns : Nat) (heD heM : Nat → Int32) (em : Int32) : Prop := (∀ i, i < 4 → StV ns (heD i)) ∧ ((em = 1 ∧ (∀ i, i < 4 → heD i = -1) ∧ ∀ i, 4 ≤ i → heD i = heM i) ∨ (em = 0 ∧ heD = heM))
def Inv (B : Nat) (σ : rd_Sg) : Prop := ∃ nf ns nr ne nl nc no nt nd lo : Nat,
  -- A: faces and stands
  ((σ 1 0 = nI nf ∧ σ 64 0 = nI nf ∧ σ 9 1 = nI ns ∧ σ 64 7 = nI ns) ∧
   (σ 2 = σ 66 ∧ σ 5 = σ 67 ∧ σ 6 = σ 68 ∧ σ 7 = σ 69 ∧ σ 8 = σ 70 ∧ σ 10 = σ 71 ∧ σ 12 = σ 72 ∧ σ 13 = σ 91) ∧
   JF nf (σ 66) (σ 67) (σ 68) (σ 69) (σ 70) (σ 65) ∧ JL nf (σ 65) (σ 3) ∧ JX nf ns (σ 65) (σ 71) (σ 4) ∧ JS nf ns (σ 71) (σ 72) (σ 11) (σ 3) (σ 91)) ∧
  -- B: rules
  ((σ 15 0 = 80 ∧ σ 15 3 = nI nr ∧ σ 64 16 = nI nr) ∧ (σ 22 = σ 79 ∧ σ 23 = σ 80 ∧ σ 24 = σ 81 ∧ σ 26 = σ 83 ∧ σ 27 = σ 84) ∧
   JP 0 nr 80 ns nf (σ 71) (σ 66) (σ 67) (σ 68) (σ 16) (σ 17) (σ 18) (σ 19) (σ 20) (σ 21) (σ 74) (σ 75) (σ 76) (σ 77) (σ 78) ∧ JR B nr ns (σ 67) (σ 18) (σ 79) (σ 80) (σ 81) (σ 25) (σ 82) (σ 83) (σ 76)) ∧
  -- C: expectations and orders
  ((σ 34 0 = 40 ∧ σ 34 3 = nI ne ∧ σ 64 32 = nI ne ∧ σ 33 3 = nI no ∧ σ 64 35 = nI no ∧ no ≤ 40) ∧ (σ 41 = σ 87 ∧ σ 42 = σ 88 ∧ σ 43 = σ 89 ∧ σ 44 = σ 90) ∧
   JP 80 ne 40 ns nf (σ 71) (σ 66) (σ 67) (σ 68) (σ 35) (σ 36) (σ 37) (σ 38) (σ 39) (σ 40) (σ 74) (σ 75) (σ 76) (σ 77) (σ 78) ∧ (∀ o, o < no → ∃ a b, a < ne ∧ b < ne ∧ σ 89 o = nI a ∧ σ 90 o = nI b)) ∧
  -- D: the log, the levels
  ((σ 28 3 = nI nl ∧ σ 64 23 = nI nl ∧ σ 28 4 = σ 64 24 ∧ (σ 28 2 = 0 ∨ σ 28 2 = 1) ∧ σ 28 2 = σ 64 26 ∧ σ 29 = σ 85 ∧ σ 86 0 = σ 30 5 ∧ σ 86 1 = σ 30 7 ∧ σ 86 2 = σ 30 8 ∧ σ 86 3 = σ 30 6 ∧ σ 32 = σ 73) ∧ JG nl ns (σ 71) (σ 66) (σ 68) (σ 85) ∧ lo ≤ B ∧ σ 64 24 = nI lo) ∧
  -- E: what was wrong
  ((∃ nw, nw ≤ 60 ∧ σ 49 1 = nI nw ∧ σ 64 39 = nI nw) ∧ σ 50 = σ 92) ∧
  -- F: the cues
  ((σ 51 0 = nI nc ∧ σ 64 41 = nI nc ∧ σ 52 = σ 93 ∧ σ 53 = σ 94 ∧ σ 54 = σ 95 ∧ σ 55 = σ 96) ∧ JC nc (σ 93) (σ 94) (σ 95) (σ 96)) ∧
  -- G: the desk
  ((σ 61 = σ 97 ∧ σ 63 = σ 99 ∧ nt ≤ 100 ∧ σ 56 8 = nI nt ∧ σ 64 50 = nI nt ∧ nd < 30000 ∧ σ 56 9 = nI nd ∧ σ 64 49 = nI nd) ∧ JB ns (σ 62) (σ 98) (σ 64 48))
/-- both answer alike, and the invariant stays -/
def Both (B : Nat) (D M : rd_Sg → Option (Int32 × rd_Sg)) (σ : rd_Sg) : Prop := ∃ r σ1 σ2, D σ = some (r, σ1) ∧ M σ1 = some (r, σ2) ∧ Inv B σ2
theorem Both.same {D M : rd_Sg → Option (Int32 × rd_Sg)} {σ : rd_Sg} {r : Int32} (hI : Inv B σ) (h1 : D σ = some (r, σ)) (h2 : M σ = some (r, σ)) : Both B D M σ := ⟨r, σ, σ, h1, h2, hI⟩
theorem b10 : ((1 : Int32) = 0) = False := by decide
theorem hv_out {x : Int32} {n : Nat} (h : hv x n = 0) : x < 0 ∨ (¬ x < 0 ∧ ¬ x < nI n) := by
  unfold hv at h
  split at h
  · rename_i h0; exact Or.inl h0
  · rename_i h0
    split at h
    · cases h
    · rename_i h1; exact Or.inr ⟨h0, h1⟩
theorem op_level (ρ : Nat × (Nat → Int32)) {σ : rd_Sg} (hI : Inv B σ) (x1 : Int32) : Both B (rd_R ρ 112 0 [some (.ref 0), some (.int x1)] []) (rd_R ρ 144 0 [some (.ref 64), some (.int x1)] []) σ := by
  have hD := hI
  obtain ⟨nf, ns, nr, ne, nl, nc, no, nt, nd, lo, -, -, -, ⟨hD1, -⟩, -⟩ := hD
  obtain ⟨-, -, -, -, -, -, -, -, -, -, h32⟩ := hD1
  rcases hv_ix x1 (n := 6) (by decide) with h | ⟨j, hj, rfl⟩
  · refine Both.same (r := -1) hI ?_ ?_
    · rw [q_D_level_0, show (6 : Int32) = nI 6 by decide]
      rcases hv_out h with h0 | ⟨h0, h1⟩
      · rw [if_pos h0]
      · rw [if_neg h0, if_neg h1]
    · rw [q_M_level_64, m_inc ρ σ x1 5 (n := 6) (by decide) (by decide), h]
      rfl
  · refine Both.same (r := σ 73 j) hI ?_ ?_
    · rw [q_D_level_0, show (6 : Int32) = nI 6 by decide, if_neg (nI_pos (by omega)), if_pos (nI_lt hj (by decide)), b_chk hj (by decide), nI_clamp (by omega), h32]
    · rw [q_M_level_64, m_inc ρ σ (nI j) 5 (n := 6) (by decide) (by decide), hv_in hj (by decide)]
      simp only [Option.bind_some, b10, if_false]
      rw [b_chk hj (by decide), nI_clamp (by omega)]
theorem s_isOf (ρ : Nat × (Nat → Int32)) (σ : rd_Sg) {s g b : Nat} (hs : s < 24) (hg : g < 12) (hb : b < 4096) (h : σ 11 s = nI b) : rd_R ρ 90 0 [some (.ref 9), some (.int (nI s)), some (.int (nI g))] [] σ = some (if b.testBit g = true then 1 else 0, σ) := by
  rw [q_X8_isOf_9, b_chk hs (by decide), nI_clamp (by omega), h]
  by_cases hc : b.testBit g = true
  · rw [if_pos ((bit_is (by omega) (by omega)).mpr hc), if_pos hc]
  · rw [if_neg (fun q => hc ((bit_is (by omega) (by omega)).mp q)), if_neg hc]
/-- a 0 or 1 asked and given again -/
theorem b_01 {α : Type} {P : Prop} [Decidable P] {a b : α} : (if (if P then (1 : Int32) else 0) = 0 then a else b) = if P then b else a := by
  by_cases h : P
  · rw [if_pos h, if_pos h, if_neg (by decide)]
  · rw [if_neg h, if_neg h, if_pos rfl]
theorem b_some {P : Prop} [Decidable P] {x y : Int32} {σ : rd_Sg} : (if P then some (x, σ) else some (y, σ)) = some (if P then x else y, σ) := by
  by_cases h : P
  · rw [if_pos h, if_pos h]
  · rw [if_neg h, if_neg h]
theorem op_of (ρ : Nat × (Nat → Int32)) {σ : rd_Sg} (hI : Inv B σ) (x1 x2 : Int32) : Both B (rd_R ρ 111 0 [some (.ref 0), some (.int x1), some (.int x2)] []) (rd_R ρ 143 0 [some (.ref 64), some (.int x1), some (.int x2)] []) σ := by
  have hD := hI
  obtain ⟨nf, ns, nr, ne, nl, nc, no, nt, nd, lo, ⟨⟨h10, h640, h91, h647⟩, -, hJF, hJL, -, hJS⟩, -⟩ := hD
  obtain ⟨hnf, -, -, hbel⟩ := hJF
  obtain ⟨hns, hst, -⟩ := hJS
  have e1 : rd_R ρ 111 0 [some (.ref 0), some (.int x1), some (.int x2)] [] σ = if hv x1 ns = 0 then some (-1, σ) else if hv x2 nf = 0 then some (-1, σ) else (rd_R ρ 90 0 [some (.ref 9), some (.int x1), some (.int x2)] [] σ).bind fun q4 => if q4.1 = 0 then some ((0 : Int32), q4.2) else some ((1 : Int32), q4.2) := by
    rw [q_D_of_0, s_has ρ σ x1 h91]
    simp only [Option.bind_some]
    rw [f_has ρ σ x2 h10]
    simp only [Option.bind_some]
  have e2 : rd_R ρ 143 0 [some (.ref 64), some (.int x1), some (.int x2)] [] σ = if hv x1 ns = 0 then some (-1, σ) else if hv x2 nf = 0 then some (-1, σ) else (rd_chk x1 24 ((rd_R ρ 139 0 [some (.ref 64), some (.int (σ 71 x1.toNatClampNeg)), some (.int x2), none] [] σ).bind fun q4 => if q4.1 = 0 then some ((0 : Int32), q4.2) else some ((1 : Int32), q4.2))) := by
    rw [q_M_of_64, m_isStand ρ σ x1 h647 (by omega)]
    simp only [Option.bind_some, h640]
    rw [m_in0 ρ σ x2 (by omega)]
    simp only [Option.bind_some]
  rcases hv_ix x1 (n := ns) (by omega) with h | ⟨s, hs, rfl⟩
  · exact Both.same (r := -1) hI (by rw [e1, if_pos h]) (by rw [e2, if_pos h])
  · have hh := hv_in hs (show ns < 2 ^ 31 by omega)
    rcases hv_ix x2 (n := nf) (by omega) with h | ⟨g, hg, rfl⟩
    · exact Both.same (r := -1) hI (by rw [e1, hh, if_neg (by decide), if_pos h]) (by rw [e2, hh, if_neg (by decide), if_pos h])
    · have hh2 := hv_in hg (show nf < 2 ^ 31 by omega)
      obtain ⟨⟨f, hf, hsf, hsl⟩, -⟩ := hst s hs
      obtain ⟨b, hb1, hb2, -⟩ := hJL f hf
      refine Both.same (r := if b.testBit g = true then 1 else 0) hI ?_ ?_
      · rw [e1, hh, if_neg (by decide), hh2, if_neg (by decide), s_isOf ρ σ (by omega) (by omega) hb2 (by rw [hsl, hb1])]
        simp only [Option.bind_some, b_01, b_some]
      · rw [e2, hh, if_neg (by decide), hh2, if_neg (by decide), b_chk (by omega) (by decide), nI_clamp (by omega), hsf, m_isBelow ρ σ hnf hbel hJL hf (by omega), hb1, nI_clamp (by omega)]
        simp only [Option.bind_some, b_01, b_some]
