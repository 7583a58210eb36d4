/-! face, stand, method -/
variable {B : Nat}
theorem up_id {f : Nat → Int32} {k : Nat} {x : Int32} (h : f k = x) : upd f k x = f := by
  funext j
  by_cases hj : j = k
  · subst hj; rw [b_ups, h]
  · rw [b_upn hj]
theorem neg1_nI {n : Nat} (hn : n < 2 ^ 31) : ¬ (-1 : Int32) = nI n := by
  intro e
  have e2 := congrArg Int32.toInt e
  rw [nI_toInt hn] at e2
  have : (-1 : Int32).toInt = -1 := by decide
  omega
theorem shl_nI {n : Nat} (hn : n < 31) : (1 : Int32) <<< (nI n &&& 31) = nI (2 ^ n) := by
  have : ∀ n, n < 31 → (1 : Int32) <<< (nI n &&& 31) = nI (2 ^ n) := by decide +kernel
  exact this n hn
theorem or_nI (a b : Nat) : nI a ||| nI b = nI (a ||| b) := by
  apply Int32.toBitVec_inj.mp
  show BitVec.ofNat 32 a ||| BitVec.ofNat 32 b = BitVec.ofNat 32 (a ||| b)
  apply BitVec.eq_of_toNat_eq
  simp [BitVec.toNat_or, Nat.or_mod_two_pow]
/-- what the model's loop has copied -/
def cp4 (σ : rd_Sg) (b n j : Nat) : rd_Sg := rd_uc (rd_uc (rd_uc (rd_uc σ 67 (va_cpy (σ 67) (σ 67) (8 * b) (8 * n) j)) 68 (va_cpy (σ 68) (σ 68) (8 * b) (8 * n) j)) 69 (va_cpy (σ 69) (σ 69) (8 * b) (8 * n) j)) 70 (va_cpy (σ 70) (σ 70) (8 * b) (8 * n) j)
theorem cpy_step {f : Nat → Int32} {b n j : Nat} (hj : j < 8) (hbn : b < n) : upd (va_cpy f f (8 * b) (8 * n) j) (8 * n + j) (f (8 * b + j)) = va_cpy f f (8 * b) (8 * n) (j + 1) := by
  funext q
  unfold upd va_cpy
  by_cases h : q = 8 * n + j
  · subst h
    rw [if_pos rfl, if_pos (by omega)]
    congr 1
    omega
  · rw [if_neg h]
    by_cases h2 : 8 * n ≤ q ∧ q < 8 * n + j
    · rw [if_pos h2, if_pos (by omega)]
    · rw [if_neg h2, if_neg (by omega)]
theorem cpy_at {f : Nat → Int32} {b n j i : Nat} (hi : i < 8) (hbn : b < n) : va_cpy f f (8 * b) (8 * n) j (8 * b + i) = f (8 * b + i) := by
  unfold va_cpy
  rw [if_neg (by omega)]
theorem cp4_step {σ : rd_Sg} {b n j : Nat} (hj : j < 8) (hbn : b < n) : rd_u (rd_u (rd_u (rd_u (cp4 σ b n j) 67 (8 * n + j) (cp4 σ b n j 67 (8 * b + j))) 68 (8 * n + j) (cp4 σ b n j 68 (8 * b + j))) 69 (8 * n + j) (cp4 σ b n j 69 (8 * b + j))) 70 (8 * n + j) (cp4 σ b n j 70 (8 * b + j)) = cp4 σ b n (j + 1) := by
  have e67 : cp4 σ b n j 67 = va_cpy (σ 67) (σ 67) (8 * b) (8 * n) j := by simp [cp4, b_ucne, b_uceq]
  have e68 : cp4 σ b n j 68 = va_cpy (σ 68) (σ 68) (8 * b) (8 * n) j := by simp [cp4, b_ucne, b_uceq]
  have e69 : cp4 σ b n j 69 = va_cpy (σ 69) (σ 69) (8 * b) (8 * n) j := by simp [cp4, b_ucne, b_uceq]
  have e70 : cp4 σ b n j 70 = va_cpy (σ 70) (σ 70) (8 * b) (8 * n) j := by simp [cp4, b_ucne, b_uceq]
  have n67 : cp4 σ b n (j + 1) 67 = va_cpy (σ 67) (σ 67) (8 * b) (8 * n) (j + 1) := by simp [cp4, b_ucne, b_uceq]
  have n68 : cp4 σ b n (j + 1) 68 = va_cpy (σ 68) (σ 68) (8 * b) (8 * n) (j + 1) := by simp [cp4, b_ucne, b_uceq]
  have n69 : cp4 σ b n (j + 1) 69 = va_cpy (σ 69) (σ 69) (8 * b) (8 * n) (j + 1) := by simp [cp4, b_ucne, b_uceq]
  have n70 : cp4 σ b n (j + 1) 70 = va_cpy (σ 70) (σ 70) (8 * b) (8 * n) (j + 1) := by simp [cp4, b_ucne, b_uceq]
  funext c
  by_cases h70 : c = 70
  · subst h70; rw [b_ueq, b_une (by decide), b_une (by decide), b_une (by decide), n70, e70, cpy_at hj hbn, cpy_step hj hbn]
  rw [b_une h70]
  by_cases h69 : c = 69
  · subst h69; rw [b_ueq, b_une (by decide), b_une (by decide), n69, e69, cpy_at hj hbn, cpy_step hj hbn]
  rw [b_une h69]
  by_cases h68 : c = 68
  · subst h68; rw [b_ueq, b_une (by decide), n68, e68, cpy_at hj hbn, cpy_step hj hbn]
  rw [b_une h68]
  by_cases h67 : c = 67
  · subst h67; rw [b_ueq, n67, e67, cpy_at hj hbn, cpy_step hj hbn]
  rw [b_une h67]
  unfold cp4
  rw [b_ucne h70, b_ucne h69, b_ucne h68, b_ucne h67, b_ucne h70, b_ucne h69, b_ucne h68, b_ucne h67]
theorem cp4_0 {σ : rd_Sg} {b n : Nat} : cp4 σ b n 0 = σ := by
  have e : ∀ f : Nat → Int32, va_cpy f f (8 * b) (8 * n) 0 = f := by
    intro f
    funext q
    unfold va_cpy
    rw [if_neg (by omega)]
  unfold cp4
  rw [e, e, e, e]
  funext c
  by_cases h70 : c = 70
  · subst h70; rw [b_uceq]
  rw [b_ucne h70]
  by_cases h69 : c = 69
  · subst h69; rw [b_uceq]
  rw [b_ucne h69]
  by_cases h68 : c = 68
  · subst h68; rw [b_uceq]
  rw [b_ucne h68]
  by_cases h67 : c = 67
  · subst h67; rw [b_uceq]
  rw [b_ucne h67]
theorem m_face_loop (ρ : Nat × (Nat → Int32)) (σ : rd_Sg) {b n m : Nat} (hbn : b < n) (hn : n < 12) (hm : m ≤ 8) (h0 : σ 64 0 = nI n) (h66 : σ 66 n = nI m) : ∀ (d j : Nat) (o3 o4 : Option Value), j + d = m → rd_R ρ 138 37 [some (.ref 64), some (.int (nI b)), some (.int (nI j)), o3, o4] [] (cp4 σ b n j) = some (nI n, rd_u (cp4 σ b n m) 64 0 (nI (n + 1))) := by
  have c64 : ∀ j, cp4 σ b n j 64 0 = nI n := fun j => by rw [← h0]; simp [cp4, rd_uc]
  have c66 : ∀ j, cp4 σ b n j 66 n = nI m := fun j => by rw [← h66]; simp [cp4, rd_uc]
  intro d
  induction d with
  | zero =>
    intro j o3 o4 hj
    have : j = m := by omega
    subst this
    rw [q_M_face_64_at37, c64, b_chk hn (by decide), nI_clamp (by omega), c66, if_neg (nI_nlt (Nat.le_refl _) (by omega))]
    rw [show nI n + 1 - 1 = nI n by rw [nI_1, nI_pred], nI_1]
  | succ d ih =>
    intro j o3 o4 hj
    have hj8 : j < 8 := by omega
    rw [q_M_face_64_at37, c64, b_chk hn (by decide), nI_clamp (by omega), c66, if_pos (nI_lt (by omega) (by omega))]
    rw [show (8 : Int32) = nI 8 by decide, pk_mul, pk_mul, nI_add, nI_add, nI_clamp (show 8 * b + j < 2 ^ 31 by omega), nI_clamp (show 8 * n + j < 2 ^ 31 by omega)]
    simp only [b_chk (show 8 * b + j < 96 by omega) (show 96 < 2 ^ 31 by decide), b_chk (show 8 * n + j < 96 by omega) (show 96 < 2 ^ 31 by decide)]
    rw [cp4_step hj8 hbn, nI_1]
    exact ih (j + 1) _ _ (by omega)
/-! faces and stands grow: what was said of calls and patterns stays -/
def Grow (ns ns' nf nf' : Nat) (sf sf' me me' pa pa' sb sb' : Nat → Int32) : Prop :=
  ns ≤ ns' ∧ nf ≤ nf' ∧ (∀ s, s < ns → sf' s = sf s) ∧ ∀ s f, s < ns → f < 12 → sf s = nI f → me' f = me f ∧ ∀ i, i < 8 → pa' (8 * f + i) = pa (8 * f + i) ∧ sb' (8 * f + i) = sb (8 * f + i)
section GROW
variable {ns ns' nf nf' : Nat} {sf sf' me me' pa pa' sb sb' : Nat → Int32}
theorem SigOk.lt {s m sg : Nat} (h : SigOk ns sf me s m sg) : sg < 96 ∧ m < 8 ∧ s < ns := by
  obtain ⟨h1, f, c, h2, -, -, h3, h4, h5⟩ := h
  omega
theorem SigOk.grow (G : Grow ns ns' nf nf' sf sf' me me' pa pa' sb sb') {s m sg : Nat} (h : SigOk ns sf me s m sg) : SigOk ns' sf' me' s m sg ∧ pa' sg = pa sg ∧ sb' sg = sb sg := by
  obtain ⟨g1, g2, g3, g4⟩ := G
  obtain ⟨h1, f, c, h2, h3, h4, h5, h6, h7⟩ := h
  obtain ⟨k1, k2⟩ := g4 s f h1 h2 h3
  obtain ⟨k3, k4⟩ := k2 m (by omega)
  rw [h7]
  exact ⟨⟨by omega, f, c, h2, by rw [g3 s h1]; exact h3, by rw [k1]; exact h4, h5, h6, rfl⟩, k3, k4⟩
theorem StV.grow (G : Grow ns ns' nf nf' sf sf' me me' pa pa' sb sb') {v : Int32} (h : StV ns v) : StV ns' v := by
  rcases h with h | ⟨s, h1, h2⟩
  · exact Or.inl h
  · exact Or.inr ⟨s, by have := G.1; omega, h2⟩
theorem JP.grow (G : Grow ns ns' nf nf' sf sf' me me' pa pa' sb sb') {off n cap : Nat} {stD meD sgD cD lD hD stM meM cM lM hM : Nat → Int32} (h : JP off n cap ns nf sf me pa sb stD meD sgD cD lD hD stM meM cM lM hM) : JP off n cap ns' nf' sf' me' pa' sb' stD meD sgD cD lD hD stM meM cM lM hM := by
  obtain ⟨h1, h2, h3, h4⟩ := h
  refine ⟨h1, fun r hr => ?_, h3, h4⟩
  obtain ⟨s, m, sg, k1, k2, k3, k4, k5, k6, k7⟩ := h2 r hr
  obtain ⟨e1, e2, e3⟩ := k1.grow G
  refine ⟨s, m, sg, e1, k2, k3, k4, k5, k6, fun i hi => ?_⟩
  obtain ⟨c, c1, c2, c3, c4, c5⟩ := k7 i hi
  refine ⟨c, c1, c2, c3, fun h => by rw [e2]; exact c4 h, fun h => by rw [e3]; exact c5.1 h, fun h => ?_⟩
  obtain ⟨g, d2, d3⟩ := c5.2 h
  exact ⟨g, by have := G.2.1; omega, d3⟩
theorem JR.grow (G : Grow ns ns' nf nf' sf sf' me me' pa pa' sb sb') {nr : Nat} {stD meD sgD cD lD hD stM meM cM lM hM an ak av ca tu hc : Nat → Int32} (hP : JP 0 nr 80 ns nf sf me pa sb stD meD sgD cD lD hD stM meM cM lM hM) (h : JR B nr ns pa sgD an ak av ca tu hc cM) : JR B nr ns' pa' sgD an ak av ca tu hc cM := by
  obtain ⟨h1, h2⟩ := h
  refine ⟨fun r hr => ?_, h2⟩
  obtain ⟨a, t, k1, k2, k3, k4, k5, k6, k7⟩ := h1 r hr
  refine ⟨a, t, k1, k2, k3, k4, k5, k6, fun k hk => ?_⟩
  obtain ⟨d1, d2, d3⟩ := k7 k hk
  refine ⟨fun e => (d1 e).grow G, fun e => ?_, d3⟩
  obtain ⟨v, v1, v2, sg, v3, v4, v5⟩ := d2 e
  refine ⟨v, v1, v2, sg, v3, v4, ?_⟩
  have hrn : r < nr := Nat.not_le.mp fun q => by have := (k6 q).1; omega
  obtain ⟨s, m, sg', p1, -, -, -, -, p6, -⟩ := hP.2.1 r hrn
  have e9 : sg = sg' := (nI_eq (by omega) (by have := p1.lt; omega)).mp (v4.symm.trans p6)
  rw [e9, (p1.grow G).2.1, ← e9]
  exact v5
theorem JG.grow (G : Grow ns ns' nf nf' sf sf' me me' pa pa' sb sb') {nl : Nat} {rw9 : Nat → Int32} (h : JG nl ns sf me sb rw9) : JG nl ns' sf' me' sb' rw9 := by
  refine ⟨h.1, fun i hi => ?_⟩
  obtain ⟨s, m, sg, h1, h2, h3, h4⟩ := h.2 i hi
  obtain ⟨e1, e2, e3⟩ := h1.grow G
  exact ⟨s, m, sg, e1, h2, h3, fun j hj hb => (h4 j hj (by rw [← e3]; exact hb)).grow G⟩
theorem JB.grow (G : Grow ns ns' nf nf' sf sf' me me' pa pa' sb sb') {heD heM : Nat → Int32} {em : Int32} (h : JB ns heD heM em) : JB ns' heD heM em := ⟨fun i hi => (h.1 i hi).grow G, h.2⟩
end GROW
