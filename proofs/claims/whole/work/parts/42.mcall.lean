variable {B : Nat}
/-! a call, the model's side -/
def MOut (τ : rd_Sg) (o : Ot) : rd_Sg := rd_uc (rd_uc τ 64 (upd (upd (upd (upd (τ 64) 28 o.2.1) 29 o.2.2.1) 30 o.2.2.2.1) 31 o.1)) 73 o.2.2.2.2
def Mr (τ : rd_Sg) (s sg p b g : Nat) (F : Int32) : Prop := SD (τ 67) (τ 68) (τ 69) (τ 70) sg p b g F ∧ s < 24 ∧ τ 64 28 = 0 ∧ τ 64 29 = 0 ∧ τ 64 30 = -1 ∧ τ 64 31 = 0 ∧ (τ 72 s = -1 ∨ ∃ t, t < 6 ∧ τ 72 s = nI t)
theorem m_fail (ρ : Nat × (Nat → Int32)) (τ : rd_Sg) {s sg p b g : Nat} {F : Int32} (k : Int32) (h : Mr τ s sg p b g F) : rd_R ρ 158 0 [some (.ref 64), some (.int (nI sg)), some (.int k), none] [] τ = some (0, MOut τ (oFail F k (τ 73))) := by
  obtain ⟨h, hs, h28, h29, h30, h31, ht⟩ := h
  rw [q_M_fail_64, b_chk h.1 (by decide), nI_clamp (by have := h.1; omega), h.2.2.2.2.2.2.2]
  unfold MOut oFail
  by_cases q : (F >>> (k &&& 31)) &&& 1 = 1
  · rw [if_pos q, if_pos q, q_M_fail_64_at13, if_neg (by decide), if_neg (by decide)]
    congr 2
    funext c j
    simp only [rd_u, rd_uc, upd]
    grind (splits := 40)
  · rw [if_neg q, if_neg q, q_M_fail_64_at13, if_pos rfl, if_pos rfl]
    congr 2
    funext c j
    simp only [rd_u, rd_uc, upd]
    grind (splits := 40)
theorem m_give (ρ : Nat × (Nat → Int32)) (τ : rd_Sg) {s sg p b g : Nat} {F : Int32} (k v : Int32) (h : Mr τ s sg p b g F) : rd_R ρ 157 0 [some (.ref 64), some (.int k), some (.int v)] [] τ = some (0, MOut τ (0, k, v, -1, τ 73)) := by
  obtain ⟨h, hs, h28, h29, h30, h31, ht⟩ := h
  rw [q_M_give_64]
  unfold MOut
  congr 2
  funext c j
  simp only [rd_u, rd_uc, upd]
  grind (splits := 40)
theorem m_thru (ρ : Nat × (Nat → Int32)) (τ : rd_Sg) {s sg p b g : Nat} {F : Int32} (sm : Int32) (h : Mr τ s sg p b g F) : rd_R ρ 160 0 [some (.ref 64), some (.int (nI s)), some (.int (nI sg)), some (.int sm), none, none] [] τ = some (0, MOut τ (oThru (τ 72 s) F sm (τ 73))) := by
  have h' := h
  obtain ⟨h, hs, h28, h29, h30, h31, ht⟩ := h
  rw [q_M_through_64, b_chk hs (by decide), nI_clamp (by omega)]
  unfold oThru
  rcases ht with e | ⟨t, t6, e⟩
  · rw [e, if_pos (by decide), if_pos rfl]
    unfold MOut
    congr 2
    funext c j
    simp only [rd_u, rd_uc, upd]
    grind (splits := 40)
  · have n1 : ¬ nI t = -1 := fun q => neg1_nI (by omega) q.symm
    rw [e, if_neg (nI_pos (by omega)), if_neg n1, b_chk t6 (by decide), nI_clamp (by omega), m_inF]
    simp only [Option.bind_some, m_fail ρ τ 7 h']
    unfold inF
    by_cases q : τ 73 t + sm < 0
    · rw [if_pos q, if_pos q, if_pos rfl]
    · rw [if_neg q, if_neg q]
      by_cases q2 : 255 < τ 73 t + sm
      · rw [if_pos q2, if_pos q2, if_pos rfl]
      · rw [if_neg q2, if_neg q2, if_neg (by decide), b_chk t6 (by decide), q_M_give_64]
        simp only [Option.bind_some]
        unfold MOut
        congr 2
        funext c j
        simp only [rd_u, rd_uc, upd]
        grind (splits := 40)
theorem bit3 : ∀ b < 8, ((nI b &&& 1 = 0) ↔ b.testBit 0 = false) ∧ ((nI b &&& 2 = 0) ↔ b.testBit 1 = false) ∧ ((nI b &&& 4 = 0) ↔ b.testBit 2 = false) := by decide
theorem m_sum (ρ : Nat × (Nat → Int32)) (τ : rd_Sg) {sg p b g : Nat} {F : Int32} (x : Nat → Int32) (h : SD (τ 67) (τ 68) (τ 69) (τ 70) sg p b g F) : rd_R ρ 159 0 [some (.ref 64), some (.int (nI sg)), some (.int (x 0)), some (.int (x 1)), some (.int (x 2)), none, none, none] [] τ = some (smF p b x, τ) := by
  have hb := bit3 b h.b8
  obtain ⟨h1, h2, h3, h4, h5, h6, h7, h8⟩ := h
  obtain ⟨b0, b1, b2'⟩ := hb
  have l0 : ((0 : Int32) < nI p) ↔ 0 < p := p_lt (p := 0) rfl (by decide) (by omega)
  have l1 : ((1 : Int32) < nI p) ↔ 1 < p := p_lt (p := 1) rfl (by decide) (by omega)
  have l2 : ((2 : Int32) < nI p) ↔ 2 < p := p_lt (p := 2) rfl (by decide) (by omega)
  have A31 : ∀ (o0 o1 o2 o3 o7 : Option Value) (s1 s0 : Int32), rd_R ρ 159 31 [o0, o1, o2, o3, some (.int (x 2)), some (.int (nI p)), some (.int (nI b)), o7] [.int s1, .int s0] τ = some (s0 + s1 + wF p b 2 (x 2), τ) := by
    intro o0 o1 o2 o3 o7 s1 s0
    rw [q_M_sumOf_64_at31]
    unfold wF
    by_cases c : 2 < p
    · rw [if_pos (l2.mpr c)]
      by_cases d : b.testBit 2 = false
      · rw [if_pos (b2'.mpr d), if_pos ⟨c, d⟩]
      · rw [if_neg (fun z => d (b2'.mp z)), if_neg (fun z => d z.2)]
    · rw [if_neg (fun z => c (l2.mp z)), if_neg (fun z => c z.1)]
  have A19 : ∀ (o0 o1 o2 o7 : Option Value) (s0 : Int32), rd_R ρ 159 19 [o0, o1, o2, some (.int (x 1)), some (.int (x 2)), some (.int (nI p)), some (.int (nI b)), o7] [.int s0] τ = some (s0 + wF p b 1 (x 1) + wF p b 2 (x 2), τ) := by
    intro o0 o1 o2 o7 s0
    rw [q_M_sumOf_64_at19]
    have e : wF p b 1 (x 1) = if 1 < p ∧ b.testBit 1 = false then x 1 else 0 := rfl
    rw [e]
    by_cases c : 1 < p
    · rw [if_pos (l1.mpr c)]
      by_cases d : b.testBit 1 = false
      · rw [if_pos (b1.mpr d), if_pos ⟨c, d⟩, A31]
      · rw [if_neg (fun z => d (b1.mp z)), if_neg (fun z => d z.2), q_M_sumOf_64_at30, A31]
    · rw [if_neg (fun z => c (l1.mp z)), if_neg (fun z => c z.1), q_M_sumOf_64_at30, A31]
  rw [q_M_sumOf_64, b_chk h1 (by decide), b_chk h1 (by decide), nI_clamp (by omega), h5, h6]
  unfold smF
  have e : wF p b 0 (x 0) = if 0 < p ∧ b.testBit 0 = false then x 0 else 0 := rfl
  rw [e]
  by_cases c : 0 < p
  · rw [if_pos (l0.mpr c)]
    by_cases d : b.testBit 0 = false
    · rw [if_pos (b0.mpr d), if_pos ⟨c, d⟩, A19]
    · rw [if_neg (fun z => d (b0.mp z)), if_neg (fun z => d z.2), q_M_sumOf_64_at18, A19]
  · rw [if_neg (fun z => c (l0.mp z)), if_neg (fun z => c z.1), q_M_sumOf_64_at18, A19]
theorem m_catch1 (ρ : Nat × (Nat → Int32)) (τ : rd_Sg) {sg p q i : Nat} {x : Nat → Int32} {o2 k : Int32} (hsg : sg < 96) (hp : p ≤ 3) (h67 : τ 67 sg = nI p) (hq : q < 80) (hi : i < p) : rd_R ρ 162 31 [some (.ref 64), some (.int (nI q)), some (.int o2), some (.int (nI sg)), some (.int (x 0)), some (.int (x 1)), some (.int (x 2)), some (.int k), some (.int (nI i))] [] τ = rd_R ρ 162 31 [some (.ref 64), some (.int (nI q)), some (.int o2), some (.int (nI sg)), some (.int (x 0)), some (.int (x 1)), some (.int (x 2)), some (.int k), some (.int (nI (i + 1)))] [] (rd_uc (rd_uc τ 83 (ct1 (τ 83) (τ 76) q i 1)) 84 (ct1 (τ 84) (τ 76) q i (x i))) := by
  rw [q_M_byRule_64_at31, b_chk hsg (by decide), nI_clamp (show sg < 2 ^ 31 by omega), h67, if_pos (nI_lt hi (by omega)), ixl (kk := 3) (by decide), b_chk (show 3 * q + i < 360 by omega) (by decide), nI_clamp (show 3 * q + i < 2 ^ 31 by omega)]
  unfold ct1
  by_cases c : τ 76 (3 * q + i) = 6
  · rw [if_pos c, if_pos c, if_pos c, b_chk (show 3 * q + i < 240 by omega) (by decide), q_M_byRule_64_at73, q_M_byRule_64_at73, q_M_byRule_64_at73, b_chk (show 3 * q + i < 240 by omega) (by decide), b_chk (show 3 * q + i < 240 by omega) (by decide), b_chk (show 3 * q + i < 240 by omega) (by decide), nI_clamp (show 3 * q + i < 2 ^ 31 by omega), q_M_byRule_64_at74, q_M_byRule_64_at74, q_M_byRule_64_at74, nI_1, show (1 : Int32) &&& 1 = 1 by decide]
    have e : ∀ v : Int32, rd_u (rd_u τ 83 (3 * q + i) 1) 84 (3 * q + i) v = rd_uc (rd_uc τ 83 (upd (τ 83) (3 * q + i) 1)) 84 (upd (τ 84) (3 * q + i) v) := by
      intro v
      funext c j
      simp only [rd_u, rd_uc, upd]
      grind
    rw [e, e, e]
    have : i = 0 ∨ i = 1 ∨ i = 2 := by omega
    rcases this with rfl | rfl | rfl
    · exact if_pos (by decide)
    · exact (if_neg (by decide)).trans (if_pos (by decide))
    · exact (if_neg (by decide)).trans (if_neg (by decide))
  · rw [if_neg c, if_neg c, if_neg c, q_M_byRule_64_at74, nI_1]
    congr 1
    funext c j
    simp only [rd_uc]
    grind
theorem ct1_no {f c : Nat → Int32} {q i : Nat} {v : Int32} (h : ¬ c (3 * q + i) = 6) : ct1 f c q i v = f := if_neg h
theorem m_catch (ρ : Nat × (Nat → Int32)) (τ : rd_Sg) {sg p q : Nat} {x : Nat → Int32} {o2 k : Int32} (hsg : sg < 96) (hp : p ≤ 3) (h67 : τ 67 sg = nI p) (hq : q < 80) (hc : ∀ i, i < 3 → p ≤ i → ¬ τ 76 (3 * q + i) = 6) : rd_R ρ 162 31 [some (.ref 64), some (.int (nI q)), some (.int o2), some (.int (nI sg)), some (.int (x 0)), some (.int (x 1)), some (.int (x 2)), some (.int k), some (.int 0)] [] τ = rd_R ρ 162 31 [some (.ref 64), some (.int (nI q)), some (.int o2), some (.int (nI sg)), some (.int (x 0)), some (.int (x 1)), some (.int (x 2)), some (.int k), some (.int (nI p))] [] (rd_uc (rd_uc τ 83 (ct3 (τ 83) (τ 76) q (fun _ => 1))) 84 (ct3 (τ 84) (τ 76) q x)) := by
  have ST : ∀ (τ' : rd_Sg) i, (∀ c, c ≠ 83 → c ≠ 84 → τ' c = τ c) → i < p → _ := fun τ' i h hi => m_catch1 ρ τ' (x := x) (o2 := o2) (k := k) hsg hp (by rw [h 67 (by decide) (by decide)]; exact h67) hq hi
  have fr : ∀ (f h : Nat → Int32) c, c ≠ 83 → c ≠ 84 → rd_uc (rd_uc τ 83 f) 84 h c = τ c := fun f h c h1 h2 => by rw [b_ucne h2, b_ucne h1]
  have col : ∀ (f h f' h' : Nat → Int32), rd_uc (rd_uc (rd_uc (rd_uc τ 83 f) 84 h) 83 f') 84 h' = rd_uc (rd_uc τ 83 f') 84 h' := by
    intro f h f' h'
    funext c j
    simp only [rd_uc]
    grind
  have idn : rd_uc (rd_uc τ 83 (τ 83)) 84 (τ 84) = τ := by
    funext c j
    simp only [rd_uc]
    grind
  have g83 : ∀ (f h : Nat → Int32), rd_uc (rd_uc τ 83 f) 84 h 83 = f := fun f h => by rw [b_ucne (by decide), b_uceq]
  have g84 : ∀ (f h : Nat → Int32), rd_uc (rd_uc τ 83 f) 84 h 84 = h := fun f h => by rw [b_uceq]
  have g76 : ∀ (f h : Nat → Int32), rd_uc (rd_uc τ 83 f) 84 h 76 = τ 76 := fun f h => by rw [b_ucne (by decide), b_ucne (by decide)]
  unfold ct3
  rw [show (0 : Int32) = nI 0 by decide]
  have : p = 0 ∨ p = 1 ∨ p = 2 ∨ p = 3 := by omega
  rcases this with rfl | rfl | rfl | rfl
  · simp only [ct1_no (hc 0 (by decide) (by decide)), ct1_no (hc 1 (by decide) (by decide)), ct1_no (hc 2 (by decide) (by decide)), idn]
  · simp only [ct1_no (hc 1 (by decide) (by decide)), ct1_no (hc 2 (by decide) (by decide))]
    rw [ST τ 0 (fun _ _ _ => rfl) (by decide)]
  · simp only [ct1_no (hc 2 (by decide) (by decide))]
    rw [ST τ 0 (fun _ _ _ => rfl) (by decide), ST _ (0 + 1) (fr _ _) (by decide), col, g83, g84, g76]
  · rw [ST τ 0 (fun _ _ _ => rfl) (by decide), ST _ (0 + 1) (fr _ _) (by decide), col, g83, g84, g76, ST _ (0 + 1 + 1) (fr _ _) (by decide), col, g83, g84, g76]
theorem m_give_by (ρ : Nat × (Nat → Int32)) (τ : rd_Sg) {s sg p b g q k : Nat} {F : Int32} {x : Nat → Int32} (h : Mr τ s sg p b g F) (hpl : 6 * q + k < 480) (h4 : τ 80 (6 * q + k) = 4 → ∃ v, v < 3 ∧ τ 81 (6 * q + k) = nI v) : rd_R ρ 162 31 [some (.ref 64), some (.int (nI q)), some (.int (nI s)), some (.int (nI sg)), some (.int (x 0)), some (.int (x 1)), some (.int (x 2)), some (.int (nI k)), some (.int (nI p))] [] τ = some (0, MOut τ (oAns (τ 80 (6 * q + k)) (τ 81 (6 * q + k)) (smF p b x) F (τ 72 s) b x (τ 73))) := by
  have hg := fun (k v : Int32) => m_give ρ τ k v h
  have hf := fun (k : Int32) => m_fail ρ τ k h
  have ht := fun (k : Int32) => m_thru ρ τ k h
  have hsum := m_sum ρ τ x h.1
  have hb8 := h.1.b8
  obtain ⟨⟨h1, h2, h3, h4', h5, h6, h7, h8⟩, -⟩ := h
  rw [q_M_byRule_64_at31, b_chk h1 (by decide), nI_clamp (show sg < 2 ^ 31 by omega), h5, if_neg (fun z => absurd ((p_lt rfl (by omega) (by omega)).mp z) (by omega)), ixl (kk := 6) (by decide), b_chk hpl (by decide), b_chk hpl (by decide), b_chk h1 (by decide), nI_clamp (show 6 * q + k < 2 ^ 31 by omega), hsum, h6]
  simp only [Option.bind_some, hg, hf, ht]
  unfold oAns
  by_cases a0 : τ 80 (6 * q + k) = 0
  · rw [if_pos a0, if_pos a0]
  rw [if_neg a0, if_neg a0]
  by_cases a1 : τ 80 (6 * q + k) = 1
  · rw [if_pos a1, if_pos a1]
  rw [if_neg a1, if_neg a1]
  by_cases a2 : τ 80 (6 * q + k) = 2
  · rw [if_pos a2, if_pos a2]
  rw [if_neg a2, if_neg a2]
  by_cases a3 : τ 80 (6 * q + k) = 3
  · rw [if_pos a3, if_pos a3]
  rw [if_neg a3, if_neg a3]
  by_cases a4 : τ 80 (6 * q + k) = 4
  · obtain ⟨v, v3, v4⟩ := h4 a4
    rw [if_pos a4, if_pos a4, v4, nI_clamp (show v < 2 ^ 31 by omega)]
    have : v = 0 ∨ v = 1 ∨ v = 2 := by omega
    by_cases e : b.testBit v = true
    · rw [if_pos ((bit_is (by omega) (by omega)).mpr e), if_pos e]
      rcases this with rfl | rfl | rfl
      · exact if_pos (by decide)
      · exact (if_neg (by decide)).trans (if_pos (by decide))
      · exact (if_neg (by decide)).trans (if_neg (by decide))
    · rw [if_neg (fun z => e ((bit_is (by omega) (by omega)).mp z)), if_neg e]
      rcases this with rfl | rfl | rfl
      · exact if_pos (by decide)
      · exact (if_neg (by decide)).trans (if_pos (by decide))
      · exact (if_neg (by decide)).trans (if_neg (by decide))
  rw [if_neg a4, if_neg a4]
def useM (τ : rd_Sg) (q t : Nat) (x : Nat → Int32) : rd_Sg := rd_uc (rd_uc (rd_uc τ 82 (upd (τ 82) q (nI (t + 1)))) 83 (ct3 (τ 83) (τ 76) q (fun _ => 1))) 84 (ct3 (τ 84) (τ 76) q x)
theorem m_byRule (ρ : Nat × (Nat → Int32)) (τ : rd_Sg) {s sg p b g q a t : Nat} {F : Int32} {x : Nat → Int32} (h : Mr τ s sg p b g F) (hq : q < 80) (ha : a ≤ 6) (ha0 : 0 < a) (h79 : τ 79 q = nI a) (h82 : τ 82 q = nI t) (ht : t < 2 ^ 30) (hc : ∀ i, i < 3 → p ≤ i → ¬ τ 76 (3 * q + i) = 6) (h4 : τ 80 (6 * q + min t (a - 1)) = 4 → ∃ v, v < 3 ∧ τ 81 (6 * q + min t (a - 1)) = nI v) : rd_R ρ 162 0 [some (.ref 64), some (.int (nI q)), some (.int (nI s)), some (.int (nI sg)), some (.int (x 0)), some (.int (x 1)), some (.int (x 2)), none, none] [] τ = some (0, MOut (useM τ q t x) (oAns (τ 80 (6 * q + min t (a - 1))) (τ 81 (6 * q + min t (a - 1))) (smF p b x) F (τ 72 s) b x (τ 73))) := by
  have e1 : nI a - 1 = nI (a - 1) := by
    obtain ⟨k, rfl⟩ : ∃ k, a = k + 1 := ⟨a - 1, by omega⟩
    rw [nI_m1]; rfl
  have K : rd_R ρ 162 0 [some (.ref 64), some (.int (nI q)), some (.int (nI s)), some (.int (nI sg)), some (.int (x 0)), some (.int (x 1)), some (.int (x 2)), none, none] [] τ = rd_R ρ 162 20 [some (.ref 64), some (.int (nI q)), some (.int (nI s)), some (.int (nI sg)), some (.int (x 0)), some (.int (x 1)), some (.int (x 2)), none, none] [.int (nI (min t (a - 1)))] τ := by
    rw [q_M_byRule_64, b_chk hq (by decide), b_chk hq (by decide), b_chk hq (by decide), b_chk hq (by decide), nI_clamp (by omega), h82, h79, e1]
    by_cases w : t < a
    · rw [if_pos (nI_lt w (by omega)), show min t (a - 1) = t by omega]
    · rw [if_neg (fun z => w ((p_lt rfl (by omega) (by omega)).mp z)), show min t (a - 1) = a - 1 by omega]
  rw [K, q_M_byRule_64_at20, b_chk hq (by decide), b_chk hq (by decide), nI_clamp (by omega), h82, nI_1, m_catch ρ _ (p := p) h.1.1 h.1.2.1 (by rw [b_une (by decide)]; exact h.1.2.2.2.2.1) hq (by rw [b_une (by decide)]; exact hc)]
  have U : rd_uc (rd_uc (rd_u τ 82 q (nI (t + 1))) 83 (ct3 (rd_u τ 82 q (nI (t + 1)) 83) (rd_u τ 82 q (nI (t + 1)) 76) q (fun _ => 1))) 84 (ct3 (rd_u τ 82 q (nI (t + 1)) 84) (rd_u τ 82 q (nI (t + 1)) 76) q x) = useM τ q t x := by
    rw [b_une (by decide), b_une (by decide), b_une (by decide)]
    unfold useM
    funext c j
    simp only [rd_u, rd_uc, upd]
    grind
  rw [U]
  have G : ∀ c, c ≠ 82 → c ≠ 83 → c ≠ 84 → useM τ q t x c = τ c := fun c h1 h2 h3 => by
    unfold useM
    rw [b_ucne h3, b_ucne h2, b_ucne h1]
  have R := m_give_by ρ (useM τ q t x) (s := s) (sg := sg) (p := p) (b := b) (g := g) (q := q) (k := min t (a - 1)) (F := F) (x := x) (by
    unfold Mr
    rw [G 67 (by decide) (by decide) (by decide), G 68 (by decide) (by decide) (by decide), G 69 (by decide) (by decide) (by decide), G 70 (by decide) (by decide) (by decide), G 64 (by decide) (by decide) (by decide), G 72 (by decide) (by decide) (by decide)]
    exact h) (by omega) (by
    rw [G 80 (by decide) (by decide) (by decide), G 81 (by decide) (by decide) (by decide)]
    exact h4)
  rw [G 80 (by decide) (by decide) (by decide), G 81 (by decide) (by decide) (by decide), G 72 (by decide) (by decide) (by decide), G 73 (by decide) (by decide) (by decide)] at R
  exact R
theorem m_ruleFor (ρ : Nat × (Nat → Int32)) (τ : rd_Sg) {nr s m : Nat} {x G : Nat → Int32} (h16 : τ 64 16 = nI nr) (hnr : nr ≤ 80) (hM : ∀ r, r < nr → rd_R ρ 151 0 [some (.ref 64), some (.int (nI r)), some (.int (nI s)), some (.int (nI m)), some (.int (x 0)), some (.int (x 1)), some (.int (x 2)), none] [] τ = some (G r, τ)) : rd_R ρ 161 0 [some (.ref 64), some (.int (nI s)), some (.int (nI m)), some (.int (x 0)), some (.int (x 1)), some (.int (x 2)), none] [] τ = some (fnF (τ 79) G nr, τ) := by
  rw [q_M_ruleFor_64, h16]
  have L : ∀ n, n ≤ nr → rd_R ρ 161 5 [some (.ref 64), some (.int (nI s)), some (.int (nI m)), some (.int (x 0)), some (.int (x 1)), some (.int (x 2)), some (.int (nI n - 1))] [] τ = some (fnF (τ 79) G n, τ) := by
    intro n
    induction n with
    | zero => intro _; rw [q_M_ruleFor_64_at5, z_m1, if_pos (by decide)]; rfl
    | succ n ih =>
      intro hn
      have ih := ih (by omega)
      rw [q_M_ruleFor_64_at5, nI_m1, if_neg (nI_pos (by omega)), b_chk (show n < 80 by omega) (by decide), nI_clamp (by omega), hM n (by omega)]
      simp only [Option.bind_some]
      unfold fnF
      by_cases a : 0 < τ 79 n
      · rw [if_pos a, if_pos a]
        by_cases c : G n = 0
        · rw [if_pos c, if_pos c, q_M_ruleFor_64_at23, nI_m1', ih]
        · rw [if_neg c, if_neg c]
      · rw [if_neg a, if_neg a, q_M_ruleFor_64_at23, nI_m1', ih]
  exact L nr (Nat.le_refl _)
def rowM (s m p : Nat) (x : Nat → Int32) (how rI v fl : Int32) : Nat → Int32 := fun j => if j = 0 then nI s else if j = 1 then nI m else if j < 5 then (if j - 2 < p then x (j - 2) else 0) else if j = 5 then how else if j = 6 then rI else if j = 7 then v else fl
def recM (τ : rd_Sg) (nl s m p : Nat) (x : Nat → Int32) (rI v : Int32) : rd_Sg :=
  if nl < 500 then rd_uc (rd_uc (rd_uc τ 64 (upd (upd (upd (τ 64) 29 v) 26 1) 23 (nI (nl + 1)))) 86 (upd (upd (upd (upd (τ 86) 0 (τ 64 31)) 1 v) 2 (τ 64 30)) 3 rI)) 85 (va_cpy (rowM s m p x (τ 64 31) rI v (τ 64 30)) (τ 85) 0 (9 * nl) 9)
  else rd_uc (rd_uc τ 64 (upd (upd (upd (τ 64) 29 v) 26 1) 24 (τ 64 24 + 1))) 86 (upd (upd (upd (upd (τ 86) 0 (τ 64 31)) 1 v) 2 (τ 64 30)) 3 rI)
theorem m_rec82 (ρ : Nat × (Nat → Int32)) (τ : rd_Sg) {nl s m p : Nat} {x : Nat → Int32} {rI v : Int32} (o6 o9 o10 : Option Value) (hp : p ≤ 3) (hnl : nl ≤ 500) (h23 : τ 64 23 = nI nl) : rd_R ρ 163 82 [some (.ref 64), some (.int (nI s)), some (.int (nI m)), some (.int (x 0)), some (.int (x 1)), some (.int (x 2)), o6, some (.int (nI p)), some (.int rI), o9, o10] [.int v] τ = some (0, recM τ nl s m p x rI v) := by
  have l0 : ((0 : Int32) < nI p) ↔ 0 < p := p_lt (p := 0) rfl (by decide) (by omega)
  have l1 : ((1 : Int32) < nI p) ↔ 1 < p := p_lt (p := 1) rfl (by decide) (by omega)
  have l2 : ((2 : Int32) < nI p) ↔ 2 < p := p_lt (p := 2) rfl (by decide) (by omega)
  rw [q_M_answerCall_64_at82, h23]
  unfold recM
  by_cases c : nl < 500
  · rw [if_neg (fun z => by have := (nI_eq (by omega) (by decide)).mp (z.trans (show (500 : Int32) = nI 500 by decide)); omega), if_pos c]
    have y0 : 9 * nI nl = nI (9 * nl) := by rw [show (9 : Int32) = nI 9 by decide, pk_mul]
    rw [y0, a_lit (k := 1) (by decide), a_lit (k := 2) (by decide), b_chk (by omega) (by decide), b_chk (by omega) (by decide), nI_clamp (by omega), nI_clamp (by omega)]
    have A173 : ∀ (o1 o2 o3 o4 o5 o7 : Option Value) (w : Int32) (τ' : rd_Sg), rd_R ρ 163 173 [some (.ref 64), o1, o2, o3, o4, o5, o6, o7, some (.int rI), some (.int v), some (.int (nI (9 * nl)))] [.int w, .int (nI (9 * nl) + 4), .ref 85] τ' = some (0, rd_u (rd_u (rd_u (rd_u (rd_u (rd_u τ' 85 (9 * nl + 4) w) 85 (9 * nl + 5) (τ' 64 31)) 85 (9 * nl + 6) rI) 85 (9 * nl + 7) v) 85 (9 * nl + 8) (τ' 64 30)) 64 23 (τ' 64 23 + 1)) := by
      intro o1 o2 o3 o4 o5 o7 w τ'
      rw [q_M_answerCall_64_at173, a_lit (k := 4) (by decide), a_lit (k := 5) (by decide), a_lit (k := 6) (by decide), a_lit (k := 7) (by decide), a_lit (k := 8) (by decide), b_chk (by omega) (by decide), b_chk (by omega) (by decide), b_chk (by omega) (by decide), b_chk (by omega) (by decide), b_chk (by omega) (by decide), nI_clamp (by omega), nI_clamp (by omega), nI_clamp (by omega), nI_clamp (by omega), nI_clamp (by omega)]
    have A161 : ∀ (o1 o2 o3 o4 : Option Value) (w : Int32) (τ' : rd_Sg), rd_R ρ 163 161 [some (.ref 64), o1, o2, o3, o4, some (.int (x 2)), o6, some (.int (nI p)), some (.int rI), some (.int v), some (.int (nI (9 * nl)))] [.int w, .int (nI (9 * nl) + 3), .ref 85] τ' = some (0, rd_u (rd_u (rd_u (rd_u (rd_u (rd_u (rd_u τ' 85 (9 * nl + 3) w) 85 (9 * nl + 4) (if 2 < p then x 2 else 0)) 85 (9 * nl + 5) (τ' 64 31)) 85 (9 * nl + 6) rI) 85 (9 * nl + 7) v) 85 (9 * nl + 8) (τ' 64 30)) 64 23 (τ' 64 23 + 1)) := by
      intro o1 o2 o3 o4 w τ'
      rw [q_M_answerCall_64_at161, a_lit (k := 3) (by decide), b_chk (by omega) (by decide), nI_clamp (by omega), A173, A173]
      simp only [rd_un, ne_eq, Nat.reduceEqDiff, not_false_eq_true]
      by_cases w : 2 < p
      · rw [if_pos (l2.mpr w), if_pos w]
      · rw [if_neg (fun z => w (l2.mp z)), if_neg w]
    have A149 : ∀ (o1 o2 o3 : Option Value) (w : Int32) (τ' : rd_Sg), rd_R ρ 163 149 [some (.ref 64), o1, o2, o3, some (.int (x 1)), some (.int (x 2)), o6, some (.int (nI p)), some (.int rI), some (.int v), some (.int (nI (9 * nl)))] [.int w, .int (nI (9 * nl + 2)), .ref 85] τ' = some (0, rd_u (rd_u (rd_u (rd_u (rd_u (rd_u (rd_u (rd_u τ' 85 (9 * nl + 2) w) 85 (9 * nl + 3) (if 1 < p then x 1 else 0)) 85 (9 * nl + 4) (if 2 < p then x 2 else 0)) 85 (9 * nl + 5) (τ' 64 31)) 85 (9 * nl + 6) rI) 85 (9 * nl + 7) v) 85 (9 * nl + 8) (τ' 64 30)) 64 23 (τ' 64 23 + 1)) := by
      intro o1 o2 o3 w τ'
      rw [q_M_answerCall_64_at149, b_chk (by omega) (by decide), nI_clamp (by omega), A161, A161]
      simp only [rd_un, ne_eq, Nat.reduceEqDiff, not_false_eq_true]
      by_cases w : 1 < p
      · rw [if_pos (l1.mpr w), if_pos w]
      · rw [if_neg (fun z => w (l1.mp z)), if_neg w]
    rw [A149, A149]
    have E : ∀ (τ1 τ2 : rd_Sg) (P : Prop) [Decidable P], τ1 = τ2 → (if P then some ((0 : Int32), τ1) else some (0, τ2)) = some (0, τ1) := by
      intro τ1 τ2 P _ e
      subst e
      exact ite_self _
    have x2 : ∀ {w : Int32}, w = (if 0 < p then x 0 else 0) → rd_u (rd_u (rd_u (rd_u (rd_u (rd_u (rd_u (rd_u (rd_u (rd_u (rd_u (rd_u (rd_u (rd_u (rd_u (rd_u τ 64 29 v) 86 0 (τ 64 31)) 86 1 v) 86 2 (τ 64 30)) 86 3 rI) 64 26 1) 85 (9 * nl) (nI s)) 85 (9 * nl + 1) (nI m)) 85 (9 * nl + 2) w) 85 (9 * nl + 3) (if 1 < p then x 1 else 0)) 85 (9 * nl + 4) (if 2 < p then x 2 else 0)) 85 (9 * nl + 5) (τ 64 31)) 85 (9 * nl + 6) rI) 85 (9 * nl + 7) v) 85 (9 * nl + 8) (τ 64 30)) 64 23 (nI nl + 1) = rd_uc (rd_uc (rd_uc τ 64 (upd (upd (upd (τ 64) 29 v) 26 1) 23 (nI (nl + 1)))) 86 (upd (upd (upd (upd (τ 86) 0 (τ 64 31)) 1 v) 2 (τ 64 30)) 3 rI)) 85 (va_cpy (rowM s m p x (τ 64 31) rI v (τ 64 30)) (τ 85) 0 (9 * nl) 9) := by
      intro w hw
      rw [nI_1, hw]
      funext c
      by_cases e1 : c = 85
      · subst e1
        simp only [b_une, b_ueq, b_ucne, b_uceq, ne_eq, Nat.reduceEqDiff, not_false_eq_true]
        funext j
        simp only [upd, va_cpy, rowM]
        by_cases e2 : 9 * nl ≤ j ∧ j < 9 * nl + 9
        · rw [if_pos e2]
          obtain ⟨i, rfl⟩ : ∃ i, j = 9 * nl + i := ⟨j - 9 * nl, by omega⟩
          rw [show 0 + (9 * nl + i - 9 * nl) = i by omega]
          have : i = 0 ∨ i = 1 ∨ i = 2 ∨ i = 3 ∨ i = 4 ∨ i = 5 ∨ i = 6 ∨ i = 7 ∨ i = 8 := by omega
          rcases this with rfl | rfl | rfl | rfl | rfl | rfl | rfl | rfl | rfl <;> simp
        · rw [if_neg e2, if_neg (by omega), if_neg (by omega), if_neg (by omega), if_neg (by omega), if_neg (by omega), if_neg (by omega), if_neg (by omega), if_neg (by omega), if_neg (by omega)]
      · funext j
        by_cases e2 : c = 64
        · subst e2
          simp only [rd_u, rd_uc, upd]
          grind (splits := 60)
        · by_cases e3 : c = 86
          · subst e3
            simp only [rd_u, rd_uc, upd]
            grind (splits := 60)
          · simp only [rd_u, rd_uc, e1, e2, e3, false_and, if_false]
    simp only [rd_un, ne_eq, Nat.reduceEqDiff, not_false_eq_true]
    by_cases w : 0 < p
    · rw [if_pos (l0.mpr w)]
      congr 2
      refine Eq.trans ?_ (x2 (w := x 0) (by rw [if_pos w]))
      simp only [rd_u, h23]
      rfl
    · rw [if_neg (fun z => w (l0.mp z))]
      congr 2
      refine Eq.trans ?_ (x2 (w := 0) (by rw [if_neg w]))
      simp only [rd_u, h23]
      rfl
  · have : nl = 500 := by omega
    subst this
    rw [if_pos (by decide), if_neg c]
    congr 2
    funext c j
    simp only [rd_u, rd_uc, upd]
    grind (splits := 60)
theorem m_rec51 (ρ : Nat × (Nat → Int32)) (τ : rd_Sg) {nl s m sg p g : Nat} {x : Nat → Int32} {rI : Int32} (o9 o10 : Option Value) (hsg : sg < 96) (h69 : τ 69 sg = nI g) (hp : p ≤ 3) (hnl : nl ≤ 500) (h23 : τ 64 23 = nI nl) : rd_R ρ 163 51 [some (.ref 64), some (.int (nI s)), some (.int (nI m)), some (.int (x 0)), some (.int (x 1)), some (.int (x 2)), some (.int (nI sg)), some (.int (nI p)), some (.int rI), o9, o10] [] τ = some (0, recM τ nl s m p x rI (gvF (nI g) (τ 64 28) (τ 64 29))) := by
  have A := fun v => m_rec82 ρ τ (nl := nl) (s := s) (m := m) (p := p) (x := x) (rI := rI) (v := v) (some (.int (nI sg))) o9 o10 hp hnl h23
  rw [q_M_answerCall_64_at51, b_chk hsg (by decide), b_chk hsg (by decide), nI_clamp (by omega), h69, A, A, A]
  unfold gvF
  by_cases g1 : nI g = 1
  · rw [if_pos g1, if_pos g1]
    by_cases e : τ 64 28 = 1
    · rw [if_pos e, if_pos e]
    · rw [if_neg e, if_neg e]
  · rw [if_neg g1, if_neg g1]
    by_cases g2 : nI g = 2
    · rw [if_pos g2, if_pos g2]
      by_cases e : τ 64 28 = 2
      · rw [if_pos e, if_pos e]
      · rw [if_neg e, if_neg e]
    · rw [if_neg g2, if_neg g2]
