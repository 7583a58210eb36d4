variable {B : Nat}
/-! run: tries, what a call by a cue brings -/
/-- the tries that are open, both sides -/
def TR (σ τ : rd_Sg) (k : Nat) : Prop := k ≤ 10 ∧ σ 57 0 = nI k ∧ τ 64 52 = nI k ∧ ∀ j, j < k → σ 58 j = τ 100 j ∧ σ 59 j = τ 101 j ∧ σ 60 j = τ 102 j ∧ ∃ t, t ≤ 60 ∧ τ 102 j = nI t
def TS (σ : rd_Sg) (a b c : Nat → Int32) : rd_Sg := rd_uc (rd_uc (rd_uc σ 58 a) 59 b) 60 c
def TM (τ : rd_Sg) (a b c : Nat → Int32) : rd_Sg := rd_uc (rd_uc (rd_uc τ 100 a) 101 b) 102 c
theorem TS_58 {σ : rd_Sg} {a b c : Nat → Int32} : TS σ a b c 58 = a := by unfold TS; rw [b_ucne (by decide), b_ucne (by decide), b_uceq]
theorem TS_59 {σ : rd_Sg} {a b c : Nat → Int32} : TS σ a b c 59 = b := by unfold TS; rw [b_ucne (by decide), b_uceq]
theorem TS_60 {σ : rd_Sg} {a b c : Nat → Int32} : TS σ a b c 60 = c := by unfold TS; rw [b_uceq]
theorem TS_o {σ : rd_Sg} {a b c : Nat → Int32} {k : Nat} (h : k < 58 ∨ 60 < k) : TS σ a b c k = σ k := by unfold TS; rw [b_ucne (by omega), b_ucne (by omega), b_ucne (by omega)]
theorem TM_100 {σ : rd_Sg} {a b c : Nat → Int32} : TM σ a b c 100 = a := by unfold TM; rw [b_ucne (by decide), b_ucne (by decide), b_uceq]
theorem TM_101 {σ : rd_Sg} {a b c : Nat → Int32} : TM σ a b c 101 = b := by unfold TM; rw [b_ucne (by decide), b_uceq]
theorem TM_102 {σ : rd_Sg} {a b c : Nat → Int32} : TM σ a b c 102 = c := by unfold TM; rw [b_uceq]
theorem TM_o {σ : rd_Sg} {a b c : Nat → Int32} {k : Nat} (h : k < 100 ∨ 102 < k) : TM σ a b c k = σ k := by unfold TM; rw [b_ucne (by omega), b_ucne (by omega), b_ucne (by omega)]
theorem TS_u {σ : rd_Sg} {a b c : Nat → Int32} {j : Nat} {x y z : Int32} : rd_u (rd_u (rd_u (TS σ a b c) 58 j x) 59 j y) 60 j z = TS σ (upd a j x) (upd b j y) (upd c j z) := by
  funext k i; simp only [TS, rd_u, rd_uc, upd]; grind (splits := 30)
theorem TM_u {σ : rd_Sg} {a b c : Nat → Int32} {j : Nat} {x y z : Int32} : rd_u (rd_u (rd_u (TM σ a b c) 100 j x) 101 j y) 102 j z = TM σ (upd a j x) (upd b j y) (upd c j z) := by
  funext k i; simp only [TM, rd_u, rd_uc, upd]; grind (splits := 30)
theorem TS_self {σ : rd_Sg} : TS σ (σ 58) (σ 59) (σ 60) = σ := by
  funext k i; simp only [TS, rd_uc]; grind
theorem TM_self {σ : rd_Sg} : TM σ (σ 100) (σ 101) (σ 102) = σ := by
  funext k i; simp only [TM, rd_uc]; grind
/-- the loops that close the tries that were left, side by side -/
theorem flt_loop (ρ : Nat × (Nat → Int32)) {σ τ : rd_Sg} {k : Nat} (p : Int32) (hk : k ≤ 10) (h57 : σ 57 0 = nI k) (h52 : τ 64 52 = nI k) : ∀ d i n (a b c a' b' c' : Nat → Int32), i + d = k → n ≤ i → (∀ j, j < n ∨ (i ≤ j ∧ j < k) → a j = a' j ∧ b j = b' j ∧ c j = c' j ∧ ∃ t, t ≤ 60 ∧ c' j = nI t) →
    ∃ n' a1 b1 c1 a1' b1' c1', n' ≤ k ∧ rd_R ρ 98 4 [some (.ref 57), some (.int p), some (.int (nI n)), some (.int (nI i))] [] (TS σ a b c) = some (0, rd_u (TS σ a1 b1 c1) 57 0 (nI n')) ∧ rd_R ρ 186 4 [some (.ref 64), some (.int p), some (.int (nI n)), some (.int (nI i))] [] (TM τ a' b' c') = some (0, rd_u (TM τ a1' b1' c1') 64 52 (nI n')) ∧ ∀ j, j < n' → a1 j = a1' j ∧ b1 j = b1' j ∧ c1 j = c1' j ∧ ∃ t, t ≤ 60 ∧ c1' j = nI t := by
  intro d
  induction d with
  | zero =>
    intro i n a b c a' b' c' hi hn h
    refine ⟨n, a, b, c, a', b', c', by omega, ?_, ?_, fun j hj => h j (Or.inl hj)⟩
    · rw [q_X9_closeLeft_57_at4, TS_o (by omega), h57, if_neg (fun q => absurd ((p_lt rfl (by omega) (by omega)).mp q) (by omega))]
    · rw [q_M_comeTo_64_at4, TM_o (by omega), h52, if_neg (fun q => absurd ((p_lt rfl (by omega) (by omega)).mp q) (by omega))]
  | succ d ih =>
    intro i n a b c a' b' c' hi hn h
    obtain ⟨e1, e2, e3, t, t1, t2⟩ := h i (Or.inr ⟨by omega, by omega⟩)
    have D : rd_R ρ 98 4 [some (.ref 57), some (.int p), some (.int (nI n)), some (.int (nI i))] [] (TS σ a b c) = if inF p (a i) (b i) = 0 then rd_R ρ 98 4 [some (.ref 57), some (.int p), some (.int (nI n)), some (.int (nI (i + 1)))] [] (TS σ a b c) else rd_R ρ 98 4 [some (.ref 57), some (.int p), some (.int (nI (n + 1))), some (.int (nI (i + 1)))] [] (TS σ (upd a n (a i)) (upd b n (b i)) (upd c n (c i))) := by
      rw [q_X9_closeLeft_57_at4, TS_o (by omega), h57, if_pos (nI_lt (show i < k by omega) (by omega))]
      simp only [b_chk (show i < 10 by omega) (show 10 < 2 ^ 31 by decide), b_chk (show n < 10 by omega) (show 10 < 2 ^ 31 by decide), nI_clamp (show i < 2 ^ 31 by omega), nI_clamp (show n < 2 ^ 31 by omega), TS_58, TS_59, TS_60, TS_u, q_X9_closeLeft_57_at45, nI_1]
      unfold inF
      by_cases q1 : p < a i
      · rw [if_pos q1, if_pos q1, if_pos rfl]
      · rw [if_neg q1, if_neg q1]
        by_cases q2 : b i < p
        · rw [if_pos q2, if_pos q2, if_pos rfl]
        · rw [if_neg q2, if_neg q2, if_neg (by decide)]
    have M : rd_R ρ 186 4 [some (.ref 64), some (.int p), some (.int (nI n)), some (.int (nI i))] [] (TM τ a' b' c') = if inF p (a' i) (b' i) = 0 then rd_R ρ 186 4 [some (.ref 64), some (.int p), some (.int (nI n)), some (.int (nI (i + 1)))] [] (TM τ a' b' c') else rd_R ρ 186 4 [some (.ref 64), some (.int p), some (.int (nI (n + 1))), some (.int (nI (i + 1)))] [] (TM τ (upd a' n (a' i)) (upd b' n (b' i)) (upd c' n (c' i))) := by
      rw [q_M_comeTo_64_at4, TM_o (by omega), h52, if_pos (nI_lt (show i < k by omega) (by omega))]
      simp only [b_chk (show i < 10 by omega) (show 10 < 2 ^ 31 by decide), b_chk (show n < 10 by omega) (show 10 < 2 ^ 31 by decide), nI_clamp (show i < 2 ^ 31 by omega), nI_clamp (show n < 2 ^ 31 by omega), TM_100, TM_101, TM_102, m_inF, Option.bind_some, TM_u, q_M_comeTo_64_at44, nI_1]
    rw [D, M, e1, e2]
    by_cases q : inF p (a' i) (b' i) = 0
    · rw [if_pos q, if_pos q]
      exact ih (i + 1) n a b c a' b' c' (by omega) (by omega) (fun j hj => h j (by omega))
    · rw [if_neg q, if_neg q]
      refine ih (i + 1) (n + 1) _ _ _ _ _ _ (by omega) (by omega) (fun j hj => ?_)
      by_cases w : j = n
      · subst w
        rw [b_ups, b_ups, b_ups, b_ups, b_ups, b_ups, e3]
        exact ⟨rfl, rfl, rfl, t, t1, t2⟩
      · rw [b_upn w, b_upn w, b_upn w, b_upn w, b_upn w, b_upn w]
        exact h j (by omega)
theorem flt (ρ : Nat × (Nat → Int32)) {σ τ : rd_Sg} {k : Nat} (p : Int32) (h : TR σ τ k) : ∃ k' σ' τ', rd_R ρ 98 0 [some (.ref 57), some (.int p), none, none] [] σ = some (0, σ') ∧ rd_R ρ 186 0 [some (.ref 64), some (.int p), none, none] [] τ = some (0, τ') ∧ TR σ' τ' k' ∧ (∀ c, c < 57 ∨ 60 < c → σ' c = σ c) ∧ (∀ c, c ≠ 64 → c < 100 ∨ 102 < c → τ' c = τ c) ∧ ∀ j, j ≠ 52 → τ' 64 j = τ 64 j := by
  obtain ⟨h1, h2, h3, h4⟩ := h
  obtain ⟨n', a1, b1, c1, a1', b1', c1', g1, g2, g3, g4⟩ := flt_loop ρ p h1 h2 h3 k 0 0 (σ 58) (σ 59) (σ 60) (τ 100) (τ 101) (τ 102) (by omega) (by omega) (fun j hj => h4 j (by omega))
  rw [TS_self] at g2
  rw [TM_self] at g3
  refine ⟨n', rd_u (TS σ a1 b1 c1) 57 0 (nI n'), rd_u (TM τ a1' b1' c1') 64 52 (nI n'), ?_, ?_, ⟨by omega, ?_, ?_, fun j hj => ?_⟩, fun c hc => ?_, fun c h1 h2 => ?_, fun j hj => ?_⟩
  · rw [q_X9_closeLeft_57]; exact g2
  · rw [q_M_comeTo_64]; exact g3
  · exact rd_us
  · exact rd_us
  · rw [b_une (by decide), b_une (by decide), b_une (by decide), b_une (by decide), b_une (by decide), b_une (by decide), TS_58, TS_59, TS_60, TM_100, TM_101, TM_102]
    exact g4 j hj
  · rw [b_une (by omega), TS_o (by omega)]
  · rw [b_une h1, TM_o (by omega)]
  · rw [b_ueq, b_upn hj, TM_o (by omega)]
/-- the invariant, where only what a run moves has moved -/
theorem run_inv {B' : Nat} {σ τ σ1 τ1 : rd_Sg} {ns nt nd : Nat} (hI : Inv B (mix σ τ)) (hb : B ≤ B') (h91 : σ 9 1 = nI ns) (hns : ns ≤ 24) (hD : ∀ c, c < 56 → σ1 c = σ c) (hM : ∀ c, c ≠ 64 → c < 97 → τ1 c = τ c) (hM64 : ∀ j, j < 48 → τ1 64 j = τ 64 j) (h61 : σ1 61 = τ1 97) (h63 : σ1 63 = τ1 99) (hnt : nt ≤ 100 ∧ σ1 56 8 = nI nt ∧ τ1 64 50 = nI nt) (hnd : nd < 30000 ∧ σ1 56 9 = nI nd ∧ τ1 64 49 = nI nd) (hst : ∀ i, i < 4 → StV ns (σ1 62 i)) (h62 : σ1 62 = τ1 98) (h48 : τ1 64 48 = 0) : Inv B' (mix σ1 τ1) := by
  have hI := hI.le hb
  rw [Inv.two] at hI ⊢
  obtain ⟨nf, ns', nr, ne, nl, nc, no, -, -, lo, hA, hB, hC, hL, hE, hF, -⟩ := hI
  have : ns' = ns := (nI_eq (by have := hA.2.2.2.2.2.1; omega) (by omega)).mp (hA.1.2.2.1.symm.trans h91)
  subst this
  refine ⟨nf, ns', nr, ne, nl, nc, no, nt, nd, lo, ?_⟩
  simp only [hD 1 (by decide), hD 2 (by decide), hD 3 (by decide), hD 4 (by decide), hD 5 (by decide), hD 6 (by decide), hD 7 (by decide), hD 8 (by decide), hD 9 (by decide), hD 10 (by decide), hD 11 (by decide), hD 12 (by decide), hD 13 (by decide), hD 15 (by decide), hD 16 (by decide), hD 17 (by decide), hD 18 (by decide), hD 19 (by decide), hD 20 (by decide), hD 21 (by decide), hD 22 (by decide), hD 23 (by decide), hD 24 (by decide), hD 25 (by decide), hD 26 (by decide), hD 27 (by decide), hD 28 (by decide), hD 29 (by decide), hD 30 (by decide), hD 32 (by decide), hD 33 (by decide), hD 34 (by decide), hD 35 (by decide), hD 36 (by decide), hD 37 (by decide), hD 38 (by decide), hD 39 (by decide), hD 40 (by decide), hD 41 (by decide), hD 42 (by decide), hD 43 (by decide), hD 44 (by decide), hD 49 (by decide), hD 50 (by decide), hD 51 (by decide), hD 52 (by decide), hD 53 (by decide), hD 54 (by decide), hD 55 (by decide), hM 65 (by decide) (by decide), hM 66 (by decide) (by decide), hM 67 (by decide) (by decide), hM 68 (by decide) (by decide), hM 69 (by decide) (by decide), hM 70 (by decide) (by decide), hM 71 (by decide) (by decide), hM 72 (by decide) (by decide), hM 73 (by decide) (by decide), hM 74 (by decide) (by decide), hM 75 (by decide) (by decide), hM 76 (by decide) (by decide), hM 77 (by decide) (by decide), hM 78 (by decide) (by decide), hM 79 (by decide) (by decide), hM 80 (by decide) (by decide), hM 81 (by decide) (by decide), hM 82 (by decide) (by decide), hM 83 (by decide) (by decide), hM 84 (by decide) (by decide), hM 85 (by decide) (by decide), hM 86 (by decide) (by decide), hM 87 (by decide) (by decide), hM 88 (by decide) (by decide), hM 89 (by decide) (by decide), hM 90 (by decide) (by decide), hM 91 (by decide) (by decide), hM 92 (by decide) (by decide), hM 93 (by decide) (by decide), hM 94 (by decide) (by decide), hM 95 (by decide) (by decide), hM 96 (by decide) (by decide), hM64 0 (by decide), hM64 7 (by decide), hM64 16 (by decide), hM64 23 (by decide), hM64 24 (by decide), hM64 26 (by decide), hM64 32 (by decide), hM64 35 (by decide), hM64 39 (by decide), hM64 41 (by decide)]
  exact ⟨hA, hB, hC, hL, hE, hF, ⟨⟨h61, h63, hnt.1, hnt.2.1, hnt.2.2, hnd.1, hnd.2.1, hnd.2.2⟩, hst, Or.inr ⟨h48, h62⟩⟩⟩
/-- how many stands, how many wholes, were brought before -/
def sN (b : Nat) : Nat → Nat
  | 0 => 0
  | i + 1 => sN b i + (if b.testBit i = true then 1 else 0)
def wN (b : Nat) : Nat → Nat
  | 0 => 0
  | i + 1 => wN b i + (if b.testBit i = true then 0 else 1)
theorem sN_le (b : Nat) : ∀ i, sN b i ≤ i := by
  intro i
  induction i with
  | zero => exact Nat.le_refl 0
  | succ i ih => unfold sN; split <;> omega
theorem wN_le (b : Nat) : ∀ i, wN b i ≤ i := by
  intro i
  induction i with
  | zero => exact Nat.le_refl 0
  | succ i ih => unfold wN; split <;> omega
def yF (b : Nat) (wh he : Nat → Int32) (i : Nat) : Int32 := if b.testBit i = true then he (sN b i) else wh (wN b i)
def xF2 (b p : Nat) (wh he : Nat → Int32) (i : Nat) : Int32 := if i < p then yF b wh he i else 0
theorem rdyF_x {σ : rd_Sg} {s m sg p b : Nat} {x y : Nat → Int32} (h : ∀ i, i < p → x i = y i) (hp : p ≤ 3) : rdyF σ s m sg p b x = rdyF σ s m sg p b y := by
  have e1 : rowF (σ 30) s m p x = rowF (σ 30) s m p y := by
    funext j
    unfold rowF
    by_cases q : j - 2 < p
    · rw [if_pos q, if_pos q, h _ q]
    · rw [if_neg q, if_neg q]
  have e2 : ∀ i, wF p b i (x i) = wF p b i (y i) := fun i => by
    unfold wF
    by_cases q : i < p ∧ b.testBit i = false
    · rw [if_pos q, if_pos q, h i q.1]
    · rw [if_neg q, if_neg q]
  unfold rdyF smF
  rw [e1, e2, e2, e2]
set_option maxHeartbeats 4000000 in
theorem d_bringAll (ρ : Nat × (Nat → Int32)) (σ : rd_Sg) {s m sg p b g : Nat} {F : Int32} (h : SD (σ 5) (σ 6) (σ 7) (σ 8) sg p b g F) : rd_R ρ 7 0 [some (.ref 56), some (.int (nI sg)), none, none, none] [] (rd_uc (rd_uc σ 30 (rowF (σ 30) s m 0 (σ 30))) 31 (stF (σ 31) sg 0)) = some (0, rdyF σ s m sg p b (xF2 b p (σ 61) (σ 62))) := by
  have hp := h.2.1
  have ST : ∀ i q (y : Nat → Int32) (sm : Int32), i < 3 → q = min i p → (∀ j, j < i → yF b (σ 61) (σ 62) j = y j) → rd_R ρ 7 6 [some (.ref 56), some (.int (nI sg)), some (.int (nI (wN b i))), some (.int (nI (sN b i))), some (.int (nI i))] [] (rd_uc (rd_uc σ 30 (rowF (σ 30) s m q y)) 31 (stF (σ 31) sg sm)) = rd_R ρ 7 6 [some (.ref 56), some (.int (nI sg)), some (.int (nI (wN b (i + 1)))), some (.int (nI (sN b (i + 1)))), some (.int (nI (i + 1)))] [] (rd_uc (rd_uc σ 30 (rowF (σ 30) s m (min (i + 1) p) (yF b (σ 61) (σ 62)))) 31 (stF (σ 31) sg (sm + wF p b i (yF b (σ 61) (σ 62) i)))) := by
    intro i q y sm hi hq hy
    have w1 := sN_le b i
    have w2 := wN_le b i
    have B1 := d_b1 ρ σ (s := s) (m := m) (x := yF b (σ 61) (σ 62)) (y := y) (q := q) (sm := sm) h hi hq hy
    rw [q_X0_bringAll_56_at6, if_pos (lt_lit 3 3 (by decide) hi (by decide)), d_ts ρ _ (p := p) (b := b) (g := g) (F := F) (by rw [b_ucne (by decide), b_ucne (by decide), b_ucne (by decide), b_ucne (by decide), b_ucne (by decide), b_ucne (by decide), b_ucne (by decide), b_ucne (by decide)]; exact h) hi]
    simp only [Option.bind_some]
    rw [b_chk (show wN b i < 8 by omega) (by decide), b_chk (show sN b i < 4 by omega) (by decide), nI_clamp (show wN b i < 2 ^ 31 by omega), nI_clamp (show sN b i < 2 ^ 31 by omega), b_ucne (show (61 : Nat) ≠ 31 by decide), b_ucne (show (61 : Nat) ≠ 30 by decide), b_ucne (show (62 : Nat) ≠ 31 by decide), b_ucne (show (62 : Nat) ≠ 30 by decide)]
    have s1 : sN b (i + 1) = sN b i + (if b.testBit i = true then 1 else 0) := rfl
    have s2 : wN b (i + 1) = wN b i + (if b.testBit i = true then 0 else 1) := rfl
    rw [s1, s2]
    have y1 : yF b (σ 61) (σ 62) i = if b.testBit i = true then σ 62 (sN b i) else σ 61 (wN b i) := rfl
    cases e : b.testBit i
    · rw [e] at y1
      rw [y1] at B1
      rw [show b2 false = 0 from rfl, if_pos rfl, y1]
      simp only [Bool.false_eq_true, if_false] at B1 ⊢
      rw [B1]
      simp only [Option.bind_some]
      rw [q_X0_bringAll_56_at34, nI_1, nI_1]
      rfl
    · rw [e] at y1
      rw [y1] at B1
      rw [show b2 true = 1 from rfl, if_neg (by decide), y1]
      simp only [if_true] at B1 ⊢
      rw [B1]
      simp only [Option.bind_some]
      rw [q_X0_bringAll_56_at34, nI_1, nI_1]
      rfl
  have R : rdyF σ s m sg p b (xF2 b p (σ 61) (σ 62)) = rdyF σ s m sg p b (yF b (σ 61) (σ 62)) := rdyF_x (fun i hi => by unfold xF2; rw [if_pos hi]) hp
  rw [R, q_X0_bringAll_56]
  refine (ST 0 0 (σ 30) 0 (by decide) (by omega) (fun j hj => absurd hj (by omega))).trans ?_
  rw [ST (0 + 1) _ _ _ (by decide) rfl (fun j hj => rfl), ST (0 + 1 + 1) _ _ _ (by decide) rfl (fun j hj => rfl), q_X0_bringAll_56_at6, if_neg (by decide)]
  unfold rdyF smF
  rw [i_0add, show min (0 + 1 + 1 + 1) p = p by omega]
theorem m_next (ρ : Nat × (Nat → Int32)) (τ : rd_Sg) {sg p b g i : Nat} {F : Int32} (h : SD (τ 67) (τ 68) (τ 69) (τ 70) sg p b g F) (hi : i < 3) (h57 : τ 64 57 = nI (sN b (min i p))) (h56 : τ 64 56 = nI (wN b (min i p))) : rd_R ρ 183 0 [some (.ref 64), some (.int (nI sg)), some (.int (nI i))] [] τ = some (xF2 b p (τ 97) (τ 98) i, rd_uc τ 64 (upd (upd (τ 64) 56 (nI (wN b (min (i + 1) p)))) 57 (nI (sN b (min (i + 1) p))))) := by
  have hb8 := h.b8
  obtain ⟨h1, h2, h3, h4, h5, h6, h7, h8⟩ := h
  have w1 := sN_le b i
  have w2 := wN_le b i
  rw [q_M_nextFor_64, b_chk h1 (by decide), b_chk h1 (by decide), nI_clamp (by omega), h5, h6]
  unfold xF2 yF
  by_cases c : i < p
  · rw [show min i p = i by omega] at h57 h56
    have s1 : sN b (i + 1) = sN b i + (if b.testBit i = true then 1 else 0) := rfl
    have s2 : wN b (i + 1) = wN b i + (if b.testBit i = true then 0 else 1) := rfl
    rw [if_pos (nI_lt c (by omega)), if_pos c, show min (i + 1) p = i + 1 by omega, h57, h56, s1, s2]
    by_cases e : b.testBit i = true
    · rw [if_pos ((bit_is (by omega) (by omega)).mpr e), if_pos e, if_pos e, if_pos e, nI_1, nI_m1, b_chk (by omega) (by decide), nI_clamp (by omega), Nat.add_zero]
      congr 2
      funext k j
      simp only [rd_u, rd_uc, upd]
      grind
    · rw [if_neg (fun z => e ((bit_is (by omega) (by omega)).mp z)), if_neg e, if_neg e, if_neg e, nI_1, nI_m1, b_chk (by omega) (by decide), nI_clamp (by omega), Nat.add_zero]
      congr 2
      funext k j
      simp only [rd_u, rd_uc, upd]
      grind
  · rw [show min i p = p by omega] at h57 h56
    rw [if_neg (fun w => c ((p_lt rfl (by omega) (by omega)).mp w)), if_neg c, show min (i + 1) p = p by omega]
    congr 2
    funext k j
    simp only [rd_uc, upd]
    grind
