variable {B : Nat}
/-! verify -/
abbrev Wt := Nat × (Nat → Int32)
def ntF (w : Wt) (a b c : Int32) : Wt := if w.1 < 60 then (w.1 + 1, upd (upd (upd w.2 (3 * w.1) a) (3 * w.1 + 1) b) (3 * w.1 + 2) c) else w
theorem ntF_le {w : Wt} {a b c : Int32} (h : w.1 ≤ 60) : (ntF w a b c).1 ≤ 60 := by
  unfold ntF
  split
  · show w.1 + 1 ≤ 60; omega
  · exact h
def Wn (σ : rd_Sg) (w : Wt) : rd_Sg := rd_uc (rd_uc σ 49 (upd (σ 49) 1 (nI w.1))) 50 w.2
def Vn (τ : rd_Sg) (w : Wt) : rd_Sg := rd_uc (rd_uc τ 64 (upd (τ 64) 39 (nI w.1))) 92 w.2
theorem Wn_o {σ : rd_Sg} {w : Wt} {c : Nat} (h : c < 49 ∨ 50 < c) : Wn σ w c = σ c := by unfold Wn; rw [b_ucne (by omega), b_ucne (by omega)]
theorem Vn_o {τ : rd_Sg} {w : Wt} {c : Nat} (h1 : c ≠ 64) (h2 : c ≠ 92) : Vn τ w c = τ c := by unfold Vn; rw [b_ucne h2, b_ucne h1]
theorem Vn_64 {τ : rd_Sg} {w : Wt} {j : Nat} (h : j ≠ 39) : Vn τ w 64 j = τ 64 j := by unfold Vn; rw [b_ucne (by decide), b_uceq, b_upn h]
theorem d_note (ρ : Nat × (Nat → Int32)) (σ : rd_Sg) {w : Wt} (hw : w.1 ≤ 60) (a b c : Int32) : rd_R ρ 106 0 [some (.ref 49), some (.int a), some (.int b), some (.int c), none] [] (Wn σ w) = some (0, Wn σ (ntF w a b c)) := by
  have e1 : Wn σ w 49 1 = nI w.1 := by unfold Wn; rw [b_ucne (by decide), b_uceq, b_ups]
  rw [q_X10_add_49, e1]
  unfold ntF
  by_cases q : w.1 < 60
  · have e3 : nI w.1 * 3 = nI (3 * w.1) := by rw [show (3 : Int32) = nI 3 by decide, pk_mul, Nat.mul_comm]
    rw [if_pos (lt_lit 60 60 (by decide) q (by decide)), if_pos q, e3, a_lit (k := 1) (by decide), a_lit (k := 2) (by decide), b_chk (by omega) (by decide), b_chk (by omega) (by decide), b_chk (by omega) (by decide), nI_clamp (by omega), nI_clamp (by omega), nI_clamp (by omega), nI_1]
    congr 2
    funext k i
    simp only [Wn, rd_u, rd_uc, upd]
    grind (splits := 40)
  · rw [if_neg (fun z => q ((p_lt (show (60 : Int32) = nI 60 by decide) (by omega) (by decide)).mp z)), if_neg q]
theorem m_note (ρ : Nat × (Nat → Int32)) (τ : rd_Sg) {w : Wt} (hw : w.1 ≤ 60) (a b c : Int32) : rd_R ρ 176 0 [some (.ref 64), some (.int a), some (.int b), some (.int c)] [] (Vn τ w) = some (0, Vn τ (ntF w a b c)) := by
  have e1 : Vn τ w 64 39 = nI w.1 := by unfold Vn; rw [b_ucne (by decide), b_uceq, b_ups]
  rw [q_M_note_64, e1]
  unfold ntF
  by_cases q : w.1 < 60
  · have e3 : 3 * nI w.1 = nI (3 * w.1) := by rw [show (3 : Int32) = nI 3 by decide, pk_mul]
    rw [if_pos (lt_lit 60 60 (by decide) q (by decide)), if_pos q, e3, a_lit (k := 1) (by decide), a_lit (k := 2) (by decide), b_chk (by omega) (by decide), b_chk (by omega) (by decide), b_chk (by omega) (by decide), nI_clamp (by omega), nI_clamp (by omega), nI_clamp (by omega), nI_1]
    congr 2
    funext k i
    simp only [Vn, rd_u, rd_uc, upd]
    grind (splits := 40)
  · rw [if_neg (fun z => q ((p_lt (show (60 : Int32) = nI 60 by decide) (by omega) (by decide)).mp z)), if_neg q]
-- the three parts
def W1 (g : Nat → Nat → Int32) (nl : Nat) (le mo r0 : Nat → Int32) : Nat → Wt
  | 0 => (0, r0)
  | e + 1 => if nI (cN (g e) nl) < le e then ntF (W1 g nl le mo r0 e) 1 (nI e) (nI (cN (g e) nl)) else if mo e < nI (cN (g e) nl) then ntF (W1 g nl le mo r0 e) 2 (nI e) (nI (cN (g e) nl)) else W1 g nl le mo r0 e
theorem W1_le (g : Nat → Nat → Int32) (nl : Nat) (le mo r0 : Nat → Int32) : ∀ e, (W1 g nl le mo r0 e).1 ≤ 60 := by
  intro e
  induction e with
  | zero => show 0 ≤ 60; omega
  | succ e ih =>
    unfold W1
    split
    · exact ntF_le ih
    · split
      · exact ntF_le ih
      · exact ih
def ahF (a l : Int32) : Int32 := if a = -1 then -1 else if a < l then a else -1
def W2 (ah : Nat → Int32) (w : Wt) : Nat → Wt
  | 0 => w
  | o + 1 => if ah o = -1 then W2 ah w o else ntF (W2 ah w o) 3 (nI o) (ah o)
theorem W2_le (ah : Nat → Int32) (w : Wt) (hw : w.1 ≤ 60) : ∀ o, (W2 ah w o).1 ≤ 60 := by
  intro o
  induction o with
  | zero => exact hw
  | succ o ih =>
    unfold W2
    split
    · exact ih
    · exact ntF_le ih
def s3a (ex nb : Int32) (c : Nat) (w : Wt) : Wt := if ex = 0 then (if nb = 0 then w else ntF w 4 (nI c) 0) else w
def s3b (how : Int32) (c : Nat) (w : Wt) : Wt := if how = 2 then ntF w 5 (nI c) 0 else w
def s3c (ex how : Int32) (c : Nat) (w : Wt) : Wt := if ex = 0 then (if how = 3 then ntF w 6 (nI c) 0 else w) else w
theorem s3a_le {ex nb : Int32} {c : Nat} {w : Wt} (h : w.1 ≤ 60) : (s3a ex nb c w).1 ≤ 60 := by
  unfold s3a; split
  · split
    · exact h
    · exact ntF_le h
  · exact h
theorem s3b_le {how : Int32} {c : Nat} {w : Wt} (h : w.1 ≤ 60) : (s3b how c w).1 ≤ 60 := by
  unfold s3b; split
  · exact ntF_le h
  · exact h
theorem s3c_le {ex how : Int32} {c : Nat} {w : Wt} (h : w.1 ≤ 60) : (s3c ex how c w).1 ≤ 60 := by
  unfold s3c; split
  · split
    · exact ntF_le h
    · exact h
  · exact h
def W3 (ex nb how : Nat → Int32) (w : Wt) : Nat → Wt
  | 0 => w
  | c + 1 => s3c (ex c) (how c) c (s3b (how c) c (s3a (ex c) (nb c) c (W3 ex nb how w c)))
theorem W3_le (ex nb how : Nat → Int32) (w : Wt) (hw : w.1 ≤ 60) : ∀ c, (W3 ex nb how w c).1 ≤ 60 := by
  intro c
  induction c with
  | zero => exact hw
  | succ c ih => exact s3c_le (s3b_le (s3a_le ih))
-- the desk
theorem d_numbers (ρ : Nat × (Nat → Int32)) {σ : rd_Sg} {ne nl : Nat} {g : Nat → Nat → Int32} {r0 : Nat → Int32} (hne : ne ≤ 40) (h34 : σ 34 3 = nI ne) (h45 : ∀ e, e < ne → σ 45 e = nI (cN (g e) nl)) : ∀ k e, e + k = ne → rd_R ρ 104 2 [some (.ref 49), some (.ref 33), some (.int (nI e))] [] (Wn σ (W1 g nl (σ 41) (σ 42) r0 e)) = some (0, Wn σ (W1 g nl (σ 41) (σ 42) r0 ne)) := by
  intro k
  induction k with
  | zero =>
    intro e he
    rw [q_X10_findNumbers_49_33_at2, q_X5_size_34]
    simp only [Option.bind_some]
    rw [Wn_o (by omega), h34, if_neg (fun q => absurd ((p_lt rfl (by omega) (by omega)).mp q) (by omega)), show e = ne by omega]
  | succ k ih =>
    intro e he
    rw [q_X10_findNumbers_49_33_at2, q_X5_size_34]
    simp only [Option.bind_some]
    rw [Wn_o (by omega), h34, if_pos (nI_lt (show e < ne by omega) (by omega)), q_X2_isTooFew_33, b_chk (show e < 40 by omega) (by decide), b_chk (show e < 40 by omega) (by decide), nI_clamp (show e < 2 ^ 31 by omega), Wn_o (by omega), Wn_o (by omega), h45 e (by omega), b_some]
    simp only [Option.bind_some, b_01]
    rw [← ih (e + 1) (by omega)]
    have N : ∀ (a : Int32) , ((rd_R ρ 27 0 [some (.ref 33), some (.int (nI e))] [] (Wn σ (W1 g nl (σ 41) (σ 42) r0 e))).bind fun q4 => ((rd_R ρ 106 0 [some (.ref 49), some (.int a), some (.int (nI e)), some (.int q4.1), none] [] q4.2).bind fun q5 => rd_R ρ 104 30 [some (.ref 49), some (.ref 33), some (.int (nI e))] [] q5.2)) = rd_R ρ 104 2 [some (.ref 49), some (.ref 33), some (.int (nI (e + 1)))] [] (Wn σ (ntF (W1 g nl (σ 41) (σ 42) r0 e) a (nI e) (nI (cN (g e) nl)))) := by
      intro a
      rw [q_X2_meeting_33, b_chk (show e < 40 by omega) (by decide), nI_clamp (show e < 2 ^ 31 by omega), Wn_o (by omega), h45 e (by omega)]
      simp only [Option.bind_some]
      rw [d_note ρ σ (W1_le _ _ _ _ _ _)]
      simp only [Option.bind_some]
      rw [q_X10_findNumbers_49_33_at30, nI_1]
    have W : W1 g nl (σ 41) (σ 42) r0 (e + 1) = if nI (cN (g e) nl) < σ 41 e then ntF (W1 g nl (σ 41) (σ 42) r0 e) 1 (nI e) (nI (cN (g e) nl)) else if σ 42 e < nI (cN (g e) nl) then ntF (W1 g nl (σ 41) (σ 42) r0 e) 2 (nI e) (nI (cN (g e) nl)) else W1 g nl (σ 41) (σ 42) r0 e := rfl
    rw [W]
    by_cases q1 : nI (cN (g e) nl) < σ 41 e
    · rw [if_pos q1, if_pos q1]
      exact N 1
    · rw [if_neg q1, if_neg q1, q_X2_isTooMany_33, b_chk (show e < 40 by omega) (by decide), b_chk (show e < 40 by omega) (by decide), nI_clamp (show e < 2 ^ 31 by omega), Wn_o (by omega), Wn_o (by omega), h45 e (by omega), b_some]
      simp only [Option.bind_some, b_01]
      by_cases q2 : σ 42 e < nI (cN (g e) nl)
      · rw [if_pos q2, if_pos q2]
        exact N 2
      · rw [if_neg q2, if_neg q2, q_X10_findNumbers_49_33_at30, nI_1]
theorem d_orders (ρ : Nat × (Nat → Int32)) {σ : rd_Sg} {ne no : Nat} {w : Wt} {ah : Nat → Int32} (hw : w.1 ≤ 60) (hne : ne ≤ 40) (hno : no ≤ 40) (h33 : σ 33 3 = nI no) (hab : ∀ o, o < no → ∃ a b, a < ne ∧ b < ne ∧ σ 43 o = nI a ∧ σ 44 o = nI b ∧ ah o = ahF (σ 46 b) (σ 47 a)) : ∀ k o o3, o + k = no → rd_R ρ 105 2 [some (.ref 49), some (.ref 33), some (.int (nI o)), o3] [] (Wn σ (W2 ah w o)) = some (0, Wn σ (W2 ah w no)) := by
  intro k
  induction k with
  | zero =>
    intro e o3 he
    rw [q_X10_findOrders_49_33_at2, q_X2_orders_33]
    simp only [Option.bind_some]
    rw [Wn_o (by omega), h33, if_neg (fun q => absurd ((p_lt rfl (by omega) (by omega)).mp q) (by omega)), show e = no by omega]
  | succ k ih =>
    intro o o3 he
    obtain ⟨a, b, a1, b1, a2, b2', a3⟩ := hab o (by omega)
    rw [q_X10_findOrders_49_33_at2, q_X2_orders_33]
    simp only [Option.bind_some]
    have C : rd_R ρ 31 0 [some (.ref 33), some (.int (nI o)), none, none] [] (Wn σ (W2 ah w o)) = some (ah o, Wn σ (W2 ah w o)) := by
      rw [q_X2_callAhead_33, b_chk (show o < 40 by omega) (by decide), b_chk (show o < 40 by omega) (by decide), nI_clamp (show o < 2 ^ 31 by omega), Wn_o (c := 44) (by omega), Wn_o (c := 43) (by omega), Wn_o (c := 46) (by omega), Wn_o (c := 47) (by omega), a2, b2', b_chk (show b < 40 by omega) (by decide), b_chk (show a < 40 by omega) (by decide), nI_clamp (show a < 2 ^ 31 by omega), nI_clamp (show b < 2 ^ 31 by omega), a3, b_some, b_some]
      rfl
    rw [Wn_o (by omega), h33, if_pos (nI_lt (show o < no by omega) (by omega)), C]
    simp only [Option.bind_some]
    have W : W2 ah w (o + 1) = if ah o = -1 then W2 ah w o else ntF (W2 ah w o) 3 (nI o) (ah o) := rfl
    by_cases q : ah o = -1
    · rw [if_pos q] at W ⊢
      rw [← ih (o + 1) _ (by omega), W, q_X10_findOrders_49_33_at18, nI_1]
    · rw [if_neg q] at W ⊢
      rw [d_note ρ σ (W2_le _ _ hw _)]
      simp only [Option.bind_some]
      rw [← ih (o + 1) _ (by omega), W, q_X10_findOrders_49_33_at18, nI_1]
theorem d_calls (ρ : Nat × (Nat → Int32)) {σ : rd_Sg} {nl : Nat} {w : Wt} {ex nb : Nat → Int32} (hw : w.1 ≤ 60) (hnl : nl ≤ 500) (h28 : σ 28 3 = nI nl) (hex : ∀ c, c < nl → σ 48 c = ex c ∧ (ex c = 0 ∨ ex c = 1)) (hnb : ∀ c, c < nl → ∃ s, s < 24 ∧ σ 29 (9 * c) = nI s ∧ σ 13 s = nb c ∧ (nb c = 0 ∨ nb c = 1)) : ∀ k c o5 o6, c + k = nl → rd_R ρ 103 11 [some (.ref 49), some (.ref 33), some (.ref 28), some (.ref 9), some (.int (nI c)), o5, o6] [] (Wn σ (W3 ex nb (fun c => σ 29 (9 * c + 5)) w c)) = some (0, Wn σ (W3 ex nb (fun c => σ 29 (9 * c + 5)) w nl)) := by
  intro k
  induction k with
  | zero =>
    intro c o5 o6 hc
    rw [q_X10_find_49_33_28_9_at11, q_X4_size_28]
    simp only [Option.bind_some]
    rw [Wn_o (by omega), h28, if_neg (fun q => absurd ((p_lt rfl (by omega) (by omega)).mp q) (by omega)), show c = nl by omega]
  | succ k ih =>
    intro c o5 o6 hc
    obtain ⟨e1, e2⟩ := hex c (by omega)
    obtain ⟨s, s1, s2, s3, s4⟩ := hnb c (by omega)
    have WL := W3_le ex nb (fun c => σ 29 (9 * c + 5)) w hw c
    have W : W3 ex nb (fun c => σ 29 (9 * c + 5)) w (c + 1) = s3c (ex c) (σ 29 (9 * c + 5)) c (s3b (σ 29 (9 * c + 5)) c (s3a (ex c) (nb c) c (W3 ex nb (fun c => σ 29 (9 * c + 5)) w c))) := rfl
    rw [q_X10_find_49_33_28_9_at11, q_X4_size_28]
    simp only [Option.bind_some]
    have m1 : ∀ x : Int32, (x = 0 ∨ x = 1) → x &&& 1 = x := by
      rintro x (rfl | rfl) <;> decide
    rw [Wn_o (by omega), h28, if_pos (nI_lt (show c < nl by omega) (by omega)), q_X2_isExpected_33, b_chk (show c < 500 by omega) (by decide), nI_clamp (show c < 2 ^ 31 by omega), Wn_o (by omega), e1, m1 _ e2]
    simp only [Option.bind_some]
    have C5 : ∀ w', rd_R ρ 51 0 [some (.ref 28), some (.int (nI c)), some (.int 5)] [] (Wn σ w') = some (σ 29 (9 * c + 5), Wn σ w') := fun w' => by
      rw [q_X4_column_28, show nI c * 9 + 5 = nI (9 * c + 5) from ixr (kk := 9) (b := 5) (by decide), b_chk (by omega) (by decide), nI_clamp (by omega), Wn_o (by omega)]
    have C0 : ∀ w', rd_R ρ 51 0 [some (.ref 28), some (.int (nI c)), some (.int 0)] [] (Wn σ w') = some (nI s, Wn σ w') := fun w' => by
      rw [q_X4_column_28, show nI c * 9 + 0 = nI (9 * c + 0) from ixr (kk := 9) (b := 0) (by decide), b_chk (by omega) (by decide), nI_clamp (by omega), Wn_o (by omega), Nat.add_zero, s2]
    have NB : ∀ w', rd_R ρ 93 0 [some (.ref 9), some (.int (nI s))] [] (Wn σ w') = some (nb c, Wn σ w') := fun w' => by
      rw [q_X8_hasNoneBeside_9, b_chk s1 (by decide), nI_clamp (by omega), Wn_o (by omega), s3, m1 _ s4]
    rw [C5]
    simp only [Option.bind_some]
    rw [C0]
    simp only [Option.bind_some]
    rw [NB]
    simp only [Option.bind_some]
    have A46 : ∀ w', w'.1 ≤ 60 → rd_R ρ 103 46 [some (.ref 49), some (.ref 33), some (.ref 28), some (.ref 9), some (.int (nI c)), some (.int (ex c)), some (.int (σ 29 (9 * c + 5)))] [] (Wn σ w') = rd_R ρ 103 11 [some (.ref 49), some (.ref 33), some (.ref 28), some (.ref 9), some (.int (nI (c + 1))), some (.int (ex c)), some (.int (σ 29 (9 * c + 5)))] [] (Wn σ (s3c (ex c) (σ 29 (9 * c + 5)) c w')) := by
      intro w' hw'
      rw [q_X10_find_49_33_28_9_at46]
      unfold s3c
      by_cases q : ex c = 0
      · rw [if_pos q, if_pos q]
        by_cases q2 : σ 29 (9 * c + 5) = 3
        · rw [if_pos q2, if_pos q2, d_note ρ σ hw']
          simp only [Option.bind_some]
          rw [q_X10_find_49_33_28_9_at56, nI_1]
        · rw [if_neg q2, if_neg q2, q_X10_find_49_33_28_9_at56, nI_1]
      · rw [if_neg q, if_neg q, q_X10_find_49_33_28_9_at56, nI_1]
    have A38 : ∀ w', w'.1 ≤ 60 → rd_R ρ 103 38 [some (.ref 49), some (.ref 33), some (.ref 28), some (.ref 9), some (.int (nI c)), some (.int (ex c)), some (.int (σ 29 (9 * c + 5)))] [] (Wn σ w') = rd_R ρ 103 11 [some (.ref 49), some (.ref 33), some (.ref 28), some (.ref 9), some (.int (nI (c + 1))), some (.int (ex c)), some (.int (σ 29 (9 * c + 5)))] [] (Wn σ (s3c (ex c) (σ 29 (9 * c + 5)) c (s3b (σ 29 (9 * c + 5)) c w'))) := by
      intro w' hw'
      rw [q_X10_find_49_33_28_9_at38, ← A46 _ (s3b_le hw')]
      unfold s3b
      by_cases q : σ 29 (9 * c + 5) = 2
      · rw [if_pos q, if_pos q, d_note ρ σ hw']
        rfl
      · rw [if_neg q, if_neg q]
    rw [← ih (c + 1) _ _ (by omega), W, ← A38 _ (s3a_le WL)]
    unfold s3a
    by_cases q : ex c = 0
    · rw [if_pos q, if_pos q]
      by_cases q2 : nb c = 0
      · rw [if_pos q2, if_pos q2]
      · rw [if_neg q2, if_neg q2, d_note ρ σ WL]
        rfl
    · rw [if_neg q, if_neg q]
-- the model
theorem m_numbers (ρ : Nat × (Nat → Int32)) {τ : rd_Sg} {ne nl : Nat} {g : Nat → Nat → Int32} {r0 : Nat → Int32} (hne : ne ≤ 40) (h32 : τ 64 32 = nI ne) (hm : ∀ w e, e < ne → rd_R ρ 174 0 [some (.ref 64), some (.int (nI e)), none, none] [] (Vn τ w) = some (nI (cN (g e) nl), Vn τ w)) : ∀ k e o2, e + k = ne → ∃ o2', rd_R ρ 179 5 [some (.ref 64), some (.int (nI e)), o2] [] (Vn τ (W1 g nl (τ 87) (τ 88) r0 e)) = rd_R ρ 179 42 [some (.ref 64), some (.int 0), o2'] [] (Vn τ (W1 g nl (τ 87) (τ 88) r0 ne)) := by
  intro k
  induction k with
  | zero =>
    intro e o2 he
    refine ⟨o2, ?_⟩
    rw [q_M_verify_64_at5, Vn_64 (by decide), h32, if_neg (fun q => absurd ((p_lt rfl (by omega) (by omega)).mp q) (by omega)), show e = ne by omega]
  | succ k ih =>
    intro e o2 he
    obtain ⟨o2', ih⟩ := ih (e + 1) (some (.int (nI (cN (g e) nl)))) (by omega)
    refine ⟨o2', ?_⟩
    rw [← ih, q_M_verify_64_at5, Vn_64 (by decide), h32, if_pos (nI_lt (show e < ne by omega) (by omega)), hm _ e (by omega)]
    simp only [Option.bind_some]
    rw [b_chk (show e < 40 by omega) (by decide), b_chk (show e < 40 by omega) (by decide), nI_clamp (show e < 2 ^ 31 by omega), Vn_o (by decide) (by decide), Vn_o (by decide) (by decide)]
    have A38 : ∀ w, rd_R ρ 179 38 [some (.ref 64), some (.int (nI e)), some (.int (nI (cN (g e) nl)))] [] (Vn τ w) = rd_R ρ 179 5 [some (.ref 64), some (.int (nI (e + 1))), some (.int (nI (cN (g e) nl)))] [] (Vn τ w) := fun w => by
      rw [q_M_verify_64_at38, nI_1]
    have A35 : ∀ a, rd_R ρ 179 35 [some (.ref 64), some (.int (nI e)), some (.int (nI (cN (g e) nl)))] [.int a, .ref 64] (Vn τ (W1 g nl (τ 87) (τ 88) r0 e)) = rd_R ρ 179 5 [some (.ref 64), some (.int (nI (e + 1))), some (.int (nI (cN (g e) nl)))] [] (Vn τ (ntF (W1 g nl (τ 87) (τ 88) r0 e) a (nI e) (nI (cN (g e) nl)))) := fun a => by
      rw [q_M_verify_64_at35, m_note ρ τ (W1_le _ _ _ _ _ _)]
      simp only [Option.bind_some]
      rw [A38]
    rw [q_M_verify_64_at25, b_chk (show e < 40 by omega) (by decide), nI_clamp (show e < 2 ^ 31 by omega), Vn_o (by decide) (by decide), A35, A35, A38]
    have W : W1 g nl (τ 87) (τ 88) r0 (e + 1) = if nI (cN (g e) nl) < τ 87 e then ntF (W1 g nl (τ 87) (τ 88) r0 e) 1 (nI e) (nI (cN (g e) nl)) else if τ 88 e < nI (cN (g e) nl) then ntF (W1 g nl (τ 87) (τ 88) r0 e) 2 (nI e) (nI (cN (g e) nl)) else W1 g nl (τ 87) (τ 88) r0 e := rfl
    rw [W]
    by_cases q1 : nI (cN (g e) nl) < τ 87 e
    · simp only [if_pos q1]
    · simp only [if_neg q1]
      by_cases q2 : τ 88 e < nI (cN (g e) nl)
      · simp only [if_pos q2]
      · simp only [if_neg q2]
theorem m_wrongOrder (ρ : Nat × (Nat → Int32)) {τ : rd_Sg} {nl o a b : Nat} {ga gb : Nat → Int32} (hnl : nl ≤ 500) (h23 : τ 64 23 = nI nl) (ho : o < 40) (h89 : τ 89 o = nI a) (h90 : τ 90 o = nI b) (hga : ∀ i, i < nl → rd_R ρ 173 0 [some (.ref 64), some (.int (nI i)), some (.int (nI a)), none] [] τ = some (ga i, τ)) (hgb : ∀ i, i < nl → rd_R ρ 173 0 [some (.ref 64), some (.int (nI i)), some (.int (nI b)), none] [] τ = some (gb i, τ)) : rd_R ρ 177 0 [some (.ref 64), some (.int (nI o)), none, none] [] τ = some (ahF (fN gb nl) (lsN ga nl), τ) := by
  have L1 : ∀ k n, n + k = nl → rd_R ρ 177 4 [some (.ref 64), some (.int (nI o)), some (.int (lsN ga n)), some (.int (nI n))] [] τ = rd_R ρ 177 24 [some (.ref 64), some (.int (nI o)), some (.int (lsN ga nl)), some (.int 0)] [] τ := by
    intro k
    induction k with
    | zero =>
      intro n hn
      rw [q_M_wrongOrder_64_at4, h23, if_neg (fun q => absurd ((p_lt rfl (by omega) (by omega)).mp q) (by omega)), show n = nl by omega]
    | succ k ih =>
      intro n hn
      rw [q_M_wrongOrder_64_at4, h23, if_pos (nI_lt (show n < nl by omega) (by omega)), b_chk ho (by decide), nI_clamp (by omega), h89, hga n (by omega)]
      simp only [Option.bind_some]
      rw [← ih (n + 1) (by omega), q_M_wrongOrder_64_at19, q_M_wrongOrder_64_at19, nI_1]
      have W : lsN ga (n + 1) = if ga n = 0 then lsN ga n else nI n := rfl
      rw [W]
      by_cases q : ga n = 0
      · rw [if_pos q, if_pos q]
      · rw [if_neg q, if_neg q]
  have N : ∀ L, L ≤ nl → (∀ j, j < L → gb j = 0) → ∀ k c, c + k = L → rd_R ρ 177 24 [some (.ref 64), some (.int (nI o)), some (.int (nI L)), some (.int (nI c))] [] τ = some (-1, τ) := by
    intro L hL hz k
    induction k with
    | zero =>
      intro c hc
      rw [q_M_wrongOrder_64_at24, if_neg (fun q => absurd ((p_lt rfl (by omega) (by omega)).mp q) (by omega))]
    | succ k ih =>
      intro c hc
      rw [q_M_wrongOrder_64_at24, if_pos (nI_lt (show c < L by omega) (by omega)), b_chk ho (by decide), nI_clamp (by omega), h90, hgb c (by omega), hz c (by omega)]
      simp only [Option.bind_some, if_true]
      rw [nI_1, ih (c + 1) (by omega)]
  have S : ∀ L i, L ≤ nl → i < L → ¬ gb i = 0 → (∀ j, j < i → gb j = 0) → ∀ k c, c + k = i → rd_R ρ 177 24 [some (.ref 64), some (.int (nI o)), some (.int (nI L)), some (.int (nI c))] [] τ = some (nI i, τ) := by
    intro L i hL hi hnz hz k
    induction k with
    | zero =>
      intro c hc
      have : c = i := by omega
      subst this
      rw [q_M_wrongOrder_64_at24, if_pos (nI_lt hi (by omega)), b_chk ho (by decide), nI_clamp (show o < 2 ^ 31 by omega), h90, hgb c (by omega)]
      simp only [Option.bind_some, if_neg hnz]
    | succ k ih =>
      intro c hc
      rw [q_M_wrongOrder_64_at24, if_pos (nI_lt (show c < L by omega) (by omega)), b_chk ho (by decide), nI_clamp (show o < 2 ^ 31 by omega), h90, hgb c (by omega), hz c (by omega)]
      simp only [Option.bind_some, if_true]
      rw [nI_1, ih (c + 1) (by omega)]
  rw [q_M_wrongOrder_64]
  refine (L1 nl 0 (by omega)).trans ?_
  unfold ahF
  rcases lsN_is ga nl with e | ⟨L, l1, l2⟩
  · rw [e, q_M_wrongOrder_64_at24, if_neg (by decide)]
    rcases fN_is gb nl with ⟨f1, -⟩ | ⟨i, i1, i2, -⟩
    · rw [if_pos f1]
    · rw [i2, if_neg (fun w => neg1_nI (n := i) (by omega) w.symm), if_neg (fun w => by
        rw [Int32.lt_iff_toInt_lt, nI_toInt (by omega)] at w
        have : (-1 : Int32).toInt = -1 := by decide
        omega)]
  · rw [l2]
    rcases fN_is gb nl with ⟨f1, f2⟩ | ⟨i, i1, i2, i3, i4⟩
    · rw [if_pos f1]
      exact N L (by omega) (fun j hj => f2 j (by omega)) L 0 (by omega)
    · rw [i2, if_neg (fun w => neg1_nI (n := i) (by omega) w.symm)]
      by_cases q : i < L
      · rw [if_pos (nI_lt q (by omega))]
        exact S L i (by omega) q i3 i4 i 0 (by omega)
      · rw [if_neg (fun w => q ((p_lt rfl (by omega) (by omega)).mp w))]
        exact N L (by omega) (fun j hj => i4 j (by omega)) L 0 (by omega)
theorem ahF_is {h : Nat → Int32} {l : Int32} {n : Nat} (hn : n < 2 ^ 31) : ahF (fN h n) l = -1 ∨ ∃ i, i < n ∧ ahF (fN h n) l = nI i := by
  unfold ahF
  rcases fN_is h n with ⟨f1, -⟩ | ⟨i, i1, i2, -⟩
  · rw [if_pos f1]; exact Or.inl rfl
  · rw [i2]
    split
    · exact Or.inl rfl
    · split
      · exact Or.inr ⟨i, i1, rfl⟩
      · exact Or.inl rfl
theorem m_orders (ρ : Nat × (Nat → Int32)) {τ : rd_Sg} {no : Nat} {w : Wt} {ah : Nat → Int32} (hw : w.1 ≤ 60) (hno : no ≤ 40) (h35 : τ 64 35 = nI no) (hm : ∀ w o, o < no → rd_R ρ 177 0 [some (.ref 64), some (.int (nI o)), none, none] [] (Vn τ w) = some (ah o, Vn τ w)) (hah : ∀ o, o < no → ah o = -1 ∨ ∃ i, i < 500 ∧ ah o = nI i) : ∀ k o o2, o + k = no → ∃ o2', rd_R ρ 179 42 [some (.ref 64), some (.int (nI o)), o2] [] (Vn τ (W2 ah w o)) = rd_R ρ 179 61 [some (.ref 64), some (.int 0), o2'] [] (Vn τ (W2 ah w no)) := by
  intro k
  induction k with
  | zero =>
    intro e o2 he
    refine ⟨o2, ?_⟩
    rw [q_M_verify_64_at42, Vn_64 (by decide), h35, if_neg (fun q => absurd ((p_lt rfl (by omega) (by omega)).mp q) (by omega)), show e = no by omega]
  | succ k ih =>
    intro o o2 he
    obtain ⟨o2', ih⟩ := ih (o + 1) (some (.int (ah o))) (by omega)
    refine ⟨o2', ?_⟩
    have W : W2 ah w (o + 1) = if ah o = -1 then W2 ah w o else ntF (W2 ah w o) 3 (nI o) (ah o) := rfl
    rw [← ih, q_M_verify_64_at42, Vn_64 (by decide), h35, if_pos (nI_lt (show o < no by omega) (by omega)), hm _ o (by omega), W]
    simp only [Option.bind_some]
    rcases hah o (by omega) with q | ⟨i, i1, q⟩
    · rw [q, if_pos (by decide), if_pos rfl, q_M_verify_64_at57, nI_1]
    · rw [q, if_neg (nI_pos (by omega)), if_neg (fun z => neg1_nI (n := i) (by omega) z.symm), m_note ρ τ (W2_le _ _ hw _)]
      simp only [Option.bind_some]
      rw [q_M_verify_64_at57, nI_1]
theorem m_any (ρ : Nat × (Nat → Int32)) {τ : rd_Sg} {ne c : Nat} {g : Nat → Nat → Int32} (hne : ne ≤ 40) (h32 : τ 64 32 = nI ne) (hg01 : ∀ e, g e c = 0 ∨ g e c = 1) (hg : ∀ e, e < ne → rd_R ρ 173 0 [some (.ref 64), some (.int (nI c)), some (.int (nI e)), none] [] τ = some (g e c, τ)) : rd_R ρ 178 0 [some (.ref 64), some (.int (nI c)), none, none] [] τ = some (exF g c ne, τ) := by
  have mono : ∀ k e, exF g c e = 1 → exF g c (e + k) = 1 := by
    intro k
    induction k with
    | zero => intro e h; exact h
    | succ k ih =>
      intro e h
      show (if g (e + k) c = 0 then exF g c (e + k) else 1) = 1
      rw [ih e h]
      exact ite_self _
  have L : ∀ k e, e + k = ne → rd_R ρ 178 4 [some (.ref 64), some (.int (nI c)), some (.int (exF g c e)), some (.int (nI e))] [] τ = some (exF g c ne, τ) := by
    intro k
    induction k with
    | zero =>
      intro e he
      rw [q_M_meetsAny_64_at4, h32, if_neg (fun q => absurd ((p_lt rfl (by omega) (by omega)).mp q) (by omega)), show e = ne by omega]
      rcases exF01 g c ne with q | q <;> rw [q] <;> rfl
    | succ k ih =>
      intro e he
      rw [q_M_meetsAny_64_at4, h32, if_pos (nI_lt (show e < ne by omega) (by omega))]
      rcases exF01 g c e with q | q
      · rw [if_pos q, hg e (by omega)]
        simp only [Option.bind_some]
        have : g e c = exF g c (e + 1) := by
          show _ = if _ then _ else _
          rcases hg01 e with w | w
          · rw [if_pos w, q, w]
          · rw [w, if_neg (by decide)]
        rw [this, nI_1, ih (e + 1) (by omega)]
      · rw [q, if_neg (by decide)]
        have := mono (ne - e) e q
        rw [show e + (ne - e) = ne by omega] at this
        rw [this]
        rfl
  rw [q_M_meetsAny_64]
  exact L ne 0 (by omega)
theorem m_calls (ρ : Nat × (Nat → Int32)) {τ : rd_Sg} {nl : Nat} {w : Wt} {ex nb : Nat → Int32} (hw : w.1 ≤ 60) (hnl : nl ≤ 500) (h23 : τ 64 23 = nI nl) (hex : ∀ w c, c < nl → rd_R ρ 178 0 [some (.ref 64), some (.int (nI c)), none, none] [] (Vn τ w) = some (ex c, Vn τ w)) (hnb : ∀ c, c < nl → ∃ s, s < 24 ∧ τ 85 (9 * c) = nI s ∧ τ 91 s = nb c) : ∀ k c o2, c + k = nl → rd_R ρ 179 61 [some (.ref 64), some (.int (nI c)), o2] [] (Vn τ (W3 ex nb (fun c => τ 85 (9 * c + 5)) w c)) = some (nI (W3 ex nb (fun c => τ 85 (9 * c + 5)) w nl).1, Vn τ (W3 ex nb (fun c => τ 85 (9 * c + 5)) w nl)) := by
  intro k
  induction k with
  | zero =>
    intro c o2 hc
    rw [q_M_verify_64_at61, Vn_64 (by decide), h23, if_neg (fun q => absurd ((p_lt rfl (by omega) (by omega)).mp q) (by omega)), show c = nl by omega]
    have : Vn τ (W3 ex nb (fun c => τ 85 (9 * c + 5)) w nl) 64 39 = nI (W3 ex nb (fun c => τ 85 (9 * c + 5)) w nl).1 := by
      unfold Vn
      rw [b_ucne (by decide), b_uceq, b_ups]
    rw [this]
  | succ k ih =>
    intro c o2 hc
    obtain ⟨s, s1, s2, s3⟩ := hnb c (by omega)
    have WL := W3_le ex nb (fun c => τ 85 (9 * c + 5)) w hw c
    have W : W3 ex nb (fun c => τ 85 (9 * c + 5)) w (c + 1) = s3c (ex c) (τ 85 (9 * c + 5)) c (s3b (τ 85 (9 * c + 5)) c (s3a (ex c) (nb c) c (W3 ex nb (fun c => τ 85 (9 * c + 5)) w c))) := rfl
    rw [q_M_verify_64_at61, Vn_64 (by decide), h23, if_pos (nI_lt (show c < nl by omega) (by omega)), hex _ c (by omega)]
    simp only [Option.bind_some]
    have y0 : 9 * nI c = nI (9 * c) := by rw [show (9 : Int32) = nI 9 by decide, pk_mul]
    have A105 : ∀ (n : Int32) w', w'.1 ≤ 60 → (n = 0 ↔ ¬ ex c = 0) → rd_R ρ 179 105 [some (.ref 64), some (.int (nI c)), some (.int n)] [] (Vn τ w') = rd_R ρ 179 61 [some (.ref 64), some (.int (nI (c + 1))), some (.int n)] [] (Vn τ (s3c (ex c) (τ 85 (9 * c + 5)) c w')) := by
      intro n w' hw' hn
      rw [q_M_verify_64_at105, y0, a_lit (k := 5) (by decide), b_chk (by omega) (by decide), nI_clamp (by omega), Vn_o (by decide) (by decide)]
      unfold s3c
      by_cases q : ex c = 0
      · rw [if_neg (fun z => hn.mp z q), if_pos q]
        by_cases q2 : τ 85 (9 * c + 5) = 3
        · rw [if_pos q2, if_pos q2, m_note ρ τ hw']
          simp only [Option.bind_some]
          rw [q_M_verify_64_at122, nI_1]
        · rw [if_neg q2, if_neg q2, q_M_verify_64_at122, nI_1]
      · rw [if_pos (hn.mpr q), if_neg q, q_M_verify_64_at122, nI_1]
    have A90 : ∀ (n : Int32) w', w'.1 ≤ 60 → (n = 0 ↔ ¬ ex c = 0) → rd_R ρ 179 90 [some (.ref 64), some (.int (nI c)), some (.int n)] [] (Vn τ w') = rd_R ρ 179 61 [some (.ref 64), some (.int (nI (c + 1))), some (.int n)] [] (Vn τ (s3c (ex c) (τ 85 (9 * c + 5)) c (s3b (τ 85 (9 * c + 5)) c w'))) := by
      intro n w' hw' hn
      rw [q_M_verify_64_at90, y0, a_lit (k := 5) (by decide), b_chk (by omega) (by decide), nI_clamp (by omega), Vn_o (by decide) (by decide), ← A105 n _ (s3b_le hw') hn]
      unfold s3b
      by_cases q : τ 85 (9 * c + 5) = 2
      · rw [if_pos q, if_pos q, m_note ρ τ hw']
        rfl
      · rw [if_neg q, if_neg q]
    by_cases q : ex c = 0
    · rw [if_pos q, ← ih (c + 1) (some (.int 1)) (by omega), W, ← A90 1 _ (s3a_le WL) ⟨fun z => absurd z (by decide), fun z => absurd q z⟩, q_M_verify_64_at72, if_neg (by decide), y0, b_chk (by omega) (by decide), nI_clamp (by omega), Vn_o (by decide) (by decide), s2, b_chk s1 (by decide), nI_clamp (by omega), Vn_o (by decide) (by decide), s3]
      unfold s3a
      rw [if_pos q]
      by_cases q2 : nb c = 0
      · rw [if_pos q2, if_pos q2]
      · rw [if_neg q2, if_neg q2, m_note ρ τ WL]
        rfl
    · rw [if_neg q, ← ih (c + 1) (some (.int 0)) (by omega), W, ← A90 0 _ (s3a_le WL) ⟨fun _ => q, fun _ => rfl⟩, q_M_verify_64_at72, if_pos rfl]
      unfold s3a
      rw [if_neg q]
