variable {B : Nat}
theorem JF.root {n : Nat} {me pa sb gv fl bel : Nat → Int32} (h : JF n me pa sb gv fl bel) (hn : n < 12) : JF (n + 1) me pa sb gv fl (upd bel n (-1)) := by
  obtain ⟨h1, h2, h3, h4⟩ := h
  refine ⟨by omega, h2, fun f hf => ?_, fun f hf => ?_⟩
  · obtain ⟨m, a, b, c, d⟩ := h3 f hf
    exact ⟨m, a, b, fun q => c (by omega), d⟩
  · by_cases e : f = n
    · subst e; rw [b_ups]; exact Or.inl rfl
    · rw [b_upn e]; exact h4 f (by omega)
theorem tb_lt {b g n : Nat} (h : b.testBit g = true) (hb : b < 2 ^ n) : g < n := by
  rcases Nat.lt_or_ge g n with q | q
  · exact q
  · rw [Nat.testBit_lt_two_pow (Nat.lt_of_lt_of_le hb (Nat.pow_le_pow_right (by decide) q))] at h
    cases h
theorem JL.root {n : Nat} {bel lin : Nat → Int32} (h : JL n bel lin) (hn : n < 12) : JL (n + 1) (upd bel n (-1)) (upd lin n (nI (2 ^ n))) := by
  intro f hf
  by_cases e : f = n
  · subst e
    rw [b_ups]
    refine ⟨2 ^ f, rfl, ?_, fun g => ?_⟩
    · exact Nat.pow_lt_pow_right (by decide) hn
    · rw [Nat.testBit_two_pow, decide_eq_true_eq]
      constructor
      · intro q; exact Or.inl q.symm
      · rintro (q | ⟨p, hp, q, -⟩)
        · exact q.symm
        · rw [b_ups] at q; exact absurd q (neg1_nI (by omega))
  · rw [b_upn e]
    obtain ⟨b, h1, h2, h3⟩ := h f (by omega)
    refine ⟨b, h1, h2, fun g => ?_⟩
    rw [h3 g, b_upn e]
    constructor
    · rintro (q | ⟨p, hp, q1, q2⟩)
      · exact Or.inl q
      · exact Or.inr ⟨p, hp, q1, by rw [b_upn (by omega)]; exact q2⟩
    · rintro (q | ⟨p, hp, q1, q2⟩)
      · exact Or.inl q
      · exact Or.inr ⟨p, hp, q1, by rw [b_upn (by omega)] at q2; exact q2⟩
theorem JL.sub {n b bb : Nat} {bel lin : Nat → Int32} (h : JL n bel lin) (hn : n < 12) (hb : b < n) (hl : lin b = nI bb) (hbb : bb < 4096) : JL (n + 1) (upd bel n (nI b)) (upd lin n (nI (2 ^ n ||| bb))) := by
  intro f hf
  by_cases e : f = n
  · subst e
    rw [b_ups]
    refine ⟨2 ^ f ||| bb, rfl, ?_, fun g => ?_⟩
    · exact Nat.or_lt_two_pow (n := 12) (Nat.pow_lt_pow_right (by decide) hn) hbb
    · rw [Nat.testBit_or, Nat.testBit_two_pow, Bool.or_eq_true, decide_eq_true_eq, b_ups]
      constructor
      · rintro (q | q)
        · exact Or.inl q.symm
        · exact Or.inr ⟨b, hb, rfl, by rw [b_upn (by omega), hl, bt_nI (by omega)]; exact q⟩
      · rintro (q | ⟨p, hp, q1, q2⟩)
        · exact Or.inl q.symm
        · have : b = p := (nI_eq (by omega) (by omega)).mp q1
          subst this
          rw [b_upn (by omega), hl, bt_nI (by omega)] at q2
          exact Or.inr q2
  · rw [b_upn e]
    obtain ⟨b1, h1, h2, h3⟩ := h f (by omega)
    refine ⟨b1, h1, h2, fun g => ?_⟩
    rw [h3 g, b_upn e]
    constructor
    · rintro (q | ⟨p, hp, q1, q2⟩)
      · exact Or.inl q
      · exact Or.inr ⟨p, hp, q1, by rw [b_upn (by omega)]; exact q2⟩
    · rintro (q | ⟨p, hp, q1, q2⟩)
      · exact Or.inl q
      · exact Or.inr ⟨p, hp, q1, by rw [b_upn (by omega)] at q2; exact q2⟩
theorem JX.root {n ns : Nat} {bel sf fix : Nat → Int32} (h : JX n ns bel sf fix) (hn : n < 12) : JX (n + 1) ns (upd bel n (-1)) sf fix := by
  intro f hf
  have e : (∃ g, g < n + 1 ∧ upd bel n (-1) g = nI f) ↔ ∃ g, g < n ∧ bel g = nI f := by
    constructor
    · rintro ⟨g, h1, h2⟩
      by_cases q : g = n
      · subst q; rw [b_ups] at h2; exact absurd h2 (neg1_nI (by omega))
      · rw [b_upn q] at h2; exact ⟨g, by omega, h2⟩
    · rintro ⟨g, h1, h2⟩
      exact ⟨g, by omega, by rw [b_upn (by omega)]; exact h2⟩
  rw [e]
  exact h f hf
theorem JX.sub {n ns b : Nat} {bel sf fix : Nat → Int32} (h : JX n ns bel sf fix) (hn : n < 12) (hb : b < n) : JX (n + 1) ns (upd bel n (nI b)) sf (upd fix b 1) := by
  intro f hf
  by_cases e : f = b
  · subst e
    rw [b_ups]
    exact Or.inl ⟨rfl, Or.inl ⟨n, by omega, b_ups⟩⟩
  · rw [b_upn e]
    have e2 : (∃ g, g < n + 1 ∧ upd bel n (nI b) g = nI f) ↔ ∃ g, g < n ∧ bel g = nI f := by
      constructor
      · rintro ⟨g, h1, h2⟩
        by_cases q : g = n
        · subst q; rw [b_ups] at h2; exact absurd ((nI_eq (by omega) (by omega)).mp h2).symm e
        · rw [b_upn q] at h2; exact ⟨g, by omega, h2⟩
      · rintro ⟨g, h1, h2⟩
        exact ⟨g, by omega, by rw [b_upn (by omega)]; exact h2⟩
    rw [e2]
    exact h f hf
theorem JS.face {n ns : Nat} {sf st sl lin nb : Nat → Int32} {v : Int32} (h : JS n ns sf st sl lin nb) : JS (n + 1) ns sf st sl (upd lin n v) nb := by
  obtain ⟨h1, h2, h3⟩ := h
  refine ⟨h1, fun s hs => ?_, h3⟩
  obtain ⟨⟨f, a, b, c⟩, d⟩ := h2 s hs
  exact ⟨⟨f, by omega, b, by rw [b_upn (by omega)]; exact c⟩, d⟩
/-- copying eight, or as many as there are -/
theorem cpy_8 {f : Nat → Int32} {b n m : Nat} (hm : m ≤ 8) (hbn : b < n) (hb0 : ∀ j, m ≤ j → j < 8 → f (8 * b + j) = 0) (hn0 : ∀ j, j < 8 → f (8 * n + j) = 0) : va_cpy f f (8 * b) (8 * n) m = va_cpy f f (8 * b) (8 * n) 8 := by
  funext q
  unfold va_cpy
  by_cases h : 8 * n ≤ q ∧ q < 8 * n + m
  · rw [if_pos h, if_pos (by omega)]
  · rw [if_neg h]
    by_cases h2 : 8 * n ≤ q ∧ q < 8 * n + 8
    · rw [if_pos h2, hb0 (q - 8 * n) (by omega) (by omega)]
      have := hn0 (q - 8 * n) (by omega)
      rwa [show 8 * n + (q - 8 * n) = q by omega] at this
    · rw [if_neg h2]
theorem JF.sub {n b m : Nat} {me pa sb gv fl bel : Nat → Int32} (h : JF n me pa sb gv fl bel) (hn : n < 12) (hb : b < n) (hm8 : m ≤ 8) (hm : me b = nI m) : JF (n + 1) (upd me n (nI m)) (va_cpy pa pa (8 * b) (8 * n) 8) (va_cpy sb sb (8 * b) (8 * n) 8) (va_cpy gv gv (8 * b) (8 * n) 8) (va_cpy fl fl (8 * b) (8 * n) 8) (upd bel n (nI b)) := by
  obtain ⟨h1, h2, h3, h4⟩ := h
  refine ⟨by omega, fun j hj => ?_, fun f hf => ?_, fun f hf => ?_⟩
  · unfold va_cpy
    by_cases q : 8 * n ≤ j ∧ j < 8 * n + 8
    · simp only [if_pos q]
      exact h2 _ (by omega)
    · simp only [if_neg q]
      exact h2 _ hj
  · by_cases e : f = n
    · subst e
      obtain ⟨m', a, c, d, g⟩ := h3 b (by omega)
      have : m' = m := (nI_eq (by omega) (by omega)).mp (c.symm.trans hm)
      subst this
      refine ⟨m', a, b_ups, fun q => by omega, fun j hj1 hj2 => ?_⟩
      have hg := g j hj1 hj2
      unfold va_cpy
      simp only [if_pos (show 8 * f ≤ 8 * f + j ∧ 8 * f + j < 8 * f + 8 by omega), show 8 * b + (8 * f + j - 8 * f) = 8 * b + j by omega]
      exact hg
    · obtain ⟨m', a, c, d, g⟩ := h3 f hf
      refine ⟨m', a, by rw [b_upn e]; exact c, fun q => d (by omega), fun j hj1 hj2 => ?_⟩
      have hg := g j hj1 hj2
      unfold va_cpy
      simp only [if_neg (show ¬ (8 * n ≤ 8 * f + j ∧ 8 * f + j < 8 * n + 8) by omega)]
      exact hg
  · by_cases e : f = n
    · subst e; rw [b_ups]; exact Or.inr ⟨b, hb, rfl⟩
    · rw [b_upn e]; exact h4 f (by omega)
theorem Grow.face {ns n m : Nat} {sf st sl lin nb me pa sb : Nat → Int32} {b : Nat} (h : JS n ns sf st sl lin nb) (hn : n < 12) (hb : b < n) : Grow ns ns n (n + 1) sf sf me (upd me n (nI m)) pa (va_cpy pa pa (8 * b) (8 * n) 8) sb (va_cpy sb sb (8 * b) (8 * n) 8) := by
  refine ⟨Nat.le_refl _, Nat.le_succ _, fun _ _ => rfl, fun s f hs hf hsf => ?_⟩
  obtain ⟨⟨f', h1, h2, -⟩, -⟩ := h.2.1 s hs
  have e : f = f' := (nI_eq (by omega) (by omega)).mp (hsf.symm.trans h2)
  refine ⟨b_upn (by omega), fun i hi => ?_⟩
  unfold va_cpy
  simp only [if_neg (show ¬ (8 * n ≤ 8 * f + i ∧ 8 * f + i < 8 * n + 8) by omega)]
  exact ⟨trivial, trivial⟩
theorem Grow.face0 {ns n : Nat} {sf me pa sb : Nat → Int32} : Grow ns ns n (n + 1) sf sf me me pa pa sb sb := ⟨Nat.le_refl _, Nat.le_succ _, fun _ _ => rfl, fun _ _ _ _ _ => ⟨rfl, fun _ _ => ⟨rfl, rfl⟩⟩⟩
theorem cp4_67 {σ : rd_Sg} {b n j : Nat} : cp4 σ b n j 67 = va_cpy (σ 67) (σ 67) (8 * b) (8 * n) j := by simp [cp4, b_ucne, b_uceq]
theorem cp4_68 {σ : rd_Sg} {b n j : Nat} : cp4 σ b n j 68 = va_cpy (σ 68) (σ 68) (8 * b) (8 * n) j := by simp [cp4, b_ucne, b_uceq]
theorem cp4_69 {σ : rd_Sg} {b n j : Nat} : cp4 σ b n j 69 = va_cpy (σ 69) (σ 69) (8 * b) (8 * n) j := by simp [cp4, b_ucne, b_uceq]
theorem cp4_70 {σ : rd_Sg} {b n j : Nat} : cp4 σ b n j 70 = va_cpy (σ 70) (σ 70) (8 * b) (8 * n) j := by simp [cp4, b_ucne, b_uceq]
theorem cp4_o {σ : rd_Sg} {b n j c : Nat} (h : c < 67 ∨ 70 < c) : cp4 σ b n j c = σ c := by
  unfold cp4
  rw [b_ucne (by omega), b_ucne (by omega), b_ucne (by omega), b_ucne (by omega)]
set_option maxHeartbeats 4000000 in
theorem op_face (ρ : Nat × (Nat → Int32)) {σ : rd_Sg} (hI : Inv B σ) (x1 : Int32) : Both B (rd_R ρ 108 0 [some (.ref 0), some (.int x1)] []) (rd_R ρ 138 0 [some (.ref 64), some (.int x1), none, none, none] []) σ := by
  have hJ := hI
  obtain ⟨nf, ns, nr, ne, nl, nc, no, nt, nd, lo, ⟨⟨h10, h640, h91, h647⟩, ⟨e2, e5, e6, e7, e8, e10, e12, e13⟩, hJF, hJL, hJX, hJS⟩, ⟨hB1, hB2, hB3, hB4⟩, ⟨hC1, hC2, hC3, hC4⟩, ⟨hD1, hD2, hD3⟩, hE, hF, ⟨hG1, hG2⟩⟩ := hJ
  have hnf := hJF.1
  have e1 : rd_R ρ 108 0 [some (.ref 0), some (.int x1)] [] σ = if x1 = -1 then rd_R ρ 35 0 [some (.ref 1), some (.int x1), none] [] σ else if hv x1 nf = 0 then some (-1, σ) else rd_R ρ 35 0 [some (.ref 1), some (.int x1), none] [] σ := by
    have hb : ∀ m : Option (Int32 × rd_Sg), (m.bind fun q => some (q.1, q.2)) = m := fun m => by cases m <;> rfl
    rw [q_D_face_0, f_has ρ σ x1 h10]
    simp only [Option.bind_some, hb]
  by_cases hx : x1 = -1
  · subst hx
    rw [if_pos rfl] at e1
    rcases Nat.lt_or_ge nf 12 with hn | hn
    · rw [d_add_root ρ σ h10 hn] at e1
      refine ⟨_, _, _, e1, m_face_root ρ _ (n := nf) (by rw [rd_un (by decide), rd_un (by decide)]; exact h640) hn, ?_⟩
      have z66 : upd (σ 66) nf 0 = σ 66 := up_id (by
        obtain ⟨m, -, b, c, -⟩ := hJF.2.2.1 nf hn
        rw [b, c (Nat.le_refl _)]; rfl)
      have G : Grow ns ns nf (nf + 1) (σ 71) (σ 71) (σ 66) (σ 66) (σ 67) (σ 67) (σ 68) (σ 68) := Grow.face0
      refine ⟨nf + 1, ns, nr, ne, nl, nc, no, nt, nd, lo, ?_⟩
      simp only [b_une, b_ueq, ne_eq, Nat.reduceEqDiff, not_false_eq_true, z66, b_ups, b_upn]
      exact ⟨⟨⟨trivial, trivial, h91, h647⟩, ⟨e2, e5, e6, e7, e8, e10, e12, e13⟩, hJF.root hn, hJL.root hn, hJX.root hn, hJS.face⟩, ⟨hB1, hB2, hB3.grow G, hB4.grow G hB3⟩, ⟨hC1, hC2, hC3.grow G, hC4⟩, ⟨hD1, hD2.grow G, hD3⟩, hE, hF, ⟨hG1, hG2.grow G⟩⟩
    · have : nf = 12 := by omega
      subst this
      rw [d_add_full ρ σ _ h10] at e1
      exact Both.same hI e1 (m_face_full ρ σ h640 (m_in_m1 ρ σ (by decide)))
  · rw [if_neg hx] at e1
    rcases hv_ix x1 (n := nf) (by omega) with h | ⟨b, hb, rfl⟩
    · rw [if_pos h] at e1
      refine Both.same hI e1 ?_
      rw [q_M_face_64, h640, m_in_no ρ σ hx h (by omega)]
      rfl
    · rw [hv_in hb (by omega), if_neg (by decide)] at e1
      rcases Nat.lt_or_ge nf 12 with hn | hn
      · rw [d_add_sub ρ σ h10 hb hn] at e1
        obtain ⟨m, hm8, hm, -, hz⟩ := hJF.2.2.1 b (by omega)
        obtain ⟨m0, -, hm0, hm1, hz0⟩ := hJF.2.2.1 nf hn
        have hm0 : m0 = 0 := hm1 (Nat.le_refl _)
        subst hm0
        obtain ⟨bb, hl, hbb, -⟩ := hJL b hb
        refine ⟨_, _, _, e1, m_face_sub ρ _ (n := nf) (m := m) ?_ hb hn hm8 ?_, ?_⟩
        · simp only [rd_un, rd_ucn, ne_eq, Nat.reduceEqDiff, not_false_eq_true]; exact h640
        · simp only [rd_un, rd_ucn, ne_eq, Nat.reduceEqDiff, not_false_eq_true]; exact hm
        · have c1 := cpy_8 (f := σ 67) hm8 hb (fun j h1 h2 => (hz j h1 h2).1) (fun j h => (hz0 j (Nat.zero_le _) h).1)
          have c2 := cpy_8 (f := σ 68) hm8 hb (fun j h1 h2 => (hz j h1 h2).2.1) (fun j h => (hz0 j (Nat.zero_le _) h).2.1)
          have c3 := cpy_8 (f := σ 69) hm8 hb (fun j h1 h2 => (hz j h1 h2).2.2.1) (fun j h => (hz0 j (Nat.zero_le _) h).2.2.1)
          have c4 := cpy_8 (f := σ 70) hm8 hb (fun j h1 h2 => (hz j h1 h2).2.2.2) (fun j h => (hz0 j (Nat.zero_le _) h).2.2.2)
          have u3 : upd (upd (σ 3) nf (nI (2 ^ nf))) nf (nI (2 ^ nf) ||| σ 3 b) = upd (σ 3) nf (nI (2 ^ nf ||| bb)) := by
            rw [hl, or_nI]
            funext q
            by_cases hq : q = nf
            · subst hq; rw [b_ups, b_ups]
            · rw [b_upn hq, b_upn hq, b_upn hq]
          have G : Grow ns ns nf (nf + 1) (σ 71) (σ 71) (σ 66) (upd (σ 66) nf (nI m)) (σ 67) (va_cpy (σ 67) (σ 67) (8 * b) (8 * nf) 8) (σ 68) (va_cpy (σ 68) (σ 68) (8 * b) (8 * nf) 8) := Grow.face hJS hn hb
          refine ⟨nf + 1, ns, nr, ne, nl, nc, no, nt, nd, lo, ?_⟩
          simp only [b_une, b_ueq, b_ucne, b_uceq, cp4_67, cp4_68, cp4_69, cp4_70, cp4_o, Nat.reduceLT, true_or, or_true, ne_eq, Nat.reduceEqDiff, not_false_eq_true, b_ups, b_upn, c1, c2, c3, c4, u3, e2, e5, e6, e7, e8, hm]
          exact ⟨⟨⟨trivial, trivial, h91, h647⟩, ⟨trivial, trivial, trivial, trivial, trivial, e10, e12, e13⟩, hJF.sub hn hb hm8 hm, hJL.sub hn hb hl hbb, hJX.sub hn hb, hJS.face⟩, ⟨hB1, hB2, hB3.grow G, hB4.grow G hB3⟩, ⟨hC1, hC2, hC3.grow G, hC4⟩, ⟨hD1, hD2.grow G, hD3⟩, hE, hF, ⟨hG1, hG2.grow G⟩⟩
      · have : nf = 12 := by omega
        subst this
        rw [d_add_full ρ σ _ h10] at e1
        exact Both.same hI e1 (m_face_full ρ σ h640 (m_in_j ρ σ hb (by decide)))
