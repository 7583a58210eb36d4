variable {B : Nat}
/-! run: one cue -/
set_option maxHeartbeats 4000000 in
theorem cue_call (ρ : Nat × (Nat → Int32)) {σ τ : rd_Sg} {a n : Nat} (hI : Inv B (mix σ τ)) (hBB : B < 2 ^ 29) (h48 : τ 64 48 = 0) (ha : a < 4) (hn : n < 8) :
    ∃ kd σ1 τ1, rd_R ρ 6 0 [some (.ref 56), some (.int (σ 62 a)), some (.int (nI n)), none] [] σ = some (kd, σ1) ∧ rd_R ρ 184 0 [some (.ref 64), some (.int (nI a)), some (.int (nI n)), none, none, none, none, none] [] τ = some (kd, τ1) ∧ (kd = -1 ∨ ∃ q, q < 12 ∧ kd = nI q) ∧ Inv (B + 1) (mix σ1 τ1) ∧
      (∀ c, c = 9 ∨ 32 < c → c ≠ 61 → c ≠ 62 → σ1 c = σ c) ∧ (∀ c, c < 64 ∨ 98 < c → τ1 c = τ c) ∧ (∀ j, 32 ≤ j → j ≠ 56 → j ≠ 57 → τ1 64 j = τ 64 j) := by
  have hI0 := hI
  rw [Inv.two] at hI
  obtain ⟨nf, ns, nr, ne, nl, nc, no, nt, nd, lo, ⟨⟨a1, a2, a3, a4⟩, ⟨b1, b2, b3, b4, b5, b6, b7, b8⟩, hJF, hJL, hJX, hJS⟩, -, -, -, -, -, ⟨⟨g1, g2, g3, g4, g5, g6, g7, g8⟩, hst, hem⟩⟩ := hI
  have hns := hJS.1
  have h62 : σ 62 = τ 98 := by
    rcases hem with ⟨w, -⟩ | ⟨-, w⟩
    · rw [h48] at w; exact absurd w (by decide)
    · exact w
  have DQ := q_X0_callHeld_56 ρ σ (σ 62 a) (nI n)
  have MQ := q_M_callBy_64 ρ τ (nI a) (nI n)
  rw [b_chk ha (by decide), nI_clamp (by omega), ← h62] at MQ
  have frD : ∀ c, c = 9 ∨ 32 < c → c ≠ 61 → c ≠ 62 → σ c = σ c := fun _ _ _ _ => rfl
  rcases hst a ha with e | ⟨s, hs, e⟩
  · rw [e] at DQ MQ
    rw [if_pos rfl] at DQ
    rw [if_pos (by decide)] at MQ
    rw [e]
    exact ⟨9, σ, τ, DQ, MQ, Or.inr ⟨9, by decide, by decide⟩, hI0.up, frD, fun _ _ => rfl, fun _ _ _ _ => rfl⟩
  rw [e] at DQ MQ
  rw [e]
  rw [if_neg (fun w => neg1_nI (n := s) (by omega) w.symm)] at DQ
  rw [if_neg (nI_pos (by omega))] at MQ
  obtain ⟨f, f1, f2, f3⟩ := (hJS.2.1 s hs).1
  have hf12 : f < 12 := by have := hJF.1; omega
  obtain ⟨cc, c1, c2, -⟩ := hJF.2.2.1 f hf12
  rw [d_sig ρ σ a3 hns hs hf12 (by rw [b6]; exact f2) (by rw [b1]; exact c2)] at DQ
  rw [m_isMethod ρ τ (by omega) hf12 c1 f2 c2] at MQ
  simp only [Option.bind_some] at MQ
  by_cases hm : ¬ n < cc
  · have q : hv (nI n) cc = 0 := by rw [hv_nI (by omega) (by omega), if_neg hm]
    rw [if_pos q] at DQ MQ
    simp only [Option.bind_some, if_true] at DQ
    exact ⟨10, σ, τ, DQ, MQ, Or.inr ⟨10, by decide, by decide⟩, hI0.up, frD, fun _ _ => rfl, fun _ _ _ _ => rfl⟩
  have hm := Decidable.not_not.mp hm
  have hh := hv_in hm (show cc < 2 ^ 31 by omega)
  rw [hh, if_neg (by decide), ixr (kk := 8) (by decide)] at DQ
  rw [hh, if_neg (by decide), m_methodAt ρ τ (by omega) f2] at MQ
  simp only [Option.bind_some] at DQ MQ
  obtain ⟨p, b, g, F, hsd⟩ := sd_of (f := f) (m := n) (cc := cc) hJF (by omega)
  have hsig : SigOk ns (τ 71) (τ 66) s n (8 * f + n) := ⟨hs, f, cc, hf12, f2, c2, c1, hm, rfl⟩
  have hsdD : SD (σ 5) (σ 6) (σ 7) (σ 8) (8 * f + n) p b g F := by rw [b2, b3, b4, b5]; exact hsd
  generalize hsg : 8 * f + n = sg at DQ MQ hsd hsig hsdD
  have hsg96 := hsd.1
  rw [if_neg (fun w => neg1_nI (n := sg) (by omega) w.symm), d_begin ρ σ] at DQ
  simp only [Option.bind_some] at DQ
  rw [d_bringAll ρ σ hsdD] at DQ
  simp only [Option.bind_some] at DQ
  generalize hx : xF2 b p (σ 61) (σ 62) = x at DQ
  -- the model's values
  generalize hτ0 : rd_u (rd_u τ 64 56 0) 64 57 0 = τ0 at MQ
  have t64 : τ0 64 = upd (upd (τ 64) 56 0) 57 0 := by rw [← hτ0, b_ueq, b_ueq]
  have tc : ∀ c, c ≠ 64 → τ0 c = τ c := fun c h => by rw [← hτ0, b_une h, b_une h]
  have NX : ∀ (f : Nat → Int32) i, i < 3 → f 57 = nI (sN b (min i p)) → f 56 = nI (wN b (min i p)) → rd_R ρ 183 0 [some (.ref 64), some (.int (nI sg)), some (.int (nI i))] [] (rd_uc τ 64 f) = some (x i, rd_uc τ 64 (upd (upd f 56 (nI (wN b (min (i + 1) p)))) 57 (nI (sN b (min (i + 1) p))))) := by
    intro f i hi h1 h2
    have := m_next ρ (rd_uc τ 64 f) (sg := sg) (p := p) (b := b) (g := g) (F := F) (by rw [b_ucne (by decide), b_ucne (by decide), b_ucne (by decide), b_ucne (by decide)]; exact hsd) hi (by rw [b_uceq]; exact h1) (by rw [b_uceq]; exact h2)
    rw [this, b_ucne (by decide), b_ucne (by decide), b_uceq, ← g1, ← h62, hx]
    congr 2
    funext c j
    simp only [rd_uc]
    grind
  have e0 : τ0 = rd_uc τ 64 (upd (upd (τ 64) 56 0) 57 0) := by
    funext c
    by_cases w : c = 64
    · subst w; rw [t64, b_uceq]
    · rw [tc c w, b_ucne w]
  rw [e0] at MQ
  have N0 : rd_R ρ 183 0 [some (.ref 64), some (.int (nI sg)), some (.int 0)] [] _ = _ := NX (upd (upd (τ 64) 56 0) 57 0) 0 (by decide) (by rw [show min 0 p = 0 by omega]; rfl) (by rw [show min 0 p = 0 by omega]; rfl)
  rw [N0] at MQ
  simp only [Option.bind_some] at MQ
  have N1 : rd_R ρ 183 0 [some (.ref 64), some (.int (nI sg)), some (.int 1)] [] _ = _ := NX (upd (upd (upd (upd (τ 64) 56 0) 57 0) 56 (nI (wN b (min (0 + 1) p)))) 57 (nI (sN b (min (0 + 1) p)))) 1 (by decide) (by rw [b_ups]) (by rw [b_upn (by decide), b_ups])
  rw [N1] at MQ
  simp only [Option.bind_some] at MQ
  have N2 : rd_R ρ 183 0 [some (.ref 64), some (.int (nI sg)), some (.int 2)] [] _ = _ := NX (upd (upd (upd (upd (upd (upd (τ 64) 56 0) 57 0) 56 (nI (wN b (min (0 + 1) p)))) 57 (nI (sN b (min (0 + 1) p)))) 56 (nI (wN b (min (1 + 1) p)))) 57 (nI (sN b (min (1 + 1) p)))) 2 (by decide) (by rw [b_ups]) (by rw [b_upn (by decide), b_ups])
  rw [N2] at MQ
  simp only [Option.bind_some] at MQ
  generalize hf64 : upd (upd (upd (upd (upd (upd (upd (upd (τ 64) 56 0) 57 0) 56 (nI (wN b (min (0 + 1) p)))) 57 (nI (sN b (min (0 + 1) p)))) 56 (nI (wN b (min (1 + 1) p)))) 57 (nI (sN b (min (1 + 1) p)))) 56 (nI (wN b (min (2 + 1) p)))) 57 (nI (sN b (min (2 + 1) p))) = f64 at MQ
  have f64o : ∀ j, j ≠ 56 → j ≠ 57 → f64 j = τ 64 j := fun j h1 h2 => by
    rw [← hf64, b_upn h2, b_upn h1, b_upn h2, b_upn h1, b_upn h2, b_upn h1, b_upn h2, b_upn h1]
  have hI2 : Inv B (mix σ (rd_uc τ 64 f64)) := by
    refine run_inv (ns := ns) (nt := nt) (nd := nd) hI0 (Nat.le_refl B) a3 hns (fun _ _ => rfl) (fun c h1 h2 => b_ucne h1) (fun j hj => by rw [b_uceq, f64o j (by omega) (by omega)]) ?_ ?_ ⟨g3, g4, ?_⟩ ⟨g6, g7, ?_⟩ hst ?_ ?_
    · rw [b_ucne (by decide)]; exact g1
    · rw [b_ucne (by decide)]; exact g2
    · rw [b_uceq, f64o _ (by decide) (by decide)]; exact g5
    · rw [b_uceq, f64o _ (by decide) (by decide)]; exact g8
    · rw [b_ucne (by decide)]; exact h62
    · rw [b_uceq, f64o _ (by decide) (by decide)]; exact h48
  have hxs : ∀ i, i < 3 → b.testBit i = true → StV ns (x i) := by
    intro i hi hb
    have w1 := sN_le b i
    rw [← hx]
    unfold xF2 yF
    rw [if_pos (hsd.bit hb), if_pos hb]
    exact hst _ (by omega)
  obtain ⟨σ1, τ1, h1, h2, hr⟩ := call_step ρ (x := x) (s := s) (m := n) (sg := sg) (p := p) (b := b) (g := g) (F := F) hI2 hBB a3 hns (by rw [b_ucne (by decide), b_ucne (by decide)]; exact hsig) (by rw [b_ucne (by decide), b_ucne (by decide), b_ucne (by decide), b_ucne (by decide)]; exact hsd) hxs
  rw [h1] at DQ
  rw [h2] at MQ
  simp only [Option.bind_some] at DQ MQ
  obtain ⟨r1, r2, r3, r4, r5, r6, r7, r8, r9, r10⟩ := hr
  have gD : σ1 7 sg = nI g := by rw [r2 7 (by decide)]; exact hsdD.2.2.2.2.2.2.1
  have gM : τ1 69 sg = nI g := by rw [r5 69 (by decide) (by decide), b_ucne (by decide)]; exact hsd.2.2.2.2.2.2.1
  have F1 : ∀ c, c = 9 ∨ 32 < c → c ≠ 61 → c ≠ 62 → σ1 c = σ c := fun c h _ _ => r2 c (by omega)
  have F2 : ∀ c, c < 64 ∨ 98 < c → τ1 c = τ c := fun c h => by rw [r3 c (by omega), b_ucne (by omega)]
  have F3 : ∀ j, 32 ≤ j → j ≠ 56 → j ≠ 57 → τ1 64 j = τ 64 j := fun j h w1 w2 => by rw [r4 j h, b_uceq, f64o j w1 w2]
  rw [r8] at DQ
  rcases r9.symm with ⟨q, q9, e30⟩ | e30
  · rw [e30] at DQ MQ
    rw [if_neg (fun w => neg1_nI (n := q) (by omega) w.symm)] at DQ
    rw [if_neg (nI_pos (by omega))] at MQ
    exact ⟨nI q, σ1, τ1, DQ, MQ, Or.inr ⟨q, by omega, rfl⟩, r1, F1, F2, F3⟩
  rw [e30] at DQ MQ
  rw [if_pos rfl, d_gives ρ σ1 hsg96 gD] at DQ
  rw [if_pos (by decide), b_chk hsg96 (by decide), b_chk hsg96 (by decide), nI_clamp (by omega), gM] at MQ
  simp only [Option.bind_some] at DQ
  rw [d_gives ρ σ1 hsg96 gD] at DQ
  simp only [Option.bind_some] at DQ
  have v91 : σ1 9 1 = nI ns := by rw [r2 9 (by decide)]; exact a3
  have v61 : σ1 61 = τ1 97 := by rw [r2 61 (by decide), r3 97 (by decide), b_ucne (by decide)]; exact g1
  have v62 : σ1 62 = τ1 98 := by rw [r2 62 (by decide), r3 98 (by decide), b_ucne (by decide)]; exact h62
  have v63 : σ1 63 = τ1 99 := by rw [r2 63 (by decide), r3 99 (by decide), b_ucne (by decide)]; exact g2
  have vst : ∀ i, i < 4 → StV ns (σ1 62 i) := fun i hi => by rw [r2 62 (by decide)]; exact hst i hi
  have v8 : nt ≤ 100 ∧ σ1 56 8 = nI nt ∧ τ1 64 50 = nI nt := ⟨g3, by rw [r2 56 (by decide)]; exact g4, by rw [F3 50 (by decide) (by decide) (by decide)]; exact g5⟩
  have v9 : nd < 30000 ∧ σ1 56 9 = nI nd ∧ τ1 64 49 = nI nd := ⟨g6, by rw [r2 56 (by decide)]; exact g7, by rw [F3 49 (by decide) (by decide) (by decide)]; exact g8⟩
  have v48 : τ1 64 48 = 0 := by rw [F3 48 (by decide) (by decide) (by decide)]; exact h48
  by_cases w1 : nI g = 1
  · rw [if_pos w1] at DQ MQ
    rw [r7] at DQ
    refine ⟨-1, _, _, DQ, MQ, Or.inl rfl, ?_, fun c h h1 h2 => by rw [b_une h1]; exact F1 c h h1 h2, fun c h => by rw [b_une (by omega)]; exact F2 c h, fun j h h1 h2 => by rw [b_une (by decide)]; exact F3 j h h1 h2⟩
    refine run_inv (ns := ns) (nt := nt) (nd := nd) r1 (Nat.le_refl _) v91 hns (fun c hc => b_une (by omega)) (fun c h1 h2 => b_une (by omega)) (fun j hj => by rw [b_une (by decide)]) ?_ ?_ ?_ ?_ ?_ ?_ ?_
    · rw [b_ueq, b_ueq, v61]
    · rw [b_une (by decide), b_une (by decide)]; exact v63
    · rw [b_une (by decide), b_une (by decide)]; exact v8
    · rw [b_une (by decide), b_une (by decide)]; exact v9
    · rw [b_une (by decide)]; exact vst
    · rw [b_une (by decide), b_une (by decide)]; exact v62
    · rw [b_une (by decide)]; exact v48
  · rw [if_neg w1] at DQ MQ
    by_cases w2 : nI g = 2
    · rw [if_pos w2] at DQ MQ
      rw [r7] at DQ
      have g2' : g = 2 := (nI_eq (by have := hsd.2.2.2.1; omega) (by decide)).mp (w2.trans (show (2 : Int32) = nI 2 by decide))
      refine ⟨-1, _, _, DQ, MQ, Or.inl rfl, ?_, fun c h h1 h2 => by rw [b_une h2]; exact F1 c h h1 h2, fun c h => by rw [b_une (by omega)]; exact F2 c h, fun j h h1 h2 => by rw [b_une (by decide)]; exact F3 j h h1 h2⟩
      refine run_inv (ns := ns) (nt := nt) (nd := nd) r1 (Nat.le_refl _) v91 hns (fun c hc => b_une (by omega)) (fun c h1 h2 => b_une (by omega)) (fun j hj => by rw [b_une (by decide)]) ?_ ?_ ?_ ?_ ?_ ?_ ?_
      · rw [b_une (by decide), b_une (by decide)]; exact v61
      · rw [b_une (by decide), b_une (by decide)]; exact v63
      · rw [b_une (by decide), b_une (by decide)]; exact v8
      · rw [b_une (by decide), b_une (by decide)]; exact v9
      · intro i hi
        rw [b_ueq]
        by_cases e3 : i = 3
        · subst e3; rw [b_ups]; exact r10 g2'
        · rw [b_upn e3]; exact vst i hi
      · rw [b_ueq, b_ueq, v62]
      · rw [b_une (by decide)]; exact v48
    · rw [if_neg w2] at DQ MQ
      exact ⟨-1, σ1, τ1, DQ, MQ, Or.inl rfl, r1, F1, F2, F3⟩
