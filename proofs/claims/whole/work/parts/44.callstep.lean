variable {B : Nat}
/-! a call: both sides answer alike -/
def OutOk (ns : Nat) (o : Ot) : Prop := (o.2.2.2.1 = -1 ∨ ∃ k, k < 9 ∧ o.2.2.2.1 = nI k) ∧ (o.2.1 = 2 → StV ns o.2.2.1)
theorem oFail_ok {ns k : Nat} (hk : k < 8) (F : Int32) (lv : Nat → Int32) : OutOk ns (oFail F (nI k) lv) := by
  unfold oFail
  split
  · exact ⟨Or.inr ⟨k, by omega, rfl⟩, fun h => absurd h (show ¬ (0 : Int32) = 2 by decide)⟩
  · exact ⟨Or.inr ⟨8, by omega, by show (8 : Int32) = nI 8; decide⟩, fun h => absurd h (show ¬ (0 : Int32) = 2 by decide)⟩
theorem oThru_ok {ns : Nat} (th F sm : Int32) (lv : Nat → Int32) : OutOk ns (oThru th F sm lv) := by
  have h7 := oFail_ok (ns := ns) (k := 7) (by decide) F lv
  rw [show nI 7 = (7 : Int32) by decide] at h7
  unfold oThru
  split
  · exact ⟨Or.inl rfl, fun h => absurd h (show ¬ (0 : Int32) = 2 by decide)⟩
  · split
    · exact h7
    · split
      · exact h7
      · exact ⟨Or.inl rfl, fun h => absurd h (show ¬ (1 : Int32) = 2 by decide)⟩
theorem oAns_ok {ns b : Nat} {ak v sm F th : Int32} {X lv : Nat → Int32} (h1 : ak = 1 → StV ns v) (h2 : ak = 2 → ∃ k, k < 8 ∧ v = nI k) (h4 : ak = 4 → b.testBit v.toNatClampNeg = true → StV ns (X v.toNatClampNeg)) : OutOk ns (oAns ak v sm F th b X lv) := by
  unfold oAns
  by_cases a0 : ak = 0
  · rw [if_pos a0]; exact ⟨Or.inl rfl, fun h => absurd h (show ¬ (1 : Int32) = 2 by decide)⟩
  rw [if_neg a0]
  by_cases a1 : ak = 1
  · rw [if_pos a1]; exact ⟨Or.inl rfl, fun _ => h1 a1⟩
  rw [if_neg a1]
  by_cases a2 : ak = 2
  · rw [if_pos a2]
    obtain ⟨k, k1, k2⟩ := h2 a2
    rw [k2]
    exact oFail_ok k1 F lv
  rw [if_neg a2]
  by_cases a3 : ak = 3
  · rw [if_pos a3]; exact ⟨Or.inl rfl, fun h => absurd h (show ¬ (1 : Int32) = 2 by decide)⟩
  rw [if_neg a3]
  by_cases a4 : ak = 4
  · rw [if_pos a4]
    refine ⟨Or.inl rfl, fun h => ?_⟩
    by_cases e : b.testBit v.toNatClampNeg = true
    · exact h4 a4 e
    · have : (if b.testBit v.toNatClampNeg = true then (2 : Int32) else 1) = 2 := h
      rw [if_neg e] at this
      exact absurd this (by decide)
  rw [if_neg a4]
  exact oThru_ok _ _ _ _
theorem oAns_X {b : Nat} {ak v sm F th : Int32} {X Y lv : Nat → Int32} (h : ak = 4 → X v.toNatClampNeg = Y v.toNatClampNeg) : oAns ak v sm F th b X lv = oAns ak v sm F th b Y lv := by
  unfold oAns
  by_cases a4 : ak = 4
  · rw [h a4]
  · simp only [if_neg a4]
theorem ftF_ne {sl st me cD lD hD x : Nat → Int32} {r : Nat} {s m : Int32} (h : ¬ ftF sl st me cD lD hD r s m x = 0) : st r = s ∧ me r = m := by
  unfold ftF at h
  by_cases e1 : st r = s
  · by_cases e2 : me r = m
    · exact ⟨e1, e2⟩
    · rw [if_pos e1, if_neg e2] at h; exact absurd rfl h
  · rw [if_neg e1] at h; exact absurd rfl h
theorem bt_b {sg b : Nat} {f : Nat → Int32} {i : Nat} (h : f sg = nI b) (hb : b < 8) : bt (f sg) i ↔ b.testBit i = true := by
  unfold bt
  rw [h, nI_clamp (by omega)]
def CallRes (B : Nat) (ns g : Nat) (σ τ σ1 τ1 : rd_Sg) : Prop := Inv (B + 1) (mix σ1 τ1) ∧ (∀ c, c < 25 ∨ 32 < c → σ1 c = σ c) ∧ (∀ c, c < 64 ∨ 91 < c → τ1 c = τ c) ∧ (∀ j, 32 ≤ j → τ1 64 j = τ 64 j) ∧ (∀ c, c ≠ 64 → c < 73 → τ1 c = τ c) ∧
  σ1 30 5 = τ1 64 31 ∧ σ1 30 7 = τ1 64 29 ∧ σ1 30 8 = τ1 64 30 ∧ (τ1 64 30 = -1 ∨ ∃ k, k < 9 ∧ τ1 64 30 = nI k) ∧ (g = 2 → StV ns (τ1 64 29))
theorem res_call {σ τ σu τu : rd_Sg} {nl ns s m p g : Nat} {x : Nat → Int32} {rI : Int32} {o : Ot} (hD : DU σ σu s m p g x rI) (hM : MU τ τu) (ho : OutOk ns o) (hI : Inv (B + 1) (mix (keepF (DOut σu o (nI g)) nl) (recM (MOut τu o) nl s m p x rI (gvF (nI g) o.2.1 o.2.2.1)))) : CallRes B ns g σ τ (keepF (DOut σu o (nI g)) nl) (recM (MOut τu o) nl s m p x rI (gvF (nI g) o.2.1 o.2.2.1)) := by
  obtain ⟨dc, d30⟩ := hD
  obtain ⟨mc, m64⟩ := hM
  have k30 : keepF (DOut σu o (nI g)) nl 30 = upd (upd (upd (σu 30) 5 o.1) 7 (gvF (nI g) o.2.1 o.2.2.1)) 8 o.2.2.2.1 := by
    unfold keepF DOut
    split
    · rw [b_ucne (by decide), b_ucne (by decide), b_ucne (by decide), b_uceq]
    · rw [b_ucne (by decide), b_ucne (by decide), b_uceq]
  have q64 : ∀ j, j ≠ 23 → j ≠ 24 → j ≠ 26 → j ≠ 29 → recM (MOut τu o) nl s m p x rI (gvF (nI g) o.2.1 o.2.2.1) 64 j = MOut τu o 64 j := by
    intro j h1 h2 h3 h4
    unfold recM
    split
    · rw [b_ucne (by decide), b_ucne (by decide), b_uceq, b_upn h1, b_upn h3, b_upn h4]
    · rw [b_ucne (by decide), b_uceq, b_upn h2, b_upn h3, b_upn h4]
  have o64 : MOut τu o 64 = upd (upd (upd (upd (τu 64) 28 o.2.1) 29 o.2.2.1) 30 o.2.2.2.1) 31 o.1 := by
    unfold MOut
    rw [b_ucne (by decide), b_uceq]
  have q29 : recM (MOut τu o) nl s m p x rI (gvF (nI g) o.2.1 o.2.2.1) 64 29 = gvF (nI g) o.2.1 o.2.2.1 := by
    unfold recM
    split
    · rw [b_ucne (by decide), b_ucne (by decide), b_uceq, b_upn (by decide), b_upn (by decide), b_ups]
    · rw [b_ucne (by decide), b_uceq, b_upn (by decide), b_upn (by decide), b_ups]
  have q30 : recM (MOut τu o) nl s m p x rI (gvF (nI g) o.2.1 o.2.2.1) 64 30 = o.2.2.2.1 := by
    rw [q64 30 (by decide) (by decide) (by decide) (by decide), o64, b_upn (by decide), b_ups]
  have q31 : recM (MOut τu o) nl s m p x rI (gvF (nI g) o.2.1 o.2.2.1) 64 31 = o.1 := by
    rw [q64 31 (by decide) (by decide) (by decide) (by decide), o64, b_ups]
  refine ⟨hI, fun c hc => ?_, fun c hc => ?_, fun j hj => ?_, fun c h1 h2 => ?_, ?_, ?_, ?_, ?_, fun hg => ?_⟩
  · have e : DOut σu o (nI g) c = σ c := by
      unfold DOut
      rw [b_ucne (by omega), b_ucne (by omega), dc c (by omega) (by omega) (by omega)]
    unfold keepF
    split
    · rw [b_ucne (by omega), b_ucne (by omega), e]
    · rw [b_ucne (by omega), e]
  · have e : MOut τu o c = τ c := by
      unfold MOut
      rw [b_ucne (by omega), b_ucne (by omega), mc c (by omega) (by omega)]
    unfold recM
    split
    · rw [b_ucne (by omega), b_ucne (by omega), b_ucne (by omega), e]
    · rw [b_ucne (by omega), b_ucne (by omega), e]
  · rw [q64 j (by omega) (by omega) (by omega) (by omega), o64, b_upn (by omega), b_upn (by omega), b_upn (by omega), b_upn (by omega), m64, b_upn (by omega), b_upn (by omega), b_upn (by omega), b_upn (by omega)]
  · have e : MOut τu o c = τ c := by
      unfold MOut
      rw [b_ucne (by omega), b_ucne (by omega), mc c (by omega) (by omega)]
    unfold recM
    split
    · rw [b_ucne (by omega), b_ucne (by omega), b_ucne (by omega), e]
    · rw [b_ucne (by omega), b_ucne (by omega), e]
  · rw [k30, b_upn (by decide), b_upn (by decide), b_ups, q31]
  · rw [k30, b_upn (by decide), b_ups, q29]
  · rw [k30, b_ups, q30]
  · rw [q30]; exact ho.1
  · rw [q29, hg]
    unfold gvF
    rw [if_neg (by decide), if_pos (by decide)]
    by_cases e : o.2.1 = 2
    · rw [if_pos e]; exact ho.2 e
    · rw [if_neg e]; exact Or.inl rfl
set_option maxHeartbeats 4000000 in
theorem call_step (ρ : Nat × (Nat → Int32)) {σ τ : rd_Sg} (hI : Inv B (mix σ τ)) (hBB : B < 2 ^ 29) {ns s m sg p b g : Nat} {F : Int32} {x : Nat → Int32} (h91 : σ 9 1 = nI ns) (hns : ns ≤ 24) (hs : SigOk ns (τ 71) (τ 66) s m sg) (hsd : SD (τ 67) (τ 68) (τ 69) (τ 70) sg p b g F) (hx : ∀ i, i < 3 → b.testBit i = true → StV ns (x i)) :
    ∃ σ1 τ1, rd_R ρ 79 0 [some (.ref 31), none] [] (rdyF σ s m sg p b x) = some (0, σ1) ∧ rd_R ρ 163 0 [some (.ref 64), some (.int (nI s)), some (.int (nI m)), some (.int (x 0)), some (.int (x 1)), some (.int (x 2)), none, none, none, none, none] [] τ = some (0, τ1) ∧ CallRes B ns g σ τ σ1 τ1 := by
  rw [Inv.two] at hI
  obtain ⟨nf, ns', nr, ne, nl, nc, no, nt, nd, lo, hA, ⟨hB1, ⟨e22, e23, e24, e26, e27⟩, hP, hR⟩, hC, ⟨⟨l1, l2, l3, -, -, l6, -, -, -, -, l11⟩, hJG, hlo, l12⟩, hE, hF, hG⟩ := hI
  obtain ⟨a1, a2, hJF, hJL, hJX, hJS⟩ := id hA
  have : ns' = ns := (nI_eq (by have := hJS.1; omega) (by omega)).mp (a1.2.2.1.symm.trans h91)
  subst this
  obtain ⟨b1, b2, b3, b4, b5, b6, b7, b8⟩ := a2
  have hbit : ∀ i, bt (τ 68 sg) i ↔ b.testBit i = true := fun i => bt_b hsd.2.2.2.2.2.1 hsd.b8
  have hnf := hJF.1
  have hbel := hJF.2.2.2
  have hnl := hJG.1
  have hnr := hP.1
  have hl := hs.lt
  have hst : ∀ s, s < ns' → ∃ f, f < nf ∧ τ 71 s = nI f ∧ σ 11 s = σ 3 f := fun s hs => (hJS.2.1 s hs).1
  have hsl : ∀ s, s < ns' → ∃ b, b < 4096 ∧ σ 11 s = nI b := by
    intro s hs
    obtain ⟨f, h1, -, h3⟩ := hst s hs
    obtain ⟨b, w1, w2, -⟩ := hJL f h1
    exact ⟨b, w2, h3.trans w1⟩
  have hth := (hJS.2.1 s hl.2.2).2
  obtain ⟨-, f, cc, f1, f2, f3, f4, f5, f6⟩ := id hs
  -- the desk, all come
  generalize hσr : rdyF σ s m sg p b x = σr
  have R : ∀ c, c ≠ 30 → c ≠ 31 → σr c = σ c := fun c h1 h2 => by
    rw [← hσr]; unfold rdyF; rw [b_ucne h2, b_ucne h1]
  have R30 : σr 30 = rowF (σ 30) s m p x := by rw [← hσr]; unfold rdyF; rw [b_ucne (by decide), b_uceq]
  have R31 : σr 31 = stF (σ 31) sg (smF p b x) := by rw [← hσr]; unfold rdyF; rw [b_uceq]
  have X30 : ∀ i, i < 3 → σr 30 (2 + i) = if i < p then x i else 0 := fun i hi => by
    rw [R30]; unfold rowF
    rw [if_neg (by omega), if_neg (by omega), if_pos (by omega), show 2 + i - 2 = i by omega]
  have X31 : ∀ i, i < p → σr 30 (2 + i) = x i := fun i hi => by
    rw [X30 i (by have := hsd.2.1; omega), if_pos hi]
  have r0 : σr 30 0 = nI s := by rw [R30]; rfl
  have r1 : σr 30 1 = nI m := by rw [R30]; rfl
  have hsdr : SD (σr 5) (σr 6) (σr 7) (σr 8) sg p b g F := by
    rw [R 5 (by decide) (by decide), R 6 (by decide) (by decide), R 7 (by decide) (by decide), R 8 (by decide) (by decide), b2, b3, b4, b5]; exact hsd
  have r6 : σr 31 6 = nI sg := by rw [R31]; rfl
  have r7 : σr 31 7 = smF p b x := by rw [R31]; rfl
  -- the rule
  have Px : ∀ r, r < nr → PatOk ns' nf 0 r s m (nI p) (σ 16) (σ 17) (σ 19) (σ 20) (σ 21) (τ 76) (τ 77) (τ 78) x := fun r hr => by
    have := hP.pat (x := x) hr hs hns (fun i hi hb => hx i hi ((hbit i).mp hb))
    rw [hsd.2.2.2.2.1] at this
    exact this
  have PX : ∀ r, r < nr → PatOk ns' nf 0 r s m (nI p) (σr 16) (σr 17) (σr 19) (σr 20) (σr 21) (τ 76) (τ 77) (τ 78) (fun i => σr 30 (2 + i)) := fun r hr => by
    rw [R 16 (by decide) (by decide), R 17 (by decide) (by decide), R 19 (by decide) (by decide), R 20 (by decide) (by decide), R 21 (by decide) (by decide)]
    have := hP.pat (x := fun i => σr 30 (2 + i)) hr hs hns (fun i hi hb => by
      have hb := (hbit i).mp hb
      show StV ns' (σr 30 (2 + i))
      rw [X31 i (hsd.bit hb)]; exact hx i hi hb)
    rw [hsd.2.2.2.2.1] at this
    exact this
  have hfind := d_find ρ σr (nr := nr) (s := s) (m := m) (by rw [R 15 (by decide) (by decide)]; exact hB1.2.1) hnr r0 r1 PX hns hnf (by rw [R 11 (by decide) (by decide)]; exact hsl)
  rw [R 22 (by decide) (by decide)] at hfind
  have hGG : ∀ r, r < nr → GR σr s m (fun i => σr 30 (2 + i)) r = GR σ s m x r := fun r hr => by
    unfold GR
    rw [R 16 (by decide) (by decide), R 17 (by decide) (by decide), R 19 (by decide) (by decide), R 20 (by decide) (by decide), R 21 (by decide) (by decide), R 11 (by decide) (by decide)]
    refine ftF_norm fun e1 e2 i hi => ?_
    obtain ⟨c, c1, c2, -, -, -, c6, -⟩ := Px r hr e1 e2 i hi
    by_cases c0 : c = 0
    · exact Or.inl (by rw [c2, c0]; rfl)
    · exact Or.inr (X31 i ((p_lt rfl (by omega) (by have := hsd.2.1; omega)).mp (c6 c0)))
  rw [fnF_congr nr hGG] at hfind
  -- the model
  have TQ := q_M_answerCall_64 ρ τ (nI s) (nI m) (x 0) (x 1) (x 2)
  rw [m_methodAt ρ τ (by omega) f2, ← f6] at TQ
  simp only [Option.bind_some] at TQ
  rw [b_chk hsd.1 (by decide), nI_clamp (by have := hsd.1; omega), hsd.2.2.2.2.1] at TQ
  generalize hτ0 : rd_u (rd_u (rd_u (rd_u τ 64 28 0) 64 29 0) 64 30 (-1)) 64 31 0 = τ0 at TQ
  have T : ∀ c, c ≠ 64 → τ0 c = τ c := fun c h => by
    rw [← hτ0, b_une h, b_une h, b_une h, b_une h]
  have T64 : τ0 64 = upd (upd (upd (upd (τ 64) 28 0) 29 0) 30 (-1)) 31 0 := by
    rw [← hτ0]; simp only [b_ueq]
  have hMr : Mr τ0 s sg p b g F := by
    unfold Mr
    rw [T 67 (by decide), T 68 (by decide), T 69 (by decide), T 70 (by decide), T 72 (by decide), T64]
    exact ⟨hsd, by omega, rfl, rfl, rfl, rfl, hth⟩
  have hmeets : ∀ r, r < nr → rd_R ρ 151 0 [some (.ref 64), some (.int (nI r)), some (.int (nI s)), some (.int (nI m)), some (.int (x 0)), some (.int (x 1)), some (.int (x 2)), none] [] τ0 = some (GR σ s m x r, τ0) := fun r hr => by
    obtain ⟨s', m', sg', -, p2, p3, p4, p5, -, -⟩ := hP.2.1 r hr
    have := m_meets ρ τ0 (off := 0) (r := r) (s := s) (m := m) (f := f) (p := p) (ns := ns') (nf := nf) (st := σ 16) (me := σ 17) (cD := σ 19) (lD := σ 20) (hD := σ 21) (lin := σ 3) (sl := σ 11) (x := x) (by omega) (by rw [T 74 (by decide)]; exact p3.trans p2.symm) (by rw [T 75 (by decide)]; exact p5.trans p4.symm) (by omega) (by rw [T 71 (by decide)]; exact f2) (by rw [← f6]; exact hsd.1) (by rw [T 67 (by decide), ← f6]; exact hsd.2.2.2.2.1) hsd.2.1 (by rw [T 76 (by decide), T 77 (by decide), T 78 (by decide)]; exact Px r hr) hns hnf (by rw [T 65 (by decide)]; exact hbel) (by rw [T 65 (by decide)]; exact hJL) (by rw [T 71 (by decide)]; exact hst)
    rw [Nat.zero_add] at this
    exact this
  have t16 : τ0 64 16 = nI nr := by rw [T64]; exact hB1.2.2
  have hrule := m_ruleFor ρ τ0 (x := x) (s := s) (m := m) t16 hnr hmeets
  rw [T 79 (by decide), ← e22] at hrule
  rw [hrule] at TQ
  simp only [Option.bind_some] at TQ
  have hperf := d_perf ρ σr (g := g) hsdr r6 hfind
  have hxx : ∀ i, i < 3 → bt (τ 68 sg) i → i < p ∧ StV ns' (x i) := fun i hi hb => ⟨hsd.bit ((hbit i).mp hb), hx i hi ((hbit i).mp hb)⟩
  have m23 : ∀ o, MOut τ0 o 64 23 = nI nl := fun o => by
    unfold MOut
    rw [b_ucne (by decide), b_uceq, b_upn (by decide), b_upn (by decide), b_upn (by decide), b_upn (by decide), T64]
    exact l2
  have m28 : ∀ τu o, MOut τu o 64 28 = o.2.1 := fun τu o => by
    unfold MOut
    rw [b_ucne (by decide), b_uceq, b_upn (by decide), b_upn (by decide), b_upn (by decide), b_ups]
  have m29 : ∀ τu o, MOut τu o 64 29 = o.2.2.1 := fun τu o => by
    unfold MOut
    rw [b_ucne (by decide), b_uceq, b_upn (by decide), b_upn (by decide), b_ups]
  have mO : ∀ τu o c, c ≠ 64 → c ≠ 73 → MOut τu o c = τu c := fun τu o c h1 h2 => by
    unfold MOut
    rw [b_ucne h2, b_ucne h1]
  have P30 : ∀ rI, preF σr rI g 30 = upd (upd (upd (upd (rowF (σ 30) s m p x) 5 0) 6 rI) 7 (gvF (nI g) 0 0)) 8 (-1) := fun rI => by
    unfold preF; rw [b_uceq, R30]
  have PP : ∀ rI c, c ≠ 30 → preF σr rI g c = σr c := fun rI c h => by
    unfold preF; rw [b_ucne h]
  have hRd : ∀ rI, Rd (preF σr rI g) s sg p b g F (smF p b x) := fun rI => by
    unfold Rd
    rw [PP rI 5 (by decide), PP rI 6 (by decide), PP rI 7 (by decide), PP rI 8 (by decide), PP rI 31 (by decide), PP rI 12 (by decide), P30, R 12 (by decide) (by decide), b7]
    exact ⟨hsdr, r6, r7, rfl, by omega, rfl, rfl, rfl, hth⟩
  have k28 : ∀ σu : rd_Sg, (∀ c, c = 28 → σu c = σ c) → ∀ o, DOut σu o (nI g) 28 3 = nI nl := fun σu h o => by
    unfold DOut
    rw [b_ucne (by decide), b_ucne (by decide), h 28 rfl]; exact l1
  have z : (-1 : Int32) < 0 := by decide
  rcases fnF_is (σ 22) (GR σ s m x) nr with hr | ⟨q, hq, hr, han, hG0⟩
  · rw [hr] at TQ hperf
    rw [if_pos rfl, d_thru ρ _ (hRd (-1))] at hperf
    simp only [Option.bind_some] at hperf
    rw [PP (-1) 12 (by decide), PP (-1) 32 (by decide), R 12 (by decide) (by decide), R 32 (by decide) (by decide)] at hperf
    rw [d_keep ρ _ (k28 _ (fun c hc => by rw [hc, PP (-1) 28 (by decide), R 28 (by decide) (by decide)]) _) hnl] at hperf
    simp only [Option.bind_some] at hperf
    rw [if_pos z, m_sum ρ τ0 x hMr.1] at TQ
    simp only [Option.bind_some] at TQ
    rw [m_thru ρ τ0 (smF p b x) hMr] at TQ
    simp only [Option.bind_some] at TQ
    rw [T 72 (by decide), T 73 (by decide), ← b7, ← l11] at TQ
    rw [m_rec51 ρ _ (nl := nl) (g := g) none none hsd.1 (by rw [mO _ _ 69 (by decide) (by decide), T 69 (by decide)]; exact hsd.2.2.2.2.2.2.1) hsd.2.1 hnl (m23 _), m28, m29] at TQ
    have hDU : DU σ (preF σr (-1) g) s m p g x (-1) := ⟨fun c h1 h2 h3 => by rw [PP (-1) c h2, R c h2 h3], P30 (-1)⟩
    have hMU : MU τ τ0 := ⟨fun c h1 h2 => T c h1, T64⟩
    refine ⟨_, _, hperf, TQ, res_call hDU hMU (oThru_ok _ _ _ _) ?_⟩
    refine fin_call hDU hMU hA ⟨hB1, ⟨e22, e23, e24⟩, hP⟩ ⟨⟨?_, ?_⟩, ?_⟩ hC ⟨⟨l1, l2, l3, l6⟩, hJG, hlo, l12⟩ hE hF hG hs hxx (by omega)
    · rw [PP (-1) 26 (by decide), R 26 (by decide) (by decide), T 83 (by decide)]; exact e26
    · rw [PP (-1) 27 (by decide), R 27 (by decide) (by decide), T 84 (by decide)]; exact e27
    · rw [PP (-1) 25 (by decide), R 25 (by decide) (by decide), T 82 (by decide), T 83 (by decide)]; exact hR.up
  · rw [hr] at TQ hperf
    have n1 : ¬ nI q = -1 := fun w => neg1_nI (by omega) w.symm
    obtain ⟨a, t, k1, k2, k3, k4, k5, k6, k7⟩ := hR.1 q (by omega)
    have ha0 : 0 < a := by
      rw [e22, k2] at han
      exact (p_lt (p := 0) rfl (by decide) (by omega)).mp han
    obtain ⟨g1, g2⟩ := ftF_ne hG0
    have hpat := Px q hq g1 g2
    obtain ⟨s', m', sg', w1, w2, -, w4, -, w6, -⟩ := hP.2.1 q hq
    have hw1 := w1.lt
    have x1 : s' = s := (nI_eq (by omega) (by omega)).mp (w2.symm.trans g1)
    have x2 : m' = m := (nI_eq (by omega) (by omega)).mp (w4.symm.trans g2)
    subst x1 x2
    have x3 := w1.same hs
    subst x3
    obtain ⟨j1, j4, j2⟩ := k7 (min t (a - 1)) (by omega)
    have j4' : τ 80 (6 * q + min t (a - 1)) = 4 → ∃ v, v < 3 ∧ τ 81 (6 * q + min t (a - 1)) = nI v ∧ v < p := fun e => by
      obtain ⟨v, v1, v2, sg2, v3, v4, v5⟩ := j4 e
      have : sg2 = sg' := (nI_eq (by omega) (by omega)).mp (v4.symm.trans w6)
      rw [this, hsd.2.2.2.2.1] at v5
      exact ⟨v, v1, v2, (p_lt rfl (by omega) (by have := hsd.2.1; omega)).mp v5⟩
    have hcD : ∀ i, i < 3 → σ 19 (3 * q + i) = τ 76 (3 * q + i) := fun i hi => by
      obtain ⟨c, c1, c2, c3, -⟩ := hpat i hi
      rw [Nat.zero_add] at c3
      rw [c2, c3]
    have hcp : ∀ i, i < 3 → τ 76 (3 * q + i) = 6 → i < p := fun i hi e => by
      obtain ⟨c, c1, c2, c3, -, -, c6, -⟩ := hpat i hi
      rw [Nat.zero_add] at c3
      have : c ≠ 0 := fun w => by rw [c3, w] at e; exact absurd e (by decide)
      exact (p_lt rfl (by omega) (by have := hsd.2.1; omega)).mp (c6 this)
    rw [if_neg n1, d_use ρ _ (q := q) (a := a) (t := t) (by omega) k1 ha0 (by rw [PP _ 22 (by decide), R 22 (by decide) (by decide), e22]; exact k2) (by rw [PP _ 25 (by decide), R 25 (by decide) (by decide)]; exact k5)] at hperf
    simp only [Option.bind_some] at hperf
    have U : ∀ c, c < 25 ∨ 27 < c → useF (preF σr (nI q) g) q t c = preF σr (nI q) g c := fun c hc => by
      unfold useF; rw [b_ucne (by omega), b_ucne (by omega), b_ucne (by omega)]
    have hRu : Rd (useF (preF σr (nI q) g) q t) s' sg' p b g F (smF p b x) := by
      have := hRd (nI q)
      unfold Rd at *
      rw [U 5 (by decide), U 6 (by decide), U 7 (by decide), U 8 (by decide), U 31 (by decide), U 30 (by decide), U 12 (by decide)]
      exact this
    rw [d_ans ρ _ hRu (by omega) (by
      rw [U 23 (by decide), U 24 (by decide), PP _ 23 (by decide), PP _ 24 (by decide), R 23 (by decide) (by decide), R 24 (by decide) (by decide), e23, e24]
      intro e; obtain ⟨v, v1, v2, -⟩ := j4' e; exact ⟨v, v1, v2⟩)] at hperf
    simp only [Option.bind_some] at hperf
    rw [U 23 (by decide), U 24 (by decide), U 12 (by decide), U 32 (by decide), U 30 (by decide), PP _ 23 (by decide), PP _ 24 (by decide), PP _ 12 (by decide), PP _ 32 (by decide), R 23 (by decide) (by decide), R 24 (by decide) (by decide), R 12 (by decide) (by decide), R 32 (by decide) (by decide)] at hperf
    have xP : ∀ i, i < p → preF σr (nI q) g 30 (2 + i) = x i := fun i hi => by
      have hp3 := hsd.2.1
      unfold preF
      rw [b_uceq, b_upn (by omega), b_upn (by omega), b_upn (by omega), b_upn (by omega), X31 i hi]
    rw [oAns_X (Y := x) (fun e => by
      rw [e23] at e
      obtain ⟨v, v1, v2, v3⟩ := j4' e
      rw [e24, v2, nI_clamp (by omega)]
      exact xP v v3)] at hperf
    rw [d_keep ρ _ (k28 _ (fun c hc => by rw [hc, U 28 (by decide), PP _ 28 (by decide), R 28 (by decide) (by decide)]) _) hnl] at hperf
    simp only [Option.bind_some] at hperf
    rw [if_neg (nI_pos (by omega)), m_byRule ρ τ0 (q := q) (a := a) (t := t) (x := x) hMr (by omega) k1 ha0 (by rw [T 79 (by decide)]; exact k2) (by rw [T 82 (by decide)]; exact k4) (by omega) (by
      rw [T 76 (by decide)]
      intro i hi hpi e
      have := hcp i hi e
      omega) (by
      rw [T 80 (by decide), T 81 (by decide)]
      intro e; obtain ⟨v, v1, v2, -⟩ := j4' e; exact ⟨v, v1, v2⟩)] at TQ
    simp only [Option.bind_some] at TQ
    rw [T 80 (by decide), T 81 (by decide), T 72 (by decide), T 73 (by decide), ← b7, ← l11, ← e23, ← e24] at TQ
    have V : ∀ c, c < 82 ∨ 84 < c → useM τ0 q t x c = τ0 c := fun c hc => by
      unfold useM; rw [b_ucne (by omega), b_ucne (by omega), b_ucne (by omega)]
    rw [m_rec51 ρ _ (nl := nl) (g := g) none none hsd.1 (by rw [mO _ _ 69 (by decide) (by decide), V 69 (by decide), T 69 (by decide)]; exact hsd.2.2.2.2.2.2.1) hsd.2.1 hnl (by
      unfold MOut
      rw [b_ucne (by decide), b_uceq, b_upn (by decide), b_upn (by decide), b_upn (by decide), b_upn (by decide), V 64 (by decide), T64]
      exact l2), m28, m29] at TQ
    have hDU : DU σ (useF (preF σr (nI q) g) q t) s' m' p g x (nI q) := ⟨fun c h1 h2 h3 => by rw [U c h1, PP _ c h2, R c h2 h3], by rw [U 30 (by decide)]; exact P30 (nI q)⟩
    have hMU : MU τ (useM τ0 q t x) := ⟨fun c h1 h2 => by rw [V c h2, T c h1], by rw [V 64 (by decide)]; exact T64⟩
    have c1e : ct3 (σ 26) (σ 19) q (fun _ => 1) = ct3 (τ 83) (τ 76) q (fun _ => 1) := by
      rw [e26]; exact ct3_congr hcD (fun _ _ _ => rfl)
    have c2e : ct3 (σ 27) (σ 19) q (fun i => preF σr (nI q) g 30 (2 + i)) = ct3 (τ 84) (τ 76) q x := by
      rw [e27]; exact ct3_congr hcD (fun i hi e => xP i (hcp i hi (by rw [← hcD i hi]; exact e)))
    refine ⟨_, _, hperf, TQ, res_call hDU hMU (oAns_ok ?_ ?_ ?_) ?_⟩
    · rw [e23, e24]; exact j1
    · rw [e23, e24]; exact j2
    · rw [e23, e24]
      intro e eb
      obtain ⟨v, v1, v2, v3⟩ := j4' e
      rw [v2, nI_clamp (by omega)] at eb ⊢
      exact hx v v1 eb
    refine fin_call hDU hMU hA ⟨hB1, ⟨e22, e23, e24⟩, hP⟩ ⟨⟨?_, ?_⟩, ?_⟩ hC ⟨⟨l1, l2, l3, l6⟩, hJG, hlo, l12⟩ hE hF hG hs hxx (by omega)
    · unfold useF useM
      rw [b_ucne (by decide), b_ucne (by decide), b_uceq, b_ucne (by decide), b_uceq, PP _ 26 (by decide), PP _ 19 (by decide), R 26 (by decide) (by decide), R 19 (by decide) (by decide), T 83 (by decide), T 76 (by decide)]
      exact c1e
    · unfold useF useM
      rw [b_ucne (by decide), b_uceq, b_uceq, PP _ 27 (by decide), PP _ 19 (by decide), R 27 (by decide) (by decide), R 19 (by decide) (by decide), T 84 (by decide), T 76 (by decide)]
      exact c2e
    · unfold useF useM
      rw [b_uceq, b_ucne (by decide), b_ucne (by decide), b_uceq, b_ucne (by decide), b_uceq, PP _ 25 (by decide), R 25 (by decide) (by decide), T 82 (by decide), T 83 (by decide), T 76 (by decide)]
      exact hR.use hq hnr k3 k4 (by omega)
