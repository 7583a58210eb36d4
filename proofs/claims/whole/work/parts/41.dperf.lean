variable {B : Nat}
/-! a call is done, the desk's side -/
/-- what comes of a call: how, what sort, what is given, the failure, the levels -/
abbrev Ot := Int32 × Int32 × Int32 × Int32 × (Nat → Int32)
def oFail (F k : Int32) (lv : Nat → Int32) : Ot := if ((F >>> (k &&& 31)) &&& 1) = 1 then (1, 0, 0, k, lv) else (2, 0, 0, 8, lv)
def oThru (th F sm : Int32) (lv : Nat → Int32) : Ot := if th = -1 then (3, 0, 0, -1, lv) else if lv th.toNatClampNeg + sm < 0 then oFail F 7 lv else if 255 < lv th.toNatClampNeg + sm then oFail F 7 lv else (0, 1, lv th.toNatClampNeg + sm, -1, upd lv th.toNatClampNeg (lv th.toNatClampNeg + sm))
def oAns (ak v sm F th : Int32) (b : Nat) (X lv : Nat → Int32) : Ot :=
  if ak = 0 then (0, 1, v, -1, lv) else if ak = 1 then (0, 2, v, -1, lv) else if ak = 2 then oFail F v lv else if ak = 3 then (0, 1, v + sm, -1, lv) else
  if ak = 4 then (0, if b.testBit v.toNatClampNeg = true then 2 else 1, X v.toNatClampNeg, -1, lv) else oThru th F sm lv
def gvF (gv sort given : Int32) : Int32 := if gv = 1 then (if sort = 1 then given else 0) else if gv = 2 then (if sort = 2 then given else -1) else 0
def DOut (σ : rd_Sg) (o : Ot) (gv : Int32) : rd_Sg := rd_uc (rd_uc σ 30 (upd (upd (upd (σ 30) 5 o.1) 7 (gvF gv o.2.1 o.2.2.1)) 8 o.2.2.2.1)) 32 o.2.2.2.2
theorem lit3n {x : Int32} {c : Nat} (h : x = nI c) (hc : c ≤ 2) : (c = 0 ∧ x = 0) ∨ (c = 1 ∧ x = 1) ∨ (c = 2 ∧ x = 2) := by
  rcases lit7 h (by omega) with h | h | h | h | h | h | h
  · exact Or.inl h
  · exact Or.inr (Or.inl h)
  · exact Or.inr (Or.inr h)
  all_goals exact absurd h.1 (by omega)
theorem d_gives (ρ : Nat × (Nat → Int32)) (σ : rd_Sg) {sg g : Nat} (hs : sg < 96) (h7 : σ 7 sg = nI g) : rd_R ρ 45 0 [some (.ref 1), some (.int (nI sg))] [] σ = some (nI g, σ) := by
  rw [q_X3_gives_1, b_chk hs (by decide), nI_clamp (by omega), h7]
theorem d_gW (ρ : Nat × (Nat → Int32)) (σ : rd_Sg) {sg p b g : Nat} {F : Int32} (v : Int32) (h : SD (σ 5) (σ 6) (σ 7) (σ 8) sg p b g F) (h6 : σ 31 6 = nI sg) (h7 : σ 30 7 = gvF (nI g) 0 0) : rd_R ρ 83 0 [some (.ref 31), some (.int v)] [] σ = some (0, rd_uc σ 30 (upd (σ 30) 7 (gvF (nI g) 1 v))) := by
  rw [q_X7_giveWhole_31, h6, d_gives ρ σ h.1 h.2.2.2.2.2.2.1]
  simp only [Option.bind_some]
  have e := lit3n (x := nI g) rfl h.2.2.2.1
  unfold gvF at *
  by_cases q : nI g = 1
  · rw [if_pos q, if_pos q, if_pos rfl]
    congr 2
    funext c j
    simp only [rd_u, rd_uc, upd]
    grind
  · rw [if_neg q, if_neg q, if_neg (show ¬ (1 : Int32) = 2 by decide)]
    rw [if_neg q, if_neg (show ¬ (0 : Int32) = 2 by decide)] at h7
    congr 2
    funext c j
    simp only [rd_u, rd_uc, upd]
    grind
theorem d_gS (ρ : Nat × (Nat → Int32)) (σ : rd_Sg) {sg p b g : Nat} {F : Int32} (v : Int32) (h : SD (σ 5) (σ 6) (σ 7) (σ 8) sg p b g F) (h6 : σ 31 6 = nI sg) (h7 : σ 30 7 = gvF (nI g) 0 0) : rd_R ρ 84 0 [some (.ref 31), some (.int v)] [] σ = some (0, rd_uc σ 30 (upd (σ 30) 7 (gvF (nI g) 2 v))) := by
  rw [q_X7_giveStand_31, h6, d_gives ρ σ h.1 h.2.2.2.2.2.2.1]
  simp only [Option.bind_some]
  have e := lit3n (x := nI g) rfl h.2.2.2.1
  unfold gvF at *
  by_cases q : nI g = 2
  · have q1 : ¬ nI g = 1 := by rw [q]; decide
    rw [if_pos q, if_neg q1, if_pos q, if_pos rfl]
    congr 2
    funext c j
    simp only [rd_u, rd_uc, upd]
    grind
  · rw [if_neg q, if_neg q, if_neg (show ¬ (2 : Int32) = 1 by decide)]
    rw [if_neg (show ¬ (0 : Int32) = 1 by decide), if_neg q] at h7
    congr 2
    funext c j
    simp only [rd_u, rd_uc, upd]
    grind
theorem oFail_lv (F k : Int32) (lv : Nat → Int32) : (oFail F k lv).2.1 = 0 ∧ (oFail F k lv).2.2.1 = 0 ∧ (oFail F k lv).2.2.2.2 = lv := by
  unfold oFail
  split <;> exact ⟨rfl, rfl, rfl⟩
theorem d_fl (ρ : Nat × (Nat → Int32)) (σ : rd_Sg) {sg p b g : Nat} {F : Int32} (k : Int32) (h : SD (σ 5) (σ 6) (σ 7) (σ 8) sg p b g F) (h6 : σ 31 6 = nI sg) (h7 : σ 30 7 = gvF (nI g) 0 0) : rd_R ρ 85 0 [some (.ref 31), some (.int k), none] [] σ = some (0, DOut σ (oFail F k (σ 32)) (nI g)) := by
  rw [q_X7_failWith_31, h6, q_X3_mayFail_1, b_chk h.1 (by decide), nI_clamp (by have := h.1; omega), h.2.2.2.2.2.2.2]
  unfold DOut oFail
  by_cases q : (F >>> (k &&& 31)) &&& 1 = 1
  · rw [if_pos q, if_pos q]
    simp only [Option.bind_some, b10, if_false]
    congr 2
    funext c j
    simp only [rd_u, rd_uc, upd]
    grind
  · rw [if_neg q, if_neg q]
    simp only [Option.bind_some, if_true]
    congr 2
    funext c j
    simp only [rd_u, rd_uc, upd]
    grind
/-- a call that is about to be answered -/
def Rd (σ : rd_Sg) (s sg p b g : Nat) (F sm : Int32) : Prop := SD (σ 5) (σ 6) (σ 7) (σ 8) sg p b g F ∧ σ 31 6 = nI sg ∧ σ 31 7 = sm ∧ σ 30 0 = nI s ∧ s < 24 ∧ σ 30 5 = 0 ∧ σ 30 7 = gvF (nI g) 0 0 ∧ σ 30 8 = -1 ∧ (σ 12 s = -1 ∨ ∃ t, t < 6 ∧ σ 12 s = nI t)
theorem d_thru (ρ : Nat × (Nat → Int32)) (σ : rd_Sg) {s sg p b g : Nat} {F sm : Int32} (h : Rd σ s sg p b g F sm) : rd_R ρ 81 0 [some (.ref 31), none, none] [] σ = some (0, DOut σ (oThru (σ 12 s) F sm (σ 32)) (nI g)) := by
  obtain ⟨h, h6, hsm, h0, hs, h5, h7, h8, ht⟩ := h
  rw [q_X7_callThrough_31, q_X8_thing_9, h0, b_chk hs (by decide), nI_clamp (by omega)]
  simp only [Option.bind_some]
  unfold oThru
  rcases ht with e | ⟨t, t6, e⟩
  · rw [e, if_pos rfl, if_pos rfl]
    unfold DOut
    congr 2
    funext c j
    simp only [rd_u, rd_uc, upd]
    grind
  · have n1 : ¬ nI t = -1 := fun q => neg1_nI (by omega) q.symm
    rw [e, if_neg n1, if_neg n1, b_chk t6 (by decide), nI_clamp (by omega), hsm, d_fl ρ σ 7 h h6 h7]
    simp only [Option.bind_some]
    by_cases q : σ 32 t + sm < 0
    · rw [if_pos q, if_pos q]
    · rw [if_neg q, if_neg q]
      by_cases q2 : 255 < σ 32 t + sm
      · rw [if_pos q2, if_pos q2]
      · rw [if_neg q2, if_neg q2, b_chk t6 (by decide)]
        rw [d_gW ρ (rd_u σ 32 t (σ 32 t + sm)) (F := F) (p := p) (b := b) (g := g) (sg := sg) _ (by rw [b_une (by decide), b_une (by decide), b_une (by decide), b_une (by decide)]; exact h) (by rw [b_une (by decide)]; exact h6) (by rw [b_une (by decide)]; exact h7)]
        simp only [Option.bind_some]
        unfold DOut
        congr 2
        funext c j
        simp only [rd_u, rd_uc, upd]
        grind
theorem d_ans (ρ : Nat × (Nat → Int32)) (σ : rd_Sg) {s sg p b g pl : Nat} {F sm : Int32} (h : Rd σ s sg p b g F sm) (hpl : pl < 480) (h4 : σ 23 pl = 4 → ∃ v, v < 3 ∧ σ 24 pl = nI v) : rd_R ρ 80 0 [some (.ref 31), some (.int (nI pl)), none] [] σ = some (0, DOut σ (oAns (σ 23 pl) (σ 24 pl) sm F (σ 12 s) b (fun i => σ 30 (2 + i)) (σ 32)) (nI g)) := by
  have h' := h
  obtain ⟨h, h6, hsm, h0, hs, h5, h7, h8, ht⟩ := h
  rw [q_X7_answerBy_31, q_X6_answerValue_14, b_chk hpl (by decide), nI_clamp (by omega)]
  simp only [Option.bind_some]
  rw [q_X6_answerKind_14, b_chk hpl (by decide), nI_clamp (by omega)]
  simp only [Option.bind_some]
  unfold oAns
  by_cases a0 : σ 23 pl = 0
  · rw [if_pos a0, if_pos a0, d_gW ρ σ _ h h6 h7]
    simp only [Option.bind_some]
    unfold DOut
    congr 2
    funext c j
    simp only [rd_u, rd_uc, upd]
    grind
  rw [if_neg a0, if_neg a0]
  by_cases a1 : σ 23 pl = 1
  · rw [if_pos a1, if_pos a1, d_gS ρ σ _ h h6 h7]
    simp only [Option.bind_some]
    unfold DOut
    congr 2
    funext c j
    simp only [rd_u, rd_uc, upd]
    grind
  rw [if_neg a1, if_neg a1]
  by_cases a2 : σ 23 pl = 2
  · rw [if_pos a2, if_pos a2, d_fl ρ σ _ h h6 h7]
    rfl
  rw [if_neg a2, if_neg a2]
  by_cases a3 : σ 23 pl = 3
  · rw [if_pos a3, if_pos a3, hsm, d_gW ρ σ _ h h6 h7]
    simp only [Option.bind_some]
    unfold DOut
    congr 2
    funext c j
    simp only [rd_u, rd_uc, upd]
    grind
  rw [if_neg a3, if_neg a3]
  by_cases a4 : σ 23 pl = 4
  · obtain ⟨v, v3, v4⟩ := h4 a4
    rw [if_pos a4, if_pos a4, v4, q_X7_giveParameter_31, h6, d_ts ρ σ h v3, nI_clamp (by omega)]
    simp only [Option.bind_some]
    have e2v : (2 : Int32) + nI v = nI (2 + v) := by rw [show (2 : Int32) = nI 2 by decide, nI_add]
    simp only [e2v, b_chk (show 2 + v < 9 by omega) (show 9 < 2 ^ 31 by decide), nI_clamp (show 2 + v < 2 ^ 31 by omega), d_gW ρ σ _ h h6 h7, d_gS ρ σ _ h h6 h7, Option.bind_some]
    cases e : b.testBit v
    · rw [show b2 false = 0 from rfl, if_pos rfl, if_neg (show ¬ false = true by decide)]
      simp only [Option.bind_some]
      unfold DOut
      congr 2
      funext c j
      simp only [rd_u, rd_uc, upd]
      grind
    · rw [show b2 true = 1 from rfl, if_neg (by decide), if_pos rfl]
      simp only [Option.bind_some]
      unfold DOut
      congr 2
      funext c j
      simp only [rd_u, rd_uc, upd]
      grind
  rw [if_neg a4, if_neg a4, d_thru ρ σ h']
  rfl
/-- the rule for a call: the latest of the first n -/
def fnF (an G : Nat → Int32) : Nat → Int32
  | 0 => -1
  | n + 1 => if 0 < an n then (if G n = 0 then fnF an G n else nI n) else fnF an G n
theorem fnF_is (an G : Nat → Int32) : ∀ n, fnF an G n = -1 ∨ ∃ q, q < n ∧ fnF an G n = nI q ∧ 0 < an q ∧ ¬ G q = 0 := by
  intro n
  induction n with
  | zero => exact Or.inl rfl
  | succ n ih =>
    unfold fnF
    have ih2 : fnF an G n = -1 ∨ ∃ q, q < n + 1 ∧ fnF an G n = nI q ∧ 0 < an q ∧ ¬ G q = 0 := by
      rcases ih with h | ⟨q, h1, h2⟩
      · exact Or.inl h
      · exact Or.inr ⟨q, by omega, h2⟩
    by_cases h1 : 0 < an n
    · rw [if_pos h1]
      by_cases h2 : G n = 0
      · rw [if_pos h2]; exact ih2
      · rw [if_neg h2]; exact Or.inr ⟨n, by omega, rfl, h1, h2⟩
    · rw [if_neg h1]; exact ih2
theorem nI_m1 (n : Nat) : nI (n + 1) - 1 = nI n := by rw [← nI_1 n]; simp
theorem nI_m1' (n : Nat) : nI n + (-1) = nI n - 1 := by rw [Int32.sub_eq_add_neg]
theorem z_m1 : nI 0 - 1 = -1 := by decide
/-- the patterns of the rules against the call that has come -/
def GR (σ : rd_Sg) (s m : Nat) (X : Nat → Int32) (r : Nat) : Int32 := ftF (σ 11) (σ 16) (σ 17) (σ 19) (σ 20) (σ 21) r (nI s) (nI m) X
theorem d_find (ρ : Nat × (Nat → Int32)) (σ : rd_Sg) {nr s m ns nf : Nat} {p : Int32} {cM lM hM : Nat → Int32} (h3 : σ 15 3 = nI nr) (hnr : nr ≤ 80) (h0 : σ 30 0 = nI s) (h1 : σ 30 1 = nI m) (hP : ∀ r, r < nr → PatOk ns nf 0 r s m p (σ 16) (σ 17) (σ 19) (σ 20) (σ 21) cM lM hM (fun i => σ 30 (2 + i))) (hns : ns ≤ 24) (hnf : nf ≤ 12) (hsl : ∀ s, s < ns → ∃ b, b < 4096 ∧ σ 11 s = nI b) : rd_R ρ 68 0 [some (.ref 14), some (.ref 30), none] [] σ = some (fnF (σ 22) (GR σ s m (fun i => σ 30 (2 + i))) nr, σ) := by
  rw [q_X6_find_14_30, q_X5_size_15, h3]
  simp only [Option.bind_some]
  have L : ∀ n, n ≤ nr → rd_R ρ 68 6 [some (.ref 14), some (.ref 30), some (.int (nI n - 1))] [] σ = some (fnF (σ 22) (GR σ s m (fun i => σ 30 (2 + i))) n, σ) := by
    intro n
    induction n with
    | zero => intro _; rw [q_X6_find_14_30_at6, z_m1, if_pos (by decide)]; rfl
    | succ n ih =>
      intro hn
      have ih := ih (by omega)
      have fit := d_fits_15 ρ σ (k := 0) (r := n) (by decide) (by omega) h0 h1 (hP n (by omega)) hns hnf hsl
      rw [q_X6_find_14_30_at6, nI_m1, if_neg (nI_pos (by omega)), b_chk (show n < 80 by omega) (by decide), nI_clamp (by omega), show (0 : Int32) = nI 0 by decide, fit, show nI 0 = (0 : Int32) by decide]
      simp only [Option.bind_some]
      unfold fnF
      by_cases a : 0 < σ 22 n
      · rw [if_pos a, if_pos a]
        by_cases c : GR σ s m (fun i => σ 30 (2 + i)) n = 0
        · rw [if_pos c]
          refine (if_pos c).trans ?_
          rw [q_X6_find_14_30_at22, nI_m1', ih]
        · rw [if_neg c]
          exact if_neg c
      · rw [if_neg a, if_neg a, q_X6_find_14_30_at22, nI_m1', ih]
  exact L nr (Nat.le_refl _)
/-- what a rule catches -/
def ct1 (f c : Nat → Int32) (q i : Nat) (v : Int32) : Nat → Int32 := if c (3 * q + i) = 6 then upd f (3 * q + i) v else f
def ct3 (f c : Nat → Int32) (q : Nat) (v : Nat → Int32) : Nat → Int32 := ct1 (ct1 (ct1 f c q 0 (v 0)) c q 1 (v 1)) c q 2 (v 2)
def useF (σ : rd_Sg) (q t : Nat) : rd_Sg := rd_uc (rd_uc (rd_uc σ 26 (ct3 (σ 26) (σ 19) q (fun _ => 1))) 27 (ct3 (σ 27) (σ 19) q (fun i => σ 30 (2 + i)))) 25 (upd (σ 25) q (nI (min (t + 1) 6)))
theorem d_use1 (ρ : Nat × (Nat → Int32)) (σ : rd_Sg) {q i : Nat} (hq : q < 80) (hi : i < 3) (v : Int32) (hv : σ 30 (2 + i) = v) : rd_R ρ 69 2 [some (.ref 14), some (.int (nI q)), some (.ref 30), some (.int (nI i))] [] σ = rd_R ρ 69 2 [some (.ref 14), some (.int (nI q)), some (.ref 30), some (.int (nI (i + 1)))] [] (rd_uc (rd_uc σ 26 (ct1 (σ 26) (σ 19) q i 1)) 27 (ct1 (σ 27) (σ 19) q i v)) := by
  rw [q_X6_use_14_30_at2, if_pos (lt_lit 3 3 (by decide) hi (by decide)), q_X5_isCatching_15, ixr (kk := 3) (by decide), show (2 : Int32) = nI 2 by decide, nI_add]
  simp only [b_chk (show 3 * q + i < 240 by omega) (show 240 < 2 ^ 31 by decide), b_chk (show 2 + i < 9 by omega) (show 9 < 2 ^ 31 by decide), nI_clamp (show 3 * q + i < 2 ^ 31 by omega), nI_clamp (show 2 + i < 2 ^ 31 by omega)]
  unfold ct1
  by_cases c : σ 19 (3 * q + i) = 6
  · rw [if_pos c, if_pos c, if_pos c]
    simp only [Option.bind_some, b10, if_false]
    rw [q_X6_use_14_30_at33, nI_1, hv, show (1 : Int32) &&& 1 = 1 by decide]
    congr 1
    funext c j
    simp only [rd_u, rd_uc, upd]
    grind
  · rw [if_neg c, if_neg c, if_neg c]
    simp only [Option.bind_some, if_true]
    rw [q_X6_use_14_30_at33, nI_1]
    congr 1
    funext c j
    simp only [rd_uc]
    grind
theorem d_use (ρ : Nat × (Nat → Int32)) (σ : rd_Sg) {q a t : Nat} (hq : q < 80) (ha : a ≤ 6) (ha0 : 0 < a) (h22 : σ 22 q = nI a) (h25 : σ 25 q = nI (min t 6)) : rd_R ρ 69 0 [some (.ref 14), some (.int (nI q)), some (.ref 30), none] [] σ = some (nI (6 * q + min t (a - 1)), useF σ q t) := by
  rw [q_X6_use_14_30, show (0 : Int32) = nI 0 by decide, d_use1 ρ σ hq (by decide) _ rfl, d_use1 ρ _ hq (by decide) (σ 30 (2 + 1)) (by rw [b_ucne (by decide), b_ucne (by decide)]), d_use1 ρ _ hq (by decide) (σ 30 (2 + 2)) (by rw [b_ucne (by decide), b_ucne (by decide), b_ucne (by decide), b_ucne (by decide)]), q_X6_use_14_30_at2, if_neg (by decide), b_chk hq (by decide), b_chk hq (by decide), b_chk hq (by decide), b_chk hq (by decide), nI_clamp (by omega)]
  simp only [b_ucne, b_uceq, ne_eq, Nat.reduceEqDiff, not_false_eq_true, h22, h25]
  have e1 : nI a - 1 = nI (a - 1) := by
    obtain ⟨k, rfl⟩ : ∃ k, a = k + 1 := ⟨a - 1, by omega⟩
    rw [nI_m1]; rfl
  rw [e1, nI_1]
  have e2 : (if nI (a - 1) < nI (min t 6) then nI (a - 1) else nI (min t 6)) = nI (min t (a - 1)) := by
    by_cases w : a - 1 < min t 6
    · rw [if_pos (nI_lt w (by omega))]
      congr 1; omega
    · rw [if_neg (fun z => w ((p_lt rfl (by omega) (by omega)).mp z))]
      congr 1; omega
  have e3 : (if (6 : Int32) < nI (min t 6 + 1) then (6 : Int32) else nI (min t 6 + 1)) = nI (min (t + 1) 6) := by
    by_cases w : 6 < min t 6 + 1
    · rw [if_pos (by rw [show (6 : Int32) = nI 6 by decide]; exact nI_lt w (by omega)), show (6 : Int32) = nI 6 by decide]
      congr 1; omega
    · rw [if_neg (fun z => w ((p_lt (p := 6) rfl (by decide) (by omega)).mp (by rw [show nI 6 = (6 : Int32) by decide]; exact z)))]
      congr 1; omega
  rw [e2, e3, ixr (kk := 6) (by decide)]
  congr 2
  unfold useF ct3
  funext c j
  simp only [rd_u, rd_uc, upd]
  grind
/-- the log keeps the call -/
def keepF (σ : rd_Sg) (nl : Nat) : rd_Sg := if nl < 500 then rd_uc (rd_uc σ 28 (upd (upd (σ 28) 2 1) 3 (nI (nl + 1)))) 29 (va_cpy (σ 30) (σ 29) 0 (9 * nl) 9) else rd_uc σ 28 (upd (upd (σ 28) 2 1) 4 (σ 28 4 + 1))
theorem d_keep (ρ : Nat × (Nat → Int32)) (σ : rd_Sg) {nl : Nat} (h3 : σ 28 3 = nI nl) (hn : nl ≤ 500) : rd_R ρ 52 0 [some (.ref 28)] [] σ = some (0, keepF σ nl) := by
  rw [q_X4_keepLatest_28, h3]
  unfold keepF
  by_cases c : nl < 500
  · rw [if_pos (lt_lit 500 500 (by decide) c (by decide)), if_pos c]
    have e1 : nI nl * 9 = nI (9 * nl) := by rw [show (9 : Int32) = nI 9 by decide, pk_mul, Nat.mul_comm]
    have z0 : (0 : Int32).toNatClampNeg = 0 := by decide
    have z9 : (9 : Int32).toNatClampNeg = 9 := by decide
    rw [e1, nI_clamp (by omega), z0, z9, nI_1, if_neg]
    · congr 2
      funext c j
      simp only [rd_u, rd_uc, upd]
      grind
    · intro w
      rcases w with w | w | w | w | w
      · exact absurd w (by decide)
      · exact absurd w (nI_pos (by omega))
      · exact absurd w (by decide)
      · exact absurd w (by omega)
      · omega
  · rw [if_neg (fun z => c ((p_lt (show (500 : Int32) = nI 500 by decide) (by omega) (by decide)).mp z)), if_neg c]
    congr 2
    funext c j
    simp only [rd_u, rd_uc, upd]
    grind
def preF (σ : rd_Sg) (r : Int32) (g : Nat) : rd_Sg := rd_uc σ 30 (upd (upd (upd (upd (σ 30) 5 0) 6 r) 7 (gvF (nI g) 0 0)) 8 (-1))
theorem d_perf (ρ : Nat × (Nat → Int32)) (σ : rd_Sg) {sg p b g : Nat} {F rI : Int32} (h : SD (σ 5) (σ 6) (σ 7) (σ 8) sg p b g F) (h6 : σ 31 6 = nI sg) (hf : rd_R ρ 68 0 [some (.ref 14), some (.ref 30), none] [] σ = some (rI, σ)) : rd_R ρ 79 0 [some (.ref 31), none] [] σ = if rI = -1 then ((rd_R ρ 81 0 [some (.ref 31), none, none] [] (preF σ rI g)).bind fun q1 => ((rd_R ρ 52 0 [some (.ref 28)] [] q1.2).bind fun q2 => some (0, q2.2))) else ((rd_R ρ 69 0 [some (.ref 14), some (.int rI), some (.ref 30), none] [] (preF σ rI g)).bind fun q1 => ((rd_R ρ 80 0 [some (.ref 31), some (.int q1.1), none] [] q1.2).bind fun q2 => ((rd_R ρ 52 0 [some (.ref 28)] [] q2.2).bind fun q3 => some (0, q3.2)))) := by
  rw [q_X7_perform_31, hf]
  simp only [Option.bind_some]
  rw [h6, d_gives ρ _ h.1 (g := g) (by rw [b_une (by decide), b_une (by decide)]; exact h.2.2.2.2.2.2.1)]
  simp only [Option.bind_some]
  have e := lit3n (x := nI g) rfl h.2.2.2.1
  have z7 : (7 : Int32).toNatClampNeg = 7 := by decide
  have P : ∀ x : Int32, x = gvF (nI g) 0 0 → rd_u (rd_u (rd_u (rd_u σ 30 5 0) 30 6 rI) 30 7 x) 30 8 (-1) = preF σ rI g := by
    intro x hx
    rw [hx]
    unfold preF
    clear e
    funext c j
    simp only [rd_u, rd_uc, upd]
    grind (splits := 40)
  by_cases q : nI g = 2
  · rw [if_pos q, q_X7_perform_31_at29, show (7 : Int32) = nI 7 by decide, b_chk (by decide) (by decide), show nI 7 = (7 : Int32) by decide, z7, P (-1) (by unfold gvF; rw [q]; decide)]
  · rw [if_neg q, q_X7_perform_31_at29, show (7 : Int32) = nI 7 by decide, b_chk (by decide) (by decide), show nI 7 = (7 : Int32) by decide, z7, P 0 (by unfold gvF; rw [if_neg (show ¬ (0 : Int32) = 1 by decide), if_neg q, ite_self])]
