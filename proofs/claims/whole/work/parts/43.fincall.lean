variable {B : Nat}
/-! a call, both sides -/
def Inv2 (B : Nat) (σ τ : rd_Sg) : Prop := ∃ nf ns nr ne nl nc no nt nd lo : Nat,
  -- A: faces and stands
  ((σ 1 0 = nI nf ∧ τ 64 0 = nI nf ∧ σ 9 1 = nI ns ∧ τ 64 7 = nI ns) ∧
   (σ 2 = τ 66 ∧ σ 5 = τ 67 ∧ σ 6 = τ 68 ∧ σ 7 = τ 69 ∧ σ 8 = τ 70 ∧ σ 10 = τ 71 ∧ σ 12 = τ 72 ∧ σ 13 = τ 91) ∧
   JF nf (τ 66) (τ 67) (τ 68) (τ 69) (τ 70) (τ 65) ∧ JL nf (τ 65) (σ 3) ∧ JX nf ns (τ 65) (τ 71) (σ 4) ∧ JS nf ns (τ 71) (τ 72) (σ 11) (σ 3) (τ 91)) ∧
  -- B: rules
  ((σ 15 0 = 80 ∧ σ 15 3 = nI nr ∧ τ 64 16 = nI nr) ∧ (σ 22 = τ 79 ∧ σ 23 = τ 80 ∧ σ 24 = τ 81 ∧ σ 26 = τ 83 ∧ σ 27 = τ 84) ∧
   JP 0 nr 80 ns nf (τ 71) (τ 66) (τ 67) (τ 68) (σ 16) (σ 17) (σ 18) (σ 19) (σ 20) (σ 21) (τ 74) (τ 75) (τ 76) (τ 77) (τ 78) ∧ JR B nr ns (τ 67) (σ 18) (τ 79) (τ 80) (τ 81) (σ 25) (τ 82) (τ 83) (τ 76)) ∧
  -- C: expectations and orders
  ((σ 34 0 = 40 ∧ σ 34 3 = nI ne ∧ τ 64 32 = nI ne ∧ σ 33 3 = nI no ∧ τ 64 35 = nI no ∧ no ≤ 40) ∧ (σ 41 = τ 87 ∧ σ 42 = τ 88 ∧ σ 43 = τ 89 ∧ σ 44 = τ 90) ∧
   JP 80 ne 40 ns nf (τ 71) (τ 66) (τ 67) (τ 68) (σ 35) (σ 36) (σ 37) (σ 38) (σ 39) (σ 40) (τ 74) (τ 75) (τ 76) (τ 77) (τ 78) ∧ (∀ o, o < no → ∃ a b, a < ne ∧ b < ne ∧ τ 89 o = nI a ∧ τ 90 o = nI b)) ∧
  -- D: the log, the levels
  ((σ 28 3 = nI nl ∧ τ 64 23 = nI nl ∧ σ 28 4 = τ 64 24 ∧ (σ 28 2 = 0 ∨ σ 28 2 = 1) ∧ σ 28 2 = τ 64 26 ∧ σ 29 = τ 85 ∧ τ 86 0 = σ 30 5 ∧ τ 86 1 = σ 30 7 ∧ τ 86 2 = σ 30 8 ∧ τ 86 3 = σ 30 6 ∧ σ 32 = τ 73) ∧ JG nl ns (τ 71) (τ 66) (τ 68) (τ 85) ∧ lo ≤ B ∧ τ 64 24 = nI lo) ∧
  -- E: what was wrong
  ((∃ nw, nw ≤ 60 ∧ σ 49 1 = nI nw ∧ τ 64 39 = nI nw) ∧ σ 50 = τ 92) ∧
  -- F: the cues
  ((σ 51 0 = nI nc ∧ τ 64 41 = nI nc ∧ σ 52 = τ 93 ∧ σ 53 = τ 94 ∧ σ 54 = τ 95 ∧ σ 55 = τ 96) ∧ JC nc (τ 93) (τ 94) (τ 95) (τ 96)) ∧
  -- G: the desk
  ((σ 61 = τ 97 ∧ σ 63 = τ 99 ∧ nt ≤ 100 ∧ σ 56 8 = nI nt ∧ τ 64 50 = nI nt ∧ nd < 30000 ∧ σ 56 9 = nI nd ∧ τ 64 49 = nI nd) ∧ JB ns (σ 62) (τ 98) (τ 64 48))
theorem Inv.two {σ τ : rd_Sg} : Inv B (mix σ τ) ↔ Inv2 B σ τ := Iff.rfl
theorem fnF_congr {an G G' : Nat → Int32} : ∀ n, (∀ r, r < n → G r = G' r) → fnF an G n = fnF an G' n := by
  intro n
  induction n with
  | zero => intro _; rfl
  | succ n ih =>
    intro h
    unfold fnF
    rw [ih (fun r hr => h r (by omega)), h n (by omega)]
theorem hF_0 (sl : Nat → Int32) (lo hi v : Int32) : hF sl 0 lo hi v = 1 := rfl
theorem ftF_norm {sl st me cD lD hD x y : Nat → Int32} {r s m : Nat} (h : st r = nI s → me r = nI m → ∀ i, i < 3 → cD (3 * r + i) = 0 ∨ x i = y i) : ftF sl st me cD lD hD r (nI s) (nI m) x = ftF sl st me cD lD hD r (nI s) (nI m) y := by
  unfold ftF
  by_cases e1 : st r = nI s
  · by_cases e2 : me r = nI m
    · have A : ∀ i, i < 3 → hF sl (cD (3 * r + i)).toNatClampNeg (lD (3 * r + i)) (hD (3 * r + i)) (x i) = hF sl (cD (3 * r + i)).toNatClampNeg (lD (3 * r + i)) (hD (3 * r + i)) (y i) := by
        intro i hi
        rcases h e1 e2 i hi with q | q
        · rw [q, show (0 : Int32).toNatClampNeg = 0 by decide, hF_0, hF_0]
        · rw [q]
      rw [A 0 (by decide), A 1 (by decide), A 2 (by decide)]
    · rw [if_neg e2, if_neg e2]
  · rw [if_neg e1, if_neg e1]
theorem ct3_congr {f c c' v v' : Nat → Int32} {q : Nat} (hc : ∀ i, i < 3 → c (3 * q + i) = c' (3 * q + i)) (hv : ∀ i, i < 3 → c (3 * q + i) = 6 → v i = v' i) : ct3 f c q v = ct3 f c' q v' := by
  unfold ct3
  have A : ∀ (f : Nat → Int32) i, i < 3 → ct1 f c q i (v i) = ct1 f c' q i (v' i) := by
    intro f i hi
    unfold ct1
    rw [← hc i hi]
    by_cases e : c (3 * q + i) = 6
    · rw [if_pos e, if_pos e, hv i hi e]
    · rw [if_neg e, if_neg e]
  rw [A _ 0 (by decide), A _ 1 (by decide), A _ 2 (by decide)]
theorem ct1_j {f c : Nat → Int32} {q i j : Nat} {v : Int32} : ct1 f c q i v j = f j ∨ (j = 3 * q + i ∧ c j = 6 ∧ ct1 f c q i v j = v) := by
  unfold ct1
  by_cases e : c (3 * q + i) = 6
  · rw [if_pos e]
    by_cases w : j = 3 * q + i
    · subst w
      exact Or.inr ⟨rfl, e, b_ups⟩
    · exact Or.inl (b_upn w)
  · rw [if_neg e]; exact Or.inl rfl
theorem ct3_j {f c : Nat → Int32} {q j : Nat} : ct3 f c q (fun _ => 1) j = f j ∨ (3 * q ≤ j ∧ j < 3 * q + 3 ∧ c j = 6 ∧ ct3 f c q (fun _ => 1) j = 1) := by
  unfold ct3
  rcases ct1_j (f := ct1 (ct1 f c q 0 1) c q 1 1) (c := c) (q := q) (i := 2) (j := j) (v := 1) with e | ⟨e1, e2, e3⟩
  · rw [e]
    rcases ct1_j (f := ct1 f c q 0 1) (c := c) (q := q) (i := 1) (j := j) (v := 1) with e | ⟨e1, e2, e3⟩
    · rw [e]
      rcases ct1_j (f := f) (c := c) (q := q) (i := 0) (j := j) (v := 1) with e | ⟨e1, e2, e3⟩
      · exact Or.inl e
      · exact Or.inr ⟨by omega, by omega, e2, e3⟩
    · exact Or.inr ⟨by omega, by omega, e2, e3⟩
  · exact Or.inr ⟨by omega, by omega, e2, e3⟩
theorem JR.use {nr ns q t : Nat} {pa sgD an ak av ca tu hc cM : Nat → Int32} (h : JR B nr ns pa sgD an ak av ca tu hc cM) (hq : q < nr) (hnr : nr ≤ 80) (ht : t ≤ B) (htu : tu q = nI t) (hB : B < 2 ^ 30) : JR (B + 1) nr ns pa sgD an ak av (upd ca q (nI (min (t + 1) 6))) (upd tu q (nI (t + 1))) (ct3 hc cM q (fun _ => 1)) cM := by
  obtain ⟨h1, h2, h3⟩ := h
  refine ⟨fun r hr => ?_, fun j hj => ?_, fun j hj1 hj2 => ?_⟩
  · obtain ⟨a, t', k1, k2, k3, k4, k5, k6, k7⟩ := h1 r hr
    by_cases e : r = q
    · subst e
      have : t' = t := (nI_eq (by omega) (by omega)).mp (k4.symm.trans htu)
      subst this
      exact ⟨a, t' + 1, k1, k2, by omega, b_ups, b_ups, fun w => by omega, k7⟩
    · exact ⟨a, t', k1, k2, by omega, by rw [b_upn e]; exact k4, by rw [b_upn e]; exact k5, k6, k7⟩
  · rcases ct3_j (f := hc) (c := cM) (q := q) (j := j) with e | ⟨e1, e2, e3, e4⟩
    · rw [e]; exact h2 j hj
    · exact Or.inr ⟨e4, e3⟩
  · rcases ct3_j (f := hc) (c := cM) (q := q) (j := j) with e | ⟨e1, e2, e3, e4⟩
    · rw [e]; exact h3 j hj1 hj2
    · omega
theorem JR.up {nr ns : Nat} {pa sgD an ak av ca tu hc cM : Nat → Int32} (h : JR B nr ns pa sgD an ak av ca tu hc cM) : JR (B + 1) nr ns pa sgD an ak av ca tu hc cM := by
  obtain ⟨h1, h2⟩ := h
  refine ⟨fun r hr => ?_, h2⟩
  obtain ⟨a, t', k1, k2, k3, k4⟩ := h1 r hr
  exact ⟨a, t', k1, k2, by omega, k4⟩
theorem cpy_congr {f f' g : Nat → Int32} {d : Nat} (h : ∀ j, j < 9 → f j = f' j) : va_cpy f g 0 d 9 = va_cpy f' g 0 d 9 := by
  funext k
  unfold va_cpy
  by_cases e : d ≤ k ∧ k < d + 9
  · rw [if_pos e, if_pos e, h _ (by omega)]
  · rw [if_neg e, if_neg e]
theorem JG.add {nl ns s m sg : Nat} {sf me sb f g : Nat → Int32} (h : JG nl ns sf me sb g) (hn : nl < 500) (hs : SigOk ns sf me s m sg) (h0 : f 0 = nI s) (h1 : f 1 = nI m) (hx : ∀ i, i < 3 → bt (sb sg) i → StV ns (f (2 + i))) : JG (nl + 1) ns sf me sb (va_cpy f g 0 (9 * nl) 9) := by
  refine ⟨by omega, fun i hi => ?_⟩
  have A : ∀ j, j < 9 → va_cpy f g 0 (9 * nl) 9 (9 * nl + j) = f j := fun j hj => by
    unfold va_cpy
    rw [if_pos ⟨by omega, by omega⟩, show 0 + (9 * nl + j - 9 * nl) = j by omega]
  have N : ∀ k, k < 9 * nl → va_cpy f g 0 (9 * nl) 9 k = g k := fun k hk => by
    unfold va_cpy
    rw [if_neg (by omega)]
  by_cases e : i = nl
  · subst e
    refine ⟨s, m, sg, hs, ?_, ?_, fun j hj hb => ?_⟩
    · exact (A 0 (by decide)).trans h0
    · exact (A 1 (by decide)).trans h1
    · have := hx j hj hb
      rw [← A (2 + j) (by omega)] at this
      rw [show 9 * i + 2 + j = 9 * i + (2 + j) by omega]
      exact this
  · obtain ⟨s', m', sg', k1, k2, k3, k4⟩ := h.2 i (by omega)
    refine ⟨s', m', sg', k1, ?_, ?_, fun j hj hb => ?_⟩
    · rw [N _ (by omega)]; exact k2
    · rw [N _ (by omega)]; exact k3
    · rw [N _ (by omega)]; exact k4 j hj hb
/-- what stands where a call begins to be answered -/
def DU (σ σu : rd_Sg) (s m p g : Nat) (x : Nat → Int32) (rI : Int32) : Prop := (∀ c, c < 25 ∨ 27 < c → c ≠ 30 → c ≠ 31 → σu c = σ c) ∧ σu 30 = upd (upd (upd (upd (rowF (σ 30) s m p x) 5 0) 6 rI) 7 (gvF (nI g) 0 0)) 8 (-1)
def MU (τ τu : rd_Sg) : Prop := (∀ c, c ≠ 64 → c < 82 ∨ 84 < c → τu c = τ c) ∧ τu 64 = upd (upd (upd (upd (τ 64) 28 0) 29 0) 30 (-1)) 31 0
set_option maxHeartbeats 4000000 in
theorem fin_call {σ τ σu τu : rd_Sg} {nf ns nr ne nl nc no nt nd lo s m sg p g : Nat} {x : Nat → Int32} {rI : Int32} {o : Ot} (hD : DU σ σu s m p g x rI) (hM : MU τ τu)
  (hA : (σ 1 0 = nI nf ∧ τ 64 0 = nI nf ∧ σ 9 1 = nI ns ∧ τ 64 7 = nI ns) ∧ (σ 2 = τ 66 ∧ σ 5 = τ 67 ∧ σ 6 = τ 68 ∧ σ 7 = τ 69 ∧ σ 8 = τ 70 ∧ σ 10 = τ 71 ∧ σ 12 = τ 72 ∧ σ 13 = τ 91) ∧ JF nf (τ 66) (τ 67) (τ 68) (τ 69) (τ 70) (τ 65) ∧ JL nf (τ 65) (σ 3) ∧ JX nf ns (τ 65) (τ 71) (σ 4) ∧ JS nf ns (τ 71) (τ 72) (σ 11) (σ 3) (τ 91))
  (hB : (σ 15 0 = 80 ∧ σ 15 3 = nI nr ∧ τ 64 16 = nI nr) ∧ (σ 22 = τ 79 ∧ σ 23 = τ 80 ∧ σ 24 = τ 81) ∧ JP 0 nr 80 ns nf (τ 71) (τ 66) (τ 67) (τ 68) (σ 16) (σ 17) (σ 18) (σ 19) (σ 20) (σ 21) (τ 74) (τ 75) (τ 76) (τ 77) (τ 78))
  (hR : (σu 26 = τu 83 ∧ σu 27 = τu 84) ∧ JR (B + 1) nr ns (τ 67) (σ 18) (τ 79) (τ 80) (τ 81) (σu 25) (τu 82) (τu 83) (τ 76))
  (hC : (σ 34 0 = 40 ∧ σ 34 3 = nI ne ∧ τ 64 32 = nI ne ∧ σ 33 3 = nI no ∧ τ 64 35 = nI no ∧ no ≤ 40) ∧ (σ 41 = τ 87 ∧ σ 42 = τ 88 ∧ σ 43 = τ 89 ∧ σ 44 = τ 90) ∧ JP 80 ne 40 ns nf (τ 71) (τ 66) (τ 67) (τ 68) (σ 35) (σ 36) (σ 37) (σ 38) (σ 39) (σ 40) (τ 74) (τ 75) (τ 76) (τ 77) (τ 78) ∧ (∀ o, o < no → ∃ a b, a < ne ∧ b < ne ∧ τ 89 o = nI a ∧ τ 90 o = nI b))
  (hL : (σ 28 3 = nI nl ∧ τ 64 23 = nI nl ∧ σ 28 4 = τ 64 24 ∧ σ 29 = τ 85) ∧ JG nl ns (τ 71) (τ 66) (τ 68) (τ 85) ∧ lo ≤ B ∧ τ 64 24 = nI lo)
  (hE : (∃ nw, nw ≤ 60 ∧ σ 49 1 = nI nw ∧ τ 64 39 = nI nw) ∧ σ 50 = τ 92)
  (hF : (σ 51 0 = nI nc ∧ τ 64 41 = nI nc ∧ σ 52 = τ 93 ∧ σ 53 = τ 94 ∧ σ 54 = τ 95 ∧ σ 55 = τ 96) ∧ JC nc (τ 93) (τ 94) (τ 95) (τ 96))
  (hG : (σ 61 = τ 97 ∧ σ 63 = τ 99 ∧ nt ≤ 100 ∧ σ 56 8 = nI nt ∧ τ 64 50 = nI nt ∧ nd < 30000 ∧ σ 56 9 = nI nd ∧ τ 64 49 = nI nd) ∧ JB ns (σ 62) (τ 98) (τ 64 48))
  (hs : SigOk ns (τ 71) (τ 66) s m sg) (hx : ∀ i, i < 3 → bt (τ 68 sg) i → i < p ∧ StV ns (x i)) (hBB : B < 2 ^ 30) :
  Inv (B + 1) (mix (keepF (DOut σu o (nI g)) nl) (recM (MOut τu o) nl s m p x rI (gvF (nI g) o.2.1 o.2.2.1))) := by
  rw [Inv.two]
  obtain ⟨dc, d30⟩ := hD
  obtain ⟨mc, m64⟩ := hM
  obtain ⟨⟨l1, l2, l3, l4⟩, hJG, l5, l6⟩ := hL
  obtain ⟨⟨a1, a2, a3, a4⟩, ⟨b1, b2, b3, b4, b5, b6, b7, b8⟩, hA3⟩ := hA
  obtain ⟨⟨r1, r2, r3⟩, ⟨r4, r5, r6⟩, hP⟩ := hB
  obtain ⟨⟨u1, u2⟩, hR2⟩ := hR
  obtain ⟨⟨c1, c2, c3, c4, c5, c6⟩, ⟨c7, c8, c9, c10⟩, hC3⟩ := hC
  obtain ⟨⟨nw, n1, n2, n3⟩, n4⟩ := hE
  obtain ⟨⟨f1, f2, f3, f4, f5, f6⟩, hF2⟩ := hF
  obtain ⟨⟨g1, g2, g3, g4, g5, g6, g7, g8⟩, hG2⟩ := hG
  have row2 : ∀ j, j < 9 → upd (upd (upd (upd (upd (upd (upd (rowF (σ 30) s m p x) 5 0) 6 rI) 7 (gvF (nI g) 0 0)) 8 (-1)) 5 o.1) 7 (gvF (nI g) o.2.1 o.2.2.1)) 8 o.2.2.2.1 j = rowM s m p x o.1 rI (gvF (nI g) o.2.1 o.2.2.1) o.2.2.2.1 j := by
    intro j hj
    simp only [upd, rowF, rowM]
    grind (splits := 60)
  by_cases hn : nl < 500
  · refine ⟨nf, ns, nr, ne, nl + 1, nc, no, nt, nd, lo, ?_⟩
    unfold keepF recM DOut MOut
    simp only [hn, if_true]
    simp only [b_ucne, b_uceq, ne_eq, Nat.reduceEqDiff, not_false_eq_true]
    simp only [d30, m64, dc 1 (by decide) (by decide) (by decide), dc 2 (by decide) (by decide) (by decide), dc 3 (by decide) (by decide) (by decide), dc 4 (by decide) (by decide) (by decide), dc 5 (by decide) (by decide) (by decide), dc 6 (by decide) (by decide) (by decide), dc 7 (by decide) (by decide) (by decide), dc 8 (by decide) (by decide) (by decide), dc 9 (by decide) (by decide) (by decide), dc 10 (by decide) (by decide) (by decide), dc 11 (by decide) (by decide) (by decide), dc 12 (by decide) (by decide) (by decide), dc 13 (by decide) (by decide) (by decide), dc 15 (by decide) (by decide) (by decide), dc 16 (by decide) (by decide) (by decide), dc 17 (by decide) (by decide) (by decide), dc 18 (by decide) (by decide) (by decide), dc 19 (by decide) (by decide) (by decide), dc 20 (by decide) (by decide) (by decide), dc 21 (by decide) (by decide) (by decide), dc 22 (by decide) (by decide) (by decide), dc 23 (by decide) (by decide) (by decide), dc 24 (by decide) (by decide) (by decide), dc 28 (by decide) (by decide) (by decide), dc 29 (by decide) (by decide) (by decide), dc 33 (by decide) (by decide) (by decide), dc 34 (by decide) (by decide) (by decide), dc 35 (by decide) (by decide) (by decide), dc 36 (by decide) (by decide) (by decide), dc 37 (by decide) (by decide) (by decide), dc 38 (by decide) (by decide) (by decide), dc 39 (by decide) (by decide) (by decide), dc 40 (by decide) (by decide) (by decide), dc 41 (by decide) (by decide) (by decide), dc 42 (by decide) (by decide) (by decide), dc 43 (by decide) (by decide) (by decide), dc 44 (by decide) (by decide) (by decide), dc 49 (by decide) (by decide) (by decide), dc 50 (by decide) (by decide) (by decide), dc 51 (by decide) (by decide) (by decide), dc 52 (by decide) (by decide) (by decide), dc 53 (by decide) (by decide) (by decide), dc 54 (by decide) (by decide) (by decide), dc 55 (by decide) (by decide) (by decide), dc 56 (by decide) (by decide) (by decide), dc 61 (by decide) (by decide) (by decide), dc 62 (by decide) (by decide) (by decide), dc 63 (by decide) (by decide) (by decide), mc 65 (by decide) (by decide), mc 66 (by decide) (by decide), mc 67 (by decide) (by decide), mc 68 (by decide) (by decide), mc 69 (by decide) (by decide), mc 70 (by decide) (by decide), mc 71 (by decide) (by decide), mc 72 (by decide) (by decide), mc 74 (by decide) (by decide), mc 75 (by decide) (by decide), mc 76 (by decide) (by decide), mc 77 (by decide) (by decide), mc 78 (by decide) (by decide), mc 79 (by decide) (by decide), mc 80 (by decide) (by decide), mc 81 (by decide) (by decide), mc 85 (by decide) (by decide), mc 86 (by decide) (by decide), mc 87 (by decide) (by decide), mc 88 (by decide) (by decide), mc 89 (by decide) (by decide), mc 90 (by decide) (by decide), mc 91 (by decide) (by decide), mc 92 (by decide) (by decide), mc 93 (by decide) (by decide), mc 94 (by decide) (by decide), mc 95 (by decide) (by decide), mc 96 (by decide) (by decide), mc 97 (by decide) (by decide), mc 98 (by decide) (by decide), mc 99 (by decide) (by decide)]
    simp only [b_ups, b_upn, ne_eq, Nat.reduceEqDiff, not_false_eq_true]
    refine ⟨⟨⟨a1, a2, a3, a4⟩, ⟨b1, b2, b3, b4, b5, b6, b7, b8⟩, hA3⟩, ⟨⟨r1, r2, r3⟩, ⟨r4, r5, r6, u1, u2⟩, hP, hR2⟩, ⟨⟨c1, c2, c3, c4, c5, c6⟩, ⟨c7, c8, c9, c10⟩, hC3⟩, ⟨⟨by trivial, by trivial, l3, by simp, by trivial, ?_, by trivial, by trivial, by trivial, by trivial, trivial⟩, ?_, by omega, l6⟩, ⟨⟨nw, n1, n2, n3⟩, n4⟩, ⟨⟨f1, f2, f3, f4, f5, f6⟩, hF2⟩, ⟨⟨g1, g2, g3, g4, g5, g6, g7, g8⟩, hG2⟩⟩
    · rw [l4]
      exact cpy_congr row2
    · refine hJG.add hn hs rfl rfl (fun i hi hb => ?_)
      obtain ⟨w1, w2⟩ := hx i hi hb
      show StV ns (rowM s m p x o.1 rI (gvF (nI g) o.2.1 o.2.2.1) o.2.2.2.1 (2 + i))
      unfold rowM
      rw [if_neg (by omega), if_neg (by omega), if_pos (by omega), show 2 + i - 2 = i by omega, if_pos w1]
      exact w2
  · refine ⟨nf, ns, nr, ne, nl, nc, no, nt, nd, lo + 1, ?_⟩
    unfold keepF recM DOut MOut
    simp only [hn, if_false]
    simp only [b_ucne, b_uceq, ne_eq, Nat.reduceEqDiff, not_false_eq_true]
    simp only [d30, m64, dc 1 (by decide) (by decide) (by decide), dc 2 (by decide) (by decide) (by decide), dc 3 (by decide) (by decide) (by decide), dc 4 (by decide) (by decide) (by decide), dc 5 (by decide) (by decide) (by decide), dc 6 (by decide) (by decide) (by decide), dc 7 (by decide) (by decide) (by decide), dc 8 (by decide) (by decide) (by decide), dc 9 (by decide) (by decide) (by decide), dc 10 (by decide) (by decide) (by decide), dc 11 (by decide) (by decide) (by decide), dc 12 (by decide) (by decide) (by decide), dc 13 (by decide) (by decide) (by decide), dc 15 (by decide) (by decide) (by decide), dc 16 (by decide) (by decide) (by decide), dc 17 (by decide) (by decide) (by decide), dc 18 (by decide) (by decide) (by decide), dc 19 (by decide) (by decide) (by decide), dc 20 (by decide) (by decide) (by decide), dc 21 (by decide) (by decide) (by decide), dc 22 (by decide) (by decide) (by decide), dc 23 (by decide) (by decide) (by decide), dc 24 (by decide) (by decide) (by decide), dc 28 (by decide) (by decide) (by decide), dc 29 (by decide) (by decide) (by decide), dc 33 (by decide) (by decide) (by decide), dc 34 (by decide) (by decide) (by decide), dc 35 (by decide) (by decide) (by decide), dc 36 (by decide) (by decide) (by decide), dc 37 (by decide) (by decide) (by decide), dc 38 (by decide) (by decide) (by decide), dc 39 (by decide) (by decide) (by decide), dc 40 (by decide) (by decide) (by decide), dc 41 (by decide) (by decide) (by decide), dc 42 (by decide) (by decide) (by decide), dc 43 (by decide) (by decide) (by decide), dc 44 (by decide) (by decide) (by decide), dc 49 (by decide) (by decide) (by decide), dc 50 (by decide) (by decide) (by decide), dc 51 (by decide) (by decide) (by decide), dc 52 (by decide) (by decide) (by decide), dc 53 (by decide) (by decide) (by decide), dc 54 (by decide) (by decide) (by decide), dc 55 (by decide) (by decide) (by decide), dc 56 (by decide) (by decide) (by decide), dc 61 (by decide) (by decide) (by decide), dc 62 (by decide) (by decide) (by decide), dc 63 (by decide) (by decide) (by decide), mc 65 (by decide) (by decide), mc 66 (by decide) (by decide), mc 67 (by decide) (by decide), mc 68 (by decide) (by decide), mc 69 (by decide) (by decide), mc 70 (by decide) (by decide), mc 71 (by decide) (by decide), mc 72 (by decide) (by decide), mc 74 (by decide) (by decide), mc 75 (by decide) (by decide), mc 76 (by decide) (by decide), mc 77 (by decide) (by decide), mc 78 (by decide) (by decide), mc 79 (by decide) (by decide), mc 80 (by decide) (by decide), mc 81 (by decide) (by decide), mc 85 (by decide) (by decide), mc 86 (by decide) (by decide), mc 87 (by decide) (by decide), mc 88 (by decide) (by decide), mc 89 (by decide) (by decide), mc 90 (by decide) (by decide), mc 91 (by decide) (by decide), mc 92 (by decide) (by decide), mc 93 (by decide) (by decide), mc 94 (by decide) (by decide), mc 95 (by decide) (by decide), mc 96 (by decide) (by decide), mc 97 (by decide) (by decide), mc 98 (by decide) (by decide), mc 99 (by decide) (by decide)]
    simp only [b_ups, b_upn, ne_eq, Nat.reduceEqDiff, not_false_eq_true]
    refine ⟨⟨⟨a1, a2, a3, a4⟩, ⟨b1, b2, b3, b4, b5, b6, b7, b8⟩, hA3⟩, ⟨⟨r1, r2, r3⟩, ⟨r4, r5, r6, u1, u2⟩, hP, hR2⟩, ⟨⟨c1, c2, c3, c4, c5, c6⟩, ⟨c7, c8, c9, c10⟩, hC3⟩, ⟨⟨l1, l2, by rw [l3], by simp, by trivial, l4, by trivial, by trivial, by trivial, by trivial, trivial⟩, hJG, by omega, by rw [l6, nI_1]⟩, ⟨⟨nw, n1, n2, n3⟩, n4⟩, ⟨⟨f1, f2, f3, f4, f5, f6⟩, hF2⟩, ⟨⟨g1, g2, g3, g4, g5, g6, g7, g8⟩, hG2⟩⟩
