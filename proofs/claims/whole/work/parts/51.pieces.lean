variable {B : Nat}
/-! run: what each piece of a run keeps -/
def BF (B nc ns nd k : Nat) (σ0 τ0 σ τ : rd_Sg) : Prop := Inv B (mix σ τ) ∧ (τ 64 48 = 0 ∧ σ 51 0 = nI nc ∧ σ 9 1 = nI ns ∧ ns ≤ 24 ∧ nc ≤ 60) ∧ (nd < 30000 ∧ σ 56 9 = nI nd) ∧ TR σ τ k ∧ (∀ c, 64 ≤ c → σ c = σ0 c) ∧ ∀ c, c < 64 → τ c = τ0 c
theorem BF.out {nc ns nd k : Nat} {σ0 τ0 σ τ : rd_Sg} (h : BF B nc ns nd k σ0 τ0 σ τ) : ∃ nt, (σ 61 = τ 97 ∧ σ 62 = τ 98 ∧ σ 63 = τ 99) ∧ (nt ≤ 100 ∧ σ 56 8 = nI nt ∧ τ 64 50 = nI nt) ∧ (nd < 30000 ∧ σ 56 9 = nI nd ∧ τ 64 49 = nI nd) ∧ (τ 64 41 = nI nc ∧ τ 64 7 = nI ns) ∧ (∀ i, i < 4 → StV ns (σ 62 i)) ∧ (σ 52 = τ 93 ∧ σ 53 = τ 94 ∧ σ 54 = τ 95 ∧ σ 55 = τ 96) ∧ JC nc (τ 93) (τ 94) (τ 95) (τ 96) := by
  obtain ⟨hI, ⟨h48, h51, h91, hns, hnc⟩, ⟨hnd, h569⟩, -⟩ := h
  rw [Inv.two] at hI
  obtain ⟨nf, ns', nr, ne, nl, nc', no, nt, nd', lo, ⟨⟨a1, a2, a3, a4⟩, -, -, -, -, hJS⟩, -, -, -, -, ⟨⟨f1, f2, f3, f4, f5, f6⟩, hJC⟩, ⟨⟨g1, g2, g3, g4, g5, g6, g7, g8⟩, hst, hem⟩⟩ := hI
  have e1 : ns' = ns := (nI_eq (by have := hJS.1; omega) (by omega)).mp (a3.symm.trans h91)
  have e2 : nc' = nc := (nI_eq (by have := hJC.1; omega) (by omega)).mp (f1.symm.trans h51)
  have e3 : nd' = nd := (nI_eq (by omega) (by omega)).mp (g7.symm.trans h569)
  subst e1 e2 e3
  have h62 : σ 62 = τ 98 := by
    rcases hem with ⟨w, -⟩ | ⟨-, w⟩
    · rw [h48] at w; exact absurd w (by decide)
    · exact w
  exact ⟨nt, ⟨g1, h62, g2⟩, ⟨g3, g4, g5⟩, ⟨g6, g7, g8⟩, ⟨f2, a4⟩, hst, ⟨f3, f4, f5, f6⟩, hJC⟩
theorem BF.go {nc ns nd k nd' k' nt : Nat} {σ0 τ0 σ τ σ1 τ1 : rd_Sg} (h : BF B nc ns nd k σ0 τ0 σ τ) (hD : ∀ c, c < 56 → σ1 c = σ c) (hD2 : ∀ c, 64 ≤ c → σ1 c = σ c) (hM : ∀ c, c ≠ 64 → c < 97 → τ1 c = τ c) (hM64 : ∀ j, j < 48 → τ1 64 j = τ 64 j) (h61 : σ1 61 = τ1 97) (h63 : σ1 63 = τ1 99) (hnt : nt ≤ 100 ∧ σ1 56 8 = nI nt ∧ τ1 64 50 = nI nt) (hnd : nd' < 30000 ∧ σ1 56 9 = nI nd' ∧ τ1 64 49 = nI nd') (hst : ∀ i, i < 4 → StV ns (σ1 62 i)) (h62 : σ1 62 = τ1 98) (h48 : τ1 64 48 = 0) (hT : TR σ1 τ1 k') : BF B nc ns nd' k' σ0 τ0 σ1 τ1 := by
  obtain ⟨hI, ⟨-, h51, h91, hns, hnc⟩, -, -, F1, F2⟩ := h
  refine ⟨run_inv hI (Nat.le_refl B) h91 hns hD hM hM64 h61 h63 hnt hnd hst h62 h48, ⟨h48, by rw [hD 51 (by decide)]; exact h51, by rw [hD 9 (by decide)]; exact h91, hns, hnc⟩, ⟨hnd.1, hnd.2.1⟩, hT, fun c hc => (hD2 c hc).trans (F1 c hc), fun c hc => (hM c (by omega) (by omega)).trans (F2 c hc)⟩
theorem TR.of {σ τ σ1 τ1 : rd_Sg} {k : Nat} (h : TR σ τ k) (h1 : σ1 57 = σ 57) (h2 : σ1 58 = σ 58) (h3 : σ1 59 = σ 59) (h4 : σ1 60 = σ 60) (g1 : τ1 64 52 = τ 64 52) (g2 : τ1 100 = τ 100) (g3 : τ1 101 = τ 101) (g4 : τ1 102 = τ 102) : TR σ1 τ1 k := by
  unfold TR
  rw [h1, h2, h3, h4, g1, g2, g3, g4]
  exact h
theorem BF.w61 {nc ns nd k : Nat} {σ0 τ0 σ τ : rd_Sg} (h : BF B nc ns nd k σ0 τ0 σ τ) (a : Nat) (v : Int32) : BF B nc ns nd k σ0 τ0 (rd_u σ 61 a v) (rd_u τ 97 a v) := by
  obtain ⟨nt, ⟨g1, g2, g3⟩, gt, gd, ⟨f1, f2⟩, hst, -⟩ := h.out
  have h48 := h.2.1.1
  have hT := h.2.2.2.1
  refine h.go (nt := nt) (fun c hc => by rw [b_une (by omega)]) (fun c hc => by rw [b_une (by omega)]) (fun c h1 h2 => by rw [b_une (by omega)]) ?_ ?_ ?_ ?_ ?_ ?_ ?_ ?_ ?_
  · intro j hj; rw [b_une (by decide)]
  · rw [b_ueq, b_ueq]; rw [g1]
  · rw [b_une (by decide), b_une (by decide)]; exact g3
  · rw [b_une (by decide), b_une (by decide)]; exact gt
  · rw [b_une (by decide), b_une (by decide)]; exact gd
  · rw [b_une (by decide)]; exact hst
  · rw [b_une (by decide), b_une (by decide)]; exact g2
  · rw [b_une (by decide)]; exact h48
  · refine hT.of (by rw [b_une (by decide)]) (by rw [b_une (by decide)]) (by rw [b_une (by decide)]) (by rw [b_une (by decide)]) (by rw [b_une (by decide)]) (by rw [b_une (by decide)]) (by rw [b_une (by decide)]) (by rw [b_une (by decide)])
theorem BF.w62 {nc ns nd k : Nat} {σ0 τ0 σ τ : rd_Sg} (h : BF B nc ns nd k σ0 τ0 σ τ) (a : Nat) {v : Int32} (hv : StV ns v) : BF B nc ns nd k σ0 τ0 (rd_u σ 62 a v) (rd_u τ 98 a v) := by
  obtain ⟨nt, ⟨g1, g2, g3⟩, gt, gd, ⟨f1, f2⟩, hst, -⟩ := h.out
  have h48 := h.2.1.1
  have hT := h.2.2.2.1
  refine h.go (nt := nt) (fun c hc => by rw [b_une (by omega)]) (fun c hc => by rw [b_une (by omega)]) (fun c h1 h2 => by rw [b_une (by omega)]) ?_ ?_ ?_ ?_ ?_ ?_ ?_ ?_ ?_
  · intro j hj; rw [b_une (by decide)]
  · rw [b_une (by decide), b_une (by decide)]; exact g1
  · rw [b_une (by decide), b_une (by decide)]; exact g3
  · rw [b_une (by decide), b_une (by decide)]; exact gt
  · rw [b_une (by decide), b_une (by decide)]; exact gd
  · rw [b_ueq]; intro i hi
    by_cases e : i = a
    · subst e; rw [b_ups]; exact hv
    · rw [b_upn e]; exact hst i hi
  · rw [b_ueq, b_ueq]; rw [g2]
  · rw [b_une (by decide)]; exact h48
  · refine hT.of (by rw [b_une (by decide)]) (by rw [b_une (by decide)]) (by rw [b_une (by decide)]) (by rw [b_une (by decide)]) (by rw [b_une (by decide)]) (by rw [b_une (by decide)]) (by rw [b_une (by decide)]) (by rw [b_une (by decide)])
theorem BF.w58 {nc ns nd k : Nat} {σ0 τ0 σ τ : rd_Sg} (h : BF B nc ns nd k σ0 τ0 σ τ) (v : Int32) : BF B nc ns nd k σ0 τ0 σ (rd_u τ 64 58 v) := by
  obtain ⟨nt, ⟨g1, g2, g3⟩, gt, gd, ⟨f1, f2⟩, hst, -⟩ := h.out
  have h48 := h.2.1.1
  have hT := h.2.2.2.1
  refine h.go (nt := nt) (fun _ _ => rfl) (fun _ _ => rfl) (fun c h1 h2 => by rw [b_une (by omega)]) ?_ ?_ ?_ ?_ ?_ ?_ ?_ ?_ ?_
  · intro j hj; rw [b_ueq]; rw [b_upn (by omega)]
  · rw [b_une (by decide)]; exact g1
  · rw [b_une (by decide)]; exact g3
  · rw [b_ueq]; rw [b_upn (by decide)]; exact gt
  · rw [b_ueq]; rw [b_upn (by decide)]; exact gd
  · skip; exact hst
  · rw [b_une (by decide)]; exact g2
  · rw [b_ueq]; rw [b_upn (by decide)]; exact h48
  · refine hT.of rfl rfl rfl rfl (by rw [b_ueq]; rw [b_upn (by decide)]) (by rw [b_une (by decide)]) (by rw [b_une (by decide)]) (by rw [b_une (by decide)])
theorem BF.w10 {nc ns nd k : Nat} {σ0 τ0 σ τ : rd_Sg} (h : BF B nc ns nd k σ0 τ0 σ τ) (v : Int32) : BF B nc ns nd k σ0 τ0 (rd_u σ 56 10 v) τ := by
  obtain ⟨nt, ⟨g1, g2, g3⟩, gt, gd, ⟨f1, f2⟩, hst, -⟩ := h.out
  have h48 := h.2.1.1
  have hT := h.2.2.2.1
  refine h.go (nt := nt) (fun c hc => by rw [b_une (by omega)]) (fun c hc => by rw [b_une (by omega)]) (fun _ _ _ => rfl) ?_ ?_ ?_ ?_ ?_ ?_ ?_ ?_ ?_
  · intro j hj; rfl
  · rw [b_une (by decide)]; exact g1
  · rw [b_une (by decide)]; exact g3
  · rw [b_ueq]; rw [b_upn (by decide)]; exact gt
  · rw [b_ueq]; rw [b_upn (by decide)]; exact gd
  · rw [b_une (by decide)]; exact hst
  · rw [b_une (by decide)]; exact g2
  · skip; exact h48
  · refine hT.of (by rw [b_une (by decide)]) (by rw [b_une (by decide)]) (by rw [b_une (by decide)]) (by rw [b_une (by decide)]) rfl rfl rfl rfl
theorem BF.w9 {nc ns nd k : Nat} {σ0 τ0 σ τ : rd_Sg} (h : BF B nc ns nd k σ0 τ0 σ τ) (hn : nd + 1 < 30000) : BF B nc ns (nd + 1) k σ0 τ0 (rd_u σ 56 9 (nI (nd + 1))) (rd_u τ 64 49 (nI (nd + 1))) := by
  obtain ⟨nt, ⟨g1, g2, g3⟩, gt, gd, ⟨f1, f2⟩, hst, -⟩ := h.out
  have h48 := h.2.1.1
  have hT := h.2.2.2.1
  refine h.go (nt := nt) (fun c hc => by rw [b_une (by omega)]) (fun c hc => by rw [b_une (by omega)]) (fun c h1 h2 => by rw [b_une (by omega)]) ?_ ?_ ?_ ?_ ?_ ?_ ?_ ?_ ?_
  · intro j hj; rw [b_ueq]; rw [b_upn (by omega)]
  · rw [b_une (by decide), b_une (by decide)]; exact g1
  · rw [b_une (by decide), b_une (by decide)]; exact g3
  · rw [b_ueq, b_ueq]; rw [b_upn (by decide), b_upn (by decide)]; exact gt
  · rw [b_ueq, b_ueq]; rw [b_ups, b_ups]; exact ⟨hn, rfl, rfl⟩
  · rw [b_une (by decide)]; exact hst
  · rw [b_une (by decide), b_une (by decide)]; exact g2
  · rw [b_ueq]; rw [b_upn (by decide)]; exact h48
  · refine hT.of (by rw [b_une (by decide)]) (by rw [b_une (by decide)]) (by rw [b_une (by decide)]) (by rw [b_une (by decide)]) (by rw [b_ueq]; rw [b_upn (by decide)]) (by rw [b_une (by decide)]) (by rw [b_une (by decide)]) (by rw [b_une (by decide)])
theorem BF.w52 {nc ns nd k : Nat} {σ0 τ0 σ τ : rd_Sg} (h : BF B nc ns nd k σ0 τ0 σ τ) {k' : Nat} (hk : k' ≤ k) : BF B nc ns nd k' σ0 τ0 (rd_u σ 57 0 (nI k')) (rd_u τ 64 52 (nI k')) := by
  obtain ⟨nt, ⟨g1, g2, g3⟩, gt, gd, ⟨f1, f2⟩, hst, -⟩ := h.out
  have h48 := h.2.1.1
  have hT := h.2.2.2.1
  refine h.go (nt := nt) (fun c hc => by rw [b_une (by omega)]) (fun c hc => by rw [b_une (by omega)]) (fun c h1 h2 => by rw [b_une (by omega)]) ?_ ?_ ?_ ?_ ?_ ?_ ?_ ?_ ?_
  · intro j hj; rw [b_ueq]; rw [b_upn (by omega)]
  · rw [b_une (by decide), b_une (by decide)]; exact g1
  · rw [b_une (by decide), b_une (by decide)]; exact g3
  · rw [b_une (by decide), b_ueq]; rw [b_upn (by decide)]; exact gt
  · rw [b_une (by decide), b_ueq]; rw [b_upn (by decide)]; exact gd
  · rw [b_une (by decide)]; exact hst
  · rw [b_une (by decide), b_une (by decide)]; exact g2
  · rw [b_ueq]; rw [b_upn (by decide)]; exact h48
  · obtain ⟨t1, t2, t3, t4⟩ := hT
    refine ⟨by omega, rd_us, rd_us, fun j hj => ?_⟩
    rw [b_une (by decide), b_une (by decide), b_une (by decide), b_une (by decide), b_une (by decide), b_une (by decide)]
    exact t4 j (by omega)
theorem BF.wopen {nc ns nd k : Nat} {σ0 τ0 σ τ : rd_Sg} (h : BF B nc ns nd k σ0 τ0 σ τ) (hk : k < 10) (a b : Int32) {t : Nat} (ht : t ≤ 60) : BF B nc ns nd (k + 1) σ0 τ0 (rd_u (rd_u (rd_u (rd_u σ 58 k a) 59 k b) 60 k (nI t)) 57 0 (nI (k + 1))) (rd_u (rd_u (rd_u (rd_u τ 100 k a) 101 k b) 102 k (nI t)) 64 52 (nI (k + 1))) := by
  obtain ⟨nt, ⟨g1, g2, g3⟩, gt, gd, ⟨f1, f2⟩, hst, -⟩ := h.out
  have h48 := h.2.1.1
  have hT := h.2.2.2.1
  refine h.go (nt := nt) (fun c hc => by rw [b_une (by omega)]; rw [b_une (by omega)]; rw [b_une (by omega)]; rw [b_une (by omega)]) (fun c hc => by rw [b_une (by omega)]; rw [b_une (by omega)]; rw [b_une (by omega)]; rw [b_une (by omega)]) (fun c h1 h2 => by rw [b_une (by omega)]; rw [b_une (by omega)]; rw [b_une (by omega)]; rw [b_une (by omega)]) ?_ ?_ ?_ ?_ ?_ ?_ ?_ ?_ ?_
  · intro j hj; rw [b_ueq, b_une (by decide), b_une (by decide), b_une (by decide)]; rw [b_upn (by omega)]
  · rw [b_une (by decide), b_une (by decide), b_une (by decide), b_une (by decide), b_une (by decide), b_une (by decide), b_une (by decide), b_une (by decide)]; exact g1
  · rw [b_une (by decide), b_une (by decide), b_une (by decide), b_une (by decide), b_une (by decide), b_une (by decide), b_une (by decide), b_une (by decide)]; exact g3
  · rw [b_une (by decide), b_une (by decide), b_une (by decide), b_une (by decide), b_ueq, b_une (by decide), b_une (by decide), b_une (by decide)]; rw [b_upn (by decide)]; exact gt
  · rw [b_une (by decide), b_une (by decide), b_une (by decide), b_une (by decide), b_ueq, b_une (by decide), b_une (by decide), b_une (by decide)]; rw [b_upn (by decide)]; exact gd
  · rw [b_une (by decide), b_une (by decide), b_une (by decide), b_une (by decide)]; exact hst
  · rw [b_une (by decide), b_une (by decide), b_une (by decide), b_une (by decide), b_une (by decide), b_une (by decide), b_une (by decide), b_une (by decide)]; exact g2
  · rw [b_ueq, b_une (by decide), b_une (by decide), b_une (by decide)]; rw [b_upn (by decide)]; exact h48
  · obtain ⟨t1, t2, t3, t4⟩ := hT
    refine ⟨by omega, rd_us, rd_us, fun j hj => ?_⟩
    have e1 : ∀ x y z w : Int32, rd_u (rd_u (rd_u (rd_u σ 58 k x) 59 k y) 60 k z) 57 0 w 58 = upd (σ 58) k x := fun x y z w => by rw [b_une (by decide), b_une (by decide), b_une (by decide), b_ueq]
    have e2 : ∀ x y z w : Int32, rd_u (rd_u (rd_u (rd_u σ 58 k x) 59 k y) 60 k z) 57 0 w 59 = upd (σ 59) k y := fun x y z w => by rw [b_une (by decide), b_une (by decide), b_ueq, b_une (by decide)]
    have e3 : ∀ x y z w : Int32, rd_u (rd_u (rd_u (rd_u σ 58 k x) 59 k y) 60 k z) 57 0 w 60 = upd (σ 60) k z := fun x y z w => by rw [b_une (by decide), b_ueq, b_une (by decide), b_une (by decide)]
    have e4 : ∀ x y z w : Int32, rd_u (rd_u (rd_u (rd_u τ 100 k x) 101 k y) 102 k z) 64 52 w 100 = upd (τ 100) k x := fun x y z w => by rw [b_une (by decide), b_une (by decide), b_une (by decide), b_ueq]
    have e5 : ∀ x y z w : Int32, rd_u (rd_u (rd_u (rd_u τ 100 k x) 101 k y) 102 k z) 64 52 w 101 = upd (τ 101) k y := fun x y z w => by rw [b_une (by decide), b_une (by decide), b_ueq, b_une (by decide)]
    have e6 : ∀ x y z w : Int32, rd_u (rd_u (rd_u (rd_u τ 100 k x) 101 k y) 102 k z) 64 52 w 102 = upd (τ 102) k z := fun x y z w => by rw [b_une (by decide), b_ueq, b_une (by decide), b_une (by decide)]
    rw [e1, e2, e3, e4, e5, e6]
    by_cases e : j = k
    · subst e; rw [b_ups, b_ups, b_ups, b_ups, b_ups, b_ups]; exact ⟨rfl, rfl, rfl, t, ht, rfl⟩
    · rw [b_upn e, b_upn e, b_upn e, b_upn e, b_upn e, b_upn e]; exact t4 j (by omega)
theorem BF.wtell {nc ns nd k : Nat} {σ0 τ0 σ τ : rd_Sg} (h : BF B nc ns nd k σ0 τ0 σ τ) {n : Nat} (h8 : σ 56 8 = nI n) (hn : n < 100) (v : Int32) : BF B nc ns nd k σ0 τ0 (rd_u (rd_u σ 63 n v) 56 8 (nI (n + 1))) (rd_u (rd_u τ 99 n v) 64 50 (nI (n + 1))) := by
  obtain ⟨nt, ⟨g1, g2, g3⟩, gt, gd, ⟨f1, f2⟩, hst, -⟩ := h.out
  have h48 := h.2.1.1
  have hT := h.2.2.2.1
  refine h.go (nt := n + 1) (fun c hc => by rw [b_une (by omega)]; rw [b_une (by omega)]) (fun c hc => by rw [b_une (by omega)]; rw [b_une (by omega)]) (fun c h1 h2 => by rw [b_une (by omega)]; rw [b_une (by omega)]) ?_ ?_ ?_ ?_ ?_ ?_ ?_ ?_ ?_
  · intro j hj; rw [b_ueq, b_une (by decide)]; rw [b_upn (by omega)]
  · rw [b_une (by decide), b_une (by decide), b_une (by decide), b_une (by decide)]; exact g1
  · rw [b_une (by decide), b_ueq, b_une (by decide), b_ueq]; rw [g3]
  · rw [b_ueq, b_une (by decide), b_ueq, b_une (by decide)]; rw [b_ups, b_ups]; exact ⟨by omega, rfl, rfl⟩
  · rw [b_ueq, b_une (by decide), b_ueq, b_une (by decide)]; rw [b_upn (by decide), b_upn (by decide)]; exact gd
  · rw [b_une (by decide), b_une (by decide)]; exact hst
  · rw [b_une (by decide), b_une (by decide), b_une (by decide), b_une (by decide)]; exact g2
  · rw [b_ueq, b_une (by decide)]; rw [b_upn (by decide)]; exact h48
  · refine hT.of (by rw [b_une (by decide), b_une (by decide)]) (by rw [b_une (by decide), b_une (by decide)]) (by rw [b_une (by decide), b_une (by decide)]) (by rw [b_une (by decide), b_une (by decide)]) (by rw [b_ueq, b_une (by decide)]; rw [b_upn (by decide)]) (by rw [b_une (by decide), b_une (by decide)]) (by rw [b_une (by decide), b_une (by decide)]) (by rw [b_une (by decide), b_une (by decide)])
theorem BF.up {nc ns nd k : Nat} {σ0 τ0 σ τ : rd_Sg} (h : BF B nc ns nd k σ0 τ0 σ τ) : BF (B + 1) nc ns nd k σ0 τ0 σ τ := ⟨h.1.up, h.2⟩
