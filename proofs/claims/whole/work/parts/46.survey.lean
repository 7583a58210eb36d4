variable {B : Nat}
/-! verify: what both sides compute -/
def cN (h : Nat → Int32) : Nat → Nat
  | 0 => 0
  | n + 1 => cN h n + (if h n = 0 then 0 else 1)
def fN (h : Nat → Int32) : Nat → Int32
  | 0 => -1
  | n + 1 => if h n = 0 then fN h n else if cN h n = 0 then nI n else fN h n
def lsN (h : Nat → Int32) : Nat → Int32
  | 0 => -1
  | n + 1 => if h n = 0 then lsN h n else nI n
theorem cN_le (h : Nat → Int32) : ∀ n, cN h n ≤ n := by
  intro n
  induction n with
  | zero => exact Nat.le_refl 0
  | succ n ih => unfold cN; split <;> omega
theorem cN_0 (h : Nat → Int32) : ∀ n, cN h n = 0 ↔ ∀ i, i < n → h i = 0 := by
  intro n
  induction n with
  | zero => exact ⟨fun _ i hi => absurd hi (by omega), fun _ => rfl⟩
  | succ n ih =>
    unfold cN
    constructor
    · intro e i hi
      by_cases q : h n = 0
      · rw [if_pos q, Nat.add_zero] at e
        by_cases w : i = n
        · rw [w]; exact q
        · exact ih.mp e i (by omega)
      · rw [if_neg q] at e; omega
    · intro e
      rw [if_pos (e n (by omega)), Nat.add_zero]
      exact ih.mpr fun i hi => e i (by omega)
theorem fN_is (h : Nat → Int32) : ∀ n, (fN h n = -1 ∧ ∀ i, i < n → h i = 0) ∨ ∃ i, i < n ∧ fN h n = nI i ∧ ¬ h i = 0 ∧ ∀ j, j < i → h j = 0 := by
  intro n
  induction n with
  | zero => exact Or.inl ⟨rfl, fun i hi => absurd hi (by omega)⟩
  | succ n ih =>
    unfold fN
    by_cases q : h n = 0
    · rw [if_pos q]
      rcases ih with ⟨e1, e2⟩ | ⟨i, i1, i2, i3, i4⟩
      · refine Or.inl ⟨e1, fun i hi => ?_⟩
        by_cases w : i = n
        · rw [w]; exact q
        · exact e2 i (by omega)
      · exact Or.inr ⟨i, by omega, i2, i3, i4⟩
    · rw [if_neg q]
      by_cases z : cN h n = 0
      · rw [if_pos z]
        exact Or.inr ⟨n, by omega, rfl, q, (cN_0 h n).mp z⟩
      · rw [if_neg z]
        rcases ih with ⟨e1, e2⟩ | ⟨i, i1, i2, i3, i4⟩
        · exact absurd ((cN_0 h n).mpr e2) z
        · exact Or.inr ⟨i, by omega, i2, i3, i4⟩
theorem lsN_is (h : Nat → Int32) : ∀ n, lsN h n = -1 ∨ ∃ i, i < n ∧ lsN h n = nI i := by
  intro n
  induction n with
  | zero => exact Or.inl rfl
  | succ n ih =>
    unfold lsN
    by_cases q : h n = 0
    · rw [if_pos q]
      rcases ih with e | ⟨i, i1, i2⟩
      · exact Or.inl e
      · exact Or.inr ⟨i, by omega, i2⟩
    · rw [if_neg q]; exact Or.inr ⟨n, by omega, rfl⟩
theorem cnt_cN (h : Nat → Int32) : ∀ d i, cN h i + cntF h i d = cN h (i + d) := by
  intro d
  induction d with
  | zero => intro i; rfl
  | succ d ih =>
    intro i
    unfold cntF
    rw [show i + (d + 1) = (i + 1) + d by omega, ← ih (i + 1)]
    show _ = (cN h i + (if h i = 0 then 0 else 1)) + _
    omega
theorem cnt_cN0 (h : Nat → Int32) (n : Nat) : cntF h 0 n = cN h n := by
  have := cnt_cN h n 0
  rw [Nat.zero_add] at this
  rw [← this]
  show _ = 0 + _
  omega
/-- whether one of the first e is met -/
def exF (g : Nat → Nat → Int32) (j : Nat) : Nat → Int32
  | 0 => 0
  | e + 1 => if g e j = 0 then exF g j e else 1
theorem exF01 (g : Nat → Nat → Int32) (j : Nat) : ∀ e, exF g j e = 0 ∨ exF g j e = 1 := by
  intro e
  induction e with
  | zero => exact Or.inl rfl
  | succ e ih =>
    unfold exF
    split
    · exact ih
    · exact Or.inr rfl
/-- the survey's state -/
def Sv (σ : rd_Sg) (a b c d : Nat → Int32) : rd_Sg := rd_uc (rd_uc (rd_uc (rd_uc σ 45 a) 46 b) 47 c) 48 d
theorem Sv_o {σ : rd_Sg} {a b c d : Nat → Int32} {k : Nat} (h : k < 45 ∨ 48 < k) : Sv σ a b c d k = σ k := by
  unfold Sv
  rw [b_ucne (by omega), b_ucne (by omega), b_ucne (by omega), b_ucne (by omega)]
theorem Sv_45 {σ : rd_Sg} {a b c d : Nat → Int32} : Sv σ a b c d 45 = a := by unfold Sv; rw [b_ucne (by decide), b_ucne (by decide), b_ucne (by decide), b_uceq]
theorem Sv_46 {σ : rd_Sg} {a b c d : Nat → Int32} : Sv σ a b c d 46 = b := by unfold Sv; rw [b_ucne (by decide), b_ucne (by decide), b_uceq]
theorem Sv_47 {σ : rd_Sg} {a b c d : Nat → Int32} : Sv σ a b c d 47 = c := by unfold Sv; rw [b_ucne (by decide), b_uceq]
theorem Sv_48 {σ : rd_Sg} {a b c d : Nat → Int32} : Sv σ a b c d 48 = d := by unfold Sv; rw [b_uceq]
theorem Sv_u45 {σ : rd_Sg} {a b c d : Nat → Int32} {j : Nat} {x : Int32} : rd_u (Sv σ a b c d) 45 j x = Sv σ (upd a j x) b c d := by
  funext k i; simp only [Sv, rd_u, rd_uc, upd]; grind
theorem Sv_u46 {σ : rd_Sg} {a b c d : Nat → Int32} {j : Nat} {x : Int32} : rd_u (Sv σ a b c d) 46 j x = Sv σ a (upd b j x) c d := by
  funext k i; simp only [Sv, rd_u, rd_uc, upd]; grind
theorem Sv_u47 {σ : rd_Sg} {a b c d : Nat → Int32} {j : Nat} {x : Int32} : rd_u (Sv σ a b c d) 47 j x = Sv σ a b (upd c j x) d := by
  funext k i; simp only [Sv, rd_u, rd_uc, upd]; grind
theorem Sv_u48 {σ : rd_Sg} {a b c d : Nat → Int32} {j : Nat} {x : Int32} : rd_u (Sv σ a b c d) 48 j x = Sv σ a b c (upd d j x) := by
  funext k i; simp only [Sv, rd_u, rd_uc, upd]; grind
theorem Sv_self {σ : rd_Sg} : Sv σ (σ 45) (σ 46) (σ 47) (σ 48) = σ := by
  funext k i; simp only [Sv, rd_uc]; grind
def xF (h : Nat → Int32) (d : Nat → Int32) (n : Nat) : Nat → Int32 := fun j => if j < n ∧ ¬ h j = 0 then 1 else d j
theorem up2 {f : Nat → Int32} {k : Nat} {x y : Int32} : upd (upd f k x) k y = upd f k y := by
  funext j; simp only [upd]; grind
set_option maxHeartbeats 4000000 in
theorem d_survey1 (ρ : Nat × (Nat → Int32)) {σ τ : rd_Sg} {nf ns ne nl : Nat} (hw : EW σ τ ns nf ne nl) {e : Nat} (he : e < ne) (a b c d : Nat → Int32) : ∀ k n, n + k = nl → rd_R ρ 26 17 [some (.ref 33), some (.int (nI e)), some (.ref 28), some (.int (nI n))] [] (Sv σ (upd a e (nI (cN (gF σ e) n))) (upd b e (fN (gF σ e) n)) (upd c e (lsN (gF σ e) n)) (xF (gF σ e) d n)) = some (0, Sv σ (upd a e (nI (cN (gF σ e) nl))) (upd b e (fN (gF σ e) nl)) (upd c e (lsN (gF σ e) nl)) (xF (gF σ e) d nl)) := by
  have hnl := hw.2.2.1.1
  have h28 := hw.2.2.2.2.1
  have hne := hw.2.1.1
  intro k
  induction k with
  | zero =>
    intro n hn
    rw [q_X2_surveyOne_33_28_at17, q_X4_size_28]
    simp only [Option.bind_some]
    rw [Sv_o (by omega), h28, if_neg (fun q => absurd ((p_lt rfl (by omega) (by omega)).mp q) (by omega)), show n = nl by omega]
  | succ k ih =>
    intro n hn
    have hc := cN_le (gF σ e) n
    rw [q_X2_surveyOne_33_28_at17, q_X4_size_28]
    simp only [Option.bind_some]
    rw [Sv_o (by omega), h28, if_pos (nI_lt (show n < nl by omega) (by omega)), d_fitE ρ (hw.congr (σ' := Sv σ _ _ _ _) (τ' := τ) (fun c hc => Sv_o (by omega)) (fun _ _ _ => rfl) rfl) he (show n < nl by omega), gF_congr (σ := σ) (fun c hc => Sv_o (by omega))]
    simp only [Option.bind_some]
    rw [← ih (n + 1) (by omega)]
    by_cases q : gF σ e n = 0
    · rw [if_pos q, q_X2_surveyOne_33_28_at59, nI_1]
      have x1 : cN (gF σ e) (n + 1) = cN (gF σ e) n := by show cN _ n + _ = _; rw [if_pos q]; rfl
      have x2 : fN (gF σ e) (n + 1) = fN (gF σ e) n := by show (if _ then _ else _) = _; rw [if_pos q]
      have x3 : lsN (gF σ e) (n + 1) = lsN (gF σ e) n := by show (if _ then _ else _) = _; rw [if_pos q]
      have x4 : xF (gF σ e) d (n + 1) = xF (gF σ e) d n := by
        funext j
        unfold xF
        by_cases w : j = n
        · subst w
          rw [if_neg (fun z => z.2 q), if_neg (fun z => z.2 q)]
        · by_cases w2 : j < n ∧ ¬ gF σ e j = 0
          · rw [if_pos w2, if_pos ⟨by omega, w2.2⟩]
          · rw [if_neg w2, if_neg (fun z => w2 ⟨by omega, z.2⟩)]
      rw [x1, x2, x3, x4]
    · rw [if_neg q, b_chk (show e < 40 by omega) (by decide), nI_clamp (show e < 2 ^ 31 by omega), Sv_45, b_ups]
      have x1 : cN (gF σ e) (n + 1) = cN (gF σ e) n + 1 := by show cN _ n + _ = _; rw [if_neg q]
      have x3 : lsN (gF σ e) (n + 1) = nI n := by show (if _ then _ else _) = _; rw [if_neg q]
      have x4 : xF (gF σ e) d (n + 1) = upd (xF (gF σ e) d n) n 1 := by
        funext j
        unfold xF
        by_cases w : j = n
        · subst w
          rw [if_pos ⟨by omega, q⟩, b_ups]
        · rw [b_upn w]
          by_cases w2 : j < n ∧ ¬ gF σ e j = 0
          · rw [if_pos w2, if_pos ⟨by omega, w2.2⟩]
          · rw [if_neg w2, if_neg (fun z => w2 ⟨by omega, z.2⟩)]
      have A41 : ∀ f, rd_R ρ 26 41 [some (.ref 33), some (.int (nI e)), some (.ref 28), some (.int (nI n))] [] (Sv σ (upd a e (nI (cN (gF σ e) n))) f (upd c e (lsN (gF σ e) n)) (xF (gF σ e) d n)) = rd_R ρ 26 17 [some (.ref 33), some (.int (nI e)), some (.ref 28), some (.int (nI (n + 1)))] [] (Sv σ (upd a e (nI (cN (gF σ e) (n + 1)))) f (upd c e (lsN (gF σ e) (n + 1))) (xF (gF σ e) d (n + 1))) := by
        intro f
        rw [q_X2_surveyOne_33_28_at41, b_chk (show e < 40 by omega) (by decide), b_chk (show e < 40 by omega) (by decide), b_chk (show e < 40 by omega) (by decide), b_chk (show n < 500 by omega) (by decide), nI_clamp (show e < 2 ^ 31 by omega), nI_clamp (show n < 2 ^ 31 by omega), Sv_45, b_ups, q_X2_surveyOne_33_28_at59, nI_1, nI_1, Sv_u47, Sv_u45, Sv_u48, up2, up2, x1, x3, x4, show (1 : Int32) &&& 1 = 1 by decide]
      by_cases z : cN (gF σ e) n = 0
      · have x2 : fN (gF σ e) (n + 1) = nI n := by show (if _ then _ else if _ then _ else _) = _; rw [if_neg q, if_pos z]
        rw [if_pos (by rw [z]; decide), b_chk (show e < 40 by omega) (by decide), Sv_u46, up2, A41, x2]
      · have x2 : fN (gF σ e) (n + 1) = fN (gF σ e) n := by show (if _ then _ else if _ then _ else _) = _; rw [if_neg q, if_neg z]
        rw [if_neg (fun w => z ((nI_eq (by omega) (by decide)).mp (w.trans (show (0 : Int32) = nI 0 by decide)))), A41, x2]
/-- rows of numbers, one by one -/
def rwF (f : Nat → Int32) (v : Nat → Int32) : Nat → Nat → Int32
  | 0 => f
  | k + 1 => upd (rwF f v k) k (v k)
theorem rwF_lt (f v : Nat → Int32) : ∀ k e, e < k → rwF f v k e = v e := by
  intro k
  induction k with
  | zero => intro e he; omega
  | succ k ih =>
    intro e he
    unfold rwF
    by_cases q : e = k
    · subst q; exact b_ups
    · rw [b_upn q]; exact ih e (by omega)
def exR (g : Nat → Nat → Int32) (f : Nat → Int32) (nl : Nat) : Nat → Nat → Int32
  | 0 => fun j => if j < nl then 0 else f j
  | k + 1 => xF (g k) (exR g f nl k) nl
theorem exR_is (g : Nat → Nat → Int32) (f : Nat → Int32) (nl : Nat) {j : Nat} (hj : j < nl) : ∀ k, exR g f nl k j = exF g j k := by
  intro k
  induction k with
  | zero => exact if_pos hj
  | succ k ih =>
    unfold exR exF xF
    by_cases q : g k j = 0
    · rw [if_neg (fun z => z.2 q), if_pos q, ih]
    · rw [if_pos ⟨hj, q⟩, if_neg q]
/-- the survey is done -/
def svF (σ : rd_Sg) (nl k : Nat) : rd_Sg := Sv σ (rwF (σ 45) (fun e => nI (cN (gF σ e) nl)) k) (rwF (σ 46) (fun e => fN (gF σ e) nl) k) (rwF (σ 47) (fun e => lsN (gF σ e) nl) k) (exR (gF σ) (σ 48) nl k)
theorem svF_o {σ : rd_Sg} {nl k c : Nat} (h : c < 45 ∨ 48 < c) : svF σ nl k c = σ c := Sv_o h
theorem d_survey (ρ : Nat × (Nat → Int32)) {σ τ : rd_Sg} {nf ns ne nl : Nat} (hw : EW σ τ ns nf ne nl) (h34 : σ 34 3 = nI ne) : rd_R ρ 25 0 [some (.ref 33), some (.ref 28), none] [] σ = some (0, svF σ nl ne) := by
  have hnl := hw.2.2.1.1
  have h28 := hw.2.2.2.2.1
  have hne := hw.2.1.1
  have L1 : ∀ k n, n + k = nl → rd_R ρ 25 2 [some (.ref 33), some (.ref 28), some (.int (nI n))] [] (Sv σ (σ 45) (σ 46) (σ 47) (fun j => if j < n then 0 else σ 48 j)) = rd_R ρ 25 15 [some (.ref 33), some (.ref 28), some (.int 0)] [] (svF σ nl 0) := by
    intro k
    induction k with
    | zero =>
      intro n hn
      rw [q_X2_survey_33_28_at2, q_X4_size_28]
      simp only [Option.bind_some]
      rw [Sv_o (by omega), h28, if_neg (fun q => absurd ((p_lt rfl (by omega) (by omega)).mp q) (by omega)), show n = nl by omega]
      rfl
    | succ k ih =>
      intro n hn
      rw [q_X2_survey_33_28_at2, q_X4_size_28]
      simp only [Option.bind_some]
      rw [Sv_o (by omega), h28, if_pos (nI_lt (show n < nl by omega) (by omega)), b_chk (show n < 500 by omega) (by decide), nI_clamp (show n < 2 ^ 31 by omega), nI_1, Sv_u48, ← ih (n + 1) (by omega), show (0 : Int32) &&& 1 = 0 by decide]
      congr 2
      funext j
      simp only [upd]
      grind
  have L2 : ∀ k e, e + k = ne → rd_R ρ 25 15 [some (.ref 33), some (.ref 28), some (.int (nI e))] [] (svF σ nl e) = some (0, svF σ nl ne) := by
    intro k
    induction k with
    | zero =>
      intro e he
      rw [q_X2_survey_33_28_at15, q_X5_size_34]
      simp only [Option.bind_some]
      rw [svF_o (by omega), h34, if_neg (fun q => absurd ((p_lt rfl (by omega) (by omega)).mp q) (by omega)), show e = ne by omega]
    | succ k ih =>
      intro e he
      rw [q_X2_survey_33_28_at15, q_X5_size_34]
      simp only [Option.bind_some]
      rw [svF_o (by omega), h34, if_pos (nI_lt (show e < ne by omega) (by omega)), q_X2_surveyOne_33_28, b_chk (show e < 40 by omega) (by decide), b_chk (show e < 40 by omega) (by decide), b_chk (show e < 40 by omega) (by decide), nI_clamp (show e < 2 ^ 31 by omega)]
      have S := d_survey1 ρ hw (show e < ne by omega) (rwF (σ 45) (fun e => nI (cN (gF σ e) nl)) e) (rwF (σ 46) (fun e => fN (gF σ e) nl) e) (rwF (σ 47) (fun e => lsN (gF σ e) nl) e) (exR (gF σ) (σ 48) nl e) nl 0 (by omega)
      have x0 : xF (gF σ e) (exR (gF σ) (σ 48) nl e) 0 = exR (gF σ) (σ 48) nl e := by
        funext j
        unfold xF
        rw [if_neg (fun z => absurd z.1 (by omega))]
      rw [x0] at S
      have S2 : rd_R ρ 26 17 [some (.ref 33), some (.int (nI e)), some (.ref 28), some (.int 0)] [] (rd_u (rd_u (rd_u (svF σ nl e) 45 e 0) 46 e (-1)) 47 e (-1)) = some (0, svF σ nl (e + 1)) := by
        unfold svF
        rw [Sv_u45, Sv_u46, Sv_u47]
        exact S
      rw [S2]
      simp only [Option.bind_some]
      rw [nI_1, ih (e + 1) (by omega)]
  rw [q_X2_survey_33_28]
  have := L1 nl 0 (by omega)
  have e0 : Sv σ (σ 45) (σ 46) (σ 47) (fun j => if j < 0 then 0 else σ 48 j) = σ := by
    have : (fun j => if j < 0 then (0 : Int32) else σ 48 j) = σ 48 := by
      funext j
      rw [if_neg (by omega)]
    rw [this]
    exact Sv_self
  rw [e0] at this
  exact this.trans (L2 ne 0 (by omega))
