theorem rd_cat_sum {ad : Nat → Nat} : ∀ {st : List Value}, st.all rd_one = true → ((st.map (rd_cv ad)).map fun v => v.category).sum = st.length := by
  intro st
  induction st with
  | nil => intro _; rfl
  | cons v st ih =>
    intro h
    rw [List.all_cons, Bool.and_eq_true] at h
    simp only [List.map_cons, List.sum_cons, List.length_cons]
    rw [ih h.2, rd_one_cat (rd_cv_one h.1)]
    omega
theorem rd_mathS : Cond.static Lib.Math.min.name ∈ rd_tb := by decide +kernel
theorem rd_mathI : Cond.initialized "java/lang/Math" ∈ rd_tb := by decide +kernel
theorem rd_mathC : Cond.code Lib.Math.min.name Lib.Math.min.code 2 (some .int) ∈ rd_tb := by decide +kernel
section RDK
variable {p : Program} {l : Launch} {e : Env} {R : Room} {s : State} {m : MethodId} {args : Array Value} {below : List Frame} {meth : Method} {c : Code} {cells slots : Nat} {Q : State → Prop}
variable {D : va_G} {cI cZ : ClassId} {ad : Nat → Nat} {base : Nat} {ρ : Nat × (Nat → Int32)} {S : List rd_Sh}
variable {H : Heap} {locs : List Loc} {ls : Array Slot} {cc : ByteArray}
theorem rd_iload_ok {j i : Nat} {vs vs' : rd_Lv} {st st' : List Value} {σ σ' : rd_Sg} {i' pc len : Nat} (hl : rd_Ls ad ls c.maxLocals vs) (hst : st.all rd_one = true)
    (ha : rd_iload vs j i st σ = some (.inr (.inl (i', vs', st', σ'))))
    (row : ∀ x : Int32, ls[j]? = some (.val (.int x)) → W p l e R s m args below meth c H locs cells slots Q (F0 m (pc + len) ls (.int x :: st.map (rd_cv ad))) → W p l e R s m args below meth c H locs cells slots Q (F0 m pc ls (st.map (rd_cv ad))))
    (kk : i' = i + 1 → vs' = vs → σ' = σ → st'.all rd_one = true → W p l e R s m args below meth c H locs cells slots Q (F0 m (pc + len) ls (st'.map (rd_cv ad)))) : W p l e R s m args below meth c H locs cells slots Q (F0 m pc ls (st.map (rd_cv ad))) := by
  unfold rd_iload at ha
  split at ha
  · rename_i x hv
    cases ha
    exact row x (hl.at hv) (kk rfl rfl rfl (by simpa [rd_one] using hst))
  · cases ha
theorem rd_aload_ok {j i : Nat} {vs vs' : rd_Lv} {st st' : List Value} {σ σ' : rd_Sg} {i' pc len : Nat} (hl : rd_Ls ad ls c.maxLocals vs) (hst : st.all rd_one = true)
    (ha : rd_aload vs j i st σ = some (.inr (.inl (i', vs', st', σ'))))
    (row : ∀ x : Nat, ls[j]? = some (.val (.ref x)) → W p l e R s m args below meth c H locs cells slots Q (F0 m (pc + len) ls (.ref x :: st.map (rd_cv ad))) → W p l e R s m args below meth c H locs cells slots Q (F0 m pc ls (st.map (rd_cv ad))))
    (kk : i' = i + 1 → vs' = vs → σ' = σ → st'.all rd_one = true → W p l e R s m args below meth c H locs cells slots Q (F0 m (pc + len) ls (st'.map (rd_cv ad)))) : W p l e R s m args below meth c H locs cells slots Q (F0 m pc ls (st.map (rd_cv ad))) := by
  unfold rd_aload at ha
  split at ha
  · rename_i x hv
    cases ha
    exact row (ad x) (hl.at hv) (kk rfl rfl rfl (by simpa [rd_one] using hst))
  · cases ha
theorem rd_istore_ok {j i : Nat} {vs vs' : rd_Lv} {st st' : List Value} {σ σ' : rd_Sg} {i' pc len : Nat} (hl : rd_Ls ad ls c.maxLocals vs) (hst : st.all rd_one = true)
    (ha : rd_istore vs j i st σ = some (.inr (.inl (i', vs', st', σ'))))
    (row : ∀ (x : Int32) (rest : List Value), j < c.maxLocals → (∀ ls' : Array Slot, lv_has ls' c.maxLocals ((j, Value.int x) :: (rd_ps ad 0 vs).filter (fun q => !(q.1 == j) && !(q.1 + 1 == j && q.2.category == 2))) → W p l e R s m args below meth c H locs cells slots Q (F0 m (pc + len) ls' rest)) → W p l e R s m args below meth c H locs cells slots Q (F0 m pc ls (.int x :: rest)))
    (kk : ∀ ls' : Array Slot, i' = i + 1 → rd_Ls ad ls' c.maxLocals vs' → σ' = σ → st'.all rd_one = true → W p l e R s m args below meth c H locs cells slots Q (F0 m (pc + len) ls' (st'.map (rd_cv ad)))) : W p l e R s m args below meth c H locs cells slots Q (F0 m pc ls (st.map (rd_cv ad))) := by
  unfold rd_istore at ha
  split at ha
  · rename_i x st0
    split at ha
    · rename_i vs1 hs
      cases ha
      refine row x _ (Nat.lt_of_lt_of_le (rd_set_spec hs).1 hl.2.2.1) (fun ls' h' => ?_)
      exact kk ls' rfl (hl.put (v := .int x) rfl hs h') rfl (by simpa [rd_one] using hst)
    · cases ha
  · cases ha
theorem rd_astore_ok {j i : Nat} {vs vs' : rd_Lv} {st st' : List Value} {σ σ' : rd_Sg} {i' pc len : Nat} (hl : rd_Ls ad ls c.maxLocals vs) (hst : st.all rd_one = true)
    (ha : rd_astore vs j i st σ = some (.inr (.inl (i', vs', st', σ'))))
    (row : ∀ (x : Nat) (rest : List Value), j < c.maxLocals → (∀ ls' : Array Slot, lv_has ls' c.maxLocals ((j, Value.ref x) :: (rd_ps ad 0 vs).filter (fun q => !(q.1 == j) && !(q.1 + 1 == j && q.2.category == 2))) → W p l e R s m args below meth c H locs cells slots Q (F0 m (pc + len) ls' rest)) → W p l e R s m args below meth c H locs cells slots Q (F0 m pc ls (.ref x :: rest)))
    (kk : ∀ ls' : Array Slot, i' = i + 1 → rd_Ls ad ls' c.maxLocals vs' → σ' = σ → st'.all rd_one = true → W p l e R s m args below meth c H locs cells slots Q (F0 m (pc + len) ls' (st'.map (rd_cv ad)))) : W p l e R s m args below meth c H locs cells slots Q (F0 m pc ls (st.map (rd_cv ad))) := by
  unfold rd_astore at ha
  split at ha
  · rename_i x st0
    split at ha
    · rename_i vs1 hs
      cases ha
      refine row (ad x) _ (Nat.lt_of_lt_of_le (rd_set_spec hs).1 hl.2.2.1) (fun ls' h' => ?_)
      exact kk ls' rfl (hl.put (v := .ref x) rfl hs h') rfl (by simpa [rd_one] using hst)
    · cases ha
  · cases ha
theorem rd_bin_ok {f : Int32 → Int32 → Int32} {i : Nat} {vs vs' : rd_Lv} {st st' : List Value} {σ σ' : rd_Sg} {i' pc : Nat} (hst : st.all rd_one = true)
    (ha : rd_bin f vs i st σ = some (.inr (.inl (i', vs', st', σ'))))
    (row : ∀ (x y : Int32) (rest : List Value), W p l e R s m args below meth c H locs cells slots Q (F0 m (pc + 1) ls (.int (f x y) :: rest)) → W p l e R s m args below meth c H locs cells slots Q (F0 m pc ls (.int y :: .int x :: rest)))
    (kk : i' = i + 1 → vs' = vs → σ' = σ → st'.all rd_one = true → W p l e R s m args below meth c H locs cells slots Q (F0 m (pc + 1) ls (st'.map (rd_cv ad)))) : W p l e R s m args below meth c H locs cells slots Q (F0 m pc ls (st.map (rd_cv ad))) := by
  unfold rd_bin at ha
  split at ha
  · rename_i y x st0
    cases ha
    exact row x y (st0.map (rd_cv ad)) (kk rfl rfl rfl (by simpa [rd_one] using hst))
  · cases ha
/-- a branch, out of its two goals -/
theorem rd_br {P : Prop} {A B : Prop} [Decidable P] {t i : Nat} {vs vs' : rd_Lv} {st st' : List Value} {σ σ' : rd_Sg} {i' : Nat} (ha : (if P then rd_go t vs st σ else rd_go i vs st σ) = some (.inr (.inl (i', vs', st', σ')))) (h1 : P → i' = t → vs' = vs → st' = st → σ' = σ → A) (h2 : ¬ P → i' = i → vs' = vs → st' = st → σ' = σ → B) : (P → A) ∧ (¬ P → B) := by
  constructor
  · intro h; rw [if_pos h] at ha; cases ha; exact h1 h rfl rfl rfl rfl
  · intro h; rw [if_neg h] at ha; cases ha; exact h2 h rfl rfl rfl rfl
set_option maxHeartbeats 4000000 in
theorem rd_jump {k i : Nat} {vs vs' : rd_Lv} {st st' : List Value} {σ σ' : rd_Sg} {i' pc : Nat} (hF : rd_Fr p R s m args c k) (hI : rd_In D cI cZ ad base ρ s)
    (ha : rd_act S (rd_ro ρ) k i vs st σ = some (.inr (.inl (i', vs', st', σ')))) (hpc : rd_pc k i = some pc) (hH : rd_Hp D cI cZ ad base S s H locs σ) (hl : rd_Ls ad ls c.maxLocals vs) (hst : st.all rd_one = true) (hcs : cells ≤ R.cells ∧ slots ≤ R.slots)
    (kk : ∀ (pc' : Nat) (H' : Heap) (locs' : List Loc) (ls' : Array Slot), rd_pc k i' = some pc' → rd_Hp D cI cZ ad base S s H' locs' σ' → rd_Ls ad ls' c.maxLocals vs' → st'.all rd_one = true → W p l e R s m args below meth c H' locs' cells slots Q (F0 m pc' ls' (st'.map (rd_cv ad)))) :
    W p l e R s m args below meth c H locs cells slots Q (F0 m pc ls (st.map (rd_cv ad))) := by
  obtain ⟨y, b, L, ret, fr, mc, ms, lo, hm, hx, hb, hml, hown, hw, hrm, hfr, hlo⟩ := hF
  obtain ⟨hoc, -, -, -, -⟩ := rd_mfact hm
  unfold rd_act at ha
  unfold rd_pc at hpc
  split at ha
  case h_2 => cases ha
  case h_1 pc0 ins len aux hlk =>
  rw [hlk] at hpc
  cases hpc
  have hdg := rd_dec hlk hm
  have hck := rd_ck_ok hlk
  cases ins with
  | iconst n =>
    simp only [rd_ck, Bool.and_eq_true, rd_ln] at hck
    cases rd_beq hck.1
    cases ha
    exact lv_iconst hx hb hdg rfl (kk _ _ _ _ (rd_nx_nat hck.2) hH hl (by simpa [rd_one] using hst))
  | bipush n =>
    simp only [rd_ck, Bool.and_eq_true, rd_ln] at hck
    cases rd_beq hck.1
    cases ha
    exact lv_bipush hx hb hdg rfl (kk _ _ _ _ (rd_nx_nat hck.2) hH hl (by simpa [rd_one] using hst))
  | sipush n =>
    simp only [rd_ck, Bool.and_eq_true, rd_ln] at hck
    cases rd_beq hck.1
    cases ha
    exact lv_sipush hx hb hdg rfl (kk _ _ _ _ (rd_nx_nat hck.2) hH hl (by simpa [rd_one] using hst))
  | iload_n j =>
    simp only [rd_ck, Bool.and_eq_true, rd_ln] at hck
    cases rd_beq hck.1
    exact rd_iload_ok hl hst ha (fun x hj kw => lv_iload_n hx hb hdg rfl hj kw) (fun e1 e2 e3 e4 => kk _ _ _ _ (by rw [e1]; exact rd_nx_nat hck.2) (by rw [e3]; exact hH) (by rw [e2]; exact hl) e4)
  | iload j =>
    simp only [rd_ck, Bool.and_eq_true, rd_ln] at hck
    cases rd_beq hck.1
    exact rd_iload_ok hl hst ha (fun x hj kw => lv_iload hx hb hdg hj kw) (fun e1 e2 e3 e4 => kk _ _ _ _ (by rw [e1]; exact rd_nx_nat hck.2) (by rw [e3]; exact hH) (by rw [e2]; exact hl) e4)
  | aload_n j =>
    simp only [rd_ck, Bool.and_eq_true, rd_ln] at hck
    cases rd_beq hck.1
    exact rd_aload_ok hl hst ha (fun x hj kw => lv_aload_n hx hb hdg rfl hj kw) (fun e1 e2 e3 e4 => kk _ _ _ _ (by rw [e1]; exact rd_nx_nat hck.2) (by rw [e3]; exact hH) (by rw [e2]; exact hl) e4)
  | aload j =>
    simp only [rd_ck, Bool.and_eq_true, rd_ln] at hck
    cases rd_beq hck.1
    exact rd_aload_ok hl hst ha (fun x hj kw => lv_aload hx hb hdg hj kw) (fun e1 e2 e3 e4 => kk _ _ _ _ (by rw [e1]; exact rd_nx_nat hck.2) (by rw [e3]; exact hH) (by rw [e2]; exact hl) e4)
  | istore_n j =>
    simp only [rd_ck, Bool.and_eq_true, rd_ln] at hck
    cases rd_beq hck.1
    exact rd_istore_ok hl hst ha (fun x rest hj kw => lv_istore_n hx hb hdg rfl hl.has hj rfl kw) (fun ls' e1 e2 e3 e4 => kk _ _ _ _ (by rw [e1]; exact rd_nx_nat hck.2) (by rw [e3]; exact hH) e2 e4)
  | istore j =>
    simp only [rd_ck, Bool.and_eq_true, rd_ln] at hck
    cases rd_beq hck.1
    exact rd_istore_ok hl hst ha (fun x rest hj kw => lv_istore hx hb hdg hl.has hj rfl kw) (fun ls' e1 e2 e3 e4 => kk _ _ _ _ (by rw [e1]; exact rd_nx_nat hck.2) (by rw [e3]; exact hH) e2 e4)
  | astore_n j =>
    simp only [rd_ck, Bool.and_eq_true, rd_ln] at hck
    cases rd_beq hck.1
    exact rd_astore_ok hl hst ha (fun x rest hj kw => lv_astore_n hx hb hdg rfl hl.has hj rfl kw) (fun ls' e1 e2 e3 e4 => kk _ _ _ _ (by rw [e1]; exact rd_nx_nat hck.2) (by rw [e3]; exact hH) e2 e4)
  | astore j =>
    simp only [rd_ck, Bool.and_eq_true, rd_ln] at hck
    cases rd_beq hck.1
    exact rd_astore_ok hl hst ha (fun x rest hj kw => lv_astore hx hb hdg hl.has hj rfl kw) (fun ls' e1 e2 e3 e4 => kk _ _ _ _ (by rw [e1]; exact rd_nx_nat hck.2) (by rw [e3]; exact hH) e2 e4)
  | iinc j n =>
    simp only [rd_ck, Bool.and_eq_true, rd_ln] at hck
    cases rd_beq hck.1
    simp only [rd_ins] at ha
    split at ha
    · rename_i x hv
      split at ha
      · rename_i vs1 hs
        cases ha
        obtain ⟨q, hq⟩ := List.getElem?_of_mem ((rd_ps_mem (ad := ad) vs 0).mpr ⟨j, .int x, rd_lv_some hv, rfl⟩)
        refine lv_iinc (x := x) (k := q) hx hb hdg hl.has (by rw [hq]; simp [rd_cv]) rfl (Nat.lt_of_lt_of_le (rd_set_spec hs).1 hl.2.2.1) rfl (fun ls' h' => ?_)
        exact kk _ _ _ _ (rd_nx_nat hck.2) hH (hl.put (v := .int (x + Int32.ofInt n)) rfl hs h') hst
      · cases ha
    · cases ha
  | iadd =>
    simp only [rd_ck, Bool.and_eq_true, rd_ln] at hck
    cases rd_beq hck.1
    exact rd_bin_ok hst ha (fun x y rest kw => lv_iadd hx hb hdg kw) (fun e1 e2 e3 e4 => kk _ _ _ _ (by rw [e1]; exact rd_nx_nat hck.2) (by rw [e3]; exact hH) (by rw [e2]; exact hl) e4)
  | isub =>
    simp only [rd_ck, Bool.and_eq_true, rd_ln] at hck
    cases rd_beq hck.1
    exact rd_bin_ok hst ha (fun x y rest kw => lv_isub hx hb hdg kw) (fun e1 e2 e3 e4 => kk _ _ _ _ (by rw [e1]; exact rd_nx_nat hck.2) (by rw [e3]; exact hH) (by rw [e2]; exact hl) e4)
  | imul =>
    simp only [rd_ck, Bool.and_eq_true, rd_ln] at hck
    cases rd_beq hck.1
    exact rd_bin_ok hst ha (fun x y rest kw => lv_imul hx hb hdg kw) (fun e1 e2 e3 e4 => kk _ _ _ _ (by rw [e1]; exact rd_nx_nat hck.2) (by rw [e3]; exact hH) (by rw [e2]; exact hl) e4)
  | iand =>
    simp only [rd_ck, Bool.and_eq_true, rd_ln] at hck
    cases rd_beq hck.1
    exact rd_bin_ok hst ha (fun x y rest kw => lv_iand hx hb hdg kw) (fun e1 e2 e3 e4 => kk _ _ _ _ (by rw [e1]; exact rd_nx_nat hck.2) (by rw [e3]; exact hH) (by rw [e2]; exact hl) e4)
  | ior =>
    simp only [rd_ck, Bool.and_eq_true, rd_ln] at hck
    cases rd_beq hck.1
    exact rd_bin_ok hst ha (fun x y rest kw => lv_ior hx hb hdg kw) (fun e1 e2 e3 e4 => kk _ _ _ _ (by rw [e1]; exact rd_nx_nat hck.2) (by rw [e3]; exact hH) (by rw [e2]; exact hl) e4)
  | ishl =>
    simp only [rd_ck, Bool.and_eq_true, rd_ln] at hck
    cases rd_beq hck.1
    exact rd_bin_ok hst ha (fun x y rest kw => lv_ishl hx hb hdg kw) (fun e1 e2 e3 e4 => kk _ _ _ _ (by rw [e1]; exact rd_nx_nat hck.2) (by rw [e3]; exact hH) (by rw [e2]; exact hl) e4)
  | ishr =>
    simp only [rd_ck, Bool.and_eq_true, rd_ln] at hck
    cases rd_beq hck.1
    exact rd_bin_ok hst ha (fun x y rest kw => lv_ishr hx hb hdg kw) (fun e1 e2 e3 e4 => kk _ _ _ _ (by rw [e1]; exact rd_nx_nat hck.2) (by rw [e3]; exact hH) (by rw [e2]; exact hl) e4)
  | dup =>
    simp only [rd_ck, Bool.and_eq_true, rd_ln] at hck
    cases rd_beq hck.1
    simp only [rd_ins] at ha
    split at ha
    · rename_i x st0
      cases ha
      exact lv_dup (va := .int x) hx hb hdg rfl (kk _ _ _ _ (rd_nx_nat hck.2) hH hl (by simpa [rd_one] using hst))
    · rename_i x st0
      cases ha
      exact lv_dup (va := .ref (ad x)) hx hb hdg rfl (kk _ _ _ _ (rd_nx_nat hck.2) hH hl (by simpa [rd_one] using hst))
    · cases ha
  | dup2 =>
    simp only [rd_ck, Bool.and_eq_true, rd_ln] at hck
    cases rd_beq hck.1
    simp only [rd_ins] at ha
    split at ha
    · rename_i x z st0
      cases ha
      exact lv_dup2_11 (va := .int x) (vb := .ref (ad z)) hx hb hdg rfl rfl (kk _ _ _ _ (rd_nx_nat hck.2) hH hl (by simpa [rd_one] using hst))
    · cases ha
  | goto off =>
    simp only [rd_ck, Bool.and_eq_true] at hck
    cases rd_beq hck.1
    simp only [rd_ins] at ha
    have hck2 := hck.2
    split at ha
    · rename_i t
      cases ha
      obtain ⟨q, hq1, hq2⟩ := rd_nx_of hck2
      exact lv_goto hx hb hdg hq2 (kk _ _ _ _ hq1 hH hl hst)
    · cases ha
  | ifCond cd off =>
    simp only [rd_ck, Bool.and_eq_true] at hck
    cases rd_beq hck.1.1
    simp only [rd_ins] at ha
    have hck2 := hck.2
    split at ha
    · rename_i t x st0
      obtain ⟨q, hq1, hq2⟩ := rd_nx_of hck2
      have hst0 : st0.all rd_one = true := by simpa [rd_one] using hst
      have K1 : ∀ (i1 : Nat), i1 = t → i' = i1 → vs' = vs → st' = st0 → σ' = σ → W p l e R s m args below meth c H locs cells slots Q (F0 m q ls (st0.map (rd_cv ad))) := fun i1 e0 e1 e2 e3 e4 => by
        have := kk q H locs ls (by rw [e1, e0]; exact hq1) (by rw [e4]; exact hH) (by rw [e2]; exact hl) (by rw [e3]; exact hst0)
        rwa [e3] at this
      have K2 : ∀ (i1 : Nat), i1 = i + 1 → i' = i1 → vs' = vs → st' = st0 → σ' = σ → W p l e R s m args below meth c H locs cells slots Q (F0 m (pc0 + 3) ls (st0.map (rd_cv ad))) := fun i1 e0 e1 e2 e3 e4 => by
        have := kk (pc0 + 3) H locs ls (by rw [e1, e0]; exact rd_nx_nat hck.1.2) (by rw [e4]; exact hH) (by rw [e2]; exact hl) (by rw [e3]; exact hst0)
        rwa [e3] at this
      cases cd with
      | eq =>
        obtain ⟨a1, a2⟩ := rd_br ha (fun _ => K1 _ rfl) (fun _ => K2 _ rfl)
        exact lv_if_eq hx hb hdg hq2 a1 a2
      | ne =>
        obtain ⟨a1, a2⟩ := rd_br ha (fun _ => K2 _ rfl) (fun _ => K1 _ rfl)
        exact lv_if_ne hx hb hdg hq2 a2 a1
      | lt =>
        obtain ⟨a1, a2⟩ := rd_br ha (fun _ => K1 _ rfl) (fun _ => K2 _ rfl)
        exact lv_if_lt hx hb hdg hq2 a1 a2
      | ge =>
        obtain ⟨a1, a2⟩ := rd_br ha (fun _ => K2 _ rfl) (fun _ => K1 _ rfl)
        exact lv_if_ge hx hb hdg hq2 (fun h => a2 (Int32.not_lt.mpr h)) (fun h => a1 (Int32.not_le.mp h))
      | gt =>
        obtain ⟨a1, a2⟩ := rd_br ha (fun _ => K1 _ rfl) (fun _ => K2 _ rfl)
        exact lv_if_gt hx hb hdg hq2 a1 a2
      | le =>
        obtain ⟨a1, a2⟩ := rd_br ha (fun _ => K2 _ rfl) (fun _ => K1 _ rfl)
        exact lv_if_le hx hb hdg hq2 (fun h => a2 (Int32.not_lt.mpr h)) (fun h => a1 (Int32.not_le.mp h))
    · cases ha
  | if_icmp cd off =>
    simp only [rd_ck, Bool.and_eq_true] at hck
    cases rd_beq hck.1.1
    simp only [rd_ins] at ha
    have hck2 := hck.2
    split at ha
    · rename_i t z x st0
      obtain ⟨q, hq1, hq2⟩ := rd_nx_of hck2
      have hst0 : st0.all rd_one = true := by simpa [rd_one] using hst
      have K1 : ∀ (i1 : Nat), i1 = t → i' = i1 → vs' = vs → st' = st0 → σ' = σ → W p l e R s m args below meth c H locs cells slots Q (F0 m q ls (st0.map (rd_cv ad))) := fun i1 e0 e1 e2 e3 e4 => by
        have := kk q H locs ls (by rw [e1, e0]; exact hq1) (by rw [e4]; exact hH) (by rw [e2]; exact hl) (by rw [e3]; exact hst0)
        rwa [e3] at this
      have K2 : ∀ (i1 : Nat), i1 = i + 1 → i' = i1 → vs' = vs → st' = st0 → σ' = σ → W p l e R s m args below meth c H locs cells slots Q (F0 m (pc0 + 3) ls (st0.map (rd_cv ad))) := fun i1 e0 e1 e2 e3 e4 => by
        have := kk (pc0 + 3) H locs ls (by rw [e1, e0]; exact rd_nx_nat hck.1.2) (by rw [e4]; exact hH) (by rw [e2]; exact hl) (by rw [e3]; exact hst0)
        rwa [e3] at this
      cases cd with
      | eq =>
        obtain ⟨a1, a2⟩ := rd_br ha (fun _ => K1 _ rfl) (fun _ => K2 _ rfl)
        exact lv_icmp_eq hx hb hdg hq2 a1 a2
      | ne =>
        obtain ⟨a1, a2⟩ := rd_br ha (fun _ => K2 _ rfl) (fun _ => K1 _ rfl)
        exact lv_icmp_ne hx hb hdg hq2 a2 a1
      | lt =>
        obtain ⟨a1, a2⟩ := rd_br ha (fun _ => K1 _ rfl) (fun _ => K2 _ rfl)
        exact lv_icmp_lt hx hb hdg hq2 a1 a2
      | ge =>
        obtain ⟨a1, a2⟩ := rd_br ha (fun _ => K2 _ rfl) (fun _ => K1 _ rfl)
        exact lv_icmp_ge hx hb hdg hq2 (fun h => a2 (Int32.not_lt.mpr h)) (fun h => a1 (Int32.not_le.mp h))
      | gt =>
        obtain ⟨a1, a2⟩ := rd_br ha (fun _ => K1 _ rfl) (fun _ => K2 _ rfl)
        exact lv_icmp_gt hx hb hdg hq2 a1 a2
      | le =>
        obtain ⟨a1, a2⟩ := rd_br ha (fun _ => K2 _ rfl) (fun _ => K1 _ rfl)
        exact lv_icmp_le hx hb hdg hq2 (fun h => a2 (Int32.not_lt.mpr h)) (fun h => a1 (Int32.not_le.mp h))
    · cases ha
  | tableswitch d lo hi offs =>
    simp only [rd_ins] at ha
    simp only [rd_ck] at hck
    split at ha
    · rename_i dt ts x st0
      have hst0 : st0.all rd_one = true := by simpa [rd_one] using hst
      show W p l e R s m args below meth c H locs cells slots Q (F0 m pc0 ls (.int x :: st0.map (rd_cv ad)))
      cases ha
      simp only [Bool.and_eq_true, decide_eq_true_eq] at hck
      obtain ⟨⟨⟨⟨h1, h2⟩, h3⟩, h4⟩, h5⟩ := hck
      have hsw := rd_sw_at (x := x) ts lo dt h3 (by omega)
      rw [hsw] at kk
      by_cases hc : x.toInt < lo ∨ lo + ts.length ≤ x.toInt
      · rw [if_pos hc] at kk
        obtain ⟨q, hq1, hq2⟩ := rd_nx_of h1
        exact lv_tableOut hx hb hdg (by omega) hq2 (kk _ _ _ _ hq1 hH hl hst0)
      · rw [if_neg hc] at kk
        have hlt : (x.toInt - lo).toNat < ts.length := by omega
        have hts : rd_nth ts (x.toInt - lo).toNat = some (ts[(x.toInt - lo).toNat]) := by rw [rd_nth_get]; exact List.getElem?_eq_getElem hlt
        rw [hts] at kk
        obtain ⟨o, ho1, ho2⟩ := rd_tz_at h5 hts
        obtain ⟨q, hq1, hq2⟩ := rd_nx_of ho2
        exact lv_tableIn hx hb hdg (by omega) (by omega) (by rw [← ho1]; simp) hq2 (kk _ _ _ _ hq1 hH hl hst0)
    · cases ha
  | iaload =>
    simp only [rd_ck, Bool.and_eq_true, rd_ln] at hck
    cases rd_beq hck.1
    exact rd_ald_ok (b := false) hx hb hI hH hst ha hdg (fun e1 e2 e3 e4 => kk _ _ _ _ (by rw [e1]; exact rd_nx_nat hck.2) (by rw [e3]; exact hH) (by rw [e2]; exact hl) e4)
  | baload =>
    simp only [rd_ck, Bool.and_eq_true, rd_ln] at hck
    cases rd_beq hck.1
    exact rd_ald_ok (b := true) hx hb hI hH hst ha hdg (fun e1 e2 e3 e4 => kk _ _ _ _ (by rw [e1]; exact rd_nx_nat hck.2) (by rw [e3]; exact hH) (by rw [e2]; exact hl) e4)
  | iastore =>
    simp only [rd_ck, Bool.and_eq_true, rd_ln] at hck
    cases rd_beq hck.1
    exact rd_ast_ok (b := false) hx hb hI hH hst ha hdg (fun H' locs' e1 e2 e3 e4 => kk _ _ _ _ (by rw [e1]; exact rd_nx_nat hck.2) e3 (by rw [e2]; exact hl) e4)
  | bastore =>
    simp only [rd_ck, Bool.and_eq_true, rd_ln] at hck
    cases rd_beq hck.1
    exact rd_ast_ok (b := true) hx hb hI hH hst ha hdg (fun H' locs' e1 e2 e3 e4 => kk _ _ _ _ (by rw [e1]; exact rd_nx_nat hck.2) e3 (by rw [e2]; exact hl) e4)
  | arraylength =>
    simp only [rd_ck, Bool.and_eq_true, rd_ln] at hck
    cases rd_beq hck.1
    exact rd_alen_ok hx hb hI hH hst ha hdg (fun e1 e2 e3 e4 => kk _ _ _ _ (by rw [e1]; exact rd_nx_nat hck.2) (by rw [e3]; exact hH) (by rw [e2]; exact hl) e4)
  | getfield idx =>
    simp only [rd_ins] at ha
    simp only [rd_ck] at hck
    split at ha
    · rename_i ci sl f
      simp only [Bool.and_eq_true] at hck
      cases rd_beq hck.1.1
      have h999 : sl ≠ 999 := by have := Nat.le_of_ble_eq_true hck.2.2; omega
      exact rd_getf_ok hx hb hw hown hoc hck.2.1 h999 hI hH hst ha hdg (fun e1 e2 e3 e4 => kk _ _ _ _ (by rw [e1]; exact rd_nx_nat hck.1.2) (by rw [e3]; exact hH) (by rw [e2]; exact hl) e4)
    · cases ha
  | putfield idx =>
    simp only [rd_ins] at ha
    simp only [rd_ck] at hck
    split at ha
    · rename_i ci sl f t
      simp only [Bool.and_eq_true] at hck
      cases rd_beq hck.1.1
      have h999 : sl ≠ 999 := by have := Nat.le_of_ble_eq_true hck.2.2; omega
      exact rd_putf_ok hx hb hw hown hoc hck.2.1.1 h999 (rd_beq hck.2.1.2) hI hH hst ha hdg (fun H' locs' e1 e2 e3 e4 => kk _ _ _ _ (by rw [e1]; exact rd_nx_nat hck.1.2) e3 (by rw [e2]; exact hl) e4)
    · cases ha
  | getstatic idx =>
    simp only [rd_ins] at ha
    cases ha
    simp only [rd_ck] at hck
    split at hck
    · rename_i f
      simp only [Bool.and_eq_true] at hck
      cases rd_beq hck.1.1
      exact va_gets hx hb hI.2.1 hH.2.2 hown (hw _ (rd_flstat hck.2 hoc)) (fun _ h => h) hdg (kk _ _ _ _ (rd_nx_nat hck.1.2) hH hl (by simpa [rd_one] using hst))
    · simp at hck
  | invokestatic idx =>
    simp only [rd_ins] at ha
    simp only [rd_ck] at hck
    split at ha
    · unfold rd_callS at ha
      split at ha
      · split at ha <;> cases ha
      · cases ha
    · rename_i z q
      simp only [Bool.and_eq_true] at hck
      cases rd_beq hck.1.1
      have hck2 := hck.2
      have hR : ∀ a b, rd_rmle k a b = true → a ≤ R.frames ∧ b ≤ R.locals := by
        intro a b h
        unfold rd_rmle at h
        rw [hrm] at h
        simp only [Bool.and_eq_true, Nat.ble_eq] at h
        omega
      split at ha
      · rename_i hz
        rw [if_pos hz, Bool.and_eq_true] at hck2
        exact rd_copy_ok hx hb hl.1.symm hw hown hoc hck2.1 (hR _ _ hck2.2) hI hH ha hdg (fun H' locs' e1 e2 e3 e4 => kk _ _ _ _ (by rw [e1]; exact rd_nx_nat hck.1.2) e3 (by rw [e2]; exact hl) e4)
      · rename_i hz
        rw [if_neg hz, Bool.and_eq_true] at hck2
        unfold rd_min at ha
        split at ha
        · rename_i b1 a1 st0
          split at ha
          · rename_i hfew
            cases ha
            unfold rd_few at hfew
            rw [Bool.and_eq_true] at hfew
            have hlk := (rd_mlfact hck2.1 hoc).2.1 rfl
            have hR2 := hR _ _ hck2.2
            refine va_mmin (x := a1) (y := b1) (rest := st0.map (rd_cv ad)) hx hb hl.1.symm hown (hw _ hlk) (hw _ rd_mathS) (hw _ rd_mathI) (hw _ rd_mathC) hR2.1 ?_ hcs.1 hcs.2 hdg (kk _ _ _ _ (rd_nx_nat hck.1.2) hH hl (by simpa [rd_one] using hfew.1))
            have h8 := Nat.le_of_ble_eq_true hfew.2
            have hs := rd_cat_sum (ad := ad) hfew.1
            rw [hs]
            omega
          · cases ha
        · cases ha
    · cases ha
  | invokevirtual idx =>
    simp only [rd_ins] at ha
    split at ha
    · unfold rd_callV at ha
      split at ha
      · split at ha
        · split at ha <;> cases ha
        · cases ha
      · cases ha
    · cases ha
  | ireturn =>
    simp only [rd_ins] at ha
    split at ha <;> cases ha
  | return_ =>
    simp only [rd_ins] at ha
    split at ha <;> cases ha
  | _ => simp only [rd_ins] at ha; cases ha
end RDK
