/-! The world of the small machine as the kit's world; locals; the words. -/
def rd_lim : Nat → Int32 := fun j => match rd_nth ([0, 7, -2147483648, 2147483647, -2147483648, 2147483647, 0, 7, 0, 7, -2147483648, 2147483647, 0, 3, -1, 23, -2147483648, 2147483647, 0, 3, 0, 7, -2147483648, 2147483647, 0, 60, -2147483648, 2147483647, -2147483648, 2147483647, 0, 7, 0, 7, 0, 60, 1, 59, 0, 60, -2147483648, 2147483647, 0, 11, -2147483648, 2147483647, -2147483648, 2147483647, 0, 3, 0, 3, 0, 7, 0, 7, -2147483648, 2147483647, -2147483648, 2147483647] : List Int32) j with
  | some x => x
  | none => 0
def rd_ro (ρ : Nat × (Nat → Int32)) : Nat → Option (Nat × (Nat → Int32)) := fun c => if c = 100000 then some (60, rd_lim) else if c = 100001 then some ρ else none
def rd_cv (ad : Nat → Nat) : Value → Value
  | .ref a => .ref (ad a)
  | v => v
def rd_fv (ad : Nat → Nat) (x : Int32) : Option Value → Value
  | none => .int x
  | some v => rd_cv ad v
def rd_fs (ad : Nat → Nat) (f : Nat → Int32) : Nat → List (Option Value) → List Value
  | _, [] => []
  | j, o :: ks => rd_fv ad (f j) o :: rd_fs ad f (j + 1) ks
def rd_el (cI cZ : ClassId) (ad : Nat → Nat) (f : Nat → Int32) : rd_Sh → va_E
  | .inl (n, b) => .inl (if b = true then cZ else cI, n, .inl f)
  | .inr (ci, ks) => .inr (ci, rd_fs ad f 0 ks)
def rd_wd (cI cZ : ClassId) (ad : Nat → Nat) (σ : rd_Sg) : Nat → List rd_Sh → va_W
  | _, [] => []
  | c, sh :: S => (ad c, rd_el cI cZ ad (σ c) sh) :: rd_wd cI cZ ad σ (c + 1) S
theorem rd_nth_get {α : Type} : ∀ (l : List α) (i : Nat), rd_nth l i = l[i]? := by
  intro l
  induction l with
  | nil => intro i; simp [rd_nth]
  | cons a l ih =>
    intro i
    cases i with
    | zero => simp [rd_nth]
    | succ i => simp [rd_nth, ih]
theorem rd_wd_at (cI cZ : ClassId) (ad : Nat → Nat) (σ : rd_Sg) : ∀ (S : List rd_Sh) (c0 q : Nat), (rd_wd cI cZ ad σ c0 S)[q]? = (rd_nth S q).map (fun sh => (ad (c0 + q), rd_el cI cZ ad (σ (c0 + q)) sh)) := by
  intro S
  induction S with
  | nil => intro c0 q; simp [rd_wd, rd_nth]
  | cons sh S ih =>
    intro c0 q
    cases q with
    | zero => simp [rd_wd, rd_nth]
    | succ q =>
      rw [rd_wd, List.getElem?_cons_succ, ih, rd_nth, show c0 + 1 + q = c0 + (q + 1) by omega]
theorem rd_wd_0 {cI cZ : ClassId} {ad : Nat → Nat} {σ : rd_Sg} {S : List rd_Sh} {q : Nat} {sh : rd_Sh} (h : rd_nth S q = some sh) : (rd_wd cI cZ ad σ 0 S)[q]? = some (ad q, rd_el cI cZ ad (σ q) sh) := by
  rw [rd_wd_at, h]; simp
theorem rd_fs_at (ad : Nat → Nat) (f : Nat → Int32) : ∀ (ks : List (Option Value)) (j0 k : Nat), (rd_fs ad f j0 ks)[k]? = (rd_nth ks k).map (fun o => rd_fv ad (f (j0 + k)) o) := by
  intro ks
  induction ks with
  | nil => intro j0 k; simp [rd_fs, rd_nth]
  | cons o ks ih =>
    intro j0 k
    cases k with
    | zero => simp [rd_fs, rd_nth]
    | succ k => rw [rd_fs, List.getElem?_cons_succ, ih, rd_nth, show j0 + 1 + k = j0 + (k + 1) by omega]
theorem rd_wd_set {cI cZ : ClassId} {ad : Nat → Nat} {σ σ' : rd_Sg} {S : List rd_Sh} {q : Nat} {sh : rd_Sh} (h : rd_nth S q = some sh) (ho : ∀ c, c ≠ q → σ' c = σ c) : (rd_wd cI cZ ad σ 0 S).set q (ad q, rd_el cI cZ ad (σ' q) sh) = rd_wd cI cZ ad σ' 0 S := by
  apply List.ext_getElem?
  intro i
  rw [List.getElem?_set, rd_wd_at, rd_wd_at]
  have hlt : q < (rd_wd cI cZ ad σ 0 S).length := by
    have := rd_wd_0 (cI := cI) (cZ := cZ) (ad := ad) (σ := σ) h
    exact (List.getElem?_eq_some_iff.mp this).1
  by_cases hi : q = i
  · subst hi
    rw [if_pos rfl, if_pos hlt, h]; simp
  · rw [if_neg hi]
    have : σ' (0 + i) = σ (0 + i) := ho _ (by omega)
    rw [this]
theorem rd_fs_set {ad : Nat → Nat} {f f' : Nat → Int32} {ks : List (Option Value)} {sl : Nat} {x : Int32} (h : rd_nth ks sl = some none) (h1 : f' sl = x) (h2 : ∀ j, j ≠ sl → f' j = f j) : (rd_fs ad f 0 ks).set sl (.int x) = rd_fs ad f' 0 ks := by
  apply List.ext_getElem?
  intro i
  rw [List.getElem?_set, rd_fs_at, rd_fs_at]
  have hlt : sl < (rd_fs ad f 0 ks).length := by
    have : (rd_fs ad f 0 ks)[sl]? = some (.int (f (0 + sl))) := by rw [rd_fs_at, h]; rfl
    exact (List.getElem?_eq_some_iff.mp this).1
  by_cases hi : sl = i
  · subst hi
    rw [if_pos rfl, if_pos hlt, h]
    simp [rd_fv, h1]
  · rw [if_neg hi]
    rw [h2 (0 + i) (by omega)]
theorem rd_u_c {σ : rd_Sg} {c j : Nat} {x : Int32} : rd_u σ c j x c = upd (σ c) j x := by
  funext q
  simp [rd_u, upd]
theorem rd_u_o {σ : rd_Sg} {c j : Nat} {x : Int32} : ∀ c', c' ≠ c → rd_u σ c j x c' = σ c' := by
  intro c' h
  funext q
  simp [rd_u, h]
theorem rd_uc_c {σ : rd_Sg} {c : Nat} {f : Nat → Int32} : rd_uc σ c f c = f := by
  funext q
  simp [rd_uc]
theorem rd_uc_o {σ : rd_Sg} {c : Nat} {f : Nat → Int32} : ∀ c', c' ≠ c → rd_uc σ c f c' = σ c' := by
  intro c' h
  funext q
  simp [rd_uc, h]
/-! what never changes -/
def rd_X (ad : Nat → Nat) (base : Nat) (ρ : Nat × (Nat → Int32)) (s : State) (H : Heap) : Prop :=
  va_Z "RehearsalDesk$Cues" "LIMITS" "[I" (.ref (ad 100000)) (fun q => base ≤ q) s H ∧ va_T .int (ad 100000) 60 (fun j => .int (rd_lim j)) (fun q => base ≤ q) s H ∧ va_X (ad 100001) ρ.1 ρ.2 s H ∧ ad 100000 < base ∧ ad 100001 < base ∧ base ≤ H.size
def rd_In (D : va_G) (cI cZ : ClassId) (ad : Nat → Nat) (base : Nat) (ρ : Nat × (Nat → Int32)) (s : State) : Prop :=
  va_K D vwCl [(cI, .int), (cZ, .boolean)] s ∧ rd_X ad base ρ s s.heap
def rd_Hp (D : va_G) (cI cZ : ClassId) (ad : Nat → Nat) (base : Nat) (S : List rd_Sh) (s : State) (H : Heap) (locs : List Loc) (σ : rd_Sg) : Prop :=
  va_P D vwCl (rd_wd cI cZ ad σ 0 S) H ∧ va_D (fun q => base ≤ q) (rd_wd cI cZ ad σ 0 S) ∧ va_S (fun q => base ≤ q) s.heap H locs
theorem rd_X.moved {ad : Nat → Nat} {base : Nat} {ρ : Nat × (Nat → Int32)} {s u : State} {H : Heap} (hvm : s.vm.Alike u.vm) (h : rd_X ad base ρ s H) : rd_X ad base ρ u H :=
  ⟨h.1.moved hvm, h.2.1.moved hvm, h.2.2.1.moved hvm, h.2.2.2⟩
theorem rd_X.kept {ad : Nat → Nat} {base : Nat} {ρ : Nat × (Nat → Int32)} {s : State} {H H1 : Heap} {locs : List Loc} (h : rd_X ad base ρ s H) (hS : va_S (fun q => base ≤ q) H H1 locs) : rd_X ad base ρ s H1 := by
  obtain ⟨h1, h2, h3, h4, h5, h6⟩ := h
  refine ⟨h1.kept (fun a ha hn => hS.2.1 a ha hn), h2.kept (fun a ha hn => hS.2.1 a ha hn), h3.kept (hS.2.1 _ (by omega) (by omega)), h4, h5, Nat.le_trans h6 hS.1⟩
/-! locals -/
def rd_Ls (ad : Nat → Nat) (ls : Array Slot) (nL : Nat) (vs : rd_Lv) : Prop :=
  ls.size = nL ∧ lv_wf ls ∧ vs.length ≤ nL ∧ ∀ (j : Nat) (v : Value), rd_nth vs j = some (some v) → rd_one v = true ∧ ls[j]? = some (.val (rd_cv ad v))
def rd_ps (ad : Nat → Nat) : Nat → rd_Lv → List (Nat × Value)
  | _, [] => []
  | j, none :: l => rd_ps ad (j + 1) l
  | j, some v :: l => (j, rd_cv ad v) :: rd_ps ad (j + 1) l
theorem rd_ps_mem {ad : Nat → Nat} {q : Nat × Value} : ∀ (vs : rd_Lv) (j0 : Nat), q ∈ rd_ps ad j0 vs ↔ ∃ (j : Nat) (v : Value), rd_nth vs j = some (some v) ∧ q = (j0 + j, rd_cv ad v) := by
  intro vs
  induction vs with
  | nil => intro j0; simp [rd_ps, rd_nth]
  | cons o l ih =>
    intro j0
    cases o with
    | none =>
      rw [rd_ps, ih]
      constructor
      · rintro ⟨j, v, h1, h2⟩; exact ⟨j + 1, v, by rw [rd_nth]; exact h1, by rw [h2]; congr 1; omega⟩
      · rintro ⟨j, v, h1, h2⟩
        cases j with
        | zero => rw [rd_nth] at h1; cases h1
        | succ j => exact ⟨j, v, by rw [rd_nth] at h1; exact h1, by rw [h2]; congr 1; omega⟩
    | some w =>
      rw [rd_ps, List.mem_cons, ih]
      constructor
      · rintro (h | ⟨j, v, h1, h2⟩)
        · exact ⟨0, w, rfl, h⟩
        · exact ⟨j + 1, v, by rw [rd_nth]; exact h1, by rw [h2]; congr 1; omega⟩
      · rintro ⟨j, v, h1, h2⟩
        cases j with
        | zero => rw [rd_nth] at h1; cases h1; exact Or.inl h2
        | succ j => exact Or.inr ⟨j, v, by rw [rd_nth] at h1; exact h1, by rw [h2]; congr 1; omega⟩
theorem rd_one_cat {v : Value} (h : rd_one v = true) : v.category = 1 := by
  cases v <;> first | rfl | cases h
theorem rd_cv_one {ad : Nat → Nat} {v : Value} (h : rd_one v = true) : rd_one (rd_cv ad v) = true := by
  cases v <;> first | rfl | cases h
theorem rd_Ls.has {ad : Nat → Nat} {ls : Array Slot} {nL : Nat} {vs : rd_Lv} (h : rd_Ls ad ls nL vs) : lv_has ls nL (rd_ps ad 0 vs) := by
  refine ⟨h.1, h.2.1, fun q hq => ?_⟩
  obtain ⟨j, v, h1, rfl⟩ := (rd_ps_mem vs 0).mp hq
  simpa using (h.2.2.2 j v h1).2
theorem rd_lv_some {vs : rd_Lv} {j : Nat} {v : Value} (h : rd_lv vs j = some v) : rd_nth vs j = some (some v) := by
  unfold rd_lv at h
  split at h
  · rename_i w hw
    cases h; exact hw
  · cases h
theorem rd_Ls.at {ad : Nat → Nat} {ls : Array Slot} {nL : Nat} {vs : rd_Lv} {j : Nat} {v : Value} (h : rd_Ls ad ls nL vs) (hv : rd_lv vs j = some v) : ls[j]? = some (.val (rd_cv ad v)) := (h.2.2.2 j v (rd_lv_some hv)).2
theorem rd_set_spec : ∀ {vs vs' : rd_Lv} {j : Nat} {v : Value}, rd_set vs j v = some vs' → j < vs.length ∧ vs'.length = vs.length ∧ ∀ i, rd_nth vs' i = if i = j then some (some v) else rd_nth vs i := by
  intro vs
  induction vs with
  | nil => intro vs' j v h; cases h
  | cons a l ih =>
    intro vs' j v h
    cases j with
    | zero =>
      rw [rd_set] at h
      cases h
      refine ⟨by simp, by simp, fun i => ?_⟩
      cases i with
      | zero => simp [rd_nth]
      | succ i => simp [rd_nth]
    | succ j =>
      rw [rd_set] at h
      cases hs : rd_set l j v with
      | none => rw [hs] at h; cases h
      | some l' =>
        rw [hs] at h
        cases h
        obtain ⟨h1, h2, h3⟩ := ih hs
        refine ⟨by simp; omega, by simp [h2], fun i => ?_⟩
        cases i with
        | zero => simp [rd_nth]
        | succ i => simp [rd_nth, h3]
theorem rd_Ls.put {ad : Nat → Nat} {ls : Array Slot} {nL : Nat} {vs vs' : rd_Lv} {j : Nat} {v : Value} (h : rd_Ls ad ls nL vs) (hv : rd_one v = true) (hs : rd_set vs j v = some vs') {ls' : Array Slot} (h' : lv_has ls' nL ((j, rd_cv ad v) :: (rd_ps ad 0 vs).filter (fun q => !(q.1 == j) && !(q.1 + 1 == j && q.2.category == 2)))) : rd_Ls ad ls' nL vs' := by
  obtain ⟨h1, h2, h3⟩ := rd_set_spec hs
  refine ⟨h'.1, h'.2.1, by rw [h2]; exact h.2.2.1, fun i w hi => ?_⟩
  rw [h3] at hi
  by_cases hij : i = j
  · subst hij
    rw [if_pos rfl] at hi
    cases hi
    exact ⟨hv, h'.2.2 _ List.mem_cons_self⟩
  · rw [if_neg hij] at hi
    have hw := (h.2.2.2 i w hi).1
    refine ⟨hw, h'.2.2 (i, rd_cv ad w) (List.mem_cons_of_mem _ (List.mem_filter.mpr ⟨(rd_ps_mem vs 0).mpr ⟨i, w, hi, by simp⟩, ?_⟩))⟩
    have hc : (rd_cv ad w).category = 1 := rd_one_cat (rd_cv_one hw)
    simp [hij, hc]
/-! words -/
theorem rd_all_at {α : Type} {l : List α} {f : α → Bool} (h : l.all f = true) {i : Nat} {a : α} (hi : rd_nth l i = some a) : f a = true := List.all_eq_true.mp h a (rd_nth_mem hi)
theorem rd_beq {a b : Nat} (h : Nat.beq a b = true) : a = b := Nat.eq_of_beq_eq_true h
theorem rd_nx_of {k t : Nat} {p : Int} (h : rd_nx k t p = true) : ∃ q : Nat, rd_pc k t = some q ∧ p = (q : Int) := by
  unfold rd_nx at h
  cases hq : rd_pc k t with
  | none => rw [hq] at h; cases h
  | some q => rw [hq] at h; exact ⟨q, rfl, of_decide_eq_true h⟩
theorem rd_nx_nat {k t p : Nat} (h : rd_nx k t (p : Int) = true) : rd_pc k t = some p := by
  obtain ⟨q, h1, h2⟩ := rd_nx_of h
  rw [h1]; congr 1; omega
theorem rd_nth_lt {α : Type} : ∀ {l : List α} {i : Nat} {a : α}, rd_nth l i = some a → i < l.length := by
  intro l i a h
  rw [rd_nth_get] at h
  exact (List.getElem?_eq_some_iff.mp h).1
/-- what the tables say of a class -/
theorem rd_cls_0 : ∀ w ∈ u_ws RX0 TX0 11, w ∈ rd_tb := by decide +kernel
theorem rd_cls_1 : ∀ w ∈ u_ws RX1 TX1 5, w ∈ rd_tb := by decide +kernel
theorem rd_cls_2 : ∀ w ∈ u_ws RX2 TX2 10, w ∈ rd_tb := by decide +kernel
theorem rd_cls_3 : ∀ w ∈ u_ws RX3 TX3 8, w ∈ rd_tb := by decide +kernel
theorem rd_cls_4 : ∀ w ∈ u_ws RX4 TX4 5, w ∈ rd_tb := by decide +kernel
theorem rd_cls_5 : ∀ w ∈ u_ws RX5 TX5 10, w ∈ rd_tb := by decide +kernel
theorem rd_cls_6 : ∀ w ∈ u_ws RX6 TX6 9, w ∈ rd_tb := by decide +kernel
theorem rd_cls_7 : ∀ w ∈ u_ws RX7 TX7 8, w ∈ rd_tb := by decide +kernel
theorem rd_cls_8 : ∀ w ∈ u_ws RX8 TX8 6, w ∈ rd_tb := by decide +kernel
theorem rd_cls_9 : ∀ w ∈ u_ws RX9 TX9 4, w ∈ rd_tb := by decide +kernel
theorem rd_cls_10 : ∀ w ∈ u_ws RX10 TX10 2, w ∈ rd_tb := by decide +kernel
theorem rd_cls_11 : ∀ w ∈ u_ws RX11 TX11 9, w ∈ rd_tb := by decide +kernel
theorem rd_cls_12 : ∀ w ∈ u_ws RX12 TX12 59, w ∈ rd_tb := by decide +kernel
theorem rd_cfact {ci : Nat} {C : String} {T : u_T} {n : Nat} (h : rd_nth vwCl ci = some (C, T, n)) : (∀ w ∈ u_ws C T n, w ∈ rd_tb) ∧ ∃ ty : Nat → FieldType, (∀ k, k < n → parseFieldDescriptor (T k).2.2.1 = some (ty k)) ∧ ∀ a, a < n → ∀ b, b < n → a ≠ b → (T a).2.1 ≠ (T b).2.1 := by
  match ci, h with
  | 0, h => cases h; exact ⟨rd_cls_0, tyX0, tyX0_ok, nmX0⟩
  | 1, h => cases h; exact ⟨rd_cls_1, tyX1, tyX1_ok, nmX1⟩
  | 2, h => cases h; exact ⟨rd_cls_2, tyX2, tyX2_ok, nmX2⟩
  | 3, h => cases h; exact ⟨rd_cls_3, tyX3, tyX3_ok, nmX3⟩
  | 4, h => cases h; exact ⟨rd_cls_4, tyX4, tyX4_ok, nmX4⟩
  | 5, h => cases h; exact ⟨rd_cls_5, tyX5, tyX5_ok, nmX5⟩
  | 6, h => cases h; exact ⟨rd_cls_6, tyX6, tyX6_ok, nmX6⟩
  | 7, h => cases h; exact ⟨rd_cls_7, tyX7, tyX7_ok, nmX7⟩
  | 8, h => cases h; exact ⟨rd_cls_8, tyX8, tyX8_ok, nmX8⟩
  | 9, h => cases h; exact ⟨rd_cls_9, tyX9, tyX9_ok, nmX9⟩
  | 10, h => cases h; exact ⟨rd_cls_10, tyX10, tyX10_ok, nmX10⟩
  | 11, h => cases h; exact ⟨rd_cls_11, tyX11, tyX11_ok, nmX11⟩
  | 12, h => cases h; exact ⟨rd_cls_12, tyX12, tyX12_ok, nmX12⟩
  | ci + 13, h => cases h
/-- a field link's word -/
theorem rd_flfact {f oc idx ci sl : Nat} {own : String} (h : rd_flis f oc idx ci sl = true) (ho : rd_nth rd_cn oc = some own) (hs : sl ≠ 999) : ∃ (C : String) (T : u_T) (n : Nat), rd_nth vwCl ci = some (C, T, n) ∧ sl < n ∧ Cond.fieldLink own idx (T sl).1 (T sl).2.1 (T sl).2.2.1 ∈ rd_tb := by
  unfold rd_flis at h
  cases hf : rd_nth rd_fl f with
  | none => rw [hf] at h; cases h
  | some q =>
    obtain ⟨a, b, c, d, p⟩ := q
    rw [hf] at h
    simp only [Bool.and_eq_true] at h
    obtain ⟨⟨⟨h1, h2⟩, h3⟩, h4⟩ := h
    cases rd_beq h1; cases rd_beq h2; cases rd_beq h3; cases rd_beq h4
    have hc := rd_all_at rd_fl_ok hf
    unfold rd_flc at hc
    dsimp only at hc
    rw [ho] at hc
    cases hv : rd_nth vwCl ci with
    | none => rw [hv] at hc; cases hc
    | some z =>
      obtain ⟨C, T, n⟩ := z
      rw [hv] at hc
      dsimp only at hc
      rw [if_neg hs] at hc
      simp only [Bool.and_eq_true, decide_eq_true_eq] at hc
      exact ⟨C, T, n, rfl, Nat.le_of_ble_eq_true hc.1, rd_tb_mem hc.2 rfl⟩
theorem rd_flstat {f oc idx ci : Nat} {own : String} (h : rd_flis f oc idx ci 999 = true) (ho : rd_nth rd_cn oc = some own) : Cond.fieldLink own idx "RehearsalDesk$Cues" "LIMITS" "[I" ∈ rd_tb := by
  unfold rd_flis at h
  cases hf : rd_nth rd_fl f with
  | none => rw [hf] at h; cases h
  | some q =>
    obtain ⟨a, b, c, d, p⟩ := q
    rw [hf] at h
    simp only [Bool.and_eq_true] at h
    obtain ⟨⟨⟨h1, h2⟩, h3⟩, h4⟩ := h
    cases rd_beq h1; cases rd_beq h2; cases rd_beq h3; cases rd_beq h4
    have hc := rd_all_at rd_fl_ok hf
    unfold rd_flc at hc
    dsimp only at hc
    rw [ho] at hc
    cases hv : rd_nth vwCl ci with
    | none => rw [hv] at hc; cases hc
    | some z =>
      rw [hv] at hc
      dsimp only at hc
      rw [if_pos rfl] at hc
      simp only [Bool.and_eq_true, decide_eq_true_eq] at hc
      exact rd_tb_mem hc.2 rfl
theorem rd_mlfact {q oc idx k2 : Nat} {own : String} (h : rd_mlis q oc idx k2 = true) (ho : rd_nth rd_cn oc = some own) : (k2 = 1000 → Cond.methodLink own idx arraycopyName ∈ rd_tb) ∧ (k2 = 1001 → Cond.methodLink own idx Lib.Math.min.name ∈ rd_tb) ∧ (k2 = 2000 → Cond.methodLink own idx objectInit ∈ rd_tb) ∧ (k2 ≠ 1000 → k2 ≠ 1001 → k2 ≠ 2000 → ∃ (y : MethodName) (b : ByteArray) (L : Nat) (ret : Option FieldType), rd_nth rd_mt k2 = some (y, b, L, ret) ∧ Cond.methodLink own idx y ∈ rd_tb) := by
  unfold rd_mlis at h
  cases hf : rd_nth rd_ml q with
  | none => rw [hf] at h; cases h
  | some z =>
    obtain ⟨a, b, c, p⟩ := z
    rw [hf] at h
    simp only [Bool.and_eq_true] at h
    obtain ⟨⟨h1, h2⟩, h3⟩ := h
    cases rd_beq h1; cases rd_beq h2; cases rd_beq h3
    have hc := rd_all_at rd_ml_ok hf
    unfold rd_mlc at hc
    dsimp only at hc
    rw [ho] at hc
    dsimp only at hc
    refine ⟨fun e => ?_, fun e => ?_, fun e => ?_, fun e1 e3 e2 => ?_⟩
    · rw [if_pos e] at hc; exact rd_tb_mem (of_decide_eq_true hc) rfl
    · rw [if_neg (by omega), if_pos e] at hc; exact rd_tb_mem (of_decide_eq_true hc) rfl
    · rw [if_neg (by omega), if_neg (by omega), if_pos e] at hc; exact rd_tb_mem (of_decide_eq_true hc) rfl
    · rw [if_neg e1, if_neg e3, if_neg e2] at hc
      cases hm : rd_nth rd_mt k2 with
      | none => rw [hm] at hc; cases hc
      | some w =>
        obtain ⟨y, b, L, ret⟩ := w
        rw [hm] at hc
        exact ⟨y, b, L, ret, rfl, rd_tb_mem (of_decide_eq_true hc) rfl⟩
/-- a method's words for a contract -/
def rd_ws (y : MethodName) (b : ByteArray) (L : Nat) (ret : Option FieldType) : List Cond := Cond.code y b L ret :: rd_tb
theorem rd_goodIn {y : MethodName} {b : ByteArray} {L : Nat} {ret : Option FieldType} (h : Cond.code y b L ret ∈ rd_tb) : GoodIn rd_tb (rd_ws y b L ret) := by
  intro w hw
  have hm : w ∈ rd_tb := by
    rcases List.mem_cons.mp hw with e | e
    · rw [e]; exact h
    · exact e
  exact ⟨hm, good_of_word (List.mem_filter.mp hm).2⟩
