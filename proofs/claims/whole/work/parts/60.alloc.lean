/-! The constructors: a small machine that makes cells. -/
abbrev rd_Wr : Type := List (Nat × Nat × Nat × Int32)
/-- numbers by what was written, the last first -/
def rd_num : rd_Wr → rd_Sg
  | [], _, _ => 0
  | (c, a, n, x) :: w, c', j' => if c' = c ∧ a ≤ j' ∧ j' < a + n then x else rd_num w c' j'
abbrev rd_Cf : Type := Nat × rd_Lv × List Value × List rd_Sh × rd_Wr × Nat × Nat
def rd_vok (n : Nat) : Value → Bool
  | .ref a => Nat.blt a n || Nat.ble 100000 a
  | _ => true
def rd_ook (n : Nat) : Option Value → Bool
  | none => true
  | some v => rd_vok n v
def rd_sok (n : Nat) : rd_Sh → Bool
  | .inl _ => true
  | .inr (_, ks) => ks.all (rd_ook n)
/-- every reference is to a cell that stands -/
def rd_aok (S : List rd_Sh) (w : rd_Wr) (vs : rd_Lv) (st : List Value) : Bool := S.all (rd_sok S.length) && w.all (fun e => Nat.blt e.1 S.length) && vs.all (rd_ook S.length) && st.all (rd_vok S.length)
def rd_kd (d : String) : Option Value := if d = "I" ∨ d = "Z" then none else some .null
def rd_ks (ci : Nat) : Option (List (Option Value)) := match rd_nth vwCl ci with
  | some (_, T, n) => some ((List.range n).map fun j => rd_kd (T j).2.2.1)
  | none => none
def rd_mc (k : Nat) : Nat × Nat := match rd_nth rd_rm k with
  | some (_, a, b, _) => (a, b)
  | none => (0, 0)
def rd_pur (S : List rd_Sh) (ins : Instr) (aux : List Nat) : rd_Cf → Option rd_Cf
  | (i, vs, st, _, w, cu, su) => match rd_ins S (fun _ => none) false ins aux i vs st (rd_num w) with
    | some (.inr (.inl (i', vs', st', _))) => some (i', vs', st', S, w, cu, su)
    | _ => none
def rd_mkN (k ci n : Nat) : rd_Cf → Option rd_Cf
  | (i, vs, st, S, w, cu, su) => match rd_ks ci with
    | some ks => if rd_aok S w vs st = true ∧ ks.length = n ∧ S.length < 100000 ∧ cu + 1 ≤ (rd_mc k).1 ∧ su + n ≤ (rd_mc k).2 then some (i + 1, vs, .ref S.length :: st, S ++ [.inr (ci, ks)], w, cu + 1, su + n) else none
    | none => none
def rd_mkA (k : Nat) (b : Bool) : rd_Cf → Option rd_Cf
  | (i, vs, .int n :: st, S, w, cu, su) => if rd_aok S w vs st = true ∧ S.length < 100000 ∧ ¬ n < 0 ∧ n.toNatClampNeg ≤ 100000 ∧ cu + 1 ≤ (rd_mc k).1 ∧ su + n.toNatClampNeg ≤ (rd_mc k).2 then some (i + 1, vs, .ref S.length :: st, S ++ [.inl (n.toNatClampNeg, b)], w, cu + 1, su + n.toNatClampNeg) else none
  | _ => none
def rd_mkP (k ci sl t : Nat) : rd_Cf → Option rd_Cf
  | (i, vs, .int x :: .ref c :: st, S, w, cu, su) => match rd_nth S c with
    | some (.inr (cj, ks)) => if cj = ci ∧ rd_nth ks sl = some none ∧ ((t = 0 ∨ (t = 1 ∧ (x = 0 ∨ x = 1))) ∨ (t = 3 ∧ rd_mi k = 2 ∧ rd_at rd_oc k = ci)) then some (i + 1, vs, st, S, (c, sl, 1, x) :: w, cu, su) else none
    | _ => none
  | (i, vs, .ref v :: .ref c :: st, S, w, cu, su) => match rd_nth S c with
    | some (.inr (cj, ks)) => if cj = ci ∧ sl < ks.length ∧ t = 2 ∧ rd_mi k = 2 ∧ rd_at rd_oc k = ci then some (i + 1, vs, st, S.set c (.inr (ci, ks.set sl (some (.ref v)))), w, cu, su) else none
    | _ => none
  | _ => none
def rd_mkO : rd_Cf → Option rd_Cf
  | (i, vs, .ref _ :: st, S, w, cu, su) => if rd_few st = true then some (i + 1, vs, st, S, w, cu, su) else none
  | _ => none
def rd_mkF : rd_Cf → Option rd_Cf
  | (i, vs, [.int x, .ref c], S, w, cu, su) => if rd_nth S c = some (.inl (4, false)) then some (i + 1, vs, [], S, (c, 0, 4, x) :: w, cu, su) else none
  | _ => none
def rd_mk (k : Nat) (ins : Instr) (aux : List Nat) (q : rd_Cf) : Option rd_Cf := match ins with
  | .new _ => match aux with
    | [ci, n, _] => rd_mkN k ci n q
    | _ => none
  | .newarray ty => match ty with
    | .int => rd_mkA k false q
    | .boolean => rd_mkA k true q
    | _ => none
  | .putfield _ => match aux with
    | [ci, sl, _, t] => rd_mkP k ci sl t q
    | _ => none
  | .invokespecial _ => match aux with
    | [z, _] => if z = 2000 then rd_mkO q else none
    | _ => none
  | .invokestatic _ => match aux with
    | [k2, n, _] => if k2 = 193 ∧ n = 2 then rd_mkF q else none
    | _ => none
  | .iconst n => rd_pur q.2.2.2.1 (.iconst n) aux q
  | .bipush n => rd_pur q.2.2.2.1 (.bipush n) aux q
  | .sipush n => rd_pur q.2.2.2.1 (.sipush n) aux q
  | .iload_n j => rd_pur q.2.2.2.1 (.iload_n j) aux q
  | .iload j => rd_pur q.2.2.2.1 (.iload j) aux q
  | .aload_n j => rd_pur q.2.2.2.1 (.aload_n j) aux q
  | .aload j => rd_pur q.2.2.2.1 (.aload j) aux q
  | .istore_n j => rd_pur q.2.2.2.1 (.istore_n j) aux q
  | .istore j => rd_pur q.2.2.2.1 (.istore j) aux q
  | .astore_n j => rd_pur q.2.2.2.1 (.astore_n j) aux q
  | .astore j => rd_pur q.2.2.2.1 (.astore j) aux q
  | .dup => rd_pur q.2.2.2.1 .dup aux q
  | .imul => rd_pur q.2.2.2.1 .imul aux q
  | .getfield f => rd_pur q.2.2.2.1 (.getfield f) aux q
  | _ => none
def rd_isRet : Instr → Bool
  | .return_ => true
  | _ => false
def rd_isSp : Instr → List Nat → Option (Nat × Nat)
  | .invokespecial _, [k2, na, _] => some (k2, na)
  | _, _ => none
def rd_av : Nat → Nat → rd_Cf → Option rd_Cf
  | 0, _, _ => none
  | n + 1, k, q => if k = 194 ∧ q.1 = 10 then some q else match rd_look k q.1 with
    | none => none
    | some (_, ins, _, aux) => if rd_isRet ins = true then some q else match rd_isSp ins aux with
      | some (k2, na) => match rd_pop na [] q.2.2.1 with
        | some (as, .ref c :: rest) => if rd_few rest = true ∧ rd_mi k2 = 2 ∧ q.2.1.all (rd_ook q.2.2.2.1.length) = true ∧ rest.all (rd_vok q.2.2.2.1.length) = true ∧ q.2.2.2.2.2.1 + (rd_mc k2).1 ≤ (rd_mc k).1 ∧ q.2.2.2.2.2.2 + (rd_mc k2).2 ≤ (rd_mc k).2 then
            (match rd_av n k2 (0, rd_ent k2 (.ref c :: as), [], q.2.2.2.1, q.2.2.2.2.1, 0, 0) with
              | some (_, _, st2, S2, w2, cu2, su2) => if st2 = [] ∧ cu2 ≤ (rd_mc k2).1 ∧ su2 ≤ (rd_mc k2).2 ∧ q.2.2.2.1.length ≤ S2.length then rd_av n k (q.1 + 1, q.2.1, rest, S2, w2, q.2.2.2.2.2.1 + (rd_mc k2).1, q.2.2.2.2.2.2 + (rd_mc k2).2) else none
              | none => none) else none
        | _ => none
      | none => match rd_mk k ins aux q with
        | some q1 => rd_av n k q1
        | none => none
/-! addresses of new cells -/
def rd_agr (n : Nat) (ad ad' : Nat → Nat) : Prop := ∀ q, q < n ∨ 100000 ≤ q → ad' q = ad q
theorem rd_agr.rf {n : Nat} {ad : Nat → Nat} : rd_agr n ad ad := fun _ _ => rfl
theorem rd_agr.tr {n n1 : Nat} {ad ad1 ad2 : Nat → Nat} (h : rd_agr n ad ad1) (hn : n ≤ n1) (h1 : rd_agr n1 ad1 ad2) : rd_agr n ad ad2 := fun q hq => (h1 q (by omega)).trans (h q hq)
theorem rd_vok_of {n : Nat} {a : Nat} (h : rd_vok n (.ref a) = true) : a < n ∨ 100000 ≤ a := by
  simp only [rd_vok, Bool.or_eq_true] at h
  rcases h with h | h
  · exact Or.inl (Nat.le_of_ble_eq_true h)
  · exact Or.inr (Nat.le_of_ble_eq_true h)
theorem rd_cv_agr {n : Nat} {ad ad' : Nat → Nat} {v : Value} (h : rd_agr n ad ad') (hv : rd_vok n v = true) : rd_cv ad' v = rd_cv ad v := by
  cases v with
  | ref a => simp only [rd_cv]; rw [h a (rd_vok_of hv)]
  | _ => rfl
theorem rd_map_agr {n : Nat} {ad ad' : Nat → Nat} {st : List Value} (h : rd_agr n ad ad') (hv : st.all (rd_vok n) = true) : st.map (rd_cv ad') = st.map (rd_cv ad) :=
  List.map_congr_left (fun v hm => rd_cv_agr h (List.all_eq_true.mp hv v hm))
theorem rd_Ls.agr {n : Nat} {ad ad' : Nat → Nat} {ls : Array Slot} {nL : Nat} {vs : rd_Lv} (h : rd_agr n ad ad') (hv : vs.all (rd_ook n) = true) (hl : rd_Ls ad ls nL vs) : rd_Ls ad' ls nL vs :=
  ⟨hl.1, hl.2.1, hl.2.2.1, fun j v hj => ⟨(hl.2.2.2 j v hj).1, by rw [rd_cv_agr h (List.all_eq_true.mp hv (some v) (rd_nth_mem hj))]; exact (hl.2.2.2 j v hj).2⟩⟩
theorem rd_In.agr {D : va_G} {cI cZ : ClassId} {ad ad' : Nat → Nat} {base n : Nat} {ρ : Nat × (Nat → Int32)} {s : State} (h : rd_agr n ad ad') (hI : rd_In D cI cZ ad base ρ s) : rd_In D cI cZ ad' base ρ s := by
  have e1 := h 100000 (by omega)
  have e2 := h 100001 (by omega)
  unfold rd_In rd_X at hI ⊢
  rw [e1, e2]
  exact hI
theorem rd_fs_agr {n : Nat} {ad ad' : Nat → Nat} {f : Nat → Int32} (h : rd_agr n ad ad') : ∀ (ks : List (Option Value)) (j : Nat), ks.all (rd_ook n) = true → rd_fs ad' f j ks = rd_fs ad f j ks := by
  intro ks
  induction ks with
  | nil => intro j _; rfl
  | cons o ks ih =>
    intro j hk
    rw [List.all_cons, Bool.and_eq_true] at hk
    rw [rd_fs, rd_fs, ih _ hk.2]
    cases o with
    | none => rfl
    | some v => simp only [rd_fv]; rw [rd_cv_agr h hk.1]
theorem rd_el_agr {cI cZ : ClassId} {n : Nat} {ad ad' : Nat → Nat} {f : Nat → Int32} (h : rd_agr n ad ad') {sh : rd_Sh} (hs : rd_sok n sh = true) : rd_el cI cZ ad' f sh = rd_el cI cZ ad f sh := by
  rcases sh with ⟨m, b⟩ | ⟨ci, ks⟩
  · rfl
  · simp only [rd_el]
    rw [rd_fs_agr h ks 0 hs]
theorem rd_wd_agr {cI cZ : ClassId} {n : Nat} {ad ad' : Nat → Nat} {σ : rd_Sg} (h : rd_agr n ad ad') : ∀ (S : List rd_Sh) (c0 : Nat), c0 + S.length ≤ n → S.all (rd_sok n) = true → rd_wd cI cZ ad' σ c0 S = rd_wd cI cZ ad σ c0 S := by
  intro S
  induction S with
  | nil => intro c0 _ _; rfl
  | cons sh S ih =>
    intro c0 hc hs
    rw [List.all_cons, Bool.and_eq_true] at hs
    rw [List.length_cons] at hc
    rw [rd_wd, rd_wd, ih (c0 + 1) (by omega) hs.2, h c0 (by omega), rd_el_agr h hs.1]
theorem rd_wd_app {cI cZ : ClassId} {ad : Nat → Nat} {σ : rd_Sg} {sh : rd_Sh} : ∀ (S : List rd_Sh) (c0 : Nat), rd_wd cI cZ ad σ c0 (S ++ [sh]) = rd_wd cI cZ ad σ c0 S ++ [(ad (c0 + S.length), rd_el cI cZ ad (σ (c0 + S.length)) sh)] := by
  intro S
  induction S with
  | nil => intro c0; rfl
  | cons s0 S ih =>
    intro c0
    rw [List.cons_append, rd_wd, rd_wd, ih (c0 + 1), List.length_cons, show c0 + 1 + S.length = c0 + (S.length + 1) by omega]
    rfl
/-- the map with a new cell -/
def rd_adn (ad : Nat → Nat) (n q : Nat) : Nat → Nat := fun x => if x = n then q else ad x
theorem rd_adn_agr {ad : Nat → Nat} {n q : Nat} (hn : n < 100000) : rd_agr n ad (rd_adn ad n q) := by
  intro x hx
  unfold rd_adn
  rw [if_neg (by omega)]
theorem rd_wd_new {cI cZ : ClassId} {ad : Nat → Nat} {σ : rd_Sg} {S : List rd_Sh} {sh : rd_Sh} {q : Nat} (hn : S.length < 100000) (hS : S.all (rd_sok S.length) = true) (hs : rd_sok S.length sh = true) : rd_wd cI cZ (rd_adn ad S.length q) σ 0 (S ++ [sh]) = rd_wd cI cZ ad σ 0 S ++ [(q, rd_el cI cZ ad (σ S.length) sh)] := by
  rw [rd_wd_app, rd_wd_agr (rd_adn_agr hn) S 0 (by omega) hS, Nat.zero_add, rd_el_agr (rd_adn_agr hn) hs]
  unfold rd_adn
  rw [if_pos rfl]
theorem rd_num_new {n : Nat} : ∀ {w : rd_Wr}, w.all (fun e => Nat.blt e.1 n) = true → ∀ j, rd_num w n j = 0 := by
  intro w
  induction w with
  | nil => intro _ j; rfl
  | cons e w ih =>
    intro h j
    obtain ⟨c, a, m, x⟩ := e
    rw [List.all_cons, Bool.and_eq_true] at h
    have h1 : c < n := Nat.le_of_ble_eq_true h.1
    rw [rd_num, if_neg (by omega)]
    exact ih h.2 j
theorem rd_num_u {w : rd_Wr} {c j : Nat} {x : Int32} : rd_num ((c, j, 1, x) :: w) = rd_u (rd_num w) c j x := by
  funext c' j'
  rw [rd_num]
  unfold rd_u
  by_cases h : c' = c ∧ j' = j
  · rw [if_pos (by omega), if_pos h]
  · rw [if_neg (by omega), if_neg h]
theorem rd_num_4 {w : rd_Wr} {c : Nat} {x : Int32} : rd_num ((c, 0, 4, x) :: w) = rd_u (rd_u (rd_u (rd_u (rd_num w) c 0 x) c 1 x) c 2 x) c 3 x := by
  funext c' j'
  rw [rd_num]
  unfold rd_u
  by_cases h : c' = c ∧ j' < 4
  · rw [if_pos (by omega)]
    by_cases h3 : c' = c ∧ j' = 3
    · rw [if_pos h3]
    · rw [if_neg h3]
      by_cases h2 : c' = c ∧ j' = 2
      · rw [if_pos h2]
      · rw [if_neg h2]
        by_cases h1 : c' = c ∧ j' = 1
        · rw [if_pos h1]
        · rw [if_neg h1, if_pos (by omega)]
  · rw [if_neg (by omega), if_neg (by omega), if_neg (by omega), if_neg (by omega), if_neg (by omega)]
theorem rd_nth_set {α : Type} {l : List α} {c i : Nat} {x : α} : rd_nth (l.set c x) i = if c = i then (if c < l.length then some x else none) else rd_nth l i := by
  rw [rd_nth_get, rd_nth_get, List.getElem?_set]
/-- a reference in a field -/
theorem rd_wd_ref {cI cZ : ClassId} {ad : Nat → Nat} {σ : rd_Sg} {S : List rd_Sh} {c ci sl v : Nat} {ks : List (Option Value)} (h : rd_nth S c = some (.inr (ci, ks))) (hl : sl < ks.length) : (rd_wd cI cZ ad σ 0 S).set c (ad c, .inr (ci, (rd_fs ad (σ c) 0 ks).set sl (.ref (ad v)))) = rd_wd cI cZ ad σ 0 (S.set c (.inr (ci, ks.set sl (some (.ref v))))) := by
  have hf : (rd_fs ad (σ c) 0 ks).set sl (.ref (ad v)) = rd_fs ad (σ c) 0 (ks.set sl (some (.ref v))) := by
    apply List.ext_getElem?
    intro i
    rw [List.getElem?_set, rd_fs_at, rd_fs_at, rd_nth_set]
    have hlt : sl < (rd_fs ad (σ c) 0 ks).length := by
      have : (rd_fs ad (σ c) 0 ks)[sl]? = (rd_nth ks sl).map (fun o => rd_fv ad (σ c (0 + sl)) o) := rd_fs_at ..
      rw [rd_nth_get, List.getElem?_eq_getElem hl] at this
      exact (List.getElem?_eq_some_iff.mp this).1
    by_cases hi : sl = i
    · rw [if_pos hi, if_pos hi, if_pos hlt, if_pos hl]; rfl
    · rw [if_neg hi, if_neg hi]
  apply List.ext_getElem?
  intro i
  rw [List.getElem?_set, rd_wd_at, rd_wd_at, rd_nth_set]
  have hlt : c < (rd_wd cI cZ ad σ 0 S).length := (List.getElem?_eq_some_iff.mp (rd_wd_0 (cI := cI) (cZ := cZ) (ad := ad) (σ := σ) h)).1
  by_cases hi : c = i
  · subst hi
    rw [if_pos rfl, if_pos rfl, if_pos hlt, if_pos (rd_nth_lt h), hf]
    simp [rd_el]
  · rw [if_neg hi, if_neg hi]
/-! what the tables say of fields -/
def rd_isR : FieldType → Bool
  | .object _ => true
  | .array _ => true
  | _ => false
def rd_fck (q : vw_C) : Bool := (List.range q.2.2).all fun j => decide ((q.2.1 j).1 = q.1) && (decide ((q.2.1 j).2.2.1 = "I") || decide ((q.2.1 j).2.2.1 = "Z") || (match parseFieldDescriptor (q.2.1 j).2.2.1 with
  | some ty => rd_isR ty
  | none => false))
theorem rd_fck_ok : vwCl.all rd_fck = true := by decide +kernel
theorem rd_cnc : (List.range 13).all (fun ci => decide (rd_nth rd_cn ci = (rd_nth vwCl ci).map (fun q => q.1))) = true := by decide +kernel
theorem rd_ffact {ci sl : Nat} {C : String} {T : u_T} {n : Nat} (h : rd_nth vwCl ci = some (C, T, n)) (hs : sl < n) : (T sl).1 = C ∧ ((T sl).2.2.1 = "I" ∨ (T sl).2.2.1 = "Z" ∨ ∃ ty, parseFieldDescriptor (T sl).2.2.1 = some ty ∧ rd_isR ty = true) := by
  have h1 := rd_all_at rd_fck_ok h
  have h2 := List.all_eq_true.mp h1 sl (List.mem_range.mpr hs)
  simp only [Bool.and_eq_true, Bool.or_eq_true, decide_eq_true_eq] at h2
  refine ⟨h2.1, ?_⟩
  rcases h2.2 with (h3 | h3) | h3
  · exact Or.inl h3
  · exact Or.inr (Or.inl h3)
  · refine Or.inr (Or.inr ?_)
    cases hp : parseFieldDescriptor (T sl).2.2.1 with
    | none => rw [hp] at h3; cases h3
    | some ty => rw [hp] at h3; exact ⟨ty, rfl, h3⟩
theorem rd_fits {ty : FieldType} (h : rd_isR ty = true) (a : Nat) : narrow ty (.ref a) = .ref a ∧ fits ty (.ref a) = true ∧ defaultValue ty = .null := by
  cases ty <;> first | (exact ⟨rfl, rfl, rfl⟩) | cases h
theorem rd_fty_2 {ci sl : Nat} {C : String} {T : u_T} {n : Nat} (hv : rd_nth vwCl ci = some (C, T, n)) (h : rd_fty ci sl = 2) : (T sl).2.2.1 ≠ "I" ∧ (T sl).2.2.1 ≠ "Z" ∧ (T sl).2.2.2 = true := by
  unfold rd_fty at h
  rw [hv] at h
  dsimp only at h
  split at h
  · split at h
    · split at h <;> cases h
    · rename_i h1
      split at h
      · split at h <;> cases h
      · rename_i h2
        split at h
        · rename_i h3; exact ⟨h1, h2, h3⟩
        · cases h
  · cases h
theorem rd_fty_3 {ci sl : Nat} {C : String} {T : u_T} {n : Nat} (hv : rd_nth vwCl ci = some (C, T, n)) (h : rd_fty ci sl = 3) : (T sl).2.2.1 = "I" ∧ (T sl).2.2.2 = true := by
  unfold rd_fty at h
  rw [hv] at h
  dsimp only at h
  split at h
  · split at h
    · rename_i h1
      split at h
      · rename_i h2; exact ⟨h1, h2⟩
      · cases h
    · split at h
      · split at h <;> cases h
      · split at h <;> cases h
  · cases h
/-- a new object's fields -/
theorem rd_ks_val {ad : Nat → Nat} {f : Nat → Int32} {ci n : Nat} {C : String} {T : u_T} {ks : List (Option Value)} {ty : Nat → FieldType} (h : rd_nth vwCl ci = some (C, T, n)) (hk : rd_ks ci = some ks) (hty : ∀ k, k < n → parseFieldDescriptor (T k).2.2.1 = some (ty k)) (hf : ∀ j, f j = 0) : ks.length = n ∧ (∀ m, ks.all (rd_ook m) = true) ∧ ∀ j, j < n → defaultValue (ty j) = vp_V (rd_fs ad f 0 ks) j := by
  unfold rd_ks at hk
  rw [h] at hk
  cases hk
  refine ⟨by simp, fun m => ?_, fun j hj => ?_⟩
  · rw [List.all_eq_true]
    intro o ho
    obtain ⟨j, -, rfl⟩ := List.mem_map.mp ho
    unfold rd_kd
    split <;> rfl
  · unfold vp_V
    rw [List.getD_eq_getElem?_getD, rd_fs_at, rd_nth_get, List.getElem?_map, List.getElem?_range hj]
    simp only [Option.map_some, Option.getD_some, Nat.zero_add]
    have ht := hty j hj
    unfold rd_kd
    obtain ⟨-, h1 | h1 | ⟨t, h1, h2⟩⟩ := rd_ffact h hj
    · rw [h1] at ht ⊢
      rw [if_pos (Or.inl rfl)]
      have e : ty j = .int := (Option.some.inj (ht.symm.trans (by decide +kernel : parseFieldDescriptor "I" = some .int)))
      rw [e]; simp only [rd_fv, hf]; rfl
    · rw [h1] at ht ⊢
      rw [if_pos (Or.inr rfl)]
      have e : ty j = .boolean := (Option.some.inj (ht.symm.trans (by decide +kernel : parseFieldDescriptor "Z" = some .boolean)))
      rw [e]; simp only [rd_fv, hf]; rfl
    · have e : ty j = t := Option.some.inj (ht.symm.trans h1)
      rw [if_neg]
      · rw [e, (rd_fits h2 0).2.2]; rfl
      · rintro (q | q)
        · rw [q] at h1
          have : t = .int := (Option.some.inj (h1.symm.trans (by decide +kernel : parseFieldDescriptor "I" = some .int)))
          rw [this] at h2; cases h2
        · rw [q] at h1
          have : t = .boolean := (Option.some.inj (h1.symm.trans (by decide +kernel : parseFieldDescriptor "Z" = some .boolean)))
          rw [this] at h2; cases h2
