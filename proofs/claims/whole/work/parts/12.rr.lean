/-! Answers of the small machine, and a law for each instruction. -/
def rd_toR : Option Value × rd_Sg → Option (Int32 × rd_Sg)
  | (some (.int v), σ) => some (v, σ)
  | (none, σ) => some (0, σ)
  | _ => none
noncomputable def rd_R0 (S : List rd_Sh) (ro : Nat → Option (Nat × (Nat → Int32))) (k i : Nat) (vs : rd_Lv) (st : List Value) (σ : rd_Sg) : Option (Int32 × rd_Sg) := (rd_E S ro k i vs st σ).bind rd_toR
/-- what a method gives back: an int, or nothing -/
theorem rd_ev_ret {S : List rd_Sh} {ro : Nat → Option (Nat × (Nat → Int32))} : ∀ (n : Nat) {k i : Nat} {vs : rd_Lv} {st : List Value} {σ σ' : rd_Sg} {r : Option Value}, rd_ev S ro n k i vs st σ = some (r, σ') → (rd_ret k = none ∧ r = none) ∨ ((k = 194 ∨ rd_ret k ≠ none) ∧ ∃ v, r = some (.int v)) := by
  intro n
  induction n with
  | zero => intro k i vs st σ σ' r h; cases h
  | succ n ih =>
    intro k i vs st σ σ' r h
    rw [rd_ev] at h
    cases ha : rd_act S ro k i vs st σ with
    | none => rw [ha] at h; cases h
    | some a =>
      rw [ha] at h
      rcases a with q | ⟨i', vs', st', σ1⟩ | ⟨k2, as, rest⟩
      · cases h
        obtain ⟨-, pc, len, aux, h1 | h1⟩ := rd_act_end ha
        · obtain ⟨hlk, v, -, hr⟩ := h1
          have hck := rd_ck_ok hlk
          simp only [rd_ck, Bool.and_eq_true, Bool.or_eq_true, decide_eq_true_eq] at hck
          refine Or.inr ⟨?_, _, hr⟩
          rcases hck.2 with (h194 | ⟨h1, h2⟩) | ⟨h1, h2⟩
          · exact Or.inl (rd_beq h194)
          · exact Or.inr (by rw [h1]; exact fun h => by cases h)
          · exact Or.inr (by rw [h1]; exact fun h => by cases h)
        · have hck := rd_ck_ok h1.1
          simp only [rd_ck, Bool.and_eq_true, decide_eq_true_eq] at hck
          exact Or.inl ⟨hck.2, h1.2.2⟩
      · exact ih h
      · dsimp only at h
        cases hc : rd_ev S ro n k2 0 (rd_ent k2 as) [] σ with
        | none => rw [hc] at h; cases h
        | some q => rw [hc] at h; exact ih h
section RDL
variable {S : List rd_Sh} {ro : Nat → Option (Nat × (Nat → Int32))} {k i pc len : Nat} {aux : List Nat} {vs vs' : rd_Lv} {st : List Value} {σ σ' : rd_Sg}
theorem rd_R0_go {i' : Nat} {st' : List Value} (h : rd_act S ro k i vs st σ = some (.inr (.inl (i', vs', st', σ')))) : rd_R0 S ro k i vs st σ = rd_R0 S ro k i' vs' st' σ' := by
  unfold rd_R0
  rw [rd_E_eq, h]
theorem rd_R0_in {ins : Instr} (hl : rd_look k i = some (pc, ins, len, aux)) {i' : Nat} {st' : List Value} (h : rd_ins S ro (rd_mz k) ins aux i vs st σ = some (.inr (.inl (i', vs', st', σ')))) : rd_R0 S ro k i vs st σ = rd_R0 S ro k i' vs' st' σ' := by
  refine rd_R0_go ?_
  unfold rd_act
  rw [hl]
  exact h
theorem rd_R0_no {ins : Instr} (hl : rd_look k i = some (pc, ins, len, aux)) (h : rd_ins S ro (rd_mz k) ins aux i vs st σ = none) : rd_R0 S ro k i vs st σ = none := by
  unfold rd_R0
  rw [rd_E_eq]
  have : rd_act S ro k i vs st σ = none := by
    unfold rd_act
    rw [hl]
    exact h
  rw [this]
  rfl
theorem r_iconst {n : Int} {v : Int32} (hl : rd_look k i = some (pc, .iconst n, len, aux)) (hv : Int32.ofInt n = v) : rd_R0 S ro k i vs st σ = rd_R0 S ro k (i + 1) vs (.int v :: st) σ := by subst hv; exact rd_R0_in hl rfl
theorem r_bipush {n : Int} {v : Int32} (hl : rd_look k i = some (pc, .bipush n, len, aux)) (hv : (Int8.ofInt n).toInt32 = v) : rd_R0 S ro k i vs st σ = rd_R0 S ro k (i + 1) vs (.int v :: st) σ := by subst hv; exact rd_R0_in hl rfl
theorem r_sipush {n : Int} {v : Int32} (hl : rd_look k i = some (pc, .sipush n, len, aux)) (hv : (Int16.ofInt n).toInt32 = v) : rd_R0 S ro k i vs st σ = rd_R0 S ro k (i + 1) vs (.int v :: st) σ := by subst hv; exact rd_R0_in hl rfl
theorem r_iload_n {j : Fin 4} {x : Int32} (hl : rd_look k i = some (pc, .iload_n j, len, aux)) (hv : rd_lv vs j.val = some (.int x)) : rd_R0 S ro k i vs st σ = rd_R0 S ro k (i + 1) vs (.int x :: st) σ := rd_R0_in hl (by simp only [rd_ins, rd_iload, hv])
theorem r_iload {j : Nat} {x : Int32} (hl : rd_look k i = some (pc, .iload j, len, aux)) (hv : rd_lv vs j = some (.int x)) : rd_R0 S ro k i vs st σ = rd_R0 S ro k (i + 1) vs (.int x :: st) σ := rd_R0_in hl (by simp only [rd_ins, rd_iload, hv])
theorem r_aload_n {j : Fin 4} {x : Nat} (hl : rd_look k i = some (pc, .aload_n j, len, aux)) (hv : rd_lv vs j.val = some (.ref x)) : rd_R0 S ro k i vs st σ = rd_R0 S ro k (i + 1) vs (.ref x :: st) σ := rd_R0_in hl (by simp only [rd_ins, rd_aload, hv])
theorem r_aload {j : Nat} {x : Nat} (hl : rd_look k i = some (pc, .aload j, len, aux)) (hv : rd_lv vs j = some (.ref x)) : rd_R0 S ro k i vs st σ = rd_R0 S ro k (i + 1) vs (.ref x :: st) σ := rd_R0_in hl (by simp only [rd_ins, rd_aload, hv])
theorem r_istore_n {j : Fin 4} {x : Int32} (hl : rd_look k i = some (pc, .istore_n j, len, aux)) (hv : rd_set vs j.val (.int x) = some vs') : rd_R0 S ro k i vs (.int x :: st) σ = rd_R0 S ro k (i + 1) vs' st σ := rd_R0_in hl (by simp only [rd_ins, rd_istore, hv])
theorem r_istore {j : Nat} {x : Int32} (hl : rd_look k i = some (pc, .istore j, len, aux)) (hv : rd_set vs j (.int x) = some vs') : rd_R0 S ro k i vs (.int x :: st) σ = rd_R0 S ro k (i + 1) vs' st σ := rd_R0_in hl (by simp only [rd_ins, rd_istore, hv])
theorem r_astore_n {j : Fin 4} {x : Nat} (hl : rd_look k i = some (pc, .astore_n j, len, aux)) (hv : rd_set vs j.val (.ref x) = some vs') : rd_R0 S ro k i vs (.ref x :: st) σ = rd_R0 S ro k (i + 1) vs' st σ := rd_R0_in hl (by simp only [rd_ins, rd_astore, hv])
theorem r_iinc {j : Nat} {n : Int} {x v : Int32} (hl : rd_look k i = some (pc, .iinc j n, len, aux)) (hg : rd_lv vs j = some (.int x)) (hn : Int32.ofInt n = v) (hv : rd_set vs j (.int (x + v)) = some vs') : rd_R0 S ro k i vs st σ = rd_R0 S ro k (i + 1) vs' st σ := by subst hn; exact rd_R0_in hl (by simp only [rd_ins, hg, hv])
theorem r_iadd {x y : Int32} (hl : rd_look k i = some (pc, .iadd, len, aux)) : rd_R0 S ro k i vs (.int y :: .int x :: st) σ = rd_R0 S ro k (i + 1) vs (.int (x + y) :: st) σ := rd_R0_in hl rfl
theorem r_isub {x y : Int32} (hl : rd_look k i = some (pc, .isub, len, aux)) : rd_R0 S ro k i vs (.int y :: .int x :: st) σ = rd_R0 S ro k (i + 1) vs (.int (x - y) :: st) σ := rd_R0_in hl rfl
theorem r_imul {x y : Int32} (hl : rd_look k i = some (pc, .imul, len, aux)) : rd_R0 S ro k i vs (.int y :: .int x :: st) σ = rd_R0 S ro k (i + 1) vs (.int (x * y) :: st) σ := rd_R0_in hl rfl
theorem r_iand {x y : Int32} (hl : rd_look k i = some (pc, .iand, len, aux)) : rd_R0 S ro k i vs (.int y :: .int x :: st) σ = rd_R0 S ro k (i + 1) vs (.int (x &&& y) :: st) σ := rd_R0_in hl rfl
theorem r_ior {x y : Int32} (hl : rd_look k i = some (pc, .ior, len, aux)) : rd_R0 S ro k i vs (.int y :: .int x :: st) σ = rd_R0 S ro k (i + 1) vs (.int (x ||| y) :: st) σ := rd_R0_in hl rfl
theorem r_ishl {x y : Int32} (hl : rd_look k i = some (pc, .ishl, len, aux)) : rd_R0 S ro k i vs (.int y :: .int x :: st) σ = rd_R0 S ro k (i + 1) vs (.int (x <<< (y &&& 31)) :: st) σ := rd_R0_in hl rfl
theorem r_ishr {x y : Int32} (hl : rd_look k i = some (pc, .ishr, len, aux)) : rd_R0 S ro k i vs (.int y :: .int x :: st) σ = rd_R0 S ro k (i + 1) vs (.int (x >>> (y &&& 31)) :: st) σ := rd_R0_in hl rfl
theorem r_dupi {x : Int32} (hl : rd_look k i = some (pc, .dup, len, aux)) : rd_R0 S ro k i vs (.int x :: st) σ = rd_R0 S ro k (i + 1) vs (.int x :: .int x :: st) σ := rd_R0_in hl rfl
theorem r_dupr {x : Nat} (hl : rd_look k i = some (pc, .dup, len, aux)) : rd_R0 S ro k i vs (.ref x :: st) σ = rd_R0 S ro k (i + 1) vs (.ref x :: .ref x :: st) σ := rd_R0_in hl rfl
theorem r_dup2 {x : Int32} {y : Nat} (hl : rd_look k i = some (pc, .dup2, len, aux)) : rd_R0 S ro k i vs (.int x :: .ref y :: st) σ = rd_R0 S ro k (i + 1) vs (.int x :: .ref y :: .int x :: .ref y :: st) σ := rd_R0_in hl rfl
theorem r_goto {off : Int} {t : Nat} (hl : rd_look k i = some (pc, .goto off, len, [t])) : rd_R0 S ro k i vs st σ = rd_R0 S ro k t vs st σ := rd_R0_in hl rfl
theorem r_br {ins : Instr} {P : Prop} [Decidable P] {t u : Nat} {st' : List Value} (hl : rd_look k i = some (pc, ins, len, aux)) (h : rd_ins S ro (rd_mz k) ins aux i vs st σ = if P then rd_go t vs st' σ else rd_go u vs st' σ) : rd_R0 S ro k i vs st σ = if P then rd_R0 S ro k t vs st' σ else rd_R0 S ro k u vs st' σ := by
  by_cases hP : P
  · rw [if_pos hP] at h ⊢; exact rd_R0_in hl h
  · rw [if_neg hP] at h ⊢; exact rd_R0_in hl h
theorem r_ifeq {off : Int} {t : Nat} {x : Int32} (hl : rd_look k i = some (pc, .ifCond .eq off, len, [t])) : rd_R0 S ro k i vs (.int x :: st) σ = if x = 0 then rd_R0 S ro k t vs st σ else rd_R0 S ro k (i + 1) vs st σ := r_br hl rfl
theorem r_ifne {off : Int} {t : Nat} {x : Int32} (hl : rd_look k i = some (pc, .ifCond .ne off, len, [t])) : rd_R0 S ro k i vs (.int x :: st) σ = if x = 0 then rd_R0 S ro k (i + 1) vs st σ else rd_R0 S ro k t vs st σ := r_br hl rfl
theorem r_iflt {off : Int} {t : Nat} {x : Int32} (hl : rd_look k i = some (pc, .ifCond .lt off, len, [t])) : rd_R0 S ro k i vs (.int x :: st) σ = if x < 0 then rd_R0 S ro k t vs st σ else rd_R0 S ro k (i + 1) vs st σ := r_br hl rfl
theorem r_ifge {off : Int} {t : Nat} {x : Int32} (hl : rd_look k i = some (pc, .ifCond .ge off, len, [t])) : rd_R0 S ro k i vs (.int x :: st) σ = if x < 0 then rd_R0 S ro k (i + 1) vs st σ else rd_R0 S ro k t vs st σ := r_br hl rfl
theorem r_ifgt {off : Int} {t : Nat} {x : Int32} (hl : rd_look k i = some (pc, .ifCond .gt off, len, [t])) : rd_R0 S ro k i vs (.int x :: st) σ = if 0 < x then rd_R0 S ro k t vs st σ else rd_R0 S ro k (i + 1) vs st σ := r_br hl rfl
theorem r_ifle {off : Int} {t : Nat} {x : Int32} (hl : rd_look k i = some (pc, .ifCond .le off, len, [t])) : rd_R0 S ro k i vs (.int x :: st) σ = if 0 < x then rd_R0 S ro k (i + 1) vs st σ else rd_R0 S ro k t vs st σ := r_br hl rfl
theorem r_cmpeq {off : Int} {t : Nat} {x y : Int32} (hl : rd_look k i = some (pc, .if_icmp .eq off, len, [t])) : rd_R0 S ro k i vs (.int y :: .int x :: st) σ = if x = y then rd_R0 S ro k t vs st σ else rd_R0 S ro k (i + 1) vs st σ := r_br hl rfl
theorem r_cmpne {off : Int} {t : Nat} {x y : Int32} (hl : rd_look k i = some (pc, .if_icmp .ne off, len, [t])) : rd_R0 S ro k i vs (.int y :: .int x :: st) σ = if x = y then rd_R0 S ro k (i + 1) vs st σ else rd_R0 S ro k t vs st σ := r_br hl rfl
theorem r_cmplt {off : Int} {t : Nat} {x y : Int32} (hl : rd_look k i = some (pc, .if_icmp .lt off, len, [t])) : rd_R0 S ro k i vs (.int y :: .int x :: st) σ = if x < y then rd_R0 S ro k t vs st σ else rd_R0 S ro k (i + 1) vs st σ := r_br hl rfl
theorem r_cmpge {off : Int} {t : Nat} {x y : Int32} (hl : rd_look k i = some (pc, .if_icmp .ge off, len, [t])) : rd_R0 S ro k i vs (.int y :: .int x :: st) σ = if x < y then rd_R0 S ro k (i + 1) vs st σ else rd_R0 S ro k t vs st σ := r_br hl rfl
theorem r_cmpgt {off : Int} {t : Nat} {x y : Int32} (hl : rd_look k i = some (pc, .if_icmp .gt off, len, [t])) : rd_R0 S ro k i vs (.int y :: .int x :: st) σ = if y < x then rd_R0 S ro k t vs st σ else rd_R0 S ro k (i + 1) vs st σ := r_br hl rfl
theorem r_cmple {off : Int} {t : Nat} {x y : Int32} (hl : rd_look k i = some (pc, .if_icmp .le off, len, [t])) : rd_R0 S ro k i vs (.int y :: .int x :: st) σ = if y < x then rd_R0 S ro k (i + 1) vs st σ else rd_R0 S ro k t vs st σ := r_br hl rfl
theorem r_tsw {d lo hi : Int} {offs : Array Int} {dt : Nat} {ts : List Nat} {x : Int32} (hl : rd_look k i = some (pc, .tableswitch d lo hi offs, len, dt :: ts)) : rd_R0 S ro k i vs (.int x :: st) σ = rd_R0 S ro k (rd_sw x lo ts dt) vs st σ := rd_R0_in hl rfl
theorem r_swc {x v : Int32} {lo lo' : Int} {t d : Nat} {ts : List Nat} (hv : Int32.ofInt lo = v) (hl : lo + 1 = lo') : rd_R0 S ro k (rd_sw x lo (t :: ts) d) vs st σ = if x = v then rd_R0 S ro k t vs st σ else rd_R0 S ro k (rd_sw x lo' ts d) vs st σ := by
  subst hv; subst hl
  rw [rd_sw]
  split <;> rfl
theorem r_swn {x : Int32} {lo : Int} {d : Nat} : rd_R0 S ro k (rd_sw x lo [] d) vs st σ = rd_R0 S ro k d vs st σ := rfl
/-- an index is tested -/
def rd_chk {α : Type} (j : Int32) (n : Nat) (x : Option α) : Option α := if j < 0 ∨ n ≤ j.toNatClampNeg then none else x
theorem rd_chk_in {α : Type} {j : Int32} {n m : Nat} {x : Option α} (h : j = nI m) (hm : m < n) (hn : n < 2 ^ 31) : rd_chk j n x = x := by
  unfold rd_chk
  rw [if_neg]
  rw [h]
  exact nI_in hm hn
def rd_gf (S : List rd_Sh) (c ci sl : Nat) : Option (Option Value) := match rd_nth S c with
  | some (.inr (cj, ks)) => if cj = ci then rd_nth ks sl else none
  | _ => none
theorem r_getfi {idx ci sl f c : Nat} (hl : rd_look k i = some (pc, .getfield idx, len, [ci, sl, f])) (hg : rd_gf S c ci sl = some none) : rd_R0 S ro k i vs (.ref c :: st) σ = rd_R0 S ro k (i + 1) vs (.int (σ c sl) :: st) σ := by
  refine rd_R0_in hl ?_
  simp only [rd_ins, rd_getf]
  unfold rd_gf at hg
  split at hg
  · rename_i cj ks hs
    rw [hs]
    dsimp only
    split at hg
    · rename_i hc
      rw [if_pos hc, hg]
    · cases hg
  · cases hg
theorem r_getfr {idx ci sl f c d : Nat} (hl : rd_look k i = some (pc, .getfield idx, len, [ci, sl, f])) (hg : rd_gf S c ci sl = some (some (.ref d))) : rd_R0 S ro k i vs (.ref c :: st) σ = rd_R0 S ro k (i + 1) vs (.ref d :: st) σ := by
  refine rd_R0_in hl ?_
  simp only [rd_ins, rd_getf]
  unfold rd_gf at hg
  split at hg
  · rename_i cj ks hs
    rw [hs]
    dsimp only
    split at hg
    · rename_i hc
      rw [if_pos hc, hg]
      rfl
    · cases hg
  · cases hg
theorem r_putfi {idx ci sl f c : Nat} {x : Int32} (hl : rd_look k i = some (pc, .putfield idx, len, [ci, sl, f, 0])) (hg : rd_gf S c ci sl = some none) : rd_R0 S ro k i vs (.int x :: .ref c :: st) σ = rd_R0 S ro k (i + 1) vs st (rd_u σ c sl x) := by
  refine rd_R0_in hl ?_
  simp only [rd_ins, rd_putf]
  unfold rd_gf at hg
  split at hg
  · rename_i cj ks hs
    rw [hs]
    dsimp only
    split at hg
    · rename_i hc
      rw [if_pos hc, hg]
      rfl
    · cases hg
  · cases hg
theorem r_putfz {idx ci sl f c : Nat} {x : Int32} (hl : rd_look k i = some (pc, .putfield idx, len, [ci, sl, f, 1])) (hg : rd_gf S c ci sl = some none) (hx : x = 0 ∨ x = 1) : rd_R0 S ro k i vs (.int x :: .ref c :: st) σ = rd_R0 S ro k (i + 1) vs st (rd_u σ c sl x) := by
  refine rd_R0_in hl ?_
  simp only [rd_ins, rd_putf]
  unfold rd_gf at hg
  split at hg
  · rename_i cj ks hs
    rw [hs]
    dsimp only
    split at hg
    · rename_i hc
      rw [if_pos hc, hg]
      exact if_pos (Or.inr ⟨by first | rfl | trivial, hx⟩)
    · cases hg
  · cases hg
theorem r_iald {c n : Nat} {j : Int32} (hl : rd_look k i = some (pc, .iaload, len, aux)) (hs : rd_nth S c = some (.inl (n, false))) : rd_R0 S ro k i vs (.int j :: .ref c :: st) σ = rd_chk j n (rd_R0 S ro k (i + 1) vs (.int (σ c j.toNatClampNeg) :: st) σ) := by
  unfold rd_chk
  by_cases hP : j < 0 ∨ n ≤ j.toNatClampNeg
  · rw [if_pos hP]
    refine rd_R0_no hl ?_
    simp only [rd_ins, rd_ald, rd_rd, hs, if_true, if_pos hP]
  · rw [if_neg hP]
    refine rd_R0_in hl ?_
    simp only [rd_ins, rd_ald, rd_rd, hs, if_true, if_neg hP]
theorem r_zald {c n : Nat} {j : Int32} (hl : rd_look k i = some (pc, .baload, len, aux)) (hs : rd_nth S c = some (.inl (n, true))) : rd_R0 S ro k i vs (.int j :: .ref c :: st) σ = rd_chk j n (rd_R0 S ro k (i + 1) vs (.int (σ c j.toNatClampNeg) :: st) σ) := by
  unfold rd_chk
  by_cases hP : j < 0 ∨ n ≤ j.toNatClampNeg
  · rw [if_pos hP]
    refine rd_R0_no hl ?_
    simp only [rd_ins, rd_ald, rd_rd, hs, if_true, if_pos hP]
  · rw [if_neg hP]
    refine rd_R0_in hl ?_
    simp only [rd_ins, rd_ald, rd_rd, hs, if_true, if_neg hP]
theorem r_oald {c n : Nat} {f : Nat → Int32} {j : Int32} (hl : rd_look k i = some (pc, .iaload, len, aux)) (hs : rd_nth S c = none) (hr : ro c = some (n, f)) : rd_R0 S ro k i vs (.int j :: .ref c :: st) σ = rd_chk j n (rd_R0 S ro k (i + 1) vs (.int (f j.toNatClampNeg) :: st) σ) := by
  unfold rd_chk
  by_cases hP : j < 0 ∨ n ≤ j.toNatClampNeg
  · rw [if_pos hP]
    refine rd_R0_no hl ?_
    simp only [rd_ins, rd_ald, rd_rd, hs, hr, Bool.false_eq_true, if_false, if_pos hP]
  · rw [if_neg hP]
    refine rd_R0_in hl ?_
    simp only [rd_ins, rd_ald, rd_rd, hs, hr, Bool.false_eq_true, if_false, if_neg hP]
theorem r_iast {c n : Nat} {j x : Int32} (hl : rd_look k i = some (pc, .iastore, len, aux)) (hs : rd_nth S c = some (.inl (n, false))) : rd_R0 S ro k i vs (.int x :: .int j :: .ref c :: st) σ = rd_chk j n (rd_R0 S ro k (i + 1) vs st (rd_u σ c j.toNatClampNeg x)) := by
  unfold rd_chk
  by_cases hP : j < 0 ∨ n ≤ j.toNatClampNeg
  · rw [if_pos hP]
    refine rd_R0_no hl ?_
    simp only [rd_ins, rd_ast, hs, if_true, if_pos hP]
  · rw [if_neg hP]
    refine rd_R0_in hl ?_
    simp only [rd_ins, rd_ast, hs, if_true, if_neg hP]
    rfl
theorem r_zast {c n : Nat} {j x : Int32} (hl : rd_look k i = some (pc, .bastore, len, aux)) (hs : rd_nth S c = some (.inl (n, true))) : rd_R0 S ro k i vs (.int x :: .int j :: .ref c :: st) σ = rd_chk j n (rd_R0 S ro k (i + 1) vs st (rd_u σ c j.toNatClampNeg (x &&& 1))) := by
  unfold rd_chk
  by_cases hP : j < 0 ∨ n ≤ j.toNatClampNeg
  · rw [if_pos hP]
    refine rd_R0_no hl ?_
    simp only [rd_ins, rd_ast, hs, if_true, if_pos hP]
  · rw [if_neg hP]
    refine rd_R0_in hl ?_
    simp only [rd_ins, rd_ast, hs, if_true, if_neg hP]
    rfl
theorem r_alen {c n : Nat} {b : Bool} {v : Int32} (hl : rd_look k i = some (pc, .arraylength, len, aux)) (hs : rd_nth S c = some (.inl (n, b))) (hv : Int32.ofNat n = v) : rd_R0 S ro k i vs (.ref c :: st) σ = rd_R0 S ro k (i + 1) vs (.int v :: st) σ := by
  subst hv
  refine rd_R0_in hl ?_
  simp only [rd_ins, rd_alen, hs]
theorem r_olen {c n : Nat} {f : Nat → Int32} (hl : rd_look k i = some (pc, .arraylength, len, aux)) (hs : rd_nth S c = none) (hr : ro c = some (n, f)) : rd_R0 S ro k i vs (.ref c :: st) σ = rd_R0 S ro k (i + 1) vs (.int (Int32.ofNat n) :: st) σ := by
  refine rd_R0_in hl ?_
  simp only [rd_ins, rd_alen, hs, hr]
theorem r_getst {idx : Nat} (hl : rd_look k i = some (pc, .getstatic idx, len, aux)) : rd_R0 S ro k i vs st σ = rd_R0 S ro k (i + 1) vs (.ref 100000 :: st) σ := rd_R0_in hl rfl
theorem r_min {idx q : Nat} {x y : Int32} (hl : rd_look k i = some (pc, .invokestatic idx, len, [1001, q])) (hf : rd_few st = true) : rd_R0 S ro k i vs (.int y :: .int x :: st) σ = rd_R0 S ro k (i + 1) vs (.int (if y < x then y else x) :: st) σ := by
  refine rd_R0_in hl ?_
  simp only [rd_ins, rd_min, hf, if_true]
  rfl
theorem r_copy {idx q s d n0 n1 : Nat} {sp dp n : Int32} (hl : rd_look k i = some (pc, .invokestatic idx, len, [1000, q])) (h0 : rd_nth S s = some (.inl (n0, false))) (h1 : rd_nth S d = some (.inl (n1, false))) : rd_R0 S ro k i vs [.int n, .int dp, .ref d, .int sp, .ref s] σ = if sp < 0 ∨ dp < 0 ∨ n < 0 ∨ n0 < sp.toNatClampNeg + n.toNatClampNeg ∨ n1 < dp.toNatClampNeg + n.toNatClampNeg then none else rd_R0 S ro k (i + 1) vs [] (rd_uc σ d (va_cpy (σ s) (σ d) sp.toNatClampNeg dp.toNatClampNeg n.toNatClampNeg)) := by
  by_cases hP : sp < 0 ∨ dp < 0 ∨ n < 0 ∨ n0 < sp.toNatClampNeg + n.toNatClampNeg ∨ n1 < dp.toNatClampNeg + n.toNatClampNeg
  · rw [if_pos hP]
    refine rd_R0_no hl ?_
    simp only [rd_ins, rd_copy, h0, h1, if_true, if_pos hP]
  · rw [if_neg hP]
    refine rd_R0_in hl ?_
    simp only [rd_ins, rd_copy, h0, h1, if_true, if_neg hP]
/-- whether a method gives an int back -/
def rd_isI (k : Nat) : Bool := decide (rd_ret k ≠ none)
theorem rd_R0_call {k2 : Nat} {as rest : List Value} (ha : rd_act S ro k i vs st σ = some (.inr (.inr (k2, as, rest)))) (hI : rd_isI k2 = true) (he : rd_ent k2 as = vs') : rd_R0 S ro k i vs st σ = (rd_R0 S ro k2 0 vs' [] σ).bind fun q => rd_R0 S ro k (i + 1) vs (.int q.1 :: rest) q.2 := by
  subst he
  have hI : rd_ret k2 ≠ none := of_decide_eq_true hI
  unfold rd_R0
  rw [rd_E_eq, ha]
  dsimp only
  cases hc : rd_E S ro k2 0 (rd_ent k2 as) [] σ with
  | none => rfl
  | some q =>
    obtain ⟨r, σ1⟩ := q
    obtain ⟨n, hn⟩ := rd_E_iff.mp hc
    rcases rd_ev_ret n hn with ⟨h1, -⟩ | ⟨-, v, hv⟩
    · exact absurd h1 hI
    · subst hv
      rfl
theorem rd_R0_callv {k2 : Nat} {as rest : List Value} (ha : rd_act S ro k i vs st σ = some (.inr (.inr (k2, as, rest)))) (hI : rd_isI k2 = false) (hn194 : k2 ≠ 194) (he : rd_ent k2 as = vs') : rd_R0 S ro k i vs st σ = (rd_R0 S ro k2 0 vs' [] σ).bind fun q => rd_R0 S ro k (i + 1) vs rest q.2 := by
  subst he
  have hI : rd_ret k2 = none := by
    unfold rd_isI at hI
    simpa using hI
  unfold rd_R0
  rw [rd_E_eq, ha]
  dsimp only
  cases hc : rd_E S ro k2 0 (rd_ent k2 as) [] σ with
  | none => rfl
  | some q =>
    obtain ⟨r, σ1⟩ := q
    obtain ⟨n, hn⟩ := rd_E_iff.mp hc
    rcases rd_ev_ret n hn with ⟨-, h1⟩ | ⟨h1 | h1, -⟩
    · subst h1
      rfl
    · exact absurd h1 hn194
    · exact absurd hI h1
theorem r_callV {idx k2 n q ci : Nat} {as rest : List Value} (hl : rd_look k i = some (pc, .invokevirtual idx, len, [k2, n, q, ci])) (hp : rd_callV S k2 n ci st = some (.inr (.inr (k2, as, rest)))) (hI : rd_isI k2 = true) (he : rd_ent k2 as = vs') : rd_R0 S ro k i vs st σ = (rd_R0 S ro k2 0 vs' [] σ).bind fun q => rd_R0 S ro k (i + 1) vs (.int q.1 :: rest) q.2 := by
  refine rd_R0_call (as := as) ?_ hI he
  unfold rd_act
  rw [hl]
  exact hp
theorem r_callVv {idx k2 n q ci : Nat} {as rest : List Value} (hl : rd_look k i = some (pc, .invokevirtual idx, len, [k2, n, q, ci])) (hp : rd_callV S k2 n ci st = some (.inr (.inr (k2, as, rest)))) (hI : rd_isI k2 = false) (hn : k2 ≠ 194) (he : rd_ent k2 as = vs') : rd_R0 S ro k i vs st σ = (rd_R0 S ro k2 0 vs' [] σ).bind fun q => rd_R0 S ro k (i + 1) vs rest q.2 := by
  refine rd_R0_callv (as := as) ?_ hI hn he
  unfold rd_act
  rw [hl]
  exact hp
theorem r_callS {idx k2 n q : Nat} {as rest : List Value} (hl : rd_look k i = some (pc, .invokestatic idx, len, [k2, n, q])) (hp : rd_callS k2 n st = some (.inr (.inr (k2, as, rest)))) (hI : rd_isI k2 = true) (he : rd_ent k2 as = vs') : rd_R0 S ro k i vs st σ = (rd_R0 S ro k2 0 vs' [] σ).bind fun q => rd_R0 S ro k (i + 1) vs (.int q.1 :: rest) q.2 := by
  refine rd_R0_call (as := as) ?_ hI he
  unfold rd_act
  rw [hl]
  exact hp
theorem r_callSv {idx k2 n q : Nat} {as rest : List Value} (hl : rd_look k i = some (pc, .invokestatic idx, len, [k2, n, q])) (hp : rd_callS k2 n st = some (.inr (.inr (k2, as, rest)))) (hI : rd_isI k2 = false) (hn : k2 ≠ 194) (he : rd_ent k2 as = vs') : rd_R0 S ro k i vs st σ = (rd_R0 S ro k2 0 vs' [] σ).bind fun q => rd_R0 S ro k (i + 1) vs rest q.2 := by
  refine rd_R0_callv (as := as) ?_ hI hn he
  unfold rd_act
  rw [hl]
  exact hp
theorem r_end {ins : Instr} {r : Option Value} (hl : rd_look k i = some (pc, ins, len, aux)) (h : rd_ins S ro (rd_mz k) ins aux i vs st σ = some (.inl (r, σ))) : rd_R0 S ro k i vs st σ = rd_toR (r, σ) := by
  unfold rd_R0
  rw [rd_E_eq]
  have : rd_act S ro k i vs st σ = some (.inl (r, σ)) := by
    unfold rd_act
    rw [hl]
    exact h
  rw [this]
  rfl
theorem r_ret {v : Int32} (hl : rd_look k i = some (pc, .ireturn, len, aux)) (hz : rd_mz k = false) : rd_R0 S ro k i vs [.int v] σ = some (v, σ) := by
  refine (r_end (r := some (.int v)) hl ?_).trans rfl
  rw [hz]
  rfl
theorem r_retb {v : Int32} (hl : rd_look k i = some (pc, .ireturn, len, aux)) (hz : rd_mz k = true) : rd_R0 S ro k i vs [.int v] σ = some (v &&& 1, σ) := by
  refine (r_end (r := some (.int (v &&& 1))) hl ?_).trans rfl
  rw [hz]
  rfl
theorem r_ret0 (hl : rd_look k i = some (pc, .ireturn, len, aux)) (hz : rd_mz k = true) : rd_R0 S ro k i vs [.int 0] σ = some (0, σ) := (r_retb hl hz).trans (by rw [show (0 : Int32) &&& 1 = 0 by decide])
theorem r_ret1 (hl : rd_look k i = some (pc, .ireturn, len, aux)) (hz : rd_mz k = true) : rd_R0 S ro k i vs [.int 1] σ = some (1, σ) := (r_retb hl hz).trans (by rw [show (1 : Int32) &&& 1 = 1 by decide])
theorem r_retv (hl : rd_look k i = some (pc, .return_, len, aux)) : rd_R0 S ro k i vs [] σ = some (0, σ) := (r_end (r := none) hl rfl).trans rfl
theorem it_c {α : Type} {P : Prop} [Decidable P] {a a' b b' : α} (h1 : a = a') (h2 : b = b') : (if P then a else b) = (if P then a' else b') := by rw [h1, h2]
theorem ck_c {α : Type} {j : Int32} {n : Nat} {a a' : Option α} (h : a = a') : rd_chk j n a = rd_chk j n a' := by rw [h]
theorem bi_c {α β : Type} {m : Option α} {f g : α → Option β} (h : ∀ q, f q = g q) : m.bind f = m.bind g := by rw [funext h]
end RDL
section RDM
variable {S : List rd_Sh} {ro : Nat → Option (Nat × (Nat → Int32))} {k i pc len : Nat} {aux : List Nat} {vs vs' : rd_Lv} {st : List Value} {σ σ' : rd_Sg}
/-- a known index -/
def rd_cj (j : Int32) (m n : Nat) : Bool := decide (¬ (j < 0 ∨ n ≤ j.toNatClampNeg) ∧ j.toNatClampNeg = m)
theorem r_ialdc {c n m : Nat} {j : Int32} (hl : rd_look k i = some (pc, .iaload, len, aux)) (hs : rd_nth S c = some (.inl (n, false))) (hj : rd_cj j m n = true) : rd_R0 S ro k i vs (.int j :: .ref c :: st) σ = rd_R0 S ro k (i + 1) vs (.int (σ c m) :: st) σ := by
  obtain ⟨h1, h2⟩ := of_decide_eq_true hj
  rw [r_iald hl hs, rd_chk, if_neg h1, h2]
theorem r_iastc {c n m : Nat} {j x : Int32} (hl : rd_look k i = some (pc, .iastore, len, aux)) (hs : rd_nth S c = some (.inl (n, false))) (hj : rd_cj j m n = true) : rd_R0 S ro k i vs (.int x :: .int j :: .ref c :: st) σ = rd_R0 S ro k (i + 1) vs st (rd_u σ c m x) := by
  obtain ⟨h1, h2⟩ := of_decide_eq_true hj
  rw [r_iast hl hs, rd_chk, if_neg h1, h2]
end RDM
