/-! The small machine: shapes (what never changes), numbers, one instruction, a run with fuel. -/
abbrev rd_Sh : Type := (Nat × Bool) ⊕ (Nat × List (Option Value))
abbrev rd_Sg : Type := Nat → Nat → Int32
abbrev rd_Lv : Type := List (Option Value)
abbrev rd_A : Type := (Option Value × rd_Sg) ⊕ ((Nat × rd_Lv × List Value × rd_Sg) ⊕ (Nat × List Value × List Value))
/-- one number changes -/
def rd_u (σ : rd_Sg) (c j : Nat) (x : Int32) : rd_Sg := fun c' j' => if c' = c ∧ j' = j then x else σ c' j'
/-- one cell changes -/
def rd_uc (σ : rd_Sg) (c : Nat) (f : Nat → Int32) : rd_Sg := fun c' j' => if c' = c then f j' else σ c' j'
def rd_lv (vs : rd_Lv) (j : Nat) : Option Value := match rd_nth vs j with
  | some (some v) => some v
  | _ => none
def rd_set : rd_Lv → Nat → Value → Option rd_Lv
  | [], _, _ => none
  | _ :: l, 0, v => some (some v :: l)
  | a :: l, n + 1, v => match rd_set l n v with
    | some l' => some (a :: l')
    | none => none
def rd_pop : Nat → List Value → List Value → Option (List Value × List Value)
  | 0, acc, st => some (acc, st)
  | n + 1, acc, v :: st => rd_pop n (v :: acc) st
  | _ + 1, _, [] => none
def rd_one : Value → Bool
  | .int _ => true
  | .ref _ => true
  | .null => true
  | _ => false
def rd_few (st : List Value) : Bool := st.all rd_one && Nat.ble st.length 8
abbrev rd_go (i : Nat) (vs : rd_Lv) (st : List Value) (σ : rd_Sg) : Option rd_A := some (.inr (.inl (i, vs, st, σ)))
/-- an array's length and contents: of the world, or one that nobody writes -/
def rd_rd (S : List rd_Sh) (ro : Nat → Option (Nat × (Nat → Int32))) (σ : rd_Sg) (c : Nat) (b : Bool) : Option (Nat × (Nat → Int32)) := match rd_nth S c with
  | some (.inl (n, b')) => if b' = b then some (n, σ c) else none
  | some (.inr _) => none
  | none => if b = true then none else ro c
def rd_sw (x : Int32) : Int → List Nat → Nat → Nat
  | _, [], d => d
  | lo, t :: ts, d => if x = Int32.ofInt lo then t else rd_sw x (lo + 1) ts d
def rd_bit (b : Bool) (x : Int32) : Int32 := if b = true then x &&& 1 else x
def rd_iload (vs : rd_Lv) (j i : Nat) (st : List Value) (σ : rd_Sg) : Option rd_A := match rd_lv vs j with
  | some (.int x) => rd_go (i + 1) vs (.int x :: st) σ
  | _ => none
def rd_aload (vs : rd_Lv) (j i : Nat) (st : List Value) (σ : rd_Sg) : Option rd_A := match rd_lv vs j with
  | some (.ref x) => rd_go (i + 1) vs (.ref x :: st) σ
  | _ => none
def rd_istore (vs : rd_Lv) (j i : Nat) (st : List Value) (σ : rd_Sg) : Option rd_A := match st with
  | .int x :: st => match rd_set vs j (.int x) with
    | some vs' => rd_go (i + 1) vs' st σ
    | none => none
  | _ => none
def rd_astore (vs : rd_Lv) (j i : Nat) (st : List Value) (σ : rd_Sg) : Option rd_A := match st with
  | .ref x :: st => match rd_set vs j (.ref x) with
    | some vs' => rd_go (i + 1) vs' st σ
    | none => none
  | _ => none
def rd_bin (f : Int32 → Int32 → Int32) (vs : rd_Lv) (i : Nat) (st : List Value) (σ : rd_Sg) : Option rd_A := match st with
  | .int y :: .int x :: st => rd_go (i + 1) vs (.int (f x y) :: st) σ
  | _ => none
def rd_if (c : ClassFile.Cond) (t i : Nat) (vs : rd_Lv) (x : Int32) (st : List Value) (σ : rd_Sg) : Option rd_A := match c with
  | .eq => if x = 0 then rd_go t vs st σ else rd_go (i + 1) vs st σ
  | .ne => if x = 0 then rd_go (i + 1) vs st σ else rd_go t vs st σ
  | .lt => if x < 0 then rd_go t vs st σ else rd_go (i + 1) vs st σ
  | .ge => if x < 0 then rd_go (i + 1) vs st σ else rd_go t vs st σ
  | .gt => if 0 < x then rd_go t vs st σ else rd_go (i + 1) vs st σ
  | .le => if 0 < x then rd_go (i + 1) vs st σ else rd_go t vs st σ
def rd_icmp (c : ClassFile.Cond) (t i : Nat) (vs : rd_Lv) (x y : Int32) (st : List Value) (σ : rd_Sg) : Option rd_A := match c with
  | .eq => if x = y then rd_go t vs st σ else rd_go (i + 1) vs st σ
  | .ne => if x = y then rd_go (i + 1) vs st σ else rd_go t vs st σ
  | .lt => if x < y then rd_go t vs st σ else rd_go (i + 1) vs st σ
  | .ge => if x < y then rd_go (i + 1) vs st σ else rd_go t vs st σ
  | .gt => if y < x then rd_go t vs st σ else rd_go (i + 1) vs st σ
  | .le => if y < x then rd_go (i + 1) vs st σ else rd_go t vs st σ
def rd_ald (S : List rd_Sh) (ro : Nat → Option (Nat × (Nat → Int32))) (b : Bool) (vs : rd_Lv) (i : Nat) (st : List Value) (σ : rd_Sg) : Option rd_A := match st with
  | .int j :: .ref c :: st => match rd_rd S ro σ c b with
    | some (n, f) => if j < 0 ∨ n ≤ j.toNatClampNeg then none else rd_go (i + 1) vs (.int (f j.toNatClampNeg) :: st) σ
    | none => none
  | _ => none
def rd_ast (S : List rd_Sh) (b : Bool) (vs : rd_Lv) (i : Nat) (st : List Value) (σ : rd_Sg) : Option rd_A := match st with
  | .int x :: .int j :: .ref c :: st => match rd_nth S c with
    | some (.inl (n, b')) => if b' = b then (if j < 0 ∨ n ≤ j.toNatClampNeg then none else rd_go (i + 1) vs st (rd_u σ c j.toNatClampNeg (rd_bit b x))) else none
    | _ => none
  | _ => none
def rd_alen (S : List rd_Sh) (ro : Nat → Option (Nat × (Nat → Int32))) (vs : rd_Lv) (i : Nat) (st : List Value) (σ : rd_Sg) : Option rd_A := match st with
  | .ref c :: st => match rd_nth S c with
    | some (.inl (n, _)) => rd_go (i + 1) vs (.int (Int32.ofNat n) :: st) σ
    | some (.inr _) => none
    | none => match ro c with
      | some (n, _) => rd_go (i + 1) vs (.int (Int32.ofNat n) :: st) σ
      | none => none
  | _ => none
def rd_getf (S : List rd_Sh) (ci sl : Nat) (vs : rd_Lv) (i : Nat) (st : List Value) (σ : rd_Sg) : Option rd_A := match st with
  | .ref c :: st => match rd_nth S c with
    | some (.inr (cj, ks)) => if cj = ci then (match rd_nth ks sl with
      | some none => rd_go (i + 1) vs (.int (σ c sl) :: st) σ
      | some (some v) => if rd_one v = true then rd_go (i + 1) vs (v :: st) σ else none
      | none => none) else none
    | _ => none
  | _ => none
def rd_putf (S : List rd_Sh) (ci sl t : Nat) (vs : rd_Lv) (i : Nat) (st : List Value) (σ : rd_Sg) : Option rd_A := match st with
  | .int x :: .ref c :: st => match rd_nth S c with
    | some (.inr (cj, ks)) => if cj = ci then (match rd_nth ks sl with
      | some none => if t = 0 ∨ (t = 1 ∧ (x = 0 ∨ x = 1)) then rd_go (i + 1) vs st (rd_u σ c sl x) else none
      | _ => none) else none
    | _ => none
  | _ => none
def rd_callV (S : List rd_Sh) (k2 n ci : Nat) (st : List Value) : Option rd_A := match rd_pop n [] st with
  | some (as, .ref c :: rest) => match rd_nth S c with
    | some (.inr (cj, _)) => if cj = ci ∧ rd_few rest = true then some (.inr (.inr (k2, .ref c :: as, rest))) else none
    | _ => none
  | _ => none
def rd_callS (k2 n : Nat) (st : List Value) : Option rd_A := match rd_pop n [] st with
  | some (as, rest) => if rd_few rest = true then some (.inr (.inr (k2, as, rest))) else none
  | none => none
def rd_copy (S : List rd_Sh) (vs : rd_Lv) (i : Nat) (st : List Value) (σ : rd_Sg) : Option rd_A := match st with
  | [.int n, .int dp, .ref d, .int sp, .ref s] => match rd_nth S s, rd_nth S d with
    | some (.inl (n0, false)), some (.inl (n1, false)) =>
      if sp < 0 ∨ dp < 0 ∨ n < 0 ∨ n0 < sp.toNatClampNeg + n.toNatClampNeg ∨ n1 < dp.toNatClampNeg + n.toNatClampNeg then none
      else rd_go (i + 1) vs [] (rd_uc σ d (va_cpy (σ s) (σ d) sp.toNatClampNeg dp.toNatClampNeg n.toNatClampNeg))
    | _, _ => none
  | _ => none
def rd_min (vs : rd_Lv) (i : Nat) (st : List Value) (σ : rd_Sg) : Option rd_A := match st with
  | .int y :: .int x :: st => if rd_few st = true then rd_go (i + 1) vs (.int (if y < x then y else x) :: st) σ else none
  | _ => none
/-- one instruction: an end, a step, or a call -/
def rd_ins (S : List rd_Sh) (ro : Nat → Option (Nat × (Nat → Int32))) (mz : Bool) (ins : Instr) (aux : List Nat) (i : Nat) (vs : rd_Lv) (st : List Value) (σ : rd_Sg) : Option rd_A := match ins with
  | .iconst n => rd_go (i + 1) vs (.int (Int32.ofInt n) :: st) σ
  | .bipush n => rd_go (i + 1) vs (.int (Int8.ofInt n).toInt32 :: st) σ
  | .sipush n => rd_go (i + 1) vs (.int (Int16.ofInt n).toInt32 :: st) σ
  | .iload_n j => rd_iload vs j.val i st σ
  | .iload j => rd_iload vs j i st σ
  | .aload_n j => rd_aload vs j.val i st σ
  | .aload j => rd_aload vs j i st σ
  | .istore_n j => rd_istore vs j.val i st σ
  | .istore j => rd_istore vs j i st σ
  | .astore_n j => rd_astore vs j.val i st σ
  | .astore j => rd_astore vs j i st σ
  | .iinc j n => match rd_lv vs j with
    | some (.int x) => match rd_set vs j (.int (x + Int32.ofInt n)) with
      | some vs' => rd_go (i + 1) vs' st σ
      | none => none
    | _ => none
  | .iadd => rd_bin (fun x y => x + y) vs i st σ
  | .isub => rd_bin (fun x y => x - y) vs i st σ
  | .imul => rd_bin (fun x y => x * y) vs i st σ
  | .iand => rd_bin (fun x y => x &&& y) vs i st σ
  | .ior => rd_bin (fun x y => x ||| y) vs i st σ
  | .ishl => rd_bin (fun x y => x <<< (y &&& 31)) vs i st σ
  | .ishr => rd_bin (fun x y => x >>> (y &&& 31)) vs i st σ
  | .dup => match st with
    | .int x :: st => rd_go (i + 1) vs (.int x :: .int x :: st) σ
    | .ref x :: st => rd_go (i + 1) vs (.ref x :: .ref x :: st) σ
    | _ => none
  | .dup2 => match st with
    | .int x :: .ref y :: st => rd_go (i + 1) vs (.int x :: .ref y :: .int x :: .ref y :: st) σ
    | _ => none
  | .goto _ => match aux with
    | [t] => rd_go t vs st σ
    | _ => none
  | .ifCond c _ => match aux, st with
    | [t], .int x :: st => rd_if c t i vs x st σ
    | _, _ => none
  | .if_icmp c _ => match aux, st with
    | [t], .int y :: .int x :: st => rd_icmp c t i vs x y st σ
    | _, _ => none
  | .tableswitch _ lo _ _ => match aux, st with
    | d :: ts, .int x :: st => rd_go (rd_sw x lo ts d) vs st σ
    | _, _ => none
  | .iaload => rd_ald S ro false vs i st σ
  | .baload => rd_ald S ro true vs i st σ
  | .iastore => rd_ast S false vs i st σ
  | .bastore => rd_ast S true vs i st σ
  | .arraylength => rd_alen S ro vs i st σ
  | .getfield _ => match aux with
    | [ci, sl, _] => rd_getf S ci sl vs i st σ
    | _ => none
  | .putfield _ => match aux with
    | [ci, sl, _, t] => rd_putf S ci sl t vs i st σ
    | _ => none
  | .getstatic _ => rd_go (i + 1) vs (.ref 100000 :: st) σ
  | .invokevirtual _ => match aux with
    | [k2, n, _, ci] => rd_callV S k2 n ci st
    | _ => none
  | .invokestatic _ => match aux with
    | [k2, n, _] => rd_callS k2 n st
    | [z, _] => if z = 1000 then rd_copy S vs i st σ else rd_min vs i st σ
    | _ => none
  | .ireturn => match st with
    | [.int v] => some (.inl (some (.int (rd_bit mz v)), σ))
    | _ => none
  | .return_ => match st with
    | [] => some (.inl (none, σ))
    | _ => none
  | _ => none
def rd_mz (k : Nat) : Bool := match rd_nth rd_inf k with
  | some (_, b) => b
  | none => false
def rd_mL (k : Nat) : Nat := match rd_nth rd_inf k with
  | some (n, _) => n
  | none => 0
def rd_act (S : List rd_Sh) (ro : Nat → Option (Nat × (Nat → Int32))) (k i : Nat) (vs : rd_Lv) (st : List Value) (σ : rd_Sg) : Option rd_A := match rd_look k i with
  | some (_, ins, _, aux) => rd_ins S ro (rd_mz k) ins aux i vs st σ
  | none => none
def rd_ent (k : Nat) (as : List Value) : rd_Lv := as.map some ++ List.replicate (rd_mL k - as.length) none
def rd_ev (S : List rd_Sh) (ro : Nat → Option (Nat × (Nat → Int32))) : Nat → Nat → Nat → rd_Lv → List Value → rd_Sg → Option (Option Value × rd_Sg)
  | 0, _, _, _, _, _ => none
  | n + 1, k, i, vs, st, σ => match rd_act S ro k i vs st σ with
    | none => none
    | some (.inl q) => some q
    | some (.inr (.inl (i', vs', st', σ'))) => rd_ev S ro n k i' vs' st' σ'
    | some (.inr (.inr (k2, as, rest))) => (rd_ev S ro n k2 0 (rd_ent k2 as) [] σ).bind fun q => rd_ev S ro n k (i + 1) vs (q.1.toList ++ rest) q.2
theorem rd_ev_mono (S : List rd_Sh) (ro : Nat → Option (Nat × (Nat → Int32))) : ∀ (n k i : Nat) (vs : rd_Lv) (st : List Value) (σ : rd_Sg) (r : Option Value × rd_Sg), rd_ev S ro n k i vs st σ = some r → rd_ev S ro (n + 1) k i vs st σ = some r := by
  intro n
  induction n with
  | zero => intro k i vs st σ r h; cases h
  | succ n ih =>
    intro k i vs st σ r h
    rw [rd_ev] at h ⊢
    revert h
    cases rd_act S ro k i vs st σ with
    | none => exact fun h => h
    | some a =>
      rcases a with q | ⟨i', vs', st', σ'⟩ | ⟨k2, as, rest⟩
      · exact fun h => h
      · exact fun h => ih _ _ _ _ _ _ h
      · intro h
        dsimp only at h ⊢
        cases hc : rd_ev S ro n k2 0 (rd_ent k2 as) [] σ with
        | none => rw [hc] at h; cases h
        | some q =>
          rw [hc] at h
          rw [ih _ _ _ _ _ _ hc]
          exact ih _ _ _ _ _ _ h
theorem rd_ev_le {S : List rd_Sh} {ro : Nat → Option (Nat × (Nat → Int32))} {n m : Nat} (hnm : n ≤ m) {k i : Nat} {vs : rd_Lv} {st : List Value} {σ : rd_Sg} {r : Option Value × rd_Sg} (h : rd_ev S ro n k i vs st σ = some r) : rd_ev S ro m k i vs st σ = some r := by
  induction hnm with
  | refl => exact h
  | step _ ih => exact rd_ev_mono _ _ _ _ _ _ _ _ _ ih
/-- where a run comes to, with any fuel -/
noncomputable def rd_E (S : List rd_Sh) (ro : Nat → Option (Nat × (Nat → Int32))) (k i : Nat) (vs : rd_Lv) (st : List Value) (σ : rd_Sg) : Option (Option Value × rd_Sg) :=
  @dite _ (∃ r, ∃ n, rd_ev S ro n k i vs st σ = some r) (Classical.propDecidable _) (fun h => some h.choose) (fun _ => none)
theorem rd_E_iff {S : List rd_Sh} {ro : Nat → Option (Nat × (Nat → Int32))} {k i : Nat} {vs : rd_Lv} {st : List Value} {σ : rd_Sg} {r : Option Value × rd_Sg} : rd_E S ro k i vs st σ = some r ↔ ∃ n, rd_ev S ro n k i vs st σ = some r := by
  unfold rd_E
  by_cases h : ∃ r, ∃ n, rd_ev S ro n k i vs st σ = some r
  · rw [dif_pos h]
    obtain ⟨n, hn⟩ := h.choose_spec
    constructor
    · intro e
      rw [Option.some.inj e] at hn
      exact ⟨n, hn⟩
    · rintro ⟨m, hm⟩
      have h1 := rd_ev_le (Nat.le_max_left n m) hn
      have h2 := rd_ev_le (Nat.le_max_right n m) hm
      rw [h1] at h2
      exact h2
  · rw [dif_neg h]
    constructor
    · intro e; cases e
    · rintro ⟨n, hn⟩; exact absurd ⟨r, n, hn⟩ h
theorem rd_E_eq (S : List rd_Sh) (ro : Nat → Option (Nat × (Nat → Int32))) (k i : Nat) (vs : rd_Lv) (st : List Value) (σ : rd_Sg) : rd_E S ro k i vs st σ = match rd_act S ro k i vs st σ with
    | none => none
    | some (.inl q) => some q
    | some (.inr (.inl (i', vs', st', σ'))) => rd_E S ro k i' vs' st' σ'
    | some (.inr (.inr (k2, as, rest))) => (rd_E S ro k2 0 (rd_ent k2 as) [] σ).bind fun q => rd_E S ro k (i + 1) vs (q.1.toList ++ rest) q.2 := by
  apply Option.ext
  intro r
  rw [rd_E_iff]
  have step : ∀ n, rd_ev S ro (n + 1) k i vs st σ = match rd_act S ro k i vs st σ with
    | none => none
    | some (.inl q) => some q
    | some (.inr (.inl (i', vs', st', σ'))) => rd_ev S ro n k i' vs' st' σ'
    | some (.inr (.inr (k2, as, rest))) => (rd_ev S ro n k2 0 (rd_ent k2 as) [] σ).bind fun q => rd_ev S ro n k (i + 1) vs (q.1.toList ++ rest) q.2 := fun n => by rw [rd_ev]
  have h0 : (∃ n, rd_ev S ro n k i vs st σ = some r) ↔ ∃ n, rd_ev S ro (n + 1) k i vs st σ = some r :=
    ⟨fun ⟨n, h⟩ => ⟨n, rd_ev_mono _ _ _ _ _ _ _ _ _ h⟩, fun ⟨n, h⟩ => ⟨n + 1, h⟩⟩
  rw [h0]
  simp only [step]
  cases rd_act S ro k i vs st σ with
  | none => simp
  | some a =>
    rcases a with q | ⟨i', vs', st', σ'⟩ | ⟨k2, as, rest⟩
    · simp
    · exact rd_E_iff.symm
    · dsimp only
      constructor
      · rintro ⟨n, h⟩
        cases hc : rd_ev S ro n k2 0 (rd_ent k2 as) [] σ with
        | none => rw [hc] at h; cases h
        | some q =>
          rw [hc] at h
          rw [rd_E_iff.mpr ⟨n, hc⟩]
          exact rd_E_iff.mpr ⟨n, h⟩
      · intro h
        cases hc : rd_E S ro k2 0 (rd_ent k2 as) [] σ with
        | none => rw [hc] at h; cases h
        | some q =>
          rw [hc] at h
          obtain ⟨n, hn⟩ := rd_E_iff.mp hc
          obtain ⟨m, hm⟩ := rd_E_iff.mp h
          refine ⟨max n m, ?_⟩
          rw [rd_ev_le (Nat.le_max_left n m) hn]
          exact rd_ev_le (Nat.le_max_right n m) hm
