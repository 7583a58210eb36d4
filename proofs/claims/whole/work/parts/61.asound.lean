/-! What the making machine does, the machine does. -/
section RDA
variable {l : Launch} {D : va_G} {cI cZ : ClassId} {base : Nat} {ρ : Nat × (Nat → Int32)}
def rd_At (D : va_G) (cI cZ : ClassId) (base : Nat) (ρ : Nat × (Nat → Int32)) (s : State) (c : Code) (k : Nat) (q : rd_Cf) (ad : Nat → Nat) (H : Heap) (locs : List Loc) (ls : Array Slot) (pc : Nat) : Prop :=
  rd_In D cI cZ ad base ρ s ∧ rd_pc k q.1 = some pc ∧ rd_Hp D cI cZ ad base q.2.2.2.1 s H locs (rd_num q.2.2.2.2.1) ∧ rd_Ls ad ls c.maxLocals q.2.1 ∧ q.2.2.1.all rd_one = true ∧ q.2.2.2.2.2.1 ≤ (rd_mc k).1 ∧ q.2.2.2.2.2.2 ≤ (rd_mc k).2
def rd_WA (l : Launch) (D : va_G) (cI cZ : ClassId) (base : Nat) (ρ : Nat × (Nat → Int32)) (k : Nat) (q q' : rd_Cf) : Prop :=
  ∀ (p : Program) (e : Env) (R : Room) (s : State) (m : MethodId) (args : Array Value) (below : List Frame) (meth : Method) (c : Code) (Q : State → Prop) (H : Heap) (locs : List Loc) (ls : Array Slot) (pc : Nat) (ad : Nat → Nat),
  rd_Fr p R s m args c k → (rd_mc k).1 ≤ R.cells ∧ (rd_mc k).2 ≤ R.slots → (rd_mi k = 2 → meth.name = "<init>") → rd_At D cI cZ base ρ s c k q ad H locs ls pc →
  (∀ (ad' : Nat → Nat) (H' : Heap) (locs' : List Loc) (ls' : Array Slot) (pc' : Nat), rd_agr q.2.2.2.1.length ad ad' → rd_At D cI cZ base ρ s c k q' ad' H' locs' ls' pc' → W p l e R s m args below meth c H' locs' q'.2.2.2.2.2.1 q'.2.2.2.2.2.2 Q (F0 m pc' ls' (q'.2.2.1.map (rd_cv ad')))) →
  W p l e R s m args below meth c H locs q.2.2.2.2.2.1 q.2.2.2.2.2.2 Q (F0 m pc ls (q.2.2.1.map (rd_cv ad)))
theorem rd_WA.rf {k : Nat} {q : rd_Cf} : rd_WA l D cI cZ base ρ k q q := by
  intro p e R s m args below meth c Q H locs ls pc ad hF hR hn hA fin
  exact fin ad H locs ls pc rd_agr.rf hA
theorem rd_WA.tr {k : Nat} {q q1 q2 : rd_Cf} (h : rd_WA l D cI cZ base ρ k q q1) (hl : q.2.2.2.1.length ≤ q1.2.2.2.1.length) (h1 : rd_WA l D cI cZ base ρ k q1 q2) : rd_WA l D cI cZ base ρ k q q2 := by
  intro p e R s m args below meth c Q H locs ls pc ad hF hR hn hA fin
  refine h p e R s m args below meth c Q H locs ls pc ad hF hR hn hA (fun ad' H' locs' ls' pc' a1 a2 => ?_)
  exact h1 p e R s m args below meth c Q H' locs' ls' pc' ad' hF hR hn a2 (fun ad2 H2 locs2 ls2 pc2 b1 b2 => fin ad2 H2 locs2 ls2 pc2 (a1.tr hl b1) b2)
def rd_isP : Instr → Bool
  | .iconst _ | .bipush _ | .sipush _ | .iload_n _ | .iload _ | .aload_n _ | .aload _ | .istore_n _ | .istore _ | .astore_n _ | .astore _ | .dup | .imul | .getfield _ => true
  | _ => false
theorem rd_pur_act {S : List rd_Sh} {ro : Nat → Option (Nat × (Nat → Int32))} {mz : Bool} {ins : Instr} {aux : List Nat} {k : Nat} {i : Nat} {vs : rd_Lv} {st : List Value} {w : rd_Wr} {cu su : Nat} {q1 : rd_Cf}
    (hp : rd_isP ins = true)
    (h : rd_pur S ins aux (i, vs, st, S, w, cu, su) = some q1) : ∃ i' vs' st', q1 = (i', vs', st', S, w, cu, su) ∧ rd_ins S ro mz ins aux i vs st (rd_num w) = some (.inr (.inl (i', vs', st', rd_num w))) := by
  simp only [rd_pur] at h
  split at h
  · rename_i i' vs' st' σ' he
    cases h
    refine ⟨i', vs', st', rfl, ?_⟩
    cases ins with
    | iconst _ => cases he; rfl
    | bipush _ => cases he; rfl
    | sipush _ => cases he; rfl
    | iload_n _ => simp only [rd_ins, rd_iload] at he ⊢; split at he <;> first | (cases he; rename_i e; simp only [e]) | cases he
    | iload _ => simp only [rd_ins, rd_iload] at he ⊢; split at he <;> first | (cases he; rename_i e; simp only [e]) | cases he
    | aload_n _ => simp only [rd_ins, rd_aload] at he ⊢; split at he <;> first | (cases he; rename_i e; simp only [e]) | cases he
    | aload _ => simp only [rd_ins, rd_aload] at he ⊢; split at he <;> first | (cases he; rename_i e; simp only [e]) | cases he
    | istore_n _ => simp only [rd_ins, rd_istore] at he ⊢; split at he <;> (try split at he) <;> first | (cases he; rename_i e; simp only [e]) | cases he
    | istore _ => simp only [rd_ins, rd_istore] at he ⊢; split at he <;> (try split at he) <;> first | (cases he; rename_i e; simp only [e]) | cases he
    | astore_n _ => simp only [rd_ins, rd_astore] at he ⊢; split at he <;> (try split at he) <;> first | (cases he; rename_i e; simp only [e]) | cases he
    | astore _ => simp only [rd_ins, rd_astore] at he ⊢; split at he <;> (try split at he) <;> first | (cases he; rename_i e; simp only [e]) | cases he
    | dup => simp only [rd_ins] at he ⊢; split at he <;> first | (cases he; rfl) | cases he
    | imul => simp only [rd_ins, rd_bin] at he ⊢; split at he <;> first | (cases he; rfl) | cases he
    | getfield _ => 
      have : σ' = rd_num w := by
        simp only [rd_ins, rd_getf] at he
        split at he <;> (try split at he) <;> (try split at he) <;> (try split at he) <;> (try split at he) <;> (try split at he) <;> first | (cases he; rfl) | cases he
      rw [this] at he
      exact he
    | _ => cases hp
  · cases h
theorem rd_WA_pur {k pc0 len : Nat} {ins : Instr} {aux : List Nat} {q q1 : rd_Cf} (hlk : rd_look k q.1 = some (pc0, ins, len, aux))
    (hp : rd_isP ins = true)
    (h : rd_pur q.2.2.2.1 ins aux q = some q1) : rd_WA l D cI cZ base ρ k q q1 ∧ q.2.2.2.1.length ≤ q1.2.2.2.1.length := by
  obtain ⟨i, vs, st, S, w, cu, su⟩ := q
  obtain ⟨i', vs', st', rfl, ha⟩ := rd_pur_act (ro := rd_ro ρ) (mz := rd_mz k) (k := k) hp h
  refine ⟨?_, Nat.le_refl _⟩
  intro p e R s m args below meth c Q H locs ls pc ad hF hR hn hA fin
  obtain ⟨hI, hpc, hH, hl, hst, hc, hs⟩ := hA
  dsimp only at hpc hH hl hst hc hs fin ⊢
  have hact : rd_act S (rd_ro ρ) k i vs st (rd_num w) = some (.inr (.inl (i', vs', st', rd_num w))) := by
    unfold rd_act
    have hlk : rd_look k i = some (pc0, ins, len, aux) := hlk
    rw [hlk]
    exact ha
  exact rd_jump hF hI hact hpc hH hl hst ⟨by omega, by omega⟩ (fun pc' H' locs' ls' h1 h2 h3 h4 => fin ad H' locs' ls' pc' rd_agr.rf ⟨hI, h1, h2, h3, h4, hc, hs⟩)
end RDA
