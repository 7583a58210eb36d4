/-! What the tables must say, checked by the kernel. -/
def rd_pc (k i : Nat) : Option Nat := match rd_look k i with
  | some e => some e.1
  | none => none
/-- instruction t of method k stands at p -/
def rd_nx (k t : Nat) (p : Int) : Bool := match rd_pc k t with
  | some q => decide (p = (q : Int))
  | none => false
def rd_ln : Instr → Nat
  | .bipush _ | .iload _ | .aload _ | .istore _ | .astore _ | .newarray _ => 2
  | .sipush _ | .iinc _ _ | .new _ => 3
  | _ => 1
def rd_tz (k : Nat) (pc : Nat) : List Nat → List Int → Bool
  | [], [] => true
  | t :: ts, o :: os => rd_nx k t ((pc : Int) + o) && rd_tz k pc ts os
  | _, _ => false
def rd_at (l : List Nat) (k : Nat) : Nat := match rd_nth l k with
  | some n => n
  | none => 0
def rd_mi (k : Nat) : Nat := match rd_nth rd_mp k with
  | some (_, _, _, _, t) => t
  | none => 9
def rd_ret (k : Nat) : Option FieldType := match rd_nth rd_mt k with
  | some (_, _, _, r) => r
  | none => none
/-- the callee's room fits the caller's -/
def rd_rmok (k k2 : Nat) : Bool := match rd_nth rd_rm k, rd_nth rd_rm k2 with
  | some (f, _, _, lo), some (f2, _, _, lo2) => Nat.ble (f2 + 1) f && Nat.ble (8 + (rd_mL k2 + 11) + lo2) lo
  | _, _ => false
/-- nothing is made -/
def rd_z (k : Nat) : Bool := match rd_nth rd_rm k with
  | some (_, 0, 0, _) => true
  | _ => false
def rd_rmle (k a b : Nat) : Bool := match rd_nth rd_rm k with
  | some (f, _, _, lo) => Nat.ble a f && Nat.ble b lo
  | none => false
def rd_flis (f oc idx ci sl : Nat) : Bool := match rd_nth rd_fl f with
  | some (a, b, c, d, _) => Nat.beq a oc && Nat.beq b idx && Nat.beq c ci && Nat.beq d sl
  | none => false
def rd_mlis (q oc idx k2 : Nat) : Bool := match rd_nth rd_ml q with
  | some (a, b, c, _) => Nat.beq a oc && Nat.beq b idx && Nat.beq c k2
  | none => false
def rd_clis (q oc idx ci : Nat) : Bool := match rd_nth rd_cl q with
  | some (a, b, c, _) => Nat.beq a oc && Nat.beq b idx && Nat.beq c ci
  | none => false
def rd_fty (ci sl : Nat) : Nat := match rd_nth vwCl ci with
  | some (_, T, n) => if sl < n then (if (T sl).2.2.1 = "I" then (if (T sl).2.2.2 = true then 3 else 0) else if (T sl).2.2.1 = "Z" then (if (T sl).2.2.2 = true then 9 else 1) else (if (T sl).2.2.2 = true then 2 else 9)) else 9
  | none => 9
def rd_ck (k i : Nat) (e : rd_Et) : Bool := match e with
  | (pc, ins, len, aux) => match ins with
    | .goto off => Nat.beq len 3 && (match aux with
      | [t] => rd_nx k t ((pc : Int) + off)
      | _ => false)
    | .ifCond _ off => Nat.beq len 3 && rd_nx k (i + 1) ((pc + 3 : Nat) : Int) && (match aux with
      | [t] => rd_nx k t ((pc : Int) + off)
      | _ => false)
    | .if_icmp _ off => Nat.beq len 3 && rd_nx k (i + 1) ((pc + 3 : Nat) : Int) && (match aux with
      | [t] => rd_nx k t ((pc : Int) + off)
      | _ => false)
    | .tableswitch d lo hi offs => match aux with
      | dt :: ts => rd_nx k dt ((pc : Int) + d) && decide (hi - lo + 1 = (ts.length : Int)) && decide (-2147483648 ≤ lo) && decide (hi < 2147483648) && rd_tz k pc ts offs.toList
      | _ => false
    | .ireturn => Nat.beq len 1 && (Nat.beq k 194 || (decide (rd_ret k = some .int) && !rd_mz k) || (decide (rd_ret k = some .boolean) && rd_mz k))
    | .return_ => Nat.beq len 1 && decide (rd_ret k = none)
    | .getfield idx => Nat.beq len 3 && rd_nx k (i + 1) ((pc + 3 : Nat) : Int) && (match aux with
      | [ci, sl, f] => rd_flis f (rd_at rd_oc k) idx ci sl && Nat.ble sl 998
      | _ => false)
    | .putfield idx => Nat.beq len 3 && rd_nx k (i + 1) ((pc + 3 : Nat) : Int) && (match aux with
      | [ci, sl, f, t] => rd_flis f (rd_at rd_oc k) idx ci sl && Nat.beq t (rd_fty ci sl) && Nat.ble sl 998
      | _ => false)
    | .getstatic idx => Nat.beq len 3 && rd_nx k (i + 1) ((pc + 3 : Nat) : Int) && (match aux with
      | [f] => rd_flis f (rd_at rd_oc k) idx 1 999
      | _ => false)
    | .invokevirtual idx => Nat.beq len 3 && rd_nx k (i + 1) ((pc + 3 : Nat) : Int) && (match aux with
      | [k2, n, q, ci] => rd_mlis q (rd_at rd_oc k) idx k2 && Nat.beq (rd_mi k2) 0 && Nat.beq n (rd_at rd_np k2) && Nat.beq ci (rd_at rd_oc k2) && rd_rmok k k2 && rd_z k2 && Nat.ble (n + 1) (rd_mL k2)
      | _ => false)
    | .invokestatic idx => Nat.beq len 3 && rd_nx k (i + 1) ((pc + 3 : Nat) : Int) && (match aux with
      | [k2, n, q] => rd_mlis q (rd_at rd_oc k) idx k2 && Nat.beq (rd_mi k2) 1 && Nat.beq n (rd_at rd_np k2) && rd_rmok k k2 && rd_z k2 && Nat.ble n (rd_mL k2)
      | [z, q] => if z = 1000 then rd_mlis q (rd_at rd_oc k) idx 1000 && rd_rmle k 1 26 else rd_mlis q (rd_at rd_oc k) idx 1001 && rd_rmle k 1 21
      | _ => false)
    | .invokespecial idx => Nat.beq len 3 && rd_nx k (i + 1) ((pc + 3 : Nat) : Int) && (match aux with
      | [k2, n, q] => rd_mlis q (rd_at rd_oc k) idx k2 && Nat.beq (rd_mi k2) 2 && Nat.beq n (rd_at rd_np k2) && rd_rmok k k2 && Nat.ble (n + 1) (rd_mL k2)
      | [z, q] => Nat.beq z 2000 && rd_mlis q (rd_at rd_oc k) idx 2000 && rd_rmle k 1 20
      | _ => false)
    | .new idx => Nat.beq len 3 && rd_nx k (i + 1) ((pc + 3 : Nat) : Int) && (match aux with
      | [ci, _, q] => rd_clis q (rd_at rd_oc k) idx ci
      | _ => false)
    | ins => Nat.beq len (rd_ln ins) && rd_nx k (i + 1) ((pc + len : Nat) : Int)
def rd_ckl (k : Nat) : Nat → List rd_Et → Bool
  | _, [] => true
  | i, e :: l => rd_ck k i e && rd_ckl k (i + 1) l
def rd_ckz : Nat → List (List rd_Et) → Bool
  | _, [] => true
  | k, l :: ls => rd_ckl k 0 l && rd_ckz (k + 1) ls
theorem rd_ckz_ok : rd_ckz 0 rd_ct = true := by decide +kernel
theorem rd_ckl_at {k : Nat} : ∀ (l : List rd_Et) (i0 i : Nat) (e : rd_Et), rd_ckl k i0 l = true → rd_nth l i = some e → rd_ck k (i0 + i) e = true := by
  intro l
  induction l with
  | nil => intro i0 i e _ h; cases h
  | cons a l ih =>
    intro i0 i e hc h
    rw [rd_ckl, Bool.and_eq_true] at hc
    cases i with
    | zero => rw [rd_nth] at h; cases h; exact hc.1
    | succ i =>
      rw [rd_nth] at h
      have := ih (i0 + 1) i e hc.2 h
      rwa [show i0 + 1 + i = i0 + (i + 1) by omega] at this
theorem rd_ckz_at : ∀ (ls : List (List rd_Et)) (k0 k : Nat) (l : List rd_Et), rd_ckz k0 ls = true → rd_nth ls k = some l → rd_ckl (k0 + k) 0 l = true := by
  intro ls
  induction ls with
  | nil => intro k0 k l _ h; cases h
  | cons a ls ih =>
    intro k0 k l hc h
    rw [rd_ckz, Bool.and_eq_true] at hc
    cases k with
    | zero => rw [rd_nth] at h; cases h; exact hc.1
    | succ k =>
      rw [rd_nth] at h
      have := ih (k0 + 1) k l hc.2 h
      rwa [show k0 + 1 + k = k0 + (k + 1) by omega] at this
theorem rd_ck_ok {k i : Nat} {e : rd_Et} (h : rd_look k i = some e) : rd_ck k i e = true := by
  unfold rd_look at h
  cases hl : rd_nth rd_ct k with
  | none => rw [hl] at h; cases h
  | some l =>
    rw [hl] at h
    have h1 := rd_ckz_at _ 0 k l rd_ckz_ok hl
    have h2 := rd_ckl_at l 0 i e h1 h
    simpa using h2
theorem rd_nth_mem {α : Type} : ∀ {l : List α} {i : Nat} {a : α}, rd_nth l i = some a → a ∈ l := by
  intro l
  induction l with
  | nil => intro i a h; cases h
  | cons b l ih =>
    intro i a h
    cases i with
    | zero => rw [rd_nth] at h; cases h; exact List.mem_cons_self
    | succ i => rw [rd_nth] at h; exact List.mem_cons_of_mem _ (ih h)
theorem rd_dz_at : ∀ (ls : List (List rd_Et)) (ms : List rd_M) (k : Nat) (l : List rd_Et) (m : rd_M), rd_dz ls ms → rd_nth ls k = some l → rd_nth ms k = some m → ∀ e ∈ l, decode m.2.1 e.1 = .ok (e.2.1, e.2.2.1) := by
  intro ls
  induction ls with
  | nil => intro ms k l m _ h; cases h
  | cons a ls ih =>
    intro ms k l m hd h1 h2
    cases ms with
    | nil => cases h2
    | cons b ms =>
      obtain ⟨ha, hd⟩ := hd
      cases k with
      | zero => rw [rd_nth] at h1 h2; cases h1; cases h2; exact ha
      | succ k => rw [rd_nth] at h1 h2; exact ih ms k l m hd h1 h2
theorem rd_dec {k i pc len : Nat} {ins : Instr} {aux : List Nat} (h : rd_look k i = some (pc, ins, len, aux)) {y : MethodName} {b : ByteArray} {L : Nat} {ret : Option FieldType} (hm : rd_nth rd_mt k = some (y, b, L, ret)) : decode b pc = .ok (ins, len) := by
  unfold rd_look at h
  cases hl : rd_nth rd_ct k with
  | none => rw [hl] at h; cases h
  | some l =>
    rw [hl] at h
    have h' : rd_nth l i = some (pc, ins, len, aux) := h
    have h2 := rd_dz_at rd_ct rd_mt k l (y, b, L, ret) rd_dz_ok hl hm (pc, ins, len, aux) (rd_nth_mem h')
    exact h2
-- the words
def rd_tb : List Cond := lw_tbl.filter goodWord
theorem rd_tb_mem {p : Nat} {w : Cond} (h : lw_tbl[p]? = some w) (hg : goodWord w = true) : w ∈ rd_tb := List.mem_filter.mpr ⟨List.mem_of_getElem? h, hg⟩
-- the words
def rd_flc (e : Nat × Nat × Nat × Nat × Nat) : Bool := match e with
  | (oc, idx, ci, sl, p) => match rd_nth rd_cn oc, rd_nth vwCl ci with
    | some own, some (_, T, n) => if sl = 999 then Nat.beq ci 1 && decide (lw_tbl[p]? = some (.fieldLink own idx "RehearsalDesk$Cues" "LIMITS" "[I")) else Nat.blt sl n && decide (lw_tbl[p]? = some (.fieldLink own idx (T sl).1 (T sl).2.1 (T sl).2.2.1))
    | _, _ => false
theorem rd_fl_ok : rd_fl.all rd_flc = true := by decide +kernel
def rd_mlc (e : Nat × Nat × Nat × Nat) : Bool := match e with
  | (oc, idx, k2, p) => match rd_nth rd_cn oc with
    | some own => if k2 = 1000 then decide (lw_tbl[p]? = some (.methodLink own idx arraycopyName)) else if k2 = 1001 then decide (lw_tbl[p]? = some (.methodLink own idx Lib.Math.min.name)) else if k2 = 2000 then decide (lw_tbl[p]? = some (.methodLink own idx objectInit)) else (match rd_nth rd_mt k2 with
      | some (y, _, _, _) => decide (lw_tbl[p]? = some (.methodLink own idx y))
      | none => false)
    | none => false
theorem rd_ml_ok : rd_ml.all rd_mlc = true := by decide +kernel
def rd_clc (e : Nat × Nat × Nat × Nat × Nat × Nat) : Bool := match e with
  | (oc, idx, ci, p, pi, pz) => match rd_nth rd_cn oc, rd_nth vwCl ci with
    | some own, some (C, _, n) => decide (lw_tbl[p]? = some (.classLink own idx C)) && decide (lw_tbl[pi]? = some (.instantiable C n)) && decide (lw_tbl[pz]? = some (.initialized C))
    | _, _ => false
theorem rd_cl_ok : rd_cl.all rd_clc = true := by decide +kernel
