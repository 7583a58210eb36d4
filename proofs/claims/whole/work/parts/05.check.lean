/-! What the tables must say, checked by the kernel. -/
def rd_pc (k i : Nat) : Option Nat := match rd_look k i with
  | some e => some e.1
  | none => none
/-- instruction t of method k stands at p -/
def rd_nx (k t : Nat) (p : Int) : Bool := match rd_pc k t with
  | some q => decide (p = (q : Int))
  | none => false
def rd_ln : Instr → Nat
  | .bipush _ | .iload _ | .aload _ | .istore _ | .astore _ | .newarray _ => 2
  | .sipush _ | .iinc _ _ | .new _ => 3
  | _ => 1
def rd_tz (k : Nat) (pc : Nat) : List Nat → List Int → Bool
  | [], [] => true
  | t :: ts, o :: os => rd_nx k t ((pc : Int) + o) && rd_tz k pc ts os
  | _, _ => false
def rd_at (l : List Nat) (k : Nat) : Nat := match rd_nth l k with
  | some n => n
  | none => 0
def rd_mi (k : Nat) : Nat := match rd_nth rd_mp k with
  | some (_, _, _, _, t) => t
  | none => 9
def rd_ret (k : Nat) : Option FieldType := match rd_nth rd_mt k with
  | some (_, _, _, r) => r
  | none => none
/-- the callee's room fits the caller's -/
def rd_rmok (k k2 : Nat) : Bool := match rd_nth rd_rm k, rd_nth rd_rm k2 with
  | some (f, _, _, lo), some (f2, _, _, lo2) => Nat.ble (f2 + 1) f && Nat.ble (8 + (rd_mL k2 + 11) + lo2) lo
  | _, _ => false
/-- nothing is made -/
def rd_z (k : Nat) : Bool := match rd_nth rd_rm k with
  | some (_, 0, 0, _) => true
  | _ => false
def rd_rmle (k a b : Nat) : Bool := match rd_nth rd_rm k with
  | some (f, _, _, lo) => Nat.ble a f && Nat.ble b lo
  | none => false
def rd_flis (f oc idx ci sl : Nat) : Bool := match rd_nth rd_fl f with
  | some (a, b, c, d, _) => Nat.beq a oc && Nat.beq b idx && Nat.beq c ci && Nat.beq d sl
  | none => false
def rd_mlis (q oc idx k2 : Nat) : Bool := match rd_nth rd_ml q with
  | some (a, b, c, _) => Nat.beq a oc && Nat.beq b idx && Nat.beq c k2
  | none => false
def rd_clis (q oc idx ci : Nat) : Bool := match rd_nth rd_cl q with
  | some (a, b, c, _) => Nat.beq a oc && Nat.beq b idx && Nat.beq c ci
  | none => false
def rd_fty (ci sl : Nat) : Nat := match rd_nth vwCl ci with
  | some (_, T, n) => if sl < n then (if (T sl).2.2.1 = "I" then (if (T sl).2.2.2 = true then 3 else 0) else if (T sl).2.2.1 = "Z" then (if (T sl).2.2.2 = true then 9 else 1) else (if (T sl).2.2.2 = true then 2 else 9)) else 9
  | none => 9
def rd_ck (k i : Nat) (e : rd_Et) : Bool := match e with
  | (pc, ins, len, aux) => match ins with
    | .goto off => Nat.beq len 3 && (match aux with
      | [t] => rd_nx k t ((pc : Int) + off)
      | _ => false)
    | .ifCond _ off => Nat.beq len 3 && rd_nx k (i + 1) ((pc + 3 : Nat) : Int) && (match aux with
      | [t] => rd_nx k t ((pc : Int) + off)
      | _ => false)
    | .if_icmp _ off => Nat.beq len 3 && rd_nx k (i + 1) ((pc + 3 : Nat) : Int) && (match aux with
      | [t] => rd_nx k t ((pc : Int) + off)
      | _ => false)
    | .tableswitch d lo hi offs => match aux with
      | dt :: ts => rd_nx k dt ((pc : Int) + d) && decide (hi - lo + 1 = (ts.length : Int)) && decide (-2147483648 ≤ lo) && decide (hi < 2147483648) && rd_tz k pc ts offs.toList
      | _ => false
    | .ireturn => Nat.beq len 1 && (Nat.beq k 194 || (decide (rd_ret k = some .int) && !rd_mz k) || (decide (rd_ret k = some .boolean) && rd_mz k))
    | .return_ => Nat.beq len 1 && decide (rd_ret k = none)
    | .getfield idx => Nat.beq len 3 && rd_nx k (i + 1) ((pc + 3 : Nat) : Int) && (match aux with
      | [ci, sl, f] => rd_flis f (rd_at rd_oc k) idx ci sl && Nat.ble sl 998
      | _ => false)
    | .putfield idx => Nat.beq len 3 && rd_nx k (i + 1) ((pc + 3 : Nat) : Int) && (match aux with
      | [ci, sl, f, t] => rd_flis f (rd_at rd_oc k) idx ci sl && Nat.beq t (rd_fty ci sl) && Nat.ble sl 998
      | _ => false)
    | .getstatic idx => Nat.beq len 3 && rd_nx k (i + 1) ((pc + 3 : Nat) : Int) && (match aux with
      | [f] => rd_flis f (rd_at rd_oc k) idx 1 999
      | _ => false)
    | .invokevirtual idx => Nat.beq len 3 && rd_nx k (i + 1) ((pc + 3 : Nat) : Int) && (match aux with
      | [k2, n, q, ci] => rd_mlis q (rd_at rd_oc k) idx k2 && Nat.beq (rd_mi k2) 0 && Nat.beq n (rd_at rd_np k2) && Nat.beq ci (rd_at rd_oc k2) && rd_rmok k k2 && rd_z k2 && Nat.ble (n + 1) (rd_mL k2)
      | _ => false)
    | .invokestatic idx => Nat.beq len 3 && rd_nx k (i + 1) ((pc + 3 : Nat) : Int) && (match aux with
      | [k2, n, q] => rd_mlis q (rd_at rd_oc k) idx k2 && Nat.beq (rd_mi k2) 1 && Nat.beq n (rd_at rd_np k2) && rd_rmok k k2 && rd_z k2 && Nat.ble n (rd_mL k2)
      | [z, q] => if z = 1000 then rd_mlis q (rd_at rd_oc k) idx 1000 && rd_rmle k 1 26 else rd_mlis q (rd_at rd_oc k) idx 1001 && rd_rmle k 1 21
      | _ => false)
    | .invokespecial idx => Nat.beq len 3 && rd_nx k (i + 1) ((pc + 3 : Nat) : Int) && (match aux with
      | [k2, n, q] => rd_mlis q (rd_at rd_oc k) idx k2 && Nat.beq (rd_mi k2) 2 && Nat.beq n (rd_at rd_np k2) && rd_rmok k k2 && Nat.ble (n + 1) (rd_mL k2)
      | [z, q] => Nat.beq z 2000 && rd_mlis q (rd_at rd_oc k) idx 2000 && rd_rmle k 1 20
      | _ => false)
    | .new idx => Nat.beq len 3 && rd_nx k (i + 1) ((pc + 3 : Nat) : Int) && (match aux with
      | [ci, _, q] => rd_clis q (rd_at rd_oc k) idx ci
      | _ => false)
    | ins => Nat.beq len (rd_ln ins) && rd_nx k (i + 1) ((pc + len : Nat) : Int)
def rd_ckl (k : Nat) : Nat → List rd_Et → Bool
  | _, [] => true
  | i, e :: l => rd_ck k i e && rd_ckl k (i + 1) l
theorem rd_ckl_cut {k : Nat} : ∀ (n : Nat) (l : List rd_Et) (i : Nat), rd_ckl k i (l.take n) = true → rd_ckl k (i + n) (l.drop n) = true → n ≤ l.length → rd_ckl k i l = true := by
  intro n
  induction n with
  | zero => intro l i _ h _; simpa using h
  | succ n ih =>
    intro l i h1 h2 h3
    cases l with
    | nil => rfl
    | cons e l =>
      rw [List.take_succ_cons, rd_ckl, Bool.and_eq_true] at h1
      rw [List.drop_succ_cons] at h2
      rw [rd_ckl, Bool.and_eq_true]
      exact ⟨h1.1, ih l (i + 1) h1.2 (by rw [show i + 1 + n = i + (n + 1) by omega]; exact h2) (by simpa using h3)⟩
theorem rd_k0 : rd_ckl 0 0 rd_c0 = true := by decide +kernel
theorem rd_k1 : rd_ckl 1 0 rd_c1 = true := by decide +kernel
theorem rd_k2 : rd_ckl 2 0 rd_c2 = true := by decide +kernel
theorem rd_k3 : rd_ckl 3 0 rd_c3 = true := by decide +kernel
theorem rd_k4 : rd_ckl 4 0 rd_c4 = true := by decide +kernel
theorem rd_k5_0 : rd_ckl 5 0 ((rd_c5.drop 0).take 60) = true := by decide +kernel
theorem rd_k5_60 : rd_ckl 5 60 ((rd_c5.drop 60).take 60) = true := by decide +kernel
theorem rd_k5_120 : rd_ckl 5 120 ((rd_c5.drop 120).take 60) = true := by decide +kernel
theorem rd_k5 : rd_ckl 5 0 rd_c5 = true := by
  refine rd_ckl_cut 60 _ _ rd_k5_0 ?_ (by decide +kernel)
  refine rd_ckl_cut 60 _ _ rd_k5_60 ?_ (by decide +kernel)
  rw [List.drop_drop]
  have h := rd_k5_120
  rw [List.take_of_length_le (by decide +kernel)] at h
  exact h
theorem rd_k6 : rd_ckl 6 0 rd_c6 = true := by decide +kernel
theorem rd_k7 : rd_ckl 7 0 rd_c7 = true := by decide +kernel
theorem rd_k8 : rd_ckl 8 0 rd_c8 = true := by decide +kernel
theorem rd_k9 : rd_ckl 9 0 rd_c9 = true := by decide +kernel
theorem rd_k10 : rd_ckl 10 0 rd_c10 = true := by decide +kernel
theorem rd_k11 : rd_ckl 11 0 rd_c11 = true := by decide +kernel
theorem rd_k12 : rd_ckl 12 0 rd_c12 = true := by decide +kernel
theorem rd_k13 : rd_ckl 13 0 rd_c13 = true := by decide +kernel
theorem rd_k14 : rd_ckl 14 0 rd_c14 = true := by decide +kernel
theorem rd_k15 : rd_ckl 15 0 rd_c15 = true := by decide +kernel
theorem rd_k16 : rd_ckl 16 0 rd_c16 = true := by decide +kernel
theorem rd_k17 : rd_ckl 17 0 rd_c17 = true := by decide +kernel
theorem rd_k18 : rd_ckl 18 0 rd_c18 = true := by decide +kernel
theorem rd_k19 : rd_ckl 19 0 rd_c19 = true := by decide +kernel
theorem rd_k20 : rd_ckl 20 0 rd_c20 = true := by decide +kernel
theorem rd_k21 : rd_ckl 21 0 rd_c21 = true := by decide +kernel
theorem rd_k22 : rd_ckl 22 0 rd_c22 = true := by decide +kernel
theorem rd_k23 : rd_ckl 23 0 rd_c23 = true := by decide +kernel
theorem rd_k24 : rd_ckl 24 0 rd_c24 = true := by decide +kernel
theorem rd_k25 : rd_ckl 25 0 rd_c25 = true := by decide +kernel
theorem rd_k26 : rd_ckl 26 0 rd_c26 = true := by decide +kernel
theorem rd_k27 : rd_ckl 27 0 rd_c27 = true := by decide +kernel
theorem rd_k28 : rd_ckl 28 0 rd_c28 = true := by decide +kernel
theorem rd_k29 : rd_ckl 29 0 rd_c29 = true := by decide +kernel
theorem rd_k30 : rd_ckl 30 0 rd_c30 = true := by decide +kernel
theorem rd_k31 : rd_ckl 31 0 rd_c31 = true := by decide +kernel
theorem rd_k32 : rd_ckl 32 0 rd_c32 = true := by decide +kernel
theorem rd_k33 : rd_ckl 33 0 rd_c33 = true := by decide +kernel
theorem rd_k34 : rd_ckl 34 0 rd_c34 = true := by decide +kernel
theorem rd_k35 : rd_ckl 35 0 rd_c35 = true := by decide +kernel
theorem rd_k36 : rd_ckl 36 0 rd_c36 = true := by decide +kernel
theorem rd_k37 : rd_ckl 37 0 rd_c37 = true := by decide +kernel
theorem rd_k38 : rd_ckl 38 0 rd_c38 = true := by decide +kernel
theorem rd_k39 : rd_ckl 39 0 rd_c39 = true := by decide +kernel
theorem rd_k40 : rd_ckl 40 0 rd_c40 = true := by decide +kernel
theorem rd_k41 : rd_ckl 41 0 rd_c41 = true := by decide +kernel
theorem rd_k42 : rd_ckl 42 0 rd_c42 = true := by decide +kernel
theorem rd_k43 : rd_ckl 43 0 rd_c43 = true := by decide +kernel
theorem rd_k44 : rd_ckl 44 0 rd_c44 = true := by decide +kernel
theorem rd_k45 : rd_ckl 45 0 rd_c45 = true := by decide +kernel
theorem rd_k46 : rd_ckl 46 0 rd_c46 = true := by decide +kernel
theorem rd_k47 : rd_ckl 47 0 rd_c47 = true := by decide +kernel
theorem rd_k48 : rd_ckl 48 0 rd_c48 = true := by decide +kernel
theorem rd_k49 : rd_ckl 49 0 rd_c49 = true := by decide +kernel
theorem rd_k50 : rd_ckl 50 0 rd_c50 = true := by decide +kernel
theorem rd_k51 : rd_ckl 51 0 rd_c51 = true := by decide +kernel
theorem rd_k52 : rd_ckl 52 0 rd_c52 = true := by decide +kernel
theorem rd_k53 : rd_ckl 53 0 rd_c53 = true := by decide +kernel
theorem rd_k54 : rd_ckl 54 0 rd_c54 = true := by decide +kernel
theorem rd_k55 : rd_ckl 55 0 rd_c55 = true := by decide +kernel
theorem rd_k56 : rd_ckl 56 0 rd_c56 = true := by decide +kernel
theorem rd_k57 : rd_ckl 57 0 rd_c57 = true := by decide +kernel
theorem rd_k58 : rd_ckl 58 0 rd_c58 = true := by decide +kernel
theorem rd_k59 : rd_ckl 59 0 rd_c59 = true := by decide +kernel
theorem rd_k60 : rd_ckl 60 0 rd_c60 = true := by decide +kernel
theorem rd_k61 : rd_ckl 61 0 rd_c61 = true := by decide +kernel
theorem rd_k62 : rd_ckl 62 0 rd_c62 = true := by decide +kernel
theorem rd_k63 : rd_ckl 63 0 rd_c63 = true := by decide +kernel
theorem rd_k64 : rd_ckl 64 0 rd_c64 = true := by decide +kernel
theorem rd_k65 : rd_ckl 65 0 rd_c65 = true := by decide +kernel
theorem rd_k66 : rd_ckl 66 0 rd_c66 = true := by decide +kernel
theorem rd_k67 : rd_ckl 67 0 rd_c67 = true := by decide +kernel
theorem rd_k68 : rd_ckl 68 0 rd_c68 = true := by decide +kernel
theorem rd_k69 : rd_ckl 69 0 rd_c69 = true := by decide +kernel
theorem rd_k70 : rd_ckl 70 0 rd_c70 = true := by decide +kernel
theorem rd_k71 : rd_ckl 71 0 rd_c71 = true := by decide +kernel
theorem rd_k72 : rd_ckl 72 0 rd_c72 = true := by decide +kernel
theorem rd_k73 : rd_ckl 73 0 rd_c73 = true := by decide +kernel
theorem rd_k74 : rd_ckl 74 0 rd_c74 = true := by decide +kernel
theorem rd_k75 : rd_ckl 75 0 rd_c75 = true := by decide +kernel
theorem rd_k76 : rd_ckl 76 0 rd_c76 = true := by decide +kernel
theorem rd_k77 : rd_ckl 77 0 rd_c77 = true := by decide +kernel
theorem rd_k78 : rd_ckl 78 0 rd_c78 = true := by decide +kernel
theorem rd_k79 : rd_ckl 79 0 rd_c79 = true := by decide +kernel
theorem rd_k80 : rd_ckl 80 0 rd_c80 = true := by decide +kernel
theorem rd_k81 : rd_ckl 81 0 rd_c81 = true := by decide +kernel
theorem rd_k82 : rd_ckl 82 0 rd_c82 = true := by decide +kernel
theorem rd_k83 : rd_ckl 83 0 rd_c83 = true := by decide +kernel
theorem rd_k84 : rd_ckl 84 0 rd_c84 = true := by decide +kernel
theorem rd_k85 : rd_ckl 85 0 rd_c85 = true := by decide +kernel
theorem rd_k86 : rd_ckl 86 0 rd_c86 = true := by decide +kernel
theorem rd_k87 : rd_ckl 87 0 rd_c87 = true := by decide +kernel
theorem rd_k88 : rd_ckl 88 0 rd_c88 = true := by decide +kernel
theorem rd_k89 : rd_ckl 89 0 rd_c89 = true := by decide +kernel
theorem rd_k90 : rd_ckl 90 0 rd_c90 = true := by decide +kernel
theorem rd_k91 : rd_ckl 91 0 rd_c91 = true := by decide +kernel
theorem rd_k92 : rd_ckl 92 0 rd_c92 = true := by decide +kernel
theorem rd_k93 : rd_ckl 93 0 rd_c93 = true := by decide +kernel
theorem rd_k94 : rd_ckl 94 0 rd_c94 = true := by decide +kernel
theorem rd_k95 : rd_ckl 95 0 rd_c95 = true := by decide +kernel
theorem rd_k96 : rd_ckl 96 0 rd_c96 = true := by decide +kernel
theorem rd_k97 : rd_ckl 97 0 rd_c97 = true := by decide +kernel
theorem rd_k98 : rd_ckl 98 0 rd_c98 = true := by decide +kernel
theorem rd_k99 : rd_ckl 99 0 rd_c99 = true := by decide +kernel
theorem rd_k100 : rd_ckl 100 0 rd_c100 = true := by decide +kernel
theorem rd_k101 : rd_ckl 101 0 rd_c101 = true := by decide +kernel
theorem rd_k102 : rd_ckl 102 0 rd_c102 = true := by decide +kernel
theorem rd_k103 : rd_ckl 103 0 rd_c103 = true := by decide +kernel
theorem rd_k104 : rd_ckl 104 0 rd_c104 = true := by decide +kernel
theorem rd_k105 : rd_ckl 105 0 rd_c105 = true := by decide +kernel
theorem rd_k106 : rd_ckl 106 0 rd_c106 = true := by decide +kernel
theorem rd_k107 : rd_ckl 107 0 rd_c107 = true := by decide +kernel
theorem rd_k108 : rd_ckl 108 0 rd_c108 = true := by decide +kernel
theorem rd_k109 : rd_ckl 109 0 rd_c109 = true := by decide +kernel
theorem rd_k110 : rd_ckl 110 0 rd_c110 = true := by decide +kernel
theorem rd_k111 : rd_ckl 111 0 rd_c111 = true := by decide +kernel
theorem rd_k112 : rd_ckl 112 0 rd_c112 = true := by decide +kernel
theorem rd_k113 : rd_ckl 113 0 rd_c113 = true := by decide +kernel
theorem rd_k114 : rd_ckl 114 0 rd_c114 = true := by decide +kernel
theorem rd_k115 : rd_ckl 115 0 rd_c115 = true := by decide +kernel
theorem rd_k116 : rd_ckl 116 0 rd_c116 = true := by decide +kernel
theorem rd_k117 : rd_ckl 117 0 rd_c117 = true := by decide +kernel
theorem rd_k118 : rd_ckl 118 0 rd_c118 = true := by decide +kernel
theorem rd_k119 : rd_ckl 119 0 rd_c119 = true := by decide +kernel
theorem rd_k120 : rd_ckl 120 0 rd_c120 = true := by decide +kernel
theorem rd_k121 : rd_ckl 121 0 rd_c121 = true := by decide +kernel
theorem rd_k122 : rd_ckl 122 0 rd_c122 = true := by decide +kernel
theorem rd_k123 : rd_ckl 123 0 rd_c123 = true := by decide +kernel
theorem rd_k124 : rd_ckl 124 0 rd_c124 = true := by decide +kernel
theorem rd_k125 : rd_ckl 125 0 rd_c125 = true := by decide +kernel
theorem rd_k126 : rd_ckl 126 0 rd_c126 = true := by decide +kernel
theorem rd_k127 : rd_ckl 127 0 rd_c127 = true := by decide +kernel
theorem rd_k128 : rd_ckl 128 0 rd_c128 = true := by decide +kernel
theorem rd_k129 : rd_ckl 129 0 rd_c129 = true := by decide +kernel
theorem rd_k130 : rd_ckl 130 0 rd_c130 = true := by decide +kernel
theorem rd_k131 : rd_ckl 131 0 rd_c131 = true := by decide +kernel
theorem rd_k132 : rd_ckl 132 0 rd_c132 = true := by decide +kernel
theorem rd_k133 : rd_ckl 133 0 rd_c133 = true := by decide +kernel
theorem rd_k134 : rd_ckl 134 0 rd_c134 = true := by decide +kernel
theorem rd_k135 : rd_ckl 135 0 rd_c135 = true := by decide +kernel
theorem rd_k136_0 : rd_ckl 136 0 ((rd_c136.drop 0).take 60) = true := by decide +kernel
theorem rd_k136_60 : rd_ckl 136 60 ((rd_c136.drop 60).take 60) = true := by decide +kernel
theorem rd_k136_120 : rd_ckl 136 120 ((rd_c136.drop 120).take 60) = true := by decide +kernel
theorem rd_k136 : rd_ckl 136 0 rd_c136 = true := by
  refine rd_ckl_cut 60 _ _ rd_k136_0 ?_ (by decide +kernel)
  refine rd_ckl_cut 60 _ _ rd_k136_60 ?_ (by decide +kernel)
  rw [List.drop_drop]
  have h := rd_k136_120
  rw [List.take_of_length_le (by decide +kernel)] at h
  exact h
theorem rd_k137 : rd_ckl 137 0 rd_c137 = true := by decide +kernel
theorem rd_k138 : rd_ckl 138 0 rd_c138 = true := by decide +kernel
theorem rd_k139 : rd_ckl 139 0 rd_c139 = true := by decide +kernel
theorem rd_k140_0 : rd_ckl 140 0 ((rd_c140.drop 0).take 60) = true := by decide +kernel
theorem rd_k140_60 : rd_ckl 140 60 ((rd_c140.drop 60).take 60) = true := by decide +kernel
theorem rd_k140_120 : rd_ckl 140 120 ((rd_c140.drop 120).take 60) = true := by decide +kernel
theorem rd_k140 : rd_ckl 140 0 rd_c140 = true := by
  refine rd_ckl_cut 60 _ _ rd_k140_0 ?_ (by decide +kernel)
  refine rd_ckl_cut 60 _ _ rd_k140_60 ?_ (by decide +kernel)
  rw [List.drop_drop]
  have h := rd_k140_120
  rw [List.take_of_length_le (by decide +kernel)] at h
  exact h
theorem rd_k141 : rd_ckl 141 0 rd_c141 = true := by decide +kernel
theorem rd_k142 : rd_ckl 142 0 rd_c142 = true := by decide +kernel
theorem rd_k143 : rd_ckl 143 0 rd_c143 = true := by decide +kernel
theorem rd_k144 : rd_ckl 144 0 rd_c144 = true := by decide +kernel
theorem rd_k145 : rd_ckl 145 0 rd_c145 = true := by decide +kernel
theorem rd_k146 : rd_ckl 146 0 rd_c146 = true := by decide +kernel
theorem rd_k147 : rd_ckl 147 0 rd_c147 = true := by decide +kernel
theorem rd_k148 : rd_ckl 148 0 rd_c148 = true := by decide +kernel
theorem rd_k149 : rd_ckl 149 0 rd_c149 = true := by decide +kernel
theorem rd_k150 : rd_ckl 150 0 rd_c150 = true := by decide +kernel
theorem rd_k151 : rd_ckl 151 0 rd_c151 = true := by decide +kernel
theorem rd_k152 : rd_ckl 152 0 rd_c152 = true := by decide +kernel
theorem rd_k153 : rd_ckl 153 0 rd_c153 = true := by decide +kernel
theorem rd_k154 : rd_ckl 154 0 rd_c154 = true := by decide +kernel
theorem rd_k155 : rd_ckl 155 0 rd_c155 = true := by decide +kernel
theorem rd_k156 : rd_ckl 156 0 rd_c156 = true := by decide +kernel
theorem rd_k157 : rd_ckl 157 0 rd_c157 = true := by decide +kernel
theorem rd_k158 : rd_ckl 158 0 rd_c158 = true := by decide +kernel
theorem rd_k159 : rd_ckl 159 0 rd_c159 = true := by decide +kernel
theorem rd_k160 : rd_ckl 160 0 rd_c160 = true := by decide +kernel
theorem rd_k161 : rd_ckl 161 0 rd_c161 = true := by decide +kernel
theorem rd_k162_0 : rd_ckl 162 0 ((rd_c162.drop 0).take 60) = true := by decide +kernel
theorem rd_k162_60 : rd_ckl 162 60 ((rd_c162.drop 60).take 60) = true := by decide +kernel
theorem rd_k162_120 : rd_ckl 162 120 ((rd_c162.drop 120).take 60) = true := by decide +kernel
theorem rd_k162 : rd_ckl 162 0 rd_c162 = true := by
  refine rd_ckl_cut 60 _ _ rd_k162_0 ?_ (by decide +kernel)
  refine rd_ckl_cut 60 _ _ rd_k162_60 ?_ (by decide +kernel)
  rw [List.drop_drop]
  have h := rd_k162_120
  rw [List.take_of_length_le (by decide +kernel)] at h
  exact h
theorem rd_k163_0 : rd_ckl 163 0 ((rd_c163.drop 0).take 60) = true := by decide +kernel
theorem rd_k163_60 : rd_ckl 163 60 ((rd_c163.drop 60).take 60) = true := by decide +kernel
theorem rd_k163_120 : rd_ckl 163 120 ((rd_c163.drop 120).take 60) = true := by decide +kernel
theorem rd_k163_180 : rd_ckl 163 180 ((rd_c163.drop 180).take 60) = true := by decide +kernel
theorem rd_k163 : rd_ckl 163 0 rd_c163 = true := by
  refine rd_ckl_cut 60 _ _ rd_k163_0 ?_ (by decide +kernel)
  refine rd_ckl_cut 60 _ _ rd_k163_60 ?_ (by decide +kernel)
  rw [List.drop_drop]
  refine rd_ckl_cut 60 _ _ rd_k163_120 ?_ (by decide +kernel)
  rw [List.drop_drop]
  have h := rd_k163_180
  rw [List.take_of_length_le (by decide +kernel)] at h
  exact h
theorem rd_k164 : rd_ckl 164 0 rd_c164 = true := by decide +kernel
theorem rd_k165 : rd_ckl 165 0 rd_c165 = true := by decide +kernel
theorem rd_k166 : rd_ckl 166 0 rd_c166 = true := by decide +kernel
theorem rd_k167 : rd_ckl 167 0 rd_c167 = true := by decide +kernel
theorem rd_k168 : rd_ckl 168 0 rd_c168 = true := by decide +kernel
theorem rd_k169 : rd_ckl 169 0 rd_c169 = true := by decide +kernel
theorem rd_k170 : rd_ckl 170 0 rd_c170 = true := by decide +kernel
theorem rd_k171 : rd_ckl 171 0 rd_c171 = true := by decide +kernel
theorem rd_k172 : rd_ckl 172 0 rd_c172 = true := by decide +kernel
theorem rd_k173 : rd_ckl 173 0 rd_c173 = true := by decide +kernel
theorem rd_k174 : rd_ckl 174 0 rd_c174 = true := by decide +kernel
theorem rd_k175 : rd_ckl 175 0 rd_c175 = true := by decide +kernel
theorem rd_k176 : rd_ckl 176 0 rd_c176 = true := by decide +kernel
theorem rd_k177 : rd_ckl 177 0 rd_c177 = true := by decide +kernel
theorem rd_k178 : rd_ckl 178 0 rd_c178 = true := by decide +kernel
theorem rd_k179_0 : rd_ckl 179 0 ((rd_c179.drop 0).take 60) = true := by decide +kernel
theorem rd_k179_60 : rd_ckl 179 60 ((rd_c179.drop 60).take 60) = true := by decide +kernel
theorem rd_k179_120 : rd_ckl 179 120 ((rd_c179.drop 120).take 60) = true := by decide +kernel
theorem rd_k179 : rd_ckl 179 0 rd_c179 = true := by
  refine rd_ckl_cut 60 _ _ rd_k179_0 ?_ (by decide +kernel)
  refine rd_ckl_cut 60 _ _ rd_k179_60 ?_ (by decide +kernel)
  rw [List.drop_drop]
  have h := rd_k179_120
  rw [List.take_of_length_le (by decide +kernel)] at h
  exact h
theorem rd_k180 : rd_ckl 180 0 rd_c180 = true := by decide +kernel
theorem rd_k181_0 : rd_ckl 181 0 ((rd_c181.drop 0).take 60) = true := by decide +kernel
theorem rd_k181_60 : rd_ckl 181 60 ((rd_c181.drop 60).take 60) = true := by decide +kernel
theorem rd_k181_120 : rd_ckl 181 120 ((rd_c181.drop 120).take 60) = true := by decide +kernel
theorem rd_k181 : rd_ckl 181 0 rd_c181 = true := by
  refine rd_ckl_cut 60 _ _ rd_k181_0 ?_ (by decide +kernel)
  refine rd_ckl_cut 60 _ _ rd_k181_60 ?_ (by decide +kernel)
  rw [List.drop_drop]
  have h := rd_k181_120
  rw [List.take_of_length_le (by decide +kernel)] at h
  exact h
theorem rd_k182 : rd_ckl 182 0 rd_c182 = true := by decide +kernel
theorem rd_k183 : rd_ckl 183 0 rd_c183 = true := by decide +kernel
theorem rd_k184 : rd_ckl 184 0 rd_c184 = true := by decide +kernel
theorem rd_k185_0 : rd_ckl 185 0 ((rd_c185.drop 0).take 60) = true := by decide +kernel
theorem rd_k185_60 : rd_ckl 185 60 ((rd_c185.drop 60).take 60) = true := by decide +kernel
theorem rd_k185_120 : rd_ckl 185 120 ((rd_c185.drop 120).take 60) = true := by decide +kernel
theorem rd_k185 : rd_ckl 185 0 rd_c185 = true := by
  refine rd_ckl_cut 60 _ _ rd_k185_0 ?_ (by decide +kernel)
  refine rd_ckl_cut 60 _ _ rd_k185_60 ?_ (by decide +kernel)
  rw [List.drop_drop]
  have h := rd_k185_120
  rw [List.take_of_length_le (by decide +kernel)] at h
  exact h
theorem rd_k186 : rd_ckl 186 0 rd_c186 = true := by decide +kernel
theorem rd_k187 : rd_ckl 187 0 rd_c187 = true := by decide +kernel
theorem rd_k188 : rd_ckl 188 0 rd_c188 = true := by decide +kernel
theorem rd_k189 : rd_ckl 189 0 rd_c189 = true := by decide +kernel
theorem rd_k190 : rd_ckl 190 0 rd_c190 = true := by decide +kernel
theorem rd_k191 : rd_ckl 191 0 rd_c191 = true := by decide +kernel
theorem rd_k192 : rd_ckl 192 0 rd_c192 = true := by decide +kernel
theorem rd_k193 : rd_ckl 193 0 rd_c193 = true := by decide +kernel
theorem rd_k194_0 : rd_ckl 194 0 ((rd_c194.drop 0).take 60) = true := by decide +kernel
theorem rd_k194_60 : rd_ckl 194 60 ((rd_c194.drop 60).take 60) = true := by decide +kernel
theorem rd_k194_120 : rd_ckl 194 120 ((rd_c194.drop 120).take 60) = true := by decide +kernel
theorem rd_k194_180 : rd_ckl 194 180 ((rd_c194.drop 180).take 60) = true := by decide +kernel
theorem rd_k194_240 : rd_ckl 194 240 ((rd_c194.drop 240).take 60) = true := by decide +kernel
theorem rd_k194_300 : rd_ckl 194 300 ((rd_c194.drop 300).take 60) = true := by decide +kernel
theorem rd_k194_360 : rd_ckl 194 360 ((rd_c194.drop 360).take 60) = true := by decide +kernel
theorem rd_k194_420 : rd_ckl 194 420 ((rd_c194.drop 420).take 60) = true := by decide +kernel
theorem rd_k194_480 : rd_ckl 194 480 ((rd_c194.drop 480).take 60) = true := by decide +kernel
theorem rd_k194_540 : rd_ckl 194 540 ((rd_c194.drop 540).take 60) = true := by decide +kernel
theorem rd_k194_600 : rd_ckl 194 600 ((rd_c194.drop 600).take 60) = true := by decide +kernel
theorem rd_k194_660 : rd_ckl 194 660 ((rd_c194.drop 660).take 60) = true := by decide +kernel
theorem rd_k194_720 : rd_ckl 194 720 ((rd_c194.drop 720).take 60) = true := by decide +kernel
theorem rd_k194 : rd_ckl 194 0 rd_c194 = true := by
  refine rd_ckl_cut 60 _ _ rd_k194_0 ?_ (by decide +kernel)
  refine rd_ckl_cut 60 _ _ rd_k194_60 ?_ (by decide +kernel)
  rw [List.drop_drop]
  refine rd_ckl_cut 60 _ _ rd_k194_120 ?_ (by decide +kernel)
  rw [List.drop_drop]
  refine rd_ckl_cut 60 _ _ rd_k194_180 ?_ (by decide +kernel)
  rw [List.drop_drop]
  refine rd_ckl_cut 60 _ _ rd_k194_240 ?_ (by decide +kernel)
  rw [List.drop_drop]
  refine rd_ckl_cut 60 _ _ rd_k194_300 ?_ (by decide +kernel)
  rw [List.drop_drop]
  refine rd_ckl_cut 60 _ _ rd_k194_360 ?_ (by decide +kernel)
  rw [List.drop_drop]
  refine rd_ckl_cut 60 _ _ rd_k194_420 ?_ (by decide +kernel)
  rw [List.drop_drop]
  refine rd_ckl_cut 60 _ _ rd_k194_480 ?_ (by decide +kernel)
  rw [List.drop_drop]
  refine rd_ckl_cut 60 _ _ rd_k194_540 ?_ (by decide +kernel)
  rw [List.drop_drop]
  refine rd_ckl_cut 60 _ _ rd_k194_600 ?_ (by decide +kernel)
  rw [List.drop_drop]
  refine rd_ckl_cut 60 _ _ rd_k194_660 ?_ (by decide +kernel)
  rw [List.drop_drop]
  have h := rd_k194_720
  rw [List.take_of_length_le (by decide +kernel)] at h
  exact h
def rd_ckz : Nat → List (List rd_Et) → Prop
  | _, [] => True
  | k, l :: ls => rd_ckl k 0 l = true ∧ rd_ckz (k + 1) ls
theorem rd_ckz_ok : rd_ckz 0 rd_ct := ⟨rd_k0, rd_k1, rd_k2, rd_k3, rd_k4, rd_k5, rd_k6, rd_k7, rd_k8, rd_k9, rd_k10, rd_k11, rd_k12, rd_k13, rd_k14, rd_k15, rd_k16, rd_k17, rd_k18, rd_k19, rd_k20, rd_k21, rd_k22, rd_k23, rd_k24, rd_k25, rd_k26, rd_k27, rd_k28, rd_k29, rd_k30, rd_k31, rd_k32, rd_k33, rd_k34, rd_k35, rd_k36, rd_k37, rd_k38, rd_k39, rd_k40, rd_k41, rd_k42, rd_k43, rd_k44, rd_k45, rd_k46, rd_k47, rd_k48, rd_k49, rd_k50, rd_k51, rd_k52, rd_k53, rd_k54, rd_k55, rd_k56, rd_k57, rd_k58, rd_k59, rd_k60, rd_k61, rd_k62, rd_k63, rd_k64, rd_k65, rd_k66, rd_k67, rd_k68, rd_k69, rd_k70, rd_k71, rd_k72, rd_k73, rd_k74, rd_k75, rd_k76, rd_k77, rd_k78, rd_k79, rd_k80, rd_k81, rd_k82, rd_k83, rd_k84, rd_k85, rd_k86, rd_k87, rd_k88, rd_k89, rd_k90, rd_k91, rd_k92, rd_k93, rd_k94, rd_k95, rd_k96, rd_k97, rd_k98, rd_k99, rd_k100, rd_k101, rd_k102, rd_k103, rd_k104, rd_k105, rd_k106, rd_k107, rd_k108, rd_k109, rd_k110, rd_k111, rd_k112, rd_k113, rd_k114, rd_k115, rd_k116, rd_k117, rd_k118, rd_k119, rd_k120, rd_k121, rd_k122, rd_k123, rd_k124, rd_k125, rd_k126, rd_k127, rd_k128, rd_k129, rd_k130, rd_k131, rd_k132, rd_k133, rd_k134, rd_k135, rd_k136, rd_k137, rd_k138, rd_k139, rd_k140, rd_k141, rd_k142, rd_k143, rd_k144, rd_k145, rd_k146, rd_k147, rd_k148, rd_k149, rd_k150, rd_k151, rd_k152, rd_k153, rd_k154, rd_k155, rd_k156, rd_k157, rd_k158, rd_k159, rd_k160, rd_k161, rd_k162, rd_k163, rd_k164, rd_k165, rd_k166, rd_k167, rd_k168, rd_k169, rd_k170, rd_k171, rd_k172, rd_k173, rd_k174, rd_k175, rd_k176, rd_k177, rd_k178, rd_k179, rd_k180, rd_k181, rd_k182, rd_k183, rd_k184, rd_k185, rd_k186, rd_k187, rd_k188, rd_k189, rd_k190, rd_k191, rd_k192, rd_k193, rd_k194, trivial⟩
theorem rd_ckl_at {k : Nat} : ∀ (l : List rd_Et) (i0 i : Nat) (e : rd_Et), rd_ckl k i0 l = true → rd_nth l i = some e → rd_ck k (i0 + i) e = true := by
  intro l
  induction l with
  | nil => intro i0 i e _ h; cases h
  | cons a l ih =>
    intro i0 i e hc h
    rw [rd_ckl, Bool.and_eq_true] at hc
    cases i with
    | zero => rw [rd_nth] at h; cases h; exact hc.1
    | succ i =>
      rw [rd_nth] at h
      have := ih (i0 + 1) i e hc.2 h
      rwa [show i0 + 1 + i = i0 + (i + 1) by omega] at this
theorem rd_ckz_at : ∀ (ls : List (List rd_Et)) (k0 k : Nat) (l : List rd_Et), rd_ckz k0 ls → rd_nth ls k = some l → rd_ckl (k0 + k) 0 l = true := by
  intro ls
  induction ls with
  | nil => intro k0 k l _ h; cases h
  | cons a ls ih =>
    intro k0 k l hc h
    rw [rd_ckz] at hc
    cases k with
    | zero => rw [rd_nth] at h; cases h; exact hc.1
    | succ k =>
      rw [rd_nth] at h
      have := ih (k0 + 1) k l hc.2 h
      rwa [show k0 + 1 + k = k0 + (k + 1) by omega] at this
theorem rd_ck_ok {k i : Nat} {e : rd_Et} (h : rd_look k i = some e) : rd_ck k i e = true := by
  unfold rd_look at h
  cases hl : rd_nth rd_ct k with
  | none => rw [hl] at h; cases h
  | some l =>
    rw [hl] at h
    have h1 := rd_ckz_at _ 0 k l rd_ckz_ok hl
    have h2 := rd_ckl_at l 0 i e h1 h
    simpa using h2
theorem rd_nth_mem {α : Type} : ∀ {l : List α} {i : Nat} {a : α}, rd_nth l i = some a → a ∈ l := by
  intro l
  induction l with
  | nil => intro i a h; cases h
  | cons b l ih =>
    intro i a h
    cases i with
    | zero => rw [rd_nth] at h; cases h; exact List.mem_cons_self
    | succ i => rw [rd_nth] at h; exact List.mem_cons_of_mem _ (ih h)
theorem rd_dz_at : ∀ (ls : List (List rd_Et)) (ms : List rd_M) (k : Nat) (l : List rd_Et) (m : rd_M), rd_dz ls ms → rd_nth ls k = some l → rd_nth ms k = some m → ∀ e ∈ l, decode m.2.1 e.1 = .ok (e.2.1, e.2.2.1) := by
  intro ls
  induction ls with
  | nil => intro ms k l m _ h; cases h
  | cons a ls ih =>
    intro ms k l m hd h1 h2
    cases ms with
    | nil => cases h2
    | cons b ms =>
      obtain ⟨ha, hd⟩ := hd
      cases k with
      | zero => rw [rd_nth] at h1 h2; cases h1; cases h2; exact ha
      | succ k => rw [rd_nth] at h1 h2; exact ih ms k l m hd h1 h2
theorem rd_dec {k i pc len : Nat} {ins : Instr} {aux : List Nat} (h : rd_look k i = some (pc, ins, len, aux)) {y : MethodName} {b : ByteArray} {L : Nat} {ret : Option FieldType} (hm : rd_nth rd_mt k = some (y, b, L, ret)) : decode b pc = .ok (ins, len) := by
  unfold rd_look at h
  cases hl : rd_nth rd_ct k with
  | none => rw [hl] at h; cases h
  | some l =>
    rw [hl] at h
    have h' : rd_nth l i = some (pc, ins, len, aux) := h
    have h2 := rd_dz_at rd_ct rd_mt k l (y, b, L, ret) rd_dz_ok hl hm (pc, ins, len, aux) (rd_nth_mem h')
    exact h2
-- the words
def rd_tb : List Cond := lw_tbl.filter goodWord
theorem rd_tb_mem {p : Nat} {w : Cond} (h : lw_tbl[p]? = some w) (hg : goodWord w = true) : w ∈ rd_tb := List.mem_filter.mpr ⟨List.mem_of_getElem? h, hg⟩
-- the words
def rd_flc (e : Nat × Nat × Nat × Nat × Nat) : Bool := match e with
  | (oc, idx, ci, sl, p) => match rd_nth rd_cn oc, rd_nth vwCl ci with
    | some own, some (_, T, n) => if sl = 999 then Nat.beq ci 1 && decide (lw_tbl[p]? = some (.fieldLink own idx "RehearsalDesk$Cues" "LIMITS" "[I")) else Nat.blt sl n && decide (lw_tbl[p]? = some (.fieldLink own idx (T sl).1 (T sl).2.1 (T sl).2.2.1))
    | _, _ => false
theorem rd_all_cut {α : Type} {f : α → Bool} (n : Nat) (l : List α) (h1 : (l.take n).all f = true) (h2 : (l.drop n).all f = true) : l.all f = true := by
  rw [← List.take_append_drop n l, List.all_append, h1, h2]
  rfl
theorem rd_fl_ok_0 : ((rd_fl.drop 0).take 41).all rd_flc = true := by decide +kernel
theorem rd_fl_ok_41 : ((rd_fl.drop 41).take 41).all rd_flc = true := by decide +kernel
theorem rd_fl_ok_82 : ((rd_fl.drop 82).take 41).all rd_flc = true := by decide +kernel
theorem rd_fl_ok_123 : ((rd_fl.drop 123).take 41).all rd_flc = true := by decide +kernel
theorem rd_fl_ok : rd_fl.all rd_flc = true := by
  refine rd_all_cut 41 _ rd_fl_ok_0 ?_
  refine rd_all_cut 41 _ rd_fl_ok_41 ?_
  rw [List.drop_drop]
  refine rd_all_cut 41 _ rd_fl_ok_82 ?_
  rw [List.drop_drop]
  have h := rd_fl_ok_123
  rw [List.take_of_length_le (by decide +kernel)] at h
  exact h
def rd_mlc (e : Nat × Nat × Nat × Nat) : Bool := match e with
  | (oc, idx, k2, p) => match rd_nth rd_cn oc with
    | some own => if k2 = 1000 then decide (lw_tbl[p]? = some (.methodLink own idx arraycopyName)) else if k2 = 1001 then decide (lw_tbl[p]? = some (.methodLink own idx Lib.Math.min.name)) else if k2 = 2000 then decide (lw_tbl[p]? = some (.methodLink own idx objectInit)) else (match rd_nth rd_mt k2 with
      | some (y, _, _, _) => decide (lw_tbl[p]? = some (.methodLink own idx y))
      | none => false)
    | none => false
theorem rd_ml_ok_0 : ((rd_ml.drop 0).take 41).all rd_mlc = true := by decide +kernel
theorem rd_ml_ok_41 : ((rd_ml.drop 41).take 41).all rd_mlc = true := by decide +kernel
theorem rd_ml_ok_82 : ((rd_ml.drop 82).take 41).all rd_mlc = true := by decide +kernel
theorem rd_ml_ok_123 : ((rd_ml.drop 123).take 41).all rd_mlc = true := by decide +kernel
theorem rd_ml_ok_164 : ((rd_ml.drop 164).take 41).all rd_mlc = true := by decide +kernel
theorem rd_ml_ok_205 : ((rd_ml.drop 205).take 41).all rd_mlc = true := by decide +kernel
theorem rd_ml_ok : rd_ml.all rd_mlc = true := by
  refine rd_all_cut 41 _ rd_ml_ok_0 ?_
  refine rd_all_cut 41 _ rd_ml_ok_41 ?_
  rw [List.drop_drop]
  refine rd_all_cut 41 _ rd_ml_ok_82 ?_
  rw [List.drop_drop]
  refine rd_all_cut 41 _ rd_ml_ok_123 ?_
  rw [List.drop_drop]
  refine rd_all_cut 41 _ rd_ml_ok_164 ?_
  rw [List.drop_drop]
  have h := rd_ml_ok_205
  rw [List.take_of_length_le (by decide +kernel)] at h
  exact h
def rd_clc (e : Nat × Nat × Nat × Nat × Nat × Nat) : Bool := match e with
  | (oc, idx, ci, p, pi, pz) => match rd_nth rd_cn oc, rd_nth vwCl ci with
    | some own, some (C, _, n) => decide (lw_tbl[p]? = some (.classLink own idx C)) && decide (lw_tbl[pi]? = some (.instantiable C n)) && decide (lw_tbl[pz]? = some (.initialized C))
    | _, _ => false
theorem rd_cl_ok : rd_cl.all rd_clc = true := by decide +kernel
