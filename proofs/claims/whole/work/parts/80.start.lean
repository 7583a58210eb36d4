/-! THE CLAIM OUT OF ONE WALK OF THE LAW'S BODY. Your part is whole_start (and what it stands on); all else here is the same for every law, but numbers. -/
def R_law : String := "RehearsalDeskLaw"
def lw_P (b : Addr) (xs : List Int32) (args : Array Value) (s : State) : Prop := args = #[.ref b] ∧ s.IntsAt b xs ∧ xs.length ≤ 3072 ∧ (Jvm.Cond.and given_1 narrow_1).before args s = true
def lw_Q (_ : Array Value) (s : State) (o : Outcome) (t : State) : Prop := o = .returned (some (.int 1)) ∧ Framed s o t [] 600000 7302250
def lw_Z (below : List Frame) (a : Array Value) (s : State) : State → Prop := fun t => ∃ o, t.status = .running ∧ Ended t below o ∧ lw_Q a s o t
/-- the law's own end, with 1 on the stack, nothing written that was there before, its room as the claim has it -/
theorem lw_ret {p : Program} {l : Launch} {e : Env} {s : State} {m : MethodId} {below : List Frame} {meth : Method} {c : Code} {b : Nat} (hx : p.tables.exec = Jvm.exec) (hb : c.code = code) (hr : meth.sig.returnType = ret) (hlocks : meth.locks = false) {pc : Nat} {H : Heap} {ls : Array Slot} (hdg : decode code pc = .ok (.ireturn, 1)) : W p l e room_1 s m #[Value.ref b] below meth c H [] 600000 7302250 (lw_Z below #[Value.ref b] s) (F0 m pc ls [.int 1]) := by
  intro T hT X
  obtain ⟨fs, hret, hrun, hended, hW, hframe⟩ := X.leave (v := some (.int 1)) (hlocks := hlocks) (fun h => by rw [hr] at h; cases h)
  have hmeth' : T.vm.method? m = some meth := X.method'
  refine ⟨T.setFrames fs, ?_, .returned (some (.int 1)), hrun, hended, rfl, ⟨_, rfl⟩, hW, hframe⟩
  jvm_step X.here [X.here.top, hx, hb, hdg, hmeth', hr, ret, narrow_b1]
  (try refine ⟨rfl, ?_⟩); (try refine ⟨rfl, ?_⟩)
  first | (intro acts; rw [hret _ acts rfl rfl rfl]) | rw [hret _ _ rfl rfl rfl]
  exact Steps.refl _
/-- what holds at the law's entry: the machine, the code, the tables' words (any of lw_tbl by 'hts w (by decide +kernel)'), the script of L ints xs at the cell b, what the Statement gives of the start (any of its parts by flat_of_before) -/
def lw_At (p : Program) (s : State) (m : MethodId) (meth : Method) (c : Code) (b L : Nat) (xs : Nat → Int32) : Prop :=
  p.tables.exec = Jvm.exec ∧ c.code = code ∧ meth.sig.returnType = ret ∧ c.maxLocals = 4 ∧ s.vm.findClass R_law = some m.cls ∧ (∀ w ∈ lw_tbl, w.before #[Value.ref b] s = true) ∧ va_X b L xs s s.heap ∧ b < s.heap.size ∧ meth.locks = false ∧ (Jvm.Cond.and given_1 narrow_1).before #[Value.ref b] s = true
/-! the start -/
theorem lw_inst : ∀ q ∈ vwCl, Cond.instantiable q.1 q.2.2 ∈ rd_tb := by decide +kernel
theorem lw_cls (s : State) (args : Array Value) (hw : ∀ w ∈ rd_tb, w.before args s = true) : ∃ D : va_G, ∀ (k : Nat) (q : vw_C), vwCl[k]? = some q → u_Kn s q.1 q.2.1 q.2.2 (D.1 k) (D.2 k) := by
  have H : ∀ k : Nat, ∃ z : ClassId × (Nat → Nat), ∀ q : vw_C, vwCl[k]? = some q → u_Kn s q.1 q.2.1 q.2.2 z.1 z.2 := by
    intro k
    cases hk : vwCl[k]? with
    | none => exact ⟨(0, fun _ => 0), fun q h => by cases h⟩
    | some q0 =>
      obtain ⟨C, T, N⟩ := q0
      have hv : rd_nth vwCl k = some (C, T, N) := by rw [rd_nth_get]; exact hk
      obtain ⟨hin, -⟩ := rd_cfact hv
      obtain ⟨cC, iS, h⟩ := u_known hw hin (hw _ (lw_inst _ (List.mem_of_getElem? hk)))
      exact ⟨(cC, iS), fun q hq => by cases hq; exact h⟩
  exact ⟨(fun k => (H k).choose.1, fun k => (H k).choose.2), fun k q hq => (H k).choose_spec q hq⟩
theorem lw_arr {s : State} {args : Array Value} {ty : FieldType} (h : (Cond.arrayClass ty).before args s = true) (hty : ty = .int ∨ ty = .boolean) : ∃ cA, ArrOfT s cA ty ∧ va_RA s cA ty := by
  obtain ⟨cA, kA, comp, hfind, hk, hkind⟩ := Cond.arrayClass_spec h
  refine ⟨cA, fun n z => ⟨fun k h => (by cases h), kA, hk, comp, hkind⟩, ?_⟩
  rcases hty with rfl | rfl <;> exact hfind
def lw_el (j : Nat) : Cond := .eq (.elem (.static "RehearsalDesk$Cues" "LIMITS" "[I") (.int (Int32.ofNat j))) (.int (rd_lim j))
theorem lw_els : (List.range 60).map lw_el = ((flatC (Jvm.Cond.and given_1 narrow_1)).drop 7).take 60 := by decide +kernel
theorem lw_lays : Cond.laysStatic "RehearsalDesk$Cues" "LIMITS" "[I" ∈ lw_tbl := by decide +kernel
theorem lw_ini : Cond.initialized "RehearsalDesk$Cues" ∈ lw_tbl := by decide +kernel
theorem lw_arI : Cond.arrayClass .int ∈ lw_tbl := by decide +kernel
theorem lw_arZ : Cond.arrayClass .boolean ∈ lw_tbl := by decide +kernel
theorem lw_harr : Cond.arrayOf (.static "RehearsalDesk$Cues" "LIMITS" "[I") .int ∈ flatC (Jvm.Cond.and given_1 narrow_1) := by decide +kernel
theorem lw_hlen : Cond.eq (.length (.static "RehearsalDesk$Cues" "LIMITS" "[I")) (.int 60) ∈ flatC (Jvm.Cond.and given_1 narrow_1) := by decide +kernel
theorem lw_mt : rd_nth rd_mt 194 = some (yL_law, cL_law, 4, some .boolean) := by rfl
theorem lw_rm : rd_nth rd_rm 194 = some (10, 600000, 7302250, 406) := by rfl
theorem lw_ret194 : rd_ret 194 = some .boolean := by rfl
theorem lw_ev (ρ : Nat × (Nat → Int32)) (hL : ρ.1 ≤ 3072) : ∃ n σ2, rd_ev rd_S0 (rd_ro ρ) n 194 10 rd_vs0 [] (rd_num rd_wr0) = some (some (.int 1), σ2) := by
  obtain ⟨σ2, h⟩ := lw_ends ρ hL
  have h : rd_R0 rd_S0 (rd_ro ρ) 194 10 rd_vs0 [] (rd_num rd_wr0) = some (1, σ2) := h
  unfold rd_R0 at h
  cases hE : rd_E rd_S0 (rd_ro ρ) 194 10 rd_vs0 [] (rd_num rd_wr0) with
  | none => rw [hE] at h; cases h
  | some q =>
    obtain ⟨r, σ1⟩ := q
    rw [hE] at h
    obtain ⟨n, hn⟩ := rd_E_iff.mp hE
    rcases rd_ev_ret n hn with ⟨hr, -⟩ | ⟨-, v, hr⟩
    · rw [lw_ret194] at hr; cases hr
    · subst hr
      have h : some (v, σ1) = some ((1 : Int32), σ2) := h
      have e := (Prod.mk.inj (Option.some.inj h)).1
      subst e
      exact ⟨n, σ1, hn⟩
set_option maxRecDepth 100000 in
set_option maxHeartbeats 4000000 in
/-- from the entry, for every script of at most 3072 ints, the law comes to its end with true -/
theorem whole_start {p : Program} {e : Env} {s : State} {m : MethodId} {below : List Frame} {meth : Method} {c : Code} (l : Launch) {b L : Nat} {xs : Nat → Int32} (hL : L ≤ 3072) (C0 : lw_At p s m meth c b L xs) : W p l e room_1 s m #[Value.ref b] below meth c s.heap [] 0 0 (lw_Z below #[Value.ref b] s) (entryFrame m ([Value.ref b] : List Value).toArray 4) := by
  obtain ⟨hx, hb, hr, hml, hown, hts, hX, hbl, hlocks, hgv⟩ := C0
  have hfl := flat_of_before _ hgv
  have hw : ∀ w ∈ rd_tb, w.before #[Value.ref b] s = true := fun w h => hts w (List.mem_filter.mp h).1
  obtain ⟨D, hD⟩ := lw_cls s #[Value.ref b] hw
  obtain ⟨cI, hI1, hI2⟩ := lw_arr (hts _ lw_arI) (Or.inl rfl)
  obtain ⟨cZ, hZ1, hZ2⟩ := lw_arr (hts _ lw_arZ) (Or.inr rfl)
  have hK : va_K D vwCl [(cI, .int), (cZ, .boolean)] s := by
    refine ⟨hD, fun k q hq => ?_⟩
    match k, hq with
    | 0, hq => cases hq; exact ⟨hI1, hI2⟩
    | 1, hq => cases hq; exact ⟨hZ1, hZ2⟩
    | k + 2, hq => cases hq
  have hA : ∀ a : Nat, a < s.heap.size → ¬ (fun q : Nat => s.heap.size ≤ q) a := fun a ha => Nat.not_le.mpr ha
  obtain ⟨t, ht, hT⟩ := va_Tof (tm := .static "RehearsalDesk$Cues" "LIMITS" "[I") (ty := .int) (N := 60) (f := fun j => .int (rd_lim j)) (A := fun q => s.heap.size ≤ q) (by decide) (hfl _ lw_harr) (va_eqt (hfl _ lw_hlen)) (fun j hj => va_eqt (hfl _ (va_run lw_els j hj))) hA
  have hZ := va_Zref (A := fun q => s.heap.size ≤ q) (hts _ lw_lays) (hts _ lw_ini) ht hA
  have htl : t < s.heap.size := Nat.not_le.mp hT.out
  have hIn : rd_In D cI cZ (fun q => if q = 100000 then t else b) s.heap.size (L, xs) s := ⟨hK, hZ, hT, hX, htl, hbl, Nat.le_refl _⟩
  have hF : rd_Fr p room_1 s m #[Value.ref b] c 194 := ⟨yL_law, cL_law, 4, some .boolean, 10, 600000, 7302250, 406, lw_mt, hx, hb, hml, hown, hw, lw_rm, by decide, by decide⟩
  obtain ⟨cu, su, hav⟩ := rd_made0
  obtain ⟨hWA, -⟩ := rd_av_ok (l := l) (D := D) (cI := cI) (cZ := cZ) (base := s.heap.size) (ρ := (L, xs)) 1000 194 rd_q0 _ hav
  have hmc : rd_mc 194 = (600000, 7302250) := rfl
  have hL0 := rd_ent_ls (ad := fun q => if q = 100000 then t else b) (k := 194) (L := 4) (as := [.ref 100001]) rfl (by decide) rfl
  rw [lg_entry_eq]
  refine hWA p e room_1 s m _ below meth c _ s.heap [] _ 0 (fun q => if q = 100000 then t else b) hF (by rw [hmc]; exact ⟨Nat.le_refl _, Nat.le_refl _⟩) (fun h => by rw [rd_mi194] at h; cases h) ⟨hIn, rfl, ⟨fun k q h => (by cases h), ⟨fun i j p q h => (by cases h), fun k q h => (by cases h)⟩, va_S.rf⟩, by rw [hml]; exact hL0, rfl, Nat.zero_le _, Nat.zero_le _⟩ ?_
  intro ad' H' locs' ls' pc' hag hAt
  obtain ⟨hI', hpc', hH', hl', -, hc', hs'⟩ := hAt
  obtain ⟨n, σ2, hev⟩ := lw_ev (L, xs) hL
  rw [hmc] at hc' hs'
  refine rd_ok n 194 10 rd_vs0 [] (rd_num rd_wr0) σ2 (some (.int 1)) hev p e room_1 s m _ below meth c cu su _ H' locs' ls' pc' hF hI' hpc' hH' hl' rfl ⟨hc', hs'⟩ ?_
  intro i2 pc2 vs2 st2 H2 locs2 ls2 hpc2 hact hH2
  obtain ⟨-, pc3, len, aux, ⟨hlk, v, hst, hrv⟩ | ⟨-, -, hrv⟩⟩ := rd_act_end hact
  · rw [mz_194] at hrv
    have hv : v = 1 := (Value.int.inj (Option.some.inj hrv)).symm
    subst hv
    subst hst
    have hpce := rd_pc_of hlk hpc2
    subst hpce
    have hdg := rd_dec hlk lw_mt
    have hck := rd_ck_ok hlk
    simp only [rd_ck, Bool.and_eq_true] at hck
    cases rd_beq hck.1
    refine W.widen (k := 600000) (n := 7302250) hc' hs' ?_
    refine va_forget (fun q hq => hH2.2.2.2.2 q hq) ?_
    exact lw_ret hx hb hr hlocks hdg
  · cases hrv
set_option maxHeartbeats 4000000 in
theorem lw_walk (l : Launch) (b : Addr) (xs : List Int32) : MetFree l x (headSpec (Jvm.Cond.code x code maxLocals ret :: tables_1) room_1) (lw_P b xs) (fun _ _ _ _ _ => True) lw_Q := by
  refine MetFree.of_bodyS (code := code) (maxLocals := maxLocals) (ret := ret) (by decide) ?_ ?_
  · intro args s m h hn
    obtain ⟨meth, c, h1, h2, h3, h4, h5, h6, -, -⟩ := Cond.code_spec hn (atoms_spec (ws := Jvm.Cond.code x code maxLocals ret :: tables_1) h _ List.mem_cons_self)
    exact ⟨meth, c, h1, h2, h3, h4, h5, h6⟩
  · intro p e s m args below meth c s₁ B hml0 hP _
    obtain ⟨rfl, hx, hbd, hgv⟩ := hP
    obtain ⟨scr, harrAt, hlist, hof, hsmall⟩ := hx
    obtain ⟨hcb, hkn, -, -⟩ := State.arrayAt?_spec harrAt
    have hown : s.vm.findClass R_law = some m.cls := findClass_of_methodNamed B.named
    have hts0 : ∀ c ∈ (Jvm.Cond.code x code maxLocals ret :: tables_1), c.before #[Value.ref b] s = true := atoms_spec (ws := Jvm.Cond.code x code maxLocals ret :: tables_1) B.pre
    have hts : ∀ w ∈ lw_tbl, w.before #[Value.ref b] s = true := k2_hts_sels lw_privs (fun w hw => hts0 w (List.mem_cons_of_mem _ hw)) lw_privs_ok
    have hml : c.maxLocals = 4 := B.maxLocals_eq (hts0 _ List.mem_cons_self)
    have X₀ : Stand p l e room_1 s m #[Value.ref b] below meth c s₁ [] 0 0 := Stand.of_body B
    have hh0 : s₁.heap = s.heap := by rw [B.state]; rfl
    have hsz : scr.slots.size = xs.length := by rw [← Array.length_toList, hlist, List.length_map]
    have hval : ∀ j : Nat, j < xs.length → scr.slots[j]? = some (.int (xs.getD j 0)) := fun j hj => by
      rw [← Array.getElem?_toList, hlist]
      simp [hj]
    have hbl : b < s.heap.size := (Array.getElem?_eq_some_iff.mp hcb).1
    have hX : va_X b xs.length (fun j => xs.getD j 0) s s.heap := ⟨scr, hcb, hof, hkn, hsz, hval⟩
    have K : W p l e room_1 s m #[Value.ref b] below meth c s₁.heap [] 0 0 (lw_Z below #[Value.ref b] s) (entryFrame m ([Value.ref b] : List Value).toArray 4) := by
      rw [hh0]
      exact whole_start l hbd ⟨B.exec, B.bytes, B.returns, hml, hown, hts, hX, hbl, B.notSynchronized, hgv⟩
    obtain ⟨t, a1, o, b1, b2, b3⟩ := K s₁ rfl X₀
    exact ⟨t, o, a1, b1, b2, b3⟩
theorem lw_pre_spec {args : Array Value} {s : State} (h : (Jvm.Cond.and given_1 narrow_1).before args s = true) (hr : rest_1_c.before args s = true) : ∃ (b : Addr) (xs : List Int32), lw_P b xs args s := by
  have hs := flat_of_before _ h
  have hq := flat_of_before _ hr
  have hc : (Cond.count 1).before args s = true := hs _ (by decide +kernel)
  have harr : (Cond.arrayOf (.arg 0) .int).before args s = true := hs _ (by decide +kernel)
  have hle : (Cond.le (.length (.arg 0)) (.int 3072)).before args s = true := hs _ (by decide +kernel)
  have hlen : (Cond.isInt (.length (.arg 0))).before args s = true := hq _ (by decide +kernel)
  have hall : (Cond.all (.arg 0) (.isInt (.elem (.arg 0) (.index 0)))).before args s = true := hq _ (by decide +kernel)
  obtain ⟨b, xs, hb, hx⟩ := State.ints_of_pre rfl harr hlen hall
  have hsm : xs.length < 2 ^ 31 := hx.choose_spec.2.2.2
  have hev : (Term.length (.arg 0)).eval args s none [] s = some (.int xs.length.toInt32) := hx.length_eval hb
  have hv := Cond.le_ints hev (show (Term.int 3072).eval args s none [] s = some (.int 3072) from rfl)
  have hd : xs.length.toInt32 ≤ 3072 := by
    simpa [Cond.before, Cond.holds, hv] using hle
  have hN : xs.length ≤ 3072 := (Int32.ofNat_le_ofNat hsm (by decide)).mp (show Int32.ofNat xs.length ≤ Int32.ofNat 3072 from hd)
  exact ⟨b, xs, Cond.one_arg hc (show args[0]? = some (.ref b) from hb), hx, hN, h⟩
theorem lw_comes (l : Launch) : Comes l x (Jvm.Cond.code x code maxLocals ret :: tables_1) room_1 (fun tb e args s => Calls_1 tb e args s ∧ rest_1 tb e args s ∧ Pre_1 tb e args s)
    (fun _ _ args s o t => lw_Q args s o t) := by
  intro p e ha hc hk s m args below hf hfit hheap happ hpre
  obtain ⟨b, xs, hP⟩ := lw_pre_spec hpre.2.2 hpre.2.1
  obtain ⟨k, o, h1, h2, h3, hQ⟩ := lw_walk l b xs p e ha hc hk s m args below hf ((Spec.applies_iff_loose hf).mp happ).1 hP trivial
  exact ⟨k, o, h1, h2, h3, hQ⟩
theorem lw_frame {s t : State} {o : Outcome} {args : Array Value} (h : Framed s o t [] 600000 7302250) :
    Framed s o t (fieldLocs frame_1_writes args s ++ arrayLocs frame_1_arrays args s ++ staticLocs frame_1_statics s) 600000 7302250 := h
theorem lw_limb (L : Cond) (hL : ∀ (args : Array Value) (s t : State), L.after args s (.returned (some (.int 1))) t = true) :
    ArmFor flags0 classFile x code maxLocals ret World_1 tables_1 room_1 Calls_1 rest_1 Pre_1
      (fun tb e a s o t => postC L tb e a s o t ∧ Framed s o t (fieldLocs frame_1_writes a s ++ arrayLocs frame_1_arrays a s ++ staticLocs frame_1_statics s) 600000 7302250) := by
  intro l _ _ _ p e ha hc hk s m args below hf hfit hheap happ hpre
  obtain ⟨k, o, h1, h2, h3, rfl, hF⟩ := lw_comes l p e ha hc hk s m args below hf hfit hheap happ hpre
  exact ⟨k, _, h1, h2, h3, hL args s _, lw_frame hF⟩
theorem i_vc : Claimed_1_1 ∧ Claimed_1_2 := ⟨lw_limb limb_1_1 (fun args s t => by simp [limb_1_1, Cond.after, Cond.holds, Cond.value]), lw_limb limb_1_2 (fun args s t => Cond.after_iff.mpr (by
  first | (rw [show limb_1_2 = Cond.eq .result (.int 1) from rfl, Cond.eq_ints (x := 1) (y := 1) rfl rfl]; simp; done) | (simp [limb_1_2, Cond.value, Term.eval]; done)))⟩
