/-! One step of the small machine is the machine's. -/
/-- the frame that runs method k -/
def rd_Fr (p : Program) (R : Room) (s : State) (m : MethodId) (args : Array Value) (c : Code) (k : Nat) : Prop :=
  ∃ (y : MethodName) (b : ByteArray) (L : Nat) (ret : Option FieldType) (fr mc ms lo : Nat), rd_nth rd_mt k = some (y, b, L, ret) ∧ p.tables.exec = Jvm.exec ∧ c.code = b ∧ c.maxLocals = L ∧ s.vm.findClass y.cls = some m.cls ∧ (∀ w ∈ rd_tb, w.before args s = true) ∧ rd_nth rd_rm k = some (fr, mc, ms, lo) ∧ fr ≤ R.frames ∧ lo ≤ R.locals
theorem rd_sw_at {x : Int32} : ∀ (ts : List Nat) (lo : Int) (d : Nat), -2147483648 ≤ lo → lo + ts.length ≤ 2147483648 → rd_sw x lo ts d = if x.toInt < lo ∨ lo + ts.length ≤ x.toInt then d else (rd_nth ts (x.toInt - lo).toNat).getD d := by
  intro ts
  induction ts with
  | nil =>
    intro lo d h1 h2
    rw [rd_sw, if_pos]
    simp
    omega
  | cons t ts ih =>
    intro lo d h1 h2
    simp only [List.length_cons] at h2
    have e : (x = Int32.ofInt lo) ↔ x.toInt = lo := by
      rw [← Int32.toInt_inj, Int32.toInt_ofInt_of_le (by simpa using h1) (by push_cast at h2; omega)]
    rw [rd_sw]
    by_cases hx : x.toInt = lo
    · rw [if_pos (e.mpr hx), if_neg (by simp only [List.length_cons]; push_cast; omega)]
      rw [show (x.toInt - lo).toNat = 0 by omega]
      rfl
    · rw [if_neg (fun q => hx (e.mp q)), ih (lo + 1) d (by omega) (by push_cast at h2 ⊢; omega)]
      simp only [List.length_cons]
      by_cases hc : x.toInt < lo ∨ lo + (ts.length + 1 : Nat) ≤ x.toInt
      · rw [if_pos hc, if_pos (by push_cast at hc ⊢; omega)]
      · rw [if_neg hc, if_neg (by push_cast at hc ⊢; omega)]
        rw [show (x.toInt - lo).toNat = (x.toInt - (lo + 1)).toNat + 1 by push_cast at hc; omega, rd_nth]
theorem rd_tz_at {k pc : Nat} : ∀ {ts : List Nat} {os : List Int} {j : Nat} {t : Nat}, rd_tz k pc ts os = true → rd_nth ts j = some t → ∃ o : Int, os[j]? = some o ∧ rd_nx k t ((pc : Int) + o) = true := by
  intro ts
  induction ts with
  | nil => intro os j t _ h; cases h
  | cons a ts ih =>
    intro os j t h hj
    cases os with
    | nil => simp [rd_tz] at h
    | cons o os =>
      rw [rd_tz, Bool.and_eq_true] at h
      cases j with
      | zero => rw [rd_nth] at hj; cases hj; exact ⟨o, rfl, h.1⟩
      | succ j => rw [rd_nth] at hj; obtain ⟨o', h1, h2⟩ := ih h.2 hj; exact ⟨o', by simpa using h1, h2⟩
section RDJ
variable {p : Program} {l : Launch} {e : Env} {R : Room} {s : State} {m : MethodId} {args : Array Value} {below : List Frame} {meth : Method} {c : Code} {cells slots : Nat} {Q : State → Prop}
variable {D : va_G} {cI cZ : ClassId} {ad : Nat → Nat} {base : Nat} {ρ : Nat × (Nat → Int32)} {S : List rd_Sh}
variable {H : Heap} {locs : List Loc} {ls : Array Slot} {cc : ByteArray}
theorem rd_tt (b : Bool) : ∃ t0 : Nat, ([(cI, .int), (cZ, .boolean)] : List (ClassId × FieldType))[t0]? = some (if b = true then cZ else cI, if b = true then .boolean else .int) := by
  cases b
  · exact ⟨0, rfl⟩
  · exact ⟨1, rfl⟩
/-- reading an array -/
theorem rd_ald_ok {b : Bool} {i : Nat} {vs vs' : rd_Lv} {st st' : List Value} {σ σ' : rd_Sg} {i' pc : Nat} (hx : p.tables.exec = Jvm.exec) (hb : c.code = cc) (hI : rd_In D cI cZ ad base ρ s) (hH : rd_Hp D cI cZ ad base S s H locs σ) (hst : st.all rd_one = true)
    (ha : rd_ald S (rd_ro ρ) b vs i st σ = some (.inr (.inl (i', vs', st', σ')))) (hdg : decode cc pc = .ok (if b = true then .baload else .iaload, 1))
    (kk : i' = i + 1 → vs' = vs → σ' = σ → st'.all rd_one = true → W p l e R s m args below meth c H locs cells slots Q (F0 m (pc + 1) ls (st'.map (rd_cv ad)))) : W p l e R s m args below meth c H locs cells slots Q (F0 m pc ls (st.map (rd_cv ad))) := by
  unfold rd_ald at ha
  split at ha
  · rename_i j cl st0
    split at ha
    · rename_i n f hr
      split at ha
      · cases ha
      · rename_i hin
        cases ha
        have kk := kk rfl rfl rfl (by simpa [rd_one] using hst)
        show W p l e R s m args below meth c H locs cells slots Q (F0 m pc ls (.int j :: .ref (ad cl) :: st0.map (rd_cv ad)))
        have kk : W p l e R s m args below meth c H locs cells slots Q (F0 m (pc + 1) ls (.int (f j.toNatClampNeg) :: st0.map (rd_cv ad))) := kk
        unfold rd_rd at hr
        split at hr
        · rename_i n' b' hsh
          split at hr
          · rename_i hb'
            subst hb'
            cases hr
            have hw := rd_wd_0 (cI := cI) (cZ := cZ) (ad := ad) (σ := σ) hsh
            cases b'
            · exact va_iald hx hb hI.1 hH.1 cl 0 hw rfl hin hdg kk
            · exact va_zald hx hb hI.1 hH.1 cl 1 hw rfl hin hdg kk
          · cases hr
        · cases hr
        · split at hr
          · cases hr
          · rename_i hbf
            have hbf : b = false := by cases b <;> simp_all
            subst hbf
            unfold rd_ro at hr
            obtain ⟨-, -, hz, h1, h2, h3, h4⟩ := hI
            split at hr
            · rename_i hc
              subst hc
              cases hr
              exact va_ti hx hb hz hH.2.2 hin rfl hdg kk
            · split at hr
              · rename_i hc
                subst hc
                cases hr
                exact va_sld hx hb h1 (by omega) (by omega) hH.2.2 hin hdg kk
              · cases hr
    · cases ha
  · cases ha
/-- writing into an array -/
theorem rd_ast_ok {b : Bool} {i : Nat} {vs vs' : rd_Lv} {st st' : List Value} {σ σ' : rd_Sg} {i' pc : Nat} (hx : p.tables.exec = Jvm.exec) (hb : c.code = cc) (hI : rd_In D cI cZ ad base ρ s) (hH : rd_Hp D cI cZ ad base S s H locs σ) (hst : st.all rd_one = true)
    (ha : rd_ast S b vs i st σ = some (.inr (.inl (i', vs', st', σ')))) (hdg : decode cc pc = .ok (if b = true then .bastore else .iastore, 1))
    (kk : ∀ (H' : Heap) (locs' : List Loc), i' = i + 1 → vs' = vs → rd_Hp D cI cZ ad base S s H' locs' σ' → st'.all rd_one = true → W p l e R s m args below meth c H' locs' cells slots Q (F0 m (pc + 1) ls (st'.map (rd_cv ad)))) : W p l e R s m args below meth c H locs cells slots Q (F0 m pc ls (st.map (rd_cv ad))) := by
  unfold rd_ast at ha
  split at ha
  · rename_i x j cl st0
    split at ha
    · rename_i n b' hsh
      split at ha
      · rename_i hb'
        subst hb'
        split at ha
        · cases ha
        · rename_i hin
          have hst0 : st0.all rd_one = true := by simpa [rd_one] using hst
          show W p l e R s m args below meth c H locs cells slots Q (F0 m pc ls (.int x :: .int j :: .ref (ad cl) :: st0.map (rd_cv ad)))
          cases ha
          have hw := rd_wd_0 (cI := cI) (cZ := cZ) (ad := ad) (σ := σ) hsh
          have hset := rd_wd_set (cI := cI) (cZ := cZ) (ad := ad) (σ := σ) (σ' := rd_u σ cl j.toNatClampNeg (rd_bit b' x)) hsh rd_u_o
          rw [rd_u_c] at hset
          cases b'
          · refine va_iast hx hb hI.1 hH.1 hH.2.1 hH.2.2 cl 0 hw rfl hin hdg (fun H1 locs1 g1 g2 g3 => ?_)
            refine kk H1 locs1 rfl rfl ⟨?_, ?_, g3⟩ hst0
            · rw [← hset]; exact g1
            · rw [← hset]; exact g2
          · refine va_zast hx hb hI.1 hH.1 hH.2.1 hH.2.2 cl 1 hw rfl hin hdg (fun H1 locs1 g1 g2 g3 => ?_)
            refine kk H1 locs1 rfl rfl ⟨?_, ?_, g3⟩ hst0
            · rw [← hset]; exact g1
            · rw [← hset]; exact g2
      · cases ha
    · cases ha
  · cases ha
/-- an array's length -/
theorem rd_alen_ok {i : Nat} {vs vs' : rd_Lv} {st st' : List Value} {σ σ' : rd_Sg} {i' pc : Nat} (hx : p.tables.exec = Jvm.exec) (hb : c.code = cc) (hI : rd_In D cI cZ ad base ρ s) (hH : rd_Hp D cI cZ ad base S s H locs σ) (hst : st.all rd_one = true)
    (ha : rd_alen S (rd_ro ρ) vs i st σ = some (.inr (.inl (i', vs', st', σ')))) (hdg : decode cc pc = .ok (.arraylength, 1))
    (kk : i' = i + 1 → vs' = vs → σ' = σ → st'.all rd_one = true → W p l e R s m args below meth c H locs cells slots Q (F0 m (pc + 1) ls (st'.map (rd_cv ad)))) : W p l e R s m args below meth c H locs cells slots Q (F0 m pc ls (st.map (rd_cv ad))) := by
  unfold rd_alen at ha
  split at ha
  · rename_i cl st0
    have hst0 : st0.all rd_one = true := by simpa [rd_one] using hst
    show W p l e R s m args below meth c H locs cells slots Q (F0 m pc ls (.ref (ad cl) :: st0.map (rd_cv ad)))
    split at ha
    · rename_i n b hsh
      cases ha
      have kk := kk rfl rfl rfl (by simpa [rd_one] using hst0)
      have hw := rd_wd_0 (cI := cI) (cZ := cZ) (ad := ad) (σ := σ) hsh
      cases b
      · exact va_alen hx hb hI.1 hH.1 cl 0 hw (ty := .int) rfl rfl hdg kk
      · exact va_alen hx hb hI.1 hH.1 cl 1 hw (ty := .boolean) rfl rfl hdg kk
    · cases ha
    · split at ha
      · rename_i n f hr
        cases ha
        have kk := kk rfl rfl rfl (by simpa [rd_one] using hst0)
        unfold rd_ro at hr
        obtain ⟨-, -, hz, h1, h2, h3, h4⟩ := hI
        split at hr
        · rename_i hc
          subst hc
          cases hr
          exact va_tlen hx hb hz hH.2.2 rfl hdg kk
        · split at hr
          · rename_i hc
            subst hc
            cases hr
            exact va_slen hx hb h1 (by omega) (by omega) hH.2.2 hdg kk
          · cases hr
      · cases ha
  · cases ha
/-- reading a field -/
theorem rd_getf_ok {i ci sl f oc idx : Nat} {own : String} {vs vs' : rd_Lv} {st st' : List Value} {σ σ' : rd_Sg} {i' pc : Nat} (hx : p.tables.exec = Jvm.exec) (hb : c.code = cc) (hw : ∀ w ∈ rd_tb, w.before args s = true) (hown : s.vm.findClass own = some m.cls) (hoc : rd_nth rd_cn oc = some own) (hfl : rd_flis f oc idx ci sl = true) (h999 : sl ≠ 999) (hI : rd_In D cI cZ ad base ρ s) (hH : rd_Hp D cI cZ ad base S s H locs σ) (hst : st.all rd_one = true)
    (ha : rd_getf S ci sl vs i st σ = some (.inr (.inl (i', vs', st', σ')))) (hdg : decode cc pc = .ok (.getfield idx, 3))
    (kk : i' = i + 1 → vs' = vs → σ' = σ → st'.all rd_one = true → W p l e R s m args below meth c H locs cells slots Q (F0 m (pc + 3) ls (st'.map (rd_cv ad)))) : W p l e R s m args below meth c H locs cells slots Q (F0 m pc ls (st.map (rd_cv ad))) := by
  obtain ⟨C, T, n, hv, hsl, hlk⟩ := rd_flfact hfl hoc h999
  obtain ⟨hin, -⟩ := rd_cfact hv
  unfold rd_getf at ha
  split at ha
  · rename_i cl st0
    have hst0 : st0.all rd_one = true := by simpa [rd_one] using hst
    show W p l e R s m args below meth c H locs cells slots Q (F0 m pc ls (.ref (ad cl) :: st0.map (rd_cv ad)))
    split at ha
    · rename_i cj ks hsh
      split at ha
      · rename_i hcj
        subst hcj
        have hwd := rd_wd_0 (cI := cI) (cZ := cZ) (ad := ad) (σ := σ) hsh
        have hv' : vwCl[cj]? = some (C, T, n) := by rw [← rd_nth_get]; exact hv
        split at ha
        · rename_i hk
          cases ha
          have kk := kk rfl rfl rfl (by simpa [rd_one] using hst0)
          exact va_get hx hb hw hin hown hI.1 hH.1 cl hwd hv' sl hsl (hw _ hlk) (fun _ h => h) (v := .int (σ cl sl)) (by rw [rd_fs_at, hk]; simp [rd_fv]) hdg kk
        · rename_i v hk
          split at ha
          · rename_i h1
            cases ha
            have kk := kk rfl rfl rfl (by simp only [List.all_cons, h1, Bool.true_and]; exact hst0)
            exact va_get hx hb hw hin hown hI.1 hH.1 cl hwd hv' sl hsl (hw _ hlk) (fun _ h => h) (v := rd_cv ad v) (by rw [rd_fs_at, hk]; simp [rd_fv]) hdg kk
          · cases ha
        · cases ha
      · cases ha
    · cases ha
  · cases ha
theorem rd_fty_0 {ci sl : Nat} {C : String} {T : u_T} {n : Nat} (hv : rd_nth vwCl ci = some (C, T, n)) (h : rd_fty ci sl = 0) : (T sl).2.2.1 = "I" ∧ (T sl).2.2.2 = false := by
  unfold rd_fty at h
  rw [hv] at h
  dsimp only at h
  split at h
  · split at h
    · rename_i h1
      split at h
      · cases h
      · rename_i h2
        exact ⟨h1, by simpa using h2⟩
    · split at h
      · split at h <;> cases h
      · split at h <;> cases h
  · cases h
theorem rd_fty_1 {ci sl : Nat} {C : String} {T : u_T} {n : Nat} (hv : rd_nth vwCl ci = some (C, T, n)) (h : rd_fty ci sl = 1) : (T sl).2.2.1 = "Z" ∧ (T sl).2.2.2 = false := by
  unfold rd_fty at h
  rw [hv] at h
  dsimp only at h
  split at h
  · split at h
    · split at h <;> cases h
    · split at h
      · rename_i h1
        split at h
        · cases h
        · rename_i h2
          exact ⟨h1, by simpa using h2⟩
      · split at h <;> cases h
  · cases h
/-- writing a field -/
theorem rd_putf_ok {i ci sl f oc idx t : Nat} {own : String} {vs vs' : rd_Lv} {st st' : List Value} {σ σ' : rd_Sg} {i' pc : Nat} (hx : p.tables.exec = Jvm.exec) (hb : c.code = cc) (hw : ∀ w ∈ rd_tb, w.before args s = true) (hown : s.vm.findClass own = some m.cls) (hoc : rd_nth rd_cn oc = some own) (hfl : rd_flis f oc idx ci sl = true) (h999 : sl ≠ 999) (hty : t = rd_fty ci sl) (hI : rd_In D cI cZ ad base ρ s) (hH : rd_Hp D cI cZ ad base S s H locs σ) (hst : st.all rd_one = true)
    (ha : rd_putf S ci sl t vs i st σ = some (.inr (.inl (i', vs', st', σ')))) (hdg : decode cc pc = .ok (.putfield idx, 3))
    (kk : ∀ (H' : Heap) (locs' : List Loc), i' = i + 1 → vs' = vs → rd_Hp D cI cZ ad base S s H' locs' σ' → st'.all rd_one = true → W p l e R s m args below meth c H' locs' cells slots Q (F0 m (pc + 3) ls (st'.map (rd_cv ad)))) : W p l e R s m args below meth c H locs cells slots Q (F0 m pc ls (st.map (rd_cv ad))) := by
  obtain ⟨C, T, n, hv, hsl, hlk⟩ := rd_flfact hfl hoc h999
  obtain ⟨hin, ty0, hty0, hnm⟩ := rd_cfact hv
  unfold rd_putf at ha
  split at ha
  · rename_i x cl st0
    have hst0 : st0.all rd_one = true := by simpa [rd_one] using hst
    show W p l e R s m args below meth c H locs cells slots Q (F0 m pc ls (.int x :: .ref (ad cl) :: st0.map (rd_cv ad)))
    split at ha
    · rename_i cj ks hsh
      split at ha
      · rename_i hcj
        subst hcj
        have hwd := rd_wd_0 (cI := cI) (cZ := cZ) (ad := ad) (σ := σ) hsh
        have hv' : vwCl[cj]? = some (C, T, n) := by rw [← rd_nth_get]; exact hv
        split at ha
        · rename_i hk
          split at ha
          · rename_i ht
            cases ha
            have hset := rd_wd_set (cI := cI) (cZ := cZ) (ad := ad) (σ := σ) (σ' := rd_u σ cl sl x) hsh rd_u_o
            have hfs : (rd_fs ad (σ cl) 0 ks).set sl (.int x) = rd_fs ad (rd_u σ cl sl x cl) 0 ks := rd_fs_set hk (by simp [rd_u]) (fun j hj => by simp [rd_u, hj])
            have hlen : sl < (rd_fs ad (σ cl) 0 ks).length := by
              have : (rd_fs ad (σ cl) 0 ks)[sl]? = some (.int (σ cl (0 + sl))) := by rw [rd_fs_at, hk]; rfl
              exact (List.getElem?_eq_some_iff.mp this).1
            have fin : ∀ (H1 : Heap) (locs1 : List Loc), va_P D vwCl ((rd_wd cI cZ ad σ 0 S).set cl (ad cl, .inr (cj, (rd_fs ad (σ cl) 0 ks).set sl (.int x)))) H1 → va_D (fun q => base ≤ q) ((rd_wd cI cZ ad σ 0 S).set cl (ad cl, .inr (cj, (rd_fs ad (σ cl) 0 ks).set sl (.int x)))) → va_S (fun q => base ≤ q) s.heap H1 locs1 → W p l e R s m args below meth c H1 locs1 cells slots Q (F0 m (pc + 3) ls (st'.map (rd_cv ad))) := by
              intro H1 locs1 g1 g2 g3
              refine kk H1 locs1 rfl rfl ⟨?_, ?_, g3⟩ hst0
              · rw [← hset]; rw [hfs] at g1; exact g1
              · rw [← hset]; rw [hfs] at g2; exact g2
            rcases ht with ht | ⟨ht, hx1⟩
            · obtain ⟨e1, e2⟩ := rd_fty_0 hv (by rw [← hty]; exact ht)
              exact va_put hx hb hw hin ty0 hty0 hnm hown hI.1 hH.1 hH.2.1 hH.2.2 cl hwd hv' sl hsl (hw _ hlk) (fun _ h => h) e2 (ty := .int) (v := .int x) (by rw [e1]; decide +kernel) rfl rfl hlen hdg fin
            · obtain ⟨e1, e2⟩ := rd_fty_1 hv (by rw [← hty]; exact ht)
              refine va_put hx hb hw hin ty0 hty0 hnm hown hI.1 hH.1 hH.2.1 hH.2.2 cl hwd hv' sl hsl (hw _ hlk) (fun _ h => h) e2 (ty := .boolean) (v := .int x) (by rw [e1]; decide +kernel) ?_ ?_ hlen hdg fin
              · rcases hx1 with rfl | rfl <;> decide +kernel
              · rcases hx1 with rfl | rfl <;> decide +kernel
          · cases ha
        · cases ha
      · cases ha
    · cases ha
  · cases ha
theorem rd_acN : Cond.native arraycopyName ∈ rd_tb := by decide +kernel
theorem rd_acS : Cond.static arraycopyName ∈ rd_tb := by decide +kernel
theorem rd_acI : Cond.initialized "java/lang/System" ∈ rd_tb := by decide +kernel
/-- System.arraycopy -/
theorem rd_copy_ok {i oc idx q : Nat} {own : String} {vs vs' : rd_Lv} {st st' : List Value} {σ σ' : rd_Sg} {i' pc : Nat} (hx : p.tables.exec = Jvm.exec) (hb : c.code = cc) (hml : c.maxLocals = ls.size) (hw : ∀ w ∈ rd_tb, w.before args s = true) (hown : s.vm.findClass own = some m.cls) (hoc : rd_nth rd_cn oc = some own) (hq : rd_mlis q oc idx 1000 = true) (hR : 1 ≤ R.frames ∧ 26 ≤ R.locals) (hI : rd_In D cI cZ ad base ρ s) (hH : rd_Hp D cI cZ ad base S s H locs σ)
    (ha : rd_copy S vs i st σ = some (.inr (.inl (i', vs', st', σ')))) (hdg : decode cc pc = .ok (.invokestatic idx, 3))
    (kk : ∀ (H' : Heap) (locs' : List Loc), i' = i + 1 → vs' = vs → rd_Hp D cI cZ ad base S s H' locs' σ' → st'.all rd_one = true → W p l e R s m args below meth c H' locs' cells slots Q (F0 m (pc + 3) ls (st'.map (rd_cv ad)))) : W p l e R s m args below meth c H locs cells slots Q (F0 m pc ls (st.map (rd_cv ad))) := by
  unfold rd_copy at ha
  split at ha
  · rename_i n dp d sp sr
    show W p l e R s m args below meth c H locs cells slots Q (F0 m pc ls [.int n, .int dp, .ref (ad d), .int sp, .ref (ad sr)])
    split at ha
    · rename_i n0 n1 hs0 hs1
      split at ha
      · cases ha
      · rename_i hc
        cases ha
        have hw0 := rd_wd_0 (cI := cI) (cZ := cZ) (ad := ad) (σ := σ) hs0
        have hw1 := rd_wd_0 (cI := cI) (cZ := cZ) (ad := ad) (σ := σ) hs1
        have hset := rd_wd_set (cI := cI) (cZ := cZ) (ad := ad) (σ := σ) (σ' := rd_uc σ d (va_cpy (σ sr) (σ d) sp.toNatClampNeg dp.toNatClampNeg n.toNatClampNeg)) hs1 rd_uc_o
        rw [rd_uc_c] at hset
        have hlk := (rd_mlfact hq hoc).1 rfl
        have hnw : nativeFrameWords "java/lang/System" "arraycopy" 5 = 7 := by decide +kernel
        have hlocals : (([] : List Value).map fun v => v.category).sum + (nativeFrameWords "java/lang/System" "arraycopy" 5 + 11) ≤ R.locals := by
          rw [hnw]
          have := hR.2
          simp
          omega
        refine va_copyi (rest := []) hx hb hml hown (hw _ hlk) (hw _ rd_acN) (hw _ rd_acS) (hw _ rd_acI) hI.1 hH.1 hH.2.1 hH.2.2 sr d 0 0 (ty := .int) hw0 hw1 rfl rfl rfl (fun h => hc (Or.inl h)) (fun h => hc (Or.inr (Or.inl h))) (fun h => hc (Or.inr (Or.inr (Or.inl h)))) (Nat.not_lt.mp fun h => hc (Or.inr (Or.inr (Or.inr (Or.inl h))))) (Nat.not_lt.mp fun h => hc (Or.inr (Or.inr (Or.inr (Or.inr h))))) (fun _ _ => rfl) hR.1 hlocals hdg (fun H1 locs1 g1 g2 g3 => ?_)
        refine kk H1 locs1 rfl rfl ⟨?_, ?_, g3⟩ rfl
        · rw [← hset]; exact g1
        · rw [← hset]; exact g2
    · cases ha
  · cases ha
end RDJ
