/-! ===== J: the judgement, contracts, entry, ends ===== -/
/-- a method: name, code, locals, answer; room: frames, locals' words, cells, slots; its table of handlers -/
abbrev MI : Type := MethodName × ByteArray × Nat × Option FieldType × Nat × Nat × Nat × Nat × List (Nat × Nat × Nat × Nat)
abbrev Kx : Type := Program × Launch × Env × Room × State × MethodId × Array Value × List Frame × Method × Code
abbrev rmf (f : MI) : Room := { frames := f.2.2.2.2.1, cells := f.2.2.2.2.2.2.1, slots := f.2.2.2.2.2.2.2.1, locals := f.2.2.2.2.2.1 }
def cdw (f : MI) : Cond := match f.2.2.2.2.2.2.2.2 with
  | [] => Cond.code f.1 f.2.1 f.2.2.1 f.2.2.2.1
  | hh => Cond.codeWith f.1 f.2.1 f.2.2.1 f.2.2.2.1 hh
abbrev wsf (f : MI) : List Cond := cdw f :: SWL
abbrev kS (κ : Kx) : State := κ.2.2.2.2.1
abbrev kA (κ : Kx) : Array Value := κ.2.2.2.2.2.2.1
/-- the context of a method's walk -/
def Cx (κ : Kx) (E : En) (f : MI) : Prop :=
  κ.1.tables.exec = Jvm.exec ∧ κ.2.2.2.2.2.2.2.2.2.code = f.2.1 ∧ κ.2.2.2.2.2.2.2.2.2.maxLocals = f.2.2.1 ∧ κ.2.2.2.2.2.2.2.2.1.sig.returnType = f.2.2.2.1 ∧ κ.2.2.2.2.1.vm.findClass f.1.cls = some κ.2.2.2.2.2.1.cls ∧
  (∀ w ∈ SWL, w.before κ.2.2.2.2.2.2.1 κ.2.2.2.2.1 = true) ∧ κ.2.2.2.2.2.2.2.2.1.locks = false ∧ κ.2.2.2.1 = rmf f ∧ Sx E κ.2.2.2.2.1 ∧ κ.2.1.stackTraces = false ∧ f.1.name = κ.2.2.2.2.2.2.2.2.1.name ∧ κ.2.2.2.2.2.2.2.2.2.exceptionTable.toList = tableOf f.2.2.2.2.2.2.2.2
abbrev lvm (E : En) (L : List (Nat × Value)) : List (Nat × Value) := L.map (fun q => (q.1, cv E q.2))
abbrev cvs (E : En) (st : List Value) : List Value := st.map (cv E)
def kW (κ : Kx) (H : Heap) (locs : List Loc) (k n : Nat) (Q : State → Prop) (g : JFrame) : Prop :=
  W κ.1 κ.2.1 κ.2.2.1 κ.2.2.2.1 κ.2.2.2.2.1 κ.2.2.2.2.2.1 κ.2.2.2.2.2.2.1 κ.2.2.2.2.2.2.2.1 κ.2.2.2.2.2.2.2.2.1 κ.2.2.2.2.2.2.2.2.2 H locs k n Q g
def J (κ : Kx) (E : En) (f : MI) (Q : State → Prop) (k n : Nat) (L : List (Nat × Value)) (M : Wd) (pc : Nat) (st : List Value) : Prop :=
  Cx κ E f → ∀ (H : Heap) (locs : List Loc) (ls : Array Slot), va_P E.2.1 vwCl (mk E M) H → va_S (Ar E) κ.2.2.2.2.1.heap H locs → lv_has ls f.2.2.1 (lvm E L) →
    kW κ H locs k n Q (F0 κ.2.2.2.2.2.1 pc ls (cvs E st))
/-- an outcome: a value (or none) is returned, or an exception of a class is thrown -/
abbrev Oc : Type := Option Value ⊕ String
def isB (x : Int32) : Prop := x = 0 ∨ x = 1
def okB (ret : Option FieldType) (v : Option Value) : Prop := ret = some .boolean → ∃ x : Int32, v = some (.int x) ∧ isB x
def QV (E : En) (f : MI) (o : Oc) (M' : Wd) : Array Value → State → Outcome → State → Prop := fun _ st oc t =>
  ∃ v : Option Value, o = .inl v ∧ oc = .returned (v.map (cv E)) ∧ okB f.2.2.2.1 v ∧ va_P E.2.1 vwCl (mk E M') t.heap ∧ va_F (Ar E) st t
def XV (E : En) (o : Oc) (M' : Wd) : String → State → State → Prop := fun X st t => o = .inr X ∧ va_P E.2.1 vwCl (mk E M') t.heap ∧ va_F (Ar E) st t
def Con (E : En) (f : MI) (av : List Value) (M : Wd) (o : Oc) (M' : Wd) : Prop :=
  ∀ l : Launch, l.stackTraces = false → vx_Met l f.1 (wsf f) (rmf f) (va_Pc (cvs E av) (Rl E M)) (QV E f o M') (XV E o M') f.2.2.2.2.2.2.1 f.2.2.2.2.2.2.2.1 (Ar E)
/-- what a walk of f owes at its end -/
abbrev Qm (κ : Kx) (E : En) (f : MI) (o : Oc) (M' : Wd) : State → Prop := vx_MQ κ.2.2.2.2.2.2.2.1 (QV E f o M') (XV E o M') κ.2.2.2.2.2.2.1 κ.2.2.2.2.1 f.2.2.2.2.2.2.1 f.2.2.2.2.2.2.2.1 (Ar E)
theorem lvm_args (E : En) : ∀ (av : List Value) (i : Nat), lv_args i (cvs E av) = lvm E (lv_args i av)
  | [], _ => rfl
  | v :: av, i => by
    have h := lvm_args E av
    cases v <;> simp only [cvs, lvm, List.map_cons, lv_args, cv, Value.category] at h ⊢ <;> first | (rw [h]; rfl) | simp [h]
theorem lg_cvs (E : En) (av : List Value) : (lg_sl (cvs E av)).length = (lg_sl av).length := by
  induction av with
  | nil => rfl
  | cons v av ih =>
    have ih' : (List.flatMap (fun v : Value => if v.category = 2 then [Slot.val v, Slot.second] else [Slot.val v]) (List.map (cv E) av)).length = (List.flatMap (fun v : Value => if v.category = 2 then [Slot.val v, Slot.second] else [Slot.val v]) av).length := ih
    simp only [lg_sl, cvs, List.map_cons, List.flatMap_cons, List.length_append, cv_cat, ih']
    by_cases hc : v.category = 2
    · simp [hc]
    · simp [hc]
/-- a contract out of a walk from the entry -/
theorem Con.of {E : En} {f : MI} {av : List Value} {M : Wd} {o : Oc} {M' : Wd} (hy : plainName f.1.cls = true) (hh0 : f.2.2.2.2.2.2.2.2 = []) (hlen : (lg_sl av).length ≤ f.2.2.1)
    (body : ∀ κ : Kx, J κ E f (Qm κ E f o M') 0 0 (lv_args 0 av) M 0 []) : Con E f av M o M' := by
  intro l hl
  have hcd : wsf f = Cond.code f.1 f.2.1 f.2.2.1 f.2.2.2.1 :: SWL := by simp only [wsf, cdw, hh0]
  refine vx_ofW (cc := f.2.1) (maxL := f.2.2.1) (ret := f.2.2.2.1) hy hcd ?_
  intro p e s m args below meth c s₁ B hml het hv
  obtain ⟨rfl, hP, hX⟩ := hv
  have hts : ∀ w ∈ SWL, w.before (cvs E av).toArray s = true := fun w h => atoms_spec (ws := wsf f) B.pre w (List.mem_cons_of_mem _ h)
  have hown : s.vm.findClass f.1.cls = some m.cls := findClass_of_methodNamed B.named
  have hnm : f.1.name = meth.name := (name_of_methodNamed B.named B.method).1.symm
  have hlc : (lg_sl (cvs E av)).length ≤ f.2.2.1 := by rw [lg_cvs]; exact hlen
  have hl0 := lv_entry (cvs E av) (n := f.2.2.1) hlc
  rw [lvm_args] at hl0
  rw [lg_entry_eq]
  exact body (p, l, e, (headSpec (wsf f) (rmf f)).room, s, m, (cvs E av).toArray, below, meth, c) ⟨B.exec, B.bytes, hml, B.returns, hown, hts, B.notSynchronized, rfl, hX, hl, hnm, by rw [hh0]; exact List.eq_nil_iff_forall_not_mem.mpr fun x hx => het x hx⟩ s.heap [] _ hP va_S.rf hl0
/-- the same of a method with handlers -/
theorem Con.ofH {E : En} {f : MI} {av : List Value} {M : Wd} {o : Oc} {M' : Wd} (hy : plainName f.1.cls = true) (hh0 : cdw f = Cond.codeWith f.1 f.2.1 f.2.2.1 f.2.2.2.1 f.2.2.2.2.2.2.2.2) (hlen : (lg_sl av).length ≤ f.2.2.1)
    (body : ∀ κ : Kx, J κ E f (Qm κ E f o M') 0 0 (lv_args 0 av) M 0 []) : Con E f av M o M' := by
  intro l hl
  have hcd : wsf f = Cond.codeWith f.1 f.2.1 f.2.2.1 f.2.2.2.1 f.2.2.2.2.2.2.2.2 :: SWL := by simp only [wsf, hh0]
  refine vx_ofWH (cc := f.2.1) (maxL := f.2.2.1) (ret := f.2.2.2.1) hy hcd ?_
  intro p e s m args below meth c s₁ B hml hv
  obtain ⟨rfl, hP, hX⟩ := hv
  have hts : ∀ w ∈ SWL, w.before (cvs E av).toArray s = true := fun w h => atoms_spec (ws := wsf f) B.pre w (List.mem_cons_of_mem _ h)
  have hcw : (Cond.codeWith f.1 f.2.1 f.2.2.1 f.2.2.2.1 f.2.2.2.2.2.2.2.2).before (cvs E av).toArray s = true := by rw [← hh0]; exact atoms_spec (ws := wsf f) B.pre _ List.mem_cons_self
  have hown : s.vm.findClass f.1.cls = some m.cls := findClass_of_methodNamed B.named
  have hnm : f.1.name = meth.name := (name_of_methodNamed B.named B.method).1.symm
  have hlc : (lg_sl (cvs E av)).length ≤ f.2.2.1 := by rw [lg_cvs]; exact hlen
  have hl0 := lv_entry (cvs E av) (n := f.2.2.1) hlc
  rw [lvm_args] at hl0
  rw [lg_entry_eq]
  exact body (p, l, e, (headSpec (wsf f) (rmf f)).room, s, m, (cvs E av).toArray, below, meth, c) ⟨B.exec, B.bytes, hml, B.returns, hown, hts, B.notSynchronized, rfl, hX, hl, hnm, vx_table (x := f.1) B hcw⟩ s.heap [] _ hP va_S.rf hl0
section JR
variable {κ : Kx} {E : En} {f : MI} {Q : State → Prop} {k n : Nat} {L : List (Nat × Value)} {M : Wd} {pc : Nat} {st : List Value}
/-- more words: fewer or other order of the locals listed -/
theorem J_sub {L' : List (Nat × Value)} (ks : List Nat) (hL : lv_pick L ks = L') (kk : J κ E f Q k n L' M pc st) : J κ E f Q k n L M pc st := by
  intro hC H locs ls hP hS hl
  refine kk hC H locs ls hP hS (lv_sub hl ks ?_)
  rw [← hL]
  simp only [lv_pick, lvm, List.map_filterMap, List.getElem?_map]
theorem J_eq {L' : List (Nat × Value)} {M' : Wd} {st' : List Value} {k' n' : Nat} (h1 : L = L') (h2 : M = M') (h3 : st = st') (hk : k = k') (hn : n = n') (kk : J κ E f Q k' n' L' M' pc st') : J κ E f Q k n L M pc st := by
  subst h1; subst h2; subst h3; subst hk; subst hn; exact kk
theorem J_wide {k' n' : Nat} (h1 : k ≤ k') (h2 : n ≤ n') (kk : J κ E f Q k' n' L M pc st) : J κ E f Q k n L M pc st := by
  intro hC H locs ls hP hS hl
  exact W.widen h1 h2 (kk hC H locs ls hP hS hl)
theorem J_end {o : Oc} {M' : Wd} {v : Option Value} (ho : o = .inl v) (hM : M = M') (hb : okB f.2.2.2.1 v)
    (row : ∀ {hq : ∀ (t : State), True}, Cx κ E f → ∀ (H : Heap) (locs : List Loc) (ls : Array Slot), (∀ t : State, t.heap = H → κ.2.2.2.2.1.WarmedH t.vm → QV E f o M' κ.2.2.2.2.2.2.1 κ.2.2.2.2.1 (.returned (v.map (cv E))) t) → (∀ q ∈ locs, Ar E q.base) →
      kW κ H locs k n (MQ κ.2.2.2.2.2.2.2.1 (QV E f o M') κ.2.2.2.2.2.2.1 κ.2.2.2.2.1 k n (Ar E)) (F0 κ.2.2.2.2.2.1 pc ls (cvs E st)))
    (hk : k = f.2.2.2.2.2.2.1) (hn : n = f.2.2.2.2.2.2.2.1) : J κ E f (Qm κ E f o M') k n L M pc st := by
  subst ho; subst hM; subst hk; subst hn
  intro hC H locs ls hP hS hl
  refine vx_ret (row (hq := fun _ => trivial) hC H locs ls (fun t ht _ => ⟨v, rfl, rfl, hb, by rw [ht]; exact hP, hS.F ht⟩) hS.2.2)
theorem J_ireturn {o : Oc} {M' : Wd} {x : Int32} (hd : decode f.2.1 pc = .ok (.ireturn, 1)) (hr : f.2.2.2.1 = some .int) (ho : o = .inl (some (.int x))) (hM : M = M') (hk : k = f.2.2.2.2.2.2.1) (hn : n = f.2.2.2.2.2.2.2.1) : J κ E f (Qm κ E f o M') k n L M pc [.int x] :=
  J_end ho hM (fun h => by rw [hr] at h; cases h) (fun hC H locs ls hq hf => W.iret (v := x) hC.1 hC.2.1 (by rw [hC.2.2.2.1, hr]) hq hf hd (hlocks := hC.2.2.2.2.2.2.1)) hk hn
theorem J_zreturn {o : Oc} {M' : Wd} {x : Int32} (hd : decode f.2.1 pc = .ok (.ireturn, 1)) (hr : f.2.2.2.1 = some .boolean) (hb : isB x) (ho : o = .inl (some (.int x))) (hM : M = M') (hk : k = f.2.2.2.2.2.2.1) (hn : n = f.2.2.2.2.2.2.2.1) : J κ E f (Qm κ E f o M') k n L M pc [.int x] :=
  J_end ho hM (fun _ => ⟨x, rfl, hb⟩) (fun hC H locs ls hq hf => W.zret (v := x) (ty := .boolean) hC.1 hC.2.1 (by rw [hC.2.2.2.1, hr]) (by rcases hb with h | h <;> rw [h] <;> rfl) hq hf hd (hlocks := hC.2.2.2.2.2.2.1)) hk hn
theorem J_lreturn {o : Oc} {M' : Wd} {x : Int64} (hd : decode f.2.1 pc = .ok (.lreturn, 1)) (hr : f.2.2.2.1 = some .long) (ho : o = .inl (some (.long x))) (hM : M = M') (hk : k = f.2.2.2.2.2.2.1) (hn : n = f.2.2.2.2.2.2.2.1) : J κ E f (Qm κ E f o M') k n L M pc [.long x] :=
  J_end ho hM (fun h => by rw [hr] at h; cases h) (fun hC H locs ls hq hf => W.lret (v := x) hC.1 hC.2.1 (by rw [hC.2.2.2.1, hr]) hq hf hd (hlocks := hC.2.2.2.2.2.2.1)) hk hn
theorem J_dreturn {o : Oc} {M' : Wd} {x : UInt64} (hd : decode f.2.1 pc = .ok (.dreturn, 1)) (hr : f.2.2.2.1 = some .double) (ho : o = .inl (some (.double x))) (hM : M = M') (hk : k = f.2.2.2.2.2.2.1) (hn : n = f.2.2.2.2.2.2.2.1) : J κ E f (Qm κ E f o M') k n L M pc [.double x] :=
  J_end ho hM (fun h => by rw [hr] at h; cases h) (fun hC H locs ls hq hf => W.dret (v := x) hC.1 hC.2.1 (by rw [hC.2.2.2.1, hr]) hq hf hd (hlocks := hC.2.2.2.2.2.2.1)) hk hn
theorem J_return {o : Oc} {M' : Wd} (hd : decode f.2.1 pc = .ok (.return_, 1)) (hr : f.2.2.2.1 = none) (ho : o = .inl none) (hM : M = M') (hk : k = f.2.2.2.2.2.2.1) (hn : n = f.2.2.2.2.2.2.2.1) : J κ E f (Qm κ E f o M') k n L M pc [] :=
  J_end ho hM (fun h => by rw [hr] at h; cases h) (fun hC H locs ls hq hf => W.vret hC.1 hC.2.1 (by rw [hC.2.2.2.1, hr]) hq hf hd (hlocks := hC.2.2.2.2.2.2.1)) hk hn
end JR
