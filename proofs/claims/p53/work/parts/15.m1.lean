/-! ===== K: as J, over two parks and the script ===== -/
abbrev En2 : Type := En × Nat × Nat × (Nat → Int32)
abbrev Wd2 : Type := Wd × Wd
/-- where the first park's object lies, the second's behind it; all from the first on -/
def eo (E : En2) : En := E.1
def ep (E : En2) : En := (E.1.1 + 53, E.1.2)
def e0 (E : En2) : En := (E.1.1, E.1.2.1, E.1.2.2.1, 0, E.1.2.2.2.2)
/-- 0: the first park, 1: the second, 2: the script, 64 + a: the address a -/
def adr2 (E : En2) (i : Nat) : Nat := if i = 0 then E.1.1 else if i = 1 then E.1.1 + 53 else if i = 2 then E.2.1 else i - 64
def cv2 (E : En2) (v : Value) : Value := match v with
  | .ref i => .ref (adr2 E i)
  | w => w
theorem cv_cat2 (E : En2) (v : Value) : (cv2 E v).category = v.category := by cases v <;> rfl
def Ar2 (E : En2) : Nat → Prop := fun q => E.1.1 ≤ q
theorem Ar2_0 {E : En2} {q : Nat} : Ar2 E q ↔ Ar (e0 E) q := ⟨fun h => ⟨h, Or.inr (Nat.zero_le _)⟩, fun h => h.1⟩
def Sx2 (E : En2) (U : State) : Prop := Sx (e0 E) U ∧ va_X E.2.1 E.2.2.1 E.2.2.2 U U.heap ∧ E.2.1 < E.1.1 ∧ E.2.1 < U.heap.size ∧ E.1.1 + 106 ≤ E.1.2.2.2.1
def P2 (E : En2) (M : Wd2) (H : Heap) : Prop := va_P (eo E).2.1 vwCl (mk (eo E) M.1) H ∧ va_P (ep E).2.1 vwCl (mk (ep E) M.2) H
def Rl2 (E : En2) (M : Wd2) (U : State) : Prop := P2 E M U.heap ∧ Sx2 E U
theorem P2.kept {E : En2} {M : Wd2} {H H1 : Heap} (h : P2 E M H) (hq : ∀ q : Nat, q < H.size → H1[q]? = H[q]?) : P2 E M H1 := ⟨h.1.kept fun _ _ hk => hq _ (vx_lt h.1 hk), h.2.kept fun _ _ hk => hq _ (vx_lt h.2 hk)⟩
theorem Sx2.to {E : En2} {s U : State} {H : Heap} {locs : List Loc} (h : Sx2 E s) (hS : va_S (Ar2 E) s.heap H locs) (hU : U.heap = H) (hW : s.WarmedH U.vm) : Sx2 E U := by
  obtain ⟨h1, h2, h3, h4, h5⟩ := h
  have hb : ¬ Ar2 E E.2.1 := fun q => by have : E.1.1 ≤ E.2.1 := q; omega
  refine ⟨h1.to (fun q _ hq => Ar2_0.mp hq) hS hU hW, ?_, h3, by rw [hU]; exact Nat.lt_of_lt_of_le h4 hS.1, h5⟩
  subst hU
  exact va_X.moved hW.alike (h2.kept (hS.2.1 _ h4 hb))
theorem Sx2.calling {E : En2} {U : State} (h : Sx2 E U) (g : JFrame) (mk' : MethodId) (a : Array Value) : Sx2 E (U.calling g mk' a) := by
  obtain ⟨h1, h2, h3, h4, h5⟩ := h
  exact ⟨h1.calling g mk' a, va_X.moved (Vm.Alike.refl U.vm) h2, h3, h4, h5⟩
theorem Sx.narrow {E E' : En} {U : State} (h : Sx E U) (h1 : E'.2.1 = E.2.1) (h2 : E'.2.2.1 = E.2.2.1) (hA : ∀ q, Ar E' q → Ar E q) : Sx E' U := by
  obtain ⟨a1, a2, a3, a4, a5⟩ := h
  refine ⟨?_, a2.narrow hA, a3.narrow hA, a4, a5⟩
  rw [h1]
  show va_K E.2.1 vwCl [(E'.2.2.1 0, FieldType.int), (E'.2.2.1 1, FieldType.object "CarTangos$Park")] U
  rw [h2]
  exact a1
/-- the side: false the first, true the second -/
def ex2 (E : En2) (sd : Bool) : En := if sd = true then ep E else eo E
theorem Ar_1 {E : En2} {sd : Bool} {q : Nat} (h : Ar (ex2 E sd) q) : Ar2 E q := by
  cases sd
  · exact h.1
  · have : E.1.1 + 53 ≤ q := h.1
    show E.1.1 ≤ q
    omega
theorem Sx2.one {E : En2} {U : State} (h : Sx2 E U) (sd : Bool) : Sx (ex2 E sd) U := by
  cases sd
  · exact h.1.narrow (E' := eo E) rfl rfl (fun q hq => Ar2_0.mp (Ar_1 (sd := false) hq))
  · exact h.1.narrow (E' := ep E) rfl rfl (fun q hq => Ar2_0.mp (Ar_1 (sd := true) hq))
theorem mk_out {E E' : En} {M : Wd} {k : Nat} {q : Nat × va_E} (h : (mk E M)[k]? = some q) (hd : E'.1 + 53 ≤ E.1 ∨ E.1 + 53 ≤ E'.1) (ht : E.1 + 53 ≤ E'.2.2.2.1) : ¬ Ar E' q.1 := by
  obtain ⟨h1, rfl⟩ := mk_at h
  intro z
  have z' : E'.1 ≤ adr E k ∧ (adr E k < E'.1 + 53 ∨ E'.2.2.2.1 ≤ adr E k) := z
  rw [adr_lt h1] at z'
  omega
def Cx2 (κ : Kx) (E : En2) (f : MI) : Prop :=
  κ.1.tables.exec = Jvm.exec ∧ κ.2.2.2.2.2.2.2.2.2.code = f.2.1 ∧ κ.2.2.2.2.2.2.2.2.2.maxLocals = f.2.2.1 ∧ κ.2.2.2.2.2.2.2.2.1.sig.returnType = f.2.2.2.1 ∧ κ.2.2.2.2.1.vm.findClass f.1.cls = some κ.2.2.2.2.2.1.cls ∧
  (∀ w ∈ SWL, w.before κ.2.2.2.2.2.2.1 κ.2.2.2.2.1 = true) ∧ κ.2.2.2.2.2.2.2.2.1.locks = false ∧ κ.2.2.2.1 = rmf f ∧ Sx2 E κ.2.2.2.2.1 ∧ κ.2.1.stackTraces = false ∧ f.1.name = κ.2.2.2.2.2.2.2.2.1.name ∧ κ.2.2.2.2.2.2.2.2.2.exceptionTable.toList = tableOf f.2.2.2.2.2.2.2.2
abbrev lvm2 (E : En2) (L : List (Nat × Value)) : List (Nat × Value) := L.map (fun q => (q.1, cv2 E q.2))
abbrev cvs2 (E : En2) (st : List Value) : List Value := st.map (cv2 E)
def K (κ : Kx) (E : En2) (f : MI) (Q : State → Prop) (k n : Nat) (L : List (Nat × Value)) (M : Wd2) (pc : Nat) (st : List Value) : Prop :=
  Cx2 κ E f → ∀ (H : Heap) (locs : List Loc) (ls : Array Slot), P2 E M H → va_S (Ar2 E) κ.2.2.2.2.1.heap H locs → lv_has ls f.2.2.1 (lvm2 E L) →
    kW κ H locs k n Q (F0 κ.2.2.2.2.2.1 pc ls (cvs2 E st))
def QV2 (E : En2) (f : MI) (o : Oc) (M' : Wd2) : Array Value → State → Outcome → State → Prop := fun _ st oc t =>
  ∃ v : Option Value, o = .inl v ∧ oc = .returned (v.map (cv2 E)) ∧ okB f.2.2.2.1 v ∧ P2 E M' t.heap ∧ va_F (Ar2 E) st t
def XV2 (E : En2) (o : Oc) (M' : Wd2) : String → State → State → Prop := fun X st t => o = .inr X ∧ P2 E M' t.heap ∧ va_F (Ar2 E) st t
def Con2 (E : En2) (f : MI) (av : List Value) (M : Wd2) (o : Oc) (M' : Wd2) : Prop :=
  ∀ l : Launch, l.stackTraces = false → vx_Met l f.1 (wsf f) (rmf f) (va_Pc (cvs2 E av) (Rl2 E M)) (QV2 E f o M') (XV2 E o M') f.2.2.2.2.2.2.1 f.2.2.2.2.2.2.2.1 (Ar2 E)
abbrev Qm2 (κ : Kx) (E : En2) (f : MI) (o : Oc) (M' : Wd2) : State → Prop := vx_MQ κ.2.2.2.2.2.2.2.1 (QV2 E f o M') (XV2 E o M') κ.2.2.2.2.2.2.1 κ.2.2.2.2.1 f.2.2.2.2.2.2.1 f.2.2.2.2.2.2.2.1 (Ar2 E)
theorem lvm_args2 (E : En2) : ∀ (av : List Value) (i : Nat), lv_args i (cvs2 E av) = lvm2 E (lv_args i av)
  | [], _ => rfl
  | v :: av, i => by
    have h := lvm_args2 E av
    cases v <;> simp only [cvs2, lvm2, List.map_cons, lv_args, cv, Value.category] at h ⊢ <;> first | (rw [h]; rfl) | simp [h]
theorem lg_cvs2 (E : En2) (av : List Value) : (lg_sl (cvs2 E av)).length = (lg_sl av).length := by
  induction av with
  | nil => rfl
  | cons v av ih =>
    have ih' : (List.flatMap (fun v : Value => if v.category = 2 then [Slot.val v, Slot.second] else [Slot.val v]) (List.map (cv2 E) av)).length = (List.flatMap (fun v : Value => if v.category = 2 then [Slot.val v, Slot.second] else [Slot.val v]) av).length := ih
    simp only [lg_sl, cvs2, List.map_cons, List.flatMap_cons, List.length_append, cv_cat2, ih']
    by_cases hc : v.category = 2
    · simp [hc]
    · simp [hc]
theorem Con2.of {E : En2} {f : MI} {av : List Value} {M : Wd2} {o : Oc} {M' : Wd2} (hy : plainName f.1.cls = true) (hh0 : f.2.2.2.2.2.2.2.2 = []) (hlen : (lg_sl av).length ≤ f.2.2.1)
    (body : ∀ κ : Kx, K κ E f (Qm2 κ E f o M') 0 0 (lv_args 0 av) M 0 []) : Con2 E f av M o M' := by
  intro l hl
  have hcd : wsf f = Cond.code f.1 f.2.1 f.2.2.1 f.2.2.2.1 :: SWL := by simp only [wsf, cdw, hh0]
  refine vx_ofW (cc := f.2.1) (maxL := f.2.2.1) (ret := f.2.2.2.1) hy hcd ?_
  intro p e s m args below meth c s₁ B hml het hv
  obtain ⟨rfl, hP, hX⟩ := hv
  have hts : ∀ w ∈ SWL, w.before (cvs2 E av).toArray s = true := fun w h => atoms_spec (ws := wsf f) B.pre w (List.mem_cons_of_mem _ h)
  have hown : s.vm.findClass f.1.cls = some m.cls := findClass_of_methodNamed B.named
  have hnm : f.1.name = meth.name := (name_of_methodNamed B.named B.method).1.symm
  have hlc : (lg_sl (cvs2 E av)).length ≤ f.2.2.1 := by rw [lg_cvs2]; exact hlen
  have hl0 := lv_entry (cvs2 E av) (n := f.2.2.1) hlc
  rw [lvm_args2] at hl0
  rw [lg_entry_eq]
  exact body (p, l, e, (headSpec (wsf f) (rmf f)).room, s, m, (cvs2 E av).toArray, below, meth, c) ⟨B.exec, B.bytes, hml, B.returns, hown, hts, B.notSynchronized, rfl, hX, hl, hnm, by rw [hh0]; exact List.eq_nil_iff_forall_not_mem.mpr fun x hx => het x hx⟩ s.heap [] _ hP va_S.rf hl0
section JR
variable {κ : Kx} {E : En2} {f : MI} {Q : State → Prop} {k n : Nat} {L : List (Nat × Value)} {M : Wd2} {pc : Nat} {st : List Value}
theorem K_sub {L' : List (Nat × Value)} (ks : List Nat) (hL : lv_pick L ks = L') (kk : K κ E f Q k n L' M pc st) : K κ E f Q k n L M pc st := by
  intro hC H locs ls hP hS hl
  refine kk hC H locs ls hP hS (lv_sub hl ks ?_)
  rw [← hL]
  simp only [lv_pick, lvm2, List.map_filterMap, List.getElem?_map]
theorem K_eq {L' : List (Nat × Value)} {M' : Wd2} {st' : List Value} {k' n' : Nat} (h1 : L = L') (h2 : M = M') (h3 : st = st') (hk : k = k') (hn : n = n') (kk : K κ E f Q k' n' L' M' pc st') : K κ E f Q k n L M pc st := by
  subst h1; subst h2; subst h3; subst hk; subst hn; exact kk
theorem K_wide {k' n' : Nat} (h1 : k ≤ k') (h2 : n ≤ n') (kk : K κ E f Q k' n' L M pc st) : K κ E f Q k n L M pc st := by
  intro hC H locs ls hP hS hl
  exact W.widen h1 h2 (kk hC H locs ls hP hS hl)
theorem K_end {o : Oc} {M' : Wd2} {v : Option Value} (ho : o = .inl v) (hM : M = M') (hb : okB f.2.2.2.1 v)
    (row : ∀ {hq : ∀ (t : State), True}, Cx2 κ E f → ∀ (H : Heap) (locs : List Loc) (ls : Array Slot), (∀ t : State, t.heap = H → κ.2.2.2.2.1.WarmedH t.vm → QV2 E f o M' κ.2.2.2.2.2.2.1 κ.2.2.2.2.1 (.returned (v.map (cv2 E))) t) → (∀ q ∈ locs, Ar2 E q.base) →
      kW κ H locs k n (MQ κ.2.2.2.2.2.2.2.1 (QV2 E f o M') κ.2.2.2.2.2.2.1 κ.2.2.2.2.1 k n (Ar2 E)) (F0 κ.2.2.2.2.2.1 pc ls (cvs2 E st)))
    (hk : k = f.2.2.2.2.2.2.1) (hn : n = f.2.2.2.2.2.2.2.1) : K κ E f (Qm2 κ E f o M') k n L M pc st := by
  subst ho; subst hM; subst hk; subst hn
  intro hC H locs ls hP hS hl
  refine vx_ret (row (hq := fun _ => trivial) hC H locs ls (fun t ht _ => ⟨v, rfl, rfl, hb, by rw [ht]; exact hP, hS.F ht⟩) hS.2.2)
theorem K_ireturn {o : Oc} {M' : Wd2} {x : Int32} (hd : decode f.2.1 pc = .ok (.ireturn, 1)) (hr : f.2.2.2.1 = some .int) (ho : o = .inl (some (.int x))) (hM : M = M') (hk : k = f.2.2.2.2.2.2.1) (hn : n = f.2.2.2.2.2.2.2.1) : K κ E f (Qm2 κ E f o M') k n L M pc [.int x] :=
  K_end ho hM (fun h => by rw [hr] at h; cases h) (fun hC H locs ls hq hf => W.iret (v := x) hC.1 hC.2.1 (by rw [hC.2.2.2.1, hr]) hq hf hd (hlocks := hC.2.2.2.2.2.2.1)) hk hn
theorem K_zreturn {o : Oc} {M' : Wd2} {x : Int32} (hd : decode f.2.1 pc = .ok (.ireturn, 1)) (hr : f.2.2.2.1 = some .boolean) (hb : isB x) (ho : o = .inl (some (.int x))) (hM : M = M') (hk : k = f.2.2.2.2.2.2.1) (hn : n = f.2.2.2.2.2.2.2.1) : K κ E f (Qm2 κ E f o M') k n L M pc [.int x] :=
  K_end ho hM (fun _ => ⟨x, rfl, hb⟩) (fun hC H locs ls hq hf => W.zret (v := x) (ty := .boolean) hC.1 hC.2.1 (by rw [hC.2.2.2.1, hr]) (by rcases hb with h | h <;> rw [h] <;> rfl) hq hf hd (hlocks := hC.2.2.2.2.2.2.1)) hk hn
theorem K_return {o : Oc} {M' : Wd2} (hd : decode f.2.1 pc = .ok (.return_, 1)) (hr : f.2.2.2.1 = none) (ho : o = .inl none) (hM : M = M') (hk : k = f.2.2.2.2.2.2.1) (hn : n = f.2.2.2.2.2.2.2.1) : K κ E f (Qm2 κ E f o M') k n L M pc [] :=
  K_end ho hM (fun h => by rw [hr] at h; cases h) (fun hC H locs ls hq hf => W.vret hC.1 hC.2.1 (by rw [hC.2.2.2.1, hr]) hq hf hd (hlocks := hC.2.2.2.2.2.2.1)) hk hn
end JR
section JI
variable {κ : Kx} {E : En2} {f : MI} {Q : State → Prop} {k n : Nat} {L L' : List (Nat × Value)} {M : Wd2} {pc : Nat} {st : List Value}
theorem K_iconst {q : Int} {v : Int32} (hd : decode f.2.1 pc = .ok (.iconst q, 1)) (hv : Int32.ofInt q = v) (kk : K κ E f Q k n L M (pc + 1) (.int v :: st)) : K κ E f Q k n L M pc st := fun hC H locs ls hP hS hl => lv_iconst hC.1 hC.2.1 hd hv (kk hC H locs ls hP hS hl)
theorem K_bipush {q : Int} {v : Int32} (hd : decode f.2.1 pc = .ok (.bipush q, 2)) (hv : (Int8.ofInt q).toInt32 = v) (kk : K κ E f Q k n L M (pc + 2) (.int v :: st)) : K κ E f Q k n L M pc st := fun hC H locs ls hP hS hl => lv_bipush hC.1 hC.2.1 hd hv (kk hC H locs ls hP hS hl)
theorem K_sipush {q : Int} {v : Int32} (hd : decode f.2.1 pc = .ok (.sipush q, 3)) (hv : (Int16.ofInt q).toInt32 = v) (kk : K κ E f Q k n L M (pc + 3) (.int v :: st)) : K κ E f Q k n L M pc st := fun hC H locs ls hP hS hl => lv_sipush hC.1 hC.2.1 hd hv (kk hC H locs ls hP hS hl)
theorem K_lconst {q : Fin 2} {v : Int64} (hd : decode f.2.1 pc = .ok (.lconst q, 1)) (hv : Int64.ofNat (q : Nat) = v) (kk : K κ E f Q k n L M (pc + 1) (.long v :: st)) : K κ E f Q k n L M pc st := fun hC H locs ls hP hS hl => lv_lconst hC.1 hC.2.1 hd hv (kk hC H locs ls hP hS hl)
theorem K_dconst1  (hd : decode f.2.1 pc = .ok (.dconst 1, 1))  (kk : K κ E f Q k n L M (pc + 1) (.double FP.dconst1 :: st)) : K κ E f Q k n L M pc st := fun hC H locs ls hP hS hl => lv_dconst1 hC.1 hC.2.1 hd  (kk hC H locs ls hP hS hl)
theorem K_dconst0  (hd : decode f.2.1 pc = .ok (.dconst 0, 1))  (kk : K κ E f Q k n L M (pc + 1) (.double FP.dconst0 :: st)) : K κ E f Q k n L M pc st := fun hC H locs ls hP hS hl => lv_dconst0 hC.1 hC.2.1 hd  (kk hC H locs ls hP hS hl)
theorem lv_lk2 {E : En2} {ls : Array Slot} {nL : Nat} {L : List (Nat × Value)} (hl : lv_has ls nL (lvm2 E L)) (j : Nat) {i : Nat} {v : Value} (h : L[j]? = some (i, v)) : ls[i]? = some (.val (cv2 E v)) := lv_at hl j (by rw [List.getElem?_map, h]; rfl)
theorem K_iload_n {q : Fin 4} {i : Nat} {x : Int32} (hd : decode f.2.1 pc = .ok (.iload_n q, 1)) (hi : (q : Nat) = i) (j : Nat) (hj : L[j]? = some (i, .int x)) (kk : K κ E f Q k n L M (pc + 1) (.int x :: st)) : K κ E f Q k n L M pc st := fun hC H locs ls hP hS hl => lv_iload_n hC.1 hC.2.1 hd hi (lv_lk2 hl j hj) (kk hC H locs ls hP hS hl)
theorem K_iload {i : Nat} {x : Int32} (hd : decode f.2.1 pc = .ok (.iload i, 2)) (j : Nat) (hj : L[j]? = some (i, .int x)) (kk : K κ E f Q k n L M (pc + 2) (.int x :: st)) : K κ E f Q k n L M pc st := fun hC H locs ls hP hS hl => lv_iload hC.1 hC.2.1 hd (lv_lk2 hl j hj) (kk hC H locs ls hP hS hl)
theorem K_lload_n {q : Fin 4} {i : Nat} {x : Int64} (hd : decode f.2.1 pc = .ok (.lload_n q, 1)) (hi : (q : Nat) = i) (j : Nat) (hj : L[j]? = some (i, .long x)) (kk : K κ E f Q k n L M (pc + 1) (.long x :: st)) : K κ E f Q k n L M pc st := fun hC H locs ls hP hS hl => lv_lload_n hC.1 hC.2.1 hd hi (lv_lk2 hl j hj) (kk hC H locs ls hP hS hl)
theorem K_lload {i : Nat} {x : Int64} (hd : decode f.2.1 pc = .ok (.lload i, 2)) (j : Nat) (hj : L[j]? = some (i, .long x)) (kk : K κ E f Q k n L M (pc + 2) (.long x :: st)) : K κ E f Q k n L M pc st := fun hC H locs ls hP hS hl => lv_lload hC.1 hC.2.1 hd (lv_lk2 hl j hj) (kk hC H locs ls hP hS hl)
theorem K_aload_n {q : Fin 4} {i : Nat} {x : Nat} (hd : decode f.2.1 pc = .ok (.aload_n q, 1)) (hi : (q : Nat) = i) (j : Nat) (hj : L[j]? = some (i, .ref x)) (kk : K κ E f Q k n L M (pc + 1) (.ref x :: st)) : K κ E f Q k n L M pc st := fun hC H locs ls hP hS hl => lv_aload_n hC.1 hC.2.1 hd hi (lv_lk2 hl j hj) (kk hC H locs ls hP hS hl)
theorem K_aload {i : Nat} {x : Nat} (hd : decode f.2.1 pc = .ok (.aload i, 2)) (j : Nat) (hj : L[j]? = some (i, .ref x)) (kk : K κ E f Q k n L M (pc + 2) (.ref x :: st)) : K κ E f Q k n L M pc st := fun hC H locs ls hP hS hl => lv_aload hC.1 hC.2.1 hd (lv_lk2 hl j hj) (kk hC H locs ls hP hS hl)
theorem K_dload_n {q : Fin 4} {i : Nat} {x : UInt64} (hd : decode f.2.1 pc = .ok (.dload_n q, 1)) (hi : (q : Nat) = i) (j : Nat) (hj : L[j]? = some (i, .double x)) (kk : K κ E f Q k n L M (pc + 1) (.double x :: st)) : K κ E f Q k n L M pc st := fun hC H locs ls hP hS hl => lv_dload_n hC.1 hC.2.1 hd hi (lv_lk2 hl j hj) (kk hC H locs ls hP hS hl)
theorem K_dload {i : Nat} {x : UInt64} (hd : decode f.2.1 pc = .ok (.dload i, 2)) (j : Nat) (hj : L[j]? = some (i, .double x)) (kk : K κ E f Q k n L M (pc + 2) (.double x :: st)) : K κ E f Q k n L M pc st := fun hC H locs ls hP hS hl => lv_dload hC.1 hC.2.1 hd (lv_lk2 hl j hj) (kk hC H locs ls hP hS hl)
theorem lvm_fl12 (E : En2) (i : Nat) (L : List (Nat × Value)) : (lvm2 E L).filter (fun q => !(q.1 == i) && !(q.1 + 1 == i && q.2.category == 2)) = lvm2 E (L.filter (fl1 i)) := by
  simp only [lvm2, List.filter_map]
  congr 1
  apply List.filter_congr
  intro q _
  simp only [Function.comp, fl1, cv_cat2]
theorem lvm_fl22 (E : En2) (i : Nat) (L : List (Nat × Value)) : (lvm2 E L).filter (fun q => !(q.1 == i) && (!(q.1 == i + 1) && !(q.1 + 1 == i && q.2.category == 2))) = lvm2 E (L.filter (fl2 i)) := by
  simp only [lvm2, List.filter_map]
  congr 1
  apply List.filter_congr
  intro q _
  simp only [Function.comp, fl2, cv_cat2]
theorem lvm_pick2 (E : En2) (L : List (Nat × Value)) (ks : List Nat) : lv_pick (lvm2 E L) ks = lvm2 E (lv_pick L ks) := by
  simp only [lv_pick, lvm2, List.map_filterMap, List.getElem?_map]
theorem lv_st12 {E : En2} {ls : Array Slot} {nL i : Nat} {v : Value} {L L' : List (Nat × Value)} {w : Value} (ks : List Nat) (hw : cv2 E v = w) (hp : lv_pick ((i, v) :: L.filter (fl1 i)) ks = L') (h : lv_has ls nL ((i, w) :: (lvm2 E L).filter (fun q => !(q.1 == i) && !(q.1 + 1 == i && q.2.category == 2)))) : lv_has ls nL (lvm2 E L') := by
  refine lv_sub h ks ?_
  rw [lvm_fl12, ← hw, ← hp, ← lvm_pick2]
  rfl
theorem lv_st22 {E : En2} {ls : Array Slot} {nL i : Nat} {v : Value} {L L' : List (Nat × Value)} {w : Value} (ks : List Nat) (hw : cv2 E v = w) (hp : lv_pick ((i, v) :: L.filter (fl2 i)) ks = L') (h : lv_has ls nL ((i, w) :: (lvm2 E L).filter (fun q => !(q.1 == i) && (!(q.1 == i + 1) && !(q.1 + 1 == i && q.2.category == 2))))) : lv_has ls nL (lvm2 E L') := by
  refine lv_sub h ks ?_
  rw [lvm_fl22, ← hw, ← hp, ← lvm_pick2]
  rfl
theorem K_istore_n {q : Fin 4} {i : Nat} {x : Int32} (hd : decode f.2.1 pc = .ok (.istore_n q, 1)) (hi : (q : Nat) = i) (hn : i < f.2.2.1) (ks : List Nat) (hp : lv_pick ((i, .int x) :: L.filter (fl1 i)) ks = L') (kk : K κ E f Q k n L' M (pc + 1) st) : K κ E f Q k n L M pc (.int x :: st) := fun hC H locs ls hP hS hl => lv_istore_n hC.1 hC.2.1 hd hi hl hn rfl (fun ls' hl' => kk hC H locs ls' hP hS (lv_st12 ks rfl hp hl'))
theorem K_istore {i : Nat} {x : Int32} (hd : decode f.2.1 pc = .ok (.istore i, 2)) (hn : i < f.2.2.1) (ks : List Nat) (hp : lv_pick ((i, .int x) :: L.filter (fl1 i)) ks = L') (kk : K κ E f Q k n L' M (pc + 2) st) : K κ E f Q k n L M pc (.int x :: st) := fun hC H locs ls hP hS hl => lv_istore hC.1 hC.2.1 hd hl hn rfl (fun ls' hl' => kk hC H locs ls' hP hS (lv_st12 ks rfl hp hl'))
theorem K_lstore_n {q : Fin 4} {i : Nat} {x : Int64} (hd : decode f.2.1 pc = .ok (.lstore_n q, 1)) (hi : (q : Nat) = i) (hn : i + 1 < f.2.2.1) (ks : List Nat) (hp : lv_pick ((i, .long x) :: L.filter (fl2 i)) ks = L') (kk : K κ E f Q k n L' M (pc + 1) st) : K κ E f Q k n L M pc (.long x :: st) := fun hC H locs ls hP hS hl => lv_lstore_n hC.1 hC.2.1 hd hi hl hn rfl (fun ls' hl' => kk hC H locs ls' hP hS (lv_st22 ks rfl hp hl'))
theorem K_lstore {i : Nat} {x : Int64} (hd : decode f.2.1 pc = .ok (.lstore i, 2)) (hn : i + 1 < f.2.2.1) (ks : List Nat) (hp : lv_pick ((i, .long x) :: L.filter (fl2 i)) ks = L') (kk : K κ E f Q k n L' M (pc + 2) st) : K κ E f Q k n L M pc (.long x :: st) := fun hC H locs ls hP hS hl => lv_lstore hC.1 hC.2.1 hd hl hn rfl (fun ls' hl' => kk hC H locs ls' hP hS (lv_st22 ks rfl hp hl'))
theorem K_astore_n {q : Fin 4} {i : Nat} {x : Nat} (hd : decode f.2.1 pc = .ok (.astore_n q, 1)) (hi : (q : Nat) = i) (hn : i < f.2.2.1) (ks : List Nat) (hp : lv_pick ((i, .ref x) :: L.filter (fl1 i)) ks = L') (kk : K κ E f Q k n L' M (pc + 1) st) : K κ E f Q k n L M pc (.ref x :: st) := fun hC H locs ls hP hS hl => lv_astore_n hC.1 hC.2.1 hd hi hl hn rfl (fun ls' hl' => kk hC H locs ls' hP hS (lv_st12 ks rfl hp hl'))
theorem K_astore {i : Nat} {x : Nat} (hd : decode f.2.1 pc = .ok (.astore i, 2)) (hn : i < f.2.2.1) (ks : List Nat) (hp : lv_pick ((i, .ref x) :: L.filter (fl1 i)) ks = L') (kk : K κ E f Q k n L' M (pc + 2) st) : K κ E f Q k n L M pc (.ref x :: st) := fun hC H locs ls hP hS hl => lv_astore hC.1 hC.2.1 hd hl hn rfl (fun ls' hl' => kk hC H locs ls' hP hS (lv_st12 ks rfl hp hl'))
theorem K_dstore_n {q : Fin 4} {i : Nat} {x : UInt64} (hd : decode f.2.1 pc = .ok (.dstore_n q, 1)) (hi : (q : Nat) = i) (hn : i + 1 < f.2.2.1) (ks : List Nat) (hp : lv_pick ((i, .double x) :: L.filter (fl2 i)) ks = L') (kk : K κ E f Q k n L' M (pc + 1) st) : K κ E f Q k n L M pc (.double x :: st) := fun hC H locs ls hP hS hl => lv_dstore_n hC.1 hC.2.1 hd hi hl hn rfl (fun ls' hl' => kk hC H locs ls' hP hS (lv_st22 ks rfl hp hl'))
theorem K_dstore {i : Nat} {x : UInt64} (hd : decode f.2.1 pc = .ok (.dstore i, 2)) (hn : i + 1 < f.2.2.1) (ks : List Nat) (hp : lv_pick ((i, .double x) :: L.filter (fl2 i)) ks = L') (kk : K κ E f Q k n L' M (pc + 2) st) : K κ E f Q k n L M pc (.double x :: st) := fun hC H locs ls hP hS hl => lv_dstore hC.1 hC.2.1 hd hl hn rfl (fun ls' hl' => kk hC H locs ls' hP hS (lv_st22 ks rfl hp hl'))
theorem K_iinc {i : Nat} {q : Int} {x v : Int32} (hd : decode f.2.1 pc = .ok (.iinc i q, 3)) (j : Nat) (hj : L[j]? = some (i, .int x)) (hv : x + Int32.ofInt q = v) (hn : i < f.2.2.1) (ks : List Nat) (hp : lv_pick ((i, .int v) :: L.filter (fl1 i)) ks = L') (kk : K κ E f Q k n L' M (pc + 3) st) : K κ E f Q k n L M pc st := fun hC H locs ls hP hS hl => lv_iinc hC.1 hC.2.1 hd hl (k := j) (by rw [List.getElem?_map, hj]; rfl) hv hn rfl (fun ls' hl' => kk hC H locs ls' hP hS (lv_st12 ks rfl hp hl'))
theorem K_iadd {x y : Int32} (hd : decode f.2.1 pc = .ok (.iadd, 1))  (kk : K κ E f Q k n L M (pc + 1) (.int (x + y) :: st)) : K κ E f Q k n L M pc (.int y :: .int x :: st) := fun hC H locs ls hP hS hl => lv_iadd hC.1 hC.2.1 hd  (kk hC H locs ls hP hS hl)
theorem K_isub {x y : Int32} (hd : decode f.2.1 pc = .ok (.isub, 1))  (kk : K κ E f Q k n L M (pc + 1) (.int (x - y) :: st)) : K κ E f Q k n L M pc (.int y :: .int x :: st) := fun hC H locs ls hP hS hl => lv_isub hC.1 hC.2.1 hd  (kk hC H locs ls hP hS hl)
theorem K_imul {x y : Int32} (hd : decode f.2.1 pc = .ok (.imul, 1))  (kk : K κ E f Q k n L M (pc + 1) (.int (x * y) :: st)) : K κ E f Q k n L M pc (.int y :: .int x :: st) := fun hC H locs ls hP hS hl => lv_imul hC.1 hC.2.1 hd  (kk hC H locs ls hP hS hl)
theorem K_iand {x y : Int32} (hd : decode f.2.1 pc = .ok (.iand, 1))  (kk : K κ E f Q k n L M (pc + 1) (.int (x &&& y) :: st)) : K κ E f Q k n L M pc (.int y :: .int x :: st) := fun hC H locs ls hP hS hl => lv_iand hC.1 hC.2.1 hd  (kk hC H locs ls hP hS hl)
theorem K_ior {x y : Int32} (hd : decode f.2.1 pc = .ok (.ior, 1))  (kk : K κ E f Q k n L M (pc + 1) (.int (x ||| y) :: st)) : K κ E f Q k n L M pc (.int y :: .int x :: st) := fun hC H locs ls hP hS hl => lv_ior hC.1 hC.2.1 hd  (kk hC H locs ls hP hS hl)
theorem K_ixor {x y : Int32} (hd : decode f.2.1 pc = .ok (.ixor, 1))  (kk : K κ E f Q k n L M (pc + 1) (.int (x ^^^ y) :: st)) : K κ E f Q k n L M pc (.int y :: .int x :: st) := fun hC H locs ls hP hS hl => lv_ixor hC.1 hC.2.1 hd  (kk hC H locs ls hP hS hl)
theorem K_ishl {x y : Int32} (hd : decode f.2.1 pc = .ok (.ishl, 1))  (kk : K κ E f Q k n L M (pc + 1) (.int (x <<< (y &&& 31)) :: st)) : K κ E f Q k n L M pc (.int y :: .int x :: st) := fun hC H locs ls hP hS hl => lv_ishl hC.1 hC.2.1 hd  (kk hC H locs ls hP hS hl)
theorem K_ishr {x y : Int32} (hd : decode f.2.1 pc = .ok (.ishr, 1))  (kk : K κ E f Q k n L M (pc + 1) (.int (x >>> (y &&& 31)) :: st)) : K κ E f Q k n L M pc (.int y :: .int x :: st) := fun hC H locs ls hP hS hl => lv_ishr hC.1 hC.2.1 hd  (kk hC H locs ls hP hS hl)
theorem K_iushr {x y v : Int32} (hd : decode f.2.1 pc = .ok (.iushr, 1)) (hv : (x.toUInt32 >>> (y.toUInt32 &&& Int32.toUInt32 31)).toInt32 = v) (kk : K κ E f Q k n L M (pc + 1) (.int v :: st)) : K κ E f Q k n L M pc (.int y :: .int x :: st) := fun hC H locs ls hP hS hl => lv_iushr hC.1 hC.2.1 hd hv (kk hC H locs ls hP hS hl)
theorem K_idiv {x y : Int32} (hd : decode f.2.1 pc = .ok (.idiv, 1)) (hne : ¬ y = 0) (kk : K κ E f Q k n L M (pc + 1) (.int (x / y) :: st)) : K κ E f Q k n L M pc (.int y :: .int x :: st) := fun hC H locs ls hP hS hl => lv_idiv hC.1 hC.2.1 hd hne (kk hC H locs ls hP hS hl)
theorem K_irem {x y : Int32} (hd : decode f.2.1 pc = .ok (.irem, 1)) (hne : ¬ y = 0) (kk : K κ E f Q k n L M (pc + 1) (.int (x - x / y * y) :: st)) : K κ E f Q k n L M pc (.int y :: .int x :: st) := fun hC H locs ls hP hS hl => lv_irem hC.1 hC.2.1 hd hne (kk hC H locs ls hP hS hl)
theorem K_ineg {x : Int32} (hd : decode f.2.1 pc = .ok (.ineg, 1))  (kk : K κ E f Q k n L M (pc + 1) (.int (-x) :: st)) : K κ E f Q k n L M pc (.int x :: st) := fun hC H locs ls hP hS hl => lv_ineg hC.1 hC.2.1 hd  (kk hC H locs ls hP hS hl)
theorem K_ladd {x y : Int64} (hd : decode f.2.1 pc = .ok (.ladd, 1))  (kk : K κ E f Q k n L M (pc + 1) (.long (x + y) :: st)) : K κ E f Q k n L M pc (.long y :: .long x :: st) := fun hC H locs ls hP hS hl => lv_ladd hC.1 hC.2.1 hd  (kk hC H locs ls hP hS hl)
theorem K_lsub {x y : Int64} (hd : decode f.2.1 pc = .ok (.lsub, 1))  (kk : K κ E f Q k n L M (pc + 1) (.long (x - y) :: st)) : K κ E f Q k n L M pc (.long y :: .long x :: st) := fun hC H locs ls hP hS hl => lv_lsub hC.1 hC.2.1 hd  (kk hC H locs ls hP hS hl)
theorem K_lmul {x y : Int64} (hd : decode f.2.1 pc = .ok (.lmul, 1))  (kk : K κ E f Q k n L M (pc + 1) (.long (x * y) :: st)) : K κ E f Q k n L M pc (.long y :: .long x :: st) := fun hC H locs ls hP hS hl => lv_lmul hC.1 hC.2.1 hd  (kk hC H locs ls hP hS hl)
theorem K_lor {x y : Int64} (hd : decode f.2.1 pc = .ok (.lor, 1))  (kk : K κ E f Q k n L M (pc + 1) (.long (x ||| y) :: st)) : K κ E f Q k n L M pc (.long y :: .long x :: st) := fun hC H locs ls hP hS hl => lv_lor hC.1 hC.2.1 hd  (kk hC H locs ls hP hS hl)
theorem K_lshl {x v : Int64} {y : Int32} (hd : decode f.2.1 pc = .ok (.lshl, 1)) (hv : x <<< (y.toInt64 &&& 63) = v) (kk : K κ E f Q k n L M (pc + 1) (.long v :: st)) : K κ E f Q k n L M pc (.int y :: .long x :: st) := fun hC H locs ls hP hS hl => lv_lshl hC.1 hC.2.1 hd hv (kk hC H locs ls hP hS hl)
theorem K_i2l {x : Int32} (hd : decode f.2.1 pc = .ok (.i2l, 1))  (kk : K κ E f Q k n L M (pc + 1) (.long x.toInt64 :: st)) : K κ E f Q k n L M pc (.int x :: st) := fun hC H locs ls hP hS hl => lv_i2l hC.1 hC.2.1 hd rfl (kk hC H locs ls hP hS hl)
theorem K_l2i {x : Int64} (hd : decode f.2.1 pc = .ok (.l2i, 1))  (kk : K κ E f Q k n L M (pc + 1) (.int x.toInt32 :: st)) : K κ E f Q k n L M pc (.long x :: st) := fun hC H locs ls hP hS hl => lv_l2i hC.1 hC.2.1 hd rfl (kk hC H locs ls hP hS hl)
theorem K_i2d {x : Int32} (hd : decode f.2.1 pc = .ok (.i2d, 1))  (kk : K κ E f Q k n L M (pc + 1) (.double (FP.i2d x) :: st)) : K κ E f Q k n L M pc (.int x :: st) := fun hC H locs ls hP hS hl => lv_i2d hC.1 hC.2.1 hd  (kk hC H locs ls hP hS hl)
theorem K_d2l {x : UInt64} (hd : decode f.2.1 pc = .ok (.d2l, 1))  (kk : K κ E f Q k n L M (pc + 1) (.long (FP.d2l x) :: st)) : K κ E f Q k n L M pc (.double x :: st) := fun hC H locs ls hP hS hl => lv_d2l hC.1 hC.2.1 hd  (kk hC H locs ls hP hS hl)
theorem K_dmul {x y : UInt64} (hd : decode f.2.1 pc = .ok (.dmul, 1)) (hne : vf_n64 (FP.dmul x y)) (kk : K κ E f Q k n L M (pc + 1) (.double (FP.dmul x y) :: st)) : K κ E f Q k n L M pc (.double y :: .double x :: st) := fun hC H locs ls hP hS hl => lv_dmul hC.1 hC.2.1 hd hne (kk hC H locs ls hP hS hl)
theorem K_dsub {x y : UInt64} (hd : decode f.2.1 pc = .ok (.dsub, 1)) (hne : vf_n64 (FP.dsub x y)) (kk : K κ E f Q k n L M (pc + 1) (.double (FP.dsub x y) :: st)) : K κ E f Q k n L M pc (.double y :: .double x :: st) := fun hC H locs ls hP hS hl => lv_dsub hC.1 hC.2.1 hd hne (kk hC H locs ls hP hS hl)
theorem K_ddiv {x y : UInt64} (hd : decode f.2.1 pc = .ok (.ddiv, 1)) (hne : vf_n64 (FP.ddiv x y)) (kk : K κ E f Q k n L M (pc + 1) (.double (FP.ddiv x y) :: st)) : K κ E f Q k n L M pc (.double y :: .double x :: st) := fun hC H locs ls hP hS hl => lv_ddiv hC.1 hC.2.1 hd hne (kk hC H locs ls hP hS hl)
theorem K_dcmp {x y : UInt64} {op : CmpOp} (hd : decode f.2.1 pc = .ok (.dcmp op, 1))  (kk : K κ E f Q k n L M (pc + 1) (.int (Op.cmpValue (FP.dcmp x y) op) :: st)) : K κ E f Q k n L M pc (.double y :: .double x :: st) := fun hC H locs ls hP hS hl => lv_dcmp hC.1 hC.2.1 hd  (kk hC H locs ls hP hS hl)
theorem K_lcmp {x y : Int64} (hd : decode f.2.1 pc = .ok (.lcmp, 1)) (kk : K κ E f Q k n L M (pc + 1) (.int (lg_cmp x y) :: st)) : K κ E f Q k n L M pc (.long y :: .long x :: st) := fun hC H locs ls hP hS hl => W.lcmp hC.1 hC.2.1 hd (kk hC H locs ls hP hS hl)
theorem K_dup {v : Value} (hd : decode f.2.1 pc = .ok (.dup, 1)) (hv : v.category = 1) (kk : K κ E f Q k n L M (pc + 1) (v :: v :: st)) : K κ E f Q k n L M pc (v :: st) := fun hC H locs ls hP hS hl => lv_dup hC.1 hC.2.1 hd (by rw [cv_cat2]; exact hv) (kk hC H locs ls hP hS hl)
theorem K_pop {v : Value} (hd : decode f.2.1 pc = .ok (.pop, 1)) (hv : v.category = 1) (kk : K κ E f Q k n L M (pc + 1) st) : K κ E f Q k n L M pc (v :: st) := fun hC H locs ls hP hS hl => lv_pop hC.1 hC.2.1 hd (by rw [cv_cat2]; exact hv) (kk hC H locs ls hP hS hl)
theorem K_dup2 {v w : Value} (hd : decode f.2.1 pc = .ok (.dup2, 1)) (hv : v.category = 1) (hw : w.category = 1) (kk : K κ E f Q k n L M (pc + 1) (v :: w :: v :: w :: st)) : K κ E f Q k n L M pc (v :: w :: st) := fun hC H locs ls hP hS hl => lv_dup2_11 hC.1 hC.2.1 hd (by rw [cv_cat2]; exact hv) (by rw [cv_cat2]; exact hw) (kk hC H locs ls hP hS hl)
theorem K_if_eq {x : Int32} {off : Int} {tgt : Nat} (hd : decode f.2.1 pc = .ok (.ifCond .eq off, 3)) (ht : (pc : Int) + off = (tgt : Int)) (kt : x = 0 → K κ E f Q k n L M tgt st) (kf : ¬ x = 0 → K κ E f Q k n L M (pc + 3) st) : K κ E f Q k n L M pc (.int x :: st) := fun hC H locs ls hP hS hl => lv_if_eq hC.1 hC.2.1 hd ht (fun h => kt h hC H locs ls hP hS hl) (fun h => kf h hC H locs ls hP hS hl)
theorem K_if_ne {x : Int32} {off : Int} {tgt : Nat} (hd : decode f.2.1 pc = .ok (.ifCond .ne off, 3)) (ht : (pc : Int) + off = (tgt : Int)) (kt : x ≠ 0 → K κ E f Q k n L M tgt st) (kf : x = 0 → K κ E f Q k n L M (pc + 3) st) : K κ E f Q k n L M pc (.int x :: st) := fun hC H locs ls hP hS hl => lv_if_ne hC.1 hC.2.1 hd ht (fun h => kt h hC H locs ls hP hS hl) (fun h => kf h hC H locs ls hP hS hl)
theorem K_if_lt {x : Int32} {off : Int} {tgt : Nat} (hd : decode f.2.1 pc = .ok (.ifCond .lt off, 3)) (ht : (pc : Int) + off = (tgt : Int)) (kt : x < 0 → K κ E f Q k n L M tgt st) (kf : ¬ x < 0 → K κ E f Q k n L M (pc + 3) st) : K κ E f Q k n L M pc (.int x :: st) := fun hC H locs ls hP hS hl => lv_if_lt hC.1 hC.2.1 hd ht (fun h => kt h hC H locs ls hP hS hl) (fun h => kf h hC H locs ls hP hS hl)
theorem K_if_ge {x : Int32} {off : Int} {tgt : Nat} (hd : decode f.2.1 pc = .ok (.ifCond .ge off, 3)) (ht : (pc : Int) + off = (tgt : Int)) (kt : 0 ≤ x → K κ E f Q k n L M tgt st) (kf : ¬ 0 ≤ x → K κ E f Q k n L M (pc + 3) st) : K κ E f Q k n L M pc (.int x :: st) := fun hC H locs ls hP hS hl => lv_if_ge hC.1 hC.2.1 hd ht (fun h => kt h hC H locs ls hP hS hl) (fun h => kf h hC H locs ls hP hS hl)
theorem K_if_gt {x : Int32} {off : Int} {tgt : Nat} (hd : decode f.2.1 pc = .ok (.ifCond .gt off, 3)) (ht : (pc : Int) + off = (tgt : Int)) (kt : 0 < x → K κ E f Q k n L M tgt st) (kf : ¬ 0 < x → K κ E f Q k n L M (pc + 3) st) : K κ E f Q k n L M pc (.int x :: st) := fun hC H locs ls hP hS hl => lv_if_gt hC.1 hC.2.1 hd ht (fun h => kt h hC H locs ls hP hS hl) (fun h => kf h hC H locs ls hP hS hl)
theorem K_if_le {x : Int32} {off : Int} {tgt : Nat} (hd : decode f.2.1 pc = .ok (.ifCond .le off, 3)) (ht : (pc : Int) + off = (tgt : Int)) (kt : x ≤ 0 → K κ E f Q k n L M tgt st) (kf : ¬ x ≤ 0 → K κ E f Q k n L M (pc + 3) st) : K κ E f Q k n L M pc (.int x :: st) := fun hC H locs ls hP hS hl => lv_if_le hC.1 hC.2.1 hd ht (fun h => kt h hC H locs ls hP hS hl) (fun h => kf h hC H locs ls hP hS hl)
theorem K_icmp_eq {x y : Int32} {off : Int} {tgt : Nat} (hd : decode f.2.1 pc = .ok (.if_icmp .eq off, 3)) (ht : (pc : Int) + off = (tgt : Int)) (kt : x = y → K κ E f Q k n L M tgt st) (kf : ¬ x = y → K κ E f Q k n L M (pc + 3) st) : K κ E f Q k n L M pc (.int y :: .int x :: st) := fun hC H locs ls hP hS hl => lv_icmp_eq hC.1 hC.2.1 hd ht (fun h => kt h hC H locs ls hP hS hl) (fun h => kf h hC H locs ls hP hS hl)
theorem K_icmp_ne {x y : Int32} {off : Int} {tgt : Nat} (hd : decode f.2.1 pc = .ok (.if_icmp .ne off, 3)) (ht : (pc : Int) + off = (tgt : Int)) (kt : x ≠ y → K κ E f Q k n L M tgt st) (kf : x = y → K κ E f Q k n L M (pc + 3) st) : K κ E f Q k n L M pc (.int y :: .int x :: st) := fun hC H locs ls hP hS hl => lv_icmp_ne hC.1 hC.2.1 hd ht (fun h => kt h hC H locs ls hP hS hl) (fun h => kf h hC H locs ls hP hS hl)
theorem K_icmp_lt {x y : Int32} {off : Int} {tgt : Nat} (hd : decode f.2.1 pc = .ok (.if_icmp .lt off, 3)) (ht : (pc : Int) + off = (tgt : Int)) (kt : x < y → K κ E f Q k n L M tgt st) (kf : ¬ x < y → K κ E f Q k n L M (pc + 3) st) : K κ E f Q k n L M pc (.int y :: .int x :: st) := fun hC H locs ls hP hS hl => lv_icmp_lt hC.1 hC.2.1 hd ht (fun h => kt h hC H locs ls hP hS hl) (fun h => kf h hC H locs ls hP hS hl)
theorem K_icmp_ge {x y : Int32} {off : Int} {tgt : Nat} (hd : decode f.2.1 pc = .ok (.if_icmp .ge off, 3)) (ht : (pc : Int) + off = (tgt : Int)) (kt : y ≤ x → K κ E f Q k n L M tgt st) (kf : ¬ y ≤ x → K κ E f Q k n L M (pc + 3) st) : K κ E f Q k n L M pc (.int y :: .int x :: st) := fun hC H locs ls hP hS hl => lv_icmp_ge hC.1 hC.2.1 hd ht (fun h => kt h hC H locs ls hP hS hl) (fun h => kf h hC H locs ls hP hS hl)
theorem K_icmp_gt {x y : Int32} {off : Int} {tgt : Nat} (hd : decode f.2.1 pc = .ok (.if_icmp .gt off, 3)) (ht : (pc : Int) + off = (tgt : Int)) (kt : y < x → K κ E f Q k n L M tgt st) (kf : ¬ y < x → K κ E f Q k n L M (pc + 3) st) : K κ E f Q k n L M pc (.int y :: .int x :: st) := fun hC H locs ls hP hS hl => lv_icmp_gt hC.1 hC.2.1 hd ht (fun h => kt h hC H locs ls hP hS hl) (fun h => kf h hC H locs ls hP hS hl)
theorem K_icmp_le {x y : Int32} {off : Int} {tgt : Nat} (hd : decode f.2.1 pc = .ok (.if_icmp .le off, 3)) (ht : (pc : Int) + off = (tgt : Int)) (kt : x ≤ y → K κ E f Q k n L M tgt st) (kf : ¬ x ≤ y → K κ E f Q k n L M (pc + 3) st) : K κ E f Q k n L M pc (.int y :: .int x :: st) := fun hC H locs ls hP hS hl => lv_icmp_le hC.1 hC.2.1 hd ht (fun h => kt h hC H locs ls hP hS hl) (fun h => kf h hC H locs ls hP hS hl)
theorem K_goto {off : Int} {tgt : Nat} (hd : decode f.2.1 pc = .ok (.goto off, 3)) (ht : (pc : Int) + off = (tgt : Int)) (kk : K κ E f Q k n L M tgt st) : K κ E f Q k n L M pc st := fun hC H locs ls hP hS hl => lv_goto hC.1 hC.2.1 hd ht (kk hC H locs ls hP hS hl)
theorem K_ifnull {x : Nat} {off : Int} (hd : decode f.2.1 pc = .ok (.ifnull off, 3)) (kk : K κ E f Q k n L M (pc + 3) st) : K κ E f Q k n L M pc (.ref x :: st) := fun hC H locs ls hP hS hl => lv_ifnull hC.1 hC.2.1 hd (kk hC H locs ls hP hS hl)
theorem K_ldc {i : Nat} {v : Int32} (hw : Cond.constant f.1.cls i v ∈ SWL) (hd : decode f.2.1 pc = .ok (.ldc i, 2)) (kk : K κ E f Q k n L M (pc + 2) (.int v :: st)) : K κ E f Q k n L M pc st := fun hC H locs ls hP hS hl => lv_ldc hC.1 hC.2.1 hC.2.2.2.2.1 (hC.2.2.2.2.2.1 _ hw) hd (kk hC H locs ls hP hS hl)
theorem K_ldcw {i : Nat} {v : Int32} (hw : Cond.constant f.1.cls i v ∈ SWL) (hd : decode f.2.1 pc = .ok (.ldc_w i, 3)) (kk : K κ E f Q k n L M (pc + 3) (.int v :: st)) : K κ E f Q k n L M pc st := fun hC H locs ls hP hS hl => lv_ldcw hC.1 hC.2.1 hC.2.2.2.2.1 (hC.2.2.2.2.2.1 _ hw) hd (kk hC H locs ls hP hS hl)
theorem K_ldc2 {i : Nat} {v : Int64} (hw : Cond.constantLong f.1.cls i v ∈ SWL) (hd : decode f.2.1 pc = .ok (.ldc2_w i, 3)) (kk : K κ E f Q k n L M (pc + 3) (.long v :: st)) : K κ E f Q k n L M pc st := fun hC H locs ls hP hS hl => lv_ldc2 hC.1 hC.2.1 hC.2.2.2.2.1 (hC.2.2.2.2.2.1 _ hw) hd (kk hC H locs ls hP hS hl)
theorem K_ldc2d {i : Nat} {v : UInt64} (hw : Cond.constantDouble f.1.cls i v ∈ SWL) (hd : decode f.2.1 pc = .ok (.ldc2_w i, 3)) (kk : K κ E f Q k n L M (pc + 3) (.double v :: st)) : K κ E f Q k n L M pc st := fun hC H locs ls hP hS hl => lv_ldc2d hC.1 hC.2.1 hC.2.2.2.2.1 (hC.2.2.2.2.2.1 _ hw) hd (kk hC H locs ls hP hS hl)
theorem K_lookup {dflt : Int} {ps : Array (Int × Int)} {len : Nat} {x : Int32} {off : Int} {tgt : Nat} (hd : decode f.2.1 pc = .ok (.lookupswitch dflt ps, len)) (hp : (ps.toList.zip (ps.toList.drop 1)).all (fun (a, next) => a.1 < next.1) = true) (ho : Op.lookupswitch.offset ps.toList dflt x.toInt = off) (ht : (pc : Int) + off = (tgt : Int)) (kk : K κ E f Q k n L M tgt st) : K κ E f Q k n L M pc (.int x :: st) := fun hC H locs ls hP hS hl => lv_lookup hC.1 hC.2.1 hd hp ho ht (kk hC H locs ls hP hS hl)
theorem K_tableIn {dflt lo hi : Int} {offs : Array Int} {len : Nat} {x : Int32} {off : Int} {tgt : Nat} (hd : decode f.2.1 pc = .ok (.tableswitch dflt lo hi offs, len)) (h1 : ¬ x.toInt < lo) (h2 : ¬ hi < x.toInt) (ho : offs[(x.toInt - lo).toNat]? = some off) (ht : (pc : Int) + off = (tgt : Int)) (kk : K κ E f Q k n L M tgt st) : K κ E f Q k n L M pc (.int x :: st) := fun hC H locs ls hP hS hl => lv_tableIn hC.1 hC.2.1 hd h1 h2 ho ht (kk hC H locs ls hP hS hl)
theorem K_tableOut {dflt lo hi : Int} {offs : Array Int} {len : Nat} {x : Int32} {tgt : Nat} (hd : decode f.2.1 pc = .ok (.tableswitch dflt lo hi offs, len)) (h : x.toInt < lo ∨ hi < x.toInt) (ht : (pc : Int) + dflt = (tgt : Int)) (kk : K κ E f Q k n L M tgt st) : K κ E f Q k n L M pc (.int x :: st) := fun hC H locs ls hP hS hl => lv_tableOut hC.1 hC.2.1 hd h ht (kk hC H locs ls hP hS hl)
end JI
theorem FB_Rl2 {E : En2} {av : List Value} {M : Wd2} : FrameBlind (va_Pc (cvs2 E av) (Rl2 E M)) := fun a _ g mk' q => ⟨q.1, q.2.1, q.2.2.calling g mk' a⟩
section JK2
variable {p : Program} {l : Launch} {e : Env} {R : Room} {s : State} {m : MethodId} {args : Array Value} {below : List Frame} {meth : Method} {c : Code} {H : Heap} {locs : List Loc} {k n : Nat} {Q : State → Prop}
theorem jrun2 {E : En2} {g : MI} {o : Oc} {M' : Wd2} {mc ms pc : Nat} {ls : Array Slot} {st0 rest : List Value} {a : Array Value}
    (hr : vx_Run p l e R s m args below meth c H locs k n mc ms (F0 m pc ls st0) rest (QV2 E g o M' a) (XV2 E o M') (Ar2 E)) (hS : va_S (Ar2 E) s.heap H locs)
    (kk : ∀ v, o = .inl v → okB g.2.2.2.1 v → ∀ (H1 : Heap) (locs1 : List Loc), P2 E M' H1 → va_S (Ar2 E) s.heap H1 locs1 → W p l e R s m args below meth c H1 locs1 (k + mc) (n + ms) Q (F0 m (pc + 3) ls ((v.map (cv2 E)).toList ++ rest)))
    (kx : ∀ X, o = .inr X → ∀ (ce : Cell) (q : Addr) (H1 : Heap) (locs1 : List Loc), P2 E M' H1 → va_S (Ar2 E) s.heap H1 locs1 → H1[q]? = some ce → ce.vm = .none → s.vm.findClass X = some ce.cls → vx_W p l e R s m args below meth c H1 locs1 (k + mc) (n + ms) Q (F0 m pc ls rest) q) :
    W p l e R s m args below meth c H locs k n Q (F0 m pc ls st0) := by
  intro T hT X
  rcases hr T hT X with ⟨v, st₀, t, T', L, h0, X', hL, e1, e2, ⟨v2, ho, hoc, hb, hP1, hF⟩, st⟩ | ⟨q, st₀, t, T', L, E', ce, h0, X', hL, e1, e2, ⟨ho, hP1, hF⟩, hce, hcv, hcl, st⟩
  · cases hoc
    obtain ⟨k1, k2, k3⟩ := vx_keep h0 e1 hS (fun _ _ h => h) (fun _ h => h) hL hF
    obtain ⟨t2, a1, b1⟩ := kk v2 ho hb T'.heap (locs ++ L) (by rw [e1]; exact hP1) k3 T' rfl X'
    exact ⟨t2, st t2 a1, b1⟩
  · obtain ⟨k1, k2, k3⟩ := vx_keep h0 e1 hS (fun _ _ h => h) (fun _ h => h) hL hF
    obtain ⟨t2, a1, b1⟩ := kx E' ho ce q T'.heap (locs ++ L) (by rw [e1]; exact hP1) k3 (by rw [e1]; exact hce) hcv hcl T' rfl X'
    exact ⟨t2, st.trans a1, b1⟩
end JK2
theorem cvs_sum2 (E : En2) (st : List Value) : ((cvs2 E st).map fun v => v.category).sum = (st.map fun v => v.category).sum := by
  rw [List.map_map]
  congr 1
  apply List.map_congr_left
  intro v _
  exact cv_cat2 E v
section JC2
variable {κ : Kx} {E : En2} {f : MI} {Q : State → Prop} {k n : Nat} {L L' : List (Nat × Value)} {M M' : Wd2} {pc : Nat} {st : List Value}
def Kk (κ : Kx) (E : En2) (f g : MI) (Q : State → Prop) (k n : Nat) (L : List (Nat × Value)) (M' : Wd2) (pc : Nat) (rest : List Value) (o : Oc) : Prop :=
  Cx2 κ E f → (∀ v, o = .inl v → okB g.2.2.2.1 v → K κ E f Q (k + g.2.2.2.2.2.2.1) (n + g.2.2.2.2.2.2.2.1) L M' (pc + 3) (v.toList ++ rest)) ∧
  (∀ X, o = .inr X → ∀ (ce : Cell) (q : Addr) (H1 : Heap) (locs1 : List Loc) (ls : Array Slot), P2 E M' H1 → va_S (Ar2 E) κ.2.2.2.2.1.heap H1 locs1 → lv_has ls f.2.2.1 (lvm2 E L) → H1[q]? = some ce → ce.vm = .none → κ.2.2.2.2.1.vm.findClass X = some ce.cls →
    vx_W κ.1 κ.2.1 κ.2.2.1 κ.2.2.2.1 κ.2.2.2.2.1 κ.2.2.2.2.2.1 κ.2.2.2.2.2.2.1 κ.2.2.2.2.2.2.2.1 κ.2.2.2.2.2.2.2.2.1 κ.2.2.2.2.2.2.2.2.2 H1 locs1 (k + g.2.2.2.2.2.2.1) (n + g.2.2.2.2.2.2.2.1) Q (F0 κ.2.2.2.2.2.1 pc ls (cvs2 E rest)) q)
theorem K_callS {g : MI} {np idx : Nat} {o : Oc} {M' : Wd2} {st0 : List Value} (av rest : List Value) (hg : MS g np) (hlink : Cond.methodLink f.1.cls idx g.1 ∈ SWL) (hcon : Con2 E g av M o M') (hn : av.length = np) (hst : st0 = av.reverse ++ rest) (hrm : RM f g k n) (hsum : (rest.map fun v => v.category).sum ≤ 8) (hd : decode f.2.1 pc = .ok (.invokestatic idx, 3))
    (kk : Kk κ E f g Q k n L M' pc rest o) : K κ E f Q k n L M pc st0 := by
  intro hC H locs ls hP hS hl
  obtain ⟨g1, g2, g3, g4, g5, g6⟩ := hg
  obtain ⟨hx, hbt, hml, hrt, hown, hts, hlk, hR, hSx, hl0, -⟩ := id hC
  obtain ⟨kv, kx⟩ := kk hC
  subst hst
  have hrun := vx_runS (p := κ.1) (l := κ.2.1) (e := κ.2.2.1) (R := κ.2.2.2.1) (s := κ.2.2.2.2.1) (m := κ.2.2.2.2.2.1) (args := κ.2.2.2.2.2.2.1) (below := κ.2.2.2.2.2.2.2.1) (meth := κ.2.2.2.2.2.2.2.2.1) (c := κ.2.2.2.2.2.2.2.2.2) (H := H) (locs := locs) (cells := k) (slots := n)
    (As := cvs2 E av) (rest := cvs2 E rest) (g := F0 κ.2.2.2.2.2.1 pc ls (cvs2 E (av.reverse ++ rest))) (Ts := SWL) (own := f.1.cls) (nL := f.2.2.1) (index := idx) (maxL := g.2.2.1) (bytes := g.2.1) (ret := g.2.2.2.1)
    ⟨hx, hbt, hml, hown, hts⟩ (hcon κ.2.1 hl0) ⟨⟨rfl, rfl, by rw [hR]; exact hrm.1.1, by rw [hR]; exact hrm.1.2, wsf_warm hts (by rw [g1]; exact g2), by rw [← g1]; exact List.mem_cons_self, hts _ g2, hts _ g3, g4, np_of g5, hts _ hlink⟩, hts _ g6⟩
    ⟨FB_Rl2 (av := av), fun U hU hW => ⟨rfl, by rw [hU]; exact hP, hSx.to hS hU hW⟩⟩ rfl (by rw [List.length_map]; exact hn) hl.1 (by simp only [cvs2, List.map_append, List.map_reverse]) (lv_room (by rw [cvs_sum2]; exact hsum)) hd ⟨by rw [hR]; exact hrm.2.1, by rw [hR]; exact hrm.2.2⟩
  refine jrun2 hrun hS (fun v ho hok H1 locs1 hP1 hS1 => ?_) (fun X ho ce q H1 locs1 hP1 hS1 h1 h2 h3 => kx X ho ce q H1 locs1 ls hP1 hS1 hl h1 h2 h3)
  have h9 := kv v ho hok hC H1 locs1 ls hP1 hS1 hl
  cases v <;> exact h9
theorem Kk_ret {g : MI} {M' : Wd2} {rest : List Value} {v : Option Value} (kk : okB g.2.2.2.1 v → K κ E f Q (k + g.2.2.2.2.2.2.1) (n + g.2.2.2.2.2.2.2.1) L M' (pc + 3) (v.toList ++ rest)) : Kk κ E f g Q k n L M' pc rest (.inl v) :=
  fun _ => ⟨fun _ ho hok => by cases ho; exact kk hok, fun _ ho => by cases ho⟩
theorem K_topi {x y : Int32} (h : y = x) (kk : K κ E f Q k n L M pc (.int y :: st)) : K κ E f Q k n L M pc (.int x :: st) := h ▸ kk
theorem K_topl {x y : Int64} (h : y = x) (kk : K κ E f Q k n L M pc (.long y :: st)) : K κ E f Q k n L M pc (.long x :: st) := h ▸ kk
theorem K_topd {x y : UInt64} (h : y = x) (kk : K κ E f Q k n L M pc (.double y :: st)) : K κ E f Q k n L M pc (.double x :: st) := h ▸ kk
theorem K_topa {x y : Nat} (h : y = x) (kk : K κ E f Q k n L M pc (.ref y :: st)) : K κ E f Q k n L M pc (.ref x :: st) := h ▸ kk
theorem K_M (M' : Wd2) (h : M = M') (kk : K κ E f Q k n L M' pc st) : K κ E f Q k n L M pc st := h ▸ kk
theorem Kk_v {g : MI} {rest : List Value} {v : Value} (h1 : g.2.2.2.2.2.2.1 = 0) (h2 : g.2.2.2.2.2.2.2.1 = 0) (kk : okB g.2.2.2.1 (some v) → K κ E f Q k n L M' (pc + 3) (v :: rest)) : Kk κ E f g Q k n L M' pc rest (.inl (some v)) :=
  Kk_ret fun hok => by rw [h1, h2]; exact kk hok
theorem Kk_0 {g : MI} {rest : List Value} (h1 : g.2.2.2.2.2.2.1 = 0) (h2 : g.2.2.2.2.2.2.2.1 = 0) (kk : K κ E f Q k n L M' (pc + 3) rest) : Kk κ E f g Q k n L M' pc rest (.inl none) :=
  Kk_ret fun _ => by rw [h1, h2]; exact kk
theorem Kk_vk {g : MI} {rest : List Value} {v : Value} (k' n' : Nat) (h1 : k + g.2.2.2.2.2.2.1 = k') (h2 : n + g.2.2.2.2.2.2.2.1 = n') (kk : okB g.2.2.2.1 (some v) → K κ E f Q k' n' L M' (pc + 3) (v :: rest)) : Kk κ E f g Q k n L M' pc rest (.inl (some v)) :=
  Kk_ret fun hok => by rw [h1, h2]; exact kk hok
theorem Kk_0k {g : MI} {rest : List Value} (k' n' : Nat) (h1 : k + g.2.2.2.2.2.2.1 = k') (h2 : n + g.2.2.2.2.2.2.2.1 = n') (kk : K κ E f Q k' n' L M' (pc + 3) rest) : Kk κ E f g Q k n L M' pc rest (.inl none) :=
  Kk_ret fun _ => by rw [h1, h2]; exact kk
theorem K_join (L' : List (Nat × Value)) (M' : Wd2) (pc' : Nat) (st' : List Value) (hJ : K κ E f Q k n L' M' pc' st') (kk : K κ E f Q k n L' M' pc' st' → K κ E f Q k n L M pc st) : K κ E f Q k n L M pc st := kk hJ
theorem K_LS (L' : List (Nat × Value)) (st' : List Value) (h1 : L = L') (h2 : st = st') (kk : K κ E f Q k n L' M pc st') : K κ E f Q k n L M pc st := by subst h1; subst h2; exact kk
theorem K_joinW (k' n' : Nat) (L' : List (Nat × Value)) (M' : Wd2) (pc' : Nat) (st' : List Value) (hJ : K κ E f Q k' n' L' M' pc' st') (kk : K κ E f Q k' n' L' M' pc' st' → K κ E f Q k n L M pc st) : K κ E f Q k n L M pc st := kk hJ
/-- the script -/
theorem K_sld {i : Int32} (hin : vp_in i E.2.2.1) (hd : decode f.2.1 pc = .ok (.iaload, 1))
    (kk : K κ E f Q k n L M (pc + 1) (.int (E.2.2.2 i.toNatClampNeg) :: st)) : K κ E f Q k n L M pc (.int i :: .ref 2 :: st) := by
  intro hC H locs ls hP hS hl
  obtain ⟨-, hX, hb, hlt, -⟩ := hC.2.2.2.2.2.2.2.2.1
  exact va_sld hC.1 hC.2.1 hX hlt (fun q => by have : E.1.1 ≤ E.2.1 := q; omega) hS hin hd (kk hC H locs ls hP hS hl)
theorem K_slen (hd : decode f.2.1 pc = .ok (.arraylength, 1))
    (kk : K κ E f Q k n L M (pc + 1) (.int (Int32.ofNat E.2.2.1) :: st)) : K κ E f Q k n L M pc (.ref 2 :: st) := by
  intro hC H locs ls hP hS hl
  obtain ⟨-, hX, hb, hlt, -⟩ := hC.2.2.2.2.2.2.2.2.1
  exact va_slen hC.1 hC.2.1 hX hlt (fun q => by have : E.1.1 ≤ E.2.1 := q; omega) hS hd (kk hC H locs ls hP hS hl)
end JC2
/-- a call that touches one park alone -/
def Sd (E : En2) (Ex : En) (M : Wd2) (Mx M' : Wd) (M2 : Wd2) : Prop := (∀ q, Ar Ex q → Ar2 E q) ∧ (∀ U, Sx2 E U → Sx Ex U) ∧ (∀ H, P2 E M H → va_P Ex.2.1 vwCl (mk Ex Mx) H) ∧
  (E.1.1 + 106 ≤ E.1.2.2.2.1 → ∀ H H1 : Heap, P2 E M H → va_P Ex.2.1 vwCl (mk Ex M') H1 → (∀ q : Nat, q < H.size → ¬ Ar Ex q → H1[q]? = H[q]?) → P2 E M2 H1)
theorem Sd0 {E : En2} {M : Wd2} {M' : Wd} : Sd E (eo E) M M.1 M' (M', M.2) := by
  refine ⟨fun q h => Ar_1 (sd := false) h, fun U h => h.one false, fun H h => h.1, fun ht H H1 h h1 hq => ⟨h1, h.2.kept fun k q hk => hq q.1 (vx_lt h.2 hk) (mk_out hk (Or.inl (Nat.le_refl _)) ?_)⟩⟩
  show E.1.1 + 53 + 53 ≤ E.1.2.2.2.1
  omega
theorem Sd1 {E : En2} {M : Wd2} {M' : Wd} : Sd E (ep E) M M.2 M' (M.1, M') := by
  refine ⟨fun q h => Ar_1 (sd := true) h, fun U h => h.one true, fun H h => h.2, fun ht H H1 h h1 hq => ⟨h.1.kept fun k q hk => hq q.1 (vx_lt h.1 hk) (mk_out hk (Or.inr (Nat.le_refl _)) ?_), h1⟩⟩
  show E.1.1 + 53 ≤ E.1.2.2.2.1
  omega
section JK3
variable {p : Program} {l : Launch} {e : Env} {R : Room} {s : State} {m : MethodId} {args : Array Value} {below : List Frame} {meth : Method} {c : Code} {H : Heap} {locs : List Loc} {k n : Nat} {Q : State → Prop}
theorem krun {E : En2} {Ex : En} {g : MI} {v0 : Option Value} {M M2 : Wd2} {Mx M' : Wd} {mc ms pc : Nat} {ls : Array Slot} {st0 rest : List Value} {a : Array Value} (hSd : Sd E Ex M Mx M' M2) (ht : E.1.1 + 106 ≤ E.1.2.2.2.1) (hP : P2 E M H)
    (hr : vx_Run p l e R s m args below meth c H locs k n mc ms (F0 m pc ls st0) rest (QV Ex g (.inl v0) M' a) (XV Ex (.inl v0) M') (Ar Ex)) (hS : va_S (Ar2 E) s.heap H locs)
    (kk : okB g.2.2.2.1 v0 → ∀ (H1 : Heap) (locs1 : List Loc), P2 E M2 H1 → va_S (Ar2 E) s.heap H1 locs1 → W p l e R s m args below meth c H1 locs1 (k + mc) (n + ms) Q (F0 m (pc + 3) ls ((v0.map (cv Ex)).toList ++ rest))) :
    W p l e R s m args below meth c H locs k n Q (F0 m pc ls st0) := by
  intro T hT X
  rcases hr T hT X with ⟨v, st₀, t, T', L, h0, X', hL, e1, e2, ⟨v2, ho, hoc, hb, hP1, hF⟩, st⟩ | ⟨q, st₀, t, T', L, E', ce, h0, X', hL, e1, e2, ⟨ho, hP1, hF⟩, hce, hcv, hcl, st⟩
  · cases hoc
    cases ho
    obtain ⟨k1, k2, k3⟩ := vx_keep h0 e1 hS (fun q _ h => hSd.1 q h) (fun q h => hSd.1 q h) hL hF
    obtain ⟨t2, a1, b1⟩ := kk hb T'.heap (locs ++ L) (hSd.2.2.2 ht H T'.heap hP (by rw [e1]; exact hP1) k2) k3 T' rfl X'
    exact ⟨t2, st t2 a1, b1⟩
  · cases ho
end JK3
section JC3
variable {κ : Kx} {E : En2} {Ex : En} {f : MI} {Q : State → Prop} {k n : Nat} {L : List (Nat × Value)} {M M2 : Wd2} {Mx M' : Wd} {pc : Nat}
theorem jc_0 {E : En} {M : Wd} : jc E M 0 = .inr (3, [.ref (adr E 1), .ref (adr E 7), .ref (adr E 13), .ref (adr E 44), .ref (adr E 51), .int (M.1 0 5), .int (M.1 0 6)]) := rfl
theorem K_cV {g : MI} {np idx b2 : Nat} {v0 : Option Value} {T : u_T} {N : Nat} {st0 : List Value} (hSd : Sd E Ex M Mx M' M2) (av rest : List Value) (hg : MV g np) (hlink : Cond.methodLink f.1.cls idx g.1 ∈ SWL) (hcon : Con Ex g (.ref 0 :: av) Mx (.inl v0) M') (hcl : vwCl[3]? = some (g.1.cls, T, N)) (hav : cvs Ex (.ref 0 :: av) = cvs2 E (.ref b2 :: av)) (hv : v0.map (cv Ex) = v0.map (cv2 E)) (hn : av.length = np) (hst : st0 = av.reverse ++ .ref b2 :: rest) (hrm : RM f g k n) (hsum : (rest.map fun v => v.category).sum ≤ 8) (hd : decode f.2.1 pc = .ok (.invokevirtual idx, 3))
    (kk : Kk κ E f g Q k n L M2 pc rest (.inl v0)) : K κ E f Q k n L M pc st0 := by
  intro hC H locs ls hP hS hl
  obtain ⟨g1, g2, g3, g4, g5, g6, g7⟩ := hg
  obtain ⟨hx, hbt, hml, hrt, hown, hts, hlk, hR, hSx, hl0, -⟩ := id hC
  obtain ⟨kv, -⟩ := kk hC
  subst hst
  have hPx := hSd.2.2.1 H hP
  have hSx1 := hSd.2.1 _ hSx
  have hb0 : adr Ex 0 = adr2 E b2 := by have h := congrArg List.head? hav; exact Value.ref.inj (Option.some.inj h)
  have hav2 : cvs Ex av = cvs2 E av := congrArg List.tail hav
  have hrun := vx_runV (p := κ.1) (l := κ.2.1) (e := κ.2.2.1) (R := κ.2.2.2.1) (s := κ.2.2.2.2.1) (m := κ.2.2.2.2.2.1) (args := κ.2.2.2.2.2.2.1) (below := κ.2.2.2.2.2.2.2.1) (meth := κ.2.2.2.2.2.2.2.2.1) (c := κ.2.2.2.2.2.2.2.2.2) (H := H) (locs := locs) (cells := k) (slots := n)
    (C := g.1.cls) (b := adr Ex 0) (As := cvs Ex av) (rest := cvs2 E rest) (g := F0 κ.2.2.2.2.2.1 pc ls (cvs2 E (av.reverse ++ .ref b2 :: rest))) (Ts := SWL) (own := f.1.cls) (nL := f.2.2.1) (index := idx) (maxL := g.2.2.1) (bytes := g.2.1) (ret := g.2.2.2.1)
    ⟨hx, hbt, hml, hown, hts⟩ (hcon κ.2.1 hl0) ⟨⟨rfl, rfl, by rw [hR]; exact hrm.1.1, by rw [hR]; exact hrm.1.2, wsf_warm hts (by rw [g1]; exact g2), by rw [← g1]; exact List.mem_cons_self, hts _ g2, hts _ g3, g4, np_of g5, hts _ hlink⟩, hts _ g6, hts _ g7⟩
    ⟨FB_Rl (av := .ref 0 :: av), va_recv hSx1.1 hPx hcl (by rw [mk_get (i := 0) (by decide), jc_0]), fun U hU hW => ⟨rfl, by rw [hU]; exact hPx, hSd.2.1 U (hSx.to hS hU hW)⟩⟩ rfl (by rw [List.length_map]; exact hn) hl.1 (by rw [hav2, hb0]; simp only [cvs2, List.map_append, List.map_reverse, List.map_cons]; rfl) (lv_room (by rw [cvs_sum2]; exact hsum)) hd ⟨by rw [hR]; exact hrm.2.1, by rw [hR]; exact hrm.2.2⟩
  exact krun hSd hSx.2.2.2.2 hP hrun hS (fun hok H1 locs1 hP1 hS1 => by
    have h9 := kv v0 rfl hok hC H1 locs1 ls hP1 hS1 hl
    rw [hv]
    cases v0 <;> exact h9)
theorem K_cS {g : MI} {np idx : Nat} {v0 : Option Value} {st0 : List Value} (hSd : Sd E Ex M Mx M' M2) (av1 av rest : List Value) (hg : MS g np) (hlink : Cond.methodLink f.1.cls idx g.1 ∈ SWL) (hcon : Con Ex g av1 Mx (.inl v0) M') (hn : av.length = np) (hst : st0 = av.reverse ++ rest) (hav : cvs Ex av1 = cvs2 E av) (hv : v0.map (cv Ex) = v0.map (cv2 E)) (hrm : RM f g k n) (hsum : (rest.map fun v => v.category).sum ≤ 8) (hd : decode f.2.1 pc = .ok (.invokestatic idx, 3))
    (kk : Kk κ E f g Q k n L M2 pc rest (.inl v0)) : K κ E f Q k n L M pc st0 := by
  intro hC H locs ls hP hS hl
  obtain ⟨g1, g2, g3, g4, g5, g6⟩ := hg
  obtain ⟨hx, hbt, hml, hrt, hown, hts, hlk, hR, hSx, hl0, -⟩ := id hC
  obtain ⟨kv, -⟩ := kk hC
  subst hst
  have hPx := hSd.2.2.1 H hP
  have hSx1 := hSd.2.1 _ hSx
  have hrun := vx_runS (p := κ.1) (l := κ.2.1) (e := κ.2.2.1) (R := κ.2.2.2.1) (s := κ.2.2.2.2.1) (m := κ.2.2.2.2.2.1) (args := κ.2.2.2.2.2.2.1) (below := κ.2.2.2.2.2.2.2.1) (meth := κ.2.2.2.2.2.2.2.2.1) (c := κ.2.2.2.2.2.2.2.2.2) (H := H) (locs := locs) (cells := k) (slots := n)
    (As := cvs Ex av1) (rest := cvs2 E rest) (g := F0 κ.2.2.2.2.2.1 pc ls (cvs2 E (av.reverse ++ rest))) (Ts := SWL) (own := f.1.cls) (nL := f.2.2.1) (index := idx) (maxL := g.2.2.1) (bytes := g.2.1) (ret := g.2.2.2.1)
    ⟨hx, hbt, hml, hown, hts⟩ (hcon κ.2.1 hl0) ⟨⟨rfl, rfl, by rw [hR]; exact hrm.1.1, by rw [hR]; exact hrm.1.2, wsf_warm hts (by rw [g1]; exact g2), by rw [← g1]; exact List.mem_cons_self, hts _ g2, hts _ g3, g4, np_of g5, hts _ hlink⟩, hts _ g6⟩
    ⟨FB_Rl (av := av1), fun U hU hW => ⟨rfl, by rw [hU]; exact hPx, hSd.2.1 U (hSx.to hS hU hW)⟩⟩ rfl (by rw [hav, List.length_map]; exact hn) hl.1 (by rw [hav]; simp only [cvs2, List.map_append, List.map_reverse]) (lv_room (by rw [cvs_sum2]; exact hsum)) hd ⟨by rw [hR]; exact hrm.2.1, by rw [hR]; exact hrm.2.2⟩
  exact krun hSd hSx.2.2.2.2 hP hrun hS (fun hok H1 locs1 hP1 hS1 => by
    have h9 := kv v0 rfl hok hC H1 locs1 ls hP1 hS1 hl
    rw [hv]
    cases v0 <;> exact h9)
theorem K_cSX {g : MI} {np idx : Nat} {v0 : Option Value} {st0 : List Value} (hSd : Sd E Ex M Mx M' M2) (av1 av rest : List Value) (hg : MSH g np) (hlink : Cond.methodLink f.1.cls idx g.1 ∈ SWL) (hcon : Con Ex g av1 Mx (.inl v0) M') (hn : av.length = np) (hst : st0 = av.reverse ++ rest) (hav : cvs Ex av1 = cvs2 E av) (hv : v0.map (cv Ex) = v0.map (cv2 E)) (hrm : RM f g k n) (hsum : (rest.map fun v => v.category).sum ≤ 8) (hd : decode f.2.1 pc = .ok (.invokestatic idx, 3))
    (kk : Kk κ E f g Q k n L M2 pc rest (.inl v0)) : K κ E f Q k n L M pc st0 := by
  intro hC H locs ls hP hS hl
  obtain ⟨g1, g2, g3, g4, g5, g6⟩ := hg
  obtain ⟨hx, hbt, hml, hrt, hown, hts, hlk, hR, hSx, hl0, -⟩ := id hC
  obtain ⟨kv, -⟩ := kk hC
  subst hst
  have hPx := hSd.2.2.1 H hP
  have hSx1 := hSd.2.1 _ hSx
  have hrun := vx_runSX (p := κ.1) (l := κ.2.1) (e := κ.2.2.1) (R := κ.2.2.2.1) (s := κ.2.2.2.2.1) (m := κ.2.2.2.2.2.1) (args := κ.2.2.2.2.2.2.1) (below := κ.2.2.2.2.2.2.2.1) (meth := κ.2.2.2.2.2.2.2.2.1) (c := κ.2.2.2.2.2.2.2.2.2) (H := H) (locs := locs) (cells := k) (slots := n)
    (As := cvs Ex av1) (rest := cvs2 E rest) (g := F0 κ.2.2.2.2.2.1 pc ls (cvs2 E (av.reverse ++ rest))) (Ts := SWL) (own := f.1.cls) (nL := f.2.2.1) (index := idx) (maxL := g.2.2.1) (bytes := g.2.1) (ret := g.2.2.2.1) (hh := g.2.2.2.2.2.2.2.2)
    ⟨hx, hbt, hml, hown, hts⟩ (hcon κ.2.1 hl0) ⟨⟨rfl, rfl, by rw [hR]; exact hrm.1.1, by rw [hR]; exact hrm.1.2, wsf_warm hts (by rw [g1]; exact g2), by rw [← g1]; exact List.mem_cons_self⟩, hts _ g2, hts _ g3, g4, np_of g5, hts _ hlink, hts _ g6⟩
    ⟨FB_Rl (av := av1), fun U hU hW => ⟨rfl, by rw [hU]; exact hPx, hSd.2.1 U (hSx.to hS hU hW)⟩⟩ rfl (by rw [hav, List.length_map]; exact hn) hl.1 (by rw [hav]; simp only [cvs2, List.map_append, List.map_reverse]) (lv_room (by rw [cvs_sum2]; exact hsum)) hd ⟨by rw [hR]; exact hrm.2.1, by rw [hR]; exact hrm.2.2⟩
  exact krun hSd hSx.2.2.2.2 hP hrun hS (fun hok H1 locs1 hP1 hS1 => by
    have h9 := kv v0 rfl hok hC H1 locs1 ls hP1 hS1 hl
    rw [hv]
    cases v0 <;> exact h9)
theorem K_callV0 {g : MI} {np idx : Nat} {v0 : Option Value} {T : u_T} {N : Nat} {st0 : List Value} (av rest : List Value) (hg : MV g np) (hlink : Cond.methodLink f.1.cls idx g.1 ∈ SWL) (hcon : Con (eo E) g (.ref 0 :: av) M.1 (.inl v0) M') (hcl : vwCl[3]? = some (g.1.cls, T, N)) (hav : cvs (eo E) (.ref 0 :: av) = cvs2 E (.ref 0 :: av)) (hv : v0.map (cv (eo E)) = v0.map (cv2 E)) (hn : av.length = np) (hst : st0 = av.reverse ++ .ref 0 :: rest) (hrm : RM f g k n) (hsum : (rest.map fun v => v.category).sum ≤ 8) (hd : decode f.2.1 pc = .ok (.invokevirtual idx, 3))
    (kk : Kk κ E f g Q k n L (M', M.2) pc rest (.inl v0)) : K κ E f Q k n L M pc st0 := K_cV Sd0 av rest hg hlink hcon hcl hav hv hn hst hrm hsum hd kk
theorem K_callS0 {g : MI} {np idx : Nat} {v0 : Option Value} {st0 : List Value} (av1 av rest : List Value) (hg : MS g np) (hlink : Cond.methodLink f.1.cls idx g.1 ∈ SWL) (hcon : Con (eo E) g av1 M.1 (.inl v0) M') (hn : av.length = np) (hst : st0 = av.reverse ++ rest) (hav : cvs (eo E) av1 = cvs2 E av) (hv : v0.map (cv (eo E)) = v0.map (cv2 E)) (hrm : RM f g k n) (hsum : (rest.map fun v => v.category).sum ≤ 8) (hd : decode f.2.1 pc = .ok (.invokestatic idx, 3))
    (kk : Kk κ E f g Q k n L (M', M.2) pc rest (.inl v0)) : K κ E f Q k n L M pc st0 := K_cS Sd0 av1 av rest hg hlink hcon hn hst hav hv hrm hsum hd kk
theorem K_callSX0 {g : MI} {np idx : Nat} {v0 : Option Value} {st0 : List Value} (av1 av rest : List Value) (hg : MSH g np) (hlink : Cond.methodLink f.1.cls idx g.1 ∈ SWL) (hcon : Con (eo E) g av1 M.1 (.inl v0) M') (hn : av.length = np) (hst : st0 = av.reverse ++ rest) (hav : cvs (eo E) av1 = cvs2 E av) (hv : v0.map (cv (eo E)) = v0.map (cv2 E)) (hrm : RM f g k n) (hsum : (rest.map fun v => v.category).sum ≤ 8) (hd : decode f.2.1 pc = .ok (.invokestatic idx, 3))
    (kk : Kk κ E f g Q k n L (M', M.2) pc rest (.inl v0)) : K κ E f Q k n L M pc st0 := K_cSX Sd0 av1 av rest hg hlink hcon hn hst hav hv hrm hsum hd kk
theorem K_callV1 {g : MI} {np idx : Nat} {v0 : Option Value} {T : u_T} {N : Nat} {st0 : List Value} (av rest : List Value) (hg : MV g np) (hlink : Cond.methodLink f.1.cls idx g.1 ∈ SWL) (hcon : Con (ep E) g (.ref 0 :: av) M.2 (.inl v0) M') (hcl : vwCl[3]? = some (g.1.cls, T, N)) (hav : cvs (ep E) (.ref 0 :: av) = cvs2 E (.ref 1 :: av)) (hv : v0.map (cv (ep E)) = v0.map (cv2 E)) (hn : av.length = np) (hst : st0 = av.reverse ++ .ref 1 :: rest) (hrm : RM f g k n) (hsum : (rest.map fun v => v.category).sum ≤ 8) (hd : decode f.2.1 pc = .ok (.invokevirtual idx, 3))
    (kk : Kk κ E f g Q k n L (M.1, M') pc rest (.inl v0)) : K κ E f Q k n L M pc st0 := K_cV Sd1 av rest hg hlink hcon hcl hav hv hn hst hrm hsum hd kk
theorem K_callS1 {g : MI} {np idx : Nat} {v0 : Option Value} {st0 : List Value} (av1 av rest : List Value) (hg : MS g np) (hlink : Cond.methodLink f.1.cls idx g.1 ∈ SWL) (hcon : Con (ep E) g av1 M.2 (.inl v0) M') (hn : av.length = np) (hst : st0 = av.reverse ++ rest) (hav : cvs (ep E) av1 = cvs2 E av) (hv : v0.map (cv (ep E)) = v0.map (cv2 E)) (hrm : RM f g k n) (hsum : (rest.map fun v => v.category).sum ≤ 8) (hd : decode f.2.1 pc = .ok (.invokestatic idx, 3))
    (kk : Kk κ E f g Q k n L (M.1, M') pc rest (.inl v0)) : K κ E f Q k n L M pc st0 := K_cS Sd1 av1 av rest hg hlink hcon hn hst hav hv hrm hsum hd kk
theorem K_callSX1 {g : MI} {np idx : Nat} {v0 : Option Value} {st0 : List Value} (av1 av rest : List Value) (hg : MSH g np) (hlink : Cond.methodLink f.1.cls idx g.1 ∈ SWL) (hcon : Con (ep E) g av1 M.2 (.inl v0) M') (hn : av.length = np) (hst : st0 = av.reverse ++ rest) (hav : cvs (ep E) av1 = cvs2 E av) (hv : v0.map (cv (ep E)) = v0.map (cv2 E)) (hrm : RM f g k n) (hsum : (rest.map fun v => v.category).sum ≤ 8) (hd : decode f.2.1 pc = .ok (.invokestatic idx, 3))
    (kk : Kk κ E f g Q k n L (M.1, M') pc rest (.inl v0)) : K κ E f Q k n L M pc st0 := K_cSX Sd1 av1 av rest hg hlink hcon hn hst hav hv hrm hsum hd kk
end JC3

